section
-- ===== PART A: goes FIRST, ahead of the names: the tables' words, and 'selects' of the private methods out of them =====
/-- a private method of a class that the tables say can be made, by its rows of tables_1 -/
def lw_okq (q : MethodName × Nat) : Prop := (q.1.cls ≠ "java/lang/invoke/MethodHandle" ∧ q.1.cls ≠ "java/lang/invoke/VarHandle") ∧ Cond.instantiable q.1.cls q.2 ∈ tables_1 ∧ Cond.privateMethod q.1 ∈ tables_1 ∧ Cond.instanceMethod q.1 ∈ tables_1
theorem lw_p0 : lw_okq (⟨"CoverRounds", "goBackToFirst", "()V"⟩, 4) := ⟨⟨by decide +kernel, by decide +kernel⟩, List.mem_of_getElem? (i := 12) (by decide +kernel), List.mem_of_getElem? (i := 188) (by decide +kernel), List.mem_of_getElem? (i := 189) (by decide +kernel)⟩
theorem lw_p1 : lw_okq (⟨"CoverRounds$Search", "begin", "(LCoverRounds$Net;)V"⟩, 13) := ⟨⟨by decide +kernel, by decide +kernel⟩, List.mem_of_getElem? (i := 62) (by decide +kernel), List.mem_of_getElem? (i := 223) (by decide +kernel), List.mem_of_getElem? (i := 224) (by decide +kernel)⟩
theorem lw_p2 : lw_okq (⟨"CoverRounds$Search", "stepBack", "()V"⟩, 13) := ⟨⟨by decide +kernel, by decide +kernel⟩, List.mem_of_getElem? (i := 62) (by decide +kernel), List.mem_of_getElem? (i := 248) (by decide +kernel), List.mem_of_getElem? (i := 249) (by decide +kernel)⟩
theorem lw_p3 : lw_okq (⟨"CoverRounds$Search", "addToLeast", "(J)V"⟩, 13) := ⟨⟨by decide +kernel, by decide +kernel⟩, List.mem_of_getElem? (i := 62) (by decide +kernel), List.mem_of_getElem? (i := 256) (by decide +kernel), List.mem_of_getElem? (i := 257) (by decide +kernel)⟩
theorem lw_p4 : lw_okq (⟨"CoverRounds$Search", "endingOf", "(I)I"⟩, 13) := ⟨⟨by decide +kernel, by decide +kernel⟩, List.mem_of_getElem? (i := 62) (by decide +kernel), List.mem_of_getElem? (i := 268) (by decide +kernel), List.mem_of_getElem? (i := 269) (by decide +kernel)⟩
theorem lw_p5 : lw_okq (⟨"CoverRounds$Search", "keepBorn", "(I)V"⟩, 13) := ⟨⟨by decide +kernel, by decide +kernel⟩, List.mem_of_getElem? (i := 62) (by decide +kernel), List.mem_of_getElem? (i := 272) (by decide +kernel), List.mem_of_getElem? (i := 273) (by decide +kernel)⟩
theorem lw_p6 : lw_okq (⟨"CoverRounds$Search", "findRow", "()V"⟩, 13) := ⟨⟨by decide +kernel, by decide +kernel⟩, List.mem_of_getElem? (i := 62) (by decide +kernel), List.mem_of_getElem? (i := 276) (by decide +kernel), List.mem_of_getElem? (i := 277) (by decide +kernel)⟩
theorem lw_p7 : lw_okq (⟨"CoverRounds$Tree", "begin", "(LCoverRounds$Net;)V"⟩, 9) := ⟨⟨by decide +kernel, by decide +kernel⟩, List.mem_of_getElem? (i := 128) (by decide +kernel), List.mem_of_getElem? (i := 301) (by decide +kernel), List.mem_of_getElem? (i := 302) (by decide +kernel)⟩
theorem lw_p8 : lw_okq (⟨"CoverRounds$Tree", "hasTwinAbove", "(I)Z"⟩, 9) := ⟨⟨by decide +kernel, by decide +kernel⟩, List.mem_of_getElem? (i := 128) (by decide +kernel), List.mem_of_getElem? (i := 306) (by decide +kernel), List.mem_of_getElem? (i := 307) (by decide +kernel)⟩
theorem lw_p9 : lw_okq (⟨"CoverRounds$Tree", "isAtLeast", "(II)Z"⟩, 9) := ⟨⟨by decide +kernel, by decide +kernel⟩, List.mem_of_getElem? (i := 128) (by decide +kernel), List.mem_of_getElem? (i := 310) (by decide +kernel), List.mem_of_getElem? (i := 311) (by decide +kernel)⟩
theorem lw_p10 : lw_okq (⟨"CoverRounds$Tree", "addChildren", "(LCoverRounds$Net;I)Z"⟩, 9) := ⟨⟨by decide +kernel, by decide +kernel⟩, List.mem_of_getElem? (i := 128) (by decide +kernel), List.mem_of_getElem? (i := 314) (by decide +kernel), List.mem_of_getElem? (i := 315) (by decide +kernel)⟩
theorem lw_p11 : lw_okq (⟨"CoverRounds$Tree", "addChild", "(LCoverRounds$Net;II)V"⟩, 9) := ⟨⟨by decide +kernel, by decide +kernel⟩, List.mem_of_getElem? (i := 128) (by decide +kernel), List.mem_of_getElem? (i := 322) (by decide +kernel), List.mem_of_getElem? (i := 323) (by decide +kernel)⟩
theorem lw_p12 : lw_okq (⟨"CoverRounds$Tree", "accelerate", "(I)V"⟩, 9) := ⟨⟨by decide +kernel, by decide +kernel⟩, List.mem_of_getElem? (i := 128) (by decide +kernel), List.mem_of_getElem? (i := 331) (by decide +kernel), List.mem_of_getElem? (i := 332) (by decide +kernel)⟩
theorem lw_p13 : lw_okq (⟨"CoverRounds$Tree", "raise", "(II)Z"⟩, 9) := ⟨⟨by decide +kernel, by decide +kernel⟩, List.mem_of_getElem? (i := 128) (by decide +kernel), List.mem_of_getElem? (i := 335) (by decide +kernel), List.mem_of_getElem? (i := 336) (by decide +kernel)⟩
theorem lw_p14 : lw_okq (⟨"CoverRounds$Tree", "countAt", "(II)I"⟩, 9) := ⟨⟨by decide +kernel, by decide +kernel⟩, List.mem_of_getElem? (i := 128) (by decide +kernel), List.mem_of_getElem? (i := 339) (by decide +kernel), List.mem_of_getElem? (i := 340) (by decide +kernel)⟩
theorem lw_p15 : lw_okq (⟨"CoverRounds$Tree", "gatherLimits", "()V"⟩, 9) := ⟨⟨by decide +kernel, by decide +kernel⟩, List.mem_of_getElem? (i := 128) (by decide +kernel), List.mem_of_getElem? (i := 344) (by decide +kernel), List.mem_of_getElem? (i := 345) (by decide +kernel)⟩
def lw_privs_1 : List (MethodName × Nat) := [(⟨"CoverRounds", "goBackToFirst", "()V"⟩, 4), (⟨"CoverRounds$Search", "begin", "(LCoverRounds$Net;)V"⟩, 13), (⟨"CoverRounds$Search", "stepBack", "()V"⟩, 13), (⟨"CoverRounds$Search", "addToLeast", "(J)V"⟩, 13), (⟨"CoverRounds$Search", "endingOf", "(I)I"⟩, 13), (⟨"CoverRounds$Search", "keepBorn", "(I)V"⟩, 13), (⟨"CoverRounds$Search", "findRow", "()V"⟩, 13), (⟨"CoverRounds$Tree", "begin", "(LCoverRounds$Net;)V"⟩, 9), (⟨"CoverRounds$Tree", "hasTwinAbove", "(I)Z"⟩, 9), (⟨"CoverRounds$Tree", "isAtLeast", "(II)Z"⟩, 9), (⟨"CoverRounds$Tree", "addChildren", "(LCoverRounds$Net;I)Z"⟩, 9), (⟨"CoverRounds$Tree", "addChild", "(LCoverRounds$Net;II)V"⟩, 9), (⟨"CoverRounds$Tree", "accelerate", "(I)V"⟩, 9), (⟨"CoverRounds$Tree", "raise", "(II)Z"⟩, 9), (⟨"CoverRounds$Tree", "countAt", "(II)I"⟩, 9), (⟨"CoverRounds$Tree", "gatherLimits", "()V"⟩, 9)]
theorem lw_r1 : ∀ q ∈ lw_privs_1, lw_okq q := List.forall_mem_cons.mpr ⟨lw_p0, List.forall_mem_cons.mpr ⟨lw_p1, List.forall_mem_cons.mpr ⟨lw_p2, List.forall_mem_cons.mpr ⟨lw_p3, List.forall_mem_cons.mpr ⟨lw_p4, List.forall_mem_cons.mpr ⟨lw_p5, List.forall_mem_cons.mpr ⟨lw_p6, List.forall_mem_cons.mpr ⟨lw_p7, List.forall_mem_cons.mpr ⟨lw_p8, List.forall_mem_cons.mpr ⟨lw_p9, List.forall_mem_cons.mpr ⟨lw_p10, List.forall_mem_cons.mpr ⟨lw_p11, List.forall_mem_cons.mpr ⟨lw_p12, List.forall_mem_cons.mpr ⟨lw_p13, List.forall_mem_cons.mpr ⟨lw_p14, List.forall_mem_cons.mpr ⟨lw_p15, fun _ h => absurd h List.not_mem_nil⟩⟩⟩⟩⟩⟩⟩⟩⟩⟩⟩⟩⟩⟩⟩⟩
theorem lw_p16 : lw_okq (⟨"CoverRounds$Tree", "hasLimitOver", "(I)Z"⟩, 9) := ⟨⟨by decide +kernel, by decide +kernel⟩, List.mem_of_getElem? (i := 128) (by decide +kernel), List.mem_of_getElem? (i := 348) (by decide +kernel), List.mem_of_getElem? (i := 349) (by decide +kernel)⟩
theorem lw_p17 : lw_okq (⟨"CoverRounds$Tree", "dropLimitsUnder", "(I)V"⟩, 9) := ⟨⟨by decide +kernel, by decide +kernel⟩, List.mem_of_getElem? (i := 128) (by decide +kernel), List.mem_of_getElem? (i := 352) (by decide +kernel), List.mem_of_getElem? (i := 353) (by decide +kernel)⟩
theorem lw_p18 : lw_okq (⟨"CoverRounds$Tree", "insertLimit", "(I)V"⟩, 9) := ⟨⟨by decide +kernel, by decide +kernel⟩, List.mem_of_getElem? (i := 128) (by decide +kernel), List.mem_of_getElem? (i := 356) (by decide +kernel), List.mem_of_getElem? (i := 357) (by decide +kernel)⟩
theorem lw_p19 : lw_okq (⟨"CoverRounds$Tree", "comesBefore", "(II)Z"⟩, 9) := ⟨⟨by decide +kernel, by decide +kernel⟩, List.mem_of_getElem? (i := 128) (by decide +kernel), List.mem_of_getElem? (i := 360) (by decide +kernel), List.mem_of_getElem? (i := 361) (by decide +kernel)⟩
theorem lw_p20 : lw_okq (⟨"CoverRounds$Tree", "limitReaches", "(I[I)Z"⟩, 9) := ⟨⟨by decide +kernel, by decide +kernel⟩, List.mem_of_getElem? (i := 128) (by decide +kernel), List.mem_of_getElem? (i := 408) (by decide +kernel), List.mem_of_getElem? (i := 409) (by decide +kernel)⟩
theorem lw_p21 : lw_okq (⟨"CoverRoundsModel", "begin", "()V"⟩, 27) := ⟨⟨by decide +kernel, by decide +kernel⟩, List.mem_of_getElem? (i := 422) (by decide +kernel), List.mem_of_getElem? (i := 518) (by decide +kernel), List.mem_of_getElem? (i := 519) (by decide +kernel)⟩
theorem lw_p22 : lw_okq (⟨"CoverRoundsModel", "isTransition", "(I)Z"⟩, 27) := ⟨⟨by decide +kernel, by decide +kernel⟩, List.mem_of_getElem? (i := 422) (by decide +kernel), List.mem_of_getElem? (i := 530) (by decide +kernel), List.mem_of_getElem? (i := 531) (by decide +kernel)⟩
theorem lw_p23 : lw_okq (⟨"CoverRoundsModel", "isPlace", "(I)Z"⟩, 27) := ⟨⟨by decide +kernel, by decide +kernel⟩, List.mem_of_getElem? (i := 422) (by decide +kernel), List.mem_of_getElem? (i := 534) (by decide +kernel), List.mem_of_getElem? (i := 535) (by decide +kernel)⟩
theorem lw_p24 : lw_okq (⟨"CoverRoundsModel", "takeIn", "()V"⟩, 27) := ⟨⟨by decide +kernel, by decide +kernel⟩, List.mem_of_getElem? (i := 422) (by decide +kernel), List.mem_of_getElem? (i := 546) (by decide +kernel), List.mem_of_getElem? (i := 547) (by decide +kernel)⟩
theorem lw_p25 : lw_okq (⟨"CoverRoundsModel", "isFirstIn", "()Z"⟩, 27) := ⟨⟨by decide +kernel, by decide +kernel⟩, List.mem_of_getElem? (i := 422) (by decide +kernel), List.mem_of_getElem? (i := 553) (by decide +kernel), List.mem_of_getElem? (i := 554) (by decide +kernel)⟩
theorem lw_p26 : lw_okq (⟨"CoverRoundsModel", "isSame", "()Z"⟩, 27) := ⟨⟨by decide +kernel, by decide +kernel⟩, List.mem_of_getElem? (i := 422) (by decide +kernel), List.mem_of_getElem? (i := 557) (by decide +kernel), List.mem_of_getElem? (i := 558) (by decide +kernel)⟩
theorem lw_p27 : lw_okq (⟨"CoverRoundsModel", "step", "()V"⟩, 27) := ⟨⟨by decide +kernel, by decide +kernel⟩, List.mem_of_getElem? (i := 422) (by decide +kernel), List.mem_of_getElem? (i := 561) (by decide +kernel), List.mem_of_getElem? (i := 562) (by decide +kernel)⟩
theorem lw_p28 : lw_okq (⟨"CoverRoundsModel", "tellRow", "()V"⟩, 27) := ⟨⟨by decide +kernel, by decide +kernel⟩, List.mem_of_getElem? (i := 422) (by decide +kernel), List.mem_of_getElem? (i := 565) (by decide +kernel), List.mem_of_getElem? (i := 566) (by decide +kernel)⟩
theorem lw_p29 : lw_okq (⟨"CoverRoundsModel", "leads", "([III)Z"⟩, 27) := ⟨⟨by decide +kernel, by decide +kernel⟩, List.mem_of_getElem? (i := 422) (by decide +kernel), List.mem_of_getElem? (i := 569) (by decide +kernel), List.mem_of_getElem? (i := 570) (by decide +kernel)⟩
theorem lw_p30 : lw_okq (⟨"CoverRoundsModel", "canFire", "([III)Z"⟩, 27) := ⟨⟨by decide +kernel, by decide +kernel⟩, List.mem_of_getElem? (i := 422) (by decide +kernel), List.mem_of_getElem? (i := 573) (by decide +kernel), List.mem_of_getElem? (i := 574) (by decide +kernel)⟩
theorem lw_p31 : lw_okq (⟨"CoverRoundsModel", "isInRound", "([II)Z"⟩, 27) := ⟨⟨by decide +kernel, by decide +kernel⟩, List.mem_of_getElem? (i := 422) (by decide +kernel), List.mem_of_getElem? (i := 577) (by decide +kernel), List.mem_of_getElem? (i := 578) (by decide +kernel)⟩
def lw_privs_2 : List (MethodName × Nat) := [(⟨"CoverRounds$Tree", "hasLimitOver", "(I)Z"⟩, 9), (⟨"CoverRounds$Tree", "dropLimitsUnder", "(I)V"⟩, 9), (⟨"CoverRounds$Tree", "insertLimit", "(I)V"⟩, 9), (⟨"CoverRounds$Tree", "comesBefore", "(II)Z"⟩, 9), (⟨"CoverRounds$Tree", "limitReaches", "(I[I)Z"⟩, 9), (⟨"CoverRoundsModel", "begin", "()V"⟩, 27), (⟨"CoverRoundsModel", "isTransition", "(I)Z"⟩, 27), (⟨"CoverRoundsModel", "isPlace", "(I)Z"⟩, 27), (⟨"CoverRoundsModel", "takeIn", "()V"⟩, 27), (⟨"CoverRoundsModel", "isFirstIn", "()Z"⟩, 27), (⟨"CoverRoundsModel", "isSame", "()Z"⟩, 27), (⟨"CoverRoundsModel", "step", "()V"⟩, 27), (⟨"CoverRoundsModel", "tellRow", "()V"⟩, 27), (⟨"CoverRoundsModel", "leads", "([III)Z"⟩, 27), (⟨"CoverRoundsModel", "canFire", "([III)Z"⟩, 27), (⟨"CoverRoundsModel", "isInRound", "([II)Z"⟩, 27)]
theorem lw_r2 : ∀ q ∈ lw_privs_2, lw_okq q := List.forall_mem_cons.mpr ⟨lw_p16, List.forall_mem_cons.mpr ⟨lw_p17, List.forall_mem_cons.mpr ⟨lw_p18, List.forall_mem_cons.mpr ⟨lw_p19, List.forall_mem_cons.mpr ⟨lw_p20, List.forall_mem_cons.mpr ⟨lw_p21, List.forall_mem_cons.mpr ⟨lw_p22, List.forall_mem_cons.mpr ⟨lw_p23, List.forall_mem_cons.mpr ⟨lw_p24, List.forall_mem_cons.mpr ⟨lw_p25, List.forall_mem_cons.mpr ⟨lw_p26, List.forall_mem_cons.mpr ⟨lw_p27, List.forall_mem_cons.mpr ⟨lw_p28, List.forall_mem_cons.mpr ⟨lw_p29, List.forall_mem_cons.mpr ⟨lw_p30, List.forall_mem_cons.mpr ⟨lw_p31, fun _ h => absurd h List.not_mem_nil⟩⟩⟩⟩⟩⟩⟩⟩⟩⟩⟩⟩⟩⟩⟩⟩
theorem lw_p32 : lw_okq (⟨"CoverRoundsModel", "isOld", "(I)Z"⟩, 27) := ⟨⟨by decide +kernel, by decide +kernel⟩, List.mem_of_getElem? (i := 422) (by decide +kernel), List.mem_of_getElem? (i := 597) (by decide +kernel), List.mem_of_getElem? (i := 598) (by decide +kernel)⟩
theorem lw_p33 : lw_okq (⟨"CoverRoundsModel", "accelerate", "(I)V"⟩, 27) := ⟨⟨by decide +kernel, by decide +kernel⟩, List.mem_of_getElem? (i := 422) (by decide +kernel), List.mem_of_getElem? (i := 602) (by decide +kernel), List.mem_of_getElem? (i := 603) (by decide +kernel)⟩
theorem lw_p34 : lw_okq (⟨"CoverRoundsModel", "tellTree", "()V"⟩, 27) := ⟨⟨by decide +kernel, by decide +kernel⟩, List.mem_of_getElem? (i := 422) (by decide +kernel), List.mem_of_getElem? (i := 606) (by decide +kernel), List.mem_of_getElem? (i := 607) (by decide +kernel)⟩
theorem lw_p35 : lw_okq (⟨"CoverRoundsModel", "isBefore", "(II)Z"⟩, 27) := ⟨⟨by decide +kernel, by decide +kernel⟩, List.mem_of_getElem? (i := 422) (by decide +kernel), List.mem_of_getElem? (i := 610) (by decide +kernel), List.mem_of_getElem? (i := 611) (by decide +kernel)⟩
theorem lw_p36 : lw_okq (⟨"CoverRoundsModel", "isGrownPlace", "(I)Z"⟩, 27) := ⟨⟨by decide +kernel, by decide +kernel⟩, List.mem_of_getElem? (i := 422) (by decide +kernel), List.mem_of_getElem? (i := 618) (by decide +kernel), List.mem_of_getElem? (i := 619) (by decide +kernel)⟩
def lw_privs_3 : List (MethodName × Nat) := [(⟨"CoverRoundsModel", "isOld", "(I)Z"⟩, 27), (⟨"CoverRoundsModel", "accelerate", "(I)V"⟩, 27), (⟨"CoverRoundsModel", "tellTree", "()V"⟩, 27), (⟨"CoverRoundsModel", "isBefore", "(II)Z"⟩, 27), (⟨"CoverRoundsModel", "isGrownPlace", "(I)Z"⟩, 27)]
theorem lw_r3 : ∀ q ∈ lw_privs_3, lw_okq q := List.forall_mem_cons.mpr ⟨lw_p32, List.forall_mem_cons.mpr ⟨lw_p33, List.forall_mem_cons.mpr ⟨lw_p34, List.forall_mem_cons.mpr ⟨lw_p35, List.forall_mem_cons.mpr ⟨lw_p36, fun _ h => absurd h List.not_mem_nil⟩⟩⟩⟩⟩
def lw_privs : List (MethodName × Nat) := lw_privs_1 ++ (lw_privs_2 ++ (lw_privs_3))
def lw_tbl : List Cond := k2_sels lw_privs ++ tables_1
theorem lw_privs_ok : ∀ q ∈ lw_privs, lw_okq q := by
  show ∀ q ∈ lw_privs_1 ++ (lw_privs_2 ++ (lw_privs_3)), lw_okq q
  exact List.forall_mem_append.mpr ⟨lw_r1, List.forall_mem_append.mpr ⟨lw_r2, lw_r3⟩⟩
-- ===== end of PART A; then your names; then what follows =====
end
section
/-! ===== BEGIN words of one list among another's, by their places ===== -/
theorem goodIn_r {big : List Cond} (ws : List Cond) (ps : List Nat) (hp : ws = ps.filterMap (fun i => big[i]?)) (h : ws.all goodWord = true) : GoodIn big ws := by
  intro w hw
  have h1 := List.all_eq_true.mp h w hw
  rw [hp] at hw
  obtain ⟨i, -, hi⟩ := List.mem_filterMap.mp hw
  have hm : w ∈ big := by first | exact List.mem_of_getElem? hi | exact List.getElem?_mem hi
  exact ⟨hm, good_of_word h1⟩
theorem goodIn_app {big a b : List Cond} (ha : GoodIn big a) (hb : GoodIn big b) : GoodIn big (a ++ b) := fun w h => (List.mem_append.mp h).elim (ha w) (hb w)
theorem goodIn_ca {big a b : List Cond} {c : Cond} (ha : GoodIn big (c :: a)) (hb : GoodIn big b) : GoodIn big (c :: (a ++ b)) := fun w h => (List.mem_cons.mp h).elim (fun e => ha w (List.mem_cons.mpr (Or.inl e))) (fun h => (List.mem_append.mp h).elim (fun h => ha w (List.mem_cons.mpr (Or.inr h))) (hb w))
theorem goodIn_sub {big ws : List Cond} (hm : ∀ w ∈ ws, w ∈ big) (h : ws.all goodWord = true) : GoodIn big ws := fun w hw => ⟨hm w hw, good_of_word (List.all_eq_true.mp h w hw)⟩
/-! ===== END ===== -/

/-! ===== BEGIN printed: names, fields, word lists, decode rows ===== -/
def RX0 : String := "CoverRounds$Net"
def TX0 : u_T := fun k => match k with
  | 0 => ("CoverRounds$Net", "places", "I", false)
  | 1 => ("CoverRounds$Net", "transitions", "I", false)
  | 2 => ("CoverRounds$Net", "first", "[I", true)
  | 3 => ("CoverRounds$Net", "wanted", "[I", true)
  | 4 => ("CoverRounds$Net", "takes", "[[I", true)
  | _ => ("CoverRounds$Net", "gives", "[[I", true)
def tyX0 : Nat → FieldType := fun k => match k with
  | 0 => .int
  | 1 => .int
  | 2 => .array .int
  | 3 => .array .int
  | 4 => .array (.array .int)
  | _ => .array (.array .int)
abbrev wsX00 : List Cond := u_ws RX0 TX0 6
theorem nmX0 : ∀ a, a < 6 → ∀ b, b < 6 → a ≠ b → (TX0 a).2.1 ≠ (TX0 b).2.1 := by decide +kernel
theorem tyX0_ok : ∀ k, k < 6 → parseFieldDescriptor (TX0 k).2.2.1 = some (tyX0 k) := by decide +kernel
abbrev cX0_init : ByteArray := prog_2_method_1_code
def yX0_init : MethodName := ⟨RX0, "<init>", "()V"⟩
abbrev cX0_hasPlace : ByteArray := prog_2_method_2_code
def yX0_hasPlace : MethodName := ⟨RX0, "hasPlace", "(I)Z"⟩
abbrev cX0_hasTransition : ByteArray := prog_2_method_3_code
def yX0_hasTransition : MethodName := ⟨RX0, "hasTransition", "(I)Z"⟩
abbrev cX0_canFire : ByteArray := prog_2_method_4_code
def yX0_canFire : MethodName := ⟨RX0, "canFire", "(I[II)Z"⟩
abbrev cX0_move : ByteArray := prog_2_method_5_code
def yX0_move : MethodName := ⟨RX0, "move", "(I[II)V"⟩
def RX1 : String := "CoverRounds$Packed"
def TX1 : u_T := fun k => match k with
  | _ => ("", "", "", false)
def tyX1 : Nat → FieldType := fun k => match k with
  | _ => .int
abbrev wsX10 : List Cond := u_ws RX1 TX1 0
theorem nmX1 : ∀ a, a < 0 → ∀ b, b < 0 → a ≠ b → (TX1 a).2.1 ≠ (TX1 b).2.1 := by decide +kernel
theorem tyX1_ok : ∀ k, k < 0 → parseFieldDescriptor (TX1 k).2.2.1 = some (tyX1 k) := by decide +kernel
abbrev cX1_of : ByteArray := prog_3_method_2_code
def yX1_of : MethodName := ⟨RX1, "of", "([I)J"⟩
abbrev cX1_isAtLeast : ByteArray := prog_3_method_3_code
def yX1_isAtLeast : MethodName := ⟨RX1, "isAtLeast", "(JJ)Z"⟩
abbrev cX1_lessened : ByteArray := prog_3_method_4_code
def yX1_lessened : MethodName := ⟨RX1, "lessened", "(JJ)J"⟩
def RX2 : String := "CoverRounds$Pile"
def TX2 : u_T := fun k => match k with
  | 0 => ("CoverRounds$Pile", "rows", "[J", false)
  | _ => ("CoverRounds$Pile", "size", "I", false)
def tyX2 : Nat → FieldType := fun k => match k with
  | 0 => .array .long
  | _ => .int
abbrev wsX20 : List Cond := u_ws RX2 TX2 2
theorem nmX2 : ∀ a, a < 2 → ∀ b, b < 2 → a ≠ b → (TX2 a).2.1 ≠ (TX2 b).2.1 := by decide +kernel
theorem tyX2_ok : ∀ k, k < 2 → parseFieldDescriptor (TX2 k).2.2.1 = some (tyX2 k) := by decide +kernel
abbrev cX2_init : ByteArray := prog_4_method_1_code
def yX2_init : MethodName := ⟨RX2, "<init>", "()V"⟩
abbrev cX2_add : ByteArray := prog_4_method_2_code
def yX2_add : MethodName := ⟨RX2, "add", "(J)V"⟩
abbrev cX2_hasOneBelow : ByteArray := prog_4_method_3_code
def yX2_hasOneBelow : MethodName := ⟨RX2, "hasOneBelow", "(JI)Z"⟩
def RX3 : String := "CoverRounds$Search"
def TX3 : u_T := fun k => match k with
  | 0 => ("CoverRounds$Search", "ending", "I", false)
  | 1 => ("CoverRounds$Search", "last", "I", false)
  | 2 => ("CoverRounds$Search", "leastCounts", "[I", true)
  | 3 => ("CoverRounds$Search", "row", "[I", true)
  | 4 => ("CoverRounds$Search", "first", "J", false)
  | 5 => ("CoverRounds$Search", "transitions", "I", false)
  | 6 => ("CoverRounds$Search", "takes", "[J", true)
  | 7 => ("CoverRounds$Search", "gives", "[J", true)
  | 8 => ("CoverRounds$Search", "least", "LCoverRounds$Pile;", true)
  | 9 => ("CoverRounds$Search", "oldCount", "I", false)
  | 10 => ("CoverRounds$Search", "born", "LCoverRounds$Pile;", true)
  | 11 => ("CoverRounds$Search", "bornUpTo", "[I", true)
  | _ => ("CoverRounds$Search", "bornFrom", "I", false)
def tyX3 : Nat → FieldType := fun k => match k with
  | 0 => .int
  | 1 => .int
  | 2 => .array .int
  | 3 => .array .int
  | 4 => .long
  | 5 => .int
  | 6 => .array .long
  | 7 => .array .long
  | 8 => .object "CoverRounds$Pile"
  | 9 => .int
  | 10 => .object "CoverRounds$Pile"
  | 11 => .array .int
  | _ => .int
abbrev wsX30 : List Cond := u_ws RX3 TX3 13
theorem nmX3 : ∀ a, a < 13 → ∀ b, b < 13 → a ≠ b → (TX3 a).2.1 ≠ (TX3 b).2.1 := by decide +kernel
theorem tyX3_ok : ∀ k, k < 13 → parseFieldDescriptor (TX3 k).2.2.1 = some (tyX3 k) := by decide +kernel
abbrev cX3_init : ByteArray := prog_5_method_1_code
def yX3_init : MethodName := ⟨RX3, "<init>", "()V"⟩
abbrev cX3_goRounds : ByteArray := prog_5_method_2_code
def yX3_goRounds : MethodName := ⟨RX3, "goRounds", "(LCoverRounds$Net;)V"⟩
abbrev cX3_begin : ByteArray := prog_5_method_3_code
def yX3_begin : MethodName := ⟨RX3, "begin", "(LCoverRounds$Net;)V"⟩
abbrev cX3_endingOf : ByteArray := prog_5_method_4_code
def yX3_endingOf : MethodName := ⟨RX3, "endingOf", "(I)I"⟩
abbrev cX3_keepBorn : ByteArray := prog_5_method_5_code
def yX3_keepBorn : MethodName := ⟨RX3, "keepBorn", "(I)V"⟩
abbrev cX3_stepBack : ByteArray := prog_5_method_6_code
def yX3_stepBack : MethodName := ⟨RX3, "stepBack", "()V"⟩
abbrev cX3_addToLeast : ByteArray := prog_5_method_7_code
def yX3_addToLeast : MethodName := ⟨RX3, "addToLeast", "(J)V"⟩
abbrev cX3_findRow : ByteArray := prog_5_method_8_code
def yX3_findRow : MethodName := ⟨RX3, "findRow", "()V"⟩
def RX4 : String := "CoverRounds$Tree"
def TX4 : u_T := fun k => match k with
  | 0 => ("CoverRounds$Tree", "isGrown", "Z", false)
  | 1 => ("CoverRounds$Tree", "places", "I", false)
  | 2 => ("CoverRounds$Tree", "nodes", "I", false)
  | 3 => ("CoverRounds$Tree", "limitCount", "I", false)
  | 4 => ("CoverRounds$Tree", "fires", "[Z", true)
  | 5 => ("CoverRounds$Tree", "counts", "[I", true)
  | 6 => ("CoverRounds$Tree", "above", "[I", true)
  | 7 => ("CoverRounds$Tree", "depth", "[I", true)
  | _ => ("CoverRounds$Tree", "limitNodes", "[I", true)
def tyX4 : Nat → FieldType := fun k => match k with
  | 0 => .boolean
  | 1 => .int
  | 2 => .int
  | 3 => .int
  | 4 => .array .boolean
  | 5 => .array .int
  | 6 => .array .int
  | 7 => .array .int
  | _ => .array .int
abbrev wsX40 : List Cond := u_ws RX4 TX4 9
theorem nmX4 : ∀ a, a < 9 → ∀ b, b < 9 → a ≠ b → (TX4 a).2.1 ≠ (TX4 b).2.1 := by decide +kernel
theorem tyX4_ok : ∀ k, k < 9 → parseFieldDescriptor (TX4 k).2.2.1 = some (tyX4 k) := by decide +kernel
abbrev cX4_init : ByteArray := prog_6_method_1_code
def yX4_init : MethodName := ⟨RX4, "<init>", "()V"⟩
abbrev cX4_growFrom : ByteArray := prog_6_method_2_code
def yX4_growFrom : MethodName := ⟨RX4, "growFrom", "(LCoverRounds$Net;)V"⟩
abbrev cX4_begin : ByteArray := prog_6_method_3_code
def yX4_begin : MethodName := ⟨RX4, "begin", "(LCoverRounds$Net;)V"⟩
abbrev cX4_hasTwinAbove : ByteArray := prog_6_method_4_code
def yX4_hasTwinAbove : MethodName := ⟨RX4, "hasTwinAbove", "(I)Z"⟩
abbrev cX4_addChildren : ByteArray := prog_6_method_5_code
def yX4_addChildren : MethodName := ⟨RX4, "addChildren", "(LCoverRounds$Net;I)Z"⟩
abbrev cX4_addChild : ByteArray := prog_6_method_6_code
def yX4_addChild : MethodName := ⟨RX4, "addChild", "(LCoverRounds$Net;II)V"⟩
abbrev cX4_accelerate : ByteArray := prog_6_method_7_code
def yX4_accelerate : MethodName := ⟨RX4, "accelerate", "(I)V"⟩
abbrev cX4_raise : ByteArray := prog_6_method_8_code
def yX4_raise : MethodName := ⟨RX4, "raise", "(II)Z"⟩
abbrev cX4_gatherLimits : ByteArray := prog_6_method_9_code
def yX4_gatherLimits : MethodName := ⟨RX4, "gatherLimits", "()V"⟩
abbrev cX4_hasLimitOver : ByteArray := prog_6_method_10_code
def yX4_hasLimitOver : MethodName := ⟨RX4, "hasLimitOver", "(I)Z"⟩
abbrev cX4_dropLimitsUnder : ByteArray := prog_6_method_11_code
def yX4_dropLimitsUnder : MethodName := ⟨RX4, "dropLimitsUnder", "(I)V"⟩
abbrev cX4_insertLimit : ByteArray := prog_6_method_12_code
def yX4_insertLimit : MethodName := ⟨RX4, "insertLimit", "(I)V"⟩
abbrev cX4_comesBefore : ByteArray := prog_6_method_13_code
def yX4_comesBefore : MethodName := ⟨RX4, "comesBefore", "(II)Z"⟩
abbrev cX4_isAtLeast : ByteArray := prog_6_method_14_code
def yX4_isAtLeast : MethodName := ⟨RX4, "isAtLeast", "(II)Z"⟩
abbrev cX4_countAt : ByteArray := prog_6_method_15_code
def yX4_countAt : MethodName := ⟨RX4, "countAt", "(II)I"⟩
abbrev cX4_hasPlace : ByteArray := prog_6_method_16_code
def yX4_hasPlace : MethodName := ⟨RX4, "hasPlace", "(I)Z"⟩
abbrev cX4_limitAt : ByteArray := prog_6_method_17_code
def yX4_limitAt : MethodName := ⟨RX4, "limitAt", "(II)I"⟩
abbrev cX4_mostAt : ByteArray := prog_6_method_18_code
def yX4_mostAt : MethodName := ⟨RX4, "mostAt", "(I)I"⟩
abbrev cX4_reaches : ByteArray := prog_6_method_19_code
def yX4_reaches : MethodName := ⟨RX4, "reaches", "([I)Z"⟩
abbrev cX4_limitReaches : ByteArray := prog_6_method_20_code
def yX4_limitReaches : MethodName := ⟨RX4, "limitReaches", "(I[I)Z"⟩
def RX5 : String := "CoverRounds"
def TX5 : u_T := fun k => match k with
  | 0 => ("CoverRounds", "net", "LCoverRounds$Net;", true)
  | 1 => ("CoverRounds", "now", "[I", true)
  | 2 => ("CoverRounds", "search", "LCoverRounds$Search;", true)
  | _ => ("CoverRounds", "tree", "LCoverRounds$Tree;", true)
def tyX5 : Nat → FieldType := fun k => match k with
  | 0 => .object "CoverRounds$Net"
  | 1 => .array .int
  | 2 => .object "CoverRounds$Search"
  | _ => .object "CoverRounds$Tree"
abbrev wsX50 : List Cond := u_ws RX5 TX5 4
theorem nmX5 : ∀ a, a < 4 → ∀ b, b < 4 → a ≠ b → (TX5 a).2.1 ≠ (TX5 b).2.1 := by decide +kernel
theorem tyX5_ok : ∀ k, k < 4 → parseFieldDescriptor (TX5 k).2.2.1 = some (tyX5 k) := by decide +kernel
abbrev cX5_init : ByteArray := prog_1_method_1_code
def yX5_init : MethodName := ⟨RX5, "<init>", "()V"⟩
abbrev cX5_place : ByteArray := prog_1_method_2_code
def yX5_place : MethodName := ⟨RX5, "place", "(I)I"⟩
abbrev cX5_transition : ByteArray := prog_1_method_3_code
def yX5_transition : MethodName := ⟨RX5, "transition", "()I"⟩
abbrev cX5_arc : ByteArray := prog_1_method_4_code
def yX5_arc : MethodName := ⟨RX5, "arc", "(IIII)Z"⟩
abbrev cX5_target : ByteArray := prog_1_method_5_code
def yX5_target : MethodName := ⟨RX5, "target", "(II)Z"⟩
abbrev cX5_rounds : ByteArray := prog_1_method_6_code
def yX5_rounds : MethodName := ⟨RX5, "rounds", "()I"⟩
abbrev cX5_steps : ByteArray := prog_1_method_7_code
def yX5_steps : MethodName := ⟨RX5, "steps", "()I"⟩
abbrev cX5_witness : ByteArray := prog_1_method_8_code
def yX5_witness : MethodName := ⟨RX5, "witness", "(I)I"⟩
abbrev cX5_least : ByteArray := prog_1_method_9_code
def yX5_least : MethodName := ⟨RX5, "least", "(I)I"⟩
abbrev cX5_grow : ByteArray := prog_1_method_10_code
def yX5_grow : MethodName := ⟨RX5, "grow", "()I"⟩
abbrev cX5_most : ByteArray := prog_1_method_11_code
def yX5_most : MethodName := ⟨RX5, "most", "(I)I"⟩
abbrev cX5_live : ByteArray := prog_1_method_12_code
def yX5_live : MethodName := ⟨RX5, "live", "(I)Z"⟩
abbrev cX5_limits : ByteArray := prog_1_method_13_code
def yX5_limits : MethodName := ⟨RX5, "limits", "()I"⟩
abbrev cX5_limit : ByteArray := prog_1_method_14_code
def yX5_limit : MethodName := ⟨RX5, "limit", "(II)I"⟩
abbrev cX5_covers : ByteArray := prog_1_method_15_code
def yX5_covers : MethodName := ⟨RX5, "covers", "()Z"⟩
abbrev cX5_fire : ByteArray := prog_1_method_16_code
def yX5_fire : MethodName := ⟨RX5, "fire", "(I)Z"⟩
abbrev cX5_tokens : ByteArray := prog_1_method_17_code
def yX5_tokens : MethodName := ⟨RX5, "tokens", "(I)I"⟩
abbrev cX5_goBackToFirst : ByteArray := prog_1_method_18_code
def yX5_goBackToFirst : MethodName := ⟨RX5, "goBackToFirst", "()V"⟩
abbrev cX5_isWithin : ByteArray := prog_1_method_19_code
def yX5_isWithin : MethodName := ⟨RX5, "isWithin", "(II)Z"⟩
abbrev cX5_told : ByteArray := prog_1_method_20_code
def yX5_told : MethodName := ⟨RX5, "told", "(I)I"⟩
def RX6 : String := "CoverRoundsModel"
def TX6 : u_T := fun k => match k with
  | 0 => ("CoverRoundsModel", "places", "I", false)
  | 1 => ("CoverRoundsModel", "first", "[I", true)
  | 2 => ("CoverRoundsModel", "target", "[I", true)
  | 3 => ("CoverRoundsModel", "transitions", "I", false)
  | 4 => ("CoverRoundsModel", "takes", "[I", true)
  | 5 => ("CoverRoundsModel", "gives", "[I", true)
  | 6 => ("CoverRoundsModel", "now", "[I", true)
  | 7 => ("CoverRoundsModel", "ended", "I", false)
  | 8 => ("CoverRoundsModel", "last", "I", false)
  | 9 => ("CoverRoundsModel", "roundPlaces", "I", false)
  | 10 => ("CoverRoundsModel", "leastCounts", "[I", true)
  | 11 => ("CoverRoundsModel", "kept", "[I", true)
  | 12 => ("CoverRoundsModel", "round", "[I", true)
  | 13 => ("CoverRoundsModel", "roundCount", "I", false)
  | 14 => ("CoverRoundsModel", "before", "[I", true)
  | 15 => ("CoverRoundsModel", "beforeCount", "I", false)
  | 16 => ("CoverRoundsModel", "rows", "[I", true)
  | 17 => ("CoverRoundsModel", "isGrown", "Z", false)
  | 18 => ("CoverRoundsModel", "grownPlaces", "I", false)
  | 19 => ("CoverRoundsModel", "nodes", "I", false)
  | 20 => ("CoverRoundsModel", "markings", "[I", true)
  | 21 => ("CoverRoundsModel", "above", "[I", true)
  | 22 => ("CoverRoundsModel", "lives", "I", false)
  | 23 => ("CoverRoundsModel", "limitCount", "I", false)
  | 24 => ("CoverRoundsModel", "limitNodes", "[I", true)
  | 25 => ("CoverRoundsModel", "work", "[I", true)
  | _ => ("CoverRoundsModel", "trail", "[I", true)
def tyX6 : Nat → FieldType := fun k => match k with
  | 0 => .int
  | 1 => .array .int
  | 2 => .array .int
  | 3 => .int
  | 4 => .array .int
  | 5 => .array .int
  | 6 => .array .int
  | 7 => .int
  | 8 => .int
  | 9 => .int
  | 10 => .array .int
  | 11 => .array .int
  | 12 => .array .int
  | 13 => .int
  | 14 => .array .int
  | 15 => .int
  | 16 => .array .int
  | 17 => .boolean
  | 18 => .int
  | 19 => .int
  | 20 => .array .int
  | 21 => .array .int
  | 22 => .int
  | 23 => .int
  | 24 => .array .int
  | 25 => .array .int
  | _ => .array .int
abbrev wsX60 : List Cond := u_ws RX6 TX6 27
theorem nmX6 : ∀ a, a < 27 → ∀ b, b < 27 → a ≠ b → (TX6 a).2.1 ≠ (TX6 b).2.1 := by decide +kernel
theorem tyX6_ok : ∀ k, k < 27 → parseFieldDescriptor (TX6 k).2.2.1 = some (tyX6 k) := by decide +kernel
abbrev cX6_init : ByteArray := prog_8_method_1_code
def yX6_init : MethodName := ⟨RX6, "<init>", "()V"⟩
abbrev cX6_isPlace : ByteArray := prog_8_method_3_code
def yX6_isPlace : MethodName := ⟨RX6, "isPlace", "(I)Z"⟩
abbrev cX6_isTransition : ByteArray := prog_8_method_4_code
def yX6_isTransition : MethodName := ⟨RX6, "isTransition", "(I)Z"⟩
abbrev cX6_isIn : ByteArray := prog_8_method_5_code
def yX6_isIn : MethodName := ⟨RX6, "isIn", "(II)Z"⟩
abbrev cX6_begin : ByteArray := prog_8_method_6_code
def yX6_begin : MethodName := ⟨RX6, "begin", "()V"⟩
abbrev cX6_place : ByteArray := prog_8_method_7_code
def yX6_place : MethodName := ⟨RX6, "place", "(I)I"⟩
abbrev cX6_transition : ByteArray := prog_8_method_8_code
def yX6_transition : MethodName := ⟨RX6, "transition", "()I"⟩
abbrev cX6_arc : ByteArray := prog_8_method_9_code
def yX6_arc : MethodName := ⟨RX6, "arc", "(IIII)Z"⟩
abbrev cX6_target : ByteArray := prog_8_method_10_code
def yX6_target : MethodName := ⟨RX6, "target", "(II)Z"⟩
abbrev cX6_tops : ByteArray := prog_8_method_11_code
def yX6_tops : MethodName := ⟨RX6, "tops", "([II[II)Z"⟩
abbrev cX6_takeIn : ByteArray := prog_8_method_12_code
def yX6_takeIn : MethodName := ⟨RX6, "takeIn", "()V"⟩
abbrev cX6_isInRound : ByteArray := prog_8_method_13_code
def yX6_isInRound : MethodName := ⟨RX6, "isInRound", "([II)Z"⟩
abbrev cX6_isFirstIn : ByteArray := prog_8_method_14_code
def yX6_isFirstIn : MethodName := ⟨RX6, "isFirstIn", "()Z"⟩
abbrev cX6_step : ByteArray := prog_8_method_15_code
def yX6_step : MethodName := ⟨RX6, "step", "()V"⟩
abbrev cX6_isSame : ByteArray := prog_8_method_16_code
def yX6_isSame : MethodName := ⟨RX6, "isSame", "()Z"⟩
abbrev cX6_rounds : ByteArray := prog_8_method_17_code
def yX6_rounds : MethodName := ⟨RX6, "rounds", "()I"⟩
abbrev cX6_tellRow : ByteArray := prog_8_method_18_code
def yX6_tellRow : MethodName := ⟨RX6, "tellRow", "()V"⟩
abbrev cX6_canFire : ByteArray := prog_8_method_19_code
def yX6_canFire : MethodName := ⟨RX6, "canFire", "([III)Z"⟩
abbrev cX6_leads : ByteArray := prog_8_method_20_code
def yX6_leads : MethodName := ⟨RX6, "leads", "([III)Z"⟩
abbrev cX6_steps : ByteArray := prog_8_method_21_code
def yX6_steps : MethodName := ⟨RX6, "steps", "()I"⟩
abbrev cX6_witness : ByteArray := prog_8_method_22_code
def yX6_witness : MethodName := ⟨RX6, "witness", "(I)I"⟩
abbrev cX6_least : ByteArray := prog_8_method_23_code
def yX6_least : MethodName := ⟨RX6, "least", "(I)I"⟩
abbrev cX6_isOld : ByteArray := prog_8_method_24_code
def yX6_isOld : MethodName := ⟨RX6, "isOld", "(I)Z"⟩
abbrev cX6_accelerate : ByteArray := prog_8_method_25_code
def yX6_accelerate : MethodName := ⟨RX6, "accelerate", "(I)V"⟩
abbrev cX6_grow : ByteArray := prog_8_method_26_code
def yX6_grow : MethodName := ⟨RX6, "grow", "()I"⟩
abbrev cX6_tellTree : ByteArray := prog_8_method_27_code
def yX6_tellTree : MethodName := ⟨RX6, "tellTree", "()V"⟩
abbrev cX6_isBefore : ByteArray := prog_8_method_28_code
def yX6_isBefore : MethodName := ⟨RX6, "isBefore", "(II)Z"⟩
abbrev cX6_told : ByteArray := prog_8_method_29_code
def yX6_told : MethodName := ⟨RX6, "told", "(I)I"⟩
abbrev cX6_isGrownPlace : ByteArray := prog_8_method_30_code
def yX6_isGrownPlace : MethodName := ⟨RX6, "isGrownPlace", "(I)Z"⟩
abbrev cX6_most : ByteArray := prog_8_method_31_code
def yX6_most : MethodName := ⟨RX6, "most", "(I)I"⟩
abbrev cX6_live : ByteArray := prog_8_method_32_code
def yX6_live : MethodName := ⟨RX6, "live", "(I)Z"⟩
abbrev cX6_limits : ByteArray := prog_8_method_33_code
def yX6_limits : MethodName := ⟨RX6, "limits", "()I"⟩
abbrev cX6_limit : ByteArray := prog_8_method_34_code
def yX6_limit : MethodName := ⟨RX6, "limit", "(II)I"⟩
abbrev cX6_covers : ByteArray := prog_8_method_35_code
def yX6_covers : MethodName := ⟨RX6, "covers", "()Z"⟩
abbrev cX6_fire : ByteArray := prog_8_method_36_code
def yX6_fire : MethodName := ⟨RX6, "fire", "(I)Z"⟩
abbrev cX6_tokens : ByteArray := prog_8_method_37_code
def yX6_tokens : MethodName := ⟨RX6, "tokens", "(I)I"⟩
def RJx8e188 : String := "java/lang/Cloneable"
def TJx8e188 : u_T := fun k => match k with
  | _ => ("", "", "", false)
def tyJx8e188 : Nat → FieldType := fun k => match k with
  | _ => .int
abbrev wsJx8e1880 : List Cond := u_ws RJx8e188 TJx8e188 0
theorem nmJx8e188 : ∀ a, a < 0 → ∀ b, b < 0 → a ≠ b → (TJx8e188 a).2.1 ≠ (TJx8e188 b).2.1 := by decide +kernel
theorem tyJx8e188_ok : ∀ k, k < 0 → parseFieldDescriptor (TJx8e188 k).2.2.1 = some (tyJx8e188 k) := by decide +kernel
def RJ9 : String := "java/lang/Math"
def TJ9 : u_T := fun k => match k with
  | _ => ("", "", "", false)
def tyJ9 : Nat → FieldType := fun k => match k with
  | _ => .int
abbrev wsJ90 : List Cond := u_ws RJ9 TJ9 0
theorem nmJ9 : ∀ a, a < 0 → ∀ b, b < 0 → a ≠ b → (TJ9 a).2.1 ≠ (TJ9 b).2.1 := by decide +kernel
theorem tyJ9_ok : ∀ k, k < 0 → parseFieldDescriptor (TJ9 k).2.2.1 = some (tyJ9 k) := by decide +kernel
abbrev cJ9_max_7cf53 : ByteArray := prog_10_method_65_code
def yJ9_max_7cf53 : MethodName := ⟨RJ9, "max", "(II)I"⟩
abbrev cJ9_min_7cf53 : ByteArray := prog_10_method_69_code
def yJ9_min_7cf53 : MethodName := ⟨RJ9, "min", "(II)I"⟩
def RJ10 : String := "java/lang/System"
def TJ10 : u_T := fun k => match k with
  | _ => ("", "", "", false)
def tyJ10 : Nat → FieldType := fun k => match k with
  | _ => .int
abbrev wsJ100 : List Cond := u_ws RJ10 TJ10 0
theorem nmJ10 : ∀ a, a < 0 → ∀ b, b < 0 → a ≠ b → (TJ10 a).2.1 ≠ (TJ10 b).2.1 := by decide +kernel
theorem tyJ10_ok : ∀ k, k < 0 → parseFieldDescriptor (TJ10 k).2.2.1 = some (tyJ10 k) := by decide +kernel
def RJ7 : String := "java/util/Arrays"
def TJ7 : u_T := fun k => match k with
  | _ => ("", "", "", false)
def tyJ7 : Nat → FieldType := fun k => match k with
  | _ => .int
abbrev wsJ70 : List Cond := u_ws RJ7 TJ7 0
theorem nmJ7 : ∀ a, a < 0 → ∀ b, b < 0 → a ≠ b → (TJ7 a).2.1 ≠ (TJ7 b).2.1 := by decide +kernel
theorem tyJ7_ok : ∀ k, k < 0 → parseFieldDescriptor (TJ7 k).2.2.1 = some (tyJ7 k) := by decide +kernel
abbrev cJ7_copyOf_c38d5 : ByteArray := prog_12_method_124_code
def yJ7_copyOf_c38d5 : MethodName := ⟨RJ7, "copyOf", "([JI)[J"⟩
def RL : String := "CoverRoundsLaw"
abbrev cL_law : ByteArray := code
def yL_law : MethodName := ⟨RL, "law", "([I)Z"⟩
def wsX0_init : List Cond := .code yX0_init cX0_init 1 none :: ([.methodLink RX0 3 objectInit, .instanceMethod objectInit, .code objectInit ⟨#[0xb1]⟩ 1 none, .fieldLink RX0 9 "CoverRounds$Net" "places" "I", .fieldLink RX0 15 "CoverRounds$Net" "transitions" "I", .arrayClass .int, .fieldLink RX0 18 "CoverRounds$Net" "first" "[I", .fieldLink RX0 22 "CoverRounds$Net" "wanted" "[I", .classLink RX0 25 "[[I", .fieldLink RX0 27 "CoverRounds$Net" "takes" "[[I", .fieldLink RX0 30 "CoverRounds$Net" "gives" "[[I"] ++ wsX00)
def wsX0_hasPlace : List Cond := .code yX0_hasPlace cX0_hasPlace 2 (some .boolean) :: ([.fieldLink RX0 9 "CoverRounds$Net" "places" "I"] ++ wsX00)
def wsX0_hasTransition : List Cond := .code yX0_hasTransition cX0_hasTransition 2 (some .boolean) :: ([.fieldLink RX0 15 "CoverRounds$Net" "transitions" "I"] ++ wsX00)
def wsX0_canFire : List Cond := .code yX0_canFire cX0_canFire 6 (some .boolean) :: ([.fieldLink RX0 27 "CoverRounds$Net" "takes" "[[I", .fieldLink RX0 9 "CoverRounds$Net" "places" "I"] ++ wsX00)
def wsX0_move : List Cond := .code yX0_move cX0_move 5 none :: ([.fieldLink RX0 9 "CoverRounds$Net" "places" "I", .constant RX0 33 (1000000000), .fieldLink RX0 30 "CoverRounds$Net" "gives" "[[I", .fieldLink RX0 27 "CoverRounds$Net" "takes" "[[I"] ++ wsX00)
def wsX1_of : List Cond := .code yX1_of cX1_of 4 (some .long) :: ([])
def wsX1_isAtLeast : List Cond := .code yX1_isAtLeast cX1_isAtLeast 4 (some .boolean) :: ([.constantLong RX1 11 (563500246630912)])
def wsX1_lessened : List Cond := .code yX1_lessened cX1_lessened 10 (some .long) :: ([.constantLong RX1 11 (563500246630912)])
def wsX2_init : List Cond := .code yX2_init cX2_init 1 none :: ([.methodLink RX2 1 objectInit, .instanceMethod objectInit, .code objectInit ⟨#[0xb1]⟩ 1 none, .arrayClass .long, .fieldLink RX2 9 "CoverRounds$Pile" "rows" "[J", .fieldLink RX2 13 "CoverRounds$Pile" "size" "I"] ++ wsX20)
def wsJ7_copyOf_c38d5 : List Cond := .code yJ7_copyOf_c38d5 cJ7_copyOf_c38d5 3 (some (.array .long)) :: ([.methodLink RJ7 319 ⟨"[J", "clone", "()Ljava/lang/Object;"⟩, .sameMethod "[J" "java/lang/Object" "clone" "()Ljava/lang/Object;", .native ⟨"java/lang/Object", "clone", "()Ljava/lang/Object;"⟩, .instanceMethod ⟨"java/lang/Object", "clone", "()Ljava/lang/Object;"⟩, .selects "[J" ⟨"[J", "clone", "()Ljava/lang/Object;"⟩ ⟨"java/lang/Object", "clone", "()Ljava/lang/Object;"⟩, .classLink RJ7 320 "[J", .arrayClass .long, .methodLink RJ7 304 Lib.Math.min.name, .static Lib.Math.min.name, .initialized "java/lang/Math", .code Lib.Math.min.name Lib.Math.min.code 2 (some .int), .methodLink RJ7 150 arraycopyName, .native arraycopyName, .static arraycopyName, .initialized "java/lang/System"])
def wsX2_add : List Cond := .code yX2_add cX2_add 3 none :: ([.fieldLink RX2 13 "CoverRounds$Pile" "size" "I", .fieldLink RX2 9 "CoverRounds$Pile" "rows" "[J", .methodLink RX2 17 yJ7_copyOf_c38d5, .static yJ7_copyOf_c38d5, .initialized RJ7, .code yJ7_copyOf_c38d5 cJ7_copyOf_c38d5 3 (some (.array .long)), .methodLink RJ7 319 ⟨"[J", "clone", "()Ljava/lang/Object;"⟩, .sameMethod "[J" "java/lang/Object" "clone" "()Ljava/lang/Object;", .native ⟨"java/lang/Object", "clone", "()Ljava/lang/Object;"⟩, .instanceMethod ⟨"java/lang/Object", "clone", "()Ljava/lang/Object;"⟩, .selects "[J" ⟨"[J", "clone", "()Ljava/lang/Object;"⟩ ⟨"java/lang/Object", "clone", "()Ljava/lang/Object;"⟩, .classLink RJ7 320 "[J", .arrayClass .long, .methodLink RJ7 304 Lib.Math.min.name, .static Lib.Math.min.name, .initialized "java/lang/Math", .code Lib.Math.min.name Lib.Math.min.code 2 (some .int), .methodLink RJ7 150 arraycopyName, .native arraycopyName, .static arraycopyName, .initialized "java/lang/System"] ++ wsX20)
def wsX2_hasOneBelow : List Cond := .code yX2_hasOneBelow cX2_hasOneBelow 5 (some .boolean) :: ([.fieldLink RX2 13 "CoverRounds$Pile" "size" "I", .fieldLink RX2 9 "CoverRounds$Pile" "rows" "[J", .methodLink RX2 23 yX1_isAtLeast, .static yX1_isAtLeast, .initialized RX1, .code yX1_isAtLeast cX1_isAtLeast 4 (some .boolean), .constantLong RX1 11 (563500246630912)] ++ wsX20)
def wsX3_init_r1 : List Cond := [Cond.methodLink RX3 3 objectInit, Cond.instanceMethod objectInit, Cond.code objectInit ⟨#[0xb1]⟩ 1 none, Cond.fieldLink RX3 9 "CoverRounds$Search" "ending" "I", Cond.fieldLink RX3 15 "CoverRounds$Search" "last" "I", Cond.arrayClass .int, Cond.fieldLink RX3 18 "CoverRounds$Search" "leastCounts" "[I", Cond.fieldLink RX3 22 "CoverRounds$Search" "row" "[I", Cond.fieldLink RX3 25 "CoverRounds$Search" "first" "J", Cond.fieldLink RX3 29 "CoverRounds$Search" "transitions" "I", Cond.arrayClass .long, Cond.fieldLink RX3 32 "CoverRounds$Search" "takes" "[J", Cond.fieldLink RX3 36 "CoverRounds$Search" "gives" "[J", Cond.classLink RX3 39 RX2, Cond.instantiable RX2 2, Cond.initialized RX2, Cond.fieldLink RX3 42 "CoverRounds$Search" "least" "LCoverRounds$Pile;", Cond.fieldLink RX3 46 "CoverRounds$Search" "oldCount" "I", Cond.fieldLink RX3 49 "CoverRounds$Search" "born" "LCoverRounds$Pile;", Cond.fieldLink RX3 52 "CoverRounds$Search" "bornUpTo" "[I", Cond.fieldLink RX3 55 "CoverRounds$Search" "bornFrom" "I", Cond.instanceMethod yX2_init, Cond.code yX2_init cX2_init 1 none, Cond.methodLink RX2 1 objectInit]
def wsX3_init_r2 : List Cond := [Cond.fieldLink RX2 9 "CoverRounds$Pile" "rows" "[J", Cond.fieldLink RX2 13 "CoverRounds$Pile" "size" "I"]
def wsX3_init : List Cond := .code yX3_init cX3_init 1 none :: ((wsX3_init_r1 ++ wsX3_init_r2) ++ wsX30 ++ wsX20)
def wsX3_begin_r1 : List Cond := [Cond.fieldLink RX3 79 "CoverRounds$Net" "first" "[I", Cond.fieldLink RX3 25 "CoverRounds$Search" "first" "J", Cond.fieldLink RX3 89 "CoverRounds$Net" "transitions" "I", Cond.fieldLink RX3 29 "CoverRounds$Search" "transitions" "I", Cond.fieldLink RX3 32 "CoverRounds$Search" "takes" "[J", Cond.fieldLink RX3 90 "CoverRounds$Net" "takes" "[[I", Cond.fieldLink RX3 36 "CoverRounds$Search" "gives" "[J", Cond.fieldLink RX3 93 "CoverRounds$Net" "gives" "[[I", Cond.fieldLink RX3 49 "CoverRounds$Search" "born" "LCoverRounds$Pile;", Cond.fieldLink RX3 65 "CoverRounds$Pile" "size" "I", Cond.fieldLink RX3 42 "CoverRounds$Search" "least" "LCoverRounds$Pile;", Cond.fieldLink RX3 95 "CoverRounds$Net" "wanted" "[I", Cond.fieldLink RX3 46 "CoverRounds$Search" "oldCount" "I", Cond.fieldLink RX3 9 "CoverRounds$Search" "ending" "I", Cond.methodLink RX3 83 yX1_of, Cond.static yX1_of, Cond.initialized RX1, Cond.code yX1_of cX1_of 4 (some .long), Cond.methodLink RX3 98 yX2_add, Cond.instanceMethod yX2_add, Cond.selects RX2 yX2_add yX2_add, Cond.initialized RX2, Cond.code yX2_add cX2_add 3 none, Cond.fieldLink RX2 13 "CoverRounds$Pile" "size" "I"]
def wsX3_begin_r2 : List Cond := [Cond.fieldLink RX2 9 "CoverRounds$Pile" "rows" "[J", Cond.methodLink RX2 17 yJ7_copyOf_c38d5, Cond.static yJ7_copyOf_c38d5, Cond.initialized RJ7, Cond.code yJ7_copyOf_c38d5 cJ7_copyOf_c38d5 3 (some (.array .long)), Cond.methodLink RJ7 319 ⟨"[J", "clone", "()Ljava/lang/Object;"⟩, Cond.sameMethod "[J" "java/lang/Object" "clone" "()Ljava/lang/Object;", Cond.native ⟨"java/lang/Object", "clone", "()Ljava/lang/Object;"⟩, Cond.instanceMethod ⟨"java/lang/Object", "clone", "()Ljava/lang/Object;"⟩, Cond.selects "[J" ⟨"[J", "clone", "()Ljava/lang/Object;"⟩ ⟨"java/lang/Object", "clone", "()Ljava/lang/Object;"⟩, Cond.classLink RJ7 320 "[J", Cond.arrayClass .long, Cond.methodLink RJ7 304 Lib.Math.min.name, Cond.static Lib.Math.min.name, Cond.initialized "java/lang/Math", Cond.code Lib.Math.min.name Lib.Math.min.code 2 (some .int), Cond.methodLink RJ7 150 arraycopyName, Cond.native arraycopyName, Cond.static arraycopyName, Cond.initialized "java/lang/System"]
def wsX3_begin : List Cond := .code yX3_begin cX3_begin 3 none :: ((wsX3_begin_r1 ++ wsX3_begin_r2) ++ wsX00 ++ wsX30 ++ wsX20)
def wsX3_addToLeast_r1 : List Cond := [Cond.fieldLink RX3 42 "CoverRounds$Search" "least" "LCoverRounds$Pile;", Cond.fieldLink RX3 65 "CoverRounds$Pile" "size" "I", Cond.fieldLink RX3 106 "CoverRounds$Pile" "rows" "[J", Cond.fieldLink RX3 46 "CoverRounds$Search" "oldCount" "I", Cond.methodLink RX3 102 yX2_hasOneBelow, Cond.instanceMethod yX2_hasOneBelow, Cond.selects RX2 yX2_hasOneBelow yX2_hasOneBelow, Cond.initialized RX2, Cond.code yX2_hasOneBelow cX2_hasOneBelow 5 (some .boolean), Cond.fieldLink RX2 13 "CoverRounds$Pile" "size" "I", Cond.fieldLink RX2 9 "CoverRounds$Pile" "rows" "[J", Cond.methodLink RX2 23 yX1_isAtLeast, Cond.static yX1_isAtLeast, Cond.initialized RX1, Cond.code yX1_isAtLeast cX1_isAtLeast 4 (some .boolean), Cond.constantLong RX1 11 (563500246630912), Cond.methodLink RX3 116 yX1_isAtLeast, Cond.methodLink RX3 98 yX2_add, Cond.instanceMethod yX2_add, Cond.selects RX2 yX2_add yX2_add, Cond.code yX2_add cX2_add 3 none, Cond.methodLink RX2 17 yJ7_copyOf_c38d5, Cond.static yJ7_copyOf_c38d5, Cond.initialized RJ7]
def wsX3_addToLeast_r2 : List Cond := [Cond.code yJ7_copyOf_c38d5 cJ7_copyOf_c38d5 3 (some (.array .long)), Cond.methodLink RJ7 319 ⟨"[J", "clone", "()Ljava/lang/Object;"⟩, Cond.sameMethod "[J" "java/lang/Object" "clone" "()Ljava/lang/Object;", Cond.native ⟨"java/lang/Object", "clone", "()Ljava/lang/Object;"⟩, Cond.instanceMethod ⟨"java/lang/Object", "clone", "()Ljava/lang/Object;"⟩, Cond.selects "[J" ⟨"[J", "clone", "()Ljava/lang/Object;"⟩ ⟨"java/lang/Object", "clone", "()Ljava/lang/Object;"⟩, Cond.classLink RJ7 320 "[J", Cond.arrayClass .long, Cond.methodLink RJ7 304 Lib.Math.min.name, Cond.static Lib.Math.min.name, Cond.initialized "java/lang/Math", Cond.code Lib.Math.min.name Lib.Math.min.code 2 (some .int), Cond.methodLink RJ7 150 arraycopyName, Cond.native arraycopyName, Cond.static arraycopyName, Cond.initialized "java/lang/System"]
def wsX3_addToLeast : List Cond := .code yX3_addToLeast cX3_addToLeast 6 none :: ((wsX3_addToLeast_r1 ++ wsX3_addToLeast_r2) ++ wsX30 ++ wsX20)
def wsX3_stepBack_r1 : List Cond := [Cond.fieldLink RX3 42 "CoverRounds$Search" "least" "LCoverRounds$Pile;", Cond.fieldLink RX3 65 "CoverRounds$Pile" "size" "I", Cond.fieldLink RX3 46 "CoverRounds$Search" "oldCount" "I", Cond.fieldLink RX3 55 "CoverRounds$Search" "bornFrom" "I", Cond.fieldLink RX3 49 "CoverRounds$Search" "born" "LCoverRounds$Pile;", Cond.fieldLink RX3 29 "CoverRounds$Search" "transitions" "I", Cond.fieldLink RX3 106 "CoverRounds$Pile" "rows" "[J", Cond.fieldLink RX3 36 "CoverRounds$Search" "gives" "[J", Cond.fieldLink RX3 32 "CoverRounds$Search" "takes" "[J", Cond.methodLink RX3 109 yX1_lessened, Cond.static yX1_lessened, Cond.initialized RX1, Cond.code yX1_lessened cX1_lessened 10 (some .long), Cond.constantLong RX1 11 (563500246630912), Cond.methodLink RX3 113 yX3_addToLeast, Cond.instanceMethod yX3_addToLeast, Cond.selects RX3 yX3_addToLeast yX3_addToLeast, Cond.initialized RX3, Cond.code yX3_addToLeast cX3_addToLeast 6 none, Cond.methodLink RX3 102 yX2_hasOneBelow, Cond.instanceMethod yX2_hasOneBelow, Cond.selects RX2 yX2_hasOneBelow yX2_hasOneBelow, Cond.initialized RX2, Cond.code yX2_hasOneBelow cX2_hasOneBelow 5 (some .boolean)]
def wsX3_stepBack_r2 : List Cond := [Cond.fieldLink RX2 13 "CoverRounds$Pile" "size" "I", Cond.fieldLink RX2 9 "CoverRounds$Pile" "rows" "[J", Cond.methodLink RX2 23 yX1_isAtLeast, Cond.static yX1_isAtLeast, Cond.code yX1_isAtLeast cX1_isAtLeast 4 (some .boolean), Cond.methodLink RX3 116 yX1_isAtLeast, Cond.methodLink RX3 98 yX2_add, Cond.instanceMethod yX2_add, Cond.selects RX2 yX2_add yX2_add, Cond.code yX2_add cX2_add 3 none, Cond.methodLink RX2 17 yJ7_copyOf_c38d5, Cond.static yJ7_copyOf_c38d5, Cond.initialized RJ7, Cond.code yJ7_copyOf_c38d5 cJ7_copyOf_c38d5 3 (some (.array .long)), Cond.methodLink RJ7 319 ⟨"[J", "clone", "()Ljava/lang/Object;"⟩, Cond.sameMethod "[J" "java/lang/Object" "clone" "()Ljava/lang/Object;", Cond.native ⟨"java/lang/Object", "clone", "()Ljava/lang/Object;"⟩, Cond.instanceMethod ⟨"java/lang/Object", "clone", "()Ljava/lang/Object;"⟩, Cond.selects "[J" ⟨"[J", "clone", "()Ljava/lang/Object;"⟩ ⟨"java/lang/Object", "clone", "()Ljava/lang/Object;"⟩, Cond.classLink RJ7 320 "[J", Cond.arrayClass .long, Cond.methodLink RJ7 304 Lib.Math.min.name, Cond.static Lib.Math.min.name, Cond.initialized "java/lang/Math"]
def wsX3_stepBack_r3 : List Cond := [Cond.code Lib.Math.min.name Lib.Math.min.code 2 (some .int), Cond.methodLink RJ7 150 arraycopyName, Cond.native arraycopyName, Cond.static arraycopyName, Cond.initialized "java/lang/System"]
def wsX3_stepBack : List Cond := .code yX3_stepBack cX3_stepBack 3 none :: ((wsX3_stepBack_r1 ++ (wsX3_stepBack_r2 ++ wsX3_stepBack_r3)) ++ wsX30 ++ wsX20)
def wsX3_endingOf : List Cond := .code yX3_endingOf cX3_endingOf 2 (some .int) :: ([.fieldLink RX3 42 "CoverRounds$Search" "least" "LCoverRounds$Pile;", .fieldLink RX3 25 "CoverRounds$Search" "first" "J", .fieldLink RX3 65 "CoverRounds$Pile" "size" "I", .fieldLink RX3 46 "CoverRounds$Search" "oldCount" "I", .methodLink RX3 102 yX2_hasOneBelow, .instanceMethod yX2_hasOneBelow, .selects RX2 yX2_hasOneBelow yX2_hasOneBelow, .initialized RX2, .code yX2_hasOneBelow cX2_hasOneBelow 5 (some .boolean), .fieldLink RX2 13 "CoverRounds$Pile" "size" "I", .fieldLink RX2 9 "CoverRounds$Pile" "rows" "[J", .methodLink RX2 23 yX1_isAtLeast, .static yX1_isAtLeast, .initialized RX1, .code yX1_isAtLeast cX1_isAtLeast 4 (some .boolean), .constantLong RX1 11 (563500246630912)] ++ wsX30 ++ wsX20)
def wsX3_keepBorn_r1 : List Cond := [Cond.fieldLink RX3 49 "CoverRounds$Search" "born" "LCoverRounds$Pile;", Cond.fieldLink RX3 65 "CoverRounds$Pile" "size" "I", Cond.fieldLink RX3 55 "CoverRounds$Search" "bornFrom" "I", Cond.fieldLink RX3 46 "CoverRounds$Search" "oldCount" "I", Cond.fieldLink RX3 42 "CoverRounds$Search" "least" "LCoverRounds$Pile;", Cond.fieldLink RX3 106 "CoverRounds$Pile" "rows" "[J", Cond.fieldLink RX3 52 "CoverRounds$Search" "bornUpTo" "[I", Cond.methodLink RX3 98 yX2_add, Cond.instanceMethod yX2_add, Cond.selects RX2 yX2_add yX2_add, Cond.initialized RX2, Cond.code yX2_add cX2_add 3 none, Cond.fieldLink RX2 13 "CoverRounds$Pile" "size" "I", Cond.fieldLink RX2 9 "CoverRounds$Pile" "rows" "[J", Cond.methodLink RX2 17 yJ7_copyOf_c38d5, Cond.static yJ7_copyOf_c38d5, Cond.initialized RJ7, Cond.code yJ7_copyOf_c38d5 cJ7_copyOf_c38d5 3 (some (.array .long)), Cond.methodLink RJ7 319 ⟨"[J", "clone", "()Ljava/lang/Object;"⟩, Cond.sameMethod "[J" "java/lang/Object" "clone" "()Ljava/lang/Object;", Cond.native ⟨"java/lang/Object", "clone", "()Ljava/lang/Object;"⟩, Cond.instanceMethod ⟨"java/lang/Object", "clone", "()Ljava/lang/Object;"⟩, Cond.selects "[J" ⟨"[J", "clone", "()Ljava/lang/Object;"⟩ ⟨"java/lang/Object", "clone", "()Ljava/lang/Object;"⟩, Cond.classLink RJ7 320 "[J"]
def wsX3_keepBorn_r2 : List Cond := [Cond.arrayClass .long, Cond.methodLink RJ7 304 Lib.Math.min.name, Cond.static Lib.Math.min.name, Cond.initialized "java/lang/Math", Cond.code Lib.Math.min.name Lib.Math.min.code 2 (some .int), Cond.methodLink RJ7 150 arraycopyName, Cond.native arraycopyName, Cond.static arraycopyName, Cond.initialized "java/lang/System"]
def wsX3_keepBorn : List Cond := .code yX3_keepBorn cX3_keepBorn 3 none :: ((wsX3_keepBorn_r1 ++ wsX3_keepBorn_r2) ++ wsX30 ++ wsX20)
def wsX3_findRow : List Cond := .code yX3_findRow cX3_findRow 8 none :: ([.fieldLink RX3 25 "CoverRounds$Search" "first" "J", .fieldLink RX3 15 "CoverRounds$Search" "last" "I", .fieldLink RX3 52 "CoverRounds$Search" "bornUpTo" "[I", .fieldLink RX3 29 "CoverRounds$Search" "transitions" "I", .fieldLink RX3 32 "CoverRounds$Search" "takes" "[J", .fieldLink RX3 36 "CoverRounds$Search" "gives" "[J", .fieldLink RX3 49 "CoverRounds$Search" "born" "LCoverRounds$Pile;", .fieldLink RX3 22 "CoverRounds$Search" "row" "[I", .methodLink RX3 116 yX1_isAtLeast, .static yX1_isAtLeast, .initialized RX1, .code yX1_isAtLeast cX1_isAtLeast 4 (some .boolean), .constantLong RX1 11 (563500246630912), .methodLink RX3 102 yX2_hasOneBelow, .instanceMethod yX2_hasOneBelow, .selects RX2 yX2_hasOneBelow yX2_hasOneBelow, .initialized RX2, .code yX2_hasOneBelow cX2_hasOneBelow 5 (some .boolean), .fieldLink RX2 13 "CoverRounds$Pile" "size" "I", .fieldLink RX2 9 "CoverRounds$Pile" "rows" "[J", .methodLink RX2 23 yX1_isAtLeast] ++ wsX30 ++ wsX20)
def wsX3_goRounds_r1 : List Cond := [Cond.fieldLink RX3 9 "CoverRounds$Search" "ending" "I", Cond.fieldLink RX3 15 "CoverRounds$Search" "last" "I", Cond.fieldLink RX3 18 "CoverRounds$Search" "leastCounts" "[I", Cond.fieldLink RX3 42 "CoverRounds$Search" "least" "LCoverRounds$Pile;", Cond.fieldLink RX3 65 "CoverRounds$Pile" "size" "I", Cond.methodLink RX3 58 yX3_begin, Cond.instanceMethod yX3_begin, Cond.selects RX3 yX3_begin yX3_begin, Cond.initialized RX3, Cond.code yX3_begin cX3_begin 3 none, Cond.fieldLink RX3 79 "CoverRounds$Net" "first" "[I", Cond.fieldLink RX3 25 "CoverRounds$Search" "first" "J", Cond.fieldLink RX3 89 "CoverRounds$Net" "transitions" "I", Cond.fieldLink RX3 29 "CoverRounds$Search" "transitions" "I", Cond.fieldLink RX3 32 "CoverRounds$Search" "takes" "[J", Cond.fieldLink RX3 90 "CoverRounds$Net" "takes" "[[I", Cond.fieldLink RX3 36 "CoverRounds$Search" "gives" "[J", Cond.fieldLink RX3 93 "CoverRounds$Net" "gives" "[[I", Cond.fieldLink RX3 49 "CoverRounds$Search" "born" "LCoverRounds$Pile;", Cond.fieldLink RX3 95 "CoverRounds$Net" "wanted" "[I", Cond.fieldLink RX3 46 "CoverRounds$Search" "oldCount" "I", Cond.methodLink RX3 83 yX1_of, Cond.static yX1_of, Cond.initialized RX1]
def wsX3_goRounds_r2 : List Cond := [Cond.code yX1_of cX1_of 4 (some .long), Cond.methodLink RX3 98 yX2_add, Cond.instanceMethod yX2_add, Cond.selects RX2 yX2_add yX2_add, Cond.initialized RX2, Cond.code yX2_add cX2_add 3 none, Cond.fieldLink RX2 13 "CoverRounds$Pile" "size" "I", Cond.fieldLink RX2 9 "CoverRounds$Pile" "rows" "[J", Cond.methodLink RX2 17 yJ7_copyOf_c38d5, Cond.static yJ7_copyOf_c38d5, Cond.initialized RJ7, Cond.code yJ7_copyOf_c38d5 cJ7_copyOf_c38d5 3 (some (.array .long)), Cond.methodLink RJ7 319 ⟨"[J", "clone", "()Ljava/lang/Object;"⟩, Cond.sameMethod "[J" "java/lang/Object" "clone" "()Ljava/lang/Object;", Cond.native ⟨"java/lang/Object", "clone", "()Ljava/lang/Object;"⟩, Cond.instanceMethod ⟨"java/lang/Object", "clone", "()Ljava/lang/Object;"⟩, Cond.selects "[J" ⟨"[J", "clone", "()Ljava/lang/Object;"⟩ ⟨"java/lang/Object", "clone", "()Ljava/lang/Object;"⟩, Cond.classLink RJ7 320 "[J", Cond.arrayClass .long, Cond.methodLink RJ7 304 Lib.Math.min.name, Cond.static Lib.Math.min.name, Cond.initialized "java/lang/Math", Cond.code Lib.Math.min.name Lib.Math.min.code 2 (some .int), Cond.methodLink RJ7 150 arraycopyName]
def wsX3_goRounds_r3 : List Cond := [Cond.native arraycopyName, Cond.static arraycopyName, Cond.initialized "java/lang/System", Cond.methodLink RX3 62 yX3_stepBack, Cond.instanceMethod yX3_stepBack, Cond.selects RX3 yX3_stepBack yX3_stepBack, Cond.code yX3_stepBack cX3_stepBack 3 none, Cond.fieldLink RX3 55 "CoverRounds$Search" "bornFrom" "I", Cond.fieldLink RX3 106 "CoverRounds$Pile" "rows" "[J", Cond.methodLink RX3 109 yX1_lessened, Cond.static yX1_lessened, Cond.code yX1_lessened cX1_lessened 10 (some .long), Cond.constantLong RX1 11 (563500246630912), Cond.methodLink RX3 113 yX3_addToLeast, Cond.instanceMethod yX3_addToLeast, Cond.selects RX3 yX3_addToLeast yX3_addToLeast, Cond.code yX3_addToLeast cX3_addToLeast 6 none, Cond.methodLink RX3 102 yX2_hasOneBelow, Cond.instanceMethod yX2_hasOneBelow, Cond.selects RX2 yX2_hasOneBelow yX2_hasOneBelow, Cond.code yX2_hasOneBelow cX2_hasOneBelow 5 (some .boolean), Cond.methodLink RX2 23 yX1_isAtLeast, Cond.static yX1_isAtLeast, Cond.code yX1_isAtLeast cX1_isAtLeast 4 (some .boolean)]
def wsX3_goRounds_r4 : List Cond := [Cond.methodLink RX3 116 yX1_isAtLeast, Cond.methodLink RX3 68 yX3_endingOf, Cond.instanceMethod yX3_endingOf, Cond.selects RX3 yX3_endingOf yX3_endingOf, Cond.code yX3_endingOf cX3_endingOf 2 (some .int), Cond.methodLink RX3 72 yX3_keepBorn, Cond.instanceMethod yX3_keepBorn, Cond.selects RX3 yX3_keepBorn yX3_keepBorn, Cond.code yX3_keepBorn cX3_keepBorn 3 none, Cond.fieldLink RX3 52 "CoverRounds$Search" "bornUpTo" "[I", Cond.methodLink RX3 76 yX3_findRow, Cond.instanceMethod yX3_findRow, Cond.selects RX3 yX3_findRow yX3_findRow, Cond.code yX3_findRow cX3_findRow 8 none, Cond.fieldLink RX3 22 "CoverRounds$Search" "row" "[I"]
def wsX3_goRounds : List Cond := .code yX3_goRounds cX3_goRounds 3 none :: ((wsX3_goRounds_r1 ++ (wsX3_goRounds_r2 ++ (wsX3_goRounds_r3 ++ wsX3_goRounds_r4))) ++ wsX30 ++ wsX20 ++ wsX00)
def wsX4_init : List Cond := .code yX4_init cX4_init 1 none :: ([.methodLink RX4 3 objectInit, .instanceMethod objectInit, .code objectInit ⟨#[0xb1]⟩ 1 none, .fieldLink RX4 9 "CoverRounds$Tree" "isGrown" "Z", .fieldLink RX4 15 "CoverRounds$Tree" "places" "I", .fieldLink RX4 19 "CoverRounds$Tree" "nodes" "I", .fieldLink RX4 22 "CoverRounds$Tree" "limitCount" "I", .arrayClass .boolean, .fieldLink RX4 25 "CoverRounds$Tree" "fires" "[Z", .arrayClass .int, .fieldLink RX4 29 "CoverRounds$Tree" "counts" "[I", .fieldLink RX4 33 "CoverRounds$Tree" "above" "[I", .fieldLink RX4 36 "CoverRounds$Tree" "depth" "[I", .fieldLink RX4 39 "CoverRounds$Tree" "limitNodes" "[I"] ++ wsX40)
def wsX4_begin : List Cond := .code yX4_begin cX4_begin 3 none :: ([.fieldLink RX4 57 "CoverRounds$Net" "places" "I", .fieldLink RX4 15 "CoverRounds$Tree" "places" "I", .fieldLink RX4 25 "CoverRounds$Tree" "fires" "[Z", .fieldLink RX4 60 "CoverRounds$Net" "first" "[I", .fieldLink RX4 29 "CoverRounds$Tree" "counts" "[I", .methodLink RX4 63 arraycopyName, .native arraycopyName, .static arraycopyName, .initialized "java/lang/System", .fieldLink RX4 33 "CoverRounds$Tree" "above" "[I", .fieldLink RX4 36 "CoverRounds$Tree" "depth" "[I", .fieldLink RX4 19 "CoverRounds$Tree" "nodes" "I", .fieldLink RX4 22 "CoverRounds$Tree" "limitCount" "I"] ++ wsX00 ++ wsX40)
def wsX4_isAtLeast : List Cond := .code yX4_isAtLeast cX4_isAtLeast 6 (some .boolean) :: ([.fieldLink RX4 15 "CoverRounds$Tree" "places" "I", .fieldLink RX4 29 "CoverRounds$Tree" "counts" "[I"] ++ wsX40)
def wsX4_hasTwinAbove : List Cond := .code yX4_hasTwinAbove cX4_hasTwinAbove 4 (some .boolean) :: ([.fieldLink RX4 36 "CoverRounds$Tree" "depth" "[I", .fieldLink RX4 33 "CoverRounds$Tree" "above" "[I", .methodLink RX4 69 yX4_isAtLeast, .instanceMethod yX4_isAtLeast, .selects RX4 yX4_isAtLeast yX4_isAtLeast, .initialized RX4, .code yX4_isAtLeast cX4_isAtLeast 6 (some .boolean), .fieldLink RX4 15 "CoverRounds$Tree" "places" "I", .fieldLink RX4 29 "CoverRounds$Tree" "counts" "[I"] ++ wsX40)
def wsX4_countAt : List Cond := .code yX4_countAt cX4_countAt 3 (some .int) :: ([.fieldLink RX4 29 "CoverRounds$Tree" "counts" "[I"] ++ wsX40)
def wsX4_raise : List Cond := .code yX4_raise cX4_raise 6 (some .boolean) :: ([.fieldLink RX4 15 "CoverRounds$Tree" "places" "I", .constant RX4 99 (1000000000), .fieldLink RX4 29 "CoverRounds$Tree" "counts" "[I", .methodLink RX4 95 yX4_countAt, .instanceMethod yX4_countAt, .selects RX4 yX4_countAt yX4_countAt, .initialized RX4, .code yX4_countAt cX4_countAt 3 (some .int)] ++ wsX40)
def wsX4_accelerate : List Cond := .code yX4_accelerate cX4_accelerate 6 none :: ([.fieldLink RX4 15 "CoverRounds$Tree" "places" "I", .fieldLink RX4 36 "CoverRounds$Tree" "depth" "[I", .fieldLink RX4 33 "CoverRounds$Tree" "above" "[I", .methodLink RX4 69 yX4_isAtLeast, .instanceMethod yX4_isAtLeast, .selects RX4 yX4_isAtLeast yX4_isAtLeast, .initialized RX4, .code yX4_isAtLeast cX4_isAtLeast 6 (some .boolean), .fieldLink RX4 29 "CoverRounds$Tree" "counts" "[I", .methodLink RX4 92 yX4_raise, .instanceMethod yX4_raise, .selects RX4 yX4_raise yX4_raise, .code yX4_raise cX4_raise 6 (some .boolean), .constant RX4 99 (1000000000), .methodLink RX4 95 yX4_countAt, .instanceMethod yX4_countAt, .selects RX4 yX4_countAt yX4_countAt, .code yX4_countAt cX4_countAt 3 (some .int)] ++ wsX40)
def wsX4_addChild_r1 : List Cond := [Cond.fieldLink RX4 19 "CoverRounds$Tree" "nodes" "I", Cond.fieldLink RX4 33 "CoverRounds$Tree" "above" "[I", Cond.fieldLink RX4 36 "CoverRounds$Tree" "depth" "[I", Cond.fieldLink RX4 29 "CoverRounds$Tree" "counts" "[I", Cond.methodLink RX4 63 arraycopyName, Cond.native arraycopyName, Cond.static arraycopyName, Cond.initialized "java/lang/System", Cond.methodLink RX4 84 yX0_move, Cond.instanceMethod yX0_move, Cond.selects RX0 yX0_move yX0_move, Cond.initialized RX0, Cond.code yX0_move cX0_move 5 none, Cond.fieldLink RX0 9 "CoverRounds$Net" "places" "I", Cond.constant RX0 33 (1000000000), Cond.fieldLink RX0 30 "CoverRounds$Net" "gives" "[[I", Cond.fieldLink RX0 27 "CoverRounds$Net" "takes" "[[I", Cond.methodLink RX4 88 yX4_accelerate, Cond.instanceMethod yX4_accelerate, Cond.selects RX4 yX4_accelerate yX4_accelerate, Cond.initialized RX4, Cond.code yX4_accelerate cX4_accelerate 6 none, Cond.fieldLink RX4 15 "CoverRounds$Tree" "places" "I", Cond.methodLink RX4 69 yX4_isAtLeast]
def wsX4_addChild_r2 : List Cond := [Cond.instanceMethod yX4_isAtLeast, Cond.selects RX4 yX4_isAtLeast yX4_isAtLeast, Cond.code yX4_isAtLeast cX4_isAtLeast 6 (some .boolean), Cond.methodLink RX4 92 yX4_raise, Cond.instanceMethod yX4_raise, Cond.selects RX4 yX4_raise yX4_raise, Cond.code yX4_raise cX4_raise 6 (some .boolean), Cond.constant RX4 99 (1000000000), Cond.methodLink RX4 95 yX4_countAt, Cond.instanceMethod yX4_countAt, Cond.selects RX4 yX4_countAt yX4_countAt, Cond.code yX4_countAt cX4_countAt 3 (some .int)]
def wsX4_addChild : List Cond := .code yX4_addChild cX4_addChild 5 none :: ((wsX4_addChild_r1 ++ wsX4_addChild_r2) ++ wsX40 ++ wsX00)
def wsX4_addChildren_r1 : List Cond := [Cond.fieldLink RX4 73 "CoverRounds$Net" "transitions" "I", Cond.fieldLink RX4 29 "CoverRounds$Tree" "counts" "[I", Cond.fieldLink RX4 19 "CoverRounds$Tree" "nodes" "I", Cond.fieldLink RX4 25 "CoverRounds$Tree" "fires" "[Z", Cond.methodLink RX4 76 yX0_canFire, Cond.instanceMethod yX0_canFire, Cond.selects RX0 yX0_canFire yX0_canFire, Cond.initialized RX0, Cond.code yX0_canFire cX0_canFire 6 (some .boolean), Cond.fieldLink RX0 27 "CoverRounds$Net" "takes" "[[I", Cond.fieldLink RX0 9 "CoverRounds$Net" "places" "I", Cond.methodLink RX4 80 yX4_addChild, Cond.instanceMethod yX4_addChild, Cond.selects RX4 yX4_addChild yX4_addChild, Cond.initialized RX4, Cond.code yX4_addChild cX4_addChild 5 none, Cond.fieldLink RX4 33 "CoverRounds$Tree" "above" "[I", Cond.fieldLink RX4 36 "CoverRounds$Tree" "depth" "[I", Cond.methodLink RX4 63 arraycopyName, Cond.native arraycopyName, Cond.static arraycopyName, Cond.initialized "java/lang/System", Cond.methodLink RX4 84 yX0_move, Cond.instanceMethod yX0_move]
def wsX4_addChildren_r2 : List Cond := [Cond.selects RX0 yX0_move yX0_move, Cond.code yX0_move cX0_move 5 none, Cond.constant RX0 33 (1000000000), Cond.fieldLink RX0 30 "CoverRounds$Net" "gives" "[[I", Cond.methodLink RX4 88 yX4_accelerate, Cond.instanceMethod yX4_accelerate, Cond.selects RX4 yX4_accelerate yX4_accelerate, Cond.code yX4_accelerate cX4_accelerate 6 none, Cond.fieldLink RX4 15 "CoverRounds$Tree" "places" "I", Cond.methodLink RX4 69 yX4_isAtLeast, Cond.instanceMethod yX4_isAtLeast, Cond.selects RX4 yX4_isAtLeast yX4_isAtLeast, Cond.code yX4_isAtLeast cX4_isAtLeast 6 (some .boolean), Cond.methodLink RX4 92 yX4_raise, Cond.instanceMethod yX4_raise, Cond.selects RX4 yX4_raise yX4_raise, Cond.code yX4_raise cX4_raise 6 (some .boolean), Cond.constant RX4 99 (1000000000), Cond.methodLink RX4 95 yX4_countAt, Cond.instanceMethod yX4_countAt, Cond.selects RX4 yX4_countAt yX4_countAt, Cond.code yX4_countAt cX4_countAt 3 (some .int)]
def wsX4_addChildren : List Cond := .code yX4_addChildren cX4_addChildren 4 (some .boolean) :: ((wsX4_addChildren_r1 ++ wsX4_addChildren_r2) ++ wsX00 ++ wsX40)
def wsX4_hasLimitOver : List Cond := .code yX4_hasLimitOver cX4_hasLimitOver 3 (some .boolean) :: ([.fieldLink RX4 22 "CoverRounds$Tree" "limitCount" "I", .fieldLink RX4 39 "CoverRounds$Tree" "limitNodes" "[I", .methodLink RX4 69 yX4_isAtLeast, .instanceMethod yX4_isAtLeast, .selects RX4 yX4_isAtLeast yX4_isAtLeast, .initialized RX4, .code yX4_isAtLeast cX4_isAtLeast 6 (some .boolean), .fieldLink RX4 15 "CoverRounds$Tree" "places" "I", .fieldLink RX4 29 "CoverRounds$Tree" "counts" "[I"] ++ wsX40)
def wsX4_dropLimitsUnder : List Cond := .code yX4_dropLimitsUnder cX4_dropLimitsUnder 4 none :: ([.fieldLink RX4 22 "CoverRounds$Tree" "limitCount" "I", .fieldLink RX4 39 "CoverRounds$Tree" "limitNodes" "[I", .methodLink RX4 69 yX4_isAtLeast, .instanceMethod yX4_isAtLeast, .selects RX4 yX4_isAtLeast yX4_isAtLeast, .initialized RX4, .code yX4_isAtLeast cX4_isAtLeast 6 (some .boolean), .fieldLink RX4 15 "CoverRounds$Tree" "places" "I", .fieldLink RX4 29 "CoverRounds$Tree" "counts" "[I"] ++ wsX40)
def wsX4_comesBefore : List Cond := .code yX4_comesBefore cX4_comesBefore 4 (some .boolean) :: ([.fieldLink RX4 15 "CoverRounds$Tree" "places" "I", .methodLink RX4 95 yX4_countAt, .instanceMethod yX4_countAt, .selects RX4 yX4_countAt yX4_countAt, .initialized RX4, .code yX4_countAt cX4_countAt 3 (some .int), .fieldLink RX4 29 "CoverRounds$Tree" "counts" "[I"] ++ wsX40)
def wsX4_insertLimit : List Cond := .code yX4_insertLimit cX4_insertLimit 3 none :: ([.fieldLink RX4 22 "CoverRounds$Tree" "limitCount" "I", .fieldLink RX4 39 "CoverRounds$Tree" "limitNodes" "[I", .methodLink RX4 109 yX4_comesBefore, .instanceMethod yX4_comesBefore, .selects RX4 yX4_comesBefore yX4_comesBefore, .initialized RX4, .code yX4_comesBefore cX4_comesBefore 4 (some .boolean), .fieldLink RX4 15 "CoverRounds$Tree" "places" "I", .methodLink RX4 95 yX4_countAt, .instanceMethod yX4_countAt, .selects RX4 yX4_countAt yX4_countAt, .code yX4_countAt cX4_countAt 3 (some .int), .fieldLink RX4 29 "CoverRounds$Tree" "counts" "[I"] ++ wsX40)
def wsX4_gatherLimits_r1 : List Cond := [Cond.fieldLink RX4 19 "CoverRounds$Tree" "nodes" "I", Cond.methodLink RX4 100 yX4_hasLimitOver, Cond.instanceMethod yX4_hasLimitOver, Cond.selects RX4 yX4_hasLimitOver yX4_hasLimitOver, Cond.initialized RX4, Cond.code yX4_hasLimitOver cX4_hasLimitOver 3 (some .boolean), Cond.fieldLink RX4 22 "CoverRounds$Tree" "limitCount" "I", Cond.fieldLink RX4 39 "CoverRounds$Tree" "limitNodes" "[I", Cond.methodLink RX4 69 yX4_isAtLeast, Cond.instanceMethod yX4_isAtLeast, Cond.selects RX4 yX4_isAtLeast yX4_isAtLeast, Cond.code yX4_isAtLeast cX4_isAtLeast 6 (some .boolean), Cond.fieldLink RX4 15 "CoverRounds$Tree" "places" "I", Cond.fieldLink RX4 29 "CoverRounds$Tree" "counts" "[I", Cond.methodLink RX4 103 yX4_dropLimitsUnder, Cond.instanceMethod yX4_dropLimitsUnder, Cond.selects RX4 yX4_dropLimitsUnder yX4_dropLimitsUnder, Cond.code yX4_dropLimitsUnder cX4_dropLimitsUnder 4 none, Cond.methodLink RX4 106 yX4_insertLimit, Cond.instanceMethod yX4_insertLimit, Cond.selects RX4 yX4_insertLimit yX4_insertLimit, Cond.code yX4_insertLimit cX4_insertLimit 3 none, Cond.methodLink RX4 109 yX4_comesBefore, Cond.instanceMethod yX4_comesBefore]
def wsX4_gatherLimits_r2 : List Cond := [Cond.selects RX4 yX4_comesBefore yX4_comesBefore, Cond.code yX4_comesBefore cX4_comesBefore 4 (some .boolean), Cond.methodLink RX4 95 yX4_countAt, Cond.instanceMethod yX4_countAt, Cond.selects RX4 yX4_countAt yX4_countAt, Cond.code yX4_countAt cX4_countAt 3 (some .int)]
def wsX4_gatherLimits : List Cond := .code yX4_gatherLimits cX4_gatherLimits 2 none :: ((wsX4_gatherLimits_r1 ++ wsX4_gatherLimits_r2) ++ wsX40)
def wsX4_growFrom_r1 : List Cond := [Cond.fieldLink RX4 19 "CoverRounds$Tree" "nodes" "I", Cond.fieldLink RX4 9 "CoverRounds$Tree" "isGrown" "Z", Cond.methodLink RX4 42 yX4_begin, Cond.instanceMethod yX4_begin, Cond.selects RX4 yX4_begin yX4_begin, Cond.initialized RX4, Cond.code yX4_begin cX4_begin 3 none, Cond.fieldLink RX4 57 "CoverRounds$Net" "places" "I", Cond.fieldLink RX4 15 "CoverRounds$Tree" "places" "I", Cond.fieldLink RX4 25 "CoverRounds$Tree" "fires" "[Z", Cond.fieldLink RX4 60 "CoverRounds$Net" "first" "[I", Cond.fieldLink RX4 29 "CoverRounds$Tree" "counts" "[I", Cond.methodLink RX4 63 arraycopyName, Cond.native arraycopyName, Cond.static arraycopyName, Cond.initialized "java/lang/System", Cond.fieldLink RX4 33 "CoverRounds$Tree" "above" "[I", Cond.fieldLink RX4 36 "CoverRounds$Tree" "depth" "[I", Cond.fieldLink RX4 22 "CoverRounds$Tree" "limitCount" "I", Cond.methodLink RX4 46 yX4_hasTwinAbove, Cond.instanceMethod yX4_hasTwinAbove, Cond.selects RX4 yX4_hasTwinAbove yX4_hasTwinAbove, Cond.code yX4_hasTwinAbove cX4_hasTwinAbove 4 (some .boolean), Cond.methodLink RX4 69 yX4_isAtLeast]
def wsX4_growFrom_r2 : List Cond := [Cond.instanceMethod yX4_isAtLeast, Cond.selects RX4 yX4_isAtLeast yX4_isAtLeast, Cond.code yX4_isAtLeast cX4_isAtLeast 6 (some .boolean), Cond.methodLink RX4 50 yX4_addChildren, Cond.instanceMethod yX4_addChildren, Cond.selects RX4 yX4_addChildren yX4_addChildren, Cond.code yX4_addChildren cX4_addChildren 4 (some .boolean), Cond.fieldLink RX4 73 "CoverRounds$Net" "transitions" "I", Cond.methodLink RX4 76 yX0_canFire, Cond.instanceMethod yX0_canFire, Cond.selects RX0 yX0_canFire yX0_canFire, Cond.initialized RX0, Cond.code yX0_canFire cX0_canFire 6 (some .boolean), Cond.fieldLink RX0 27 "CoverRounds$Net" "takes" "[[I", Cond.fieldLink RX0 9 "CoverRounds$Net" "places" "I", Cond.methodLink RX4 80 yX4_addChild, Cond.instanceMethod yX4_addChild, Cond.selects RX4 yX4_addChild yX4_addChild, Cond.code yX4_addChild cX4_addChild 5 none, Cond.methodLink RX4 84 yX0_move, Cond.instanceMethod yX0_move, Cond.selects RX0 yX0_move yX0_move, Cond.code yX0_move cX0_move 5 none, Cond.constant RX0 33 (1000000000)]
def wsX4_growFrom_r3 : List Cond := [Cond.fieldLink RX0 30 "CoverRounds$Net" "gives" "[[I", Cond.methodLink RX4 88 yX4_accelerate, Cond.instanceMethod yX4_accelerate, Cond.selects RX4 yX4_accelerate yX4_accelerate, Cond.code yX4_accelerate cX4_accelerate 6 none, Cond.methodLink RX4 92 yX4_raise, Cond.instanceMethod yX4_raise, Cond.selects RX4 yX4_raise yX4_raise, Cond.code yX4_raise cX4_raise 6 (some .boolean), Cond.constant RX4 99 (1000000000), Cond.methodLink RX4 95 yX4_countAt, Cond.instanceMethod yX4_countAt, Cond.selects RX4 yX4_countAt yX4_countAt, Cond.code yX4_countAt cX4_countAt 3 (some .int), Cond.methodLink RX4 54 yX4_gatherLimits, Cond.instanceMethod yX4_gatherLimits, Cond.selects RX4 yX4_gatherLimits yX4_gatherLimits, Cond.code yX4_gatherLimits cX4_gatherLimits 2 none, Cond.methodLink RX4 100 yX4_hasLimitOver, Cond.instanceMethod yX4_hasLimitOver, Cond.selects RX4 yX4_hasLimitOver yX4_hasLimitOver, Cond.code yX4_hasLimitOver cX4_hasLimitOver 3 (some .boolean), Cond.fieldLink RX4 39 "CoverRounds$Tree" "limitNodes" "[I", Cond.methodLink RX4 103 yX4_dropLimitsUnder]
def wsX4_growFrom_r4 : List Cond := [Cond.instanceMethod yX4_dropLimitsUnder, Cond.selects RX4 yX4_dropLimitsUnder yX4_dropLimitsUnder, Cond.code yX4_dropLimitsUnder cX4_dropLimitsUnder 4 none, Cond.methodLink RX4 106 yX4_insertLimit, Cond.instanceMethod yX4_insertLimit, Cond.selects RX4 yX4_insertLimit yX4_insertLimit, Cond.code yX4_insertLimit cX4_insertLimit 3 none, Cond.methodLink RX4 109 yX4_comesBefore, Cond.instanceMethod yX4_comesBefore, Cond.selects RX4 yX4_comesBefore yX4_comesBefore, Cond.code yX4_comesBefore cX4_comesBefore 4 (some .boolean)]
def wsX4_growFrom : List Cond := .code yX4_growFrom cX4_growFrom 4 none :: ((wsX4_growFrom_r1 ++ (wsX4_growFrom_r2 ++ (wsX4_growFrom_r3 ++ wsX4_growFrom_r4))) ++ wsX40 ++ wsX00)
def wsX4_hasPlace : List Cond := .code yX4_hasPlace cX4_hasPlace 2 (some .boolean) :: ([.fieldLink RX4 15 "CoverRounds$Tree" "places" "I"] ++ wsX40)
def wsX4_limitAt : List Cond := .code yX4_limitAt cX4_limitAt 3 (some .int) :: ([.fieldLink RX4 39 "CoverRounds$Tree" "limitNodes" "[I", .methodLink RX4 95 yX4_countAt, .instanceMethod yX4_countAt, .selects RX4 yX4_countAt yX4_countAt, .initialized RX4, .code yX4_countAt cX4_countAt 3 (some .int), .fieldLink RX4 29 "CoverRounds$Tree" "counts" "[I"] ++ wsX40)
def wsX4_mostAt : List Cond := .code yX4_mostAt cX4_mostAt 4 (some .int) :: ([.fieldLink RX4 22 "CoverRounds$Tree" "limitCount" "I", .methodLink RX4 115 Lib.Math.max.name, .static Lib.Math.max.name, .initialized "java/lang/Math", .code Lib.Math.max.name Lib.Math.max.code 2 (some .int), .methodLink RX4 112 yX4_limitAt, .instanceMethod yX4_limitAt, .selects RX4 yX4_limitAt yX4_limitAt, .initialized RX4, .code yX4_limitAt cX4_limitAt 3 (some .int), .fieldLink RX4 39 "CoverRounds$Tree" "limitNodes" "[I", .methodLink RX4 95 yX4_countAt, .instanceMethod yX4_countAt, .selects RX4 yX4_countAt yX4_countAt, .code yX4_countAt cX4_countAt 3 (some .int), .fieldLink RX4 29 "CoverRounds$Tree" "counts" "[I"] ++ wsX40)
def wsX4_limitReaches : List Cond := .code yX4_limitReaches cX4_limitReaches 4 (some .boolean) :: ([.fieldLink RX4 15 "CoverRounds$Tree" "places" "I", .methodLink RX4 112 yX4_limitAt, .instanceMethod yX4_limitAt, .selects RX4 yX4_limitAt yX4_limitAt, .initialized RX4, .code yX4_limitAt cX4_limitAt 3 (some .int), .fieldLink RX4 39 "CoverRounds$Tree" "limitNodes" "[I", .methodLink RX4 95 yX4_countAt, .instanceMethod yX4_countAt, .selects RX4 yX4_countAt yX4_countAt, .code yX4_countAt cX4_countAt 3 (some .int), .fieldLink RX4 29 "CoverRounds$Tree" "counts" "[I"] ++ wsX40)
def wsX4_reaches : List Cond := .code yX4_reaches cX4_reaches 3 (some .boolean) :: ([.fieldLink RX4 22 "CoverRounds$Tree" "limitCount" "I", .methodLink RX4 120 yX4_limitReaches, .instanceMethod yX4_limitReaches, .selects RX4 yX4_limitReaches yX4_limitReaches, .initialized RX4, .code yX4_limitReaches cX4_limitReaches 4 (some .boolean), .fieldLink RX4 15 "CoverRounds$Tree" "places" "I", .methodLink RX4 112 yX4_limitAt, .instanceMethod yX4_limitAt, .selects RX4 yX4_limitAt yX4_limitAt, .code yX4_limitAt cX4_limitAt 3 (some .int), .fieldLink RX4 39 "CoverRounds$Tree" "limitNodes" "[I", .methodLink RX4 95 yX4_countAt, .instanceMethod yX4_countAt, .selects RX4 yX4_countAt yX4_countAt, .code yX4_countAt cX4_countAt 3 (some .int), .fieldLink RX4 29 "CoverRounds$Tree" "counts" "[I"] ++ wsX40)
def wsX5_init_r1 : List Cond := [Cond.methodLink RX5 3 objectInit, Cond.instanceMethod objectInit, Cond.code objectInit ⟨#[0xb1]⟩ 1 none, Cond.classLink RX5 9 RX0, Cond.instantiable RX0 6, Cond.initialized RX0, Cond.fieldLink RX5 12 "CoverRounds" "net" "LCoverRounds$Net;", Cond.arrayClass .int, Cond.fieldLink RX5 16 "CoverRounds" "now" "[I", Cond.classLink RX5 20 RX3, Cond.instantiable RX3 13, Cond.initialized RX3, Cond.fieldLink RX5 23 "CoverRounds" "search" "LCoverRounds$Search;", Cond.classLink RX5 27 RX4, Cond.instantiable RX4 9, Cond.initialized RX4, Cond.fieldLink RX5 30 "CoverRounds" "tree" "LCoverRounds$Tree;", Cond.instanceMethod yX0_init, Cond.code yX0_init cX0_init 1 none, Cond.methodLink RX0 3 objectInit, Cond.fieldLink RX0 9 "CoverRounds$Net" "places" "I", Cond.fieldLink RX0 15 "CoverRounds$Net" "transitions" "I", Cond.fieldLink RX0 18 "CoverRounds$Net" "first" "[I", Cond.fieldLink RX0 22 "CoverRounds$Net" "wanted" "[I"]
def wsX5_init_r2 : List Cond := [Cond.classLink RX0 25 "[[I", Cond.fieldLink RX0 27 "CoverRounds$Net" "takes" "[[I", Cond.fieldLink RX0 30 "CoverRounds$Net" "gives" "[[I", Cond.instanceMethod yX3_init, Cond.code yX3_init cX3_init 1 none, Cond.methodLink RX3 3 objectInit, Cond.fieldLink RX3 9 "CoverRounds$Search" "ending" "I", Cond.fieldLink RX3 15 "CoverRounds$Search" "last" "I", Cond.fieldLink RX3 18 "CoverRounds$Search" "leastCounts" "[I", Cond.fieldLink RX3 22 "CoverRounds$Search" "row" "[I", Cond.fieldLink RX3 25 "CoverRounds$Search" "first" "J", Cond.fieldLink RX3 29 "CoverRounds$Search" "transitions" "I", Cond.arrayClass .long, Cond.fieldLink RX3 32 "CoverRounds$Search" "takes" "[J", Cond.fieldLink RX3 36 "CoverRounds$Search" "gives" "[J", Cond.classLink RX3 39 RX2, Cond.instantiable RX2 2, Cond.initialized RX2, Cond.fieldLink RX3 42 "CoverRounds$Search" "least" "LCoverRounds$Pile;", Cond.fieldLink RX3 46 "CoverRounds$Search" "oldCount" "I", Cond.fieldLink RX3 49 "CoverRounds$Search" "born" "LCoverRounds$Pile;", Cond.fieldLink RX3 52 "CoverRounds$Search" "bornUpTo" "[I", Cond.fieldLink RX3 55 "CoverRounds$Search" "bornFrom" "I", Cond.instanceMethod yX2_init]
def wsX5_init_r3 : List Cond := [Cond.code yX2_init cX2_init 1 none, Cond.methodLink RX2 1 objectInit, Cond.fieldLink RX2 9 "CoverRounds$Pile" "rows" "[J", Cond.fieldLink RX2 13 "CoverRounds$Pile" "size" "I", Cond.instanceMethod yX4_init, Cond.code yX4_init cX4_init 1 none, Cond.methodLink RX4 3 objectInit, Cond.fieldLink RX4 9 "CoverRounds$Tree" "isGrown" "Z", Cond.fieldLink RX4 15 "CoverRounds$Tree" "places" "I", Cond.fieldLink RX4 19 "CoverRounds$Tree" "nodes" "I", Cond.fieldLink RX4 22 "CoverRounds$Tree" "limitCount" "I", Cond.arrayClass .boolean, Cond.fieldLink RX4 25 "CoverRounds$Tree" "fires" "[Z", Cond.fieldLink RX4 29 "CoverRounds$Tree" "counts" "[I", Cond.fieldLink RX4 33 "CoverRounds$Tree" "above" "[I", Cond.fieldLink RX4 36 "CoverRounds$Tree" "depth" "[I", Cond.fieldLink RX4 39 "CoverRounds$Tree" "limitNodes" "[I"]
def wsX5_init : List Cond := .code yX5_init cX5_init 1 none :: ((wsX5_init_r1 ++ (wsX5_init_r2 ++ wsX5_init_r3)) ++ wsX00 ++ wsX50 ++ wsX30 ++ wsX40 ++ wsX20)
def wsX5_isWithin : List Cond := .code yX5_isWithin cX5_isWithin 2 (some .boolean) :: ([])
def wsX5_goBackToFirst : List Cond := .code yX5_goBackToFirst cX5_goBackToFirst 1 none :: ([.fieldLink RX5 12 "CoverRounds" "net" "LCoverRounds$Net;", .fieldLink RX5 42 "CoverRounds$Net" "first" "[I", .fieldLink RX5 16 "CoverRounds" "now" "[I", .methodLink RX5 130 arraycopyName, .native arraycopyName, .static arraycopyName, .initialized "java/lang/System"] ++ wsX50 ++ wsX00)
def wsX5_place : List Cond := .code yX5_place cX5_place 3 (some .int) :: ([.fieldLink RX5 12 "CoverRounds" "net" "LCoverRounds$Net;", .fieldLink RX5 34 "CoverRounds$Net" "places" "I", .fieldLink RX5 42 "CoverRounds$Net" "first" "[I", .methodLink RX5 38 yX5_isWithin, .static yX5_isWithin, .initialized RX5, .code yX5_isWithin cX5_isWithin 2 (some .boolean), .methodLink RX5 45 yX5_goBackToFirst, .instanceMethod yX5_goBackToFirst, .selects RX5 yX5_goBackToFirst yX5_goBackToFirst, .code yX5_goBackToFirst cX5_goBackToFirst 1 none, .fieldLink RX5 16 "CoverRounds" "now" "[I", .methodLink RX5 130 arraycopyName, .native arraycopyName, .static arraycopyName, .initialized "java/lang/System"] ++ wsX50 ++ wsX00)
def wsX5_transition : List Cond := .code yX5_transition cX5_transition 2 (some .int) :: ([.fieldLink RX5 12 "CoverRounds" "net" "LCoverRounds$Net;", .fieldLink RX5 48 "CoverRounds$Net" "transitions" "I", .methodLink RX5 45 yX5_goBackToFirst, .instanceMethod yX5_goBackToFirst, .selects RX5 yX5_goBackToFirst yX5_goBackToFirst, .initialized RX5, .code yX5_goBackToFirst cX5_goBackToFirst 1 none, .fieldLink RX5 42 "CoverRounds$Net" "first" "[I", .fieldLink RX5 16 "CoverRounds" "now" "[I", .methodLink RX5 130 arraycopyName, .native arraycopyName, .static arraycopyName, .initialized "java/lang/System"] ++ wsX50 ++ wsX00)
def wsX5_arc_r1 : List Cond := [Cond.fieldLink RX5 12 "CoverRounds" "net" "LCoverRounds$Net;", Cond.fieldLink RX5 58 "CoverRounds$Net" "takes" "[[I", Cond.fieldLink RX5 62 "CoverRounds$Net" "gives" "[[I", Cond.methodLink RX5 51 yX0_hasTransition, Cond.instanceMethod yX0_hasTransition, Cond.selects RX0 yX0_hasTransition yX0_hasTransition, Cond.initialized RX0, Cond.code yX0_hasTransition cX0_hasTransition 2 (some .boolean), Cond.fieldLink RX0 15 "CoverRounds$Net" "transitions" "I", Cond.methodLink RX5 55 yX0_hasPlace, Cond.instanceMethod yX0_hasPlace, Cond.selects RX0 yX0_hasPlace yX0_hasPlace, Cond.code yX0_hasPlace cX0_hasPlace 2 (some .boolean), Cond.fieldLink RX0 9 "CoverRounds$Net" "places" "I", Cond.methodLink RX5 38 yX5_isWithin, Cond.static yX5_isWithin, Cond.initialized RX5, Cond.code yX5_isWithin cX5_isWithin 2 (some .boolean), Cond.methodLink RX5 45 yX5_goBackToFirst, Cond.instanceMethod yX5_goBackToFirst, Cond.selects RX5 yX5_goBackToFirst yX5_goBackToFirst, Cond.code yX5_goBackToFirst cX5_goBackToFirst 1 none, Cond.fieldLink RX5 42 "CoverRounds$Net" "first" "[I", Cond.fieldLink RX5 16 "CoverRounds" "now" "[I"]
def wsX5_arc_r2 : List Cond := [Cond.methodLink RX5 130 arraycopyName, Cond.native arraycopyName, Cond.static arraycopyName, Cond.initialized "java/lang/System"]
def wsX5_arc : List Cond := .code yX5_arc cX5_arc 5 (some .boolean) :: ((wsX5_arc_r1 ++ wsX5_arc_r2) ++ wsX50 ++ wsX00)
def wsX5_target : List Cond := .code yX5_target cX5_target 3 (some .boolean) :: ([.fieldLink RX5 12 "CoverRounds" "net" "LCoverRounds$Net;", .fieldLink RX5 65 "CoverRounds$Net" "wanted" "[I", .methodLink RX5 55 yX0_hasPlace, .instanceMethod yX0_hasPlace, .selects RX0 yX0_hasPlace yX0_hasPlace, .initialized RX0, .code yX0_hasPlace cX0_hasPlace 2 (some .boolean), .fieldLink RX0 9 "CoverRounds$Net" "places" "I", .methodLink RX5 38 yX5_isWithin, .static yX5_isWithin, .initialized RX5, .code yX5_isWithin cX5_isWithin 2 (some .boolean)] ++ wsX50 ++ wsX00)
def wsX5_rounds_r1 : List Cond := [Cond.fieldLink RX5 23 "CoverRounds" "search" "LCoverRounds$Search;", Cond.fieldLink RX5 12 "CoverRounds" "net" "LCoverRounds$Net;", Cond.fieldLink RX5 72 "CoverRounds$Search" "ending" "I", Cond.methodLink RX5 68 yX3_goRounds, Cond.instanceMethod yX3_goRounds, Cond.selects RX3 yX3_goRounds yX3_goRounds, Cond.initialized RX3, Cond.code yX3_goRounds cX3_goRounds 3 none, Cond.fieldLink RX3 9 "CoverRounds$Search" "ending" "I", Cond.fieldLink RX3 15 "CoverRounds$Search" "last" "I", Cond.fieldLink RX3 18 "CoverRounds$Search" "leastCounts" "[I", Cond.fieldLink RX3 42 "CoverRounds$Search" "least" "LCoverRounds$Pile;", Cond.fieldLink RX3 65 "CoverRounds$Pile" "size" "I", Cond.methodLink RX3 58 yX3_begin, Cond.instanceMethod yX3_begin, Cond.selects RX3 yX3_begin yX3_begin, Cond.code yX3_begin cX3_begin 3 none, Cond.fieldLink RX3 79 "CoverRounds$Net" "first" "[I", Cond.fieldLink RX3 25 "CoverRounds$Search" "first" "J", Cond.fieldLink RX3 89 "CoverRounds$Net" "transitions" "I", Cond.fieldLink RX3 29 "CoverRounds$Search" "transitions" "I", Cond.fieldLink RX3 32 "CoverRounds$Search" "takes" "[J", Cond.fieldLink RX3 90 "CoverRounds$Net" "takes" "[[I", Cond.fieldLink RX3 36 "CoverRounds$Search" "gives" "[J"]
def wsX5_rounds_r2 : List Cond := [Cond.fieldLink RX3 93 "CoverRounds$Net" "gives" "[[I", Cond.fieldLink RX3 49 "CoverRounds$Search" "born" "LCoverRounds$Pile;", Cond.fieldLink RX3 95 "CoverRounds$Net" "wanted" "[I", Cond.fieldLink RX3 46 "CoverRounds$Search" "oldCount" "I", Cond.methodLink RX3 83 yX1_of, Cond.static yX1_of, Cond.initialized RX1, Cond.code yX1_of cX1_of 4 (some .long), Cond.methodLink RX3 98 yX2_add, Cond.instanceMethod yX2_add, Cond.selects RX2 yX2_add yX2_add, Cond.initialized RX2, Cond.code yX2_add cX2_add 3 none, Cond.fieldLink RX2 13 "CoverRounds$Pile" "size" "I", Cond.fieldLink RX2 9 "CoverRounds$Pile" "rows" "[J", Cond.methodLink RX2 17 yJ7_copyOf_c38d5, Cond.static yJ7_copyOf_c38d5, Cond.initialized RJ7, Cond.code yJ7_copyOf_c38d5 cJ7_copyOf_c38d5 3 (some (.array .long)), Cond.methodLink RJ7 319 ⟨"[J", "clone", "()Ljava/lang/Object;"⟩, Cond.sameMethod "[J" "java/lang/Object" "clone" "()Ljava/lang/Object;", Cond.native ⟨"java/lang/Object", "clone", "()Ljava/lang/Object;"⟩, Cond.instanceMethod ⟨"java/lang/Object", "clone", "()Ljava/lang/Object;"⟩, Cond.selects "[J" ⟨"[J", "clone", "()Ljava/lang/Object;"⟩ ⟨"java/lang/Object", "clone", "()Ljava/lang/Object;"⟩]
def wsX5_rounds_r3 : List Cond := [Cond.classLink RJ7 320 "[J", Cond.arrayClass .long, Cond.methodLink RJ7 304 Lib.Math.min.name, Cond.static Lib.Math.min.name, Cond.initialized "java/lang/Math", Cond.code Lib.Math.min.name Lib.Math.min.code 2 (some .int), Cond.methodLink RJ7 150 arraycopyName, Cond.native arraycopyName, Cond.static arraycopyName, Cond.initialized "java/lang/System", Cond.methodLink RX3 62 yX3_stepBack, Cond.instanceMethod yX3_stepBack, Cond.selects RX3 yX3_stepBack yX3_stepBack, Cond.code yX3_stepBack cX3_stepBack 3 none, Cond.fieldLink RX3 55 "CoverRounds$Search" "bornFrom" "I", Cond.fieldLink RX3 106 "CoverRounds$Pile" "rows" "[J", Cond.methodLink RX3 109 yX1_lessened, Cond.static yX1_lessened, Cond.code yX1_lessened cX1_lessened 10 (some .long), Cond.constantLong RX1 11 (563500246630912), Cond.methodLink RX3 113 yX3_addToLeast, Cond.instanceMethod yX3_addToLeast, Cond.selects RX3 yX3_addToLeast yX3_addToLeast, Cond.code yX3_addToLeast cX3_addToLeast 6 none]
def wsX5_rounds_r4 : List Cond := [Cond.methodLink RX3 102 yX2_hasOneBelow, Cond.instanceMethod yX2_hasOneBelow, Cond.selects RX2 yX2_hasOneBelow yX2_hasOneBelow, Cond.code yX2_hasOneBelow cX2_hasOneBelow 5 (some .boolean), Cond.methodLink RX2 23 yX1_isAtLeast, Cond.static yX1_isAtLeast, Cond.code yX1_isAtLeast cX1_isAtLeast 4 (some .boolean), Cond.methodLink RX3 116 yX1_isAtLeast, Cond.methodLink RX3 68 yX3_endingOf, Cond.instanceMethod yX3_endingOf, Cond.selects RX3 yX3_endingOf yX3_endingOf, Cond.code yX3_endingOf cX3_endingOf 2 (some .int), Cond.methodLink RX3 72 yX3_keepBorn, Cond.instanceMethod yX3_keepBorn, Cond.selects RX3 yX3_keepBorn yX3_keepBorn, Cond.code yX3_keepBorn cX3_keepBorn 3 none, Cond.fieldLink RX3 52 "CoverRounds$Search" "bornUpTo" "[I", Cond.methodLink RX3 76 yX3_findRow, Cond.instanceMethod yX3_findRow, Cond.selects RX3 yX3_findRow yX3_findRow, Cond.code yX3_findRow cX3_findRow 8 none, Cond.fieldLink RX3 22 "CoverRounds$Search" "row" "[I"]
def wsX5_rounds : List Cond := .code yX5_rounds cX5_rounds 1 (some .int) :: ((wsX5_rounds_r1 ++ (wsX5_rounds_r2 ++ (wsX5_rounds_r3 ++ wsX5_rounds_r4))) ++ wsX50 ++ wsX30 ++ wsX20 ++ wsX00)
def wsX5_steps : List Cond := .code yX5_steps cX5_steps 1 (some .int) :: ([.fieldLink RX5 23 "CoverRounds" "search" "LCoverRounds$Search;", .fieldLink RX5 72 "CoverRounds$Search" "ending" "I", .fieldLink RX5 75 "CoverRounds$Search" "last" "I"] ++ wsX50 ++ wsX30)
def wsX5_witness : List Cond := .code yX5_witness cX5_witness 2 (some .int) :: ([.fieldLink RX5 23 "CoverRounds" "search" "LCoverRounds$Search;", .fieldLink RX5 82 "CoverRounds$Search" "row" "[I", .methodLink RX5 78 yX5_steps, .instanceMethod yX5_steps, .selects RX5 yX5_steps yX5_steps, .initialized RX5, .code yX5_steps cX5_steps 1 (some .int), .fieldLink RX5 72 "CoverRounds$Search" "ending" "I", .fieldLink RX5 75 "CoverRounds$Search" "last" "I"] ++ wsX50 ++ wsX30)
def wsX5_least : List Cond := .code yX5_least cX5_least 2 (some .int) :: ([.fieldLink RX5 23 "CoverRounds" "search" "LCoverRounds$Search;", .fieldLink RX5 75 "CoverRounds$Search" "last" "I", .fieldLink RX5 85 "CoverRounds$Search" "leastCounts" "[I"] ++ wsX50 ++ wsX30)
def wsX5_grow_r1 : List Cond := [Cond.fieldLink RX5 30 "CoverRounds" "tree" "LCoverRounds$Tree;", Cond.fieldLink RX5 12 "CoverRounds" "net" "LCoverRounds$Net;", Cond.fieldLink RX5 91 "CoverRounds$Tree" "isGrown" "Z", Cond.fieldLink RX5 95 "CoverRounds$Tree" "nodes" "I", Cond.methodLink RX5 88 yX4_growFrom, Cond.instanceMethod yX4_growFrom, Cond.selects RX4 yX4_growFrom yX4_growFrom, Cond.initialized RX4, Cond.code yX4_growFrom cX4_growFrom 4 none, Cond.fieldLink RX4 19 "CoverRounds$Tree" "nodes" "I", Cond.fieldLink RX4 9 "CoverRounds$Tree" "isGrown" "Z", Cond.methodLink RX4 42 yX4_begin, Cond.instanceMethod yX4_begin, Cond.selects RX4 yX4_begin yX4_begin, Cond.code yX4_begin cX4_begin 3 none, Cond.fieldLink RX4 57 "CoverRounds$Net" "places" "I", Cond.fieldLink RX4 15 "CoverRounds$Tree" "places" "I", Cond.fieldLink RX4 25 "CoverRounds$Tree" "fires" "[Z", Cond.fieldLink RX4 60 "CoverRounds$Net" "first" "[I", Cond.fieldLink RX4 29 "CoverRounds$Tree" "counts" "[I", Cond.methodLink RX4 63 arraycopyName, Cond.native arraycopyName, Cond.static arraycopyName, Cond.initialized "java/lang/System"]
def wsX5_grow_r2 : List Cond := [Cond.fieldLink RX4 33 "CoverRounds$Tree" "above" "[I", Cond.fieldLink RX4 36 "CoverRounds$Tree" "depth" "[I", Cond.fieldLink RX4 22 "CoverRounds$Tree" "limitCount" "I", Cond.methodLink RX4 46 yX4_hasTwinAbove, Cond.instanceMethod yX4_hasTwinAbove, Cond.selects RX4 yX4_hasTwinAbove yX4_hasTwinAbove, Cond.code yX4_hasTwinAbove cX4_hasTwinAbove 4 (some .boolean), Cond.methodLink RX4 69 yX4_isAtLeast, Cond.instanceMethod yX4_isAtLeast, Cond.selects RX4 yX4_isAtLeast yX4_isAtLeast, Cond.code yX4_isAtLeast cX4_isAtLeast 6 (some .boolean), Cond.methodLink RX4 50 yX4_addChildren, Cond.instanceMethod yX4_addChildren, Cond.selects RX4 yX4_addChildren yX4_addChildren, Cond.code yX4_addChildren cX4_addChildren 4 (some .boolean), Cond.fieldLink RX4 73 "CoverRounds$Net" "transitions" "I", Cond.methodLink RX4 76 yX0_canFire, Cond.instanceMethod yX0_canFire, Cond.selects RX0 yX0_canFire yX0_canFire, Cond.initialized RX0, Cond.code yX0_canFire cX0_canFire 6 (some .boolean), Cond.fieldLink RX0 27 "CoverRounds$Net" "takes" "[[I", Cond.fieldLink RX0 9 "CoverRounds$Net" "places" "I", Cond.methodLink RX4 80 yX4_addChild]
def wsX5_grow_r3 : List Cond := [Cond.instanceMethod yX4_addChild, Cond.selects RX4 yX4_addChild yX4_addChild, Cond.code yX4_addChild cX4_addChild 5 none, Cond.methodLink RX4 84 yX0_move, Cond.instanceMethod yX0_move, Cond.selects RX0 yX0_move yX0_move, Cond.code yX0_move cX0_move 5 none, Cond.constant RX0 33 (1000000000), Cond.fieldLink RX0 30 "CoverRounds$Net" "gives" "[[I", Cond.methodLink RX4 88 yX4_accelerate, Cond.instanceMethod yX4_accelerate, Cond.selects RX4 yX4_accelerate yX4_accelerate, Cond.code yX4_accelerate cX4_accelerate 6 none, Cond.methodLink RX4 92 yX4_raise, Cond.instanceMethod yX4_raise, Cond.selects RX4 yX4_raise yX4_raise, Cond.code yX4_raise cX4_raise 6 (some .boolean), Cond.constant RX4 99 (1000000000), Cond.methodLink RX4 95 yX4_countAt, Cond.instanceMethod yX4_countAt, Cond.selects RX4 yX4_countAt yX4_countAt, Cond.code yX4_countAt cX4_countAt 3 (some .int), Cond.methodLink RX4 54 yX4_gatherLimits, Cond.instanceMethod yX4_gatherLimits]
def wsX5_grow_r4 : List Cond := [Cond.selects RX4 yX4_gatherLimits yX4_gatherLimits, Cond.code yX4_gatherLimits cX4_gatherLimits 2 none, Cond.methodLink RX4 100 yX4_hasLimitOver, Cond.instanceMethod yX4_hasLimitOver, Cond.selects RX4 yX4_hasLimitOver yX4_hasLimitOver, Cond.code yX4_hasLimitOver cX4_hasLimitOver 3 (some .boolean), Cond.fieldLink RX4 39 "CoverRounds$Tree" "limitNodes" "[I", Cond.methodLink RX4 103 yX4_dropLimitsUnder, Cond.instanceMethod yX4_dropLimitsUnder, Cond.selects RX4 yX4_dropLimitsUnder yX4_dropLimitsUnder, Cond.code yX4_dropLimitsUnder cX4_dropLimitsUnder 4 none, Cond.methodLink RX4 106 yX4_insertLimit, Cond.instanceMethod yX4_insertLimit, Cond.selects RX4 yX4_insertLimit yX4_insertLimit, Cond.code yX4_insertLimit cX4_insertLimit 3 none, Cond.methodLink RX4 109 yX4_comesBefore, Cond.instanceMethod yX4_comesBefore, Cond.selects RX4 yX4_comesBefore yX4_comesBefore, Cond.code yX4_comesBefore cX4_comesBefore 4 (some .boolean)]
def wsX5_grow : List Cond := .code yX5_grow cX5_grow 1 (some .int) :: ((wsX5_grow_r1 ++ (wsX5_grow_r2 ++ (wsX5_grow_r3 ++ wsX5_grow_r4))) ++ wsX50 ++ wsX40 ++ wsX00)
def wsX5_told : List Cond := .code yX5_told cX5_told 1 (some .int) :: ([.constant RX5 136 (1000000000)])
def wsX5_most_r1 : List Cond := [Cond.fieldLink RX5 30 "CoverRounds" "tree" "LCoverRounds$Tree;", Cond.fieldLink RX5 91 "CoverRounds$Tree" "isGrown" "Z", Cond.methodLink RX5 98 yX4_hasPlace, Cond.instanceMethod yX4_hasPlace, Cond.selects RX4 yX4_hasPlace yX4_hasPlace, Cond.initialized RX4, Cond.code yX4_hasPlace cX4_hasPlace 2 (some .boolean), Cond.fieldLink RX4 15 "CoverRounds$Tree" "places" "I", Cond.methodLink RX5 99 yX4_mostAt, Cond.instanceMethod yX4_mostAt, Cond.selects RX4 yX4_mostAt yX4_mostAt, Cond.code yX4_mostAt cX4_mostAt 4 (some .int), Cond.fieldLink RX4 22 "CoverRounds$Tree" "limitCount" "I", Cond.methodLink RX4 115 Lib.Math.max.name, Cond.static Lib.Math.max.name, Cond.initialized "java/lang/Math", Cond.code Lib.Math.max.name Lib.Math.max.code 2 (some .int), Cond.methodLink RX4 112 yX4_limitAt, Cond.instanceMethod yX4_limitAt, Cond.selects RX4 yX4_limitAt yX4_limitAt, Cond.code yX4_limitAt cX4_limitAt 3 (some .int), Cond.fieldLink RX4 39 "CoverRounds$Tree" "limitNodes" "[I", Cond.methodLink RX4 95 yX4_countAt, Cond.instanceMethod yX4_countAt]
def wsX5_most_r2 : List Cond := [Cond.selects RX4 yX4_countAt yX4_countAt, Cond.code yX4_countAt cX4_countAt 3 (some .int), Cond.fieldLink RX4 29 "CoverRounds$Tree" "counts" "[I", Cond.methodLink RX5 103 yX5_told, Cond.static yX5_told, Cond.initialized RX5, Cond.code yX5_told cX5_told 1 (some .int), Cond.constant RX5 136 (1000000000)]
def wsX5_most : List Cond := .code yX5_most cX5_most 2 (some .int) :: ((wsX5_most_r1 ++ wsX5_most_r2) ++ wsX50 ++ wsX40)
def wsX5_live : List Cond := .code yX5_live cX5_live 2 (some .boolean) :: ([.fieldLink RX5 30 "CoverRounds" "tree" "LCoverRounds$Tree;", .fieldLink RX5 91 "CoverRounds$Tree" "isGrown" "Z", .fieldLink RX5 106 "CoverRounds$Tree" "fires" "[Z", .methodLink RX5 38 yX5_isWithin, .static yX5_isWithin, .initialized RX5, .code yX5_isWithin cX5_isWithin 2 (some .boolean)] ++ wsX50 ++ wsX40)
def wsX5_limits : List Cond := .code yX5_limits cX5_limits 1 (some .int) :: ([.fieldLink RX5 30 "CoverRounds" "tree" "LCoverRounds$Tree;", .fieldLink RX5 91 "CoverRounds$Tree" "isGrown" "Z", .fieldLink RX5 110 "CoverRounds$Tree" "limitCount" "I"] ++ wsX50 ++ wsX40)
def wsX5_limit : List Cond := .code yX5_limit cX5_limit 3 (some .int) :: ([.fieldLink RX5 30 "CoverRounds" "tree" "LCoverRounds$Tree;", .fieldLink RX5 91 "CoverRounds$Tree" "isGrown" "Z", .fieldLink RX5 110 "CoverRounds$Tree" "limitCount" "I", .methodLink RX5 98 yX4_hasPlace, .instanceMethod yX4_hasPlace, .selects RX4 yX4_hasPlace yX4_hasPlace, .initialized RX4, .code yX4_hasPlace cX4_hasPlace 2 (some .boolean), .fieldLink RX4 15 "CoverRounds$Tree" "places" "I", .methodLink RX5 113 yX4_limitAt, .instanceMethod yX4_limitAt, .selects RX4 yX4_limitAt yX4_limitAt, .code yX4_limitAt cX4_limitAt 3 (some .int), .fieldLink RX4 39 "CoverRounds$Tree" "limitNodes" "[I", .methodLink RX4 95 yX4_countAt, .instanceMethod yX4_countAt, .selects RX4 yX4_countAt yX4_countAt, .code yX4_countAt cX4_countAt 3 (some .int), .fieldLink RX4 29 "CoverRounds$Tree" "counts" "[I", .methodLink RX5 103 yX5_told, .static yX5_told, .initialized RX5, .code yX5_told cX5_told 1 (some .int), .constant RX5 136 (1000000000)] ++ wsX50 ++ wsX40)
def wsX5_covers_r1 : List Cond := [Cond.fieldLink RX5 30 "CoverRounds" "tree" "LCoverRounds$Tree;", Cond.fieldLink RX5 91 "CoverRounds$Tree" "isGrown" "Z", Cond.fieldLink RX5 117 "CoverRounds$Tree" "places" "I", Cond.fieldLink RX5 12 "CoverRounds" "net" "LCoverRounds$Net;", Cond.fieldLink RX5 34 "CoverRounds$Net" "places" "I", Cond.fieldLink RX5 65 "CoverRounds$Net" "wanted" "[I", Cond.methodLink RX5 118 yX4_reaches, Cond.instanceMethod yX4_reaches, Cond.selects RX4 yX4_reaches yX4_reaches, Cond.initialized RX4, Cond.code yX4_reaches cX4_reaches 3 (some .boolean), Cond.fieldLink RX4 22 "CoverRounds$Tree" "limitCount" "I", Cond.methodLink RX4 120 yX4_limitReaches, Cond.instanceMethod yX4_limitReaches, Cond.selects RX4 yX4_limitReaches yX4_limitReaches, Cond.code yX4_limitReaches cX4_limitReaches 4 (some .boolean), Cond.fieldLink RX4 15 "CoverRounds$Tree" "places" "I", Cond.methodLink RX4 112 yX4_limitAt, Cond.instanceMethod yX4_limitAt, Cond.selects RX4 yX4_limitAt yX4_limitAt, Cond.code yX4_limitAt cX4_limitAt 3 (some .int), Cond.fieldLink RX4 39 "CoverRounds$Tree" "limitNodes" "[I", Cond.methodLink RX4 95 yX4_countAt, Cond.instanceMethod yX4_countAt]
def wsX5_covers_r2 : List Cond := [Cond.selects RX4 yX4_countAt yX4_countAt, Cond.code yX4_countAt cX4_countAt 3 (some .int), Cond.fieldLink RX4 29 "CoverRounds$Tree" "counts" "[I"]
def wsX5_covers : List Cond := .code yX5_covers cX5_covers 1 (some .boolean) :: ((wsX5_covers_r1 ++ wsX5_covers_r2) ++ wsX50 ++ wsX40 ++ wsX00)
def wsX5_fire : List Cond := .code yX5_fire cX5_fire 2 (some .boolean) :: ([.fieldLink RX5 12 "CoverRounds" "net" "LCoverRounds$Net;", .fieldLink RX5 16 "CoverRounds" "now" "[I", .methodLink RX5 51 yX0_hasTransition, .instanceMethod yX0_hasTransition, .selects RX0 yX0_hasTransition yX0_hasTransition, .initialized RX0, .code yX0_hasTransition cX0_hasTransition 2 (some .boolean), .fieldLink RX0 15 "CoverRounds$Net" "transitions" "I", .methodLink RX5 122 yX0_canFire, .instanceMethod yX0_canFire, .selects RX0 yX0_canFire yX0_canFire, .code yX0_canFire cX0_canFire 6 (some .boolean), .fieldLink RX0 27 "CoverRounds$Net" "takes" "[[I", .fieldLink RX0 9 "CoverRounds$Net" "places" "I", .methodLink RX5 126 yX0_move, .instanceMethod yX0_move, .selects RX0 yX0_move yX0_move, .code yX0_move cX0_move 5 none, .constant RX0 33 (1000000000), .fieldLink RX0 30 "CoverRounds$Net" "gives" "[[I"] ++ wsX50 ++ wsX00)
def wsX5_tokens : List Cond := .code yX5_tokens cX5_tokens 2 (some .int) :: ([.fieldLink RX5 12 "CoverRounds" "net" "LCoverRounds$Net;", .fieldLink RX5 16 "CoverRounds" "now" "[I", .methodLink RX5 55 yX0_hasPlace, .instanceMethod yX0_hasPlace, .selects RX0 yX0_hasPlace yX0_hasPlace, .initialized RX0, .code yX0_hasPlace cX0_hasPlace 2 (some .boolean), .fieldLink RX0 9 "CoverRounds$Net" "places" "I"] ++ wsX50 ++ wsX00)
def wsX6_init : List Cond := .code yX6_init cX6_init 1 none :: ([.methodLink RX6 1 objectInit, .instanceMethod objectInit, .code objectInit ⟨#[0xb1]⟩ 1 none, .arrayClass .int, .fieldLink RX6 7 "CoverRoundsModel" "first" "[I", .fieldLink RX6 13 "CoverRoundsModel" "target" "[I", .fieldLink RX6 16 "CoverRoundsModel" "takes" "[I", .fieldLink RX6 19 "CoverRoundsModel" "gives" "[I", .fieldLink RX6 22 "CoverRoundsModel" "now" "[I", .fieldLink RX6 25 "CoverRoundsModel" "ended" "I", .fieldLink RX6 29 "CoverRoundsModel" "leastCounts" "[I", .constant RX6 32 (61000), .fieldLink RX6 33 "CoverRoundsModel" "kept" "[I", .fieldLink RX6 36 "CoverRoundsModel" "round" "[I", .fieldLink RX6 39 "CoverRoundsModel" "before" "[I", .fieldLink RX6 42 "CoverRoundsModel" "rows" "[I", .fieldLink RX6 45 "CoverRoundsModel" "markings" "[I", .fieldLink RX6 48 "CoverRoundsModel" "above" "[I", .fieldLink RX6 51 "CoverRoundsModel" "limitNodes" "[I", .fieldLink RX6 54 "CoverRoundsModel" "work" "[I", .fieldLink RX6 57 "CoverRoundsModel" "trail" "[I"] ++ wsX60)
def wsX6_isPlace : List Cond := .code yX6_isPlace cX6_isPlace 2 (some .boolean) :: ([.fieldLink RX6 60 "CoverRoundsModel" "places" "I"] ++ wsX60)
def wsX6_isTransition : List Cond := .code yX6_isTransition cX6_isTransition 2 (some .boolean) :: ([.fieldLink RX6 63 "CoverRoundsModel" "transitions" "I"] ++ wsX60)
def wsX6_isIn : List Cond := .code yX6_isIn cX6_isIn 2 (some .boolean) :: ([])
def wsX6_begin : List Cond := .code yX6_begin cX6_begin 2 none :: ([.fieldLink RX6 22 "CoverRoundsModel" "now" "[I", .fieldLink RX6 7 "CoverRoundsModel" "first" "[I"] ++ wsX60)
def wsX6_place : List Cond := .code yX6_place cX6_place 2 (some .int) :: ([.fieldLink RX6 60 "CoverRoundsModel" "places" "I", .fieldLink RX6 7 "CoverRoundsModel" "first" "[I", .methodLink RX6 66 yX6_isIn, .static yX6_isIn, .initialized RX6, .code yX6_isIn cX6_isIn 2 (some .boolean), .methodLink RX6 70 yX6_begin, .instanceMethod yX6_begin, .selects RX6 yX6_begin yX6_begin, .code yX6_begin cX6_begin 2 none, .fieldLink RX6 22 "CoverRoundsModel" "now" "[I"] ++ wsX60)
def wsX6_transition : List Cond := .code yX6_transition cX6_transition 1 (some .int) :: ([.fieldLink RX6 63 "CoverRoundsModel" "transitions" "I", .methodLink RX6 70 yX6_begin, .instanceMethod yX6_begin, .selects RX6 yX6_begin yX6_begin, .initialized RX6, .code yX6_begin cX6_begin 2 none, .fieldLink RX6 22 "CoverRoundsModel" "now" "[I", .fieldLink RX6 7 "CoverRoundsModel" "first" "[I"] ++ wsX60)
def wsX6_arc : List Cond := .code yX6_arc cX6_arc 5 (some .boolean) :: ([.fieldLink RX6 16 "CoverRoundsModel" "takes" "[I", .fieldLink RX6 19 "CoverRoundsModel" "gives" "[I", .methodLink RX6 73 yX6_isTransition, .instanceMethod yX6_isTransition, .selects RX6 yX6_isTransition yX6_isTransition, .initialized RX6, .code yX6_isTransition cX6_isTransition 2 (some .boolean), .fieldLink RX6 63 "CoverRoundsModel" "transitions" "I", .methodLink RX6 77 yX6_isPlace, .instanceMethod yX6_isPlace, .selects RX6 yX6_isPlace yX6_isPlace, .code yX6_isPlace cX6_isPlace 2 (some .boolean), .fieldLink RX6 60 "CoverRoundsModel" "places" "I", .methodLink RX6 66 yX6_isIn, .static yX6_isIn, .code yX6_isIn cX6_isIn 2 (some .boolean), .methodLink RX6 70 yX6_begin, .instanceMethod yX6_begin, .selects RX6 yX6_begin yX6_begin, .code yX6_begin cX6_begin 2 none, .fieldLink RX6 22 "CoverRoundsModel" "now" "[I", .fieldLink RX6 7 "CoverRoundsModel" "first" "[I"] ++ wsX60)
def wsX6_target : List Cond := .code yX6_target cX6_target 3 (some .boolean) :: ([.fieldLink RX6 13 "CoverRoundsModel" "target" "[I", .methodLink RX6 77 yX6_isPlace, .instanceMethod yX6_isPlace, .selects RX6 yX6_isPlace yX6_isPlace, .initialized RX6, .code yX6_isPlace cX6_isPlace 2 (some .boolean), .fieldLink RX6 60 "CoverRoundsModel" "places" "I", .methodLink RX6 66 yX6_isIn, .static yX6_isIn, .code yX6_isIn cX6_isIn 2 (some .boolean)] ++ wsX60)
def wsX6_tops : List Cond := .code yX6_tops cX6_tops 6 (some .boolean) :: ([])
def wsX6_takeIn : List Cond := .code yX6_takeIn cX6_takeIn 4 none :: ([.fieldLink RX6 80 "CoverRoundsModel" "roundCount" "I", .fieldLink RX6 54 "CoverRoundsModel" "work" "[I", .fieldLink RX6 36 "CoverRoundsModel" "round" "[I", .methodLink RX6 83 yX6_tops, .static yX6_tops, .initialized RX6, .code yX6_tops cX6_tops 6 (some .boolean)] ++ wsX60)
def wsX6_isInRound : List Cond := .code yX6_isInRound cX6_isInRound 5 (some .boolean) :: ([.fieldLink RX6 29 "CoverRoundsModel" "leastCounts" "[I", .fieldLink RX6 33 "CoverRoundsModel" "kept" "[I", .methodLink RX6 83 yX6_tops, .static yX6_tops, .initialized RX6, .code yX6_tops cX6_tops 6 (some .boolean)] ++ wsX60)
def wsX6_isFirstIn : List Cond := .code yX6_isFirstIn cX6_isFirstIn 3 (some .boolean) :: ([.fieldLink RX6 80 "CoverRoundsModel" "roundCount" "I", .fieldLink RX6 7 "CoverRoundsModel" "first" "[I", .fieldLink RX6 36 "CoverRoundsModel" "round" "[I", .methodLink RX6 83 yX6_tops, .static yX6_tops, .initialized RX6, .code yX6_tops cX6_tops 6 (some .boolean)] ++ wsX60)
def wsX6_step : List Cond := .code yX6_step cX6_step 5 none :: ([.fieldLink RX6 87 "CoverRoundsModel" "beforeCount" "I", .fieldLink RX6 63 "CoverRoundsModel" "transitions" "I", .fieldLink RX6 39 "CoverRoundsModel" "before" "[I", .fieldLink RX6 19 "CoverRoundsModel" "gives" "[I", .fieldLink RX6 54 "CoverRoundsModel" "work" "[I", .fieldLink RX6 16 "CoverRoundsModel" "takes" "[I", .methodLink RX6 90 yX6_takeIn, .instanceMethod yX6_takeIn, .selects RX6 yX6_takeIn yX6_takeIn, .initialized RX6, .code yX6_takeIn cX6_takeIn 4 none, .fieldLink RX6 80 "CoverRoundsModel" "roundCount" "I", .fieldLink RX6 36 "CoverRoundsModel" "round" "[I", .methodLink RX6 83 yX6_tops, .static yX6_tops, .code yX6_tops cX6_tops 6 (some .boolean)] ++ wsX60)
def wsX6_isSame : List Cond := .code yX6_isSame cX6_isSame 5 (some .boolean) :: ([.fieldLink RX6 80 "CoverRoundsModel" "roundCount" "I", .fieldLink RX6 87 "CoverRoundsModel" "beforeCount" "I", .fieldLink RX6 36 "CoverRoundsModel" "round" "[I", .fieldLink RX6 39 "CoverRoundsModel" "before" "[I", .methodLink RX6 83 yX6_tops, .static yX6_tops, .initialized RX6, .code yX6_tops cX6_tops 6 (some .boolean)] ++ wsX60)
def wsX6_canFire : List Cond := .code yX6_canFire cX6_canFire 4 (some .boolean) :: ([.fieldLink RX6 16 "CoverRoundsModel" "takes" "[I", .methodLink RX6 73 yX6_isTransition, .instanceMethod yX6_isTransition, .selects RX6 yX6_isTransition yX6_isTransition, .initialized RX6, .code yX6_isTransition cX6_isTransition 2 (some .boolean), .fieldLink RX6 63 "CoverRoundsModel" "transitions" "I", .methodLink RX6 83 yX6_tops, .static yX6_tops, .code yX6_tops cX6_tops 6 (some .boolean)] ++ wsX60)
def wsX6_leads : List Cond := .code yX6_leads cX6_leads 5 (some .boolean) :: ([.fieldLink RX6 54 "CoverRoundsModel" "work" "[I", .fieldLink RX6 19 "CoverRoundsModel" "gives" "[I", .fieldLink RX6 16 "CoverRoundsModel" "takes" "[I", .methodLink RX6 116 yX6_canFire, .instanceMethod yX6_canFire, .selects RX6 yX6_canFire yX6_canFire, .initialized RX6, .code yX6_canFire cX6_canFire 4 (some .boolean), .methodLink RX6 73 yX6_isTransition, .instanceMethod yX6_isTransition, .selects RX6 yX6_isTransition yX6_isTransition, .code yX6_isTransition cX6_isTransition 2 (some .boolean), .fieldLink RX6 63 "CoverRoundsModel" "transitions" "I", .methodLink RX6 83 yX6_tops, .static yX6_tops, .code yX6_tops cX6_tops 6 (some .boolean), .methodLink RX6 119 yX6_isInRound, .instanceMethod yX6_isInRound, .selects RX6 yX6_isInRound yX6_isInRound, .code yX6_isInRound cX6_isInRound 5 (some .boolean), .fieldLink RX6 29 "CoverRoundsModel" "leastCounts" "[I", .fieldLink RX6 33 "CoverRoundsModel" "kept" "[I"] ++ wsX60)
def wsX6_tellRow_r1 : List Cond := [Cond.fieldLink RX6 57 "CoverRoundsModel" "trail" "[I", Cond.fieldLink RX6 7 "CoverRoundsModel" "first" "[I", Cond.fieldLink RX6 96 "CoverRoundsModel" "last" "I", Cond.fieldLink RX6 42 "CoverRoundsModel" "rows" "[I", Cond.fieldLink RX6 19 "CoverRoundsModel" "gives" "[I", Cond.fieldLink RX6 16 "CoverRoundsModel" "takes" "[I", Cond.methodLink RX6 112 yX6_leads, Cond.instanceMethod yX6_leads, Cond.selects RX6 yX6_leads yX6_leads, Cond.initialized RX6, Cond.code yX6_leads cX6_leads 5 (some .boolean), Cond.fieldLink RX6 54 "CoverRoundsModel" "work" "[I", Cond.methodLink RX6 116 yX6_canFire, Cond.instanceMethod yX6_canFire, Cond.selects RX6 yX6_canFire yX6_canFire, Cond.code yX6_canFire cX6_canFire 4 (some .boolean), Cond.methodLink RX6 73 yX6_isTransition, Cond.instanceMethod yX6_isTransition, Cond.selects RX6 yX6_isTransition yX6_isTransition, Cond.code yX6_isTransition cX6_isTransition 2 (some .boolean), Cond.fieldLink RX6 63 "CoverRoundsModel" "transitions" "I", Cond.methodLink RX6 83 yX6_tops, Cond.static yX6_tops, Cond.code yX6_tops cX6_tops 6 (some .boolean)]
def wsX6_tellRow_r2 : List Cond := [Cond.methodLink RX6 119 yX6_isInRound, Cond.instanceMethod yX6_isInRound, Cond.selects RX6 yX6_isInRound yX6_isInRound, Cond.code yX6_isInRound cX6_isInRound 5 (some .boolean), Cond.fieldLink RX6 29 "CoverRoundsModel" "leastCounts" "[I", Cond.fieldLink RX6 33 "CoverRoundsModel" "kept" "[I"]
def wsX6_tellRow : List Cond := .code yX6_tellRow cX6_tellRow 5 none :: ((wsX6_tellRow_r1 ++ wsX6_tellRow_r2) ++ wsX60)
def wsX6_rounds_r1 : List Cond := [Cond.fieldLink RX6 60 "CoverRoundsModel" "places" "I", Cond.fieldLink RX6 93 "CoverRoundsModel" "roundPlaces" "I", Cond.fieldLink RX6 80 "CoverRoundsModel" "roundCount" "I", Cond.fieldLink RX6 54 "CoverRoundsModel" "work" "[I", Cond.fieldLink RX6 13 "CoverRoundsModel" "target" "[I", Cond.fieldLink RX6 29 "CoverRoundsModel" "leastCounts" "[I", Cond.fieldLink RX6 33 "CoverRoundsModel" "kept" "[I", Cond.fieldLink RX6 36 "CoverRoundsModel" "round" "[I", Cond.fieldLink RX6 96 "CoverRoundsModel" "last" "I", Cond.fieldLink RX6 39 "CoverRoundsModel" "before" "[I", Cond.fieldLink RX6 87 "CoverRoundsModel" "beforeCount" "I", Cond.fieldLink RX6 25 "CoverRoundsModel" "ended" "I", Cond.methodLink RX6 90 yX6_takeIn, Cond.instanceMethod yX6_takeIn, Cond.selects RX6 yX6_takeIn yX6_takeIn, Cond.initialized RX6, Cond.code yX6_takeIn cX6_takeIn 4 none, Cond.methodLink RX6 83 yX6_tops, Cond.static yX6_tops, Cond.code yX6_tops cX6_tops 6 (some .boolean), Cond.methodLink RX6 99 yX6_isFirstIn, Cond.instanceMethod yX6_isFirstIn, Cond.selects RX6 yX6_isFirstIn yX6_isFirstIn, Cond.code yX6_isFirstIn cX6_isFirstIn 3 (some .boolean)]
def wsX6_rounds_r2 : List Cond := [Cond.fieldLink RX6 7 "CoverRoundsModel" "first" "[I", Cond.methodLink RX6 103 yX6_isSame, Cond.instanceMethod yX6_isSame, Cond.selects RX6 yX6_isSame yX6_isSame, Cond.code yX6_isSame cX6_isSame 5 (some .boolean), Cond.methodLink RX6 106 yX6_step, Cond.instanceMethod yX6_step, Cond.selects RX6 yX6_step yX6_step, Cond.code yX6_step cX6_step 5 none, Cond.fieldLink RX6 63 "CoverRoundsModel" "transitions" "I", Cond.fieldLink RX6 19 "CoverRoundsModel" "gives" "[I", Cond.fieldLink RX6 16 "CoverRoundsModel" "takes" "[I", Cond.methodLink RX6 109 yX6_tellRow, Cond.instanceMethod yX6_tellRow, Cond.selects RX6 yX6_tellRow yX6_tellRow, Cond.code yX6_tellRow cX6_tellRow 5 none, Cond.fieldLink RX6 57 "CoverRoundsModel" "trail" "[I", Cond.fieldLink RX6 42 "CoverRoundsModel" "rows" "[I", Cond.methodLink RX6 112 yX6_leads, Cond.instanceMethod yX6_leads, Cond.selects RX6 yX6_leads yX6_leads, Cond.code yX6_leads cX6_leads 5 (some .boolean), Cond.methodLink RX6 116 yX6_canFire, Cond.instanceMethod yX6_canFire]
def wsX6_rounds_r3 : List Cond := [Cond.selects RX6 yX6_canFire yX6_canFire, Cond.code yX6_canFire cX6_canFire 4 (some .boolean), Cond.methodLink RX6 73 yX6_isTransition, Cond.instanceMethod yX6_isTransition, Cond.selects RX6 yX6_isTransition yX6_isTransition, Cond.code yX6_isTransition cX6_isTransition 2 (some .boolean), Cond.methodLink RX6 119 yX6_isInRound, Cond.instanceMethod yX6_isInRound, Cond.selects RX6 yX6_isInRound yX6_isInRound, Cond.code yX6_isInRound cX6_isInRound 5 (some .boolean)]
def wsX6_rounds : List Cond := .code yX6_rounds cX6_rounds 4 (some .int) :: ((wsX6_rounds_r1 ++ (wsX6_rounds_r2 ++ wsX6_rounds_r3)) ++ wsX60)
def wsX6_steps : List Cond := .code yX6_steps cX6_steps 1 (some .int) :: ([.fieldLink RX6 25 "CoverRoundsModel" "ended" "I", .fieldLink RX6 96 "CoverRoundsModel" "last" "I"] ++ wsX60)
def wsX6_witness : List Cond := .code yX6_witness cX6_witness 2 (some .int) :: ([.fieldLink RX6 25 "CoverRoundsModel" "ended" "I", .fieldLink RX6 96 "CoverRoundsModel" "last" "I", .fieldLink RX6 42 "CoverRoundsModel" "rows" "[I"] ++ wsX60)
def wsX6_least : List Cond := .code yX6_least cX6_least 2 (some .int) :: ([.fieldLink RX6 25 "CoverRoundsModel" "ended" "I", .fieldLink RX6 96 "CoverRoundsModel" "last" "I", .fieldLink RX6 29 "CoverRoundsModel" "leastCounts" "[I"] ++ wsX60)
def wsX6_isOld : List Cond := .code yX6_isOld cX6_isOld 4 (some .boolean) :: ([.fieldLink RX6 48 "CoverRoundsModel" "above" "[I", .fieldLink RX6 45 "CoverRoundsModel" "markings" "[I", .methodLink RX6 83 yX6_tops, .static yX6_tops, .initialized RX6, .code yX6_tops cX6_tops 6 (some .boolean)] ++ wsX60)
def wsX6_accelerate : List Cond := .code yX6_accelerate cX6_accelerate 6 none :: ([.fieldLink RX6 54 "CoverRoundsModel" "work" "[I", .fieldLink RX6 45 "CoverRoundsModel" "markings" "[I", .constant RX6 123 (1000000), .fieldLink RX6 48 "CoverRoundsModel" "above" "[I", .methodLink RX6 83 yX6_tops, .static yX6_tops, .initialized RX6, .code yX6_tops cX6_tops 6 (some .boolean)] ++ wsX60)
def wsX6_isBefore : List Cond := .code yX6_isBefore cX6_isBefore 5 (some .boolean) :: ([.fieldLink RX6 45 "CoverRoundsModel" "markings" "[I"] ++ wsX60)
def wsX6_tellTree : List Cond := .code yX6_tellTree cX6_tellTree 6 none :: ([.fieldLink RX6 144 "CoverRoundsModel" "lives" "I", .fieldLink RX6 128 "CoverRoundsModel" "nodes" "I", .fieldLink RX6 63 "CoverRoundsModel" "transitions" "I", .fieldLink RX6 45 "CoverRoundsModel" "markings" "[I", .fieldLink RX6 147 "CoverRoundsModel" "limitCount" "I", .fieldLink RX6 51 "CoverRoundsModel" "limitNodes" "[I", .methodLink RX6 116 yX6_canFire, .instanceMethod yX6_canFire, .selects RX6 yX6_canFire yX6_canFire, .initialized RX6, .code yX6_canFire cX6_canFire 4 (some .boolean), .fieldLink RX6 16 "CoverRoundsModel" "takes" "[I", .methodLink RX6 73 yX6_isTransition, .instanceMethod yX6_isTransition, .selects RX6 yX6_isTransition yX6_isTransition, .code yX6_isTransition cX6_isTransition 2 (some .boolean), .methodLink RX6 83 yX6_tops, .static yX6_tops, .code yX6_tops cX6_tops 6 (some .boolean), .methodLink RX6 150 yX6_isBefore, .instanceMethod yX6_isBefore, .selects RX6 yX6_isBefore yX6_isBefore, .code yX6_isBefore cX6_isBefore 5 (some .boolean)] ++ wsX60)
def wsX6_grow_r1 : List Cond := [Cond.fieldLink RX6 124 "CoverRoundsModel" "isGrown" "Z", Cond.fieldLink RX6 128 "CoverRoundsModel" "nodes" "I", Cond.fieldLink RX6 48 "CoverRoundsModel" "above" "[I", Cond.fieldLink RX6 45 "CoverRoundsModel" "markings" "[I", Cond.fieldLink RX6 7 "CoverRoundsModel" "first" "[I", Cond.fieldLink RX6 63 "CoverRoundsModel" "transitions" "I", Cond.fieldLink RX6 54 "CoverRoundsModel" "work" "[I", Cond.constant RX6 123 (1000000), Cond.fieldLink RX6 19 "CoverRoundsModel" "gives" "[I", Cond.fieldLink RX6 16 "CoverRoundsModel" "takes" "[I", Cond.fieldLink RX6 60 "CoverRoundsModel" "places" "I", Cond.fieldLink RX6 138 "CoverRoundsModel" "grownPlaces" "I", Cond.methodLink RX6 131 yX6_isOld, Cond.instanceMethod yX6_isOld, Cond.selects RX6 yX6_isOld yX6_isOld, Cond.initialized RX6, Cond.code yX6_isOld cX6_isOld 4 (some .boolean), Cond.methodLink RX6 83 yX6_tops, Cond.static yX6_tops, Cond.code yX6_tops cX6_tops 6 (some .boolean), Cond.methodLink RX6 116 yX6_canFire, Cond.instanceMethod yX6_canFire, Cond.selects RX6 yX6_canFire yX6_canFire, Cond.code yX6_canFire cX6_canFire 4 (some .boolean)]
def wsX6_grow_r2 : List Cond := [Cond.methodLink RX6 73 yX6_isTransition, Cond.instanceMethod yX6_isTransition, Cond.selects RX6 yX6_isTransition yX6_isTransition, Cond.code yX6_isTransition cX6_isTransition 2 (some .boolean), Cond.methodLink RX6 134 yX6_accelerate, Cond.instanceMethod yX6_accelerate, Cond.selects RX6 yX6_accelerate yX6_accelerate, Cond.code yX6_accelerate cX6_accelerate 6 none, Cond.methodLink RX6 141 yX6_tellTree, Cond.instanceMethod yX6_tellTree, Cond.selects RX6 yX6_tellTree yX6_tellTree, Cond.code yX6_tellTree cX6_tellTree 6 none, Cond.fieldLink RX6 144 "CoverRoundsModel" "lives" "I", Cond.fieldLink RX6 147 "CoverRoundsModel" "limitCount" "I", Cond.fieldLink RX6 51 "CoverRoundsModel" "limitNodes" "[I", Cond.methodLink RX6 150 yX6_isBefore, Cond.instanceMethod yX6_isBefore, Cond.selects RX6 yX6_isBefore yX6_isBefore, Cond.code yX6_isBefore cX6_isBefore 5 (some .boolean)]
def wsX6_grow : List Cond := .code yX6_grow cX6_grow 5 (some .int) :: ((wsX6_grow_r1 ++ wsX6_grow_r2) ++ wsX60)
def wsX6_told : List Cond := .code yX6_told cX6_told 1 (some .int) :: ([.constant RX6 123 (1000000)])
def wsX6_isGrownPlace : List Cond := .code yX6_isGrownPlace cX6_isGrownPlace 2 (some .boolean) :: ([.fieldLink RX6 124 "CoverRoundsModel" "isGrown" "Z", .fieldLink RX6 138 "CoverRoundsModel" "grownPlaces" "I"] ++ wsX60)
def wsX6_most : List Cond := .code yX6_most cX6_most 4 (some .int) :: ([.fieldLink RX6 128 "CoverRoundsModel" "nodes" "I", .fieldLink RX6 45 "CoverRoundsModel" "markings" "[I", .methodLink RX6 153 yX6_isGrownPlace, .instanceMethod yX6_isGrownPlace, .selects RX6 yX6_isGrownPlace yX6_isGrownPlace, .initialized RX6, .code yX6_isGrownPlace cX6_isGrownPlace 2 (some .boolean), .fieldLink RX6 124 "CoverRoundsModel" "isGrown" "Z", .fieldLink RX6 138 "CoverRoundsModel" "grownPlaces" "I", .methodLink RX6 156 yX6_told, .static yX6_told, .code yX6_told cX6_told 1 (some .int), .constant RX6 123 (1000000)] ++ wsX60)
def wsX6_live : List Cond := .code yX6_live cX6_live 2 (some .boolean) :: ([.fieldLink RX6 124 "CoverRoundsModel" "isGrown" "Z", .fieldLink RX6 144 "CoverRoundsModel" "lives" "I"] ++ wsX60)
def wsX6_limits : List Cond := .code yX6_limits cX6_limits 1 (some .int) :: ([.fieldLink RX6 124 "CoverRoundsModel" "isGrown" "Z", .fieldLink RX6 147 "CoverRoundsModel" "limitCount" "I"] ++ wsX60)
def wsX6_limit : List Cond := .code yX6_limit cX6_limit 3 (some .int) :: ([.fieldLink RX6 147 "CoverRoundsModel" "limitCount" "I", .fieldLink RX6 45 "CoverRoundsModel" "markings" "[I", .fieldLink RX6 51 "CoverRoundsModel" "limitNodes" "[I", .methodLink RX6 153 yX6_isGrownPlace, .instanceMethod yX6_isGrownPlace, .selects RX6 yX6_isGrownPlace yX6_isGrownPlace, .initialized RX6, .code yX6_isGrownPlace cX6_isGrownPlace 2 (some .boolean), .fieldLink RX6 124 "CoverRoundsModel" "isGrown" "Z", .fieldLink RX6 138 "CoverRoundsModel" "grownPlaces" "I", .methodLink RX6 156 yX6_told, .static yX6_told, .code yX6_told cX6_told 1 (some .int), .constant RX6 123 (1000000)] ++ wsX60)
def wsX6_covers : List Cond := .code yX6_covers cX6_covers 3 (some .boolean) :: ([.fieldLink RX6 128 "CoverRoundsModel" "nodes" "I", .fieldLink RX6 124 "CoverRoundsModel" "isGrown" "Z", .fieldLink RX6 138 "CoverRoundsModel" "grownPlaces" "I", .fieldLink RX6 60 "CoverRoundsModel" "places" "I", .fieldLink RX6 45 "CoverRoundsModel" "markings" "[I", .fieldLink RX6 13 "CoverRoundsModel" "target" "[I", .methodLink RX6 83 yX6_tops, .static yX6_tops, .initialized RX6, .code yX6_tops cX6_tops 6 (some .boolean)] ++ wsX60)
def wsX6_fire : List Cond := .code yX6_fire cX6_fire 3 (some .boolean) :: ([.fieldLink RX6 22 "CoverRoundsModel" "now" "[I", .fieldLink RX6 19 "CoverRoundsModel" "gives" "[I", .fieldLink RX6 16 "CoverRoundsModel" "takes" "[I", .methodLink RX6 116 yX6_canFire, .instanceMethod yX6_canFire, .selects RX6 yX6_canFire yX6_canFire, .initialized RX6, .code yX6_canFire cX6_canFire 4 (some .boolean), .methodLink RX6 73 yX6_isTransition, .instanceMethod yX6_isTransition, .selects RX6 yX6_isTransition yX6_isTransition, .code yX6_isTransition cX6_isTransition 2 (some .boolean), .fieldLink RX6 63 "CoverRoundsModel" "transitions" "I", .methodLink RX6 83 yX6_tops, .static yX6_tops, .code yX6_tops cX6_tops 6 (some .boolean)] ++ wsX60)
def wsX6_tokens : List Cond := .code yX6_tokens cX6_tokens 2 (some .int) :: ([.fieldLink RX6 22 "CoverRoundsModel" "now" "[I", .methodLink RX6 77 yX6_isPlace, .instanceMethod yX6_isPlace, .selects RX6 yX6_isPlace yX6_isPlace, .initialized RX6, .code yX6_isPlace cX6_isPlace 2 (some .boolean), .fieldLink RX6 60 "CoverRoundsModel" "places" "I"] ++ wsX60)
def wsJ9_max_7cf53 : List Cond := .code yJ9_max_7cf53 cJ9_max_7cf53 2 (some .int) :: ([])
def wsJ9_min_7cf53 : List Cond := .code yJ9_min_7cf53 cJ9_min_7cf53 2 (some .int) :: ([])
def wsL_law_r1 : List Cond := [Cond.classLink RL 7 RX5, Cond.instantiable RX5 4, Cond.initialized RX5, Cond.classLink RL 10 RX6, Cond.instantiable RX6 27, Cond.initialized RX6, Cond.methodLink RL 9 yX5_init, Cond.instanceMethod yX5_init, Cond.code yX5_init cX5_init 1 none, Cond.methodLink RX5 3 objectInit, Cond.instanceMethod objectInit, Cond.code objectInit ⟨#[0xb1]⟩ 1 none, Cond.classLink RX5 9 RX0, Cond.instantiable RX0 6, Cond.initialized RX0, Cond.fieldLink RX5 12 "CoverRounds" "net" "LCoverRounds$Net;", Cond.arrayClass .int, Cond.fieldLink RX5 16 "CoverRounds" "now" "[I", Cond.classLink RX5 20 RX3, Cond.instantiable RX3 13, Cond.initialized RX3, Cond.fieldLink RX5 23 "CoverRounds" "search" "LCoverRounds$Search;", Cond.classLink RX5 27 RX4, Cond.instantiable RX4 9]
def wsL_law_r2 : List Cond := [Cond.initialized RX4, Cond.fieldLink RX5 30 "CoverRounds" "tree" "LCoverRounds$Tree;", Cond.instanceMethod yX0_init, Cond.code yX0_init cX0_init 1 none, Cond.methodLink RX0 3 objectInit, Cond.fieldLink RX0 9 "CoverRounds$Net" "places" "I", Cond.fieldLink RX0 15 "CoverRounds$Net" "transitions" "I", Cond.fieldLink RX0 18 "CoverRounds$Net" "first" "[I", Cond.fieldLink RX0 22 "CoverRounds$Net" "wanted" "[I", Cond.classLink RX0 25 "[[I", Cond.fieldLink RX0 27 "CoverRounds$Net" "takes" "[[I", Cond.fieldLink RX0 30 "CoverRounds$Net" "gives" "[[I", Cond.instanceMethod yX3_init, Cond.code yX3_init cX3_init 1 none, Cond.methodLink RX3 3 objectInit, Cond.fieldLink RX3 9 "CoverRounds$Search" "ending" "I", Cond.fieldLink RX3 15 "CoverRounds$Search" "last" "I", Cond.fieldLink RX3 18 "CoverRounds$Search" "leastCounts" "[I", Cond.fieldLink RX3 22 "CoverRounds$Search" "row" "[I", Cond.fieldLink RX3 25 "CoverRounds$Search" "first" "J", Cond.fieldLink RX3 29 "CoverRounds$Search" "transitions" "I", Cond.arrayClass .long, Cond.fieldLink RX3 32 "CoverRounds$Search" "takes" "[J", Cond.fieldLink RX3 36 "CoverRounds$Search" "gives" "[J"]
def wsL_law_r3 : List Cond := [Cond.classLink RX3 39 RX2, Cond.instantiable RX2 2, Cond.initialized RX2, Cond.fieldLink RX3 42 "CoverRounds$Search" "least" "LCoverRounds$Pile;", Cond.fieldLink RX3 46 "CoverRounds$Search" "oldCount" "I", Cond.fieldLink RX3 49 "CoverRounds$Search" "born" "LCoverRounds$Pile;", Cond.fieldLink RX3 52 "CoverRounds$Search" "bornUpTo" "[I", Cond.fieldLink RX3 55 "CoverRounds$Search" "bornFrom" "I", Cond.instanceMethod yX2_init, Cond.code yX2_init cX2_init 1 none, Cond.methodLink RX2 1 objectInit, Cond.fieldLink RX2 9 "CoverRounds$Pile" "rows" "[J", Cond.fieldLink RX2 13 "CoverRounds$Pile" "size" "I", Cond.instanceMethod yX4_init, Cond.code yX4_init cX4_init 1 none, Cond.methodLink RX4 3 objectInit, Cond.fieldLink RX4 9 "CoverRounds$Tree" "isGrown" "Z", Cond.fieldLink RX4 15 "CoverRounds$Tree" "places" "I", Cond.fieldLink RX4 19 "CoverRounds$Tree" "nodes" "I", Cond.fieldLink RX4 22 "CoverRounds$Tree" "limitCount" "I", Cond.arrayClass .boolean, Cond.fieldLink RX4 25 "CoverRounds$Tree" "fires" "[Z", Cond.fieldLink RX4 29 "CoverRounds$Tree" "counts" "[I", Cond.fieldLink RX4 33 "CoverRounds$Tree" "above" "[I"]
def wsL_law_r4 : List Cond := [Cond.fieldLink RX4 36 "CoverRounds$Tree" "depth" "[I", Cond.fieldLink RX4 39 "CoverRounds$Tree" "limitNodes" "[I", Cond.methodLink RL 12 yX6_init, Cond.instanceMethod yX6_init, Cond.code yX6_init cX6_init 1 none, Cond.methodLink RX6 1 objectInit, Cond.fieldLink RX6 7 "CoverRoundsModel" "first" "[I", Cond.fieldLink RX6 13 "CoverRoundsModel" "target" "[I", Cond.fieldLink RX6 16 "CoverRoundsModel" "takes" "[I", Cond.fieldLink RX6 19 "CoverRoundsModel" "gives" "[I", Cond.fieldLink RX6 22 "CoverRoundsModel" "now" "[I", Cond.fieldLink RX6 25 "CoverRoundsModel" "ended" "I", Cond.fieldLink RX6 29 "CoverRoundsModel" "leastCounts" "[I", Cond.constant RX6 32 (61000), Cond.fieldLink RX6 33 "CoverRoundsModel" "kept" "[I", Cond.fieldLink RX6 36 "CoverRoundsModel" "round" "[I", Cond.fieldLink RX6 39 "CoverRoundsModel" "before" "[I", Cond.fieldLink RX6 42 "CoverRoundsModel" "rows" "[I", Cond.fieldLink RX6 45 "CoverRoundsModel" "markings" "[I", Cond.fieldLink RX6 48 "CoverRoundsModel" "above" "[I", Cond.fieldLink RX6 51 "CoverRoundsModel" "limitNodes" "[I", Cond.fieldLink RX6 54 "CoverRoundsModel" "work" "[I", Cond.fieldLink RX6 57 "CoverRoundsModel" "trail" "[I", Cond.methodLink RL 13 yX5_place]
def wsL_law_r5 : List Cond := [Cond.instanceMethod yX5_place, Cond.selects RX5 yX5_place yX5_place, Cond.code yX5_place cX5_place 3 (some .int), Cond.fieldLink RX5 34 "CoverRounds$Net" "places" "I", Cond.fieldLink RX5 42 "CoverRounds$Net" "first" "[I", Cond.methodLink RX5 38 yX5_isWithin, Cond.static yX5_isWithin, Cond.code yX5_isWithin cX5_isWithin 2 (some .boolean), Cond.methodLink RX5 45 yX5_goBackToFirst, Cond.instanceMethod yX5_goBackToFirst, Cond.selects RX5 yX5_goBackToFirst yX5_goBackToFirst, Cond.code yX5_goBackToFirst cX5_goBackToFirst 1 none, Cond.methodLink RX5 130 arraycopyName, Cond.native arraycopyName, Cond.static arraycopyName, Cond.initialized "java/lang/System", Cond.methodLink RL 17 yX6_place, Cond.instanceMethod yX6_place, Cond.selects RX6 yX6_place yX6_place, Cond.code yX6_place cX6_place 2 (some .int), Cond.fieldLink RX6 60 "CoverRoundsModel" "places" "I", Cond.methodLink RX6 66 yX6_isIn, Cond.static yX6_isIn, Cond.code yX6_isIn cX6_isIn 2 (some .boolean)]
def wsL_law_r6 : List Cond := [Cond.methodLink RX6 70 yX6_begin, Cond.instanceMethod yX6_begin, Cond.selects RX6 yX6_begin yX6_begin, Cond.code yX6_begin cX6_begin 2 none, Cond.methodLink RL 18 yX5_transition, Cond.instanceMethod yX5_transition, Cond.selects RX5 yX5_transition yX5_transition, Cond.code yX5_transition cX5_transition 2 (some .int), Cond.fieldLink RX5 48 "CoverRounds$Net" "transitions" "I", Cond.methodLink RL 22 yX6_transition, Cond.instanceMethod yX6_transition, Cond.selects RX6 yX6_transition yX6_transition, Cond.code yX6_transition cX6_transition 1 (some .int), Cond.fieldLink RX6 63 "CoverRoundsModel" "transitions" "I", Cond.methodLink RL 23 yX5_arc, Cond.instanceMethod yX5_arc, Cond.selects RX5 yX5_arc yX5_arc, Cond.code yX5_arc cX5_arc 5 (some .boolean), Cond.fieldLink RX5 58 "CoverRounds$Net" "takes" "[[I", Cond.fieldLink RX5 62 "CoverRounds$Net" "gives" "[[I", Cond.methodLink RX5 51 yX0_hasTransition, Cond.instanceMethod yX0_hasTransition, Cond.selects RX0 yX0_hasTransition yX0_hasTransition, Cond.code yX0_hasTransition cX0_hasTransition 2 (some .boolean)]
def wsL_law_r7 : List Cond := [Cond.methodLink RX5 55 yX0_hasPlace, Cond.instanceMethod yX0_hasPlace, Cond.selects RX0 yX0_hasPlace yX0_hasPlace, Cond.code yX0_hasPlace cX0_hasPlace 2 (some .boolean), Cond.methodLink RL 27 yX6_arc, Cond.instanceMethod yX6_arc, Cond.selects RX6 yX6_arc yX6_arc, Cond.code yX6_arc cX6_arc 5 (some .boolean), Cond.methodLink RX6 73 yX6_isTransition, Cond.instanceMethod yX6_isTransition, Cond.selects RX6 yX6_isTransition yX6_isTransition, Cond.code yX6_isTransition cX6_isTransition 2 (some .boolean), Cond.methodLink RX6 77 yX6_isPlace, Cond.instanceMethod yX6_isPlace, Cond.selects RX6 yX6_isPlace yX6_isPlace, Cond.code yX6_isPlace cX6_isPlace 2 (some .boolean), Cond.methodLink RL 28 yX5_target, Cond.instanceMethod yX5_target, Cond.selects RX5 yX5_target yX5_target, Cond.code yX5_target cX5_target 3 (some .boolean), Cond.fieldLink RX5 65 "CoverRounds$Net" "wanted" "[I", Cond.methodLink RL 32 yX6_target, Cond.instanceMethod yX6_target, Cond.selects RX6 yX6_target yX6_target]
def wsL_law_r8 : List Cond := [Cond.code yX6_target cX6_target 3 (some .boolean), Cond.methodLink RL 33 yX5_rounds, Cond.instanceMethod yX5_rounds, Cond.selects RX5 yX5_rounds yX5_rounds, Cond.code yX5_rounds cX5_rounds 1 (some .int), Cond.fieldLink RX5 72 "CoverRounds$Search" "ending" "I", Cond.methodLink RX5 68 yX3_goRounds, Cond.instanceMethod yX3_goRounds, Cond.selects RX3 yX3_goRounds yX3_goRounds, Cond.code yX3_goRounds cX3_goRounds 3 none, Cond.fieldLink RX3 65 "CoverRounds$Pile" "size" "I", Cond.methodLink RX3 58 yX3_begin, Cond.instanceMethod yX3_begin, Cond.selects RX3 yX3_begin yX3_begin, Cond.code yX3_begin cX3_begin 3 none, Cond.fieldLink RX3 79 "CoverRounds$Net" "first" "[I", Cond.fieldLink RX3 89 "CoverRounds$Net" "transitions" "I", Cond.fieldLink RX3 90 "CoverRounds$Net" "takes" "[[I", Cond.fieldLink RX3 93 "CoverRounds$Net" "gives" "[[I", Cond.fieldLink RX3 95 "CoverRounds$Net" "wanted" "[I", Cond.methodLink RX3 83 yX1_of, Cond.static yX1_of, Cond.initialized RX1, Cond.code yX1_of cX1_of 4 (some .long)]
def wsL_law_r9 : List Cond := [Cond.methodLink RX3 98 yX2_add, Cond.instanceMethod yX2_add, Cond.selects RX2 yX2_add yX2_add, Cond.code yX2_add cX2_add 3 none, Cond.methodLink RX2 17 yJ7_copyOf_c38d5, Cond.static yJ7_copyOf_c38d5, Cond.initialized RJ7, Cond.code yJ7_copyOf_c38d5 cJ7_copyOf_c38d5 3 (some (.array .long)), Cond.methodLink RJ7 319 ⟨"[J", "clone", "()Ljava/lang/Object;"⟩, Cond.sameMethod "[J" "java/lang/Object" "clone" "()Ljava/lang/Object;", Cond.native ⟨"java/lang/Object", "clone", "()Ljava/lang/Object;"⟩, Cond.instanceMethod ⟨"java/lang/Object", "clone", "()Ljava/lang/Object;"⟩, Cond.selects "[J" ⟨"[J", "clone", "()Ljava/lang/Object;"⟩ ⟨"java/lang/Object", "clone", "()Ljava/lang/Object;"⟩, Cond.classLink RJ7 320 "[J", Cond.methodLink RJ7 304 Lib.Math.min.name, Cond.static Lib.Math.min.name, Cond.initialized "java/lang/Math", Cond.code Lib.Math.min.name Lib.Math.min.code 2 (some .int), Cond.methodLink RJ7 150 arraycopyName, Cond.methodLink RX3 62 yX3_stepBack, Cond.instanceMethod yX3_stepBack, Cond.selects RX3 yX3_stepBack yX3_stepBack, Cond.code yX3_stepBack cX3_stepBack 3 none, Cond.fieldLink RX3 106 "CoverRounds$Pile" "rows" "[J"]
def wsL_law_r10 : List Cond := [Cond.methodLink RX3 109 yX1_lessened, Cond.static yX1_lessened, Cond.code yX1_lessened cX1_lessened 10 (some .long), Cond.constantLong RX1 11 (563500246630912), Cond.methodLink RX3 113 yX3_addToLeast, Cond.instanceMethod yX3_addToLeast, Cond.selects RX3 yX3_addToLeast yX3_addToLeast, Cond.code yX3_addToLeast cX3_addToLeast 6 none, Cond.methodLink RX3 102 yX2_hasOneBelow, Cond.instanceMethod yX2_hasOneBelow, Cond.selects RX2 yX2_hasOneBelow yX2_hasOneBelow, Cond.code yX2_hasOneBelow cX2_hasOneBelow 5 (some .boolean), Cond.methodLink RX2 23 yX1_isAtLeast, Cond.static yX1_isAtLeast, Cond.code yX1_isAtLeast cX1_isAtLeast 4 (some .boolean), Cond.methodLink RX3 116 yX1_isAtLeast, Cond.methodLink RX3 68 yX3_endingOf, Cond.instanceMethod yX3_endingOf, Cond.selects RX3 yX3_endingOf yX3_endingOf, Cond.code yX3_endingOf cX3_endingOf 2 (some .int), Cond.methodLink RX3 72 yX3_keepBorn, Cond.instanceMethod yX3_keepBorn, Cond.selects RX3 yX3_keepBorn yX3_keepBorn, Cond.code yX3_keepBorn cX3_keepBorn 3 none]
def wsL_law_r11 : List Cond := [Cond.methodLink RX3 76 yX3_findRow, Cond.instanceMethod yX3_findRow, Cond.selects RX3 yX3_findRow yX3_findRow, Cond.code yX3_findRow cX3_findRow 8 none, Cond.methodLink RL 36 yX6_rounds, Cond.instanceMethod yX6_rounds, Cond.selects RX6 yX6_rounds yX6_rounds, Cond.code yX6_rounds cX6_rounds 4 (some .int), Cond.fieldLink RX6 93 "CoverRoundsModel" "roundPlaces" "I", Cond.fieldLink RX6 80 "CoverRoundsModel" "roundCount" "I", Cond.fieldLink RX6 96 "CoverRoundsModel" "last" "I", Cond.fieldLink RX6 87 "CoverRoundsModel" "beforeCount" "I", Cond.methodLink RX6 90 yX6_takeIn, Cond.instanceMethod yX6_takeIn, Cond.selects RX6 yX6_takeIn yX6_takeIn, Cond.code yX6_takeIn cX6_takeIn 4 none, Cond.methodLink RX6 83 yX6_tops, Cond.static yX6_tops, Cond.code yX6_tops cX6_tops 6 (some .boolean), Cond.methodLink RX6 99 yX6_isFirstIn, Cond.instanceMethod yX6_isFirstIn, Cond.selects RX6 yX6_isFirstIn yX6_isFirstIn, Cond.code yX6_isFirstIn cX6_isFirstIn 3 (some .boolean), Cond.methodLink RX6 103 yX6_isSame]
def wsL_law_r12 : List Cond := [Cond.instanceMethod yX6_isSame, Cond.selects RX6 yX6_isSame yX6_isSame, Cond.code yX6_isSame cX6_isSame 5 (some .boolean), Cond.methodLink RX6 106 yX6_step, Cond.instanceMethod yX6_step, Cond.selects RX6 yX6_step yX6_step, Cond.code yX6_step cX6_step 5 none, Cond.methodLink RX6 109 yX6_tellRow, Cond.instanceMethod yX6_tellRow, Cond.selects RX6 yX6_tellRow yX6_tellRow, Cond.code yX6_tellRow cX6_tellRow 5 none, Cond.methodLink RX6 112 yX6_leads, Cond.instanceMethod yX6_leads, Cond.selects RX6 yX6_leads yX6_leads, Cond.code yX6_leads cX6_leads 5 (some .boolean), Cond.methodLink RX6 116 yX6_canFire, Cond.instanceMethod yX6_canFire, Cond.selects RX6 yX6_canFire yX6_canFire, Cond.code yX6_canFire cX6_canFire 4 (some .boolean), Cond.methodLink RX6 119 yX6_isInRound, Cond.instanceMethod yX6_isInRound, Cond.selects RX6 yX6_isInRound yX6_isInRound, Cond.code yX6_isInRound cX6_isInRound 5 (some .boolean), Cond.methodLink RL 37 yX5_steps]
def wsL_law_r13 : List Cond := [Cond.instanceMethod yX5_steps, Cond.selects RX5 yX5_steps yX5_steps, Cond.code yX5_steps cX5_steps 1 (some .int), Cond.fieldLink RX5 75 "CoverRounds$Search" "last" "I", Cond.methodLink RL 40 yX6_steps, Cond.instanceMethod yX6_steps, Cond.selects RX6 yX6_steps yX6_steps, Cond.code yX6_steps cX6_steps 1 (some .int), Cond.methodLink RL 41 yX5_witness, Cond.instanceMethod yX5_witness, Cond.selects RX5 yX5_witness yX5_witness, Cond.code yX5_witness cX5_witness 2 (some .int), Cond.fieldLink RX5 82 "CoverRounds$Search" "row" "[I", Cond.methodLink RX5 78 yX5_steps, Cond.methodLink RL 44 yX6_witness, Cond.instanceMethod yX6_witness, Cond.selects RX6 yX6_witness yX6_witness, Cond.code yX6_witness cX6_witness 2 (some .int), Cond.methodLink RL 45 yX5_least, Cond.instanceMethod yX5_least, Cond.selects RX5 yX5_least yX5_least, Cond.code yX5_least cX5_least 2 (some .int), Cond.fieldLink RX5 85 "CoverRounds$Search" "leastCounts" "[I", Cond.methodLink RL 48 yX6_least]
def wsL_law_r14 : List Cond := [Cond.instanceMethod yX6_least, Cond.selects RX6 yX6_least yX6_least, Cond.code yX6_least cX6_least 2 (some .int), Cond.methodLink RL 49 yX5_grow, Cond.instanceMethod yX5_grow, Cond.selects RX5 yX5_grow yX5_grow, Cond.code yX5_grow cX5_grow 1 (some .int), Cond.fieldLink RX5 91 "CoverRounds$Tree" "isGrown" "Z", Cond.fieldLink RX5 95 "CoverRounds$Tree" "nodes" "I", Cond.methodLink RX5 88 yX4_growFrom, Cond.instanceMethod yX4_growFrom, Cond.selects RX4 yX4_growFrom yX4_growFrom, Cond.code yX4_growFrom cX4_growFrom 4 none, Cond.methodLink RX4 42 yX4_begin, Cond.instanceMethod yX4_begin, Cond.selects RX4 yX4_begin yX4_begin, Cond.code yX4_begin cX4_begin 3 none, Cond.fieldLink RX4 57 "CoverRounds$Net" "places" "I", Cond.fieldLink RX4 60 "CoverRounds$Net" "first" "[I", Cond.methodLink RX4 63 arraycopyName, Cond.methodLink RX4 46 yX4_hasTwinAbove, Cond.instanceMethod yX4_hasTwinAbove, Cond.selects RX4 yX4_hasTwinAbove yX4_hasTwinAbove, Cond.code yX4_hasTwinAbove cX4_hasTwinAbove 4 (some .boolean)]
def wsL_law_r15 : List Cond := [Cond.methodLink RX4 69 yX4_isAtLeast, Cond.instanceMethod yX4_isAtLeast, Cond.selects RX4 yX4_isAtLeast yX4_isAtLeast, Cond.code yX4_isAtLeast cX4_isAtLeast 6 (some .boolean), Cond.methodLink RX4 50 yX4_addChildren, Cond.instanceMethod yX4_addChildren, Cond.selects RX4 yX4_addChildren yX4_addChildren, Cond.code yX4_addChildren cX4_addChildren 4 (some .boolean), Cond.fieldLink RX4 73 "CoverRounds$Net" "transitions" "I", Cond.methodLink RX4 76 yX0_canFire, Cond.instanceMethod yX0_canFire, Cond.selects RX0 yX0_canFire yX0_canFire, Cond.code yX0_canFire cX0_canFire 6 (some .boolean), Cond.methodLink RX4 80 yX4_addChild, Cond.instanceMethod yX4_addChild, Cond.selects RX4 yX4_addChild yX4_addChild, Cond.code yX4_addChild cX4_addChild 5 none, Cond.methodLink RX4 84 yX0_move, Cond.instanceMethod yX0_move, Cond.selects RX0 yX0_move yX0_move, Cond.code yX0_move cX0_move 5 none, Cond.constant RX0 33 (1000000000), Cond.methodLink RX4 88 yX4_accelerate, Cond.instanceMethod yX4_accelerate]
def wsL_law_r16 : List Cond := [Cond.selects RX4 yX4_accelerate yX4_accelerate, Cond.code yX4_accelerate cX4_accelerate 6 none, Cond.methodLink RX4 92 yX4_raise, Cond.instanceMethod yX4_raise, Cond.selects RX4 yX4_raise yX4_raise, Cond.code yX4_raise cX4_raise 6 (some .boolean), Cond.constant RX4 99 (1000000000), Cond.methodLink RX4 95 yX4_countAt, Cond.instanceMethod yX4_countAt, Cond.selects RX4 yX4_countAt yX4_countAt, Cond.code yX4_countAt cX4_countAt 3 (some .int), Cond.methodLink RX4 54 yX4_gatherLimits, Cond.instanceMethod yX4_gatherLimits, Cond.selects RX4 yX4_gatherLimits yX4_gatherLimits, Cond.code yX4_gatherLimits cX4_gatherLimits 2 none, Cond.methodLink RX4 100 yX4_hasLimitOver, Cond.instanceMethod yX4_hasLimitOver, Cond.selects RX4 yX4_hasLimitOver yX4_hasLimitOver, Cond.code yX4_hasLimitOver cX4_hasLimitOver 3 (some .boolean), Cond.methodLink RX4 103 yX4_dropLimitsUnder, Cond.instanceMethod yX4_dropLimitsUnder, Cond.selects RX4 yX4_dropLimitsUnder yX4_dropLimitsUnder, Cond.code yX4_dropLimitsUnder cX4_dropLimitsUnder 4 none, Cond.methodLink RX4 106 yX4_insertLimit]
def wsL_law_r17 : List Cond := [Cond.instanceMethod yX4_insertLimit, Cond.selects RX4 yX4_insertLimit yX4_insertLimit, Cond.code yX4_insertLimit cX4_insertLimit 3 none, Cond.methodLink RX4 109 yX4_comesBefore, Cond.instanceMethod yX4_comesBefore, Cond.selects RX4 yX4_comesBefore yX4_comesBefore, Cond.code yX4_comesBefore cX4_comesBefore 4 (some .boolean), Cond.methodLink RL 52 yX6_grow, Cond.instanceMethod yX6_grow, Cond.selects RX6 yX6_grow yX6_grow, Cond.code yX6_grow cX6_grow 5 (some .int), Cond.fieldLink RX6 124 "CoverRoundsModel" "isGrown" "Z", Cond.fieldLink RX6 128 "CoverRoundsModel" "nodes" "I", Cond.constant RX6 123 (1000000), Cond.fieldLink RX6 138 "CoverRoundsModel" "grownPlaces" "I", Cond.methodLink RX6 131 yX6_isOld, Cond.instanceMethod yX6_isOld, Cond.selects RX6 yX6_isOld yX6_isOld, Cond.code yX6_isOld cX6_isOld 4 (some .boolean), Cond.methodLink RX6 134 yX6_accelerate, Cond.instanceMethod yX6_accelerate, Cond.selects RX6 yX6_accelerate yX6_accelerate, Cond.code yX6_accelerate cX6_accelerate 6 none, Cond.methodLink RX6 141 yX6_tellTree]
def wsL_law_r18 : List Cond := [Cond.instanceMethod yX6_tellTree, Cond.selects RX6 yX6_tellTree yX6_tellTree, Cond.code yX6_tellTree cX6_tellTree 6 none, Cond.fieldLink RX6 144 "CoverRoundsModel" "lives" "I", Cond.fieldLink RX6 147 "CoverRoundsModel" "limitCount" "I", Cond.methodLink RX6 150 yX6_isBefore, Cond.instanceMethod yX6_isBefore, Cond.selects RX6 yX6_isBefore yX6_isBefore, Cond.code yX6_isBefore cX6_isBefore 5 (some .boolean), Cond.methodLink RL 53 yX5_most, Cond.instanceMethod yX5_most, Cond.selects RX5 yX5_most yX5_most, Cond.code yX5_most cX5_most 2 (some .int), Cond.methodLink RX5 98 yX4_hasPlace, Cond.instanceMethod yX4_hasPlace, Cond.selects RX4 yX4_hasPlace yX4_hasPlace, Cond.code yX4_hasPlace cX4_hasPlace 2 (some .boolean), Cond.methodLink RX5 99 yX4_mostAt, Cond.instanceMethod yX4_mostAt, Cond.selects RX4 yX4_mostAt yX4_mostAt, Cond.code yX4_mostAt cX4_mostAt 4 (some .int), Cond.methodLink RX4 115 Lib.Math.max.name, Cond.static Lib.Math.max.name, Cond.code Lib.Math.max.name Lib.Math.max.code 2 (some .int)]
def wsL_law_r19 : List Cond := [Cond.methodLink RX4 112 yX4_limitAt, Cond.instanceMethod yX4_limitAt, Cond.selects RX4 yX4_limitAt yX4_limitAt, Cond.code yX4_limitAt cX4_limitAt 3 (some .int), Cond.methodLink RX5 103 yX5_told, Cond.static yX5_told, Cond.code yX5_told cX5_told 1 (some .int), Cond.constant RX5 136 (1000000000), Cond.methodLink RL 56 yX6_most, Cond.instanceMethod yX6_most, Cond.selects RX6 yX6_most yX6_most, Cond.code yX6_most cX6_most 4 (some .int), Cond.methodLink RX6 153 yX6_isGrownPlace, Cond.instanceMethod yX6_isGrownPlace, Cond.selects RX6 yX6_isGrownPlace yX6_isGrownPlace, Cond.code yX6_isGrownPlace cX6_isGrownPlace 2 (some .boolean), Cond.methodLink RX6 156 yX6_told, Cond.static yX6_told, Cond.code yX6_told cX6_told 1 (some .int), Cond.methodLink RL 57 yX5_live, Cond.instanceMethod yX5_live, Cond.selects RX5 yX5_live yX5_live, Cond.code yX5_live cX5_live 2 (some .boolean), Cond.fieldLink RX5 106 "CoverRounds$Tree" "fires" "[Z"]
def wsL_law_r20 : List Cond := [Cond.methodLink RL 61 yX6_live, Cond.instanceMethod yX6_live, Cond.selects RX6 yX6_live yX6_live, Cond.code yX6_live cX6_live 2 (some .boolean), Cond.methodLink RL 62 yX5_limits, Cond.instanceMethod yX5_limits, Cond.selects RX5 yX5_limits yX5_limits, Cond.code yX5_limits cX5_limits 1 (some .int), Cond.fieldLink RX5 110 "CoverRounds$Tree" "limitCount" "I", Cond.methodLink RL 65 yX6_limits, Cond.instanceMethod yX6_limits, Cond.selects RX6 yX6_limits yX6_limits, Cond.code yX6_limits cX6_limits 1 (some .int), Cond.methodLink RL 66 yX5_limit, Cond.instanceMethod yX5_limit, Cond.selects RX5 yX5_limit yX5_limit, Cond.code yX5_limit cX5_limit 3 (some .int), Cond.methodLink RX5 113 yX4_limitAt, Cond.methodLink RL 70 yX6_limit, Cond.instanceMethod yX6_limit, Cond.selects RX6 yX6_limit yX6_limit, Cond.code yX6_limit cX6_limit 3 (some .int), Cond.methodLink RL 71 yX5_covers, Cond.instanceMethod yX5_covers]
def wsL_law_r21 : List Cond := [Cond.selects RX5 yX5_covers yX5_covers, Cond.code yX5_covers cX5_covers 1 (some .boolean), Cond.fieldLink RX5 117 "CoverRounds$Tree" "places" "I", Cond.methodLink RX5 118 yX4_reaches, Cond.instanceMethod yX4_reaches, Cond.selects RX4 yX4_reaches yX4_reaches, Cond.code yX4_reaches cX4_reaches 3 (some .boolean), Cond.methodLink RX4 120 yX4_limitReaches, Cond.instanceMethod yX4_limitReaches, Cond.selects RX4 yX4_limitReaches yX4_limitReaches, Cond.code yX4_limitReaches cX4_limitReaches 4 (some .boolean), Cond.methodLink RL 75 yX6_covers, Cond.instanceMethod yX6_covers, Cond.selects RX6 yX6_covers yX6_covers, Cond.code yX6_covers cX6_covers 3 (some .boolean), Cond.methodLink RL 76 yX5_fire, Cond.instanceMethod yX5_fire, Cond.selects RX5 yX5_fire yX5_fire, Cond.code yX5_fire cX5_fire 2 (some .boolean), Cond.methodLink RX5 122 yX0_canFire, Cond.methodLink RX5 126 yX0_move, Cond.methodLink RL 79 yX6_fire, Cond.instanceMethod yX6_fire, Cond.selects RX6 yX6_fire yX6_fire]
def wsL_law_r22 : List Cond := [Cond.code yX6_fire cX6_fire 3 (some .boolean), Cond.methodLink RL 80 yX5_tokens, Cond.instanceMethod yX5_tokens, Cond.selects RX5 yX5_tokens yX5_tokens, Cond.code yX5_tokens cX5_tokens 2 (some .int), Cond.methodLink RL 83 yX6_tokens, Cond.instanceMethod yX6_tokens, Cond.selects RX6 yX6_tokens yX6_tokens, Cond.code yX6_tokens cX6_tokens 2 (some .int)]
def wsL_law : List Cond := (wsL_law_r1 ++ (wsL_law_r2 ++ (wsL_law_r3 ++ (wsL_law_r4 ++ (wsL_law_r5 ++ (wsL_law_r6 ++ (wsL_law_r7 ++ (wsL_law_r8 ++ (wsL_law_r9 ++ (wsL_law_r10 ++ (wsL_law_r11 ++ (wsL_law_r12 ++ (wsL_law_r13 ++ (wsL_law_r14 ++ (wsL_law_r15 ++ (wsL_law_r16 ++ (wsL_law_r17 ++ (wsL_law_r18 ++ (wsL_law_r19 ++ (wsL_law_r20 ++ (wsL_law_r21 ++ wsL_law_r22))))))))))))))))))))) ++ wsX50 ++ wsX60 ++ wsX00 ++ wsX30 ++ wsX40 ++ wsX20 ++ ([] : List Cond)
theorem inlX0 : ∀ w ∈ wsX00, w ∈ wsL_law := fun _ h => List.mem_append_left _ (List.mem_append_left _ (List.mem_append_left _ (List.mem_append_left _ (List.mem_append_right _ h))))
theorem inX1 : ∀ w ∈ wsX10, w ∈ lw_tbl := by decide +kernel
theorem inlX2 : ∀ w ∈ wsX20, w ∈ wsL_law := fun _ h => List.mem_append_left _ (List.mem_append_right _ h)
theorem inlX3 : ∀ w ∈ wsX30, w ∈ wsL_law := fun _ h => List.mem_append_left _ (List.mem_append_left _ (List.mem_append_left _ (List.mem_append_right _ h)))
theorem inlX4 : ∀ w ∈ wsX40, w ∈ wsL_law := fun _ h => List.mem_append_left _ (List.mem_append_left _ (List.mem_append_right _ h))
theorem inlX5 : ∀ w ∈ wsX50, w ∈ wsL_law := fun _ h => List.mem_append_left _ (List.mem_append_left _ (List.mem_append_left _ (List.mem_append_left _ (List.mem_append_left _ (List.mem_append_left _ (List.mem_append_right _ h))))))
theorem inlX6 : ∀ w ∈ wsX60, w ∈ wsL_law := fun _ h => List.mem_append_left _ (List.mem_append_left _ (List.mem_append_left _ (List.mem_append_left _ (List.mem_append_left _ (List.mem_append_right _ h)))))
theorem inJx8e188 : ∀ w ∈ wsJx8e1880, w ∈ lw_tbl := by decide +kernel
theorem inJ9 : ∀ w ∈ wsJ90, w ∈ lw_tbl := by decide +kernel
theorem inJ10 : ∀ w ∈ wsJ100, w ∈ lw_tbl := by decide +kernel
theorem inJ7 : ∀ w ∈ wsJ70, w ∈ lw_tbl := by decide +kernel
end
section
theorem dX0_init_0 : decode cX0_init 0 = .ok (.aload_n 0, 1) := by decide +kernel
theorem dX0_init_1 : decode cX0_init 1 = .ok (.invokespecial 3, 3) := by decide +kernel
theorem dX0_init_4 : decode cX0_init 4 = .ok (.aload_n 0, 1) := by decide +kernel
theorem dX0_init_5 : decode cX0_init 5 = .ok (.iconst 0, 1) := by decide +kernel
theorem dX0_init_6 : decode cX0_init 6 = .ok (.putfield 9, 3) := by decide +kernel
theorem dX0_init_9 : decode cX0_init 9 = .ok (.aload_n 0, 1) := by decide +kernel
theorem dX0_init_10 : decode cX0_init 10 = .ok (.iconst 0, 1) := by decide +kernel
theorem dX0_init_11 : decode cX0_init 11 = .ok (.putfield 15, 3) := by decide +kernel
theorem dX0_init_14 : decode cX0_init 14 = .ok (.aload_n 0, 1) := by decide +kernel
theorem dX0_init_15 : decode cX0_init 15 = .ok (.iconst 5, 1) := by decide +kernel
theorem dX0_init_16 : decode cX0_init 16 = .ok (.newarray .int, 2) := by decide +kernel
theorem dX0_init_18 : decode cX0_init 18 = .ok (.putfield 18, 3) := by decide +kernel
theorem dX0_init_21 : decode cX0_init 21 = .ok (.aload_n 0, 1) := by decide +kernel
theorem dX0_init_22 : decode cX0_init 22 = .ok (.iconst 5, 1) := by decide +kernel
theorem dX0_init_23 : decode cX0_init 23 = .ok (.newarray .int, 2) := by decide +kernel
theorem dX0_init_25 : decode cX0_init 25 = .ok (.putfield 22, 3) := by decide +kernel
theorem dX0_init_28 : decode cX0_init 28 = .ok (.aload_n 0, 1) := by decide +kernel
theorem dX0_init_29 : decode cX0_init 29 = .ok (.bipush 6, 2) := by decide +kernel
theorem dX0_init_31 : decode cX0_init 31 = .ok (.iconst 5, 1) := by decide +kernel
theorem dX0_init_32 : decode cX0_init 32 = .ok (.multianewarray 25 2, 4) := by decide +kernel
theorem dX0_init_36 : decode cX0_init 36 = .ok (.putfield 27, 3) := by decide +kernel
theorem dX0_init_39 : decode cX0_init 39 = .ok (.aload_n 0, 1) := by decide +kernel
theorem dX0_init_40 : decode cX0_init 40 = .ok (.bipush 6, 2) := by decide +kernel
theorem dX0_init_42 : decode cX0_init 42 = .ok (.iconst 5, 1) := by decide +kernel
theorem dX0_init_43 : decode cX0_init 43 = .ok (.multianewarray 25 2, 4) := by decide +kernel
theorem dX0_init_47 : decode cX0_init 47 = .ok (.putfield 30, 3) := by decide +kernel
theorem dX0_init_50 : decode cX0_init 50 = .ok (.return_, 1) := by decide +kernel
theorem dX0_hasPlace_0 : decode cX0_hasPlace 0 = .ok (.iload_n 1, 1) := by decide +kernel
theorem dX0_hasPlace_1 : decode cX0_hasPlace 1 = .ok (.ifCond .lt 15, 3) := by decide +kernel
theorem dX0_hasPlace_4 : decode cX0_hasPlace 4 = .ok (.iload_n 1, 1) := by decide +kernel
theorem dX0_hasPlace_5 : decode cX0_hasPlace 5 = .ok (.aload_n 0, 1) := by decide +kernel
theorem dX0_hasPlace_6 : decode cX0_hasPlace 6 = .ok (.getfield 9, 3) := by decide +kernel
theorem dX0_hasPlace_9 : decode cX0_hasPlace 9 = .ok (.if_icmp .ge 7, 3) := by decide +kernel
theorem dX0_hasPlace_12 : decode cX0_hasPlace 12 = .ok (.iconst 1, 1) := by decide +kernel
theorem dX0_hasPlace_13 : decode cX0_hasPlace 13 = .ok (.goto 4, 3) := by decide +kernel
theorem dX0_hasPlace_16 : decode cX0_hasPlace 16 = .ok (.iconst 0, 1) := by decide +kernel
theorem dX0_hasPlace_17 : decode cX0_hasPlace 17 = .ok (.ireturn, 1) := by decide +kernel
theorem dX0_hasTransition_0 : decode cX0_hasTransition 0 = .ok (.iload_n 1, 1) := by decide +kernel
theorem dX0_hasTransition_1 : decode cX0_hasTransition 1 = .ok (.ifCond .lt 15, 3) := by decide +kernel
theorem dX0_hasTransition_4 : decode cX0_hasTransition 4 = .ok (.iload_n 1, 1) := by decide +kernel
theorem dX0_hasTransition_5 : decode cX0_hasTransition 5 = .ok (.aload_n 0, 1) := by decide +kernel
theorem dX0_hasTransition_6 : decode cX0_hasTransition 6 = .ok (.getfield 15, 3) := by decide +kernel
theorem dX0_hasTransition_9 : decode cX0_hasTransition 9 = .ok (.if_icmp .ge 7, 3) := by decide +kernel
theorem dX0_hasTransition_12 : decode cX0_hasTransition 12 = .ok (.iconst 1, 1) := by decide +kernel
theorem dX0_hasTransition_13 : decode cX0_hasTransition 13 = .ok (.goto 4, 3) := by decide +kernel
theorem dX0_hasTransition_16 : decode cX0_hasTransition 16 = .ok (.iconst 0, 1) := by decide +kernel
theorem dX0_hasTransition_17 : decode cX0_hasTransition 17 = .ok (.ireturn, 1) := by decide +kernel
theorem dX0_canFire_0 : decode cX0_canFire 0 = .ok (.aload_n 0, 1) := by decide +kernel
theorem dX0_canFire_1 : decode cX0_canFire 1 = .ok (.getfield 27, 3) := by decide +kernel
theorem dX0_canFire_4 : decode cX0_canFire 4 = .ok (.iload_n 1, 1) := by decide +kernel
theorem dX0_canFire_5 : decode cX0_canFire 5 = .ok (.aaload, 1) := by decide +kernel
theorem dX0_canFire_6 : decode cX0_canFire 6 = .ok (.astore 4, 2) := by decide +kernel
theorem dX0_canFire_8 : decode cX0_canFire 8 = .ok (.iconst 0, 1) := by decide +kernel
theorem dX0_canFire_9 : decode cX0_canFire 9 = .ok (.istore 5, 2) := by decide +kernel
theorem dX0_canFire_11 : decode cX0_canFire 11 = .ok (.iload 5, 2) := by decide +kernel
theorem dX0_canFire_13 : decode cX0_canFire 13 = .ok (.aload_n 0, 1) := by decide +kernel
theorem dX0_canFire_14 : decode cX0_canFire 14 = .ok (.getfield 9, 3) := by decide +kernel
theorem dX0_canFire_17 : decode cX0_canFire 17 = .ok (.if_icmp .ge 25, 3) := by decide +kernel
theorem dX0_canFire_20 : decode cX0_canFire 20 = .ok (.aload_n 2, 1) := by decide +kernel
theorem dX0_canFire_21 : decode cX0_canFire 21 = .ok (.iload_n 3, 1) := by decide +kernel
theorem dX0_canFire_22 : decode cX0_canFire 22 = .ok (.iload 5, 2) := by decide +kernel
theorem dX0_canFire_24 : decode cX0_canFire 24 = .ok (.iadd, 1) := by decide +kernel
theorem dX0_canFire_25 : decode cX0_canFire 25 = .ok (.iaload, 1) := by decide +kernel
theorem dX0_canFire_26 : decode cX0_canFire 26 = .ok (.aload 4, 2) := by decide +kernel
theorem dX0_canFire_28 : decode cX0_canFire 28 = .ok (.iload 5, 2) := by decide +kernel
theorem dX0_canFire_30 : decode cX0_canFire 30 = .ok (.iaload, 1) := by decide +kernel
theorem dX0_canFire_31 : decode cX0_canFire 31 = .ok (.if_icmp .ge 5, 3) := by decide +kernel
theorem dX0_canFire_34 : decode cX0_canFire 34 = .ok (.iconst 0, 1) := by decide +kernel
theorem dX0_canFire_35 : decode cX0_canFire 35 = .ok (.ireturn, 1) := by decide +kernel
theorem dX0_canFire_36 : decode cX0_canFire 36 = .ok (.iinc 5 1, 3) := by decide +kernel
theorem dX0_canFire_39 : decode cX0_canFire 39 = .ok (.goto (-28), 3) := by decide +kernel
theorem dX0_canFire_42 : decode cX0_canFire 42 = .ok (.iconst 1, 1) := by decide +kernel
theorem dX0_canFire_43 : decode cX0_canFire 43 = .ok (.ireturn, 1) := by decide +kernel
theorem dX0_move_0 : decode cX0_move 0 = .ok (.iconst 0, 1) := by decide +kernel
theorem dX0_move_1 : decode cX0_move 1 = .ok (.istore 4, 2) := by decide +kernel
theorem dX0_move_3 : decode cX0_move 3 = .ok (.iload 4, 2) := by decide +kernel
theorem dX0_move_5 : decode cX0_move 5 = .ok (.aload_n 0, 1) := by decide +kernel
theorem dX0_move_6 : decode cX0_move 6 = .ok (.getfield 9, 3) := by decide +kernel
theorem dX0_move_9 : decode cX0_move 9 = .ok (.if_icmp .ge 48, 3) := by decide +kernel
theorem dX0_move_12 : decode cX0_move 12 = .ok (.aload_n 2, 1) := by decide +kernel
theorem dX0_move_13 : decode cX0_move 13 = .ok (.iload_n 3, 1) := by decide +kernel
theorem dX0_move_14 : decode cX0_move 14 = .ok (.iload 4, 2) := by decide +kernel
theorem dX0_move_16 : decode cX0_move 16 = .ok (.iadd, 1) := by decide +kernel
theorem dX0_move_17 : decode cX0_move 17 = .ok (.iaload, 1) := by decide +kernel
theorem dX0_move_18 : decode cX0_move 18 = .ok (.ldc 33, 2) := by decide +kernel
theorem dX0_move_20 : decode cX0_move 20 = .ok (.if_icmp .eq 31, 3) := by decide +kernel
theorem dX0_move_23 : decode cX0_move 23 = .ok (.aload_n 2, 1) := by decide +kernel
theorem dX0_move_24 : decode cX0_move 24 = .ok (.iload_n 3, 1) := by decide +kernel
theorem dX0_move_25 : decode cX0_move 25 = .ok (.iload 4, 2) := by decide +kernel
theorem dX0_move_27 : decode cX0_move 27 = .ok (.iadd, 1) := by decide +kernel
theorem dX0_move_28 : decode cX0_move 28 = .ok (.dup2, 1) := by decide +kernel
theorem dX0_move_29 : decode cX0_move 29 = .ok (.iaload, 1) := by decide +kernel
theorem dX0_move_30 : decode cX0_move 30 = .ok (.aload_n 0, 1) := by decide +kernel
theorem dX0_move_31 : decode cX0_move 31 = .ok (.getfield 30, 3) := by decide +kernel
theorem dX0_move_34 : decode cX0_move 34 = .ok (.iload_n 1, 1) := by decide +kernel
theorem dX0_move_35 : decode cX0_move 35 = .ok (.aaload, 1) := by decide +kernel
theorem dX0_move_36 : decode cX0_move 36 = .ok (.iload 4, 2) := by decide +kernel
theorem dX0_move_38 : decode cX0_move 38 = .ok (.iaload, 1) := by decide +kernel
theorem dX0_move_39 : decode cX0_move 39 = .ok (.aload_n 0, 1) := by decide +kernel
theorem dX0_move_40 : decode cX0_move 40 = .ok (.getfield 27, 3) := by decide +kernel
theorem dX0_move_43 : decode cX0_move 43 = .ok (.iload_n 1, 1) := by decide +kernel
theorem dX0_move_44 : decode cX0_move 44 = .ok (.aaload, 1) := by decide +kernel
theorem dX0_move_45 : decode cX0_move 45 = .ok (.iload 4, 2) := by decide +kernel
theorem dX0_move_47 : decode cX0_move 47 = .ok (.iaload, 1) := by decide +kernel
theorem dX0_move_48 : decode cX0_move 48 = .ok (.isub, 1) := by decide +kernel
theorem dX0_move_49 : decode cX0_move 49 = .ok (.iadd, 1) := by decide +kernel
theorem dX0_move_50 : decode cX0_move 50 = .ok (.iastore, 1) := by decide +kernel
theorem dX0_move_51 : decode cX0_move 51 = .ok (.iinc 4 1, 3) := by decide +kernel
theorem dX0_move_54 : decode cX0_move 54 = .ok (.goto (-51), 3) := by decide +kernel
theorem dX0_move_57 : decode cX0_move 57 = .ok (.return_, 1) := by decide +kernel
theorem dX1_of_0 : decode cX1_of 0 = .ok (.lconst 0, 1) := by decide +kernel
theorem dX1_of_1 : decode cX1_of 1 = .ok (.lstore_n 1, 1) := by decide +kernel
theorem dX1_of_2 : decode cX1_of 2 = .ok (.iconst 4, 1) := by decide +kernel
theorem dX1_of_3 : decode cX1_of 3 = .ok (.istore_n 3, 1) := by decide +kernel
theorem dX1_of_4 : decode cX1_of 4 = .ok (.iload_n 3, 1) := by decide +kernel
theorem dX1_of_5 : decode cX1_of 5 = .ok (.ifCond .lt 19, 3) := by decide +kernel
theorem dX1_of_8 : decode cX1_of 8 = .ok (.lload_n 1, 1) := by decide +kernel
theorem dX1_of_9 : decode cX1_of 9 = .ok (.bipush 10, 2) := by decide +kernel
theorem dX1_of_11 : decode cX1_of 11 = .ok (.lshl, 1) := by decide +kernel
theorem dX1_of_12 : decode cX1_of 12 = .ok (.aload_n 0, 1) := by decide +kernel
theorem dX1_of_13 : decode cX1_of 13 = .ok (.iload_n 3, 1) := by decide +kernel
theorem dX1_of_14 : decode cX1_of 14 = .ok (.iaload, 1) := by decide +kernel
theorem dX1_of_15 : decode cX1_of 15 = .ok (.i2l, 1) := by decide +kernel
theorem dX1_of_16 : decode cX1_of 16 = .ok (.lor, 1) := by decide +kernel
theorem dX1_of_17 : decode cX1_of 17 = .ok (.lstore_n 1, 1) := by decide +kernel
theorem dX1_of_18 : decode cX1_of 18 = .ok (.iinc 3 (-1), 3) := by decide +kernel
theorem dX1_of_21 : decode cX1_of 21 = .ok (.goto (-17), 3) := by decide +kernel
theorem dX1_of_24 : decode cX1_of 24 = .ok (.lload_n 1, 1) := by decide +kernel
theorem dX1_of_25 : decode cX1_of 25 = .ok (.lreturn, 1) := by decide +kernel
theorem dX1_isAtLeast_0 : decode cX1_isAtLeast 0 = .ok (.lload_n 0, 1) := by decide +kernel
theorem dX1_isAtLeast_1 : decode cX1_isAtLeast 1 = .ok (.ldc2_w 11, 3) := by decide +kernel
theorem dX1_isAtLeast_4 : decode cX1_isAtLeast 4 = .ok (.lor, 1) := by decide +kernel
theorem dX1_isAtLeast_5 : decode cX1_isAtLeast 5 = .ok (.lload_n 2, 1) := by decide +kernel
theorem dX1_isAtLeast_6 : decode cX1_isAtLeast 6 = .ok (.lsub, 1) := by decide +kernel
theorem dX1_isAtLeast_7 : decode cX1_isAtLeast 7 = .ok (.ldc2_w 11, 3) := by decide +kernel
theorem dX1_isAtLeast_10 : decode cX1_isAtLeast 10 = .ok (.land, 1) := by decide +kernel
theorem dX1_isAtLeast_11 : decode cX1_isAtLeast 11 = .ok (.ldc2_w 11, 3) := by decide +kernel
theorem dX1_isAtLeast_14 : decode cX1_isAtLeast 14 = .ok (.lcmp, 1) := by decide +kernel
theorem dX1_isAtLeast_15 : decode cX1_isAtLeast 15 = .ok (.ifCond .ne 7, 3) := by decide +kernel
theorem dX1_isAtLeast_18 : decode cX1_isAtLeast 18 = .ok (.iconst 1, 1) := by decide +kernel
theorem dX1_isAtLeast_19 : decode cX1_isAtLeast 19 = .ok (.goto 4, 3) := by decide +kernel
theorem dX1_isAtLeast_22 : decode cX1_isAtLeast 22 = .ok (.iconst 0, 1) := by decide +kernel
theorem dX1_isAtLeast_23 : decode cX1_isAtLeast 23 = .ok (.ireturn, 1) := by decide +kernel
theorem dX1_lessened_0 : decode cX1_lessened 0 = .ok (.lload_n 0, 1) := by decide +kernel
theorem dX1_lessened_1 : decode cX1_lessened 1 = .ok (.ldc2_w 11, 3) := by decide +kernel
theorem dX1_lessened_4 : decode cX1_lessened 4 = .ok (.lor, 1) := by decide +kernel
theorem dX1_lessened_5 : decode cX1_lessened 5 = .ok (.lload_n 2, 1) := by decide +kernel
theorem dX1_lessened_6 : decode cX1_lessened 6 = .ok (.lsub, 1) := by decide +kernel
theorem dX1_lessened_7 : decode cX1_lessened 7 = .ok (.lstore 4, 2) := by decide +kernel
theorem dX1_lessened_9 : decode cX1_lessened 9 = .ok (.lload 4, 2) := by decide +kernel
theorem dX1_lessened_11 : decode cX1_lessened 11 = .ok (.ldc2_w 11, 3) := by decide +kernel
theorem dX1_lessened_14 : decode cX1_lessened 14 = .ok (.land, 1) := by decide +kernel
theorem dX1_lessened_15 : decode cX1_lessened 15 = .ok (.lstore 6, 2) := by decide +kernel
theorem dX1_lessened_17 : decode cX1_lessened 17 = .ok (.lload 6, 2) := by decide +kernel
theorem dX1_lessened_19 : decode cX1_lessened 19 = .ok (.lload 6, 2) := by decide +kernel
theorem dX1_lessened_21 : decode cX1_lessened 21 = .ok (.bipush 9, 2) := by decide +kernel
theorem dX1_lessened_23 : decode cX1_lessened 23 = .ok (.lushr, 1) := by decide +kernel
theorem dX1_lessened_24 : decode cX1_lessened 24 = .ok (.lsub, 1) := by decide +kernel
theorem dX1_lessened_25 : decode cX1_lessened 25 = .ok (.lstore 8, 2) := by decide +kernel
theorem dX1_lessened_27 : decode cX1_lessened 27 = .ok (.lload 4, 2) := by decide +kernel
theorem dX1_lessened_29 : decode cX1_lessened 29 = .ok (.lload 8, 2) := by decide +kernel
theorem dX1_lessened_31 : decode cX1_lessened 31 = .ok (.land, 1) := by decide +kernel
theorem dX1_lessened_32 : decode cX1_lessened 32 = .ok (.lreturn, 1) := by decide +kernel
theorem dX2_init_0 : decode cX2_init 0 = .ok (.aload_n 0, 1) := by decide +kernel
theorem dX2_init_1 : decode cX2_init 1 = .ok (.invokespecial 1, 3) := by decide +kernel
theorem dX2_init_4 : decode cX2_init 4 = .ok (.aload_n 0, 1) := by decide +kernel
theorem dX2_init_5 : decode cX2_init 5 = .ok (.bipush 64, 2) := by decide +kernel
theorem dX2_init_7 : decode cX2_init 7 = .ok (.newarray .long, 2) := by decide +kernel
theorem dX2_init_9 : decode cX2_init 9 = .ok (.putfield 9, 3) := by decide +kernel
theorem dX2_init_12 : decode cX2_init 12 = .ok (.aload_n 0, 1) := by decide +kernel
theorem dX2_init_13 : decode cX2_init 13 = .ok (.iconst 0, 1) := by decide +kernel
theorem dX2_init_14 : decode cX2_init 14 = .ok (.putfield 13, 3) := by decide +kernel
theorem dX2_init_17 : decode cX2_init 17 = .ok (.return_, 1) := by decide +kernel
set_option maxRecDepth 20000 in
theorem ggX2_add_J7_copyOf_c38d5 : GoodIn wsX2_add wsJ7_copyOf_c38d5 := goodIn_r _ [6, 7, 8, 9, 10, 11, 12, 13, 14, 15, 16, 17, 18, 19, 20, 21] (by decide +kernel) (by decide +kernel)
set_option maxRecDepth 20000 in
theorem gX2_add_J7_copyOf_c38d5 : GoodIn wsX2_add (va_wsS RX2 17 yJ7_copyOf_c38d5 wsJ7_copyOf_c38d5) := goodIn_app (goodIn_of _ (by decide +kernel)) ggX2_add_J7_copyOf_c38d5
theorem dX2_add_0 : decode cX2_add 0 = .ok (.aload_n 0, 1) := by decide +kernel
theorem dX2_add_1 : decode cX2_add 1 = .ok (.getfield 13, 3) := by decide +kernel
theorem dX2_add_4 : decode cX2_add 4 = .ok (.aload_n 0, 1) := by decide +kernel
theorem dX2_add_5 : decode cX2_add 5 = .ok (.getfield 9, 3) := by decide +kernel
theorem dX2_add_8 : decode cX2_add 8 = .ok (.arraylength, 1) := by decide +kernel
theorem dX2_add_9 : decode cX2_add 9 = .ok (.if_icmp .lt 21, 3) := by decide +kernel
theorem dX2_add_12 : decode cX2_add 12 = .ok (.aload_n 0, 1) := by decide +kernel
theorem dX2_add_13 : decode cX2_add 13 = .ok (.aload_n 0, 1) := by decide +kernel
theorem dX2_add_14 : decode cX2_add 14 = .ok (.getfield 9, 3) := by decide +kernel
theorem dX2_add_17 : decode cX2_add 17 = .ok (.iconst 2, 1) := by decide +kernel
theorem dX2_add_18 : decode cX2_add 18 = .ok (.aload_n 0, 1) := by decide +kernel
theorem dX2_add_19 : decode cX2_add 19 = .ok (.getfield 9, 3) := by decide +kernel
theorem dX2_add_22 : decode cX2_add 22 = .ok (.arraylength, 1) := by decide +kernel
theorem dX2_add_23 : decode cX2_add 23 = .ok (.imul, 1) := by decide +kernel
theorem dX2_add_24 : decode cX2_add 24 = .ok (.invokestatic 17, 3) := by decide +kernel
theorem dX2_add_27 : decode cX2_add 27 = .ok (.putfield 9, 3) := by decide +kernel
theorem dX2_add_30 : decode cX2_add 30 = .ok (.aload_n 0, 1) := by decide +kernel
theorem dX2_add_31 : decode cX2_add 31 = .ok (.getfield 9, 3) := by decide +kernel
theorem dX2_add_34 : decode cX2_add 34 = .ok (.aload_n 0, 1) := by decide +kernel
theorem dX2_add_35 : decode cX2_add 35 = .ok (.getfield 13, 3) := by decide +kernel
theorem dX2_add_38 : decode cX2_add 38 = .ok (.lload_n 1, 1) := by decide +kernel
theorem dX2_add_39 : decode cX2_add 39 = .ok (.lastore, 1) := by decide +kernel
theorem dX2_add_40 : decode cX2_add 40 = .ok (.aload_n 0, 1) := by decide +kernel
theorem dX2_add_41 : decode cX2_add 41 = .ok (.dup, 1) := by decide +kernel
theorem dX2_add_42 : decode cX2_add 42 = .ok (.getfield 13, 3) := by decide +kernel
theorem dX2_add_45 : decode cX2_add 45 = .ok (.iconst 1, 1) := by decide +kernel
theorem dX2_add_46 : decode cX2_add 46 = .ok (.iadd, 1) := by decide +kernel
theorem dX2_add_47 : decode cX2_add 47 = .ok (.putfield 13, 3) := by decide +kernel
theorem dX2_add_50 : decode cX2_add 50 = .ok (.return_, 1) := by decide +kernel
set_option maxRecDepth 20000 in
theorem ggX2_hasOneBelow_X1_isAtLeast : GoodIn wsX2_hasOneBelow wsX1_isAtLeast := goodIn_r _ [6, 7] (by decide +kernel) (by decide +kernel)
set_option maxRecDepth 20000 in
theorem gX2_hasOneBelow_X1_isAtLeast : GoodIn wsX2_hasOneBelow (va_wsS RX2 23 yX1_isAtLeast wsX1_isAtLeast) := goodIn_app (goodIn_of _ (by decide +kernel)) ggX2_hasOneBelow_X1_isAtLeast
theorem dX2_hasOneBelow_0 : decode cX2_hasOneBelow 0 = .ok (.iconst 0, 1) := by decide +kernel
theorem dX2_hasOneBelow_1 : decode cX2_hasOneBelow 1 = .ok (.istore 4, 2) := by decide +kernel
theorem dX2_hasOneBelow_3 : decode cX2_hasOneBelow 3 = .ok (.iload 4, 2) := by decide +kernel
theorem dX2_hasOneBelow_5 : decode cX2_hasOneBelow 5 = .ok (.iload_n 3, 1) := by decide +kernel
theorem dX2_hasOneBelow_6 : decode cX2_hasOneBelow 6 = .ok (.if_icmp .ge 34, 3) := by decide +kernel
theorem dX2_hasOneBelow_9 : decode cX2_hasOneBelow 9 = .ok (.iload 4, 2) := by decide +kernel
theorem dX2_hasOneBelow_11 : decode cX2_hasOneBelow 11 = .ok (.aload_n 0, 1) := by decide +kernel
theorem dX2_hasOneBelow_12 : decode cX2_hasOneBelow 12 = .ok (.getfield 13, 3) := by decide +kernel
theorem dX2_hasOneBelow_15 : decode cX2_hasOneBelow 15 = .ok (.if_icmp .ge 25, 3) := by decide +kernel
theorem dX2_hasOneBelow_18 : decode cX2_hasOneBelow 18 = .ok (.lload_n 1, 1) := by decide +kernel
theorem dX2_hasOneBelow_19 : decode cX2_hasOneBelow 19 = .ok (.aload_n 0, 1) := by decide +kernel
theorem dX2_hasOneBelow_20 : decode cX2_hasOneBelow 20 = .ok (.getfield 9, 3) := by decide +kernel
theorem dX2_hasOneBelow_23 : decode cX2_hasOneBelow 23 = .ok (.iload 4, 2) := by decide +kernel
theorem dX2_hasOneBelow_25 : decode cX2_hasOneBelow 25 = .ok (.laload, 1) := by decide +kernel
theorem dX2_hasOneBelow_26 : decode cX2_hasOneBelow 26 = .ok (.invokestatic 23, 3) := by decide +kernel
theorem dX2_hasOneBelow_29 : decode cX2_hasOneBelow 29 = .ok (.ifCond .eq 5, 3) := by decide +kernel
theorem dX2_hasOneBelow_32 : decode cX2_hasOneBelow 32 = .ok (.iconst 1, 1) := by decide +kernel
theorem dX2_hasOneBelow_33 : decode cX2_hasOneBelow 33 = .ok (.ireturn, 1) := by decide +kernel
theorem dX2_hasOneBelow_34 : decode cX2_hasOneBelow 34 = .ok (.iinc 4 1, 3) := by decide +kernel
theorem dX2_hasOneBelow_37 : decode cX2_hasOneBelow 37 = .ok (.goto (-34), 3) := by decide +kernel
theorem dX2_hasOneBelow_40 : decode cX2_hasOneBelow 40 = .ok (.iconst 0, 1) := by decide +kernel
theorem dX2_hasOneBelow_41 : decode cX2_hasOneBelow 41 = .ok (.ireturn, 1) := by decide +kernel
set_option maxRecDepth 20000 in
theorem ggX3_init_X2_init : GoodIn wsX3_init wsX2_init := goodIn_r _ [23, 24, 2, 3, 11, 25, 26, 40, 41] (by decide +kernel) (by decide +kernel)
set_option maxRecDepth 20000 in
theorem gX3_init_X2_init_n41 : GoodIn wsX3_init (wsX2_init) := ggX3_init_X2_init
theorem dX3_init_0 : decode cX3_init 0 = .ok (.aload_n 0, 1) := by decide +kernel
theorem dX3_init_1 : decode cX3_init 1 = .ok (.invokespecial 3, 3) := by decide +kernel
theorem dX3_init_4 : decode cX3_init 4 = .ok (.aload_n 0, 1) := by decide +kernel
theorem dX3_init_5 : decode cX3_init 5 = .ok (.iconst 2, 1) := by decide +kernel
theorem dX3_init_6 : decode cX3_init 6 = .ok (.putfield 9, 3) := by decide +kernel
theorem dX3_init_9 : decode cX3_init 9 = .ok (.aload_n 0, 1) := by decide +kernel
theorem dX3_init_10 : decode cX3_init 10 = .ok (.iconst (-1), 1) := by decide +kernel
theorem dX3_init_11 : decode cX3_init 11 = .ok (.putfield 15, 3) := by decide +kernel
theorem dX3_init_14 : decode cX3_init 14 = .ok (.aload_n 0, 1) := by decide +kernel
theorem dX3_init_15 : decode cX3_init 15 = .ok (.bipush 61, 2) := by decide +kernel
theorem dX3_init_17 : decode cX3_init 17 = .ok (.newarray .int, 2) := by decide +kernel
theorem dX3_init_19 : decode cX3_init 19 = .ok (.putfield 18, 3) := by decide +kernel
theorem dX3_init_22 : decode cX3_init 22 = .ok (.aload_n 0, 1) := by decide +kernel
theorem dX3_init_23 : decode cX3_init 23 = .ok (.bipush 60, 2) := by decide +kernel
theorem dX3_init_25 : decode cX3_init 25 = .ok (.newarray .int, 2) := by decide +kernel
theorem dX3_init_27 : decode cX3_init 27 = .ok (.putfield 22, 3) := by decide +kernel
theorem dX3_init_30 : decode cX3_init 30 = .ok (.aload_n 0, 1) := by decide +kernel
theorem dX3_init_31 : decode cX3_init 31 = .ok (.lconst 0, 1) := by decide +kernel
theorem dX3_init_32 : decode cX3_init 32 = .ok (.putfield 25, 3) := by decide +kernel
theorem dX3_init_35 : decode cX3_init 35 = .ok (.aload_n 0, 1) := by decide +kernel
theorem dX3_init_36 : decode cX3_init 36 = .ok (.iconst 0, 1) := by decide +kernel
theorem dX3_init_37 : decode cX3_init 37 = .ok (.putfield 29, 3) := by decide +kernel
theorem dX3_init_40 : decode cX3_init 40 = .ok (.aload_n 0, 1) := by decide +kernel
theorem dX3_init_41 : decode cX3_init 41 = .ok (.bipush 6, 2) := by decide +kernel
theorem dX3_init_43 : decode cX3_init 43 = .ok (.newarray .long, 2) := by decide +kernel
theorem dX3_init_45 : decode cX3_init 45 = .ok (.putfield 32, 3) := by decide +kernel
theorem dX3_init_48 : decode cX3_init 48 = .ok (.aload_n 0, 1) := by decide +kernel
theorem dX3_init_49 : decode cX3_init 49 = .ok (.bipush 6, 2) := by decide +kernel
theorem dX3_init_51 : decode cX3_init 51 = .ok (.newarray .long, 2) := by decide +kernel
theorem dX3_init_53 : decode cX3_init 53 = .ok (.putfield 36, 3) := by decide +kernel
theorem dX3_init_56 : decode cX3_init 56 = .ok (.aload_n 0, 1) := by decide +kernel
theorem dX3_init_57 : decode cX3_init 57 = .ok (.new 39, 3) := by decide +kernel
theorem dX3_init_60 : decode cX3_init 60 = .ok (.dup, 1) := by decide +kernel
theorem dX3_init_61 : decode cX3_init 61 = .ok (.invokespecial 41, 3) := by decide +kernel
theorem dX3_init_64 : decode cX3_init 64 = .ok (.putfield 42, 3) := by decide +kernel
theorem dX3_init_67 : decode cX3_init 67 = .ok (.aload_n 0, 1) := by decide +kernel
theorem dX3_init_68 : decode cX3_init 68 = .ok (.iconst 0, 1) := by decide +kernel
theorem dX3_init_69 : decode cX3_init 69 = .ok (.putfield 46, 3) := by decide +kernel
theorem dX3_init_72 : decode cX3_init 72 = .ok (.aload_n 0, 1) := by decide +kernel
theorem dX3_init_73 : decode cX3_init 73 = .ok (.new 39, 3) := by decide +kernel
theorem dX3_init_76 : decode cX3_init 76 = .ok (.dup, 1) := by decide +kernel
theorem dX3_init_77 : decode cX3_init 77 = .ok (.invokespecial 41, 3) := by decide +kernel
theorem dX3_init_80 : decode cX3_init 80 = .ok (.putfield 49, 3) := by decide +kernel
theorem dX3_init_83 : decode cX3_init 83 = .ok (.aload_n 0, 1) := by decide +kernel
theorem dX3_init_84 : decode cX3_init 84 = .ok (.bipush 61, 2) := by decide +kernel
theorem dX3_init_86 : decode cX3_init 86 = .ok (.newarray .int, 2) := by decide +kernel
theorem dX3_init_88 : decode cX3_init 88 = .ok (.putfield 52, 3) := by decide +kernel
theorem dX3_init_91 : decode cX3_init 91 = .ok (.aload_n 0, 1) := by decide +kernel
theorem dX3_init_92 : decode cX3_init 92 = .ok (.iconst 0, 1) := by decide +kernel
theorem dX3_init_93 : decode cX3_init 93 = .ok (.putfield 55, 3) := by decide +kernel
theorem dX3_init_96 : decode cX3_init 96 = .ok (.return_, 1) := by decide +kernel
set_option maxRecDepth 20000 in
theorem ggX3_goRounds_X3_begin : GoodIn wsX3_goRounds wsX3_begin := goodIn_r _ [10, 11, 12, 13, 14, 15, 16, 17, 18, 19, 5, 4, 20, 21, 1, 22, 23, 24, 25, 26, 27, 28, 29, 30, 31, 32, 33, 34, 35, 36, 37, 38, 39, 40, 41, 42, 43, 44, 45, 46, 47, 48, 49, 50, 51, 103, 104, 105, 106, 107, 108, 88, 89, 90, 91, 92, 93, 94, 95, 96, 97, 98, 99, 100, 101, 102] (by decide +kernel) (by decide +kernel)
set_option maxRecDepth 20000 in
theorem gX3_goRounds_X3_begin : GoodIn wsX3_goRounds (wsV RX3 58 RX3 yX3_begin wsX3_begin) := goodIn_app (goodIn_of _ (by decide +kernel)) ggX3_goRounds_X3_begin
set_option maxRecDepth 20000 in
theorem ggX3_goRounds_X3_stepBack : GoodIn wsX3_goRounds wsX3_stepBack := goodIn_r _ [55, 4, 5, 21, 56, 19, 14, 57, 17, 15, 58, 59, 24, 60, 61, 62, 63, 64, 9, 65, 66, 67, 68, 29, 69, 31, 32, 70, 71, 72, 73, 26, 27, 28, 30, 33, 34, 35, 36, 37, 38, 39, 40, 41, 42, 43, 44, 45, 46, 47, 48, 49, 50, 51, 88, 89, 90, 91, 92, 93, 94, 95, 96, 97, 98, 99, 100, 101, 102] (by decide +kernel) (by decide +kernel)
set_option maxRecDepth 20000 in
theorem gX3_goRounds_X3_stepBack : GoodIn wsX3_goRounds (wsV RX3 62 RX3 yX3_stepBack wsX3_stepBack) := goodIn_app (goodIn_of _ (by decide +kernel)) ggX3_goRounds_X3_stepBack
set_option maxRecDepth 20000 in
theorem ggX3_goRounds_X3_endingOf : GoodIn wsX3_goRounds wsX3_endingOf := goodIn_r _ [77, 4, 12, 5, 21, 66, 67, 68, 29, 69, 31, 32, 70, 71, 24, 72, 61, 88, 89, 90, 91, 92, 93, 94, 95, 96, 97, 98, 99, 100, 101, 102] (by decide +kernel) (by decide +kernel)
set_option maxRecDepth 20000 in
theorem gX3_goRounds_X3_endingOf : GoodIn wsX3_goRounds (wsV RX3 68 RX3 yX3_endingOf wsX3_endingOf) := goodIn_app (goodIn_of _ (by decide +kernel)) ggX3_goRounds_X3_endingOf
set_option maxRecDepth 20000 in
theorem ggX3_goRounds_X3_keepBorn : GoodIn wsX3_goRounds wsX3_keepBorn := goodIn_r _ [81, 19, 5, 56, 21, 4, 57, 82, 26, 27, 28, 29, 30, 31, 32, 33, 34, 35, 36, 37, 38, 39, 40, 41, 42, 43, 44, 45, 46, 47, 48, 49, 50, 51, 88, 89, 90, 91, 92, 93, 94, 95, 96, 97, 98, 99, 100, 101, 102] (by decide +kernel) (by decide +kernel)
set_option maxRecDepth 20000 in
theorem gX3_goRounds_X3_keepBorn : GoodIn wsX3_goRounds (wsV RX3 72 RX3 yX3_keepBorn wsX3_keepBorn) := goodIn_app (goodIn_of _ (by decide +kernel)) ggX3_goRounds_X3_keepBorn
set_option maxRecDepth 20000 in
theorem ggX3_goRounds_X3_findRow : GoodIn wsX3_goRounds wsX3_findRow := goodIn_r _ [86, 12, 2, 82, 14, 15, 17, 19, 87, 73, 71, 24, 72, 61, 66, 67, 68, 29, 69, 31, 32, 70, 88, 89, 90, 91, 92, 93, 94, 95, 96, 97, 98, 99, 100, 101, 102] (by decide +kernel) (by decide +kernel)
set_option maxRecDepth 20000 in
theorem gX3_goRounds_X3_findRow : GoodIn wsX3_goRounds (wsV RX3 76 RX3 yX3_findRow wsX3_findRow) := goodIn_app (goodIn_of _ (by decide +kernel)) ggX3_goRounds_X3_findRow
theorem dX3_goRounds_0 : decode cX3_goRounds 0 = .ok (.aload_n 0, 1) := by decide +kernel
theorem dX3_goRounds_1 : decode cX3_goRounds 1 = .ok (.aload_n 1, 1) := by decide +kernel
theorem dX3_goRounds_2 : decode cX3_goRounds 2 = .ok (.invokevirtual 58, 3) := by decide +kernel
theorem dX3_goRounds_5 : decode cX3_goRounds 5 = .ok (.iconst 0, 1) := by decide +kernel
theorem dX3_goRounds_6 : decode cX3_goRounds 6 = .ok (.istore_n 2, 1) := by decide +kernel
theorem dX3_goRounds_7 : decode cX3_goRounds 7 = .ok (.iload_n 2, 1) := by decide +kernel
theorem dX3_goRounds_8 : decode cX3_goRounds 8 = .ok (.bipush 60, 2) := by decide +kernel
theorem dX3_goRounds_10 : decode cX3_goRounds 10 = .ok (.if_icmp .gt 65, 3) := by decide +kernel
theorem dX3_goRounds_13 : decode cX3_goRounds 13 = .ok (.aload_n 0, 1) := by decide +kernel
theorem dX3_goRounds_14 : decode cX3_goRounds 14 = .ok (.getfield 9, 3) := by decide +kernel
theorem dX3_goRounds_17 : decode cX3_goRounds 17 = .ok (.iconst 2, 1) := by decide +kernel
theorem dX3_goRounds_18 : decode cX3_goRounds 18 = .ok (.if_icmp .ne 57, 3) := by decide +kernel
theorem dX3_goRounds_21 : decode cX3_goRounds 21 = .ok (.iload_n 2, 1) := by decide +kernel
theorem dX3_goRounds_22 : decode cX3_goRounds 22 = .ok (.ifCond .le 7, 3) := by decide +kernel
theorem dX3_goRounds_25 : decode cX3_goRounds 25 = .ok (.aload_n 0, 1) := by decide +kernel
theorem dX3_goRounds_26 : decode cX3_goRounds 26 = .ok (.invokevirtual 62, 3) := by decide +kernel
theorem dX3_goRounds_29 : decode cX3_goRounds 29 = .ok (.aload_n 0, 1) := by decide +kernel
theorem dX3_goRounds_30 : decode cX3_goRounds 30 = .ok (.iload_n 2, 1) := by decide +kernel
theorem dX3_goRounds_31 : decode cX3_goRounds 31 = .ok (.putfield 15, 3) := by decide +kernel
theorem dX3_goRounds_34 : decode cX3_goRounds 34 = .ok (.aload_n 0, 1) := by decide +kernel
theorem dX3_goRounds_35 : decode cX3_goRounds 35 = .ok (.getfield 18, 3) := by decide +kernel
theorem dX3_goRounds_38 : decode cX3_goRounds 38 = .ok (.iload_n 2, 1) := by decide +kernel
theorem dX3_goRounds_39 : decode cX3_goRounds 39 = .ok (.aload_n 0, 1) := by decide +kernel
theorem dX3_goRounds_40 : decode cX3_goRounds 40 = .ok (.getfield 42, 3) := by decide +kernel
theorem dX3_goRounds_43 : decode cX3_goRounds 43 = .ok (.getfield 65, 3) := by decide +kernel
theorem dX3_goRounds_46 : decode cX3_goRounds 46 = .ok (.iastore, 1) := by decide +kernel
theorem dX3_goRounds_47 : decode cX3_goRounds 47 = .ok (.aload_n 0, 1) := by decide +kernel
theorem dX3_goRounds_48 : decode cX3_goRounds 48 = .ok (.aload_n 0, 1) := by decide +kernel
theorem dX3_goRounds_49 : decode cX3_goRounds 49 = .ok (.iload_n 2, 1) := by decide +kernel
theorem dX3_goRounds_50 : decode cX3_goRounds 50 = .ok (.invokevirtual 68, 3) := by decide +kernel
theorem dX3_goRounds_53 : decode cX3_goRounds 53 = .ok (.putfield 9, 3) := by decide +kernel
theorem dX3_goRounds_56 : decode cX3_goRounds 56 = .ok (.aload_n 0, 1) := by decide +kernel
theorem dX3_goRounds_57 : decode cX3_goRounds 57 = .ok (.getfield 9, 3) := by decide +kernel
theorem dX3_goRounds_60 : decode cX3_goRounds 60 = .ok (.iconst 2, 1) := by decide +kernel
theorem dX3_goRounds_61 : decode cX3_goRounds 61 = .ok (.if_icmp .ne 8, 3) := by decide +kernel
theorem dX3_goRounds_64 : decode cX3_goRounds 64 = .ok (.aload_n 0, 1) := by decide +kernel
theorem dX3_goRounds_65 : decode cX3_goRounds 65 = .ok (.iload_n 2, 1) := by decide +kernel
theorem dX3_goRounds_66 : decode cX3_goRounds 66 = .ok (.invokevirtual 72, 3) := by decide +kernel
theorem dX3_goRounds_69 : decode cX3_goRounds 69 = .ok (.iinc 2 1, 3) := by decide +kernel
theorem dX3_goRounds_72 : decode cX3_goRounds 72 = .ok (.goto (-65), 3) := by decide +kernel
theorem dX3_goRounds_75 : decode cX3_goRounds 75 = .ok (.aload_n 0, 1) := by decide +kernel
theorem dX3_goRounds_76 : decode cX3_goRounds 76 = .ok (.getfield 9, 3) := by decide +kernel
theorem dX3_goRounds_79 : decode cX3_goRounds 79 = .ok (.iconst 1, 1) := by decide +kernel
theorem dX3_goRounds_80 : decode cX3_goRounds 80 = .ok (.if_icmp .ne 7, 3) := by decide +kernel
theorem dX3_goRounds_83 : decode cX3_goRounds 83 = .ok (.aload_n 0, 1) := by decide +kernel
theorem dX3_goRounds_84 : decode cX3_goRounds 84 = .ok (.invokevirtual 76, 3) := by decide +kernel
theorem dX3_goRounds_87 : decode cX3_goRounds 87 = .ok (.return_, 1) := by decide +kernel
set_option maxRecDepth 20000 in
theorem ggX3_begin_X1_of : GoodIn wsX3_begin wsX1_of := goodIn_r _ [18] (by decide +kernel) (by decide +kernel)
set_option maxRecDepth 20000 in
theorem gX3_begin_X1_of : GoodIn wsX3_begin (va_wsS RX3 83 yX1_of wsX1_of) := goodIn_app (goodIn_of _ (by decide +kernel)) ggX3_begin_X1_of
set_option maxRecDepth 20000 in
theorem ggX3_begin_X2_add : GoodIn wsX3_begin wsX2_add := goodIn_r _ [23, 24, 25, 26, 27, 28, 29, 30, 31, 32, 33, 34, 35, 36, 37, 38, 39, 40, 41, 42, 43, 44, 64, 65] (by decide +kernel) (by decide +kernel)
set_option maxRecDepth 20000 in
theorem gX3_begin_X2_add : GoodIn wsX3_begin (wsV RX3 98 RX2 yX2_add wsX2_add) := goodIn_app (goodIn_of _ (by decide +kernel)) ggX3_begin_X2_add
theorem dX3_begin_0 : decode cX3_begin 0 = .ok (.aload_n 0, 1) := by decide +kernel
theorem dX3_begin_1 : decode cX3_begin 1 = .ok (.aload_n 1, 1) := by decide +kernel
theorem dX3_begin_2 : decode cX3_begin 2 = .ok (.getfield 79, 3) := by decide +kernel
theorem dX3_begin_5 : decode cX3_begin 5 = .ok (.invokestatic 83, 3) := by decide +kernel
theorem dX3_begin_8 : decode cX3_begin 8 = .ok (.putfield 25, 3) := by decide +kernel
theorem dX3_begin_11 : decode cX3_begin 11 = .ok (.aload_n 0, 1) := by decide +kernel
theorem dX3_begin_12 : decode cX3_begin 12 = .ok (.aload_n 1, 1) := by decide +kernel
theorem dX3_begin_13 : decode cX3_begin 13 = .ok (.getfield 89, 3) := by decide +kernel
theorem dX3_begin_16 : decode cX3_begin 16 = .ok (.putfield 29, 3) := by decide +kernel
theorem dX3_begin_19 : decode cX3_begin 19 = .ok (.iconst 0, 1) := by decide +kernel
theorem dX3_begin_20 : decode cX3_begin 20 = .ok (.istore_n 2, 1) := by decide +kernel
theorem dX3_begin_21 : decode cX3_begin 21 = .ok (.iload_n 2, 1) := by decide +kernel
theorem dX3_begin_22 : decode cX3_begin 22 = .ok (.aload_n 0, 1) := by decide +kernel
theorem dX3_begin_23 : decode cX3_begin 23 = .ok (.getfield 29, 3) := by decide +kernel
theorem dX3_begin_26 : decode cX3_begin 26 = .ok (.if_icmp .ge 39, 3) := by decide +kernel
theorem dX3_begin_29 : decode cX3_begin 29 = .ok (.aload_n 0, 1) := by decide +kernel
theorem dX3_begin_30 : decode cX3_begin 30 = .ok (.getfield 32, 3) := by decide +kernel
theorem dX3_begin_33 : decode cX3_begin 33 = .ok (.iload_n 2, 1) := by decide +kernel
theorem dX3_begin_34 : decode cX3_begin 34 = .ok (.aload_n 1, 1) := by decide +kernel
theorem dX3_begin_35 : decode cX3_begin 35 = .ok (.getfield 90, 3) := by decide +kernel
theorem dX3_begin_38 : decode cX3_begin 38 = .ok (.iload_n 2, 1) := by decide +kernel
theorem dX3_begin_39 : decode cX3_begin 39 = .ok (.aaload, 1) := by decide +kernel
theorem dX3_begin_40 : decode cX3_begin 40 = .ok (.invokestatic 83, 3) := by decide +kernel
theorem dX3_begin_43 : decode cX3_begin 43 = .ok (.lastore, 1) := by decide +kernel
theorem dX3_begin_44 : decode cX3_begin 44 = .ok (.aload_n 0, 1) := by decide +kernel
theorem dX3_begin_45 : decode cX3_begin 45 = .ok (.getfield 36, 3) := by decide +kernel
theorem dX3_begin_48 : decode cX3_begin 48 = .ok (.iload_n 2, 1) := by decide +kernel
theorem dX3_begin_49 : decode cX3_begin 49 = .ok (.aload_n 1, 1) := by decide +kernel
theorem dX3_begin_50 : decode cX3_begin 50 = .ok (.getfield 93, 3) := by decide +kernel
theorem dX3_begin_53 : decode cX3_begin 53 = .ok (.iload_n 2, 1) := by decide +kernel
theorem dX3_begin_54 : decode cX3_begin 54 = .ok (.aaload, 1) := by decide +kernel
theorem dX3_begin_55 : decode cX3_begin 55 = .ok (.invokestatic 83, 3) := by decide +kernel
theorem dX3_begin_58 : decode cX3_begin 58 = .ok (.lastore, 1) := by decide +kernel
theorem dX3_begin_59 : decode cX3_begin 59 = .ok (.iinc 2 1, 3) := by decide +kernel
theorem dX3_begin_62 : decode cX3_begin 62 = .ok (.goto (-41), 3) := by decide +kernel
theorem dX3_begin_65 : decode cX3_begin 65 = .ok (.aload_n 0, 1) := by decide +kernel
theorem dX3_begin_66 : decode cX3_begin 66 = .ok (.getfield 49, 3) := by decide +kernel
theorem dX3_begin_69 : decode cX3_begin 69 = .ok (.iconst 0, 1) := by decide +kernel
theorem dX3_begin_70 : decode cX3_begin 70 = .ok (.putfield 65, 3) := by decide +kernel
theorem dX3_begin_73 : decode cX3_begin 73 = .ok (.aload_n 0, 1) := by decide +kernel
theorem dX3_begin_74 : decode cX3_begin 74 = .ok (.getfield 42, 3) := by decide +kernel
theorem dX3_begin_77 : decode cX3_begin 77 = .ok (.iconst 0, 1) := by decide +kernel
theorem dX3_begin_78 : decode cX3_begin 78 = .ok (.putfield 65, 3) := by decide +kernel
theorem dX3_begin_81 : decode cX3_begin 81 = .ok (.aload_n 0, 1) := by decide +kernel
theorem dX3_begin_82 : decode cX3_begin 82 = .ok (.getfield 42, 3) := by decide +kernel
theorem dX3_begin_85 : decode cX3_begin 85 = .ok (.aload_n 1, 1) := by decide +kernel
theorem dX3_begin_86 : decode cX3_begin 86 = .ok (.getfield 95, 3) := by decide +kernel
theorem dX3_begin_89 : decode cX3_begin 89 = .ok (.invokestatic 83, 3) := by decide +kernel
theorem dX3_begin_92 : decode cX3_begin 92 = .ok (.invokevirtual 98, 3) := by decide +kernel
theorem dX3_begin_95 : decode cX3_begin 95 = .ok (.aload_n 0, 1) := by decide +kernel
theorem dX3_begin_96 : decode cX3_begin 96 = .ok (.iconst 0, 1) := by decide +kernel
theorem dX3_begin_97 : decode cX3_begin 97 = .ok (.putfield 46, 3) := by decide +kernel
theorem dX3_begin_100 : decode cX3_begin 100 = .ok (.aload_n 0, 1) := by decide +kernel
theorem dX3_begin_101 : decode cX3_begin 101 = .ok (.iconst 2, 1) := by decide +kernel
theorem dX3_begin_102 : decode cX3_begin 102 = .ok (.putfield 9, 3) := by decide +kernel
theorem dX3_begin_105 : decode cX3_begin 105 = .ok (.return_, 1) := by decide +kernel
set_option maxRecDepth 20000 in
theorem ggX3_endingOf_X2_hasOneBelow : GoodIn wsX3_endingOf wsX2_hasOneBelow := goodIn_r _ [9, 10, 11, 12, 13, 14, 15, 16, 30, 31] (by decide +kernel) (by decide +kernel)
set_option maxRecDepth 20000 in
theorem gX3_endingOf_X2_hasOneBelow : GoodIn wsX3_endingOf (wsV RX3 102 RX2 yX2_hasOneBelow wsX2_hasOneBelow) := goodIn_app (goodIn_of _ (by decide +kernel)) ggX3_endingOf_X2_hasOneBelow
theorem dX3_endingOf_0 : decode cX3_endingOf 0 = .ok (.aload_n 0, 1) := by decide +kernel
theorem dX3_endingOf_1 : decode cX3_endingOf 1 = .ok (.getfield 42, 3) := by decide +kernel
theorem dX3_endingOf_4 : decode cX3_endingOf 4 = .ok (.aload_n 0, 1) := by decide +kernel
theorem dX3_endingOf_5 : decode cX3_endingOf 5 = .ok (.getfield 25, 3) := by decide +kernel
theorem dX3_endingOf_8 : decode cX3_endingOf 8 = .ok (.aload_n 0, 1) := by decide +kernel
theorem dX3_endingOf_9 : decode cX3_endingOf 9 = .ok (.getfield 42, 3) := by decide +kernel
theorem dX3_endingOf_12 : decode cX3_endingOf 12 = .ok (.getfield 65, 3) := by decide +kernel
theorem dX3_endingOf_15 : decode cX3_endingOf 15 = .ok (.invokevirtual 102, 3) := by decide +kernel
theorem dX3_endingOf_18 : decode cX3_endingOf 18 = .ok (.ifCond .eq 5, 3) := by decide +kernel
theorem dX3_endingOf_21 : decode cX3_endingOf 21 = .ok (.iconst 1, 1) := by decide +kernel
theorem dX3_endingOf_22 : decode cX3_endingOf 22 = .ok (.ireturn, 1) := by decide +kernel
theorem dX3_endingOf_23 : decode cX3_endingOf 23 = .ok (.aload_n 0, 1) := by decide +kernel
theorem dX3_endingOf_24 : decode cX3_endingOf 24 = .ok (.getfield 42, 3) := by decide +kernel
theorem dX3_endingOf_27 : decode cX3_endingOf 27 = .ok (.getfield 65, 3) := by decide +kernel
theorem dX3_endingOf_30 : decode cX3_endingOf 30 = .ok (.sipush 200, 3) := by decide +kernel
theorem dX3_endingOf_33 : decode cX3_endingOf 33 = .ok (.if_icmp .le 5, 3) := by decide +kernel
theorem dX3_endingOf_36 : decode cX3_endingOf 36 = .ok (.iconst (-1), 1) := by decide +kernel
theorem dX3_endingOf_37 : decode cX3_endingOf 37 = .ok (.ireturn, 1) := by decide +kernel
theorem dX3_endingOf_38 : decode cX3_endingOf 38 = .ok (.aload_n 0, 1) := by decide +kernel
theorem dX3_endingOf_39 : decode cX3_endingOf 39 = .ok (.getfield 46, 3) := by decide +kernel
theorem dX3_endingOf_42 : decode cX3_endingOf 42 = .ok (.aload_n 0, 1) := by decide +kernel
theorem dX3_endingOf_43 : decode cX3_endingOf 43 = .ok (.getfield 42, 3) := by decide +kernel
theorem dX3_endingOf_46 : decode cX3_endingOf 46 = .ok (.getfield 65, 3) := by decide +kernel
theorem dX3_endingOf_49 : decode cX3_endingOf 49 = .ok (.if_icmp .ne 5, 3) := by decide +kernel
theorem dX3_endingOf_52 : decode cX3_endingOf 52 = .ok (.iconst 0, 1) := by decide +kernel
theorem dX3_endingOf_53 : decode cX3_endingOf 53 = .ok (.ireturn, 1) := by decide +kernel
theorem dX3_endingOf_54 : decode cX3_endingOf 54 = .ok (.iload_n 1, 1) := by decide +kernel
theorem dX3_endingOf_55 : decode cX3_endingOf 55 = .ok (.bipush 60, 2) := by decide +kernel
theorem dX3_endingOf_57 : decode cX3_endingOf 57 = .ok (.if_icmp .ne 7, 3) := by decide +kernel
theorem dX3_endingOf_60 : decode cX3_endingOf 60 = .ok (.iconst (-1), 1) := by decide +kernel
theorem dX3_endingOf_61 : decode cX3_endingOf 61 = .ok (.goto 4, 3) := by decide +kernel
theorem dX3_endingOf_64 : decode cX3_endingOf 64 = .ok (.iconst 2, 1) := by decide +kernel
theorem dX3_endingOf_65 : decode cX3_endingOf 65 = .ok (.ireturn, 1) := by decide +kernel
set_option maxRecDepth 20000 in
theorem ggX3_keepBorn_X2_add : GoodIn wsX3_keepBorn wsX2_add := goodIn_r _ [12, 13, 14, 15, 16, 17, 18, 19, 20, 21, 22, 23, 24, 25, 26, 27, 28, 29, 30, 31, 32, 33, 47, 48] (by decide +kernel) (by decide +kernel)
set_option maxRecDepth 20000 in
theorem gX3_keepBorn_X2_add : GoodIn wsX3_keepBorn (wsV RX3 98 RX2 yX2_add wsX2_add) := goodIn_app (goodIn_of _ (by decide +kernel)) ggX3_keepBorn_X2_add
theorem dX3_keepBorn_0 : decode cX3_keepBorn 0 = .ok (.aload_n 0, 1) := by decide +kernel
theorem dX3_keepBorn_1 : decode cX3_keepBorn 1 = .ok (.aload_n 0, 1) := by decide +kernel
theorem dX3_keepBorn_2 : decode cX3_keepBorn 2 = .ok (.getfield 49, 3) := by decide +kernel
theorem dX3_keepBorn_5 : decode cX3_keepBorn 5 = .ok (.getfield 65, 3) := by decide +kernel
theorem dX3_keepBorn_8 : decode cX3_keepBorn 8 = .ok (.putfield 55, 3) := by decide +kernel
theorem dX3_keepBorn_11 : decode cX3_keepBorn 11 = .ok (.aload_n 0, 1) := by decide +kernel
theorem dX3_keepBorn_12 : decode cX3_keepBorn 12 = .ok (.getfield 46, 3) := by decide +kernel
theorem dX3_keepBorn_15 : decode cX3_keepBorn 15 = .ok (.istore_n 2, 1) := by decide +kernel
theorem dX3_keepBorn_16 : decode cX3_keepBorn 16 = .ok (.iload_n 2, 1) := by decide +kernel
theorem dX3_keepBorn_17 : decode cX3_keepBorn 17 = .ok (.aload_n 0, 1) := by decide +kernel
theorem dX3_keepBorn_18 : decode cX3_keepBorn 18 = .ok (.getfield 42, 3) := by decide +kernel
theorem dX3_keepBorn_21 : decode cX3_keepBorn 21 = .ok (.getfield 65, 3) := by decide +kernel
theorem dX3_keepBorn_24 : decode cX3_keepBorn 24 = .ok (.if_icmp .ge 25, 3) := by decide +kernel
theorem dX3_keepBorn_27 : decode cX3_keepBorn 27 = .ok (.aload_n 0, 1) := by decide +kernel
theorem dX3_keepBorn_28 : decode cX3_keepBorn 28 = .ok (.getfield 49, 3) := by decide +kernel
theorem dX3_keepBorn_31 : decode cX3_keepBorn 31 = .ok (.aload_n 0, 1) := by decide +kernel
theorem dX3_keepBorn_32 : decode cX3_keepBorn 32 = .ok (.getfield 42, 3) := by decide +kernel
theorem dX3_keepBorn_35 : decode cX3_keepBorn 35 = .ok (.getfield 106, 3) := by decide +kernel
theorem dX3_keepBorn_38 : decode cX3_keepBorn 38 = .ok (.iload_n 2, 1) := by decide +kernel
theorem dX3_keepBorn_39 : decode cX3_keepBorn 39 = .ok (.laload, 1) := by decide +kernel
theorem dX3_keepBorn_40 : decode cX3_keepBorn 40 = .ok (.invokevirtual 98, 3) := by decide +kernel
theorem dX3_keepBorn_43 : decode cX3_keepBorn 43 = .ok (.iinc 2 1, 3) := by decide +kernel
theorem dX3_keepBorn_46 : decode cX3_keepBorn 46 = .ok (.goto (-30), 3) := by decide +kernel
theorem dX3_keepBorn_49 : decode cX3_keepBorn 49 = .ok (.aload_n 0, 1) := by decide +kernel
theorem dX3_keepBorn_50 : decode cX3_keepBorn 50 = .ok (.getfield 52, 3) := by decide +kernel
theorem dX3_keepBorn_53 : decode cX3_keepBorn 53 = .ok (.iload_n 1, 1) := by decide +kernel
theorem dX3_keepBorn_54 : decode cX3_keepBorn 54 = .ok (.aload_n 0, 1) := by decide +kernel
theorem dX3_keepBorn_55 : decode cX3_keepBorn 55 = .ok (.getfield 49, 3) := by decide +kernel
theorem dX3_keepBorn_58 : decode cX3_keepBorn 58 = .ok (.getfield 65, 3) := by decide +kernel
theorem dX3_keepBorn_61 : decode cX3_keepBorn 61 = .ok (.iastore, 1) := by decide +kernel
theorem dX3_keepBorn_62 : decode cX3_keepBorn 62 = .ok (.return_, 1) := by decide +kernel
set_option maxRecDepth 20000 in
theorem ggX3_stepBack_X1_lessened : GoodIn wsX3_stepBack wsX1_lessened := goodIn_r _ [13, 14] (by decide +kernel) (by decide +kernel)
set_option maxRecDepth 20000 in
theorem gX3_stepBack_X1_lessened : GoodIn wsX3_stepBack (va_wsS RX3 109 yX1_lessened wsX1_lessened) := goodIn_app (goodIn_of _ (by decide +kernel)) ggX3_stepBack_X1_lessened
set_option maxRecDepth 20000 in
theorem ggX3_stepBack_X3_addToLeast : GoodIn wsX3_stepBack wsX3_addToLeast := goodIn_r _ [19, 1, 2, 7, 3, 20, 21, 22, 23, 24, 25, 26, 27, 28, 12, 29, 14, 30, 31, 32, 33, 34, 35, 36, 37, 38, 39, 40, 41, 42, 43, 44, 45, 46, 47, 48, 49, 50, 51, 52, 53, 54, 55, 56, 57, 58, 59, 60, 61, 62, 63, 64, 65, 66, 67, 68] (by decide +kernel) (by decide +kernel)
set_option maxRecDepth 20000 in
theorem gX3_stepBack_X3_addToLeast : GoodIn wsX3_stepBack (wsV RX3 113 RX3 yX3_addToLeast wsX3_addToLeast) := goodIn_app (goodIn_of _ (by decide +kernel)) ggX3_stepBack_X3_addToLeast
theorem dX3_stepBack_0 : decode cX3_stepBack 0 = .ok (.aload_n 0, 1) := by decide +kernel
theorem dX3_stepBack_1 : decode cX3_stepBack 1 = .ok (.aload_n 0, 1) := by decide +kernel
theorem dX3_stepBack_2 : decode cX3_stepBack 2 = .ok (.getfield 42, 3) := by decide +kernel
theorem dX3_stepBack_5 : decode cX3_stepBack 5 = .ok (.getfield 65, 3) := by decide +kernel
theorem dX3_stepBack_8 : decode cX3_stepBack 8 = .ok (.putfield 46, 3) := by decide +kernel
theorem dX3_stepBack_11 : decode cX3_stepBack 11 = .ok (.aload_n 0, 1) := by decide +kernel
theorem dX3_stepBack_12 : decode cX3_stepBack 12 = .ok (.getfield 55, 3) := by decide +kernel
theorem dX3_stepBack_15 : decode cX3_stepBack 15 = .ok (.istore_n 1, 1) := by decide +kernel
theorem dX3_stepBack_16 : decode cX3_stepBack 16 = .ok (.iload_n 1, 1) := by decide +kernel
theorem dX3_stepBack_17 : decode cX3_stepBack 17 = .ok (.aload_n 0, 1) := by decide +kernel
theorem dX3_stepBack_18 : decode cX3_stepBack 18 = .ok (.getfield 49, 3) := by decide +kernel
theorem dX3_stepBack_21 : decode cX3_stepBack 21 = .ok (.getfield 65, 3) := by decide +kernel
theorem dX3_stepBack_24 : decode cX3_stepBack 24 = .ok (.if_icmp .ge 54, 3) := by decide +kernel
theorem dX3_stepBack_27 : decode cX3_stepBack 27 = .ok (.iconst 0, 1) := by decide +kernel
theorem dX3_stepBack_28 : decode cX3_stepBack 28 = .ok (.istore_n 2, 1) := by decide +kernel
theorem dX3_stepBack_29 : decode cX3_stepBack 29 = .ok (.iload_n 2, 1) := by decide +kernel
theorem dX3_stepBack_30 : decode cX3_stepBack 30 = .ok (.aload_n 0, 1) := by decide +kernel
theorem dX3_stepBack_31 : decode cX3_stepBack 31 = .ok (.getfield 29, 3) := by decide +kernel
theorem dX3_stepBack_34 : decode cX3_stepBack 34 = .ok (.if_icmp .ge 38, 3) := by decide +kernel
theorem dX3_stepBack_37 : decode cX3_stepBack 37 = .ok (.aload_n 0, 1) := by decide +kernel
theorem dX3_stepBack_38 : decode cX3_stepBack 38 = .ok (.aload_n 0, 1) := by decide +kernel
theorem dX3_stepBack_39 : decode cX3_stepBack 39 = .ok (.getfield 49, 3) := by decide +kernel
theorem dX3_stepBack_42 : decode cX3_stepBack 42 = .ok (.getfield 106, 3) := by decide +kernel
theorem dX3_stepBack_45 : decode cX3_stepBack 45 = .ok (.iload_n 1, 1) := by decide +kernel
theorem dX3_stepBack_46 : decode cX3_stepBack 46 = .ok (.laload, 1) := by decide +kernel
theorem dX3_stepBack_47 : decode cX3_stepBack 47 = .ok (.aload_n 0, 1) := by decide +kernel
theorem dX3_stepBack_48 : decode cX3_stepBack 48 = .ok (.getfield 36, 3) := by decide +kernel
theorem dX3_stepBack_51 : decode cX3_stepBack 51 = .ok (.iload_n 2, 1) := by decide +kernel
theorem dX3_stepBack_52 : decode cX3_stepBack 52 = .ok (.laload, 1) := by decide +kernel
theorem dX3_stepBack_53 : decode cX3_stepBack 53 = .ok (.invokestatic 109, 3) := by decide +kernel
theorem dX3_stepBack_56 : decode cX3_stepBack 56 = .ok (.aload_n 0, 1) := by decide +kernel
theorem dX3_stepBack_57 : decode cX3_stepBack 57 = .ok (.getfield 32, 3) := by decide +kernel
theorem dX3_stepBack_60 : decode cX3_stepBack 60 = .ok (.iload_n 2, 1) := by decide +kernel
theorem dX3_stepBack_61 : decode cX3_stepBack 61 = .ok (.laload, 1) := by decide +kernel
theorem dX3_stepBack_62 : decode cX3_stepBack 62 = .ok (.ladd, 1) := by decide +kernel
theorem dX3_stepBack_63 : decode cX3_stepBack 63 = .ok (.invokevirtual 113, 3) := by decide +kernel
theorem dX3_stepBack_66 : decode cX3_stepBack 66 = .ok (.iinc 2 1, 3) := by decide +kernel
theorem dX3_stepBack_69 : decode cX3_stepBack 69 = .ok (.goto (-40), 3) := by decide +kernel
theorem dX3_stepBack_72 : decode cX3_stepBack 72 = .ok (.iinc 1 1, 3) := by decide +kernel
theorem dX3_stepBack_75 : decode cX3_stepBack 75 = .ok (.goto (-59), 3) := by decide +kernel
theorem dX3_stepBack_78 : decode cX3_stepBack 78 = .ok (.return_, 1) := by decide +kernel
set_option maxRecDepth 20000 in
theorem ggX3_addToLeast_X2_hasOneBelow : GoodIn wsX3_addToLeast wsX2_hasOneBelow := goodIn_r _ [9, 10, 11, 12, 13, 14, 15, 16, 54, 55] (by decide +kernel) (by decide +kernel)
set_option maxRecDepth 20000 in
theorem gX3_addToLeast_X2_hasOneBelow : GoodIn wsX3_addToLeast (wsV RX3 102 RX2 yX2_hasOneBelow wsX2_hasOneBelow) := goodIn_app (goodIn_of _ (by decide +kernel)) ggX3_addToLeast_X2_hasOneBelow
set_option maxRecDepth 20000 in
theorem ggX3_addToLeast_X1_isAtLeast : GoodIn wsX3_addToLeast wsX1_isAtLeast := goodIn_r _ [15, 16] (by decide +kernel) (by decide +kernel)
set_option maxRecDepth 20000 in
theorem gX3_addToLeast_X1_isAtLeast : GoodIn wsX3_addToLeast (va_wsS RX3 116 yX1_isAtLeast wsX1_isAtLeast) := goodIn_app (goodIn_of _ (by decide +kernel)) ggX3_addToLeast_X1_isAtLeast
set_option maxRecDepth 20000 in
theorem ggX3_addToLeast_X2_add : GoodIn wsX3_addToLeast wsX2_add := goodIn_r _ [21, 10, 11, 22, 23, 24, 25, 26, 27, 28, 29, 30, 31, 32, 33, 34, 35, 36, 37, 38, 39, 40, 54, 55] (by decide +kernel) (by decide +kernel)
set_option maxRecDepth 20000 in
theorem gX3_addToLeast_X2_add : GoodIn wsX3_addToLeast (wsV RX3 98 RX2 yX2_add wsX2_add) := goodIn_app (goodIn_of _ (by decide +kernel)) ggX3_addToLeast_X2_add
theorem dX3_addToLeast_0 : decode cX3_addToLeast 0 = .ok (.aload_n 0, 1) := by decide +kernel
theorem dX3_addToLeast_1 : decode cX3_addToLeast 1 = .ok (.getfield 42, 3) := by decide +kernel
theorem dX3_addToLeast_4 : decode cX3_addToLeast 4 = .ok (.lload_n 1, 1) := by decide +kernel
theorem dX3_addToLeast_5 : decode cX3_addToLeast 5 = .ok (.aload_n 0, 1) := by decide +kernel
theorem dX3_addToLeast_6 : decode cX3_addToLeast 6 = .ok (.getfield 42, 3) := by decide +kernel
theorem dX3_addToLeast_9 : decode cX3_addToLeast 9 = .ok (.getfield 65, 3) := by decide +kernel
theorem dX3_addToLeast_12 : decode cX3_addToLeast 12 = .ok (.invokevirtual 102, 3) := by decide +kernel
theorem dX3_addToLeast_15 : decode cX3_addToLeast 15 = .ok (.ifCond .eq 4, 3) := by decide +kernel
theorem dX3_addToLeast_18 : decode cX3_addToLeast 18 = .ok (.return_, 1) := by decide +kernel
theorem dX3_addToLeast_19 : decode cX3_addToLeast 19 = .ok (.iconst 0, 1) := by decide +kernel
theorem dX3_addToLeast_20 : decode cX3_addToLeast 20 = .ok (.istore_n 3, 1) := by decide +kernel
theorem dX3_addToLeast_21 : decode cX3_addToLeast 21 = .ok (.iconst 0, 1) := by decide +kernel
theorem dX3_addToLeast_22 : decode cX3_addToLeast 22 = .ok (.istore 4, 2) := by decide +kernel
theorem dX3_addToLeast_24 : decode cX3_addToLeast 24 = .ok (.iconst 0, 1) := by decide +kernel
theorem dX3_addToLeast_25 : decode cX3_addToLeast 25 = .ok (.istore 5, 2) := by decide +kernel
theorem dX3_addToLeast_27 : decode cX3_addToLeast 27 = .ok (.iload 5, 2) := by decide +kernel
theorem dX3_addToLeast_29 : decode cX3_addToLeast 29 = .ok (.aload_n 0, 1) := by decide +kernel
theorem dX3_addToLeast_30 : decode cX3_addToLeast 30 = .ok (.getfield 42, 3) := by decide +kernel
theorem dX3_addToLeast_33 : decode cX3_addToLeast 33 = .ok (.getfield 65, 3) := by decide +kernel
theorem dX3_addToLeast_36 : decode cX3_addToLeast 36 = .ok (.if_icmp .ge 67, 3) := by decide +kernel
theorem dX3_addToLeast_39 : decode cX3_addToLeast 39 = .ok (.aload_n 0, 1) := by decide +kernel
theorem dX3_addToLeast_40 : decode cX3_addToLeast 40 = .ok (.getfield 42, 3) := by decide +kernel
theorem dX3_addToLeast_43 : decode cX3_addToLeast 43 = .ok (.getfield 106, 3) := by decide +kernel
theorem dX3_addToLeast_46 : decode cX3_addToLeast 46 = .ok (.iload 5, 2) := by decide +kernel
theorem dX3_addToLeast_48 : decode cX3_addToLeast 48 = .ok (.laload, 1) := by decide +kernel
theorem dX3_addToLeast_49 : decode cX3_addToLeast 49 = .ok (.lload_n 1, 1) := by decide +kernel
theorem dX3_addToLeast_50 : decode cX3_addToLeast 50 = .ok (.invokestatic 116, 3) := by decide +kernel
theorem dX3_addToLeast_53 : decode cX3_addToLeast 53 = .ok (.ifCond .ne 44, 3) := by decide +kernel
theorem dX3_addToLeast_56 : decode cX3_addToLeast 56 = .ok (.aload_n 0, 1) := by decide +kernel
theorem dX3_addToLeast_57 : decode cX3_addToLeast 57 = .ok (.getfield 42, 3) := by decide +kernel
theorem dX3_addToLeast_60 : decode cX3_addToLeast 60 = .ok (.getfield 106, 3) := by decide +kernel
theorem dX3_addToLeast_63 : decode cX3_addToLeast 63 = .ok (.iload_n 3, 1) := by decide +kernel
theorem dX3_addToLeast_64 : decode cX3_addToLeast 64 = .ok (.aload_n 0, 1) := by decide +kernel
theorem dX3_addToLeast_65 : decode cX3_addToLeast 65 = .ok (.getfield 42, 3) := by decide +kernel
theorem dX3_addToLeast_68 : decode cX3_addToLeast 68 = .ok (.getfield 106, 3) := by decide +kernel
theorem dX3_addToLeast_71 : decode cX3_addToLeast 71 = .ok (.iload 5, 2) := by decide +kernel
theorem dX3_addToLeast_73 : decode cX3_addToLeast 73 = .ok (.laload, 1) := by decide +kernel
theorem dX3_addToLeast_74 : decode cX3_addToLeast 74 = .ok (.lastore, 1) := by decide +kernel
theorem dX3_addToLeast_75 : decode cX3_addToLeast 75 = .ok (.iinc 3 1, 3) := by decide +kernel
theorem dX3_addToLeast_78 : decode cX3_addToLeast 78 = .ok (.iload 4, 2) := by decide +kernel
theorem dX3_addToLeast_80 : decode cX3_addToLeast 80 = .ok (.iload 5, 2) := by decide +kernel
theorem dX3_addToLeast_82 : decode cX3_addToLeast 82 = .ok (.aload_n 0, 1) := by decide +kernel
theorem dX3_addToLeast_83 : decode cX3_addToLeast 83 = .ok (.getfield 46, 3) := by decide +kernel
theorem dX3_addToLeast_86 : decode cX3_addToLeast 86 = .ok (.if_icmp .ge 7, 3) := by decide +kernel
theorem dX3_addToLeast_89 : decode cX3_addToLeast 89 = .ok (.iconst 1, 1) := by decide +kernel
theorem dX3_addToLeast_90 : decode cX3_addToLeast 90 = .ok (.goto 4, 3) := by decide +kernel
theorem dX3_addToLeast_93 : decode cX3_addToLeast 93 = .ok (.iconst 0, 1) := by decide +kernel
theorem dX3_addToLeast_94 : decode cX3_addToLeast 94 = .ok (.iadd, 1) := by decide +kernel
theorem dX3_addToLeast_95 : decode cX3_addToLeast 95 = .ok (.istore 4, 2) := by decide +kernel
theorem dX3_addToLeast_97 : decode cX3_addToLeast 97 = .ok (.iinc 5 1, 3) := by decide +kernel
theorem dX3_addToLeast_100 : decode cX3_addToLeast 100 = .ok (.goto (-73), 3) := by decide +kernel
theorem dX3_addToLeast_103 : decode cX3_addToLeast 103 = .ok (.aload_n 0, 1) := by decide +kernel
theorem dX3_addToLeast_104 : decode cX3_addToLeast 104 = .ok (.getfield 42, 3) := by decide +kernel
theorem dX3_addToLeast_107 : decode cX3_addToLeast 107 = .ok (.iload_n 3, 1) := by decide +kernel
theorem dX3_addToLeast_108 : decode cX3_addToLeast 108 = .ok (.putfield 65, 3) := by decide +kernel
theorem dX3_addToLeast_111 : decode cX3_addToLeast 111 = .ok (.aload_n 0, 1) := by decide +kernel
theorem dX3_addToLeast_112 : decode cX3_addToLeast 112 = .ok (.iload 4, 2) := by decide +kernel
theorem dX3_addToLeast_114 : decode cX3_addToLeast 114 = .ok (.putfield 46, 3) := by decide +kernel
theorem dX3_addToLeast_117 : decode cX3_addToLeast 117 = .ok (.aload_n 0, 1) := by decide +kernel
theorem dX3_addToLeast_118 : decode cX3_addToLeast 118 = .ok (.getfield 42, 3) := by decide +kernel
theorem dX3_addToLeast_121 : decode cX3_addToLeast 121 = .ok (.lload_n 1, 1) := by decide +kernel
theorem dX3_addToLeast_122 : decode cX3_addToLeast 122 = .ok (.invokevirtual 98, 3) := by decide +kernel
theorem dX3_addToLeast_125 : decode cX3_addToLeast 125 = .ok (.return_, 1) := by decide +kernel
set_option maxRecDepth 20000 in
theorem ggX3_findRow_X1_isAtLeast : GoodIn wsX3_findRow wsX1_isAtLeast := goodIn_r _ [12, 13] (by decide +kernel) (by decide +kernel)
set_option maxRecDepth 20000 in
theorem gX3_findRow_X1_isAtLeast : GoodIn wsX3_findRow (va_wsS RX3 116 yX1_isAtLeast wsX1_isAtLeast) := goodIn_app (goodIn_of _ (by decide +kernel)) ggX3_findRow_X1_isAtLeast
set_option maxRecDepth 20000 in
theorem ggX3_findRow_X2_hasOneBelow : GoodIn wsX3_findRow wsX2_hasOneBelow := goodIn_r _ [18, 19, 20, 21, 10, 11, 12, 13, 35, 36] (by decide +kernel) (by decide +kernel)
set_option maxRecDepth 20000 in
theorem gX3_findRow_X2_hasOneBelow : GoodIn wsX3_findRow (wsV RX3 102 RX2 yX2_hasOneBelow wsX2_hasOneBelow) := goodIn_app (goodIn_of _ (by decide +kernel)) ggX3_findRow_X2_hasOneBelow
theorem dX3_findRow_0 : decode cX3_findRow 0 = .ok (.aload_n 0, 1) := by decide +kernel
theorem dX3_findRow_1 : decode cX3_findRow 1 = .ok (.getfield 25, 3) := by decide +kernel
theorem dX3_findRow_4 : decode cX3_findRow 4 = .ok (.lstore_n 1, 1) := by decide +kernel
theorem dX3_findRow_5 : decode cX3_findRow 5 = .ok (.iconst 0, 1) := by decide +kernel
theorem dX3_findRow_6 : decode cX3_findRow 6 = .ok (.istore_n 3, 1) := by decide +kernel
theorem dX3_findRow_7 : decode cX3_findRow 7 = .ok (.iload_n 3, 1) := by decide +kernel
theorem dX3_findRow_8 : decode cX3_findRow 8 = .ok (.aload_n 0, 1) := by decide +kernel
theorem dX3_findRow_9 : decode cX3_findRow 9 = .ok (.getfield 15, 3) := by decide +kernel
theorem dX3_findRow_12 : decode cX3_findRow 12 = .ok (.if_icmp .ge 103, 3) := by decide +kernel
theorem dX3_findRow_15 : decode cX3_findRow 15 = .ok (.aload_n 0, 1) := by decide +kernel
theorem dX3_findRow_16 : decode cX3_findRow 16 = .ok (.getfield 52, 3) := by decide +kernel
theorem dX3_findRow_19 : decode cX3_findRow 19 = .ok (.aload_n 0, 1) := by decide +kernel
theorem dX3_findRow_20 : decode cX3_findRow 20 = .ok (.getfield 15, 3) := by decide +kernel
theorem dX3_findRow_23 : decode cX3_findRow 23 = .ok (.iconst 1, 1) := by decide +kernel
theorem dX3_findRow_24 : decode cX3_findRow 24 = .ok (.isub, 1) := by decide +kernel
theorem dX3_findRow_25 : decode cX3_findRow 25 = .ok (.iload_n 3, 1) := by decide +kernel
theorem dX3_findRow_26 : decode cX3_findRow 26 = .ok (.isub, 1) := by decide +kernel
theorem dX3_findRow_27 : decode cX3_findRow 27 = .ok (.iaload, 1) := by decide +kernel
theorem dX3_findRow_28 : decode cX3_findRow 28 = .ok (.istore 4, 2) := by decide +kernel
theorem dX3_findRow_30 : decode cX3_findRow 30 = .ok (.iconst 0, 1) := by decide +kernel
theorem dX3_findRow_31 : decode cX3_findRow 31 = .ok (.istore 5, 2) := by decide +kernel
theorem dX3_findRow_33 : decode cX3_findRow 33 = .ok (.iload 5, 2) := by decide +kernel
theorem dX3_findRow_35 : decode cX3_findRow 35 = .ok (.aload_n 0, 1) := by decide +kernel
theorem dX3_findRow_36 : decode cX3_findRow 36 = .ok (.getfield 29, 3) := by decide +kernel
theorem dX3_findRow_39 : decode cX3_findRow 39 = .ok (.if_icmp .ge 70, 3) := by decide +kernel
theorem dX3_findRow_42 : decode cX3_findRow 42 = .ok (.lload_n 1, 1) := by decide +kernel
theorem dX3_findRow_43 : decode cX3_findRow 43 = .ok (.aload_n 0, 1) := by decide +kernel
theorem dX3_findRow_44 : decode cX3_findRow 44 = .ok (.getfield 32, 3) := by decide +kernel
theorem dX3_findRow_47 : decode cX3_findRow 47 = .ok (.iload 5, 2) := by decide +kernel
theorem dX3_findRow_49 : decode cX3_findRow 49 = .ok (.laload, 1) := by decide +kernel
theorem dX3_findRow_50 : decode cX3_findRow 50 = .ok (.lsub, 1) := by decide +kernel
theorem dX3_findRow_51 : decode cX3_findRow 51 = .ok (.aload_n 0, 1) := by decide +kernel
theorem dX3_findRow_52 : decode cX3_findRow 52 = .ok (.getfield 36, 3) := by decide +kernel
theorem dX3_findRow_55 : decode cX3_findRow 55 = .ok (.iload 5, 2) := by decide +kernel
theorem dX3_findRow_57 : decode cX3_findRow 57 = .ok (.laload, 1) := by decide +kernel
theorem dX3_findRow_58 : decode cX3_findRow 58 = .ok (.ladd, 1) := by decide +kernel
theorem dX3_findRow_59 : decode cX3_findRow 59 = .ok (.lstore 6, 2) := by decide +kernel
theorem dX3_findRow_61 : decode cX3_findRow 61 = .ok (.lload_n 1, 1) := by decide +kernel
theorem dX3_findRow_62 : decode cX3_findRow 62 = .ok (.aload_n 0, 1) := by decide +kernel
theorem dX3_findRow_63 : decode cX3_findRow 63 = .ok (.getfield 32, 3) := by decide +kernel
theorem dX3_findRow_66 : decode cX3_findRow 66 = .ok (.iload 5, 2) := by decide +kernel
theorem dX3_findRow_68 : decode cX3_findRow 68 = .ok (.laload, 1) := by decide +kernel
theorem dX3_findRow_69 : decode cX3_findRow 69 = .ok (.invokestatic 116, 3) := by decide +kernel
theorem dX3_findRow_72 : decode cX3_findRow 72 = .ok (.ifCond .eq 31, 3) := by decide +kernel
theorem dX3_findRow_75 : decode cX3_findRow 75 = .ok (.aload_n 0, 1) := by decide +kernel
theorem dX3_findRow_76 : decode cX3_findRow 76 = .ok (.getfield 49, 3) := by decide +kernel
theorem dX3_findRow_79 : decode cX3_findRow 79 = .ok (.lload 6, 2) := by decide +kernel
theorem dX3_findRow_81 : decode cX3_findRow 81 = .ok (.iload 4, 2) := by decide +kernel
theorem dX3_findRow_83 : decode cX3_findRow 83 = .ok (.invokevirtual 102, 3) := by decide +kernel
theorem dX3_findRow_86 : decode cX3_findRow 86 = .ok (.ifCond .eq 17, 3) := by decide +kernel
theorem dX3_findRow_89 : decode cX3_findRow 89 = .ok (.aload_n 0, 1) := by decide +kernel
theorem dX3_findRow_90 : decode cX3_findRow 90 = .ok (.getfield 22, 3) := by decide +kernel
theorem dX3_findRow_93 : decode cX3_findRow 93 = .ok (.iload_n 3, 1) := by decide +kernel
theorem dX3_findRow_94 : decode cX3_findRow 94 = .ok (.iload 5, 2) := by decide +kernel
theorem dX3_findRow_96 : decode cX3_findRow 96 = .ok (.iastore, 1) := by decide +kernel
theorem dX3_findRow_97 : decode cX3_findRow 97 = .ok (.lload 6, 2) := by decide +kernel
theorem dX3_findRow_99 : decode cX3_findRow 99 = .ok (.lstore_n 1, 1) := by decide +kernel
theorem dX3_findRow_100 : decode cX3_findRow 100 = .ok (.goto 9, 3) := by decide +kernel
theorem dX3_findRow_103 : decode cX3_findRow 103 = .ok (.iinc 5 1, 3) := by decide +kernel
theorem dX3_findRow_106 : decode cX3_findRow 106 = .ok (.goto (-73), 3) := by decide +kernel
theorem dX3_findRow_109 : decode cX3_findRow 109 = .ok (.iinc 3 1, 3) := by decide +kernel
theorem dX3_findRow_112 : decode cX3_findRow 112 = .ok (.goto (-105), 3) := by decide +kernel
theorem dX3_findRow_115 : decode cX3_findRow 115 = .ok (.return_, 1) := by decide +kernel
theorem dX4_init_0 : decode cX4_init 0 = .ok (.aload_n 0, 1) := by decide +kernel
theorem dX4_init_1 : decode cX4_init 1 = .ok (.invokespecial 3, 3) := by decide +kernel
theorem dX4_init_4 : decode cX4_init 4 = .ok (.aload_n 0, 1) := by decide +kernel
theorem dX4_init_5 : decode cX4_init 5 = .ok (.iconst 0, 1) := by decide +kernel
theorem dX4_init_6 : decode cX4_init 6 = .ok (.putfield 9, 3) := by decide +kernel
theorem dX4_init_9 : decode cX4_init 9 = .ok (.aload_n 0, 1) := by decide +kernel
theorem dX4_init_10 : decode cX4_init 10 = .ok (.iconst 0, 1) := by decide +kernel
theorem dX4_init_11 : decode cX4_init 11 = .ok (.putfield 15, 3) := by decide +kernel
theorem dX4_init_14 : decode cX4_init 14 = .ok (.aload_n 0, 1) := by decide +kernel
theorem dX4_init_15 : decode cX4_init 15 = .ok (.iconst 0, 1) := by decide +kernel
theorem dX4_init_16 : decode cX4_init 16 = .ok (.putfield 19, 3) := by decide +kernel
theorem dX4_init_19 : decode cX4_init 19 = .ok (.aload_n 0, 1) := by decide +kernel
theorem dX4_init_20 : decode cX4_init 20 = .ok (.iconst 0, 1) := by decide +kernel
theorem dX4_init_21 : decode cX4_init 21 = .ok (.putfield 22, 3) := by decide +kernel
theorem dX4_init_24 : decode cX4_init 24 = .ok (.aload_n 0, 1) := by decide +kernel
theorem dX4_init_25 : decode cX4_init 25 = .ok (.bipush 6, 2) := by decide +kernel
theorem dX4_init_27 : decode cX4_init 27 = .ok (.newarray .boolean, 2) := by decide +kernel
theorem dX4_init_29 : decode cX4_init 29 = .ok (.putfield 25, 3) := by decide +kernel
theorem dX4_init_32 : decode cX4_init 32 = .ok (.aload_n 0, 1) := by decide +kernel
theorem dX4_init_33 : decode cX4_init 33 = .ok (.sipush 5000, 3) := by decide +kernel
theorem dX4_init_36 : decode cX4_init 36 = .ok (.newarray .int, 2) := by decide +kernel
theorem dX4_init_38 : decode cX4_init 38 = .ok (.putfield 29, 3) := by decide +kernel
theorem dX4_init_41 : decode cX4_init 41 = .ok (.aload_n 0, 1) := by decide +kernel
theorem dX4_init_42 : decode cX4_init 42 = .ok (.sipush 1000, 3) := by decide +kernel
theorem dX4_init_45 : decode cX4_init 45 = .ok (.newarray .int, 2) := by decide +kernel
theorem dX4_init_47 : decode cX4_init 47 = .ok (.putfield 33, 3) := by decide +kernel
theorem dX4_init_50 : decode cX4_init 50 = .ok (.aload_n 0, 1) := by decide +kernel
theorem dX4_init_51 : decode cX4_init 51 = .ok (.sipush 1000, 3) := by decide +kernel
theorem dX4_init_54 : decode cX4_init 54 = .ok (.newarray .int, 2) := by decide +kernel
theorem dX4_init_56 : decode cX4_init 56 = .ok (.putfield 36, 3) := by decide +kernel
theorem dX4_init_59 : decode cX4_init 59 = .ok (.aload_n 0, 1) := by decide +kernel
theorem dX4_init_60 : decode cX4_init 60 = .ok (.sipush 1000, 3) := by decide +kernel
theorem dX4_init_63 : decode cX4_init 63 = .ok (.newarray .int, 2) := by decide +kernel
theorem dX4_init_65 : decode cX4_init 65 = .ok (.putfield 39, 3) := by decide +kernel
theorem dX4_init_68 : decode cX4_init 68 = .ok (.return_, 1) := by decide +kernel
set_option maxRecDepth 20000 in
theorem ggX4_growFrom_X4_begin : GoodIn wsX4_growFrom wsX4_begin := goodIn_r _ [7, 8, 9, 10, 11, 12, 13, 14, 15, 16, 17, 18, 1, 19, 93, 94, 95, 96, 97, 98, 84, 85, 86, 87, 88, 89, 90, 91, 92] (by decide +kernel) (by decide +kernel)
set_option maxRecDepth 20000 in
theorem gX4_growFrom_X4_begin : GoodIn wsX4_growFrom (wsV RX4 42 RX4 yX4_begin wsX4_begin) := goodIn_app (goodIn_of _ (by decide +kernel)) ggX4_growFrom_X4_begin
set_option maxRecDepth 20000 in
theorem ggX4_growFrom_X4_hasTwinAbove : GoodIn wsX4_growFrom wsX4_hasTwinAbove := goodIn_r _ [23, 18, 17, 24, 25, 26, 6, 27, 9, 12, 84, 85, 86, 87, 88, 89, 90, 91, 92] (by decide +kernel) (by decide +kernel)
set_option maxRecDepth 20000 in
theorem gX4_growFrom_X4_hasTwinAbove : GoodIn wsX4_growFrom (wsV RX4 46 RX4 yX4_hasTwinAbove wsX4_hasTwinAbove) := goodIn_app (goodIn_of _ (by decide +kernel)) ggX4_growFrom_X4_hasTwinAbove
set_option maxRecDepth 20000 in
theorem ggX4_growFrom_X4_addChildren : GoodIn wsX4_growFrom wsX4_addChildren := goodIn_r _ [31, 32, 12, 1, 10, 33, 34, 35, 36, 37, 38, 39, 40, 41, 42, 6, 43, 17, 18, 13, 14, 15, 16, 44, 45, 46, 47, 48, 49, 50, 51, 52, 53, 9, 24, 25, 26, 27, 54, 55, 56, 57, 58, 59, 60, 61, 62, 93, 94, 95, 96, 97, 98, 84, 85, 86, 87, 88, 89, 90, 91, 92] (by decide +kernel) (by decide +kernel)
set_option maxRecDepth 20000 in
theorem gX4_growFrom_X4_addChildren : GoodIn wsX4_growFrom (wsV RX4 50 RX4 yX4_addChildren wsX4_addChildren) := goodIn_app (goodIn_of _ (by decide +kernel)) ggX4_growFrom_X4_addChildren
set_option maxRecDepth 20000 in
theorem ggX4_growFrom_X4_gatherLimits : GoodIn wsX4_growFrom wsX4_gatherLimits := goodIn_r _ [66, 1, 67, 68, 69, 6, 70, 19, 71, 24, 25, 26, 27, 9, 12, 72, 73, 74, 75, 76, 77, 78, 79, 80, 81, 82, 83, 59, 60, 61, 62, 84, 85, 86, 87, 88, 89, 90, 91, 92] (by decide +kernel) (by decide +kernel)
set_option maxRecDepth 20000 in
theorem gX4_growFrom_X4_gatherLimits : GoodIn wsX4_growFrom (wsV RX4 54 RX4 yX4_gatherLimits wsX4_gatherLimits) := goodIn_app (goodIn_of _ (by decide +kernel)) ggX4_growFrom_X4_gatherLimits
theorem dX4_growFrom_0 : decode cX4_growFrom 0 = .ok (.aload_n 0, 1) := by decide +kernel
theorem dX4_growFrom_1 : decode cX4_growFrom 1 = .ok (.aload_n 1, 1) := by decide +kernel
theorem dX4_growFrom_2 : decode cX4_growFrom 2 = .ok (.invokevirtual 42, 3) := by decide +kernel
theorem dX4_growFrom_5 : decode cX4_growFrom 5 = .ok (.iconst 1, 1) := by decide +kernel
theorem dX4_growFrom_6 : decode cX4_growFrom 6 = .ok (.istore_n 2, 1) := by decide +kernel
theorem dX4_growFrom_7 : decode cX4_growFrom 7 = .ok (.iconst 0, 1) := by decide +kernel
theorem dX4_growFrom_8 : decode cX4_growFrom 8 = .ok (.istore_n 3, 1) := by decide +kernel
theorem dX4_growFrom_9 : decode cX4_growFrom 9 = .ok (.iload_n 2, 1) := by decide +kernel
theorem dX4_growFrom_10 : decode cX4_growFrom 10 = .ok (.ifCond .eq 47, 3) := by decide +kernel
theorem dX4_growFrom_13 : decode cX4_growFrom 13 = .ok (.iload_n 3, 1) := by decide +kernel
theorem dX4_growFrom_14 : decode cX4_growFrom 14 = .ok (.aload_n 0, 1) := by decide +kernel
theorem dX4_growFrom_15 : decode cX4_growFrom 15 = .ok (.getfield 19, 3) := by decide +kernel
theorem dX4_growFrom_18 : decode cX4_growFrom 18 = .ok (.if_icmp .ge 39, 3) := by decide +kernel
theorem dX4_growFrom_21 : decode cX4_growFrom 21 = .ok (.iload_n 3, 1) := by decide +kernel
theorem dX4_growFrom_22 : decode cX4_growFrom 22 = .ok (.sipush 1000, 3) := by decide +kernel
theorem dX4_growFrom_25 : decode cX4_growFrom 25 = .ok (.if_icmp .ge 32, 3) := by decide +kernel
theorem dX4_growFrom_28 : decode cX4_growFrom 28 = .ok (.aload_n 0, 1) := by decide +kernel
theorem dX4_growFrom_29 : decode cX4_growFrom 29 = .ok (.iload_n 3, 1) := by decide +kernel
theorem dX4_growFrom_30 : decode cX4_growFrom 30 = .ok (.invokevirtual 46, 3) := by decide +kernel
theorem dX4_growFrom_33 : decode cX4_growFrom 33 = .ok (.ifCond .ne 12, 3) := by decide +kernel
theorem dX4_growFrom_36 : decode cX4_growFrom 36 = .ok (.aload_n 0, 1) := by decide +kernel
theorem dX4_growFrom_37 : decode cX4_growFrom 37 = .ok (.aload_n 1, 1) := by decide +kernel
theorem dX4_growFrom_38 : decode cX4_growFrom 38 = .ok (.iload_n 3, 1) := by decide +kernel
theorem dX4_growFrom_39 : decode cX4_growFrom 39 = .ok (.invokevirtual 50, 3) := by decide +kernel
theorem dX4_growFrom_42 : decode cX4_growFrom 42 = .ok (.ifCond .eq 7, 3) := by decide +kernel
theorem dX4_growFrom_45 : decode cX4_growFrom 45 = .ok (.iconst 1, 1) := by decide +kernel
theorem dX4_growFrom_46 : decode cX4_growFrom 46 = .ok (.goto 4, 3) := by decide +kernel
theorem dX4_growFrom_49 : decode cX4_growFrom 49 = .ok (.iconst 0, 1) := by decide +kernel
theorem dX4_growFrom_50 : decode cX4_growFrom 50 = .ok (.istore_n 2, 1) := by decide +kernel
theorem dX4_growFrom_51 : decode cX4_growFrom 51 = .ok (.iinc 3 1, 3) := by decide +kernel
theorem dX4_growFrom_54 : decode cX4_growFrom 54 = .ok (.goto (-45), 3) := by decide +kernel
theorem dX4_growFrom_57 : decode cX4_growFrom 57 = .ok (.iload_n 2, 1) := by decide +kernel
theorem dX4_growFrom_58 : decode cX4_growFrom 58 = .ok (.ifCond .eq 7, 3) := by decide +kernel
theorem dX4_growFrom_61 : decode cX4_growFrom 61 = .ok (.aload_n 0, 1) := by decide +kernel
theorem dX4_growFrom_62 : decode cX4_growFrom 62 = .ok (.invokevirtual 54, 3) := by decide +kernel
theorem dX4_growFrom_65 : decode cX4_growFrom 65 = .ok (.aload_n 0, 1) := by decide +kernel
theorem dX4_growFrom_66 : decode cX4_growFrom 66 = .ok (.iload_n 2, 1) := by decide +kernel
theorem dX4_growFrom_67 : decode cX4_growFrom 67 = .ok (.putfield 9, 3) := by decide +kernel
theorem dX4_growFrom_70 : decode cX4_growFrom 70 = .ok (.return_, 1) := by decide +kernel
theorem dX4_begin_0 : decode cX4_begin 0 = .ok (.aload_n 0, 1) := by decide +kernel
theorem dX4_begin_1 : decode cX4_begin 1 = .ok (.aload_n 1, 1) := by decide +kernel
theorem dX4_begin_2 : decode cX4_begin 2 = .ok (.getfield 57, 3) := by decide +kernel
theorem dX4_begin_5 : decode cX4_begin 5 = .ok (.putfield 15, 3) := by decide +kernel
theorem dX4_begin_8 : decode cX4_begin 8 = .ok (.iconst 0, 1) := by decide +kernel
theorem dX4_begin_9 : decode cX4_begin 9 = .ok (.istore_n 2, 1) := by decide +kernel
theorem dX4_begin_10 : decode cX4_begin 10 = .ok (.iload_n 2, 1) := by decide +kernel
theorem dX4_begin_11 : decode cX4_begin 11 = .ok (.bipush 6, 2) := by decide +kernel
theorem dX4_begin_13 : decode cX4_begin 13 = .ok (.if_icmp .ge 16, 3) := by decide +kernel
theorem dX4_begin_16 : decode cX4_begin 16 = .ok (.aload_n 0, 1) := by decide +kernel
theorem dX4_begin_17 : decode cX4_begin 17 = .ok (.getfield 25, 3) := by decide +kernel
theorem dX4_begin_20 : decode cX4_begin 20 = .ok (.iload_n 2, 1) := by decide +kernel
theorem dX4_begin_21 : decode cX4_begin 21 = .ok (.iconst 0, 1) := by decide +kernel
theorem dX4_begin_22 : decode cX4_begin 22 = .ok (.bastore, 1) := by decide +kernel
theorem dX4_begin_23 : decode cX4_begin 23 = .ok (.iinc 2 1, 3) := by decide +kernel
theorem dX4_begin_26 : decode cX4_begin 26 = .ok (.goto (-16), 3) := by decide +kernel
theorem dX4_begin_29 : decode cX4_begin 29 = .ok (.aload_n 1, 1) := by decide +kernel
theorem dX4_begin_30 : decode cX4_begin 30 = .ok (.getfield 60, 3) := by decide +kernel
theorem dX4_begin_33 : decode cX4_begin 33 = .ok (.iconst 0, 1) := by decide +kernel
theorem dX4_begin_34 : decode cX4_begin 34 = .ok (.aload_n 0, 1) := by decide +kernel
theorem dX4_begin_35 : decode cX4_begin 35 = .ok (.getfield 29, 3) := by decide +kernel
theorem dX4_begin_38 : decode cX4_begin 38 = .ok (.iconst 0, 1) := by decide +kernel
theorem dX4_begin_39 : decode cX4_begin 39 = .ok (.iconst 5, 1) := by decide +kernel
theorem dX4_begin_40 : decode cX4_begin 40 = .ok (.invokestatic 63, 3) := by decide +kernel
theorem dX4_begin_43 : decode cX4_begin 43 = .ok (.aload_n 0, 1) := by decide +kernel
end
section
theorem dX4_begin_44 : decode cX4_begin 44 = .ok (.getfield 33, 3) := by decide +kernel
theorem dX4_begin_47 : decode cX4_begin 47 = .ok (.iconst 0, 1) := by decide +kernel
theorem dX4_begin_48 : decode cX4_begin 48 = .ok (.iconst 0, 1) := by decide +kernel
theorem dX4_begin_49 : decode cX4_begin 49 = .ok (.iastore, 1) := by decide +kernel
theorem dX4_begin_50 : decode cX4_begin 50 = .ok (.aload_n 0, 1) := by decide +kernel
theorem dX4_begin_51 : decode cX4_begin 51 = .ok (.getfield 36, 3) := by decide +kernel
theorem dX4_begin_54 : decode cX4_begin 54 = .ok (.iconst 0, 1) := by decide +kernel
theorem dX4_begin_55 : decode cX4_begin 55 = .ok (.iconst 0, 1) := by decide +kernel
theorem dX4_begin_56 : decode cX4_begin 56 = .ok (.iastore, 1) := by decide +kernel
theorem dX4_begin_57 : decode cX4_begin 57 = .ok (.aload_n 0, 1) := by decide +kernel
theorem dX4_begin_58 : decode cX4_begin 58 = .ok (.iconst 1, 1) := by decide +kernel
theorem dX4_begin_59 : decode cX4_begin 59 = .ok (.putfield 19, 3) := by decide +kernel
theorem dX4_begin_62 : decode cX4_begin 62 = .ok (.aload_n 0, 1) := by decide +kernel
theorem dX4_begin_63 : decode cX4_begin 63 = .ok (.iconst 0, 1) := by decide +kernel
theorem dX4_begin_64 : decode cX4_begin 64 = .ok (.putfield 22, 3) := by decide +kernel
theorem dX4_begin_67 : decode cX4_begin 67 = .ok (.return_, 1) := by decide +kernel
set_option maxRecDepth 20000 in
theorem ggX4_hasTwinAbove_X4_isAtLeast : GoodIn wsX4_hasTwinAbove wsX4_isAtLeast := goodIn_r _ [7, 8, 9, 10, 11, 12, 13, 14, 15, 16, 17, 18] (by decide +kernel) (by decide +kernel)
set_option maxRecDepth 20000 in
theorem gX4_hasTwinAbove_X4_isAtLeast : GoodIn wsX4_hasTwinAbove (wsV RX4 69 RX4 yX4_isAtLeast wsX4_isAtLeast) := goodIn_app (goodIn_of _ (by decide +kernel)) ggX4_hasTwinAbove_X4_isAtLeast
theorem dX4_hasTwinAbove_0 : decode cX4_hasTwinAbove 0 = .ok (.iload_n 1, 1) := by decide +kernel
theorem dX4_hasTwinAbove_1 : decode cX4_hasTwinAbove 1 = .ok (.istore_n 2, 1) := by decide +kernel
theorem dX4_hasTwinAbove_2 : decode cX4_hasTwinAbove 2 = .ok (.aload_n 0, 1) := by decide +kernel
theorem dX4_hasTwinAbove_3 : decode cX4_hasTwinAbove 3 = .ok (.getfield 36, 3) := by decide +kernel
theorem dX4_hasTwinAbove_6 : decode cX4_hasTwinAbove 6 = .ok (.iload_n 1, 1) := by decide +kernel
theorem dX4_hasTwinAbove_7 : decode cX4_hasTwinAbove 7 = .ok (.iaload, 1) := by decide +kernel
theorem dX4_hasTwinAbove_8 : decode cX4_hasTwinAbove 8 = .ok (.istore_n 3, 1) := by decide +kernel
theorem dX4_hasTwinAbove_9 : decode cX4_hasTwinAbove 9 = .ok (.iload_n 3, 1) := by decide +kernel
theorem dX4_hasTwinAbove_10 : decode cX4_hasTwinAbove 10 = .ok (.ifCond .le 36, 3) := by decide +kernel
theorem dX4_hasTwinAbove_13 : decode cX4_hasTwinAbove 13 = .ok (.aload_n 0, 1) := by decide +kernel
theorem dX4_hasTwinAbove_14 : decode cX4_hasTwinAbove 14 = .ok (.getfield 33, 3) := by decide +kernel
theorem dX4_hasTwinAbove_17 : decode cX4_hasTwinAbove 17 = .ok (.iload_n 2, 1) := by decide +kernel
theorem dX4_hasTwinAbove_18 : decode cX4_hasTwinAbove 18 = .ok (.iaload, 1) := by decide +kernel
theorem dX4_hasTwinAbove_19 : decode cX4_hasTwinAbove 19 = .ok (.istore_n 2, 1) := by decide +kernel
theorem dX4_hasTwinAbove_20 : decode cX4_hasTwinAbove 20 = .ok (.aload_n 0, 1) := by decide +kernel
theorem dX4_hasTwinAbove_21 : decode cX4_hasTwinAbove 21 = .ok (.iload_n 1, 1) := by decide +kernel
theorem dX4_hasTwinAbove_22 : decode cX4_hasTwinAbove 22 = .ok (.iload_n 2, 1) := by decide +kernel
theorem dX4_hasTwinAbove_23 : decode cX4_hasTwinAbove 23 = .ok (.invokevirtual 69, 3) := by decide +kernel
theorem dX4_hasTwinAbove_26 : decode cX4_hasTwinAbove 26 = .ok (.ifCond .eq 14, 3) := by decide +kernel
theorem dX4_hasTwinAbove_29 : decode cX4_hasTwinAbove 29 = .ok (.aload_n 0, 1) := by decide +kernel
theorem dX4_hasTwinAbove_30 : decode cX4_hasTwinAbove 30 = .ok (.iload_n 2, 1) := by decide +kernel
theorem dX4_hasTwinAbove_31 : decode cX4_hasTwinAbove 31 = .ok (.iload_n 1, 1) := by decide +kernel
theorem dX4_hasTwinAbove_32 : decode cX4_hasTwinAbove 32 = .ok (.invokevirtual 69, 3) := by decide +kernel
theorem dX4_hasTwinAbove_35 : decode cX4_hasTwinAbove 35 = .ok (.ifCond .eq 5, 3) := by decide +kernel
theorem dX4_hasTwinAbove_38 : decode cX4_hasTwinAbove 38 = .ok (.iconst 1, 1) := by decide +kernel
theorem dX4_hasTwinAbove_39 : decode cX4_hasTwinAbove 39 = .ok (.ireturn, 1) := by decide +kernel
theorem dX4_hasTwinAbove_40 : decode cX4_hasTwinAbove 40 = .ok (.iinc 3 (-1), 3) := by decide +kernel
theorem dX4_hasTwinAbove_43 : decode cX4_hasTwinAbove 43 = .ok (.goto (-34), 3) := by decide +kernel
theorem dX4_hasTwinAbove_46 : decode cX4_hasTwinAbove 46 = .ok (.iconst 0, 1) := by decide +kernel
theorem dX4_hasTwinAbove_47 : decode cX4_hasTwinAbove 47 = .ok (.ireturn, 1) := by decide +kernel
set_option maxRecDepth 20000 in
theorem ggX4_addChildren_X0_canFire : GoodIn wsX4_addChildren wsX0_canFire := goodIn_r _ [9, 10, 11, 47, 48, 49, 50, 51, 52] (by decide +kernel) (by decide +kernel)
set_option maxRecDepth 20000 in
theorem gX4_addChildren_X0_canFire : GoodIn wsX4_addChildren (wsV RX4 76 RX0 yX0_canFire wsX0_canFire) := goodIn_app (goodIn_of _ (by decide +kernel)) ggX4_addChildren_X0_canFire
set_option maxRecDepth 20000 in
theorem ggX4_addChildren_X4_addChild : GoodIn wsX4_addChildren wsX4_addChild := goodIn_r _ [16, 3, 17, 18, 2, 19, 20, 21, 22, 23, 24, 25, 8, 26, 11, 27, 28, 10, 29, 30, 31, 15, 32, 33, 34, 35, 36, 37, 38, 39, 40, 41, 42, 43, 44, 45, 46, 53, 54, 55, 56, 57, 58, 59, 60, 61, 47, 48, 49, 50, 51, 52] (by decide +kernel) (by decide +kernel)
set_option maxRecDepth 20000 in
theorem gX4_addChildren_X4_addChild : GoodIn wsX4_addChildren (wsV RX4 80 RX4 yX4_addChild wsX4_addChild) := goodIn_app (goodIn_of _ (by decide +kernel)) ggX4_addChildren_X4_addChild
theorem dX4_addChildren_0 : decode cX4_addChildren 0 = .ok (.iconst 0, 1) := by decide +kernel
theorem dX4_addChildren_1 : decode cX4_addChildren 1 = .ok (.istore_n 3, 1) := by decide +kernel
theorem dX4_addChildren_2 : decode cX4_addChildren 2 = .ok (.iload_n 3, 1) := by decide +kernel
theorem dX4_addChildren_3 : decode cX4_addChildren 3 = .ok (.aload_n 1, 1) := by decide +kernel
theorem dX4_addChildren_4 : decode cX4_addChildren 4 = .ok (.getfield 73, 3) := by decide +kernel
theorem dX4_addChildren_7 : decode cX4_addChildren 7 = .ok (.if_icmp .ge 50, 3) := by decide +kernel
theorem dX4_addChildren_10 : decode cX4_addChildren 10 = .ok (.aload_n 1, 1) := by decide +kernel
theorem dX4_addChildren_11 : decode cX4_addChildren 11 = .ok (.iload_n 3, 1) := by decide +kernel
theorem dX4_addChildren_12 : decode cX4_addChildren 12 = .ok (.aload_n 0, 1) := by decide +kernel
theorem dX4_addChildren_13 : decode cX4_addChildren 13 = .ok (.getfield 29, 3) := by decide +kernel
theorem dX4_addChildren_16 : decode cX4_addChildren 16 = .ok (.iload_n 2, 1) := by decide +kernel
theorem dX4_addChildren_17 : decode cX4_addChildren 17 = .ok (.iconst 5, 1) := by decide +kernel
theorem dX4_addChildren_18 : decode cX4_addChildren 18 = .ok (.imul, 1) := by decide +kernel
theorem dX4_addChildren_19 : decode cX4_addChildren 19 = .ok (.invokevirtual 76, 3) := by decide +kernel
theorem dX4_addChildren_22 : decode cX4_addChildren 22 = .ok (.ifCond .eq 29, 3) := by decide +kernel
theorem dX4_addChildren_25 : decode cX4_addChildren 25 = .ok (.aload_n 0, 1) := by decide +kernel
theorem dX4_addChildren_26 : decode cX4_addChildren 26 = .ok (.getfield 19, 3) := by decide +kernel
theorem dX4_addChildren_29 : decode cX4_addChildren 29 = .ok (.sipush 1000, 3) := by decide +kernel
theorem dX4_addChildren_32 : decode cX4_addChildren 32 = .ok (.if_icmp .lt 5, 3) := by decide +kernel
theorem dX4_addChildren_35 : decode cX4_addChildren 35 = .ok (.iconst 0, 1) := by decide +kernel
theorem dX4_addChildren_36 : decode cX4_addChildren 36 = .ok (.ireturn, 1) := by decide +kernel
theorem dX4_addChildren_37 : decode cX4_addChildren 37 = .ok (.aload_n 0, 1) := by decide +kernel
theorem dX4_addChildren_38 : decode cX4_addChildren 38 = .ok (.getfield 25, 3) := by decide +kernel
theorem dX4_addChildren_41 : decode cX4_addChildren 41 = .ok (.iload_n 3, 1) := by decide +kernel
theorem dX4_addChildren_42 : decode cX4_addChildren 42 = .ok (.iconst 1, 1) := by decide +kernel
theorem dX4_addChildren_43 : decode cX4_addChildren 43 = .ok (.bastore, 1) := by decide +kernel
theorem dX4_addChildren_44 : decode cX4_addChildren 44 = .ok (.aload_n 0, 1) := by decide +kernel
theorem dX4_addChildren_45 : decode cX4_addChildren 45 = .ok (.aload_n 1, 1) := by decide +kernel
theorem dX4_addChildren_46 : decode cX4_addChildren 46 = .ok (.iload_n 2, 1) := by decide +kernel
theorem dX4_addChildren_47 : decode cX4_addChildren 47 = .ok (.iload_n 3, 1) := by decide +kernel
theorem dX4_addChildren_48 : decode cX4_addChildren 48 = .ok (.invokevirtual 80, 3) := by decide +kernel
theorem dX4_addChildren_51 : decode cX4_addChildren 51 = .ok (.iinc 3 1, 3) := by decide +kernel
theorem dX4_addChildren_54 : decode cX4_addChildren 54 = .ok (.goto (-52), 3) := by decide +kernel
theorem dX4_addChildren_57 : decode cX4_addChildren 57 = .ok (.iconst 1, 1) := by decide +kernel
theorem dX4_addChildren_58 : decode cX4_addChildren 58 = .ok (.ireturn, 1) := by decide +kernel
set_option maxRecDepth 20000 in
theorem ggX4_addChild_X0_move : GoodIn wsX4_addChild wsX0_move := goodIn_r _ [13, 14, 15, 16, 17, 46, 47, 48, 49, 50, 51] (by decide +kernel) (by decide +kernel)
set_option maxRecDepth 20000 in
theorem gX4_addChild_X0_move : GoodIn wsX4_addChild (wsV RX4 84 RX0 yX0_move wsX0_move) := goodIn_app (goodIn_of _ (by decide +kernel)) ggX4_addChild_X0_move
set_option maxRecDepth 20000 in
theorem ggX4_addChild_X4_accelerate : GoodIn wsX4_addChild wsX4_accelerate := goodIn_r _ [22, 23, 3, 2, 24, 25, 26, 21, 27, 4, 28, 29, 30, 31, 32, 33, 34, 35, 36, 37, 38, 39, 40, 41, 42, 43, 44, 45] (by decide +kernel) (by decide +kernel)
set_option maxRecDepth 20000 in
theorem gX4_addChild_X4_accelerate : GoodIn wsX4_addChild (wsV RX4 88 RX4 yX4_accelerate wsX4_accelerate) := goodIn_app (goodIn_of _ (by decide +kernel)) ggX4_addChild_X4_accelerate
theorem dX4_addChild_0 : decode cX4_addChild 0 = .ok (.aload_n 0, 1) := by decide +kernel
theorem dX4_addChild_1 : decode cX4_addChild 1 = .ok (.getfield 19, 3) := by decide +kernel
theorem dX4_addChild_4 : decode cX4_addChild 4 = .ok (.istore 4, 2) := by decide +kernel
theorem dX4_addChild_6 : decode cX4_addChild 6 = .ok (.aload_n 0, 1) := by decide +kernel
theorem dX4_addChild_7 : decode cX4_addChild 7 = .ok (.iload 4, 2) := by decide +kernel
theorem dX4_addChild_9 : decode cX4_addChild 9 = .ok (.iconst 1, 1) := by decide +kernel
theorem dX4_addChild_10 : decode cX4_addChild 10 = .ok (.iadd, 1) := by decide +kernel
theorem dX4_addChild_11 : decode cX4_addChild 11 = .ok (.putfield 19, 3) := by decide +kernel
theorem dX4_addChild_14 : decode cX4_addChild 14 = .ok (.aload_n 0, 1) := by decide +kernel
theorem dX4_addChild_15 : decode cX4_addChild 15 = .ok (.getfield 33, 3) := by decide +kernel
theorem dX4_addChild_18 : decode cX4_addChild 18 = .ok (.iload 4, 2) := by decide +kernel
theorem dX4_addChild_20 : decode cX4_addChild 20 = .ok (.iload_n 2, 1) := by decide +kernel
theorem dX4_addChild_21 : decode cX4_addChild 21 = .ok (.iastore, 1) := by decide +kernel
theorem dX4_addChild_22 : decode cX4_addChild 22 = .ok (.aload_n 0, 1) := by decide +kernel
theorem dX4_addChild_23 : decode cX4_addChild 23 = .ok (.getfield 36, 3) := by decide +kernel
theorem dX4_addChild_26 : decode cX4_addChild 26 = .ok (.iload 4, 2) := by decide +kernel
theorem dX4_addChild_28 : decode cX4_addChild 28 = .ok (.aload_n 0, 1) := by decide +kernel
theorem dX4_addChild_29 : decode cX4_addChild 29 = .ok (.getfield 36, 3) := by decide +kernel
theorem dX4_addChild_32 : decode cX4_addChild 32 = .ok (.iload_n 2, 1) := by decide +kernel
theorem dX4_addChild_33 : decode cX4_addChild 33 = .ok (.iaload, 1) := by decide +kernel
theorem dX4_addChild_34 : decode cX4_addChild 34 = .ok (.iconst 1, 1) := by decide +kernel
theorem dX4_addChild_35 : decode cX4_addChild 35 = .ok (.iadd, 1) := by decide +kernel
theorem dX4_addChild_36 : decode cX4_addChild 36 = .ok (.iastore, 1) := by decide +kernel
theorem dX4_addChild_37 : decode cX4_addChild 37 = .ok (.aload_n 0, 1) := by decide +kernel
theorem dX4_addChild_38 : decode cX4_addChild 38 = .ok (.getfield 29, 3) := by decide +kernel
theorem dX4_addChild_41 : decode cX4_addChild 41 = .ok (.iload_n 2, 1) := by decide +kernel
theorem dX4_addChild_42 : decode cX4_addChild 42 = .ok (.iconst 5, 1) := by decide +kernel
theorem dX4_addChild_43 : decode cX4_addChild 43 = .ok (.imul, 1) := by decide +kernel
theorem dX4_addChild_44 : decode cX4_addChild 44 = .ok (.aload_n 0, 1) := by decide +kernel
theorem dX4_addChild_45 : decode cX4_addChild 45 = .ok (.getfield 29, 3) := by decide +kernel
theorem dX4_addChild_48 : decode cX4_addChild 48 = .ok (.iload 4, 2) := by decide +kernel
theorem dX4_addChild_50 : decode cX4_addChild 50 = .ok (.iconst 5, 1) := by decide +kernel
theorem dX4_addChild_51 : decode cX4_addChild 51 = .ok (.imul, 1) := by decide +kernel
theorem dX4_addChild_52 : decode cX4_addChild 52 = .ok (.iconst 5, 1) := by decide +kernel
theorem dX4_addChild_53 : decode cX4_addChild 53 = .ok (.invokestatic 63, 3) := by decide +kernel
theorem dX4_addChild_56 : decode cX4_addChild 56 = .ok (.aload_n 1, 1) := by decide +kernel
theorem dX4_addChild_57 : decode cX4_addChild 57 = .ok (.iload_n 3, 1) := by decide +kernel
theorem dX4_addChild_58 : decode cX4_addChild 58 = .ok (.aload_n 0, 1) := by decide +kernel
theorem dX4_addChild_59 : decode cX4_addChild 59 = .ok (.getfield 29, 3) := by decide +kernel
theorem dX4_addChild_62 : decode cX4_addChild 62 = .ok (.iload 4, 2) := by decide +kernel
theorem dX4_addChild_64 : decode cX4_addChild 64 = .ok (.iconst 5, 1) := by decide +kernel
theorem dX4_addChild_65 : decode cX4_addChild 65 = .ok (.imul, 1) := by decide +kernel
theorem dX4_addChild_66 : decode cX4_addChild 66 = .ok (.invokevirtual 84, 3) := by decide +kernel
theorem dX4_addChild_69 : decode cX4_addChild 69 = .ok (.aload_n 0, 1) := by decide +kernel
theorem dX4_addChild_70 : decode cX4_addChild 70 = .ok (.iload 4, 2) := by decide +kernel
theorem dX4_addChild_72 : decode cX4_addChild 72 = .ok (.invokevirtual 88, 3) := by decide +kernel
theorem dX4_addChild_75 : decode cX4_addChild 75 = .ok (.return_, 1) := by decide +kernel
set_option maxRecDepth 20000 in
theorem ggX4_accelerate_X4_isAtLeast : GoodIn wsX4_accelerate wsX4_isAtLeast := goodIn_r _ [8, 1, 9, 19, 20, 21, 22, 23, 24, 25, 26, 27] (by decide +kernel) (by decide +kernel)
set_option maxRecDepth 20000 in
theorem gX4_accelerate_X4_isAtLeast : GoodIn wsX4_accelerate (wsV RX4 69 RX4 yX4_isAtLeast wsX4_isAtLeast) := goodIn_app (goodIn_of _ (by decide +kernel)) ggX4_accelerate_X4_isAtLeast
set_option maxRecDepth 20000 in
theorem ggX4_accelerate_X4_raise : GoodIn wsX4_accelerate wsX4_raise := goodIn_r _ [13, 1, 14, 9, 15, 16, 17, 7, 18, 19, 20, 21, 22, 23, 24, 25, 26, 27] (by decide +kernel) (by decide +kernel)
set_option maxRecDepth 20000 in
theorem gX4_accelerate_X4_raise : GoodIn wsX4_accelerate (wsV RX4 92 RX4 yX4_raise wsX4_raise) := goodIn_app (goodIn_of _ (by decide +kernel)) ggX4_accelerate_X4_raise
theorem dX4_accelerate_0 : decode cX4_accelerate 0 = .ok (.iconst 1, 1) := by decide +kernel
theorem dX4_accelerate_1 : decode cX4_accelerate 1 = .ok (.istore_n 2, 1) := by decide +kernel
theorem dX4_accelerate_2 : decode cX4_accelerate 2 = .ok (.iconst 0, 1) := by decide +kernel
theorem dX4_accelerate_3 : decode cX4_accelerate 3 = .ok (.istore_n 3, 1) := by decide +kernel
theorem dX4_accelerate_4 : decode cX4_accelerate 4 = .ok (.iload_n 2, 1) := by decide +kernel
theorem dX4_accelerate_5 : decode cX4_accelerate 5 = .ok (.ifCond .eq 72, 3) := by decide +kernel
theorem dX4_accelerate_8 : decode cX4_accelerate 8 = .ok (.iload_n 3, 1) := by decide +kernel
theorem dX4_accelerate_9 : decode cX4_accelerate 9 = .ok (.aload_n 0, 1) := by decide +kernel
theorem dX4_accelerate_10 : decode cX4_accelerate 10 = .ok (.getfield 15, 3) := by decide +kernel
theorem dX4_accelerate_13 : decode cX4_accelerate 13 = .ok (.if_icmp .gt 64, 3) := by decide +kernel
theorem dX4_accelerate_16 : decode cX4_accelerate 16 = .ok (.iconst 0, 1) := by decide +kernel
theorem dX4_accelerate_17 : decode cX4_accelerate 17 = .ok (.istore_n 2, 1) := by decide +kernel
theorem dX4_accelerate_18 : decode cX4_accelerate 18 = .ok (.iload_n 1, 1) := by decide +kernel
theorem dX4_accelerate_19 : decode cX4_accelerate 19 = .ok (.istore 4, 2) := by decide +kernel
theorem dX4_accelerate_21 : decode cX4_accelerate 21 = .ok (.aload_n 0, 1) := by decide +kernel
theorem dX4_accelerate_22 : decode cX4_accelerate 22 = .ok (.getfield 36, 3) := by decide +kernel
theorem dX4_accelerate_25 : decode cX4_accelerate 25 = .ok (.iload_n 1, 1) := by decide +kernel
theorem dX4_accelerate_26 : decode cX4_accelerate 26 = .ok (.iaload, 1) := by decide +kernel
theorem dX4_accelerate_27 : decode cX4_accelerate 27 = .ok (.istore 5, 2) := by decide +kernel
theorem dX4_accelerate_29 : decode cX4_accelerate 29 = .ok (.iload 5, 2) := by decide +kernel
theorem dX4_accelerate_31 : decode cX4_accelerate 31 = .ok (.ifCond .le 40, 3) := by decide +kernel
theorem dX4_accelerate_34 : decode cX4_accelerate 34 = .ok (.aload_n 0, 1) := by decide +kernel
theorem dX4_accelerate_35 : decode cX4_accelerate 35 = .ok (.getfield 33, 3) := by decide +kernel
theorem dX4_accelerate_38 : decode cX4_accelerate 38 = .ok (.iload 4, 2) := by decide +kernel
theorem dX4_accelerate_40 : decode cX4_accelerate 40 = .ok (.iaload, 1) := by decide +kernel
theorem dX4_accelerate_41 : decode cX4_accelerate 41 = .ok (.istore 4, 2) := by decide +kernel
theorem dX4_accelerate_43 : decode cX4_accelerate 43 = .ok (.aload_n 0, 1) := by decide +kernel
theorem dX4_accelerate_44 : decode cX4_accelerate 44 = .ok (.iload_n 1, 1) := by decide +kernel
theorem dX4_accelerate_45 : decode cX4_accelerate 45 = .ok (.iload 4, 2) := by decide +kernel
theorem dX4_accelerate_47 : decode cX4_accelerate 47 = .ok (.invokevirtual 69, 3) := by decide +kernel
theorem dX4_accelerate_50 : decode cX4_accelerate 50 = .ok (.ifCond .eq 15, 3) := by decide +kernel
theorem dX4_accelerate_53 : decode cX4_accelerate 53 = .ok (.aload_n 0, 1) := by decide +kernel
theorem dX4_accelerate_54 : decode cX4_accelerate 54 = .ok (.iload_n 1, 1) := by decide +kernel
theorem dX4_accelerate_55 : decode cX4_accelerate 55 = .ok (.iload 4, 2) := by decide +kernel
theorem dX4_accelerate_57 : decode cX4_accelerate 57 = .ok (.invokevirtual 92, 3) := by decide +kernel
theorem dX4_accelerate_60 : decode cX4_accelerate 60 = .ok (.ifCond .eq 5, 3) := by decide +kernel
theorem dX4_accelerate_63 : decode cX4_accelerate 63 = .ok (.iconst 1, 1) := by decide +kernel
theorem dX4_accelerate_64 : decode cX4_accelerate 64 = .ok (.istore_n 2, 1) := by decide +kernel
theorem dX4_accelerate_65 : decode cX4_accelerate 65 = .ok (.iinc 5 (-1), 3) := by decide +kernel
theorem dX4_accelerate_68 : decode cX4_accelerate 68 = .ok (.goto (-39), 3) := by decide +kernel
theorem dX4_accelerate_71 : decode cX4_accelerate 71 = .ok (.iinc 3 1, 3) := by decide +kernel
theorem dX4_accelerate_74 : decode cX4_accelerate 74 = .ok (.goto (-70), 3) := by decide +kernel
theorem dX4_accelerate_77 : decode cX4_accelerate 77 = .ok (.return_, 1) := by decide +kernel
set_option maxRecDepth 20000 in
theorem ggX4_raise_X4_countAt : GoodIn wsX4_raise wsX4_countAt := goodIn_r _ [8, 3, 9, 10, 11, 12, 13, 14, 15, 16, 17] (by decide +kernel) (by decide +kernel)
set_option maxRecDepth 20000 in
theorem gX4_raise_X4_countAt : GoodIn wsX4_raise (wsV RX4 95 RX4 yX4_countAt wsX4_countAt) := goodIn_app (goodIn_of _ (by decide +kernel)) ggX4_raise_X4_countAt
theorem dX4_raise_0 : decode cX4_raise 0 = .ok (.iconst 0, 1) := by decide +kernel
theorem dX4_raise_1 : decode cX4_raise 1 = .ok (.istore_n 3, 1) := by decide +kernel
theorem dX4_raise_2 : decode cX4_raise 2 = .ok (.iconst 0, 1) := by decide +kernel
theorem dX4_raise_3 : decode cX4_raise 3 = .ok (.istore 4, 2) := by decide +kernel
theorem dX4_raise_5 : decode cX4_raise 5 = .ok (.iload 4, 2) := by decide +kernel
theorem dX4_raise_7 : decode cX4_raise 7 = .ok (.aload_n 0, 1) := by decide +kernel
theorem dX4_raise_8 : decode cX4_raise 8 = .ok (.getfield 15, 3) := by decide +kernel
theorem dX4_raise_11 : decode cX4_raise 11 = .ok (.if_icmp .ge 52, 3) := by decide +kernel
theorem dX4_raise_14 : decode cX4_raise 14 = .ok (.aload_n 0, 1) := by decide +kernel
theorem dX4_raise_15 : decode cX4_raise 15 = .ok (.iload_n 1, 1) := by decide +kernel
theorem dX4_raise_16 : decode cX4_raise 16 = .ok (.iload 4, 2) := by decide +kernel
theorem dX4_raise_18 : decode cX4_raise 18 = .ok (.invokevirtual 95, 3) := by decide +kernel
theorem dX4_raise_21 : decode cX4_raise 21 = .ok (.istore 5, 2) := by decide +kernel
theorem dX4_raise_23 : decode cX4_raise 23 = .ok (.iload 5, 2) := by decide +kernel
theorem dX4_raise_25 : decode cX4_raise 25 = .ok (.ldc 99, 2) := by decide +kernel
theorem dX4_raise_27 : decode cX4_raise 27 = .ok (.if_icmp .eq 30, 3) := by decide +kernel
theorem dX4_raise_30 : decode cX4_raise 30 = .ok (.iload 5, 2) := by decide +kernel
theorem dX4_raise_32 : decode cX4_raise 32 = .ok (.aload_n 0, 1) := by decide +kernel
theorem dX4_raise_33 : decode cX4_raise 33 = .ok (.iload_n 2, 1) := by decide +kernel
theorem dX4_raise_34 : decode cX4_raise 34 = .ok (.iload 4, 2) := by decide +kernel
theorem dX4_raise_36 : decode cX4_raise 36 = .ok (.invokevirtual 95, 3) := by decide +kernel
theorem dX4_raise_39 : decode cX4_raise 39 = .ok (.if_icmp .le 18, 3) := by decide +kernel
theorem dX4_raise_42 : decode cX4_raise 42 = .ok (.aload_n 0, 1) := by decide +kernel
theorem dX4_raise_43 : decode cX4_raise 43 = .ok (.getfield 29, 3) := by decide +kernel
theorem dX4_raise_46 : decode cX4_raise 46 = .ok (.iload_n 1, 1) := by decide +kernel
theorem dX4_raise_47 : decode cX4_raise 47 = .ok (.iconst 5, 1) := by decide +kernel
theorem dX4_raise_48 : decode cX4_raise 48 = .ok (.imul, 1) := by decide +kernel
theorem dX4_raise_49 : decode cX4_raise 49 = .ok (.iload 4, 2) := by decide +kernel
theorem dX4_raise_51 : decode cX4_raise 51 = .ok (.iadd, 1) := by decide +kernel
theorem dX4_raise_52 : decode cX4_raise 52 = .ok (.ldc 99, 2) := by decide +kernel
theorem dX4_raise_54 : decode cX4_raise 54 = .ok (.iastore, 1) := by decide +kernel
theorem dX4_raise_55 : decode cX4_raise 55 = .ok (.iconst 1, 1) := by decide +kernel
theorem dX4_raise_56 : decode cX4_raise 56 = .ok (.istore_n 3, 1) := by decide +kernel
theorem dX4_raise_57 : decode cX4_raise 57 = .ok (.iinc 4 1, 3) := by decide +kernel
theorem dX4_raise_60 : decode cX4_raise 60 = .ok (.goto (-55), 3) := by decide +kernel
theorem dX4_raise_63 : decode cX4_raise 63 = .ok (.iload_n 3, 1) := by decide +kernel
theorem dX4_raise_64 : decode cX4_raise 64 = .ok (.ireturn, 1) := by decide +kernel
set_option maxRecDepth 20000 in
theorem ggX4_gatherLimits_X4_hasLimitOver : GoodIn wsX4_gatherLimits wsX4_hasLimitOver := goodIn_r _ [6, 7, 8, 9, 10, 11, 5, 12, 13, 14, 31, 32, 33, 34, 35, 36, 37, 38, 39] (by decide +kernel) (by decide +kernel)
set_option maxRecDepth 20000 in
theorem gX4_gatherLimits_X4_hasLimitOver : GoodIn wsX4_gatherLimits (wsV RX4 100 RX4 yX4_hasLimitOver wsX4_hasLimitOver) := goodIn_app (goodIn_of _ (by decide +kernel)) ggX4_gatherLimits_X4_hasLimitOver
set_option maxRecDepth 20000 in
theorem ggX4_gatherLimits_X4_dropLimitsUnder : GoodIn wsX4_gatherLimits wsX4_dropLimitsUnder := goodIn_r _ [18, 7, 8, 9, 10, 11, 5, 12, 13, 14, 31, 32, 33, 34, 35, 36, 37, 38, 39] (by decide +kernel) (by decide +kernel)
set_option maxRecDepth 20000 in
theorem gX4_gatherLimits_X4_dropLimitsUnder : GoodIn wsX4_gatherLimits (wsV RX4 103 RX4 yX4_dropLimitsUnder wsX4_dropLimitsUnder) := goodIn_app (goodIn_of _ (by decide +kernel)) ggX4_gatherLimits_X4_dropLimitsUnder
set_option maxRecDepth 20000 in
theorem ggX4_gatherLimits_X4_insertLimit : GoodIn wsX4_gatherLimits wsX4_insertLimit := goodIn_r _ [22, 7, 8, 23, 24, 25, 5, 26, 13, 27, 28, 29, 30, 14, 31, 32, 33, 34, 35, 36, 37, 38, 39] (by decide +kernel) (by decide +kernel)
set_option maxRecDepth 20000 in
theorem gX4_gatherLimits_X4_insertLimit : GoodIn wsX4_gatherLimits (wsV RX4 106 RX4 yX4_insertLimit wsX4_insertLimit) := goodIn_app (goodIn_of _ (by decide +kernel)) ggX4_gatherLimits_X4_insertLimit
theorem dX4_gatherLimits_0 : decode cX4_gatherLimits 0 = .ok (.iconst 0, 1) := by decide +kernel
theorem dX4_gatherLimits_1 : decode cX4_gatherLimits 1 = .ok (.istore_n 1, 1) := by decide +kernel
theorem dX4_gatherLimits_2 : decode cX4_gatherLimits 2 = .ok (.iload_n 1, 1) := by decide +kernel
theorem dX4_gatherLimits_3 : decode cX4_gatherLimits 3 = .ok (.aload_n 0, 1) := by decide +kernel
theorem dX4_gatherLimits_4 : decode cX4_gatherLimits 4 = .ok (.getfield 19, 3) := by decide +kernel
theorem dX4_gatherLimits_7 : decode cX4_gatherLimits 7 = .ok (.if_icmp .ge 27, 3) := by decide +kernel
theorem dX4_gatherLimits_10 : decode cX4_gatherLimits 10 = .ok (.aload_n 0, 1) := by decide +kernel
theorem dX4_gatherLimits_11 : decode cX4_gatherLimits 11 = .ok (.iload_n 1, 1) := by decide +kernel
theorem dX4_gatherLimits_12 : decode cX4_gatherLimits 12 = .ok (.invokevirtual 100, 3) := by decide +kernel
theorem dX4_gatherLimits_15 : decode cX4_gatherLimits 15 = .ok (.ifCond .ne 13, 3) := by decide +kernel
theorem dX4_gatherLimits_18 : decode cX4_gatherLimits 18 = .ok (.aload_n 0, 1) := by decide +kernel
theorem dX4_gatherLimits_19 : decode cX4_gatherLimits 19 = .ok (.iload_n 1, 1) := by decide +kernel
theorem dX4_gatherLimits_20 : decode cX4_gatherLimits 20 = .ok (.invokevirtual 103, 3) := by decide +kernel
theorem dX4_gatherLimits_23 : decode cX4_gatherLimits 23 = .ok (.aload_n 0, 1) := by decide +kernel
theorem dX4_gatherLimits_24 : decode cX4_gatherLimits 24 = .ok (.iload_n 1, 1) := by decide +kernel
theorem dX4_gatherLimits_25 : decode cX4_gatherLimits 25 = .ok (.invokevirtual 106, 3) := by decide +kernel
theorem dX4_gatherLimits_28 : decode cX4_gatherLimits 28 = .ok (.iinc 1 1, 3) := by decide +kernel
theorem dX4_gatherLimits_31 : decode cX4_gatherLimits 31 = .ok (.goto (-29), 3) := by decide +kernel
theorem dX4_gatherLimits_34 : decode cX4_gatherLimits 34 = .ok (.return_, 1) := by decide +kernel
set_option maxRecDepth 20000 in
theorem ggX4_hasLimitOver_X4_isAtLeast : GoodIn wsX4_hasLimitOver wsX4_isAtLeast := goodIn_r _ [7, 8, 9, 10, 11, 12, 13, 14, 15, 16, 17, 18] (by decide +kernel) (by decide +kernel)
set_option maxRecDepth 20000 in
theorem gX4_hasLimitOver_X4_isAtLeast : GoodIn wsX4_hasLimitOver (wsV RX4 69 RX4 yX4_isAtLeast wsX4_isAtLeast) := goodIn_app (goodIn_of _ (by decide +kernel)) ggX4_hasLimitOver_X4_isAtLeast
theorem dX4_hasLimitOver_0 : decode cX4_hasLimitOver 0 = .ok (.iconst 0, 1) := by decide +kernel
theorem dX4_hasLimitOver_1 : decode cX4_hasLimitOver 1 = .ok (.istore_n 2, 1) := by decide +kernel
theorem dX4_hasLimitOver_2 : decode cX4_hasLimitOver 2 = .ok (.iload_n 2, 1) := by decide +kernel
theorem dX4_hasLimitOver_3 : decode cX4_hasLimitOver 3 = .ok (.aload_n 0, 1) := by decide +kernel
theorem dX4_hasLimitOver_4 : decode cX4_hasLimitOver 4 = .ok (.getfield 22, 3) := by decide +kernel
theorem dX4_hasLimitOver_7 : decode cX4_hasLimitOver 7 = .ok (.if_icmp .ge 25, 3) := by decide +kernel
theorem dX4_hasLimitOver_10 : decode cX4_hasLimitOver 10 = .ok (.aload_n 0, 1) := by decide +kernel
theorem dX4_hasLimitOver_11 : decode cX4_hasLimitOver 11 = .ok (.aload_n 0, 1) := by decide +kernel
theorem dX4_hasLimitOver_12 : decode cX4_hasLimitOver 12 = .ok (.getfield 39, 3) := by decide +kernel
theorem dX4_hasLimitOver_15 : decode cX4_hasLimitOver 15 = .ok (.iload_n 2, 1) := by decide +kernel
theorem dX4_hasLimitOver_16 : decode cX4_hasLimitOver 16 = .ok (.iaload, 1) := by decide +kernel
theorem dX4_hasLimitOver_17 : decode cX4_hasLimitOver 17 = .ok (.iload_n 1, 1) := by decide +kernel
theorem dX4_hasLimitOver_18 : decode cX4_hasLimitOver 18 = .ok (.invokevirtual 69, 3) := by decide +kernel
theorem dX4_hasLimitOver_21 : decode cX4_hasLimitOver 21 = .ok (.ifCond .eq 5, 3) := by decide +kernel
theorem dX4_hasLimitOver_24 : decode cX4_hasLimitOver 24 = .ok (.iconst 1, 1) := by decide +kernel
theorem dX4_hasLimitOver_25 : decode cX4_hasLimitOver 25 = .ok (.ireturn, 1) := by decide +kernel
theorem dX4_hasLimitOver_26 : decode cX4_hasLimitOver 26 = .ok (.iinc 2 1, 3) := by decide +kernel
theorem dX4_hasLimitOver_29 : decode cX4_hasLimitOver 29 = .ok (.goto (-27), 3) := by decide +kernel
theorem dX4_hasLimitOver_32 : decode cX4_hasLimitOver 32 = .ok (.iconst 0, 1) := by decide +kernel
theorem dX4_hasLimitOver_33 : decode cX4_hasLimitOver 33 = .ok (.ireturn, 1) := by decide +kernel
set_option maxRecDepth 20000 in
theorem ggX4_dropLimitsUnder_X4_isAtLeast : GoodIn wsX4_dropLimitsUnder wsX4_isAtLeast := goodIn_r _ [7, 8, 9, 10, 11, 12, 13, 14, 15, 16, 17, 18] (by decide +kernel) (by decide +kernel)
set_option maxRecDepth 20000 in
theorem gX4_dropLimitsUnder_X4_isAtLeast : GoodIn wsX4_dropLimitsUnder (wsV RX4 69 RX4 yX4_isAtLeast wsX4_isAtLeast) := goodIn_app (goodIn_of _ (by decide +kernel)) ggX4_dropLimitsUnder_X4_isAtLeast
theorem dX4_dropLimitsUnder_0 : decode cX4_dropLimitsUnder 0 = .ok (.iconst 0, 1) := by decide +kernel
theorem dX4_dropLimitsUnder_1 : decode cX4_dropLimitsUnder 1 = .ok (.istore_n 2, 1) := by decide +kernel
theorem dX4_dropLimitsUnder_2 : decode cX4_dropLimitsUnder 2 = .ok (.iconst 0, 1) := by decide +kernel
theorem dX4_dropLimitsUnder_3 : decode cX4_dropLimitsUnder 3 = .ok (.istore_n 3, 1) := by decide +kernel
theorem dX4_dropLimitsUnder_4 : decode cX4_dropLimitsUnder 4 = .ok (.iload_n 3, 1) := by decide +kernel
theorem dX4_dropLimitsUnder_5 : decode cX4_dropLimitsUnder 5 = .ok (.aload_n 0, 1) := by decide +kernel
theorem dX4_dropLimitsUnder_6 : decode cX4_dropLimitsUnder 6 = .ok (.getfield 22, 3) := by decide +kernel
theorem dX4_dropLimitsUnder_9 : decode cX4_dropLimitsUnder 9 = .ok (.if_icmp .ge 38, 3) := by decide +kernel
theorem dX4_dropLimitsUnder_12 : decode cX4_dropLimitsUnder 12 = .ok (.aload_n 0, 1) := by decide +kernel
theorem dX4_dropLimitsUnder_13 : decode cX4_dropLimitsUnder 13 = .ok (.iload_n 1, 1) := by decide +kernel
theorem dX4_dropLimitsUnder_14 : decode cX4_dropLimitsUnder 14 = .ok (.aload_n 0, 1) := by decide +kernel
theorem dX4_dropLimitsUnder_15 : decode cX4_dropLimitsUnder 15 = .ok (.getfield 39, 3) := by decide +kernel
theorem dX4_dropLimitsUnder_18 : decode cX4_dropLimitsUnder 18 = .ok (.iload_n 3, 1) := by decide +kernel
theorem dX4_dropLimitsUnder_19 : decode cX4_dropLimitsUnder 19 = .ok (.iaload, 1) := by decide +kernel
theorem dX4_dropLimitsUnder_20 : decode cX4_dropLimitsUnder 20 = .ok (.invokevirtual 69, 3) := by decide +kernel
theorem dX4_dropLimitsUnder_23 : decode cX4_dropLimitsUnder 23 = .ok (.ifCond .ne 18, 3) := by decide +kernel
theorem dX4_dropLimitsUnder_26 : decode cX4_dropLimitsUnder 26 = .ok (.aload_n 0, 1) := by decide +kernel
theorem dX4_dropLimitsUnder_27 : decode cX4_dropLimitsUnder 27 = .ok (.getfield 39, 3) := by decide +kernel
theorem dX4_dropLimitsUnder_30 : decode cX4_dropLimitsUnder 30 = .ok (.iload_n 2, 1) := by decide +kernel
theorem dX4_dropLimitsUnder_31 : decode cX4_dropLimitsUnder 31 = .ok (.aload_n 0, 1) := by decide +kernel
theorem dX4_dropLimitsUnder_32 : decode cX4_dropLimitsUnder 32 = .ok (.getfield 39, 3) := by decide +kernel
theorem dX4_dropLimitsUnder_35 : decode cX4_dropLimitsUnder 35 = .ok (.iload_n 3, 1) := by decide +kernel
theorem dX4_dropLimitsUnder_36 : decode cX4_dropLimitsUnder 36 = .ok (.iaload, 1) := by decide +kernel
theorem dX4_dropLimitsUnder_37 : decode cX4_dropLimitsUnder 37 = .ok (.iastore, 1) := by decide +kernel
theorem dX4_dropLimitsUnder_38 : decode cX4_dropLimitsUnder 38 = .ok (.iinc 2 1, 3) := by decide +kernel
theorem dX4_dropLimitsUnder_41 : decode cX4_dropLimitsUnder 41 = .ok (.iinc 3 1, 3) := by decide +kernel
theorem dX4_dropLimitsUnder_44 : decode cX4_dropLimitsUnder 44 = .ok (.goto (-40), 3) := by decide +kernel
theorem dX4_dropLimitsUnder_47 : decode cX4_dropLimitsUnder 47 = .ok (.aload_n 0, 1) := by decide +kernel
theorem dX4_dropLimitsUnder_48 : decode cX4_dropLimitsUnder 48 = .ok (.iload_n 2, 1) := by decide +kernel
theorem dX4_dropLimitsUnder_49 : decode cX4_dropLimitsUnder 49 = .ok (.putfield 22, 3) := by decide +kernel
theorem dX4_dropLimitsUnder_52 : decode cX4_dropLimitsUnder 52 = .ok (.return_, 1) := by decide +kernel
set_option maxRecDepth 20000 in
theorem ggX4_insertLimit_X4_comesBefore : GoodIn wsX4_insertLimit wsX4_comesBefore := goodIn_r _ [7, 8, 9, 10, 11, 6, 12, 13, 14, 15, 16, 17, 18, 19, 20, 21, 22] (by decide +kernel) (by decide +kernel)
set_option maxRecDepth 20000 in
theorem gX4_insertLimit_X4_comesBefore : GoodIn wsX4_insertLimit (wsV RX4 109 RX4 yX4_comesBefore wsX4_comesBefore) := goodIn_app (goodIn_of _ (by decide +kernel)) ggX4_insertLimit_X4_comesBefore
theorem dX4_insertLimit_0 : decode cX4_insertLimit 0 = .ok (.aload_n 0, 1) := by decide +kernel
theorem dX4_insertLimit_1 : decode cX4_insertLimit 1 = .ok (.getfield 22, 3) := by decide +kernel
theorem dX4_insertLimit_4 : decode cX4_insertLimit 4 = .ok (.istore_n 2, 1) := by decide +kernel
theorem dX4_insertLimit_5 : decode cX4_insertLimit 5 = .ok (.iload_n 2, 1) := by decide +kernel
theorem dX4_insertLimit_6 : decode cX4_insertLimit 6 = .ok (.ifCond .le 39, 3) := by decide +kernel
theorem dX4_insertLimit_9 : decode cX4_insertLimit 9 = .ok (.aload_n 0, 1) := by decide +kernel
theorem dX4_insertLimit_10 : decode cX4_insertLimit 10 = .ok (.iload_n 1, 1) := by decide +kernel
theorem dX4_insertLimit_11 : decode cX4_insertLimit 11 = .ok (.aload_n 0, 1) := by decide +kernel
theorem dX4_insertLimit_12 : decode cX4_insertLimit 12 = .ok (.getfield 39, 3) := by decide +kernel
theorem dX4_insertLimit_15 : decode cX4_insertLimit 15 = .ok (.iload_n 2, 1) := by decide +kernel
theorem dX4_insertLimit_16 : decode cX4_insertLimit 16 = .ok (.iconst 1, 1) := by decide +kernel
theorem dX4_insertLimit_17 : decode cX4_insertLimit 17 = .ok (.isub, 1) := by decide +kernel
theorem dX4_insertLimit_18 : decode cX4_insertLimit 18 = .ok (.iaload, 1) := by decide +kernel
theorem dX4_insertLimit_19 : decode cX4_insertLimit 19 = .ok (.invokevirtual 109, 3) := by decide +kernel
theorem dX4_insertLimit_22 : decode cX4_insertLimit 22 = .ok (.ifCond .eq 23, 3) := by decide +kernel
theorem dX4_insertLimit_25 : decode cX4_insertLimit 25 = .ok (.aload_n 0, 1) := by decide +kernel
theorem dX4_insertLimit_26 : decode cX4_insertLimit 26 = .ok (.getfield 39, 3) := by decide +kernel
theorem dX4_insertLimit_29 : decode cX4_insertLimit 29 = .ok (.iload_n 2, 1) := by decide +kernel
theorem dX4_insertLimit_30 : decode cX4_insertLimit 30 = .ok (.aload_n 0, 1) := by decide +kernel
theorem dX4_insertLimit_31 : decode cX4_insertLimit 31 = .ok (.getfield 39, 3) := by decide +kernel
theorem dX4_insertLimit_34 : decode cX4_insertLimit 34 = .ok (.iload_n 2, 1) := by decide +kernel
theorem dX4_insertLimit_35 : decode cX4_insertLimit 35 = .ok (.iconst 1, 1) := by decide +kernel
theorem dX4_insertLimit_36 : decode cX4_insertLimit 36 = .ok (.isub, 1) := by decide +kernel
theorem dX4_insertLimit_37 : decode cX4_insertLimit 37 = .ok (.iaload, 1) := by decide +kernel
theorem dX4_insertLimit_38 : decode cX4_insertLimit 38 = .ok (.iastore, 1) := by decide +kernel
theorem dX4_insertLimit_39 : decode cX4_insertLimit 39 = .ok (.iinc 2 (-1), 3) := by decide +kernel
theorem dX4_insertLimit_42 : decode cX4_insertLimit 42 = .ok (.goto (-37), 3) := by decide +kernel
theorem dX4_insertLimit_45 : decode cX4_insertLimit 45 = .ok (.aload_n 0, 1) := by decide +kernel
theorem dX4_insertLimit_46 : decode cX4_insertLimit 46 = .ok (.getfield 39, 3) := by decide +kernel
theorem dX4_insertLimit_49 : decode cX4_insertLimit 49 = .ok (.iload_n 2, 1) := by decide +kernel
theorem dX4_insertLimit_50 : decode cX4_insertLimit 50 = .ok (.iload_n 1, 1) := by decide +kernel
theorem dX4_insertLimit_51 : decode cX4_insertLimit 51 = .ok (.iastore, 1) := by decide +kernel
theorem dX4_insertLimit_52 : decode cX4_insertLimit 52 = .ok (.aload_n 0, 1) := by decide +kernel
theorem dX4_insertLimit_53 : decode cX4_insertLimit 53 = .ok (.dup, 1) := by decide +kernel
theorem dX4_insertLimit_54 : decode cX4_insertLimit 54 = .ok (.getfield 22, 3) := by decide +kernel
theorem dX4_insertLimit_57 : decode cX4_insertLimit 57 = .ok (.iconst 1, 1) := by decide +kernel
theorem dX4_insertLimit_58 : decode cX4_insertLimit 58 = .ok (.iadd, 1) := by decide +kernel
theorem dX4_insertLimit_59 : decode cX4_insertLimit 59 = .ok (.putfield 22, 3) := by decide +kernel
theorem dX4_insertLimit_62 : decode cX4_insertLimit 62 = .ok (.return_, 1) := by decide +kernel
set_option maxRecDepth 20000 in
theorem ggX4_comesBefore_X4_countAt : GoodIn wsX4_comesBefore wsX4_countAt := goodIn_r _ [6, 7, 8, 9, 10, 11, 12, 13, 14, 15, 16] (by decide +kernel) (by decide +kernel)
set_option maxRecDepth 20000 in
theorem gX4_comesBefore_X4_countAt : GoodIn wsX4_comesBefore (wsV RX4 95 RX4 yX4_countAt wsX4_countAt) := goodIn_app (goodIn_of _ (by decide +kernel)) ggX4_comesBefore_X4_countAt
theorem dX4_comesBefore_0 : decode cX4_comesBefore 0 = .ok (.iconst 0, 1) := by decide +kernel
theorem dX4_comesBefore_1 : decode cX4_comesBefore 1 = .ok (.istore_n 3, 1) := by decide +kernel
theorem dX4_comesBefore_2 : decode cX4_comesBefore 2 = .ok (.iload_n 3, 1) := by decide +kernel
theorem dX4_comesBefore_3 : decode cX4_comesBefore 3 = .ok (.aload_n 0, 1) := by decide +kernel
theorem dX4_comesBefore_4 : decode cX4_comesBefore 4 = .ok (.getfield 15, 3) := by decide +kernel
theorem dX4_comesBefore_7 : decode cX4_comesBefore 7 = .ok (.if_icmp .ge 45, 3) := by decide +kernel
theorem dX4_comesBefore_10 : decode cX4_comesBefore 10 = .ok (.aload_n 0, 1) := by decide +kernel
theorem dX4_comesBefore_11 : decode cX4_comesBefore 11 = .ok (.iload_n 1, 1) := by decide +kernel
theorem dX4_comesBefore_12 : decode cX4_comesBefore 12 = .ok (.iload_n 3, 1) := by decide +kernel
theorem dX4_comesBefore_13 : decode cX4_comesBefore 13 = .ok (.invokevirtual 95, 3) := by decide +kernel
theorem dX4_comesBefore_16 : decode cX4_comesBefore 16 = .ok (.aload_n 0, 1) := by decide +kernel
theorem dX4_comesBefore_17 : decode cX4_comesBefore 17 = .ok (.iload_n 2, 1) := by decide +kernel
theorem dX4_comesBefore_18 : decode cX4_comesBefore 18 = .ok (.iload_n 3, 1) := by decide +kernel
theorem dX4_comesBefore_19 : decode cX4_comesBefore 19 = .ok (.invokevirtual 95, 3) := by decide +kernel
theorem dX4_comesBefore_22 : decode cX4_comesBefore 22 = .ok (.if_icmp .eq 24, 3) := by decide +kernel
theorem dX4_comesBefore_25 : decode cX4_comesBefore 25 = .ok (.aload_n 0, 1) := by decide +kernel
theorem dX4_comesBefore_26 : decode cX4_comesBefore 26 = .ok (.iload_n 1, 1) := by decide +kernel
theorem dX4_comesBefore_27 : decode cX4_comesBefore 27 = .ok (.iload_n 3, 1) := by decide +kernel
theorem dX4_comesBefore_28 : decode cX4_comesBefore 28 = .ok (.invokevirtual 95, 3) := by decide +kernel
theorem dX4_comesBefore_31 : decode cX4_comesBefore 31 = .ok (.aload_n 0, 1) := by decide +kernel
theorem dX4_comesBefore_32 : decode cX4_comesBefore 32 = .ok (.iload_n 2, 1) := by decide +kernel
theorem dX4_comesBefore_33 : decode cX4_comesBefore 33 = .ok (.iload_n 3, 1) := by decide +kernel
theorem dX4_comesBefore_34 : decode cX4_comesBefore 34 = .ok (.invokevirtual 95, 3) := by decide +kernel
theorem dX4_comesBefore_37 : decode cX4_comesBefore 37 = .ok (.if_icmp .ge 7, 3) := by decide +kernel
theorem dX4_comesBefore_40 : decode cX4_comesBefore 40 = .ok (.iconst 1, 1) := by decide +kernel
theorem dX4_comesBefore_41 : decode cX4_comesBefore 41 = .ok (.goto 4, 3) := by decide +kernel
theorem dX4_comesBefore_44 : decode cX4_comesBefore 44 = .ok (.iconst 0, 1) := by decide +kernel
theorem dX4_comesBefore_45 : decode cX4_comesBefore 45 = .ok (.ireturn, 1) := by decide +kernel
theorem dX4_comesBefore_46 : decode cX4_comesBefore 46 = .ok (.iinc 3 1, 3) := by decide +kernel
theorem dX4_comesBefore_49 : decode cX4_comesBefore 49 = .ok (.goto (-47), 3) := by decide +kernel
theorem dX4_comesBefore_52 : decode cX4_comesBefore 52 = .ok (.iconst 0, 1) := by decide +kernel
theorem dX4_comesBefore_53 : decode cX4_comesBefore 53 = .ok (.ireturn, 1) := by decide +kernel
theorem dX4_isAtLeast_0 : decode cX4_isAtLeast 0 = .ok (.iload_n 1, 1) := by decide +kernel
theorem dX4_isAtLeast_1 : decode cX4_isAtLeast 1 = .ok (.iconst 5, 1) := by decide +kernel
theorem dX4_isAtLeast_2 : decode cX4_isAtLeast 2 = .ok (.imul, 1) := by decide +kernel
theorem dX4_isAtLeast_3 : decode cX4_isAtLeast 3 = .ok (.istore_n 3, 1) := by decide +kernel
theorem dX4_isAtLeast_4 : decode cX4_isAtLeast 4 = .ok (.iload_n 2, 1) := by decide +kernel
theorem dX4_isAtLeast_5 : decode cX4_isAtLeast 5 = .ok (.iconst 5, 1) := by decide +kernel
theorem dX4_isAtLeast_6 : decode cX4_isAtLeast 6 = .ok (.imul, 1) := by decide +kernel
theorem dX4_isAtLeast_7 : decode cX4_isAtLeast 7 = .ok (.istore 4, 2) := by decide +kernel
theorem dX4_isAtLeast_9 : decode cX4_isAtLeast 9 = .ok (.iconst 0, 1) := by decide +kernel
theorem dX4_isAtLeast_10 : decode cX4_isAtLeast 10 = .ok (.istore 5, 2) := by decide +kernel
theorem dX4_isAtLeast_12 : decode cX4_isAtLeast 12 = .ok (.iload 5, 2) := by decide +kernel
theorem dX4_isAtLeast_14 : decode cX4_isAtLeast 14 = .ok (.aload_n 0, 1) := by decide +kernel
theorem dX4_isAtLeast_15 : decode cX4_isAtLeast 15 = .ok (.getfield 15, 3) := by decide +kernel
theorem dX4_isAtLeast_18 : decode cX4_isAtLeast 18 = .ok (.if_icmp .ge 33, 3) := by decide +kernel
theorem dX4_isAtLeast_21 : decode cX4_isAtLeast 21 = .ok (.aload_n 0, 1) := by decide +kernel
theorem dX4_isAtLeast_22 : decode cX4_isAtLeast 22 = .ok (.getfield 29, 3) := by decide +kernel
theorem dX4_isAtLeast_25 : decode cX4_isAtLeast 25 = .ok (.iload_n 3, 1) := by decide +kernel
theorem dX4_isAtLeast_26 : decode cX4_isAtLeast 26 = .ok (.iload 5, 2) := by decide +kernel
theorem dX4_isAtLeast_28 : decode cX4_isAtLeast 28 = .ok (.iadd, 1) := by decide +kernel
theorem dX4_isAtLeast_29 : decode cX4_isAtLeast 29 = .ok (.iaload, 1) := by decide +kernel
theorem dX4_isAtLeast_30 : decode cX4_isAtLeast 30 = .ok (.aload_n 0, 1) := by decide +kernel
theorem dX4_isAtLeast_31 : decode cX4_isAtLeast 31 = .ok (.getfield 29, 3) := by decide +kernel
theorem dX4_isAtLeast_34 : decode cX4_isAtLeast 34 = .ok (.iload 4, 2) := by decide +kernel
theorem dX4_isAtLeast_36 : decode cX4_isAtLeast 36 = .ok (.iload 5, 2) := by decide +kernel
theorem dX4_isAtLeast_38 : decode cX4_isAtLeast 38 = .ok (.iadd, 1) := by decide +kernel
theorem dX4_isAtLeast_39 : decode cX4_isAtLeast 39 = .ok (.iaload, 1) := by decide +kernel
theorem dX4_isAtLeast_40 : decode cX4_isAtLeast 40 = .ok (.if_icmp .ge 5, 3) := by decide +kernel
theorem dX4_isAtLeast_43 : decode cX4_isAtLeast 43 = .ok (.iconst 0, 1) := by decide +kernel
theorem dX4_isAtLeast_44 : decode cX4_isAtLeast 44 = .ok (.ireturn, 1) := by decide +kernel
theorem dX4_isAtLeast_45 : decode cX4_isAtLeast 45 = .ok (.iinc 5 1, 3) := by decide +kernel
theorem dX4_isAtLeast_48 : decode cX4_isAtLeast 48 = .ok (.goto (-36), 3) := by decide +kernel
theorem dX4_isAtLeast_51 : decode cX4_isAtLeast 51 = .ok (.iconst 1, 1) := by decide +kernel
theorem dX4_isAtLeast_52 : decode cX4_isAtLeast 52 = .ok (.ireturn, 1) := by decide +kernel
theorem dX4_countAt_0 : decode cX4_countAt 0 = .ok (.aload_n 0, 1) := by decide +kernel
theorem dX4_countAt_1 : decode cX4_countAt 1 = .ok (.getfield 29, 3) := by decide +kernel
theorem dX4_countAt_4 : decode cX4_countAt 4 = .ok (.iload_n 1, 1) := by decide +kernel
theorem dX4_countAt_5 : decode cX4_countAt 5 = .ok (.iconst 5, 1) := by decide +kernel
theorem dX4_countAt_6 : decode cX4_countAt 6 = .ok (.imul, 1) := by decide +kernel
theorem dX4_countAt_7 : decode cX4_countAt 7 = .ok (.iload_n 2, 1) := by decide +kernel
theorem dX4_countAt_8 : decode cX4_countAt 8 = .ok (.iadd, 1) := by decide +kernel
theorem dX4_countAt_9 : decode cX4_countAt 9 = .ok (.iaload, 1) := by decide +kernel
theorem dX4_countAt_10 : decode cX4_countAt 10 = .ok (.ireturn, 1) := by decide +kernel
theorem dX4_hasPlace_0 : decode cX4_hasPlace 0 = .ok (.iload_n 1, 1) := by decide +kernel
theorem dX4_hasPlace_1 : decode cX4_hasPlace 1 = .ok (.ifCond .lt 15, 3) := by decide +kernel
theorem dX4_hasPlace_4 : decode cX4_hasPlace 4 = .ok (.iload_n 1, 1) := by decide +kernel
theorem dX4_hasPlace_5 : decode cX4_hasPlace 5 = .ok (.aload_n 0, 1) := by decide +kernel
theorem dX4_hasPlace_6 : decode cX4_hasPlace 6 = .ok (.getfield 15, 3) := by decide +kernel
theorem dX4_hasPlace_9 : decode cX4_hasPlace 9 = .ok (.if_icmp .ge 7, 3) := by decide +kernel
theorem dX4_hasPlace_12 : decode cX4_hasPlace 12 = .ok (.iconst 1, 1) := by decide +kernel
theorem dX4_hasPlace_13 : decode cX4_hasPlace 13 = .ok (.goto 4, 3) := by decide +kernel
theorem dX4_hasPlace_16 : decode cX4_hasPlace 16 = .ok (.iconst 0, 1) := by decide +kernel
theorem dX4_hasPlace_17 : decode cX4_hasPlace 17 = .ok (.ireturn, 1) := by decide +kernel
set_option maxRecDepth 20000 in
theorem ggX4_limitAt_X4_countAt : GoodIn wsX4_limitAt wsX4_countAt := goodIn_r _ [6, 7, 8, 9, 10, 11, 12, 13, 14, 15, 16] (by decide +kernel) (by decide +kernel)
set_option maxRecDepth 20000 in
theorem gX4_limitAt_X4_countAt : GoodIn wsX4_limitAt (wsV RX4 95 RX4 yX4_countAt wsX4_countAt) := goodIn_app (goodIn_of _ (by decide +kernel)) ggX4_limitAt_X4_countAt
theorem dX4_limitAt_0 : decode cX4_limitAt 0 = .ok (.aload_n 0, 1) := by decide +kernel
theorem dX4_limitAt_1 : decode cX4_limitAt 1 = .ok (.aload_n 0, 1) := by decide +kernel
theorem dX4_limitAt_2 : decode cX4_limitAt 2 = .ok (.getfield 39, 3) := by decide +kernel
theorem dX4_limitAt_5 : decode cX4_limitAt 5 = .ok (.iload_n 1, 1) := by decide +kernel
theorem dX4_limitAt_6 : decode cX4_limitAt 6 = .ok (.iaload, 1) := by decide +kernel
theorem dX4_limitAt_7 : decode cX4_limitAt 7 = .ok (.iload_n 2, 1) := by decide +kernel
theorem dX4_limitAt_8 : decode cX4_limitAt 8 = .ok (.invokevirtual 95, 3) := by decide +kernel
theorem dX4_limitAt_11 : decode cX4_limitAt 11 = .ok (.ireturn, 1) := by decide +kernel
set_option maxRecDepth 20000 in
theorem ggX4_mostAt_X4_limitAt : GoodIn wsX4_mostAt wsX4_limitAt := goodIn_r _ [10, 11, 12, 13, 14, 9, 15, 16, 17, 18, 19, 20, 21, 22, 23, 24, 25] (by decide +kernel) (by decide +kernel)
set_option maxRecDepth 20000 in
theorem gX4_mostAt_X4_limitAt : GoodIn wsX4_mostAt (wsV RX4 112 RX4 yX4_limitAt wsX4_limitAt) := goodIn_app (goodIn_of _ (by decide +kernel)) ggX4_mostAt_X4_limitAt
theorem dX4_mostAt_0 : decode cX4_mostAt 0 = .ok (.iconst 0, 1) := by decide +kernel
theorem dX4_mostAt_1 : decode cX4_mostAt 1 = .ok (.istore_n 2, 1) := by decide +kernel
theorem dX4_mostAt_2 : decode cX4_mostAt 2 = .ok (.iconst 0, 1) := by decide +kernel
theorem dX4_mostAt_3 : decode cX4_mostAt 3 = .ok (.istore_n 3, 1) := by decide +kernel
theorem dX4_mostAt_4 : decode cX4_mostAt 4 = .ok (.iload_n 3, 1) := by decide +kernel
theorem dX4_mostAt_5 : decode cX4_mostAt 5 = .ok (.aload_n 0, 1) := by decide +kernel
theorem dX4_mostAt_6 : decode cX4_mostAt 6 = .ok (.getfield 22, 3) := by decide +kernel
theorem dX4_mostAt_9 : decode cX4_mostAt 9 = .ok (.if_icmp .ge 20, 3) := by decide +kernel
theorem dX4_mostAt_12 : decode cX4_mostAt 12 = .ok (.iload_n 2, 1) := by decide +kernel
theorem dX4_mostAt_13 : decode cX4_mostAt 13 = .ok (.aload_n 0, 1) := by decide +kernel
theorem dX4_mostAt_14 : decode cX4_mostAt 14 = .ok (.iload_n 3, 1) := by decide +kernel
theorem dX4_mostAt_15 : decode cX4_mostAt 15 = .ok (.iload_n 1, 1) := by decide +kernel
theorem dX4_mostAt_16 : decode cX4_mostAt 16 = .ok (.invokevirtual 112, 3) := by decide +kernel
theorem dX4_mostAt_19 : decode cX4_mostAt 19 = .ok (.invokestatic 115, 3) := by decide +kernel
theorem dX4_mostAt_22 : decode cX4_mostAt 22 = .ok (.istore_n 2, 1) := by decide +kernel
theorem dX4_mostAt_23 : decode cX4_mostAt 23 = .ok (.iinc 3 1, 3) := by decide +kernel
theorem dX4_mostAt_26 : decode cX4_mostAt 26 = .ok (.goto (-22), 3) := by decide +kernel
theorem dX4_mostAt_29 : decode cX4_mostAt 29 = .ok (.iload_n 2, 1) := by decide +kernel
theorem dX4_mostAt_30 : decode cX4_mostAt 30 = .ok (.ireturn, 1) := by decide +kernel
set_option maxRecDepth 20000 in
theorem ggX4_reaches_X4_limitReaches : GoodIn wsX4_reaches wsX4_limitReaches := goodIn_r _ [6, 7, 8, 9, 10, 5, 11, 12, 13, 14, 15, 16, 17, 18, 19, 20, 21, 22, 23, 24, 25, 26] (by decide +kernel) (by decide +kernel)
set_option maxRecDepth 20000 in
theorem gX4_reaches_X4_limitReaches : GoodIn wsX4_reaches (wsV RX4 120 RX4 yX4_limitReaches wsX4_limitReaches) := goodIn_app (goodIn_of _ (by decide +kernel)) ggX4_reaches_X4_limitReaches
theorem dX4_reaches_0 : decode cX4_reaches 0 = .ok (.iconst 0, 1) := by decide +kernel
theorem dX4_reaches_1 : decode cX4_reaches 1 = .ok (.istore_n 2, 1) := by decide +kernel
theorem dX4_reaches_2 : decode cX4_reaches 2 = .ok (.iload_n 2, 1) := by decide +kernel
theorem dX4_reaches_3 : decode cX4_reaches 3 = .ok (.aload_n 0, 1) := by decide +kernel
theorem dX4_reaches_4 : decode cX4_reaches 4 = .ok (.getfield 22, 3) := by decide +kernel
theorem dX4_reaches_7 : decode cX4_reaches 7 = .ok (.if_icmp .ge 20, 3) := by decide +kernel
theorem dX4_reaches_10 : decode cX4_reaches 10 = .ok (.aload_n 0, 1) := by decide +kernel
theorem dX4_reaches_11 : decode cX4_reaches 11 = .ok (.iload_n 2, 1) := by decide +kernel
theorem dX4_reaches_12 : decode cX4_reaches 12 = .ok (.aload_n 1, 1) := by decide +kernel
theorem dX4_reaches_13 : decode cX4_reaches 13 = .ok (.invokevirtual 120, 3) := by decide +kernel
theorem dX4_reaches_16 : decode cX4_reaches 16 = .ok (.ifCond .eq 5, 3) := by decide +kernel
theorem dX4_reaches_19 : decode cX4_reaches 19 = .ok (.iconst 1, 1) := by decide +kernel
theorem dX4_reaches_20 : decode cX4_reaches 20 = .ok (.ireturn, 1) := by decide +kernel
theorem dX4_reaches_21 : decode cX4_reaches 21 = .ok (.iinc 2 1, 3) := by decide +kernel
theorem dX4_reaches_24 : decode cX4_reaches 24 = .ok (.goto (-22), 3) := by decide +kernel
theorem dX4_reaches_27 : decode cX4_reaches 27 = .ok (.iconst 0, 1) := by decide +kernel
theorem dX4_reaches_28 : decode cX4_reaches 28 = .ok (.ireturn, 1) := by decide +kernel
set_option maxRecDepth 20000 in
theorem ggX4_limitReaches_X4_limitAt : GoodIn wsX4_limitReaches wsX4_limitAt := goodIn_r _ [6, 7, 8, 9, 10, 5, 11, 12, 13, 14, 15, 16, 17, 18, 19, 20, 21] (by decide +kernel) (by decide +kernel)
set_option maxRecDepth 20000 in
theorem gX4_limitReaches_X4_limitAt : GoodIn wsX4_limitReaches (wsV RX4 112 RX4 yX4_limitAt wsX4_limitAt) := goodIn_app (goodIn_of _ (by decide +kernel)) ggX4_limitReaches_X4_limitAt
theorem dX4_limitReaches_0 : decode cX4_limitReaches 0 = .ok (.iconst 0, 1) := by decide +kernel
theorem dX4_limitReaches_1 : decode cX4_limitReaches 1 = .ok (.istore_n 3, 1) := by decide +kernel
theorem dX4_limitReaches_2 : decode cX4_limitReaches 2 = .ok (.iload_n 3, 1) := by decide +kernel
theorem dX4_limitReaches_3 : decode cX4_limitReaches 3 = .ok (.aload_n 0, 1) := by decide +kernel
theorem dX4_limitReaches_4 : decode cX4_limitReaches 4 = .ok (.getfield 15, 3) := by decide +kernel
theorem dX4_limitReaches_7 : decode cX4_limitReaches 7 = .ok (.if_icmp .ge 23, 3) := by decide +kernel
theorem dX4_limitReaches_10 : decode cX4_limitReaches 10 = .ok (.aload_n 0, 1) := by decide +kernel
theorem dX4_limitReaches_11 : decode cX4_limitReaches 11 = .ok (.iload_n 1, 1) := by decide +kernel
theorem dX4_limitReaches_12 : decode cX4_limitReaches 12 = .ok (.iload_n 3, 1) := by decide +kernel
theorem dX4_limitReaches_13 : decode cX4_limitReaches 13 = .ok (.invokevirtual 112, 3) := by decide +kernel
theorem dX4_limitReaches_16 : decode cX4_limitReaches 16 = .ok (.aload_n 2, 1) := by decide +kernel
theorem dX4_limitReaches_17 : decode cX4_limitReaches 17 = .ok (.iload_n 3, 1) := by decide +kernel
theorem dX4_limitReaches_18 : decode cX4_limitReaches 18 = .ok (.iaload, 1) := by decide +kernel
theorem dX4_limitReaches_19 : decode cX4_limitReaches 19 = .ok (.if_icmp .ge 5, 3) := by decide +kernel
theorem dX4_limitReaches_22 : decode cX4_limitReaches 22 = .ok (.iconst 0, 1) := by decide +kernel
theorem dX4_limitReaches_23 : decode cX4_limitReaches 23 = .ok (.ireturn, 1) := by decide +kernel
theorem dX4_limitReaches_24 : decode cX4_limitReaches 24 = .ok (.iinc 3 1, 3) := by decide +kernel
theorem dX4_limitReaches_27 : decode cX4_limitReaches 27 = .ok (.goto (-25), 3) := by decide +kernel
theorem dX4_limitReaches_30 : decode cX4_limitReaches 30 = .ok (.iconst 1, 1) := by decide +kernel
theorem dX4_limitReaches_31 : decode cX4_limitReaches 31 = .ok (.ireturn, 1) := by decide +kernel
set_option maxRecDepth 20000 in
theorem ggX5_init_X0_init : GoodIn wsX5_init wsX0_init := goodIn_r _ [19, 20, 2, 3, 21, 22, 8, 23, 24, 25, 26, 27, 66, 67, 68, 69, 70, 71] (by decide +kernel) (by decide +kernel)
set_option maxRecDepth 20000 in
theorem gX5_init_X0_init_n11 : GoodIn wsX5_init (wsX0_init) := ggX5_init_X0_init
set_option maxRecDepth 20000 in
theorem ggX5_init_X3_init : GoodIn wsX5_init wsX3_init := goodIn_r _ [29, 30, 2, 3, 31, 32, 8, 33, 34, 35, 36, 37, 38, 39, 40, 41, 42, 43, 44, 45, 46, 47, 48, 49, 50, 51, 52, 76, 77, 78, 79, 80, 81, 82, 83, 84, 85, 86, 87, 88, 98, 99] (by decide +kernel) (by decide +kernel)
set_option maxRecDepth 20000 in
theorem gX5_init_X3_init_n22 : GoodIn wsX5_init (wsX3_init) := ggX5_init_X3_init
set_option maxRecDepth 20000 in
theorem ggX5_init_X4_init : GoodIn wsX5_init wsX4_init := goodIn_r _ [54, 55, 2, 3, 56, 57, 58, 59, 60, 61, 8, 62, 63, 64, 65, 89, 90, 91, 92, 93, 94, 95, 96, 97] (by decide +kernel) (by decide +kernel)
set_option maxRecDepth 20000 in
theorem gX5_init_X4_init_n29 : GoodIn wsX5_init (wsX4_init) := ggX5_init_X4_init
theorem dX5_init_0 : decode cX5_init 0 = .ok (.aload_n 0, 1) := by decide +kernel
theorem dX5_init_1 : decode cX5_init 1 = .ok (.invokespecial 3, 3) := by decide +kernel
theorem dX5_init_4 : decode cX5_init 4 = .ok (.aload_n 0, 1) := by decide +kernel
theorem dX5_init_5 : decode cX5_init 5 = .ok (.new 9, 3) := by decide +kernel
theorem dX5_init_8 : decode cX5_init 8 = .ok (.dup, 1) := by decide +kernel
theorem dX5_init_9 : decode cX5_init 9 = .ok (.invokespecial 11, 3) := by decide +kernel
theorem dX5_init_12 : decode cX5_init 12 = .ok (.putfield 12, 3) := by decide +kernel
theorem dX5_init_15 : decode cX5_init 15 = .ok (.aload_n 0, 1) := by decide +kernel
theorem dX5_init_16 : decode cX5_init 16 = .ok (.iconst 5, 1) := by decide +kernel
theorem dX5_init_17 : decode cX5_init 17 = .ok (.newarray .int, 2) := by decide +kernel
theorem dX5_init_19 : decode cX5_init 19 = .ok (.putfield 16, 3) := by decide +kernel
theorem dX5_init_22 : decode cX5_init 22 = .ok (.aload_n 0, 1) := by decide +kernel
theorem dX5_init_23 : decode cX5_init 23 = .ok (.new 20, 3) := by decide +kernel
theorem dX5_init_26 : decode cX5_init 26 = .ok (.dup, 1) := by decide +kernel
theorem dX5_init_27 : decode cX5_init 27 = .ok (.invokespecial 22, 3) := by decide +kernel
theorem dX5_init_30 : decode cX5_init 30 = .ok (.putfield 23, 3) := by decide +kernel
theorem dX5_init_33 : decode cX5_init 33 = .ok (.aload_n 0, 1) := by decide +kernel
theorem dX5_init_34 : decode cX5_init 34 = .ok (.new 27, 3) := by decide +kernel
theorem dX5_init_37 : decode cX5_init 37 = .ok (.dup, 1) := by decide +kernel
theorem dX5_init_38 : decode cX5_init 38 = .ok (.invokespecial 29, 3) := by decide +kernel
theorem dX5_init_41 : decode cX5_init 41 = .ok (.putfield 30, 3) := by decide +kernel
theorem dX5_init_44 : decode cX5_init 44 = .ok (.return_, 1) := by decide +kernel
set_option maxRecDepth 20000 in
theorem ggX5_place_X5_isWithin : GoodIn wsX5_place wsX5_isWithin := goodIn_r _ [7] (by decide +kernel) (by decide +kernel)
set_option maxRecDepth 20000 in
theorem gX5_place_X5_isWithin : GoodIn wsX5_place (va_wsS RX5 38 yX5_isWithin wsX5_isWithin) := goodIn_app (goodIn_of _ (by decide +kernel)) ggX5_place_X5_isWithin
set_option maxRecDepth 20000 in
theorem ggX5_place_X5_goBackToFirst : GoodIn wsX5_place wsX5_goBackToFirst := goodIn_r _ [11, 1, 3, 12, 13, 14, 15, 16, 17, 18, 19, 20, 21, 22, 23, 24, 25, 26] (by decide +kernel) (by decide +kernel)
set_option maxRecDepth 20000 in
theorem gX5_place_X5_goBackToFirst : GoodIn wsX5_place (wsV RX5 45 RX5 yX5_goBackToFirst wsX5_goBackToFirst) := goodIn_app (goodIn_of _ (by decide +kernel)) ggX5_place_X5_goBackToFirst
theorem dX5_place_0 : decode cX5_place 0 = .ok (.aload_n 0, 1) := by decide +kernel
theorem dX5_place_1 : decode cX5_place 1 = .ok (.getfield 12, 3) := by decide +kernel
theorem dX5_place_4 : decode cX5_place 4 = .ok (.getfield 34, 3) := by decide +kernel
theorem dX5_place_7 : decode cX5_place 7 = .ok (.iconst 5, 1) := by decide +kernel
theorem dX5_place_8 : decode cX5_place 8 = .ok (.if_icmp .ge 12, 3) := by decide +kernel
theorem dX5_place_11 : decode cX5_place 11 = .ok (.iload_n 1, 1) := by decide +kernel
theorem dX5_place_12 : decode cX5_place 12 = .ok (.bipush 20, 2) := by decide +kernel
theorem dX5_place_14 : decode cX5_place 14 = .ok (.invokestatic 38, 3) := by decide +kernel
theorem dX5_place_17 : decode cX5_place 17 = .ok (.ifCond .ne 5, 3) := by decide +kernel
theorem dX5_place_20 : decode cX5_place 20 = .ok (.iconst (-1), 1) := by decide +kernel
theorem dX5_place_21 : decode cX5_place 21 = .ok (.ireturn, 1) := by decide +kernel
theorem dX5_place_22 : decode cX5_place 22 = .ok (.aload_n 0, 1) := by decide +kernel
theorem dX5_place_23 : decode cX5_place 23 = .ok (.getfield 12, 3) := by decide +kernel
theorem dX5_place_26 : decode cX5_place 26 = .ok (.getfield 34, 3) := by decide +kernel
theorem dX5_place_29 : decode cX5_place 29 = .ok (.istore_n 2, 1) := by decide +kernel
theorem dX5_place_30 : decode cX5_place 30 = .ok (.aload_n 0, 1) := by decide +kernel
theorem dX5_place_31 : decode cX5_place 31 = .ok (.getfield 12, 3) := by decide +kernel
theorem dX5_place_34 : decode cX5_place 34 = .ok (.iload_n 2, 1) := by decide +kernel
theorem dX5_place_35 : decode cX5_place 35 = .ok (.iconst 1, 1) := by decide +kernel
theorem dX5_place_36 : decode cX5_place 36 = .ok (.iadd, 1) := by decide +kernel
theorem dX5_place_37 : decode cX5_place 37 = .ok (.putfield 34, 3) := by decide +kernel
theorem dX5_place_40 : decode cX5_place 40 = .ok (.aload_n 0, 1) := by decide +kernel
theorem dX5_place_41 : decode cX5_place 41 = .ok (.getfield 12, 3) := by decide +kernel
theorem dX5_place_44 : decode cX5_place 44 = .ok (.getfield 42, 3) := by decide +kernel
theorem dX5_place_47 : decode cX5_place 47 = .ok (.iload_n 2, 1) := by decide +kernel
theorem dX5_place_48 : decode cX5_place 48 = .ok (.iload_n 1, 1) := by decide +kernel
theorem dX5_place_49 : decode cX5_place 49 = .ok (.iastore, 1) := by decide +kernel
theorem dX5_place_50 : decode cX5_place 50 = .ok (.aload_n 0, 1) := by decide +kernel
theorem dX5_place_51 : decode cX5_place 51 = .ok (.invokevirtual 45, 3) := by decide +kernel
theorem dX5_place_54 : decode cX5_place 54 = .ok (.iload_n 2, 1) := by decide +kernel
theorem dX5_place_55 : decode cX5_place 55 = .ok (.ireturn, 1) := by decide +kernel
set_option maxRecDepth 20000 in
theorem ggX5_transition_X5_goBackToFirst : GoodIn wsX5_transition wsX5_goBackToFirst := goodIn_r _ [7, 1, 8, 9, 10, 11, 12, 13, 14, 15, 16, 17, 18, 19, 20, 21, 22, 23] (by decide +kernel) (by decide +kernel)
set_option maxRecDepth 20000 in
theorem gX5_transition_X5_goBackToFirst : GoodIn wsX5_transition (wsV RX5 45 RX5 yX5_goBackToFirst wsX5_goBackToFirst) := goodIn_app (goodIn_of _ (by decide +kernel)) ggX5_transition_X5_goBackToFirst
theorem dX5_transition_0 : decode cX5_transition 0 = .ok (.aload_n 0, 1) := by decide +kernel
theorem dX5_transition_1 : decode cX5_transition 1 = .ok (.getfield 12, 3) := by decide +kernel
theorem dX5_transition_4 : decode cX5_transition 4 = .ok (.getfield 48, 3) := by decide +kernel
theorem dX5_transition_7 : decode cX5_transition 7 = .ok (.bipush 6, 2) := by decide +kernel
theorem dX5_transition_9 : decode cX5_transition 9 = .ok (.if_icmp .lt 5, 3) := by decide +kernel
theorem dX5_transition_12 : decode cX5_transition 12 = .ok (.iconst (-1), 1) := by decide +kernel
theorem dX5_transition_13 : decode cX5_transition 13 = .ok (.ireturn, 1) := by decide +kernel
theorem dX5_transition_14 : decode cX5_transition 14 = .ok (.aload_n 0, 1) := by decide +kernel
theorem dX5_transition_15 : decode cX5_transition 15 = .ok (.getfield 12, 3) := by decide +kernel
theorem dX5_transition_18 : decode cX5_transition 18 = .ok (.getfield 48, 3) := by decide +kernel
theorem dX5_transition_21 : decode cX5_transition 21 = .ok (.istore_n 1, 1) := by decide +kernel
theorem dX5_transition_22 : decode cX5_transition 22 = .ok (.aload_n 0, 1) := by decide +kernel
theorem dX5_transition_23 : decode cX5_transition 23 = .ok (.getfield 12, 3) := by decide +kernel
theorem dX5_transition_26 : decode cX5_transition 26 = .ok (.iload_n 1, 1) := by decide +kernel
theorem dX5_transition_27 : decode cX5_transition 27 = .ok (.iconst 1, 1) := by decide +kernel
theorem dX5_transition_28 : decode cX5_transition 28 = .ok (.iadd, 1) := by decide +kernel
theorem dX5_transition_29 : decode cX5_transition 29 = .ok (.putfield 48, 3) := by decide +kernel
theorem dX5_transition_32 : decode cX5_transition 32 = .ok (.aload_n 0, 1) := by decide +kernel
theorem dX5_transition_33 : decode cX5_transition 33 = .ok (.invokevirtual 45, 3) := by decide +kernel
theorem dX5_transition_36 : decode cX5_transition 36 = .ok (.iload_n 1, 1) := by decide +kernel
theorem dX5_transition_37 : decode cX5_transition 37 = .ok (.ireturn, 1) := by decide +kernel
set_option maxRecDepth 20000 in
theorem ggX5_arc_X0_hasTransition : GoodIn wsX5_arc wsX0_hasTransition := goodIn_r _ [8, 9, 33, 34, 35, 36, 37, 38] (by decide +kernel) (by decide +kernel)
set_option maxRecDepth 20000 in
theorem gX5_arc_X0_hasTransition : GoodIn wsX5_arc (wsV RX5 51 RX0 yX0_hasTransition wsX0_hasTransition) := goodIn_app (goodIn_of _ (by decide +kernel)) ggX5_arc_X0_hasTransition
set_option maxRecDepth 20000 in
theorem ggX5_arc_X0_hasPlace : GoodIn wsX5_arc wsX0_hasPlace := goodIn_r _ [13, 14, 33, 34, 35, 36, 37, 38] (by decide +kernel) (by decide +kernel)
set_option maxRecDepth 20000 in
theorem gX5_arc_X0_hasPlace : GoodIn wsX5_arc (wsV RX5 55 RX0 yX0_hasPlace wsX0_hasPlace) := goodIn_app (goodIn_of _ (by decide +kernel)) ggX5_arc_X0_hasPlace
set_option maxRecDepth 20000 in
theorem ggX5_arc_X5_isWithin : GoodIn wsX5_arc wsX5_isWithin := goodIn_r _ [18] (by decide +kernel) (by decide +kernel)
set_option maxRecDepth 20000 in
theorem gX5_arc_X5_isWithin : GoodIn wsX5_arc (va_wsS RX5 38 yX5_isWithin wsX5_isWithin) := goodIn_app (goodIn_of _ (by decide +kernel)) ggX5_arc_X5_isWithin
set_option maxRecDepth 20000 in
theorem ggX5_arc_X5_goBackToFirst : GoodIn wsX5_arc wsX5_goBackToFirst := goodIn_r _ [22, 1, 23, 24, 25, 26, 27, 28, 29, 30, 31, 32, 33, 34, 35, 36, 37, 38] (by decide +kernel) (by decide +kernel)
set_option maxRecDepth 20000 in
theorem gX5_arc_X5_goBackToFirst : GoodIn wsX5_arc (wsV RX5 45 RX5 yX5_goBackToFirst wsX5_goBackToFirst) := goodIn_app (goodIn_of _ (by decide +kernel)) ggX5_arc_X5_goBackToFirst
theorem dX5_arc_0 : decode cX5_arc 0 = .ok (.aload_n 0, 1) := by decide +kernel
theorem dX5_arc_1 : decode cX5_arc 1 = .ok (.getfield 12, 3) := by decide +kernel
theorem dX5_arc_4 : decode cX5_arc 4 = .ok (.iload_n 1, 1) := by decide +kernel
theorem dX5_arc_5 : decode cX5_arc 5 = .ok (.invokevirtual 51, 3) := by decide +kernel
theorem dX5_arc_8 : decode cX5_arc 8 = .ok (.ifCond .eq 14, 3) := by decide +kernel
theorem dX5_arc_11 : decode cX5_arc 11 = .ok (.aload_n 0, 1) := by decide +kernel
theorem dX5_arc_12 : decode cX5_arc 12 = .ok (.getfield 12, 3) := by decide +kernel
theorem dX5_arc_15 : decode cX5_arc 15 = .ok (.iload_n 2, 1) := by decide +kernel
theorem dX5_arc_16 : decode cX5_arc 16 = .ok (.invokevirtual 55, 3) := by decide +kernel
theorem dX5_arc_19 : decode cX5_arc 19 = .ok (.ifCond .ne 5, 3) := by decide +kernel
theorem dX5_arc_22 : decode cX5_arc 22 = .ok (.iconst 0, 1) := by decide +kernel
theorem dX5_arc_23 : decode cX5_arc 23 = .ok (.ireturn, 1) := by decide +kernel
theorem dX5_arc_24 : decode cX5_arc 24 = .ok (.iload_n 3, 1) := by decide +kernel
theorem dX5_arc_25 : decode cX5_arc 25 = .ok (.iconst 5, 1) := by decide +kernel
theorem dX5_arc_26 : decode cX5_arc 26 = .ok (.invokestatic 38, 3) := by decide +kernel
theorem dX5_arc_29 : decode cX5_arc 29 = .ok (.ifCond .eq 12, 3) := by decide +kernel
theorem dX5_arc_32 : decode cX5_arc 32 = .ok (.iload 4, 2) := by decide +kernel
theorem dX5_arc_34 : decode cX5_arc 34 = .ok (.iconst 5, 1) := by decide +kernel
theorem dX5_arc_35 : decode cX5_arc 35 = .ok (.invokestatic 38, 3) := by decide +kernel
theorem dX5_arc_38 : decode cX5_arc 38 = .ok (.ifCond .ne 5, 3) := by decide +kernel
theorem dX5_arc_41 : decode cX5_arc 41 = .ok (.iconst 0, 1) := by decide +kernel
theorem dX5_arc_42 : decode cX5_arc 42 = .ok (.ireturn, 1) := by decide +kernel
theorem dX5_arc_43 : decode cX5_arc 43 = .ok (.aload_n 0, 1) := by decide +kernel
theorem dX5_arc_44 : decode cX5_arc 44 = .ok (.getfield 12, 3) := by decide +kernel
theorem dX5_arc_47 : decode cX5_arc 47 = .ok (.getfield 58, 3) := by decide +kernel
theorem dX5_arc_50 : decode cX5_arc 50 = .ok (.iload_n 1, 1) := by decide +kernel
theorem dX5_arc_51 : decode cX5_arc 51 = .ok (.aaload, 1) := by decide +kernel
theorem dX5_arc_52 : decode cX5_arc 52 = .ok (.iload_n 2, 1) := by decide +kernel
theorem dX5_arc_53 : decode cX5_arc 53 = .ok (.iload_n 3, 1) := by decide +kernel
theorem dX5_arc_54 : decode cX5_arc 54 = .ok (.iastore, 1) := by decide +kernel
theorem dX5_arc_55 : decode cX5_arc 55 = .ok (.aload_n 0, 1) := by decide +kernel
theorem dX5_arc_56 : decode cX5_arc 56 = .ok (.getfield 12, 3) := by decide +kernel
theorem dX5_arc_59 : decode cX5_arc 59 = .ok (.getfield 62, 3) := by decide +kernel
theorem dX5_arc_62 : decode cX5_arc 62 = .ok (.iload_n 1, 1) := by decide +kernel
theorem dX5_arc_63 : decode cX5_arc 63 = .ok (.aaload, 1) := by decide +kernel
theorem dX5_arc_64 : decode cX5_arc 64 = .ok (.iload_n 2, 1) := by decide +kernel
theorem dX5_arc_65 : decode cX5_arc 65 = .ok (.iload 4, 2) := by decide +kernel
theorem dX5_arc_67 : decode cX5_arc 67 = .ok (.iastore, 1) := by decide +kernel
theorem dX5_arc_68 : decode cX5_arc 68 = .ok (.aload_n 0, 1) := by decide +kernel
theorem dX5_arc_69 : decode cX5_arc 69 = .ok (.invokevirtual 45, 3) := by decide +kernel
theorem dX5_arc_72 : decode cX5_arc 72 = .ok (.iconst 1, 1) := by decide +kernel
theorem dX5_arc_73 : decode cX5_arc 73 = .ok (.ireturn, 1) := by decide +kernel
set_option maxRecDepth 20000 in
theorem ggX5_target_X0_hasPlace : GoodIn wsX5_target wsX0_hasPlace := goodIn_r _ [7, 8, 17, 18, 19, 20, 21, 22] (by decide +kernel) (by decide +kernel)
set_option maxRecDepth 20000 in
theorem gX5_target_X0_hasPlace : GoodIn wsX5_target (wsV RX5 55 RX0 yX0_hasPlace wsX0_hasPlace) := goodIn_app (goodIn_of _ (by decide +kernel)) ggX5_target_X0_hasPlace
set_option maxRecDepth 20000 in
theorem ggX5_target_X5_isWithin : GoodIn wsX5_target wsX5_isWithin := goodIn_r _ [12] (by decide +kernel) (by decide +kernel)
set_option maxRecDepth 20000 in
theorem gX5_target_X5_isWithin : GoodIn wsX5_target (va_wsS RX5 38 yX5_isWithin wsX5_isWithin) := goodIn_app (goodIn_of _ (by decide +kernel)) ggX5_target_X5_isWithin
theorem dX5_target_0 : decode cX5_target 0 = .ok (.aload_n 0, 1) := by decide +kernel
theorem dX5_target_1 : decode cX5_target 1 = .ok (.getfield 12, 3) := by decide +kernel
theorem dX5_target_4 : decode cX5_target 4 = .ok (.iload_n 1, 1) := by decide +kernel
theorem dX5_target_5 : decode cX5_target 5 = .ok (.invokevirtual 55, 3) := by decide +kernel
theorem dX5_target_8 : decode cX5_target 8 = .ok (.ifCond .eq 12, 3) := by decide +kernel
theorem dX5_target_11 : decode cX5_target 11 = .ok (.iload_n 2, 1) := by decide +kernel
theorem dX5_target_12 : decode cX5_target 12 = .ok (.bipush 20, 2) := by decide +kernel
theorem dX5_target_14 : decode cX5_target 14 = .ok (.invokestatic 38, 3) := by decide +kernel
theorem dX5_target_17 : decode cX5_target 17 = .ok (.ifCond .ne 5, 3) := by decide +kernel
theorem dX5_target_20 : decode cX5_target 20 = .ok (.iconst 0, 1) := by decide +kernel
theorem dX5_target_21 : decode cX5_target 21 = .ok (.ireturn, 1) := by decide +kernel
theorem dX5_target_22 : decode cX5_target 22 = .ok (.aload_n 0, 1) := by decide +kernel
theorem dX5_target_23 : decode cX5_target 23 = .ok (.getfield 12, 3) := by decide +kernel
theorem dX5_target_26 : decode cX5_target 26 = .ok (.getfield 65, 3) := by decide +kernel
theorem dX5_target_29 : decode cX5_target 29 = .ok (.iload_n 1, 1) := by decide +kernel
theorem dX5_target_30 : decode cX5_target 30 = .ok (.iload_n 2, 1) := by decide +kernel
theorem dX5_target_31 : decode cX5_target 31 = .ok (.iastore, 1) := by decide +kernel
theorem dX5_target_32 : decode cX5_target 32 = .ok (.iconst 1, 1) := by decide +kernel
theorem dX5_target_33 : decode cX5_target 33 = .ok (.ireturn, 1) := by decide +kernel
set_option maxRecDepth 20000 in
theorem ggX5_rounds_X3_goRounds : GoodIn wsX5_rounds wsX3_goRounds := goodIn_r _ [8, 9, 10, 11, 12, 13, 14, 15, 16, 7, 17, 18, 19, 20, 21, 22, 23, 24, 25, 26, 27, 28, 29, 30, 31, 32, 33, 34, 35, 36, 37, 38, 39, 40, 41, 42, 43, 44, 45, 46, 47, 48, 49, 50, 51, 52, 53, 54, 55, 56, 57, 58, 59, 60, 61, 62, 63, 64, 65, 66, 67, 68, 69, 70, 71, 72, 73, 74, 75, 76, 77, 78, 79, 80, 81, 82, 83, 84, 85, 86, 87, 88, 89, 90, 91, 92, 93, 94, 99, 100, 101, 102, 103, 104, 105, 106, 107, 108, 109, 110, 111, 112, 113, 114, 115, 116, 117, 118, 119] (by decide +kernel) (by decide +kernel)
set_option maxRecDepth 20000 in
theorem gX5_rounds_X3_goRounds : GoodIn wsX5_rounds (wsV RX5 68 RX3 yX3_goRounds wsX3_goRounds) := goodIn_app (goodIn_of _ (by decide +kernel)) ggX5_rounds_X3_goRounds
theorem dX5_rounds_0 : decode cX5_rounds 0 = .ok (.aload_n 0, 1) := by decide +kernel
theorem dX5_rounds_1 : decode cX5_rounds 1 = .ok (.getfield 23, 3) := by decide +kernel
theorem dX5_rounds_4 : decode cX5_rounds 4 = .ok (.aload_n 0, 1) := by decide +kernel
theorem dX5_rounds_5 : decode cX5_rounds 5 = .ok (.getfield 12, 3) := by decide +kernel
theorem dX5_rounds_8 : decode cX5_rounds 8 = .ok (.invokevirtual 68, 3) := by decide +kernel
theorem dX5_rounds_11 : decode cX5_rounds 11 = .ok (.aload_n 0, 1) := by decide +kernel
theorem dX5_rounds_12 : decode cX5_rounds 12 = .ok (.getfield 23, 3) := by decide +kernel
theorem dX5_rounds_15 : decode cX5_rounds 15 = .ok (.getfield 72, 3) := by decide +kernel
theorem dX5_rounds_18 : decode cX5_rounds 18 = .ok (.ireturn, 1) := by decide +kernel
theorem dX5_steps_0 : decode cX5_steps 0 = .ok (.aload_n 0, 1) := by decide +kernel
theorem dX5_steps_1 : decode cX5_steps 1 = .ok (.getfield 23, 3) := by decide +kernel
theorem dX5_steps_4 : decode cX5_steps 4 = .ok (.getfield 72, 3) := by decide +kernel
theorem dX5_steps_7 : decode cX5_steps 7 = .ok (.iconst 1, 1) := by decide +kernel
theorem dX5_steps_8 : decode cX5_steps 8 = .ok (.if_icmp .ne 13, 3) := by decide +kernel
theorem dX5_steps_11 : decode cX5_steps 11 = .ok (.aload_n 0, 1) := by decide +kernel
theorem dX5_steps_12 : decode cX5_steps 12 = .ok (.getfield 23, 3) := by decide +kernel
theorem dX5_steps_15 : decode cX5_steps 15 = .ok (.getfield 75, 3) := by decide +kernel
theorem dX5_steps_18 : decode cX5_steps 18 = .ok (.goto 4, 3) := by decide +kernel
theorem dX5_steps_21 : decode cX5_steps 21 = .ok (.iconst (-1), 1) := by decide +kernel
theorem dX5_steps_22 : decode cX5_steps 22 = .ok (.ireturn, 1) := by decide +kernel
set_option maxRecDepth 20000 in
theorem ggX5_witness_X5_steps : GoodIn wsX5_witness wsX5_steps := goodIn_r _ [7, 1, 8, 9, 10, 11, 12, 13, 14, 15, 16, 17, 18, 19, 20, 21, 22, 23, 24, 25, 26] (by decide +kernel) (by decide +kernel)
set_option maxRecDepth 20000 in
theorem gX5_witness_X5_steps : GoodIn wsX5_witness (wsV RX5 78 RX5 yX5_steps wsX5_steps) := goodIn_app (goodIn_of _ (by decide +kernel)) ggX5_witness_X5_steps
theorem dX5_witness_0 : decode cX5_witness 0 = .ok (.iload_n 1, 1) := by decide +kernel
theorem dX5_witness_1 : decode cX5_witness 1 = .ok (.ifCond .lt 23, 3) := by decide +kernel
theorem dX5_witness_4 : decode cX5_witness 4 = .ok (.iload_n 1, 1) := by decide +kernel
theorem dX5_witness_5 : decode cX5_witness 5 = .ok (.aload_n 0, 1) := by decide +kernel
theorem dX5_witness_6 : decode cX5_witness 6 = .ok (.invokevirtual 78, 3) := by decide +kernel
theorem dX5_witness_9 : decode cX5_witness 9 = .ok (.if_icmp .ge 15, 3) := by decide +kernel
theorem dX5_witness_12 : decode cX5_witness 12 = .ok (.aload_n 0, 1) := by decide +kernel
theorem dX5_witness_13 : decode cX5_witness 13 = .ok (.getfield 23, 3) := by decide +kernel
theorem dX5_witness_16 : decode cX5_witness 16 = .ok (.getfield 82, 3) := by decide +kernel
theorem dX5_witness_19 : decode cX5_witness 19 = .ok (.iload_n 1, 1) := by decide +kernel
theorem dX5_witness_20 : decode cX5_witness 20 = .ok (.iaload, 1) := by decide +kernel
theorem dX5_witness_21 : decode cX5_witness 21 = .ok (.goto 4, 3) := by decide +kernel
theorem dX5_witness_24 : decode cX5_witness 24 = .ok (.iconst (-1), 1) := by decide +kernel
theorem dX5_witness_25 : decode cX5_witness 25 = .ok (.ireturn, 1) := by decide +kernel
theorem dX5_least_0 : decode cX5_least 0 = .ok (.iload_n 1, 1) := by decide +kernel
theorem dX5_least_1 : decode cX5_least 1 = .ok (.ifCond .lt 26, 3) := by decide +kernel
theorem dX5_least_4 : decode cX5_least 4 = .ok (.iload_n 1, 1) := by decide +kernel
theorem dX5_least_5 : decode cX5_least 5 = .ok (.aload_n 0, 1) := by decide +kernel
theorem dX5_least_6 : decode cX5_least 6 = .ok (.getfield 23, 3) := by decide +kernel
theorem dX5_least_9 : decode cX5_least 9 = .ok (.getfield 75, 3) := by decide +kernel
theorem dX5_least_12 : decode cX5_least 12 = .ok (.if_icmp .gt 15, 3) := by decide +kernel
theorem dX5_least_15 : decode cX5_least 15 = .ok (.aload_n 0, 1) := by decide +kernel
theorem dX5_least_16 : decode cX5_least 16 = .ok (.getfield 23, 3) := by decide +kernel
theorem dX5_least_19 : decode cX5_least 19 = .ok (.getfield 85, 3) := by decide +kernel
theorem dX5_least_22 : decode cX5_least 22 = .ok (.iload_n 1, 1) := by decide +kernel
theorem dX5_least_23 : decode cX5_least 23 = .ok (.iaload, 1) := by decide +kernel
theorem dX5_least_24 : decode cX5_least 24 = .ok (.goto 4, 3) := by decide +kernel
theorem dX5_least_27 : decode cX5_least 27 = .ok (.iconst (-1), 1) := by decide +kernel
theorem dX5_least_28 : decode cX5_least 28 = .ok (.ireturn, 1) := by decide +kernel
set_option maxRecDepth 20000 in
theorem ggX5_grow_X4_growFrom : GoodIn wsX5_grow wsX4_growFrom := goodIn_r _ [9, 10, 11, 12, 13, 14, 8, 15, 16, 17, 18, 19, 20, 21, 22, 23, 24, 25, 26, 27, 28, 29, 30, 31, 32, 33, 34, 35, 36, 37, 38, 39, 40, 41, 42, 43, 44, 45, 46, 47, 48, 49, 50, 51, 52, 53, 54, 55, 56, 57, 58, 59, 60, 61, 62, 63, 64, 65, 66, 67, 68, 69, 70, 71, 72, 73, 74, 75, 76, 77, 78, 79, 80, 81, 82, 83, 84, 85, 86, 87, 88, 89, 90, 91, 96, 97, 98, 99, 100, 101, 102, 103, 104, 105, 106, 107, 108, 109, 110] (by decide +kernel) (by decide +kernel)
set_option maxRecDepth 20000 in
theorem gX5_grow_X4_growFrom : GoodIn wsX5_grow (wsV RX5 88 RX4 yX4_growFrom wsX4_growFrom) := goodIn_app (goodIn_of _ (by decide +kernel)) ggX5_grow_X4_growFrom
theorem dX5_grow_0 : decode cX5_grow 0 = .ok (.aload_n 0, 1) := by decide +kernel
theorem dX5_grow_1 : decode cX5_grow 1 = .ok (.getfield 30, 3) := by decide +kernel
theorem dX5_grow_4 : decode cX5_grow 4 = .ok (.aload_n 0, 1) := by decide +kernel
theorem dX5_grow_5 : decode cX5_grow 5 = .ok (.getfield 12, 3) := by decide +kernel
theorem dX5_grow_8 : decode cX5_grow 8 = .ok (.invokevirtual 88, 3) := by decide +kernel
theorem dX5_grow_11 : decode cX5_grow 11 = .ok (.aload_n 0, 1) := by decide +kernel
theorem dX5_grow_12 : decode cX5_grow 12 = .ok (.getfield 30, 3) := by decide +kernel
theorem dX5_grow_15 : decode cX5_grow 15 = .ok (.getfield 91, 3) := by decide +kernel
theorem dX5_grow_18 : decode cX5_grow 18 = .ok (.ifCond .eq 13, 3) := by decide +kernel
theorem dX5_grow_21 : decode cX5_grow 21 = .ok (.aload_n 0, 1) := by decide +kernel
theorem dX5_grow_22 : decode cX5_grow 22 = .ok (.getfield 30, 3) := by decide +kernel
theorem dX5_grow_25 : decode cX5_grow 25 = .ok (.getfield 95, 3) := by decide +kernel
theorem dX5_grow_28 : decode cX5_grow 28 = .ok (.goto 4, 3) := by decide +kernel
theorem dX5_grow_31 : decode cX5_grow 31 = .ok (.iconst (-1), 1) := by decide +kernel
theorem dX5_grow_32 : decode cX5_grow 32 = .ok (.ireturn, 1) := by decide +kernel
set_option maxRecDepth 20000 in
theorem ggX5_most_X4_hasPlace : GoodIn wsX5_most wsX4_hasPlace := goodIn_r _ [7, 8, 37, 38, 39, 40, 41, 42, 43, 44, 45] (by decide +kernel) (by decide +kernel)
set_option maxRecDepth 20000 in
theorem gX5_most_X4_hasPlace : GoodIn wsX5_most (wsV RX5 98 RX4 yX4_hasPlace wsX4_hasPlace) := goodIn_app (goodIn_of _ (by decide +kernel)) ggX5_most_X4_hasPlace
set_option maxRecDepth 20000 in
theorem ggX5_most_X4_mostAt : GoodIn wsX5_most wsX4_mostAt := goodIn_r _ [12, 13, 14, 15, 16, 17, 18, 19, 20, 6, 21, 22, 23, 24, 25, 26, 27, 37, 38, 39, 40, 41, 42, 43, 44, 45] (by decide +kernel) (by decide +kernel)
set_option maxRecDepth 20000 in
theorem gX5_most_X4_mostAt : GoodIn wsX5_most (wsV RX5 99 RX4 yX4_mostAt wsX4_mostAt) := goodIn_app (goodIn_of _ (by decide +kernel)) ggX5_most_X4_mostAt
set_option maxRecDepth 20000 in
theorem ggX5_most_X5_told : GoodIn wsX5_most wsX5_told := goodIn_r _ [31, 32] (by decide +kernel) (by decide +kernel)
set_option maxRecDepth 20000 in
theorem gX5_most_X5_told : GoodIn wsX5_most (va_wsS RX5 103 yX5_told wsX5_told) := goodIn_app (goodIn_of _ (by decide +kernel)) ggX5_most_X5_told
theorem dX5_most_0 : decode cX5_most 0 = .ok (.aload_n 0, 1) := by decide +kernel
end
section
theorem dX5_most_1 : decode cX5_most 1 = .ok (.getfield 30, 3) := by decide +kernel
theorem dX5_most_4 : decode cX5_most 4 = .ok (.getfield 91, 3) := by decide +kernel
theorem dX5_most_7 : decode cX5_most 7 = .ok (.ifCond .eq 28, 3) := by decide +kernel
theorem dX5_most_10 : decode cX5_most 10 = .ok (.aload_n 0, 1) := by decide +kernel
theorem dX5_most_11 : decode cX5_most 11 = .ok (.getfield 30, 3) := by decide +kernel
theorem dX5_most_14 : decode cX5_most 14 = .ok (.iload_n 1, 1) := by decide +kernel
theorem dX5_most_15 : decode cX5_most 15 = .ok (.invokevirtual 98, 3) := by decide +kernel
theorem dX5_most_18 : decode cX5_most 18 = .ok (.ifCond .eq 17, 3) := by decide +kernel
theorem dX5_most_21 : decode cX5_most 21 = .ok (.aload_n 0, 1) := by decide +kernel
theorem dX5_most_22 : decode cX5_most 22 = .ok (.getfield 30, 3) := by decide +kernel
theorem dX5_most_25 : decode cX5_most 25 = .ok (.iload_n 1, 1) := by decide +kernel
theorem dX5_most_26 : decode cX5_most 26 = .ok (.invokevirtual 99, 3) := by decide +kernel
theorem dX5_most_29 : decode cX5_most 29 = .ok (.invokestatic 103, 3) := by decide +kernel
theorem dX5_most_32 : decode cX5_most 32 = .ok (.goto 4, 3) := by decide +kernel
theorem dX5_most_35 : decode cX5_most 35 = .ok (.iconst (-1), 1) := by decide +kernel
theorem dX5_most_36 : decode cX5_most 36 = .ok (.ireturn, 1) := by decide +kernel
set_option maxRecDepth 20000 in
theorem ggX5_live_X5_isWithin : GoodIn wsX5_live wsX5_isWithin := goodIn_r _ [7] (by decide +kernel) (by decide +kernel)
set_option maxRecDepth 20000 in
theorem gX5_live_X5_isWithin : GoodIn wsX5_live (va_wsS RX5 38 yX5_isWithin wsX5_isWithin) := goodIn_app (goodIn_of _ (by decide +kernel)) ggX5_live_X5_isWithin
theorem dX5_live_0 : decode cX5_live 0 = .ok (.aload_n 0, 1) := by decide +kernel
theorem dX5_live_1 : decode cX5_live 1 = .ok (.getfield 30, 3) := by decide +kernel
theorem dX5_live_4 : decode cX5_live 4 = .ok (.getfield 91, 3) := by decide +kernel
theorem dX5_live_7 : decode cX5_live 7 = .ok (.ifCond .eq 27, 3) := by decide +kernel
theorem dX5_live_10 : decode cX5_live 10 = .ok (.iload_n 1, 1) := by decide +kernel
theorem dX5_live_11 : decode cX5_live 11 = .ok (.iconst 5, 1) := by decide +kernel
theorem dX5_live_12 : decode cX5_live 12 = .ok (.invokestatic 38, 3) := by decide +kernel
theorem dX5_live_15 : decode cX5_live 15 = .ok (.ifCond .eq 19, 3) := by decide +kernel
theorem dX5_live_18 : decode cX5_live 18 = .ok (.aload_n 0, 1) := by decide +kernel
theorem dX5_live_19 : decode cX5_live 19 = .ok (.getfield 30, 3) := by decide +kernel
theorem dX5_live_22 : decode cX5_live 22 = .ok (.getfield 106, 3) := by decide +kernel
theorem dX5_live_25 : decode cX5_live 25 = .ok (.iload_n 1, 1) := by decide +kernel
theorem dX5_live_26 : decode cX5_live 26 = .ok (.baload, 1) := by decide +kernel
theorem dX5_live_27 : decode cX5_live 27 = .ok (.ifCond .eq 7, 3) := by decide +kernel
theorem dX5_live_30 : decode cX5_live 30 = .ok (.iconst 1, 1) := by decide +kernel
theorem dX5_live_31 : decode cX5_live 31 = .ok (.goto 4, 3) := by decide +kernel
theorem dX5_live_34 : decode cX5_live 34 = .ok (.iconst 0, 1) := by decide +kernel
theorem dX5_live_35 : decode cX5_live 35 = .ok (.ireturn, 1) := by decide +kernel
theorem dX5_limits_0 : decode cX5_limits 0 = .ok (.aload_n 0, 1) := by decide +kernel
theorem dX5_limits_1 : decode cX5_limits 1 = .ok (.getfield 30, 3) := by decide +kernel
theorem dX5_limits_4 : decode cX5_limits 4 = .ok (.getfield 91, 3) := by decide +kernel
theorem dX5_limits_7 : decode cX5_limits 7 = .ok (.ifCond .eq 13, 3) := by decide +kernel
theorem dX5_limits_10 : decode cX5_limits 10 = .ok (.aload_n 0, 1) := by decide +kernel
theorem dX5_limits_11 : decode cX5_limits 11 = .ok (.getfield 30, 3) := by decide +kernel
theorem dX5_limits_14 : decode cX5_limits 14 = .ok (.getfield 110, 3) := by decide +kernel
theorem dX5_limits_17 : decode cX5_limits 17 = .ok (.goto 4, 3) := by decide +kernel
theorem dX5_limits_20 : decode cX5_limits 20 = .ok (.iconst (-1), 1) := by decide +kernel
theorem dX5_limits_21 : decode cX5_limits 21 = .ok (.ireturn, 1) := by decide +kernel
set_option maxRecDepth 20000 in
theorem ggX5_limit_X4_hasPlace : GoodIn wsX5_limit wsX4_hasPlace := goodIn_r _ [8, 9, 29, 30, 31, 32, 33, 34, 35, 36, 37] (by decide +kernel) (by decide +kernel)
set_option maxRecDepth 20000 in
theorem gX5_limit_X4_hasPlace : GoodIn wsX5_limit (wsV RX5 98 RX4 yX4_hasPlace wsX4_hasPlace) := goodIn_app (goodIn_of _ (by decide +kernel)) ggX5_limit_X4_hasPlace
set_option maxRecDepth 20000 in
theorem ggX5_limit_X4_limitAt : GoodIn wsX5_limit wsX4_limitAt := goodIn_r _ [13, 14, 15, 16, 17, 7, 18, 19, 29, 30, 31, 32, 33, 34, 35, 36, 37] (by decide +kernel) (by decide +kernel)
set_option maxRecDepth 20000 in
theorem gX5_limit_X4_limitAt : GoodIn wsX5_limit (wsV RX5 113 RX4 yX4_limitAt wsX4_limitAt) := goodIn_app (goodIn_of _ (by decide +kernel)) ggX5_limit_X4_limitAt
set_option maxRecDepth 20000 in
theorem ggX5_limit_X5_told : GoodIn wsX5_limit wsX5_told := goodIn_r _ [23, 24] (by decide +kernel) (by decide +kernel)
set_option maxRecDepth 20000 in
theorem gX5_limit_X5_told : GoodIn wsX5_limit (va_wsS RX5 103 yX5_told wsX5_told) := goodIn_app (goodIn_of _ (by decide +kernel)) ggX5_limit_X5_told
theorem dX5_limit_0 : decode cX5_limit 0 = .ok (.aload_n 0, 1) := by decide +kernel
theorem dX5_limit_1 : decode cX5_limit 1 = .ok (.getfield 30, 3) := by decide +kernel
theorem dX5_limit_4 : decode cX5_limit 4 = .ok (.getfield 91, 3) := by decide +kernel
theorem dX5_limit_7 : decode cX5_limit 7 = .ok (.ifCond .eq 29, 3) := by decide +kernel
theorem dX5_limit_10 : decode cX5_limit 10 = .ok (.aload_n 0, 1) := by decide +kernel
theorem dX5_limit_11 : decode cX5_limit 11 = .ok (.getfield 30, 3) := by decide +kernel
theorem dX5_limit_14 : decode cX5_limit 14 = .ok (.iload_n 2, 1) := by decide +kernel
theorem dX5_limit_15 : decode cX5_limit 15 = .ok (.invokevirtual 98, 3) := by decide +kernel
theorem dX5_limit_18 : decode cX5_limit 18 = .ok (.ifCond .eq 18, 3) := by decide +kernel
theorem dX5_limit_21 : decode cX5_limit 21 = .ok (.iload_n 1, 1) := by decide +kernel
theorem dX5_limit_22 : decode cX5_limit 22 = .ok (.ifCond .lt 14, 3) := by decide +kernel
theorem dX5_limit_25 : decode cX5_limit 25 = .ok (.iload_n 1, 1) := by decide +kernel
theorem dX5_limit_26 : decode cX5_limit 26 = .ok (.aload_n 0, 1) := by decide +kernel
theorem dX5_limit_27 : decode cX5_limit 27 = .ok (.getfield 30, 3) := by decide +kernel
theorem dX5_limit_30 : decode cX5_limit 30 = .ok (.getfield 110, 3) := by decide +kernel
theorem dX5_limit_33 : decode cX5_limit 33 = .ok (.if_icmp .lt 5, 3) := by decide +kernel
theorem dX5_limit_36 : decode cX5_limit 36 = .ok (.iconst (-1), 1) := by decide +kernel
theorem dX5_limit_37 : decode cX5_limit 37 = .ok (.ireturn, 1) := by decide +kernel
theorem dX5_limit_38 : decode cX5_limit 38 = .ok (.aload_n 0, 1) := by decide +kernel
theorem dX5_limit_39 : decode cX5_limit 39 = .ok (.getfield 30, 3) := by decide +kernel
theorem dX5_limit_42 : decode cX5_limit 42 = .ok (.iload_n 1, 1) := by decide +kernel
theorem dX5_limit_43 : decode cX5_limit 43 = .ok (.iload_n 2, 1) := by decide +kernel
theorem dX5_limit_44 : decode cX5_limit 44 = .ok (.invokevirtual 113, 3) := by decide +kernel
theorem dX5_limit_47 : decode cX5_limit 47 = .ok (.invokestatic 103, 3) := by decide +kernel
theorem dX5_limit_50 : decode cX5_limit 50 = .ok (.ireturn, 1) := by decide +kernel
set_option maxRecDepth 20000 in
theorem ggX5_covers_X4_reaches : GoodIn wsX5_covers wsX4_reaches := goodIn_r _ [11, 12, 13, 14, 15, 10, 16, 17, 18, 19, 20, 21, 22, 23, 24, 25, 26, 27, 32, 33, 34, 35, 36, 37, 38, 39, 40] (by decide +kernel) (by decide +kernel)
set_option maxRecDepth 20000 in
theorem gX5_covers_X4_reaches : GoodIn wsX5_covers (wsV RX5 118 RX4 yX4_reaches wsX4_reaches) := goodIn_app (goodIn_of _ (by decide +kernel)) ggX5_covers_X4_reaches
theorem dX5_covers_0 : decode cX5_covers 0 = .ok (.aload_n 0, 1) := by decide +kernel
theorem dX5_covers_1 : decode cX5_covers 1 = .ok (.getfield 30, 3) := by decide +kernel
theorem dX5_covers_4 : decode cX5_covers 4 = .ok (.getfield 91, 3) := by decide +kernel
theorem dX5_covers_7 : decode cX5_covers 7 = .ok (.ifCond .eq 41, 3) := by decide +kernel
theorem dX5_covers_10 : decode cX5_covers 10 = .ok (.aload_n 0, 1) := by decide +kernel
theorem dX5_covers_11 : decode cX5_covers 11 = .ok (.getfield 30, 3) := by decide +kernel
theorem dX5_covers_14 : decode cX5_covers 14 = .ok (.getfield 117, 3) := by decide +kernel
theorem dX5_covers_17 : decode cX5_covers 17 = .ok (.aload_n 0, 1) := by decide +kernel
theorem dX5_covers_18 : decode cX5_covers 18 = .ok (.getfield 12, 3) := by decide +kernel
theorem dX5_covers_21 : decode cX5_covers 21 = .ok (.getfield 34, 3) := by decide +kernel
theorem dX5_covers_24 : decode cX5_covers 24 = .ok (.if_icmp .ne 24, 3) := by decide +kernel
theorem dX5_covers_27 : decode cX5_covers 27 = .ok (.aload_n 0, 1) := by decide +kernel
theorem dX5_covers_28 : decode cX5_covers 28 = .ok (.getfield 30, 3) := by decide +kernel
theorem dX5_covers_31 : decode cX5_covers 31 = .ok (.aload_n 0, 1) := by decide +kernel
theorem dX5_covers_32 : decode cX5_covers 32 = .ok (.getfield 12, 3) := by decide +kernel
theorem dX5_covers_35 : decode cX5_covers 35 = .ok (.getfield 65, 3) := by decide +kernel
theorem dX5_covers_38 : decode cX5_covers 38 = .ok (.invokevirtual 118, 3) := by decide +kernel
theorem dX5_covers_41 : decode cX5_covers 41 = .ok (.ifCond .eq 7, 3) := by decide +kernel
theorem dX5_covers_44 : decode cX5_covers 44 = .ok (.iconst 1, 1) := by decide +kernel
theorem dX5_covers_45 : decode cX5_covers 45 = .ok (.goto 4, 3) := by decide +kernel
theorem dX5_covers_48 : decode cX5_covers 48 = .ok (.iconst 0, 1) := by decide +kernel
theorem dX5_covers_49 : decode cX5_covers 49 = .ok (.ireturn, 1) := by decide +kernel
set_option maxRecDepth 20000 in
theorem ggX5_fire_X0_hasTransition : GoodIn wsX5_fire wsX0_hasTransition := goodIn_r _ [7, 8, 25, 26, 27, 28, 29, 30] (by decide +kernel) (by decide +kernel)
set_option maxRecDepth 20000 in
theorem gX5_fire_X0_hasTransition : GoodIn wsX5_fire (wsV RX5 51 RX0 yX0_hasTransition wsX0_hasTransition) := goodIn_app (goodIn_of _ (by decide +kernel)) ggX5_fire_X0_hasTransition
set_option maxRecDepth 20000 in
theorem ggX5_fire_X0_canFire : GoodIn wsX5_fire wsX0_canFire := goodIn_r _ [12, 13, 14, 25, 26, 27, 28, 29, 30] (by decide +kernel) (by decide +kernel)
set_option maxRecDepth 20000 in
theorem gX5_fire_X0_canFire : GoodIn wsX5_fire (wsV RX5 122 RX0 yX0_canFire wsX0_canFire) := goodIn_app (goodIn_of _ (by decide +kernel)) ggX5_fire_X0_canFire
set_option maxRecDepth 20000 in
theorem ggX5_fire_X0_move : GoodIn wsX5_fire wsX0_move := goodIn_r _ [18, 14, 19, 20, 13, 25, 26, 27, 28, 29, 30] (by decide +kernel) (by decide +kernel)
set_option maxRecDepth 20000 in
theorem gX5_fire_X0_move : GoodIn wsX5_fire (wsV RX5 126 RX0 yX0_move wsX0_move) := goodIn_app (goodIn_of _ (by decide +kernel)) ggX5_fire_X0_move
theorem dX5_fire_0 : decode cX5_fire 0 = .ok (.aload_n 0, 1) := by decide +kernel
theorem dX5_fire_1 : decode cX5_fire 1 = .ok (.getfield 12, 3) := by decide +kernel
theorem dX5_fire_4 : decode cX5_fire 4 = .ok (.iload_n 1, 1) := by decide +kernel
theorem dX5_fire_5 : decode cX5_fire 5 = .ok (.invokevirtual 51, 3) := by decide +kernel
theorem dX5_fire_8 : decode cX5_fire 8 = .ok (.ifCond .eq 19, 3) := by decide +kernel
theorem dX5_fire_11 : decode cX5_fire 11 = .ok (.aload_n 0, 1) := by decide +kernel
theorem dX5_fire_12 : decode cX5_fire 12 = .ok (.getfield 12, 3) := by decide +kernel
theorem dX5_fire_15 : decode cX5_fire 15 = .ok (.iload_n 1, 1) := by decide +kernel
theorem dX5_fire_16 : decode cX5_fire 16 = .ok (.aload_n 0, 1) := by decide +kernel
theorem dX5_fire_17 : decode cX5_fire 17 = .ok (.getfield 16, 3) := by decide +kernel
theorem dX5_fire_20 : decode cX5_fire 20 = .ok (.iconst 0, 1) := by decide +kernel
theorem dX5_fire_21 : decode cX5_fire 21 = .ok (.invokevirtual 122, 3) := by decide +kernel
theorem dX5_fire_24 : decode cX5_fire 24 = .ok (.ifCond .ne 5, 3) := by decide +kernel
theorem dX5_fire_27 : decode cX5_fire 27 = .ok (.iconst 0, 1) := by decide +kernel
theorem dX5_fire_28 : decode cX5_fire 28 = .ok (.ireturn, 1) := by decide +kernel
theorem dX5_fire_29 : decode cX5_fire 29 = .ok (.aload_n 0, 1) := by decide +kernel
theorem dX5_fire_30 : decode cX5_fire 30 = .ok (.getfield 12, 3) := by decide +kernel
theorem dX5_fire_33 : decode cX5_fire 33 = .ok (.iload_n 1, 1) := by decide +kernel
theorem dX5_fire_34 : decode cX5_fire 34 = .ok (.aload_n 0, 1) := by decide +kernel
theorem dX5_fire_35 : decode cX5_fire 35 = .ok (.getfield 16, 3) := by decide +kernel
theorem dX5_fire_38 : decode cX5_fire 38 = .ok (.iconst 0, 1) := by decide +kernel
theorem dX5_fire_39 : decode cX5_fire 39 = .ok (.invokevirtual 126, 3) := by decide +kernel
theorem dX5_fire_42 : decode cX5_fire 42 = .ok (.iconst 1, 1) := by decide +kernel
theorem dX5_fire_43 : decode cX5_fire 43 = .ok (.ireturn, 1) := by decide +kernel
set_option maxRecDepth 20000 in
theorem ggX5_tokens_X0_hasPlace : GoodIn wsX5_tokens wsX0_hasPlace := goodIn_r _ [7, 8, 13, 14, 15, 16, 17, 18] (by decide +kernel) (by decide +kernel)
set_option maxRecDepth 20000 in
theorem gX5_tokens_X0_hasPlace : GoodIn wsX5_tokens (wsV RX5 55 RX0 yX0_hasPlace wsX0_hasPlace) := goodIn_app (goodIn_of _ (by decide +kernel)) ggX5_tokens_X0_hasPlace
theorem dX5_tokens_0 : decode cX5_tokens 0 = .ok (.aload_n 0, 1) := by decide +kernel
theorem dX5_tokens_1 : decode cX5_tokens 1 = .ok (.getfield 12, 3) := by decide +kernel
theorem dX5_tokens_4 : decode cX5_tokens 4 = .ok (.iload_n 1, 1) := by decide +kernel
theorem dX5_tokens_5 : decode cX5_tokens 5 = .ok (.invokevirtual 55, 3) := by decide +kernel
theorem dX5_tokens_8 : decode cX5_tokens 8 = .ok (.ifCond .eq 12, 3) := by decide +kernel
theorem dX5_tokens_11 : decode cX5_tokens 11 = .ok (.aload_n 0, 1) := by decide +kernel
theorem dX5_tokens_12 : decode cX5_tokens 12 = .ok (.getfield 16, 3) := by decide +kernel
theorem dX5_tokens_15 : decode cX5_tokens 15 = .ok (.iload_n 1, 1) := by decide +kernel
theorem dX5_tokens_16 : decode cX5_tokens 16 = .ok (.iaload, 1) := by decide +kernel
theorem dX5_tokens_17 : decode cX5_tokens 17 = .ok (.goto 4, 3) := by decide +kernel
theorem dX5_tokens_20 : decode cX5_tokens 20 = .ok (.iconst (-1), 1) := by decide +kernel
theorem dX5_tokens_21 : decode cX5_tokens 21 = .ok (.ireturn, 1) := by decide +kernel
theorem dX5_goBackToFirst_0 : decode cX5_goBackToFirst 0 = .ok (.aload_n 0, 1) := by decide +kernel
theorem dX5_goBackToFirst_1 : decode cX5_goBackToFirst 1 = .ok (.getfield 12, 3) := by decide +kernel
theorem dX5_goBackToFirst_4 : decode cX5_goBackToFirst 4 = .ok (.getfield 42, 3) := by decide +kernel
theorem dX5_goBackToFirst_7 : decode cX5_goBackToFirst 7 = .ok (.iconst 0, 1) := by decide +kernel
theorem dX5_goBackToFirst_8 : decode cX5_goBackToFirst 8 = .ok (.aload_n 0, 1) := by decide +kernel
theorem dX5_goBackToFirst_9 : decode cX5_goBackToFirst 9 = .ok (.getfield 16, 3) := by decide +kernel
theorem dX5_goBackToFirst_12 : decode cX5_goBackToFirst 12 = .ok (.iconst 0, 1) := by decide +kernel
theorem dX5_goBackToFirst_13 : decode cX5_goBackToFirst 13 = .ok (.iconst 5, 1) := by decide +kernel
theorem dX5_goBackToFirst_14 : decode cX5_goBackToFirst 14 = .ok (.invokestatic 130, 3) := by decide +kernel
theorem dX5_goBackToFirst_17 : decode cX5_goBackToFirst 17 = .ok (.return_, 1) := by decide +kernel
theorem dX5_isWithin_0 : decode cX5_isWithin 0 = .ok (.iload_n 0, 1) := by decide +kernel
theorem dX5_isWithin_1 : decode cX5_isWithin 1 = .ok (.ifCond .lt 12, 3) := by decide +kernel
theorem dX5_isWithin_4 : decode cX5_isWithin 4 = .ok (.iload_n 0, 1) := by decide +kernel
theorem dX5_isWithin_5 : decode cX5_isWithin 5 = .ok (.iload_n 1, 1) := by decide +kernel
theorem dX5_isWithin_6 : decode cX5_isWithin 6 = .ok (.if_icmp .gt 7, 3) := by decide +kernel
theorem dX5_isWithin_9 : decode cX5_isWithin 9 = .ok (.iconst 1, 1) := by decide +kernel
theorem dX5_isWithin_10 : decode cX5_isWithin 10 = .ok (.goto 4, 3) := by decide +kernel
theorem dX5_isWithin_13 : decode cX5_isWithin 13 = .ok (.iconst 0, 1) := by decide +kernel
theorem dX5_isWithin_14 : decode cX5_isWithin 14 = .ok (.ireturn, 1) := by decide +kernel
theorem dX5_told_0 : decode cX5_told 0 = .ok (.iload_n 0, 1) := by decide +kernel
theorem dX5_told_1 : decode cX5_told 1 = .ok (.ldc 136, 2) := by decide +kernel
theorem dX5_told_3 : decode cX5_told 3 = .ok (.if_icmp .ne 8, 3) := by decide +kernel
theorem dX5_told_6 : decode cX5_told 6 = .ok (.bipush (-2), 2) := by decide +kernel
theorem dX5_told_8 : decode cX5_told 8 = .ok (.goto 4, 3) := by decide +kernel
theorem dX5_told_11 : decode cX5_told 11 = .ok (.iload_n 0, 1) := by decide +kernel
theorem dX5_told_12 : decode cX5_told 12 = .ok (.ireturn, 1) := by decide +kernel
theorem dX6_init_0 : decode cX6_init 0 = .ok (.aload_n 0, 1) := by decide +kernel
theorem dX6_init_1 : decode cX6_init 1 = .ok (.invokespecial 1, 3) := by decide +kernel
theorem dX6_init_4 : decode cX6_init 4 = .ok (.aload_n 0, 1) := by decide +kernel
theorem dX6_init_5 : decode cX6_init 5 = .ok (.iconst 5, 1) := by decide +kernel
theorem dX6_init_6 : decode cX6_init 6 = .ok (.newarray .int, 2) := by decide +kernel
theorem dX6_init_8 : decode cX6_init 8 = .ok (.putfield 7, 3) := by decide +kernel
theorem dX6_init_11 : decode cX6_init 11 = .ok (.aload_n 0, 1) := by decide +kernel
theorem dX6_init_12 : decode cX6_init 12 = .ok (.iconst 5, 1) := by decide +kernel
theorem dX6_init_13 : decode cX6_init 13 = .ok (.newarray .int, 2) := by decide +kernel
theorem dX6_init_15 : decode cX6_init 15 = .ok (.putfield 13, 3) := by decide +kernel
theorem dX6_init_18 : decode cX6_init 18 = .ok (.aload_n 0, 1) := by decide +kernel
theorem dX6_init_19 : decode cX6_init 19 = .ok (.bipush 30, 2) := by decide +kernel
theorem dX6_init_21 : decode cX6_init 21 = .ok (.newarray .int, 2) := by decide +kernel
theorem dX6_init_23 : decode cX6_init 23 = .ok (.putfield 16, 3) := by decide +kernel
theorem dX6_init_26 : decode cX6_init 26 = .ok (.aload_n 0, 1) := by decide +kernel
theorem dX6_init_27 : decode cX6_init 27 = .ok (.bipush 30, 2) := by decide +kernel
theorem dX6_init_29 : decode cX6_init 29 = .ok (.newarray .int, 2) := by decide +kernel
theorem dX6_init_31 : decode cX6_init 31 = .ok (.putfield 19, 3) := by decide +kernel
theorem dX6_init_34 : decode cX6_init 34 = .ok (.aload_n 0, 1) := by decide +kernel
theorem dX6_init_35 : decode cX6_init 35 = .ok (.iconst 5, 1) := by decide +kernel
theorem dX6_init_36 : decode cX6_init 36 = .ok (.newarray .int, 2) := by decide +kernel
theorem dX6_init_38 : decode cX6_init 38 = .ok (.putfield 22, 3) := by decide +kernel
theorem dX6_init_41 : decode cX6_init 41 = .ok (.aload_n 0, 1) := by decide +kernel
theorem dX6_init_42 : decode cX6_init 42 = .ok (.iconst 2, 1) := by decide +kernel
theorem dX6_init_43 : decode cX6_init 43 = .ok (.putfield 25, 3) := by decide +kernel
theorem dX6_init_46 : decode cX6_init 46 = .ok (.aload_n 0, 1) := by decide +kernel
theorem dX6_init_47 : decode cX6_init 47 = .ok (.bipush 61, 2) := by decide +kernel
theorem dX6_init_49 : decode cX6_init 49 = .ok (.newarray .int, 2) := by decide +kernel
theorem dX6_init_51 : decode cX6_init 51 = .ok (.putfield 29, 3) := by decide +kernel
theorem dX6_init_54 : decode cX6_init 54 = .ok (.aload_n 0, 1) := by decide +kernel
theorem dX6_init_55 : decode cX6_init 55 = .ok (.ldc 32, 2) := by decide +kernel
theorem dX6_init_57 : decode cX6_init 57 = .ok (.newarray .int, 2) := by decide +kernel
theorem dX6_init_59 : decode cX6_init 59 = .ok (.putfield 33, 3) := by decide +kernel
theorem dX6_init_62 : decode cX6_init 62 = .ok (.aload_n 0, 1) := by decide +kernel
theorem dX6_init_63 : decode cX6_init 63 = .ok (.sipush 7500, 3) := by decide +kernel
theorem dX6_init_66 : decode cX6_init 66 = .ok (.newarray .int, 2) := by decide +kernel
theorem dX6_init_68 : decode cX6_init 68 = .ok (.putfield 36, 3) := by decide +kernel
theorem dX6_init_71 : decode cX6_init 71 = .ok (.aload_n 0, 1) := by decide +kernel
theorem dX6_init_72 : decode cX6_init 72 = .ok (.sipush 7500, 3) := by decide +kernel
theorem dX6_init_75 : decode cX6_init 75 = .ok (.newarray .int, 2) := by decide +kernel
theorem dX6_init_77 : decode cX6_init 77 = .ok (.putfield 39, 3) := by decide +kernel
theorem dX6_init_80 : decode cX6_init 80 = .ok (.aload_n 0, 1) := by decide +kernel
theorem dX6_init_81 : decode cX6_init 81 = .ok (.bipush 60, 2) := by decide +kernel
theorem dX6_init_83 : decode cX6_init 83 = .ok (.newarray .int, 2) := by decide +kernel
theorem dX6_init_85 : decode cX6_init 85 = .ok (.putfield 42, 3) := by decide +kernel
theorem dX6_init_88 : decode cX6_init 88 = .ok (.aload_n 0, 1) := by decide +kernel
theorem dX6_init_89 : decode cX6_init 89 = .ok (.sipush 5005, 3) := by decide +kernel
theorem dX6_init_92 : decode cX6_init 92 = .ok (.newarray .int, 2) := by decide +kernel
theorem dX6_init_94 : decode cX6_init 94 = .ok (.putfield 45, 3) := by decide +kernel
theorem dX6_init_97 : decode cX6_init 97 = .ok (.aload_n 0, 1) := by decide +kernel
theorem dX6_init_98 : decode cX6_init 98 = .ok (.sipush 1001, 3) := by decide +kernel
theorem dX6_init_101 : decode cX6_init 101 = .ok (.newarray .int, 2) := by decide +kernel
theorem dX6_init_103 : decode cX6_init 103 = .ok (.putfield 48, 3) := by decide +kernel
theorem dX6_init_106 : decode cX6_init 106 = .ok (.aload_n 0, 1) := by decide +kernel
theorem dX6_init_107 : decode cX6_init 107 = .ok (.sipush 1001, 3) := by decide +kernel
theorem dX6_init_110 : decode cX6_init 110 = .ok (.newarray .int, 2) := by decide +kernel
theorem dX6_init_112 : decode cX6_init 112 = .ok (.putfield 51, 3) := by decide +kernel
theorem dX6_init_115 : decode cX6_init 115 = .ok (.aload_n 0, 1) := by decide +kernel
theorem dX6_init_116 : decode cX6_init 116 = .ok (.iconst 5, 1) := by decide +kernel
theorem dX6_init_117 : decode cX6_init 117 = .ok (.newarray .int, 2) := by decide +kernel
theorem dX6_init_119 : decode cX6_init 119 = .ok (.putfield 54, 3) := by decide +kernel
theorem dX6_init_122 : decode cX6_init 122 = .ok (.aload_n 0, 1) := by decide +kernel
theorem dX6_init_123 : decode cX6_init 123 = .ok (.iconst 5, 1) := by decide +kernel
theorem dX6_init_124 : decode cX6_init 124 = .ok (.newarray .int, 2) := by decide +kernel
theorem dX6_init_126 : decode cX6_init 126 = .ok (.putfield 57, 3) := by decide +kernel
theorem dX6_init_129 : decode cX6_init 129 = .ok (.return_, 1) := by decide +kernel
theorem dX6_isPlace_0 : decode cX6_isPlace 0 = .ok (.iload_n 1, 1) := by decide +kernel
theorem dX6_isPlace_1 : decode cX6_isPlace 1 = .ok (.ifCond .lt 15, 3) := by decide +kernel
theorem dX6_isPlace_4 : decode cX6_isPlace 4 = .ok (.iload_n 1, 1) := by decide +kernel
theorem dX6_isPlace_5 : decode cX6_isPlace 5 = .ok (.aload_n 0, 1) := by decide +kernel
theorem dX6_isPlace_6 : decode cX6_isPlace 6 = .ok (.getfield 60, 3) := by decide +kernel
theorem dX6_isPlace_9 : decode cX6_isPlace 9 = .ok (.if_icmp .ge 7, 3) := by decide +kernel
theorem dX6_isPlace_12 : decode cX6_isPlace 12 = .ok (.iconst 1, 1) := by decide +kernel
theorem dX6_isPlace_13 : decode cX6_isPlace 13 = .ok (.goto 4, 3) := by decide +kernel
theorem dX6_isPlace_16 : decode cX6_isPlace 16 = .ok (.iconst 0, 1) := by decide +kernel
theorem dX6_isPlace_17 : decode cX6_isPlace 17 = .ok (.ireturn, 1) := by decide +kernel
theorem dX6_isTransition_0 : decode cX6_isTransition 0 = .ok (.iload_n 1, 1) := by decide +kernel
theorem dX6_isTransition_1 : decode cX6_isTransition 1 = .ok (.ifCond .lt 15, 3) := by decide +kernel
theorem dX6_isTransition_4 : decode cX6_isTransition 4 = .ok (.iload_n 1, 1) := by decide +kernel
theorem dX6_isTransition_5 : decode cX6_isTransition 5 = .ok (.aload_n 0, 1) := by decide +kernel
theorem dX6_isTransition_6 : decode cX6_isTransition 6 = .ok (.getfield 63, 3) := by decide +kernel
theorem dX6_isTransition_9 : decode cX6_isTransition 9 = .ok (.if_icmp .ge 7, 3) := by decide +kernel
theorem dX6_isTransition_12 : decode cX6_isTransition 12 = .ok (.iconst 1, 1) := by decide +kernel
theorem dX6_isTransition_13 : decode cX6_isTransition 13 = .ok (.goto 4, 3) := by decide +kernel
theorem dX6_isTransition_16 : decode cX6_isTransition 16 = .ok (.iconst 0, 1) := by decide +kernel
theorem dX6_isTransition_17 : decode cX6_isTransition 17 = .ok (.ireturn, 1) := by decide +kernel
theorem dX6_isIn_0 : decode cX6_isIn 0 = .ok (.iload_n 0, 1) := by decide +kernel
theorem dX6_isIn_1 : decode cX6_isIn 1 = .ok (.ifCond .lt 12, 3) := by decide +kernel
theorem dX6_isIn_4 : decode cX6_isIn 4 = .ok (.iload_n 0, 1) := by decide +kernel
theorem dX6_isIn_5 : decode cX6_isIn 5 = .ok (.iload_n 1, 1) := by decide +kernel
theorem dX6_isIn_6 : decode cX6_isIn 6 = .ok (.if_icmp .gt 7, 3) := by decide +kernel
theorem dX6_isIn_9 : decode cX6_isIn 9 = .ok (.iconst 1, 1) := by decide +kernel
theorem dX6_isIn_10 : decode cX6_isIn 10 = .ok (.goto 4, 3) := by decide +kernel
theorem dX6_isIn_13 : decode cX6_isIn 13 = .ok (.iconst 0, 1) := by decide +kernel
theorem dX6_isIn_14 : decode cX6_isIn 14 = .ok (.ireturn, 1) := by decide +kernel
theorem dX6_begin_0 : decode cX6_begin 0 = .ok (.iconst 0, 1) := by decide +kernel
theorem dX6_begin_1 : decode cX6_begin 1 = .ok (.istore_n 1, 1) := by decide +kernel
theorem dX6_begin_2 : decode cX6_begin 2 = .ok (.iload_n 1, 1) := by decide +kernel
theorem dX6_begin_3 : decode cX6_begin 3 = .ok (.iconst 5, 1) := by decide +kernel
theorem dX6_begin_4 : decode cX6_begin 4 = .ok (.if_icmp .ge 21, 3) := by decide +kernel
theorem dX6_begin_7 : decode cX6_begin 7 = .ok (.aload_n 0, 1) := by decide +kernel
theorem dX6_begin_8 : decode cX6_begin 8 = .ok (.getfield 22, 3) := by decide +kernel
theorem dX6_begin_11 : decode cX6_begin 11 = .ok (.iload_n 1, 1) := by decide +kernel
theorem dX6_begin_12 : decode cX6_begin 12 = .ok (.aload_n 0, 1) := by decide +kernel
theorem dX6_begin_13 : decode cX6_begin 13 = .ok (.getfield 7, 3) := by decide +kernel
theorem dX6_begin_16 : decode cX6_begin 16 = .ok (.iload_n 1, 1) := by decide +kernel
theorem dX6_begin_17 : decode cX6_begin 17 = .ok (.iaload, 1) := by decide +kernel
theorem dX6_begin_18 : decode cX6_begin 18 = .ok (.iastore, 1) := by decide +kernel
theorem dX6_begin_19 : decode cX6_begin 19 = .ok (.iinc 1 1, 3) := by decide +kernel
theorem dX6_begin_22 : decode cX6_begin 22 = .ok (.goto (-20), 3) := by decide +kernel
theorem dX6_begin_25 : decode cX6_begin 25 = .ok (.return_, 1) := by decide +kernel
set_option maxRecDepth 20000 in
theorem ggX6_place_X6_isIn : GoodIn wsX6_place wsX6_isIn := goodIn_r _ [6] (by decide +kernel) (by decide +kernel)
set_option maxRecDepth 20000 in
theorem gX6_place_X6_isIn : GoodIn wsX6_place (va_wsS RX6 66 yX6_isIn wsX6_isIn) := goodIn_app (goodIn_of _ (by decide +kernel)) ggX6_place_X6_isIn
set_option maxRecDepth 20000 in
theorem ggX6_place_X6_begin : GoodIn wsX6_place wsX6_begin := goodIn_r _ [10, 11, 2, 12, 13, 14, 15, 16, 17, 18, 19, 20, 21, 22, 23, 24, 25, 26, 27, 28, 29, 30, 31, 32, 33, 34, 35, 36, 37, 38] (by decide +kernel) (by decide +kernel)
set_option maxRecDepth 20000 in
theorem gX6_place_X6_begin : GoodIn wsX6_place (wsV RX6 70 RX6 yX6_begin wsX6_begin) := goodIn_app (goodIn_of _ (by decide +kernel)) ggX6_place_X6_begin
theorem dX6_place_0 : decode cX6_place 0 = .ok (.aload_n 0, 1) := by decide +kernel
theorem dX6_place_1 : decode cX6_place 1 = .ok (.getfield 60, 3) := by decide +kernel
theorem dX6_place_4 : decode cX6_place 4 = .ok (.iconst 5, 1) := by decide +kernel
theorem dX6_place_5 : decode cX6_place 5 = .ok (.if_icmp .eq 12, 3) := by decide +kernel
theorem dX6_place_8 : decode cX6_place 8 = .ok (.iload_n 1, 1) := by decide +kernel
theorem dX6_place_9 : decode cX6_place 9 = .ok (.bipush 20, 2) := by decide +kernel
theorem dX6_place_11 : decode cX6_place 11 = .ok (.invokestatic 66, 3) := by decide +kernel
theorem dX6_place_14 : decode cX6_place 14 = .ok (.ifCond .ne 5, 3) := by decide +kernel
theorem dX6_place_17 : decode cX6_place 17 = .ok (.iconst (-1), 1) := by decide +kernel
theorem dX6_place_18 : decode cX6_place 18 = .ok (.ireturn, 1) := by decide +kernel
theorem dX6_place_19 : decode cX6_place 19 = .ok (.aload_n 0, 1) := by decide +kernel
theorem dX6_place_20 : decode cX6_place 20 = .ok (.getfield 7, 3) := by decide +kernel
theorem dX6_place_23 : decode cX6_place 23 = .ok (.aload_n 0, 1) := by decide +kernel
theorem dX6_place_24 : decode cX6_place 24 = .ok (.getfield 60, 3) := by decide +kernel
theorem dX6_place_27 : decode cX6_place 27 = .ok (.iload_n 1, 1) := by decide +kernel
theorem dX6_place_28 : decode cX6_place 28 = .ok (.iastore, 1) := by decide +kernel
theorem dX6_place_29 : decode cX6_place 29 = .ok (.aload_n 0, 1) := by decide +kernel
theorem dX6_place_30 : decode cX6_place 30 = .ok (.dup, 1) := by decide +kernel
theorem dX6_place_31 : decode cX6_place 31 = .ok (.getfield 60, 3) := by decide +kernel
theorem dX6_place_34 : decode cX6_place 34 = .ok (.iconst 1, 1) := by decide +kernel
theorem dX6_place_35 : decode cX6_place 35 = .ok (.iadd, 1) := by decide +kernel
theorem dX6_place_36 : decode cX6_place 36 = .ok (.putfield 60, 3) := by decide +kernel
theorem dX6_place_39 : decode cX6_place 39 = .ok (.aload_n 0, 1) := by decide +kernel
theorem dX6_place_40 : decode cX6_place 40 = .ok (.invokevirtual 70, 3) := by decide +kernel
theorem dX6_place_43 : decode cX6_place 43 = .ok (.aload_n 0, 1) := by decide +kernel
theorem dX6_place_44 : decode cX6_place 44 = .ok (.getfield 60, 3) := by decide +kernel
theorem dX6_place_47 : decode cX6_place 47 = .ok (.iconst 1, 1) := by decide +kernel
theorem dX6_place_48 : decode cX6_place 48 = .ok (.isub, 1) := by decide +kernel
theorem dX6_place_49 : decode cX6_place 49 = .ok (.ireturn, 1) := by decide +kernel
set_option maxRecDepth 20000 in
theorem ggX6_transition_X6_begin : GoodIn wsX6_transition wsX6_begin := goodIn_r _ [6, 7, 8, 9, 10, 11, 12, 13, 14, 15, 16, 17, 18, 19, 20, 21, 22, 23, 24, 25, 26, 27, 28, 29, 30, 31, 32, 33, 34, 35] (by decide +kernel) (by decide +kernel)
set_option maxRecDepth 20000 in
theorem gX6_transition_X6_begin : GoodIn wsX6_transition (wsV RX6 70 RX6 yX6_begin wsX6_begin) := goodIn_app (goodIn_of _ (by decide +kernel)) ggX6_transition_X6_begin
theorem dX6_transition_0 : decode cX6_transition 0 = .ok (.aload_n 0, 1) := by decide +kernel
theorem dX6_transition_1 : decode cX6_transition 1 = .ok (.getfield 63, 3) := by decide +kernel
theorem dX6_transition_4 : decode cX6_transition 4 = .ok (.bipush 6, 2) := by decide +kernel
theorem dX6_transition_6 : decode cX6_transition 6 = .ok (.if_icmp .ne 5, 3) := by decide +kernel
theorem dX6_transition_9 : decode cX6_transition 9 = .ok (.iconst (-1), 1) := by decide +kernel
theorem dX6_transition_10 : decode cX6_transition 10 = .ok (.ireturn, 1) := by decide +kernel
theorem dX6_transition_11 : decode cX6_transition 11 = .ok (.aload_n 0, 1) := by decide +kernel
theorem dX6_transition_12 : decode cX6_transition 12 = .ok (.dup, 1) := by decide +kernel
theorem dX6_transition_13 : decode cX6_transition 13 = .ok (.getfield 63, 3) := by decide +kernel
theorem dX6_transition_16 : decode cX6_transition 16 = .ok (.iconst 1, 1) := by decide +kernel
theorem dX6_transition_17 : decode cX6_transition 17 = .ok (.iadd, 1) := by decide +kernel
theorem dX6_transition_18 : decode cX6_transition 18 = .ok (.putfield 63, 3) := by decide +kernel
theorem dX6_transition_21 : decode cX6_transition 21 = .ok (.aload_n 0, 1) := by decide +kernel
theorem dX6_transition_22 : decode cX6_transition 22 = .ok (.invokevirtual 70, 3) := by decide +kernel
theorem dX6_transition_25 : decode cX6_transition 25 = .ok (.aload_n 0, 1) := by decide +kernel
theorem dX6_transition_26 : decode cX6_transition 26 = .ok (.getfield 63, 3) := by decide +kernel
theorem dX6_transition_29 : decode cX6_transition 29 = .ok (.iconst 1, 1) := by decide +kernel
theorem dX6_transition_30 : decode cX6_transition 30 = .ok (.isub, 1) := by decide +kernel
theorem dX6_transition_31 : decode cX6_transition 31 = .ok (.ireturn, 1) := by decide +kernel
set_option maxRecDepth 20000 in
theorem ggX6_arc_X6_isTransition : GoodIn wsX6_arc wsX6_isTransition := goodIn_r _ [7, 8, 23, 24, 25, 26, 27, 28, 29, 30, 31, 32, 33, 34, 35, 36, 37, 38, 39, 40, 41, 42, 43, 44, 45, 46, 47, 48, 49] (by decide +kernel) (by decide +kernel)
set_option maxRecDepth 20000 in
theorem gX6_arc_X6_isTransition : GoodIn wsX6_arc (wsV RX6 73 RX6 yX6_isTransition wsX6_isTransition) := goodIn_app (goodIn_of _ (by decide +kernel)) ggX6_arc_X6_isTransition
set_option maxRecDepth 20000 in
theorem ggX6_arc_X6_isPlace : GoodIn wsX6_arc wsX6_isPlace := goodIn_r _ [12, 13, 23, 24, 25, 26, 27, 28, 29, 30, 31, 32, 33, 34, 35, 36, 37, 38, 39, 40, 41, 42, 43, 44, 45, 46, 47, 48, 49] (by decide +kernel) (by decide +kernel)
set_option maxRecDepth 20000 in
theorem gX6_arc_X6_isPlace : GoodIn wsX6_arc (wsV RX6 77 RX6 yX6_isPlace wsX6_isPlace) := goodIn_app (goodIn_of _ (by decide +kernel)) ggX6_arc_X6_isPlace
set_option maxRecDepth 20000 in
theorem ggX6_arc_X6_isIn : GoodIn wsX6_arc wsX6_isIn := goodIn_r _ [16] (by decide +kernel) (by decide +kernel)
set_option maxRecDepth 20000 in
theorem gX6_arc_X6_isIn : GoodIn wsX6_arc (va_wsS RX6 66 yX6_isIn wsX6_isIn) := goodIn_app (goodIn_of _ (by decide +kernel)) ggX6_arc_X6_isIn
set_option maxRecDepth 20000 in
theorem ggX6_arc_X6_begin : GoodIn wsX6_arc wsX6_begin := goodIn_r _ [20, 21, 22, 23, 24, 25, 26, 27, 28, 29, 30, 31, 32, 33, 34, 35, 36, 37, 38, 39, 40, 41, 42, 43, 44, 45, 46, 47, 48, 49] (by decide +kernel) (by decide +kernel)
set_option maxRecDepth 20000 in
theorem gX6_arc_X6_begin : GoodIn wsX6_arc (wsV RX6 70 RX6 yX6_begin wsX6_begin) := goodIn_app (goodIn_of _ (by decide +kernel)) ggX6_arc_X6_begin
theorem dX6_arc_0 : decode cX6_arc 0 = .ok (.aload_n 0, 1) := by decide +kernel
theorem dX6_arc_1 : decode cX6_arc 1 = .ok (.iload_n 1, 1) := by decide +kernel
theorem dX6_arc_2 : decode cX6_arc 2 = .ok (.invokevirtual 73, 3) := by decide +kernel
theorem dX6_arc_5 : decode cX6_arc 5 = .ok (.ifCond .eq 28, 3) := by decide +kernel
theorem dX6_arc_8 : decode cX6_arc 8 = .ok (.aload_n 0, 1) := by decide +kernel
theorem dX6_arc_9 : decode cX6_arc 9 = .ok (.iload_n 2, 1) := by decide +kernel
theorem dX6_arc_10 : decode cX6_arc 10 = .ok (.invokevirtual 77, 3) := by decide +kernel
theorem dX6_arc_13 : decode cX6_arc 13 = .ok (.ifCond .eq 20, 3) := by decide +kernel
theorem dX6_arc_16 : decode cX6_arc 16 = .ok (.iload_n 3, 1) := by decide +kernel
theorem dX6_arc_17 : decode cX6_arc 17 = .ok (.iconst 5, 1) := by decide +kernel
theorem dX6_arc_18 : decode cX6_arc 18 = .ok (.invokestatic 66, 3) := by decide +kernel
theorem dX6_arc_21 : decode cX6_arc 21 = .ok (.ifCond .eq 12, 3) := by decide +kernel
theorem dX6_arc_24 : decode cX6_arc 24 = .ok (.iload 4, 2) := by decide +kernel
theorem dX6_arc_26 : decode cX6_arc 26 = .ok (.iconst 5, 1) := by decide +kernel
theorem dX6_arc_27 : decode cX6_arc 27 = .ok (.invokestatic 66, 3) := by decide +kernel
theorem dX6_arc_30 : decode cX6_arc 30 = .ok (.ifCond .ne 5, 3) := by decide +kernel
theorem dX6_arc_33 : decode cX6_arc 33 = .ok (.iconst 0, 1) := by decide +kernel
theorem dX6_arc_34 : decode cX6_arc 34 = .ok (.ireturn, 1) := by decide +kernel
theorem dX6_arc_35 : decode cX6_arc 35 = .ok (.aload_n 0, 1) := by decide +kernel
theorem dX6_arc_36 : decode cX6_arc 36 = .ok (.getfield 16, 3) := by decide +kernel
theorem dX6_arc_39 : decode cX6_arc 39 = .ok (.iconst 5, 1) := by decide +kernel
theorem dX6_arc_40 : decode cX6_arc 40 = .ok (.iload_n 1, 1) := by decide +kernel
theorem dX6_arc_41 : decode cX6_arc 41 = .ok (.imul, 1) := by decide +kernel
theorem dX6_arc_42 : decode cX6_arc 42 = .ok (.iload_n 2, 1) := by decide +kernel
theorem dX6_arc_43 : decode cX6_arc 43 = .ok (.iadd, 1) := by decide +kernel
theorem dX6_arc_44 : decode cX6_arc 44 = .ok (.iload_n 3, 1) := by decide +kernel
theorem dX6_arc_45 : decode cX6_arc 45 = .ok (.iastore, 1) := by decide +kernel
theorem dX6_arc_46 : decode cX6_arc 46 = .ok (.aload_n 0, 1) := by decide +kernel
theorem dX6_arc_47 : decode cX6_arc 47 = .ok (.getfield 19, 3) := by decide +kernel
theorem dX6_arc_50 : decode cX6_arc 50 = .ok (.iconst 5, 1) := by decide +kernel
theorem dX6_arc_51 : decode cX6_arc 51 = .ok (.iload_n 1, 1) := by decide +kernel
theorem dX6_arc_52 : decode cX6_arc 52 = .ok (.imul, 1) := by decide +kernel
theorem dX6_arc_53 : decode cX6_arc 53 = .ok (.iload_n 2, 1) := by decide +kernel
theorem dX6_arc_54 : decode cX6_arc 54 = .ok (.iadd, 1) := by decide +kernel
theorem dX6_arc_55 : decode cX6_arc 55 = .ok (.iload 4, 2) := by decide +kernel
theorem dX6_arc_57 : decode cX6_arc 57 = .ok (.iastore, 1) := by decide +kernel
theorem dX6_arc_58 : decode cX6_arc 58 = .ok (.aload_n 0, 1) := by decide +kernel
theorem dX6_arc_59 : decode cX6_arc 59 = .ok (.invokevirtual 70, 3) := by decide +kernel
theorem dX6_arc_62 : decode cX6_arc 62 = .ok (.iconst 1, 1) := by decide +kernel
theorem dX6_arc_63 : decode cX6_arc 63 = .ok (.ireturn, 1) := by decide +kernel
set_option maxRecDepth 20000 in
theorem ggX6_target_X6_isPlace : GoodIn wsX6_target wsX6_isPlace := goodIn_r _ [6, 7, 11, 12, 13, 14, 15, 16, 17, 18, 19, 20, 21, 22, 23, 24, 25, 26, 27, 28, 29, 30, 31, 32, 33, 34, 35, 36, 37] (by decide +kernel) (by decide +kernel)
set_option maxRecDepth 20000 in
theorem gX6_target_X6_isPlace : GoodIn wsX6_target (wsV RX6 77 RX6 yX6_isPlace wsX6_isPlace) := goodIn_app (goodIn_of _ (by decide +kernel)) ggX6_target_X6_isPlace
set_option maxRecDepth 20000 in
theorem ggX6_target_X6_isIn : GoodIn wsX6_target wsX6_isIn := goodIn_r _ [10] (by decide +kernel) (by decide +kernel)
set_option maxRecDepth 20000 in
theorem gX6_target_X6_isIn : GoodIn wsX6_target (va_wsS RX6 66 yX6_isIn wsX6_isIn) := goodIn_app (goodIn_of _ (by decide +kernel)) ggX6_target_X6_isIn
theorem dX6_target_0 : decode cX6_target 0 = .ok (.aload_n 0, 1) := by decide +kernel
theorem dX6_target_1 : decode cX6_target 1 = .ok (.iload_n 1, 1) := by decide +kernel
theorem dX6_target_2 : decode cX6_target 2 = .ok (.invokevirtual 77, 3) := by decide +kernel
theorem dX6_target_5 : decode cX6_target 5 = .ok (.ifCond .eq 12, 3) := by decide +kernel
theorem dX6_target_8 : decode cX6_target 8 = .ok (.iload_n 2, 1) := by decide +kernel
theorem dX6_target_9 : decode cX6_target 9 = .ok (.bipush 20, 2) := by decide +kernel
theorem dX6_target_11 : decode cX6_target 11 = .ok (.invokestatic 66, 3) := by decide +kernel
theorem dX6_target_14 : decode cX6_target 14 = .ok (.ifCond .ne 5, 3) := by decide +kernel
theorem dX6_target_17 : decode cX6_target 17 = .ok (.iconst 0, 1) := by decide +kernel
theorem dX6_target_18 : decode cX6_target 18 = .ok (.ireturn, 1) := by decide +kernel
theorem dX6_target_19 : decode cX6_target 19 = .ok (.aload_n 0, 1) := by decide +kernel
theorem dX6_target_20 : decode cX6_target 20 = .ok (.getfield 13, 3) := by decide +kernel
theorem dX6_target_23 : decode cX6_target 23 = .ok (.iload_n 1, 1) := by decide +kernel
theorem dX6_target_24 : decode cX6_target 24 = .ok (.iload_n 2, 1) := by decide +kernel
theorem dX6_target_25 : decode cX6_target 25 = .ok (.iastore, 1) := by decide +kernel
theorem dX6_target_26 : decode cX6_target 26 = .ok (.iconst 1, 1) := by decide +kernel
theorem dX6_target_27 : decode cX6_target 27 = .ok (.ireturn, 1) := by decide +kernel
theorem dX6_tops_0 : decode cX6_tops 0 = .ok (.iconst 1, 1) := by decide +kernel
theorem dX6_tops_1 : decode cX6_tops 1 = .ok (.istore 4, 2) := by decide +kernel
theorem dX6_tops_3 : decode cX6_tops 3 = .ok (.iconst 0, 1) := by decide +kernel
theorem dX6_tops_4 : decode cX6_tops 4 = .ok (.istore 5, 2) := by decide +kernel
theorem dX6_tops_6 : decode cX6_tops 6 = .ok (.iload 5, 2) := by decide +kernel
theorem dX6_tops_8 : decode cX6_tops 8 = .ok (.iconst 5, 1) := by decide +kernel
theorem dX6_tops_9 : decode cX6_tops 9 = .ok (.if_icmp .ge 36, 3) := by decide +kernel
theorem dX6_tops_12 : decode cX6_tops 12 = .ok (.iload 4, 2) := by decide +kernel
theorem dX6_tops_14 : decode cX6_tops 14 = .ok (.ifCond .eq 22, 3) := by decide +kernel
theorem dX6_tops_17 : decode cX6_tops 17 = .ok (.aload_n 0, 1) := by decide +kernel
theorem dX6_tops_18 : decode cX6_tops 18 = .ok (.iload_n 1, 1) := by decide +kernel
theorem dX6_tops_19 : decode cX6_tops 19 = .ok (.iload 5, 2) := by decide +kernel
theorem dX6_tops_21 : decode cX6_tops 21 = .ok (.iadd, 1) := by decide +kernel
theorem dX6_tops_22 : decode cX6_tops 22 = .ok (.iaload, 1) := by decide +kernel
theorem dX6_tops_23 : decode cX6_tops 23 = .ok (.aload_n 2, 1) := by decide +kernel
theorem dX6_tops_24 : decode cX6_tops 24 = .ok (.iload_n 3, 1) := by decide +kernel
theorem dX6_tops_25 : decode cX6_tops 25 = .ok (.iload 5, 2) := by decide +kernel
theorem dX6_tops_27 : decode cX6_tops 27 = .ok (.iadd, 1) := by decide +kernel
theorem dX6_tops_28 : decode cX6_tops 28 = .ok (.iaload, 1) := by decide +kernel
theorem dX6_tops_29 : decode cX6_tops 29 = .ok (.if_icmp .lt 7, 3) := by decide +kernel
theorem dX6_tops_32 : decode cX6_tops 32 = .ok (.iconst 1, 1) := by decide +kernel
theorem dX6_tops_33 : decode cX6_tops 33 = .ok (.goto 4, 3) := by decide +kernel
theorem dX6_tops_36 : decode cX6_tops 36 = .ok (.iconst 0, 1) := by decide +kernel
theorem dX6_tops_37 : decode cX6_tops 37 = .ok (.istore 4, 2) := by decide +kernel
theorem dX6_tops_39 : decode cX6_tops 39 = .ok (.iinc 5 1, 3) := by decide +kernel
theorem dX6_tops_42 : decode cX6_tops 42 = .ok (.goto (-36), 3) := by decide +kernel
theorem dX6_tops_45 : decode cX6_tops 45 = .ok (.iload 4, 2) := by decide +kernel
theorem dX6_tops_47 : decode cX6_tops 47 = .ok (.ireturn, 1) := by decide +kernel
set_option maxRecDepth 20000 in
theorem ggX6_takeIn_X6_tops : GoodIn wsX6_takeIn wsX6_tops := goodIn_r _ [7] (by decide +kernel) (by decide +kernel)
set_option maxRecDepth 20000 in
theorem gX6_takeIn_X6_tops : GoodIn wsX6_takeIn (va_wsS RX6 83 yX6_tops wsX6_tops) := goodIn_app (goodIn_of _ (by decide +kernel)) ggX6_takeIn_X6_tops
theorem dX6_takeIn_0 : decode cX6_takeIn 0 = .ok (.iconst 0, 1) := by decide +kernel
theorem dX6_takeIn_1 : decode cX6_takeIn 1 = .ok (.istore_n 1, 1) := by decide +kernel
theorem dX6_takeIn_2 : decode cX6_takeIn 2 = .ok (.iload_n 1, 1) := by decide +kernel
theorem dX6_takeIn_3 : decode cX6_takeIn 3 = .ok (.aload_n 0, 1) := by decide +kernel
theorem dX6_takeIn_4 : decode cX6_takeIn 4 = .ok (.getfield 80, 3) := by decide +kernel
theorem dX6_takeIn_7 : decode cX6_takeIn 7 = .ok (.if_icmp .ge 28, 3) := by decide +kernel
theorem dX6_takeIn_10 : decode cX6_takeIn 10 = .ok (.aload_n 0, 1) := by decide +kernel
theorem dX6_takeIn_11 : decode cX6_takeIn 11 = .ok (.getfield 54, 3) := by decide +kernel
theorem dX6_takeIn_14 : decode cX6_takeIn 14 = .ok (.iconst 0, 1) := by decide +kernel
theorem dX6_takeIn_15 : decode cX6_takeIn 15 = .ok (.aload_n 0, 1) := by decide +kernel
theorem dX6_takeIn_16 : decode cX6_takeIn 16 = .ok (.getfield 36, 3) := by decide +kernel
theorem dX6_takeIn_19 : decode cX6_takeIn 19 = .ok (.iconst 5, 1) := by decide +kernel
theorem dX6_takeIn_20 : decode cX6_takeIn 20 = .ok (.iload_n 1, 1) := by decide +kernel
theorem dX6_takeIn_21 : decode cX6_takeIn 21 = .ok (.imul, 1) := by decide +kernel
theorem dX6_takeIn_22 : decode cX6_takeIn 22 = .ok (.invokestatic 83, 3) := by decide +kernel
theorem dX6_takeIn_25 : decode cX6_takeIn 25 = .ok (.ifCond .eq 4, 3) := by decide +kernel
theorem dX6_takeIn_28 : decode cX6_takeIn 28 = .ok (.return_, 1) := by decide +kernel
theorem dX6_takeIn_29 : decode cX6_takeIn 29 = .ok (.iinc 1 1, 3) := by decide +kernel
theorem dX6_takeIn_32 : decode cX6_takeIn 32 = .ok (.goto (-30), 3) := by decide +kernel
theorem dX6_takeIn_35 : decode cX6_takeIn 35 = .ok (.iconst 0, 1) := by decide +kernel
theorem dX6_takeIn_36 : decode cX6_takeIn 36 = .ok (.istore_n 1, 1) := by decide +kernel
theorem dX6_takeIn_37 : decode cX6_takeIn 37 = .ok (.iconst 0, 1) := by decide +kernel
theorem dX6_takeIn_38 : decode cX6_takeIn 38 = .ok (.istore_n 2, 1) := by decide +kernel
theorem dX6_takeIn_39 : decode cX6_takeIn 39 = .ok (.iload_n 2, 1) := by decide +kernel
theorem dX6_takeIn_40 : decode cX6_takeIn 40 = .ok (.aload_n 0, 1) := by decide +kernel
theorem dX6_takeIn_41 : decode cX6_takeIn 41 = .ok (.getfield 80, 3) := by decide +kernel
theorem dX6_takeIn_44 : decode cX6_takeIn 44 = .ok (.if_icmp .ge 63, 3) := by decide +kernel
theorem dX6_takeIn_47 : decode cX6_takeIn 47 = .ok (.aload_n 0, 1) := by decide +kernel
theorem dX6_takeIn_48 : decode cX6_takeIn 48 = .ok (.getfield 36, 3) := by decide +kernel
theorem dX6_takeIn_51 : decode cX6_takeIn 51 = .ok (.iconst 5, 1) := by decide +kernel
theorem dX6_takeIn_52 : decode cX6_takeIn 52 = .ok (.iload_n 2, 1) := by decide +kernel
theorem dX6_takeIn_53 : decode cX6_takeIn 53 = .ok (.imul, 1) := by decide +kernel
theorem dX6_takeIn_54 : decode cX6_takeIn 54 = .ok (.aload_n 0, 1) := by decide +kernel
theorem dX6_takeIn_55 : decode cX6_takeIn 55 = .ok (.getfield 54, 3) := by decide +kernel
theorem dX6_takeIn_58 : decode cX6_takeIn 58 = .ok (.iconst 0, 1) := by decide +kernel
theorem dX6_takeIn_59 : decode cX6_takeIn 59 = .ok (.invokestatic 83, 3) := by decide +kernel
theorem dX6_takeIn_62 : decode cX6_takeIn 62 = .ok (.ifCond .ne 39, 3) := by decide +kernel
theorem dX6_takeIn_65 : decode cX6_takeIn 65 = .ok (.iconst 0, 1) := by decide +kernel
theorem dX6_takeIn_66 : decode cX6_takeIn 66 = .ok (.istore_n 3, 1) := by decide +kernel
theorem dX6_takeIn_67 : decode cX6_takeIn 67 = .ok (.iload_n 3, 1) := by decide +kernel
theorem dX6_takeIn_68 : decode cX6_takeIn 68 = .ok (.iconst 5, 1) := by decide +kernel
theorem dX6_takeIn_69 : decode cX6_takeIn 69 = .ok (.if_icmp .ge 29, 3) := by decide +kernel
theorem dX6_takeIn_72 : decode cX6_takeIn 72 = .ok (.aload_n 0, 1) := by decide +kernel
theorem dX6_takeIn_73 : decode cX6_takeIn 73 = .ok (.getfield 36, 3) := by decide +kernel
theorem dX6_takeIn_76 : decode cX6_takeIn 76 = .ok (.iconst 5, 1) := by decide +kernel
theorem dX6_takeIn_77 : decode cX6_takeIn 77 = .ok (.iload_n 1, 1) := by decide +kernel
theorem dX6_takeIn_78 : decode cX6_takeIn 78 = .ok (.imul, 1) := by decide +kernel
theorem dX6_takeIn_79 : decode cX6_takeIn 79 = .ok (.iload_n 3, 1) := by decide +kernel
theorem dX6_takeIn_80 : decode cX6_takeIn 80 = .ok (.iadd, 1) := by decide +kernel
theorem dX6_takeIn_81 : decode cX6_takeIn 81 = .ok (.aload_n 0, 1) := by decide +kernel
theorem dX6_takeIn_82 : decode cX6_takeIn 82 = .ok (.getfield 36, 3) := by decide +kernel
theorem dX6_takeIn_85 : decode cX6_takeIn 85 = .ok (.iconst 5, 1) := by decide +kernel
theorem dX6_takeIn_86 : decode cX6_takeIn 86 = .ok (.iload_n 2, 1) := by decide +kernel
theorem dX6_takeIn_87 : decode cX6_takeIn 87 = .ok (.imul, 1) := by decide +kernel
theorem dX6_takeIn_88 : decode cX6_takeIn 88 = .ok (.iload_n 3, 1) := by decide +kernel
theorem dX6_takeIn_89 : decode cX6_takeIn 89 = .ok (.iadd, 1) := by decide +kernel
theorem dX6_takeIn_90 : decode cX6_takeIn 90 = .ok (.iaload, 1) := by decide +kernel
theorem dX6_takeIn_91 : decode cX6_takeIn 91 = .ok (.iastore, 1) := by decide +kernel
theorem dX6_takeIn_92 : decode cX6_takeIn 92 = .ok (.iinc 3 1, 3) := by decide +kernel
theorem dX6_takeIn_95 : decode cX6_takeIn 95 = .ok (.goto (-28), 3) := by decide +kernel
theorem dX6_takeIn_98 : decode cX6_takeIn 98 = .ok (.iinc 1 1, 3) := by decide +kernel
theorem dX6_takeIn_101 : decode cX6_takeIn 101 = .ok (.iinc 2 1, 3) := by decide +kernel
theorem dX6_takeIn_104 : decode cX6_takeIn 104 = .ok (.goto (-65), 3) := by decide +kernel
theorem dX6_takeIn_107 : decode cX6_takeIn 107 = .ok (.iconst 0, 1) := by decide +kernel
theorem dX6_takeIn_108 : decode cX6_takeIn 108 = .ok (.istore_n 2, 1) := by decide +kernel
theorem dX6_takeIn_109 : decode cX6_takeIn 109 = .ok (.iload_n 2, 1) := by decide +kernel
theorem dX6_takeIn_110 : decode cX6_takeIn 110 = .ok (.iconst 5, 1) := by decide +kernel
theorem dX6_takeIn_111 : decode cX6_takeIn 111 = .ok (.if_icmp .ge 25, 3) := by decide +kernel
theorem dX6_takeIn_114 : decode cX6_takeIn 114 = .ok (.aload_n 0, 1) := by decide +kernel
theorem dX6_takeIn_115 : decode cX6_takeIn 115 = .ok (.getfield 36, 3) := by decide +kernel
theorem dX6_takeIn_118 : decode cX6_takeIn 118 = .ok (.iconst 5, 1) := by decide +kernel
theorem dX6_takeIn_119 : decode cX6_takeIn 119 = .ok (.iload_n 1, 1) := by decide +kernel
theorem dX6_takeIn_120 : decode cX6_takeIn 120 = .ok (.imul, 1) := by decide +kernel
theorem dX6_takeIn_121 : decode cX6_takeIn 121 = .ok (.iload_n 2, 1) := by decide +kernel
theorem dX6_takeIn_122 : decode cX6_takeIn 122 = .ok (.iadd, 1) := by decide +kernel
theorem dX6_takeIn_123 : decode cX6_takeIn 123 = .ok (.aload_n 0, 1) := by decide +kernel
theorem dX6_takeIn_124 : decode cX6_takeIn 124 = .ok (.getfield 54, 3) := by decide +kernel
theorem dX6_takeIn_127 : decode cX6_takeIn 127 = .ok (.iload_n 2, 1) := by decide +kernel
theorem dX6_takeIn_128 : decode cX6_takeIn 128 = .ok (.iaload, 1) := by decide +kernel
theorem dX6_takeIn_129 : decode cX6_takeIn 129 = .ok (.iastore, 1) := by decide +kernel
theorem dX6_takeIn_130 : decode cX6_takeIn 130 = .ok (.iinc 2 1, 3) := by decide +kernel
theorem dX6_takeIn_133 : decode cX6_takeIn 133 = .ok (.goto (-24), 3) := by decide +kernel
theorem dX6_takeIn_136 : decode cX6_takeIn 136 = .ok (.aload_n 0, 1) := by decide +kernel
theorem dX6_takeIn_137 : decode cX6_takeIn 137 = .ok (.iload_n 1, 1) := by decide +kernel
theorem dX6_takeIn_138 : decode cX6_takeIn 138 = .ok (.iconst 1, 1) := by decide +kernel
theorem dX6_takeIn_139 : decode cX6_takeIn 139 = .ok (.iadd, 1) := by decide +kernel
theorem dX6_takeIn_140 : decode cX6_takeIn 140 = .ok (.putfield 80, 3) := by decide +kernel
theorem dX6_takeIn_143 : decode cX6_takeIn 143 = .ok (.return_, 1) := by decide +kernel
set_option maxRecDepth 20000 in
theorem ggX6_isInRound_X6_tops : GoodIn wsX6_isInRound wsX6_tops := goodIn_r _ [6] (by decide +kernel) (by decide +kernel)
set_option maxRecDepth 20000 in
theorem gX6_isInRound_X6_tops : GoodIn wsX6_isInRound (va_wsS RX6 83 yX6_tops wsX6_tops) := goodIn_app (goodIn_of _ (by decide +kernel)) ggX6_isInRound_X6_tops
theorem dX6_isInRound_0 : decode cX6_isInRound 0 = .ok (.iconst 0, 1) := by decide +kernel
theorem dX6_isInRound_1 : decode cX6_isInRound 1 = .ok (.istore_n 3, 1) := by decide +kernel
theorem dX6_isInRound_2 : decode cX6_isInRound 2 = .ok (.iconst 0, 1) := by decide +kernel
theorem dX6_isInRound_3 : decode cX6_isInRound 3 = .ok (.istore 4, 2) := by decide +kernel
theorem dX6_isInRound_5 : decode cX6_isInRound 5 = .ok (.iload 4, 2) := by decide +kernel
theorem dX6_isInRound_7 : decode cX6_isInRound 7 = .ok (.aload_n 0, 1) := by decide +kernel
theorem dX6_isInRound_8 : decode cX6_isInRound 8 = .ok (.getfield 29, 3) := by decide +kernel
theorem dX6_isInRound_11 : decode cX6_isInRound 11 = .ok (.iload_n 2, 1) := by decide +kernel
theorem dX6_isInRound_12 : decode cX6_isInRound 12 = .ok (.iaload, 1) := by decide +kernel
theorem dX6_isInRound_13 : decode cX6_isInRound 13 = .ok (.if_icmp .ge 41, 3) := by decide +kernel
theorem dX6_isInRound_16 : decode cX6_isInRound 16 = .ok (.iload_n 3, 1) := by decide +kernel
theorem dX6_isInRound_17 : decode cX6_isInRound 17 = .ok (.ifCond .ne 25, 3) := by decide +kernel
theorem dX6_isInRound_20 : decode cX6_isInRound 20 = .ok (.aload_n 1, 1) := by decide +kernel
theorem dX6_isInRound_21 : decode cX6_isInRound 21 = .ok (.iconst 0, 1) := by decide +kernel
theorem dX6_isInRound_22 : decode cX6_isInRound 22 = .ok (.aload_n 0, 1) := by decide +kernel
theorem dX6_isInRound_23 : decode cX6_isInRound 23 = .ok (.getfield 33, 3) := by decide +kernel
theorem dX6_isInRound_26 : decode cX6_isInRound 26 = .ok (.sipush 1000, 3) := by decide +kernel
theorem dX6_isInRound_29 : decode cX6_isInRound 29 = .ok (.iload_n 2, 1) := by decide +kernel
theorem dX6_isInRound_30 : decode cX6_isInRound 30 = .ok (.imul, 1) := by decide +kernel
theorem dX6_isInRound_31 : decode cX6_isInRound 31 = .ok (.iconst 5, 1) := by decide +kernel
theorem dX6_isInRound_32 : decode cX6_isInRound 32 = .ok (.iload 4, 2) := by decide +kernel
theorem dX6_isInRound_34 : decode cX6_isInRound 34 = .ok (.imul, 1) := by decide +kernel
theorem dX6_isInRound_35 : decode cX6_isInRound 35 = .ok (.iadd, 1) := by decide +kernel
theorem dX6_isInRound_36 : decode cX6_isInRound 36 = .ok (.invokestatic 83, 3) := by decide +kernel
theorem dX6_isInRound_39 : decode cX6_isInRound 39 = .ok (.ifCond .eq 7, 3) := by decide +kernel
theorem dX6_isInRound_42 : decode cX6_isInRound 42 = .ok (.iconst 1, 1) := by decide +kernel
theorem dX6_isInRound_43 : decode cX6_isInRound 43 = .ok (.goto 4, 3) := by decide +kernel
theorem dX6_isInRound_46 : decode cX6_isInRound 46 = .ok (.iconst 0, 1) := by decide +kernel
theorem dX6_isInRound_47 : decode cX6_isInRound 47 = .ok (.istore_n 3, 1) := by decide +kernel
theorem dX6_isInRound_48 : decode cX6_isInRound 48 = .ok (.iinc 4 1, 3) := by decide +kernel
theorem dX6_isInRound_51 : decode cX6_isInRound 51 = .ok (.goto (-46), 3) := by decide +kernel
theorem dX6_isInRound_54 : decode cX6_isInRound 54 = .ok (.iload_n 3, 1) := by decide +kernel
theorem dX6_isInRound_55 : decode cX6_isInRound 55 = .ok (.ireturn, 1) := by decide +kernel
set_option maxRecDepth 20000 in
theorem ggX6_isFirstIn_X6_tops : GoodIn wsX6_isFirstIn wsX6_tops := goodIn_r _ [7] (by decide +kernel) (by decide +kernel)
set_option maxRecDepth 20000 in
theorem gX6_isFirstIn_X6_tops : GoodIn wsX6_isFirstIn (va_wsS RX6 83 yX6_tops wsX6_tops) := goodIn_app (goodIn_of _ (by decide +kernel)) ggX6_isFirstIn_X6_tops
theorem dX6_isFirstIn_0 : decode cX6_isFirstIn 0 = .ok (.iconst 0, 1) := by decide +kernel
theorem dX6_isFirstIn_1 : decode cX6_isFirstIn 1 = .ok (.istore_n 1, 1) := by decide +kernel
theorem dX6_isFirstIn_2 : decode cX6_isFirstIn 2 = .ok (.iconst 0, 1) := by decide +kernel
theorem dX6_isFirstIn_3 : decode cX6_isFirstIn 3 = .ok (.istore_n 2, 1) := by decide +kernel
theorem dX6_isFirstIn_4 : decode cX6_isFirstIn 4 = .ok (.iload_n 2, 1) := by decide +kernel
theorem dX6_isFirstIn_5 : decode cX6_isFirstIn 5 = .ok (.aload_n 0, 1) := by decide +kernel
theorem dX6_isFirstIn_6 : decode cX6_isFirstIn 6 = .ok (.getfield 80, 3) := by decide +kernel
theorem dX6_isFirstIn_9 : decode cX6_isFirstIn 9 = .ok (.if_icmp .ge 37, 3) := by decide +kernel
theorem dX6_isFirstIn_12 : decode cX6_isFirstIn 12 = .ok (.iload_n 1, 1) := by decide +kernel
theorem dX6_isFirstIn_13 : decode cX6_isFirstIn 13 = .ok (.ifCond .ne 21, 3) := by decide +kernel
theorem dX6_isFirstIn_16 : decode cX6_isFirstIn 16 = .ok (.aload_n 0, 1) := by decide +kernel
theorem dX6_isFirstIn_17 : decode cX6_isFirstIn 17 = .ok (.getfield 7, 3) := by decide +kernel
theorem dX6_isFirstIn_20 : decode cX6_isFirstIn 20 = .ok (.iconst 0, 1) := by decide +kernel
theorem dX6_isFirstIn_21 : decode cX6_isFirstIn 21 = .ok (.aload_n 0, 1) := by decide +kernel
theorem dX6_isFirstIn_22 : decode cX6_isFirstIn 22 = .ok (.getfield 36, 3) := by decide +kernel
theorem dX6_isFirstIn_25 : decode cX6_isFirstIn 25 = .ok (.iconst 5, 1) := by decide +kernel
theorem dX6_isFirstIn_26 : decode cX6_isFirstIn 26 = .ok (.iload_n 2, 1) := by decide +kernel
theorem dX6_isFirstIn_27 : decode cX6_isFirstIn 27 = .ok (.imul, 1) := by decide +kernel
theorem dX6_isFirstIn_28 : decode cX6_isFirstIn 28 = .ok (.invokestatic 83, 3) := by decide +kernel
theorem dX6_isFirstIn_31 : decode cX6_isFirstIn 31 = .ok (.ifCond .eq 7, 3) := by decide +kernel
theorem dX6_isFirstIn_34 : decode cX6_isFirstIn 34 = .ok (.iconst 1, 1) := by decide +kernel
theorem dX6_isFirstIn_35 : decode cX6_isFirstIn 35 = .ok (.goto 4, 3) := by decide +kernel
theorem dX6_isFirstIn_38 : decode cX6_isFirstIn 38 = .ok (.iconst 0, 1) := by decide +kernel
theorem dX6_isFirstIn_39 : decode cX6_isFirstIn 39 = .ok (.istore_n 1, 1) := by decide +kernel
theorem dX6_isFirstIn_40 : decode cX6_isFirstIn 40 = .ok (.iinc 2 1, 3) := by decide +kernel
theorem dX6_isFirstIn_43 : decode cX6_isFirstIn 43 = .ok (.goto (-39), 3) := by decide +kernel
theorem dX6_isFirstIn_46 : decode cX6_isFirstIn 46 = .ok (.iload_n 1, 1) := by decide +kernel
theorem dX6_isFirstIn_47 : decode cX6_isFirstIn 47 = .ok (.ireturn, 1) := by decide +kernel
set_option maxRecDepth 20000 in
theorem ggX6_step_X6_takeIn : GoodIn wsX6_step wsX6_takeIn := goodIn_r _ [11, 12, 5, 13, 14, 15, 10, 16, 17, 18, 19, 20, 21, 22, 23, 24, 25, 26, 27, 28, 29, 30, 31, 32, 33, 34, 35, 36, 37, 38, 39, 40, 41, 42, 43] (by decide +kernel) (by decide +kernel)
set_option maxRecDepth 20000 in
theorem gX6_step_X6_takeIn : GoodIn wsX6_step (wsV RX6 90 RX6 yX6_takeIn wsX6_takeIn) := goodIn_app (goodIn_of _ (by decide +kernel)) ggX6_step_X6_takeIn
theorem dX6_step_0 : decode cX6_step 0 = .ok (.iconst 0, 1) := by decide +kernel
theorem dX6_step_1 : decode cX6_step 1 = .ok (.istore_n 1, 1) := by decide +kernel
theorem dX6_step_2 : decode cX6_step 2 = .ok (.iload_n 1, 1) := by decide +kernel
theorem dX6_step_3 : decode cX6_step 3 = .ok (.aload_n 0, 1) := by decide +kernel
theorem dX6_step_4 : decode cX6_step 4 = .ok (.getfield 87, 3) := by decide +kernel
theorem dX6_step_7 : decode cX6_step 7 = .ok (.if_icmp .ge 93, 3) := by decide +kernel
theorem dX6_step_10 : decode cX6_step 10 = .ok (.iconst 0, 1) := by decide +kernel
theorem dX6_step_11 : decode cX6_step 11 = .ok (.istore_n 2, 1) := by decide +kernel
theorem dX6_step_12 : decode cX6_step 12 = .ok (.iload_n 2, 1) := by decide +kernel
theorem dX6_step_13 : decode cX6_step 13 = .ok (.aload_n 0, 1) := by decide +kernel
theorem dX6_step_14 : decode cX6_step 14 = .ok (.getfield 63, 3) := by decide +kernel
theorem dX6_step_17 : decode cX6_step 17 = .ok (.if_icmp .ge 77, 3) := by decide +kernel
theorem dX6_step_20 : decode cX6_step 20 = .ok (.iconst 0, 1) := by decide +kernel
theorem dX6_step_21 : decode cX6_step 21 = .ok (.istore_n 3, 1) := by decide +kernel
theorem dX6_step_22 : decode cX6_step 22 = .ok (.iload_n 3, 1) := by decide +kernel
theorem dX6_step_23 : decode cX6_step 23 = .ok (.iconst 5, 1) := by decide +kernel
theorem dX6_step_24 : decode cX6_step 24 = .ok (.if_icmp .ge 60, 3) := by decide +kernel
theorem dX6_step_27 : decode cX6_step 27 = .ok (.aload_n 0, 1) := by decide +kernel
theorem dX6_step_28 : decode cX6_step 28 = .ok (.getfield 39, 3) := by decide +kernel
theorem dX6_step_31 : decode cX6_step 31 = .ok (.iconst 5, 1) := by decide +kernel
theorem dX6_step_32 : decode cX6_step 32 = .ok (.iload_n 1, 1) := by decide +kernel
theorem dX6_step_33 : decode cX6_step 33 = .ok (.imul, 1) := by decide +kernel
theorem dX6_step_34 : decode cX6_step 34 = .ok (.iload_n 3, 1) := by decide +kernel
theorem dX6_step_35 : decode cX6_step 35 = .ok (.iadd, 1) := by decide +kernel
theorem dX6_step_36 : decode cX6_step 36 = .ok (.iaload, 1) := by decide +kernel
theorem dX6_step_37 : decode cX6_step 37 = .ok (.aload_n 0, 1) := by decide +kernel
theorem dX6_step_38 : decode cX6_step 38 = .ok (.getfield 19, 3) := by decide +kernel
theorem dX6_step_41 : decode cX6_step 41 = .ok (.iconst 5, 1) := by decide +kernel
theorem dX6_step_42 : decode cX6_step 42 = .ok (.iload_n 2, 1) := by decide +kernel
theorem dX6_step_43 : decode cX6_step 43 = .ok (.imul, 1) := by decide +kernel
theorem dX6_step_44 : decode cX6_step 44 = .ok (.iload_n 3, 1) := by decide +kernel
theorem dX6_step_45 : decode cX6_step 45 = .ok (.iadd, 1) := by decide +kernel
theorem dX6_step_46 : decode cX6_step 46 = .ok (.iaload, 1) := by decide +kernel
theorem dX6_step_47 : decode cX6_step 47 = .ok (.isub, 1) := by decide +kernel
theorem dX6_step_48 : decode cX6_step 48 = .ok (.istore 4, 2) := by decide +kernel
theorem dX6_step_50 : decode cX6_step 50 = .ok (.aload_n 0, 1) := by decide +kernel
theorem dX6_step_51 : decode cX6_step 51 = .ok (.getfield 54, 3) := by decide +kernel
theorem dX6_step_54 : decode cX6_step 54 = .ok (.iload_n 3, 1) := by decide +kernel
theorem dX6_step_55 : decode cX6_step 55 = .ok (.aload_n 0, 1) := by decide +kernel
theorem dX6_step_56 : decode cX6_step 56 = .ok (.getfield 16, 3) := by decide +kernel
theorem dX6_step_59 : decode cX6_step 59 = .ok (.iconst 5, 1) := by decide +kernel
theorem dX6_step_60 : decode cX6_step 60 = .ok (.iload_n 2, 1) := by decide +kernel
theorem dX6_step_61 : decode cX6_step 61 = .ok (.imul, 1) := by decide +kernel
theorem dX6_step_62 : decode cX6_step 62 = .ok (.iload_n 3, 1) := by decide +kernel
theorem dX6_step_63 : decode cX6_step 63 = .ok (.iadd, 1) := by decide +kernel
theorem dX6_step_64 : decode cX6_step 64 = .ok (.iaload, 1) := by decide +kernel
theorem dX6_step_65 : decode cX6_step 65 = .ok (.iload 4, 2) := by decide +kernel
theorem dX6_step_67 : decode cX6_step 67 = .ok (.ifCond .le 8, 3) := by decide +kernel
theorem dX6_step_70 : decode cX6_step 70 = .ok (.iload 4, 2) := by decide +kernel
theorem dX6_step_72 : decode cX6_step 72 = .ok (.goto 4, 3) := by decide +kernel
theorem dX6_step_75 : decode cX6_step 75 = .ok (.iconst 0, 1) := by decide +kernel
theorem dX6_step_76 : decode cX6_step 76 = .ok (.iadd, 1) := by decide +kernel
theorem dX6_step_77 : decode cX6_step 77 = .ok (.iastore, 1) := by decide +kernel
theorem dX6_step_78 : decode cX6_step 78 = .ok (.iinc 3 1, 3) := by decide +kernel
theorem dX6_step_81 : decode cX6_step 81 = .ok (.goto (-59), 3) := by decide +kernel
theorem dX6_step_84 : decode cX6_step 84 = .ok (.aload_n 0, 1) := by decide +kernel
theorem dX6_step_85 : decode cX6_step 85 = .ok (.invokevirtual 90, 3) := by decide +kernel
theorem dX6_step_88 : decode cX6_step 88 = .ok (.iinc 2 1, 3) := by decide +kernel
theorem dX6_step_91 : decode cX6_step 91 = .ok (.goto (-79), 3) := by decide +kernel
theorem dX6_step_94 : decode cX6_step 94 = .ok (.iinc 1 1, 3) := by decide +kernel
theorem dX6_step_97 : decode cX6_step 97 = .ok (.goto (-95), 3) := by decide +kernel
theorem dX6_step_100 : decode cX6_step 100 = .ok (.return_, 1) := by decide +kernel
set_option maxRecDepth 20000 in
theorem ggX6_isSame_X6_tops : GoodIn wsX6_isSame wsX6_tops := goodIn_r _ [8] (by decide +kernel) (by decide +kernel)
set_option maxRecDepth 20000 in
theorem gX6_isSame_X6_tops : GoodIn wsX6_isSame (va_wsS RX6 83 yX6_tops wsX6_tops) := goodIn_app (goodIn_of _ (by decide +kernel)) ggX6_isSame_X6_tops
theorem dX6_isSame_0 : decode cX6_isSame 0 = .ok (.aload_n 0, 1) := by decide +kernel
theorem dX6_isSame_1 : decode cX6_isSame 1 = .ok (.getfield 80, 3) := by decide +kernel
theorem dX6_isSame_4 : decode cX6_isSame 4 = .ok (.aload_n 0, 1) := by decide +kernel
theorem dX6_isSame_5 : decode cX6_isSame 5 = .ok (.getfield 87, 3) := by decide +kernel
theorem dX6_isSame_8 : decode cX6_isSame 8 = .ok (.if_icmp .ne 7, 3) := by decide +kernel
theorem dX6_isSame_11 : decode cX6_isSame 11 = .ok (.iconst 1, 1) := by decide +kernel
theorem dX6_isSame_12 : decode cX6_isSame 12 = .ok (.goto 4, 3) := by decide +kernel
theorem dX6_isSame_15 : decode cX6_isSame 15 = .ok (.iconst 0, 1) := by decide +kernel
theorem dX6_isSame_16 : decode cX6_isSame 16 = .ok (.istore_n 1, 1) := by decide +kernel
theorem dX6_isSame_17 : decode cX6_isSame 17 = .ok (.iconst 0, 1) := by decide +kernel
theorem dX6_isSame_18 : decode cX6_isSame 18 = .ok (.istore_n 2, 1) := by decide +kernel
theorem dX6_isSame_19 : decode cX6_isSame 19 = .ok (.iload_n 2, 1) := by decide +kernel
theorem dX6_isSame_20 : decode cX6_isSame 20 = .ok (.aload_n 0, 1) := by decide +kernel
theorem dX6_isSame_21 : decode cX6_isSame 21 = .ok (.getfield 80, 3) := by decide +kernel
theorem dX6_isSame_24 : decode cX6_isSame 24 = .ok (.if_icmp .ge 66, 3) := by decide +kernel
theorem dX6_isSame_27 : decode cX6_isSame 27 = .ok (.iload_n 1, 1) := by decide +kernel
theorem dX6_isSame_28 : decode cX6_isSame 28 = .ok (.ifCond .eq 62, 3) := by decide +kernel
theorem dX6_isSame_31 : decode cX6_isSame 31 = .ok (.iconst 0, 1) := by decide +kernel
theorem dX6_isSame_32 : decode cX6_isSame 32 = .ok (.istore_n 3, 1) := by decide +kernel
theorem dX6_isSame_33 : decode cX6_isSame 33 = .ok (.iconst 0, 1) := by decide +kernel
theorem dX6_isSame_34 : decode cX6_isSame 34 = .ok (.istore 4, 2) := by decide +kernel
theorem dX6_isSame_36 : decode cX6_isSame 36 = .ok (.iload 4, 2) := by decide +kernel
theorem dX6_isSame_38 : decode cX6_isSame 38 = .ok (.aload_n 0, 1) := by decide +kernel
theorem dX6_isSame_39 : decode cX6_isSame 39 = .ok (.getfield 87, 3) := by decide +kernel
theorem dX6_isSame_42 : decode cX6_isSame 42 = .ok (.if_icmp .ge 40, 3) := by decide +kernel
theorem dX6_isSame_45 : decode cX6_isSame 45 = .ok (.iload_n 3, 1) := by decide +kernel
theorem dX6_isSame_46 : decode cX6_isSame 46 = .ok (.ifCond .ne 24, 3) := by decide +kernel
theorem dX6_isSame_49 : decode cX6_isSame 49 = .ok (.aload_n 0, 1) := by decide +kernel
theorem dX6_isSame_50 : decode cX6_isSame 50 = .ok (.getfield 36, 3) := by decide +kernel
theorem dX6_isSame_53 : decode cX6_isSame 53 = .ok (.iconst 5, 1) := by decide +kernel
theorem dX6_isSame_54 : decode cX6_isSame 54 = .ok (.iload_n 2, 1) := by decide +kernel
theorem dX6_isSame_55 : decode cX6_isSame 55 = .ok (.imul, 1) := by decide +kernel
theorem dX6_isSame_56 : decode cX6_isSame 56 = .ok (.aload_n 0, 1) := by decide +kernel
theorem dX6_isSame_57 : decode cX6_isSame 57 = .ok (.getfield 39, 3) := by decide +kernel
theorem dX6_isSame_60 : decode cX6_isSame 60 = .ok (.iconst 5, 1) := by decide +kernel
theorem dX6_isSame_61 : decode cX6_isSame 61 = .ok (.iload 4, 2) := by decide +kernel
theorem dX6_isSame_63 : decode cX6_isSame 63 = .ok (.imul, 1) := by decide +kernel
theorem dX6_isSame_64 : decode cX6_isSame 64 = .ok (.invokestatic 83, 3) := by decide +kernel
theorem dX6_isSame_67 : decode cX6_isSame 67 = .ok (.ifCond .eq 7, 3) := by decide +kernel
theorem dX6_isSame_70 : decode cX6_isSame 70 = .ok (.iconst 1, 1) := by decide +kernel
theorem dX6_isSame_71 : decode cX6_isSame 71 = .ok (.goto 4, 3) := by decide +kernel
theorem dX6_isSame_74 : decode cX6_isSame 74 = .ok (.iconst 0, 1) := by decide +kernel
theorem dX6_isSame_75 : decode cX6_isSame 75 = .ok (.istore_n 3, 1) := by decide +kernel
theorem dX6_isSame_76 : decode cX6_isSame 76 = .ok (.iinc 4 1, 3) := by decide +kernel
theorem dX6_isSame_79 : decode cX6_isSame 79 = .ok (.goto (-43), 3) := by decide +kernel
theorem dX6_isSame_82 : decode cX6_isSame 82 = .ok (.iload_n 3, 1) := by decide +kernel
theorem dX6_isSame_83 : decode cX6_isSame 83 = .ok (.istore_n 1, 1) := by decide +kernel
theorem dX6_isSame_84 : decode cX6_isSame 84 = .ok (.iinc 2 1, 3) := by decide +kernel
theorem dX6_isSame_87 : decode cX6_isSame 87 = .ok (.goto (-68), 3) := by decide +kernel
theorem dX6_isSame_90 : decode cX6_isSame 90 = .ok (.iload_n 1, 1) := by decide +kernel
theorem dX6_isSame_91 : decode cX6_isSame 91 = .ok (.ireturn, 1) := by decide +kernel
set_option maxRecDepth 20000 in
theorem ggX6_rounds_X6_takeIn : GoodIn wsX6_rounds wsX6_takeIn := goodIn_r _ [17, 3, 4, 8, 18, 19, 16, 20, 59, 60, 61, 62, 63, 64, 65, 66, 67, 68, 69, 70, 71, 72, 73, 74, 75, 76, 77, 78, 79, 80, 81, 82, 83, 84, 85] (by decide +kernel) (by decide +kernel)
set_option maxRecDepth 20000 in
theorem gX6_rounds_X6_takeIn : GoodIn wsX6_rounds (wsV RX6 90 RX6 yX6_takeIn wsX6_takeIn) := goodIn_app (goodIn_of _ (by decide +kernel)) ggX6_rounds_X6_takeIn
set_option maxRecDepth 20000 in
theorem ggX6_rounds_X6_isFirstIn : GoodIn wsX6_rounds wsX6_isFirstIn := goodIn_r _ [24, 3, 25, 8, 18, 19, 16, 20, 59, 60, 61, 62, 63, 64, 65, 66, 67, 68, 69, 70, 71, 72, 73, 74, 75, 76, 77, 78, 79, 80, 81, 82, 83, 84, 85] (by decide +kernel) (by decide +kernel)
set_option maxRecDepth 20000 in
theorem gX6_rounds_X6_isFirstIn : GoodIn wsX6_rounds (wsV RX6 99 RX6 yX6_isFirstIn wsX6_isFirstIn) := goodIn_app (goodIn_of _ (by decide +kernel)) ggX6_rounds_X6_isFirstIn
set_option maxRecDepth 20000 in
theorem ggX6_rounds_X6_isSame : GoodIn wsX6_rounds wsX6_isSame := goodIn_r _ [29, 3, 11, 8, 10, 18, 19, 16, 20, 59, 60, 61, 62, 63, 64, 65, 66, 67, 68, 69, 70, 71, 72, 73, 74, 75, 76, 77, 78, 79, 80, 81, 82, 83, 84, 85] (by decide +kernel) (by decide +kernel)
set_option maxRecDepth 20000 in
theorem gX6_rounds_X6_isSame : GoodIn wsX6_rounds (wsV RX6 103 RX6 yX6_isSame wsX6_isSame) := goodIn_app (goodIn_of _ (by decide +kernel)) ggX6_rounds_X6_isSame
set_option maxRecDepth 20000 in
theorem ggX6_rounds_X6_step : GoodIn wsX6_rounds wsX6_step := goodIn_r _ [33, 11, 34, 10, 35, 4, 36, 13, 14, 15, 16, 17, 3, 8, 18, 19, 20, 59, 60, 61, 62, 63, 64, 65, 66, 67, 68, 69, 70, 71, 72, 73, 74, 75, 76, 77, 78, 79, 80, 81, 82, 83, 84, 85] (by decide +kernel) (by decide +kernel)
set_option maxRecDepth 20000 in
theorem gX6_rounds_X6_step : GoodIn wsX6_rounds (wsV RX6 106 RX6 yX6_step wsX6_step) := goodIn_app (goodIn_of _ (by decide +kernel)) ggX6_rounds_X6_step
set_option maxRecDepth 20000 in
theorem ggX6_rounds_X6_tellRow : GoodIn wsX6_rounds wsX6_tellRow := goodIn_r _ [40, 41, 25, 9, 42, 35, 36, 43, 44, 45, 16, 46, 4, 47, 48, 49, 50, 51, 52, 53, 54, 34, 18, 19, 20, 55, 56, 57, 58, 6, 7, 59, 60, 61, 62, 63, 64, 65, 66, 67, 68, 69, 70, 71, 72, 73, 74, 75, 76, 77, 78, 79, 80, 81, 82, 83, 84, 85] (by decide +kernel) (by decide +kernel)
set_option maxRecDepth 20000 in
theorem gX6_rounds_X6_tellRow : GoodIn wsX6_rounds (wsV RX6 109 RX6 yX6_tellRow wsX6_tellRow) := goodIn_app (goodIn_of _ (by decide +kernel)) ggX6_rounds_X6_tellRow
theorem dX6_rounds_0 : decode cX6_rounds 0 = .ok (.aload_n 0, 1) := by decide +kernel
theorem dX6_rounds_1 : decode cX6_rounds 1 = .ok (.aload_n 0, 1) := by decide +kernel
theorem dX6_rounds_2 : decode cX6_rounds 2 = .ok (.getfield 60, 3) := by decide +kernel
theorem dX6_rounds_5 : decode cX6_rounds 5 = .ok (.putfield 93, 3) := by decide +kernel
theorem dX6_rounds_8 : decode cX6_rounds 8 = .ok (.aload_n 0, 1) := by decide +kernel
theorem dX6_rounds_9 : decode cX6_rounds 9 = .ok (.iconst 0, 1) := by decide +kernel
theorem dX6_rounds_10 : decode cX6_rounds 10 = .ok (.putfield 80, 3) := by decide +kernel
theorem dX6_rounds_13 : decode cX6_rounds 13 = .ok (.iconst 0, 1) := by decide +kernel
theorem dX6_rounds_14 : decode cX6_rounds 14 = .ok (.istore_n 1, 1) := by decide +kernel
theorem dX6_rounds_15 : decode cX6_rounds 15 = .ok (.iload_n 1, 1) := by decide +kernel
theorem dX6_rounds_16 : decode cX6_rounds 16 = .ok (.iconst 5, 1) := by decide +kernel
theorem dX6_rounds_17 : decode cX6_rounds 17 = .ok (.if_icmp .ge 33, 3) := by decide +kernel
theorem dX6_rounds_20 : decode cX6_rounds 20 = .ok (.aload_n 0, 1) := by decide +kernel
theorem dX6_rounds_21 : decode cX6_rounds 21 = .ok (.getfield 54, 3) := by decide +kernel
theorem dX6_rounds_24 : decode cX6_rounds 24 = .ok (.iload_n 1, 1) := by decide +kernel
theorem dX6_rounds_25 : decode cX6_rounds 25 = .ok (.iload_n 1, 1) := by decide +kernel
theorem dX6_rounds_26 : decode cX6_rounds 26 = .ok (.aload_n 0, 1) := by decide +kernel
theorem dX6_rounds_27 : decode cX6_rounds 27 = .ok (.getfield 60, 3) := by decide +kernel
theorem dX6_rounds_30 : decode cX6_rounds 30 = .ok (.if_icmp .ge 12, 3) := by decide +kernel
theorem dX6_rounds_33 : decode cX6_rounds 33 = .ok (.aload_n 0, 1) := by decide +kernel
theorem dX6_rounds_34 : decode cX6_rounds 34 = .ok (.getfield 13, 3) := by decide +kernel
theorem dX6_rounds_37 : decode cX6_rounds 37 = .ok (.iload_n 1, 1) := by decide +kernel
theorem dX6_rounds_38 : decode cX6_rounds 38 = .ok (.iaload, 1) := by decide +kernel
theorem dX6_rounds_39 : decode cX6_rounds 39 = .ok (.goto 4, 3) := by decide +kernel
theorem dX6_rounds_42 : decode cX6_rounds 42 = .ok (.iconst 0, 1) := by decide +kernel
theorem dX6_rounds_43 : decode cX6_rounds 43 = .ok (.iastore, 1) := by decide +kernel
theorem dX6_rounds_44 : decode cX6_rounds 44 = .ok (.iinc 1 1, 3) := by decide +kernel
theorem dX6_rounds_47 : decode cX6_rounds 47 = .ok (.goto (-32), 3) := by decide +kernel
theorem dX6_rounds_50 : decode cX6_rounds 50 = .ok (.aload_n 0, 1) := by decide +kernel
end
section
theorem dX6_rounds_51 : decode cX6_rounds 51 = .ok (.invokevirtual 90, 3) := by decide +kernel
theorem dX6_rounds_54 : decode cX6_rounds 54 = .ok (.iconst 0, 1) := by decide +kernel
theorem dX6_rounds_55 : decode cX6_rounds 55 = .ok (.istore_n 1, 1) := by decide +kernel
theorem dX6_rounds_56 : decode cX6_rounds 56 = .ok (.iconst 2, 1) := by decide +kernel
theorem dX6_rounds_57 : decode cX6_rounds 57 = .ok (.istore_n 2, 1) := by decide +kernel
theorem dX6_rounds_58 : decode cX6_rounds 58 = .ok (.iload_n 2, 1) := by decide +kernel
theorem dX6_rounds_59 : decode cX6_rounds 59 = .ok (.iconst 2, 1) := by decide +kernel
theorem dX6_rounds_60 : decode cX6_rounds 60 = .ok (.if_icmp .ne 167, 3) := by decide +kernel
theorem dX6_rounds_63 : decode cX6_rounds 63 = .ok (.aload_n 0, 1) := by decide +kernel
theorem dX6_rounds_64 : decode cX6_rounds 64 = .ok (.getfield 29, 3) := by decide +kernel
theorem dX6_rounds_67 : decode cX6_rounds 67 = .ok (.iload_n 1, 1) := by decide +kernel
theorem dX6_rounds_68 : decode cX6_rounds 68 = .ok (.aload_n 0, 1) := by decide +kernel
theorem dX6_rounds_69 : decode cX6_rounds 69 = .ok (.getfield 80, 3) := by decide +kernel
theorem dX6_rounds_72 : decode cX6_rounds 72 = .ok (.iastore, 1) := by decide +kernel
theorem dX6_rounds_73 : decode cX6_rounds 73 = .ok (.iconst 0, 1) := by decide +kernel
theorem dX6_rounds_74 : decode cX6_rounds 74 = .ok (.istore_n 3, 1) := by decide +kernel
theorem dX6_rounds_75 : decode cX6_rounds 75 = .ok (.iload_n 3, 1) := by decide +kernel
theorem dX6_rounds_76 : decode cX6_rounds 76 = .ok (.sipush 1000, 3) := by decide +kernel
theorem dX6_rounds_79 : decode cX6_rounds 79 = .ok (.if_icmp .ge 41, 3) := by decide +kernel
theorem dX6_rounds_82 : decode cX6_rounds 82 = .ok (.aload_n 0, 1) := by decide +kernel
theorem dX6_rounds_83 : decode cX6_rounds 83 = .ok (.getfield 33, 3) := by decide +kernel
theorem dX6_rounds_86 : decode cX6_rounds 86 = .ok (.sipush 1000, 3) := by decide +kernel
theorem dX6_rounds_89 : decode cX6_rounds 89 = .ok (.iload_n 1, 1) := by decide +kernel
theorem dX6_rounds_90 : decode cX6_rounds 90 = .ok (.imul, 1) := by decide +kernel
theorem dX6_rounds_91 : decode cX6_rounds 91 = .ok (.iload_n 3, 1) := by decide +kernel
theorem dX6_rounds_92 : decode cX6_rounds 92 = .ok (.iadd, 1) := by decide +kernel
theorem dX6_rounds_93 : decode cX6_rounds 93 = .ok (.iload_n 3, 1) := by decide +kernel
theorem dX6_rounds_94 : decode cX6_rounds 94 = .ok (.iconst 5, 1) := by decide +kernel
theorem dX6_rounds_95 : decode cX6_rounds 95 = .ok (.aload_n 0, 1) := by decide +kernel
theorem dX6_rounds_96 : decode cX6_rounds 96 = .ok (.getfield 80, 3) := by decide +kernel
theorem dX6_rounds_99 : decode cX6_rounds 99 = .ok (.imul, 1) := by decide +kernel
theorem dX6_rounds_100 : decode cX6_rounds 100 = .ok (.if_icmp .ge 12, 3) := by decide +kernel
theorem dX6_rounds_103 : decode cX6_rounds 103 = .ok (.aload_n 0, 1) := by decide +kernel
theorem dX6_rounds_104 : decode cX6_rounds 104 = .ok (.getfield 36, 3) := by decide +kernel
theorem dX6_rounds_107 : decode cX6_rounds 107 = .ok (.iload_n 3, 1) := by decide +kernel
theorem dX6_rounds_108 : decode cX6_rounds 108 = .ok (.iaload, 1) := by decide +kernel
theorem dX6_rounds_109 : decode cX6_rounds 109 = .ok (.goto 4, 3) := by decide +kernel
theorem dX6_rounds_112 : decode cX6_rounds 112 = .ok (.iconst 0, 1) := by decide +kernel
theorem dX6_rounds_113 : decode cX6_rounds 113 = .ok (.iastore, 1) := by decide +kernel
theorem dX6_rounds_114 : decode cX6_rounds 114 = .ok (.iinc 3 1, 3) := by decide +kernel
theorem dX6_rounds_117 : decode cX6_rounds 117 = .ok (.goto (-42), 3) := by decide +kernel
theorem dX6_rounds_120 : decode cX6_rounds 120 = .ok (.aload_n 0, 1) := by decide +kernel
theorem dX6_rounds_121 : decode cX6_rounds 121 = .ok (.iload_n 1, 1) := by decide +kernel
theorem dX6_rounds_122 : decode cX6_rounds 122 = .ok (.putfield 96, 3) := by decide +kernel
theorem dX6_rounds_125 : decode cX6_rounds 125 = .ok (.aload_n 0, 1) := by decide +kernel
theorem dX6_rounds_126 : decode cX6_rounds 126 = .ok (.invokevirtual 99, 3) := by decide +kernel
theorem dX6_rounds_129 : decode cX6_rounds 129 = .ok (.ifCond .eq 8, 3) := by decide +kernel
theorem dX6_rounds_132 : decode cX6_rounds 132 = .ok (.iconst 1, 1) := by decide +kernel
theorem dX6_rounds_133 : decode cX6_rounds 133 = .ok (.istore_n 2, 1) := by decide +kernel
theorem dX6_rounds_134 : decode cX6_rounds 134 = .ok (.goto (-76), 3) := by decide +kernel
theorem dX6_rounds_137 : decode cX6_rounds 137 = .ok (.aload_n 0, 1) := by decide +kernel
theorem dX6_rounds_138 : decode cX6_rounds 138 = .ok (.getfield 80, 3) := by decide +kernel
theorem dX6_rounds_141 : decode cX6_rounds 141 = .ok (.sipush 200, 3) := by decide +kernel
theorem dX6_rounds_144 : decode cX6_rounds 144 = .ok (.if_icmp .le 8, 3) := by decide +kernel
theorem dX6_rounds_147 : decode cX6_rounds 147 = .ok (.iconst (-1), 1) := by decide +kernel
theorem dX6_rounds_148 : decode cX6_rounds 148 = .ok (.istore_n 2, 1) := by decide +kernel
theorem dX6_rounds_149 : decode cX6_rounds 149 = .ok (.goto (-91), 3) := by decide +kernel
theorem dX6_rounds_152 : decode cX6_rounds 152 = .ok (.iload_n 1, 1) := by decide +kernel
theorem dX6_rounds_153 : decode cX6_rounds 153 = .ok (.ifCond .le 15, 3) := by decide +kernel
theorem dX6_rounds_156 : decode cX6_rounds 156 = .ok (.aload_n 0, 1) := by decide +kernel
theorem dX6_rounds_157 : decode cX6_rounds 157 = .ok (.invokevirtual 103, 3) := by decide +kernel
theorem dX6_rounds_160 : decode cX6_rounds 160 = .ok (.ifCond .eq 8, 3) := by decide +kernel
theorem dX6_rounds_163 : decode cX6_rounds 163 = .ok (.iconst 0, 1) := by decide +kernel
theorem dX6_rounds_164 : decode cX6_rounds 164 = .ok (.istore_n 2, 1) := by decide +kernel
theorem dX6_rounds_165 : decode cX6_rounds 165 = .ok (.goto (-107), 3) := by decide +kernel
theorem dX6_rounds_168 : decode cX6_rounds 168 = .ok (.iload_n 1, 1) := by decide +kernel
theorem dX6_rounds_169 : decode cX6_rounds 169 = .ok (.bipush 60, 2) := by decide +kernel
theorem dX6_rounds_171 : decode cX6_rounds 171 = .ok (.if_icmp .ne 8, 3) := by decide +kernel
theorem dX6_rounds_174 : decode cX6_rounds 174 = .ok (.iconst (-1), 1) := by decide +kernel
theorem dX6_rounds_175 : decode cX6_rounds 175 = .ok (.istore_n 2, 1) := by decide +kernel
theorem dX6_rounds_176 : decode cX6_rounds 176 = .ok (.goto (-118), 3) := by decide +kernel
theorem dX6_rounds_179 : decode cX6_rounds 179 = .ok (.iconst 0, 1) := by decide +kernel
theorem dX6_rounds_180 : decode cX6_rounds 180 = .ok (.istore_n 3, 1) := by decide +kernel
theorem dX6_rounds_181 : decode cX6_rounds 181 = .ok (.iload_n 3, 1) := by decide +kernel
theorem dX6_rounds_182 : decode cX6_rounds 182 = .ok (.iconst 5, 1) := by decide +kernel
theorem dX6_rounds_183 : decode cX6_rounds 183 = .ok (.aload_n 0, 1) := by decide +kernel
theorem dX6_rounds_184 : decode cX6_rounds 184 = .ok (.getfield 80, 3) := by decide +kernel
theorem dX6_rounds_187 : decode cX6_rounds 187 = .ok (.imul, 1) := by decide +kernel
theorem dX6_rounds_188 : decode cX6_rounds 188 = .ok (.if_icmp .ge 21, 3) := by decide +kernel
theorem dX6_rounds_191 : decode cX6_rounds 191 = .ok (.aload_n 0, 1) := by decide +kernel
theorem dX6_rounds_192 : decode cX6_rounds 192 = .ok (.getfield 39, 3) := by decide +kernel
theorem dX6_rounds_195 : decode cX6_rounds 195 = .ok (.iload_n 3, 1) := by decide +kernel
theorem dX6_rounds_196 : decode cX6_rounds 196 = .ok (.aload_n 0, 1) := by decide +kernel
theorem dX6_rounds_197 : decode cX6_rounds 197 = .ok (.getfield 36, 3) := by decide +kernel
theorem dX6_rounds_200 : decode cX6_rounds 200 = .ok (.iload_n 3, 1) := by decide +kernel
theorem dX6_rounds_201 : decode cX6_rounds 201 = .ok (.iaload, 1) := by decide +kernel
theorem dX6_rounds_202 : decode cX6_rounds 202 = .ok (.iastore, 1) := by decide +kernel
theorem dX6_rounds_203 : decode cX6_rounds 203 = .ok (.iinc 3 1, 3) := by decide +kernel
theorem dX6_rounds_206 : decode cX6_rounds 206 = .ok (.goto (-25), 3) := by decide +kernel
theorem dX6_rounds_209 : decode cX6_rounds 209 = .ok (.aload_n 0, 1) := by decide +kernel
theorem dX6_rounds_210 : decode cX6_rounds 210 = .ok (.aload_n 0, 1) := by decide +kernel
theorem dX6_rounds_211 : decode cX6_rounds 211 = .ok (.getfield 80, 3) := by decide +kernel
theorem dX6_rounds_214 : decode cX6_rounds 214 = .ok (.putfield 87, 3) := by decide +kernel
theorem dX6_rounds_217 : decode cX6_rounds 217 = .ok (.aload_n 0, 1) := by decide +kernel
theorem dX6_rounds_218 : decode cX6_rounds 218 = .ok (.invokevirtual 106, 3) := by decide +kernel
theorem dX6_rounds_221 : decode cX6_rounds 221 = .ok (.iinc 1 1, 3) := by decide +kernel
theorem dX6_rounds_224 : decode cX6_rounds 224 = .ok (.goto (-166), 3) := by decide +kernel
theorem dX6_rounds_227 : decode cX6_rounds 227 = .ok (.aload_n 0, 1) := by decide +kernel
theorem dX6_rounds_228 : decode cX6_rounds 228 = .ok (.iload_n 2, 1) := by decide +kernel
theorem dX6_rounds_229 : decode cX6_rounds 229 = .ok (.putfield 25, 3) := by decide +kernel
theorem dX6_rounds_232 : decode cX6_rounds 232 = .ok (.aload_n 0, 1) := by decide +kernel
theorem dX6_rounds_233 : decode cX6_rounds 233 = .ok (.getfield 25, 3) := by decide +kernel
theorem dX6_rounds_236 : decode cX6_rounds 236 = .ok (.iconst 1, 1) := by decide +kernel
theorem dX6_rounds_237 : decode cX6_rounds 237 = .ok (.if_icmp .ne 7, 3) := by decide +kernel
theorem dX6_rounds_240 : decode cX6_rounds 240 = .ok (.aload_n 0, 1) := by decide +kernel
theorem dX6_rounds_241 : decode cX6_rounds 241 = .ok (.invokevirtual 109, 3) := by decide +kernel
theorem dX6_rounds_244 : decode cX6_rounds 244 = .ok (.aload_n 0, 1) := by decide +kernel
theorem dX6_rounds_245 : decode cX6_rounds 245 = .ok (.getfield 25, 3) := by decide +kernel
theorem dX6_rounds_248 : decode cX6_rounds 248 = .ok (.ireturn, 1) := by decide +kernel
set_option maxRecDepth 20000 in
theorem ggX6_tellRow_X6_leads : GoodIn wsX6_tellRow wsX6_leads := goodIn_r _ [11, 12, 5, 6, 13, 14, 15, 10, 16, 17, 18, 19, 20, 21, 22, 23, 24, 25, 26, 27, 28, 29, 30, 31, 32, 33, 34, 35, 36, 37, 38, 39, 40, 41, 42, 43, 44, 45, 46, 47, 48, 49, 50, 51, 52, 53, 54, 55, 56, 57] (by decide +kernel) (by decide +kernel)
set_option maxRecDepth 20000 in
theorem gX6_tellRow_X6_leads : GoodIn wsX6_tellRow (wsV RX6 112 RX6 yX6_leads wsX6_leads) := goodIn_app (goodIn_of _ (by decide +kernel)) ggX6_tellRow_X6_leads
theorem dX6_tellRow_0 : decode cX6_tellRow 0 = .ok (.aload_n 0, 1) := by decide +kernel
theorem dX6_tellRow_1 : decode cX6_tellRow 1 = .ok (.getfield 57, 3) := by decide +kernel
theorem dX6_tellRow_4 : decode cX6_tellRow 4 = .ok (.astore_n 1, 1) := by decide +kernel
theorem dX6_tellRow_5 : decode cX6_tellRow 5 = .ok (.iconst 0, 1) := by decide +kernel
theorem dX6_tellRow_6 : decode cX6_tellRow 6 = .ok (.istore_n 2, 1) := by decide +kernel
theorem dX6_tellRow_7 : decode cX6_tellRow 7 = .ok (.iload_n 2, 1) := by decide +kernel
theorem dX6_tellRow_8 : decode cX6_tellRow 8 = .ok (.iconst 5, 1) := by decide +kernel
theorem dX6_tellRow_9 : decode cX6_tellRow 9 = .ok (.if_icmp .ge 18, 3) := by decide +kernel
theorem dX6_tellRow_12 : decode cX6_tellRow 12 = .ok (.aload_n 1, 1) := by decide +kernel
theorem dX6_tellRow_13 : decode cX6_tellRow 13 = .ok (.iload_n 2, 1) := by decide +kernel
theorem dX6_tellRow_14 : decode cX6_tellRow 14 = .ok (.aload_n 0, 1) := by decide +kernel
theorem dX6_tellRow_15 : decode cX6_tellRow 15 = .ok (.getfield 7, 3) := by decide +kernel
theorem dX6_tellRow_18 : decode cX6_tellRow 18 = .ok (.iload_n 2, 1) := by decide +kernel
theorem dX6_tellRow_19 : decode cX6_tellRow 19 = .ok (.iaload, 1) := by decide +kernel
theorem dX6_tellRow_20 : decode cX6_tellRow 20 = .ok (.iastore, 1) := by decide +kernel
theorem dX6_tellRow_21 : decode cX6_tellRow 21 = .ok (.iinc 2 1, 3) := by decide +kernel
theorem dX6_tellRow_24 : decode cX6_tellRow 24 = .ok (.goto (-17), 3) := by decide +kernel
theorem dX6_tellRow_27 : decode cX6_tellRow 27 = .ok (.iconst 0, 1) := by decide +kernel
theorem dX6_tellRow_28 : decode cX6_tellRow 28 = .ok (.istore_n 2, 1) := by decide +kernel
theorem dX6_tellRow_29 : decode cX6_tellRow 29 = .ok (.iload_n 2, 1) := by decide +kernel
theorem dX6_tellRow_30 : decode cX6_tellRow 30 = .ok (.aload_n 0, 1) := by decide +kernel
theorem dX6_tellRow_31 : decode cX6_tellRow 31 = .ok (.getfield 96, 3) := by decide +kernel
theorem dX6_tellRow_34 : decode cX6_tellRow 34 = .ok (.if_icmp .ge 86, 3) := by decide +kernel
theorem dX6_tellRow_37 : decode cX6_tellRow 37 = .ok (.iconst 0, 1) := by decide +kernel
theorem dX6_tellRow_38 : decode cX6_tellRow 38 = .ok (.istore_n 3, 1) := by decide +kernel
theorem dX6_tellRow_39 : decode cX6_tellRow 39 = .ok (.aload_n 0, 1) := by decide +kernel
theorem dX6_tellRow_40 : decode cX6_tellRow 40 = .ok (.aload_n 1, 1) := by decide +kernel
theorem dX6_tellRow_41 : decode cX6_tellRow 41 = .ok (.iload_n 3, 1) := by decide +kernel
theorem dX6_tellRow_42 : decode cX6_tellRow 42 = .ok (.aload_n 0, 1) := by decide +kernel
theorem dX6_tellRow_43 : decode cX6_tellRow 43 = .ok (.getfield 96, 3) := by decide +kernel
theorem dX6_tellRow_46 : decode cX6_tellRow 46 = .ok (.iload_n 2, 1) := by decide +kernel
theorem dX6_tellRow_47 : decode cX6_tellRow 47 = .ok (.isub, 1) := by decide +kernel
theorem dX6_tellRow_48 : decode cX6_tellRow 48 = .ok (.iconst 1, 1) := by decide +kernel
theorem dX6_tellRow_49 : decode cX6_tellRow 49 = .ok (.isub, 1) := by decide +kernel
theorem dX6_tellRow_50 : decode cX6_tellRow 50 = .ok (.invokevirtual 112, 3) := by decide +kernel
theorem dX6_tellRow_53 : decode cX6_tellRow 53 = .ok (.ifCond .ne 9, 3) := by decide +kernel
theorem dX6_tellRow_56 : decode cX6_tellRow 56 = .ok (.iinc 3 1, 3) := by decide +kernel
theorem dX6_tellRow_59 : decode cX6_tellRow 59 = .ok (.goto (-20), 3) := by decide +kernel
theorem dX6_tellRow_62 : decode cX6_tellRow 62 = .ok (.aload_n 0, 1) := by decide +kernel
theorem dX6_tellRow_63 : decode cX6_tellRow 63 = .ok (.getfield 42, 3) := by decide +kernel
theorem dX6_tellRow_66 : decode cX6_tellRow 66 = .ok (.iload_n 2, 1) := by decide +kernel
theorem dX6_tellRow_67 : decode cX6_tellRow 67 = .ok (.iload_n 3, 1) := by decide +kernel
theorem dX6_tellRow_68 : decode cX6_tellRow 68 = .ok (.iastore, 1) := by decide +kernel
theorem dX6_tellRow_69 : decode cX6_tellRow 69 = .ok (.iconst 0, 1) := by decide +kernel
theorem dX6_tellRow_70 : decode cX6_tellRow 70 = .ok (.istore 4, 2) := by decide +kernel
theorem dX6_tellRow_72 : decode cX6_tellRow 72 = .ok (.iload 4, 2) := by decide +kernel
theorem dX6_tellRow_74 : decode cX6_tellRow 74 = .ok (.iconst 5, 1) := by decide +kernel
theorem dX6_tellRow_75 : decode cX6_tellRow 75 = .ok (.if_icmp .ge 39, 3) := by decide +kernel
theorem dX6_tellRow_78 : decode cX6_tellRow 78 = .ok (.aload_n 1, 1) := by decide +kernel
theorem dX6_tellRow_79 : decode cX6_tellRow 79 = .ok (.iload 4, 2) := by decide +kernel
theorem dX6_tellRow_81 : decode cX6_tellRow 81 = .ok (.dup2, 1) := by decide +kernel
theorem dX6_tellRow_82 : decode cX6_tellRow 82 = .ok (.iaload, 1) := by decide +kernel
theorem dX6_tellRow_83 : decode cX6_tellRow 83 = .ok (.aload_n 0, 1) := by decide +kernel
theorem dX6_tellRow_84 : decode cX6_tellRow 84 = .ok (.getfield 19, 3) := by decide +kernel
theorem dX6_tellRow_87 : decode cX6_tellRow 87 = .ok (.iconst 5, 1) := by decide +kernel
theorem dX6_tellRow_88 : decode cX6_tellRow 88 = .ok (.iload_n 3, 1) := by decide +kernel
theorem dX6_tellRow_89 : decode cX6_tellRow 89 = .ok (.imul, 1) := by decide +kernel
theorem dX6_tellRow_90 : decode cX6_tellRow 90 = .ok (.iload 4, 2) := by decide +kernel
theorem dX6_tellRow_92 : decode cX6_tellRow 92 = .ok (.iadd, 1) := by decide +kernel
theorem dX6_tellRow_93 : decode cX6_tellRow 93 = .ok (.iaload, 1) := by decide +kernel
theorem dX6_tellRow_94 : decode cX6_tellRow 94 = .ok (.aload_n 0, 1) := by decide +kernel
theorem dX6_tellRow_95 : decode cX6_tellRow 95 = .ok (.getfield 16, 3) := by decide +kernel
theorem dX6_tellRow_98 : decode cX6_tellRow 98 = .ok (.iconst 5, 1) := by decide +kernel
theorem dX6_tellRow_99 : decode cX6_tellRow 99 = .ok (.iload_n 3, 1) := by decide +kernel
theorem dX6_tellRow_100 : decode cX6_tellRow 100 = .ok (.imul, 1) := by decide +kernel
theorem dX6_tellRow_101 : decode cX6_tellRow 101 = .ok (.iload 4, 2) := by decide +kernel
theorem dX6_tellRow_103 : decode cX6_tellRow 103 = .ok (.iadd, 1) := by decide +kernel
theorem dX6_tellRow_104 : decode cX6_tellRow 104 = .ok (.iaload, 1) := by decide +kernel
theorem dX6_tellRow_105 : decode cX6_tellRow 105 = .ok (.isub, 1) := by decide +kernel
theorem dX6_tellRow_106 : decode cX6_tellRow 106 = .ok (.iadd, 1) := by decide +kernel
theorem dX6_tellRow_107 : decode cX6_tellRow 107 = .ok (.iastore, 1) := by decide +kernel
theorem dX6_tellRow_108 : decode cX6_tellRow 108 = .ok (.iinc 4 1, 3) := by decide +kernel
theorem dX6_tellRow_111 : decode cX6_tellRow 111 = .ok (.goto (-39), 3) := by decide +kernel
theorem dX6_tellRow_114 : decode cX6_tellRow 114 = .ok (.iinc 2 1, 3) := by decide +kernel
theorem dX6_tellRow_117 : decode cX6_tellRow 117 = .ok (.goto (-88), 3) := by decide +kernel
theorem dX6_tellRow_120 : decode cX6_tellRow 120 = .ok (.return_, 1) := by decide +kernel
set_option maxRecDepth 20000 in
theorem ggX6_canFire_X6_isTransition : GoodIn wsX6_canFire wsX6_isTransition := goodIn_r _ [6, 7, 11, 12, 13, 14, 15, 16, 17, 18, 19, 20, 21, 22, 23, 24, 25, 26, 27, 28, 29, 30, 31, 32, 33, 34, 35, 36, 37] (by decide +kernel) (by decide +kernel)
set_option maxRecDepth 20000 in
theorem gX6_canFire_X6_isTransition : GoodIn wsX6_canFire (wsV RX6 73 RX6 yX6_isTransition wsX6_isTransition) := goodIn_app (goodIn_of _ (by decide +kernel)) ggX6_canFire_X6_isTransition
set_option maxRecDepth 20000 in
theorem ggX6_canFire_X6_tops : GoodIn wsX6_canFire wsX6_tops := goodIn_r _ [10] (by decide +kernel) (by decide +kernel)
set_option maxRecDepth 20000 in
theorem gX6_canFire_X6_tops : GoodIn wsX6_canFire (va_wsS RX6 83 yX6_tops wsX6_tops) := goodIn_app (goodIn_of _ (by decide +kernel)) ggX6_canFire_X6_tops
theorem dX6_canFire_0 : decode cX6_canFire 0 = .ok (.aload_n 0, 1) := by decide +kernel
theorem dX6_canFire_1 : decode cX6_canFire 1 = .ok (.iload_n 3, 1) := by decide +kernel
theorem dX6_canFire_2 : decode cX6_canFire 2 = .ok (.invokevirtual 73, 3) := by decide +kernel
theorem dX6_canFire_5 : decode cX6_canFire 5 = .ok (.ifCond .eq 22, 3) := by decide +kernel
theorem dX6_canFire_8 : decode cX6_canFire 8 = .ok (.aload_n 1, 1) := by decide +kernel
theorem dX6_canFire_9 : decode cX6_canFire 9 = .ok (.iload_n 2, 1) := by decide +kernel
theorem dX6_canFire_10 : decode cX6_canFire 10 = .ok (.aload_n 0, 1) := by decide +kernel
theorem dX6_canFire_11 : decode cX6_canFire 11 = .ok (.getfield 16, 3) := by decide +kernel
theorem dX6_canFire_14 : decode cX6_canFire 14 = .ok (.iconst 5, 1) := by decide +kernel
theorem dX6_canFire_15 : decode cX6_canFire 15 = .ok (.iload_n 3, 1) := by decide +kernel
theorem dX6_canFire_16 : decode cX6_canFire 16 = .ok (.imul, 1) := by decide +kernel
theorem dX6_canFire_17 : decode cX6_canFire 17 = .ok (.invokestatic 83, 3) := by decide +kernel
theorem dX6_canFire_20 : decode cX6_canFire 20 = .ok (.ifCond .eq 7, 3) := by decide +kernel
theorem dX6_canFire_23 : decode cX6_canFire 23 = .ok (.iconst 1, 1) := by decide +kernel
theorem dX6_canFire_24 : decode cX6_canFire 24 = .ok (.goto 4, 3) := by decide +kernel
theorem dX6_canFire_27 : decode cX6_canFire 27 = .ok (.iconst 0, 1) := by decide +kernel
theorem dX6_canFire_28 : decode cX6_canFire 28 = .ok (.ireturn, 1) := by decide +kernel
set_option maxRecDepth 20000 in
theorem ggX6_leads_X6_canFire : GoodIn wsX6_leads wsX6_canFire := goodIn_r _ [8, 3, 9, 10, 11, 7, 12, 13, 14, 15, 16, 23, 24, 25, 26, 27, 28, 29, 30, 31, 32, 33, 34, 35, 36, 37, 38, 39, 40, 41, 42, 43, 44, 45, 46, 47, 48, 49] (by decide +kernel) (by decide +kernel)
set_option maxRecDepth 20000 in
theorem gX6_leads_X6_canFire : GoodIn wsX6_leads (wsV RX6 116 RX6 yX6_canFire wsX6_canFire) := goodIn_app (goodIn_of _ (by decide +kernel)) ggX6_leads_X6_canFire
set_option maxRecDepth 20000 in
theorem ggX6_leads_X6_isInRound : GoodIn wsX6_leads wsX6_isInRound := goodIn_r _ [20, 21, 22, 14, 15, 7, 16, 23, 24, 25, 26, 27, 28, 29, 30, 31, 32, 33, 34, 35, 36, 37, 38, 39, 40, 41, 42, 43, 44, 45, 46, 47, 48, 49] (by decide +kernel) (by decide +kernel)
set_option maxRecDepth 20000 in
theorem gX6_leads_X6_isInRound : GoodIn wsX6_leads (wsV RX6 119 RX6 yX6_isInRound wsX6_isInRound) := goodIn_app (goodIn_of _ (by decide +kernel)) ggX6_leads_X6_isInRound
theorem dX6_leads_0 : decode cX6_leads 0 = .ok (.aload_n 0, 1) := by decide +kernel
theorem dX6_leads_1 : decode cX6_leads 1 = .ok (.aload_n 1, 1) := by decide +kernel
theorem dX6_leads_2 : decode cX6_leads 2 = .ok (.iconst 0, 1) := by decide +kernel
theorem dX6_leads_3 : decode cX6_leads 3 = .ok (.iload_n 2, 1) := by decide +kernel
theorem dX6_leads_4 : decode cX6_leads 4 = .ok (.invokevirtual 116, 3) := by decide +kernel
theorem dX6_leads_7 : decode cX6_leads 7 = .ok (.ifCond .ne 5, 3) := by decide +kernel
theorem dX6_leads_10 : decode cX6_leads 10 = .ok (.iconst 0, 1) := by decide +kernel
theorem dX6_leads_11 : decode cX6_leads 11 = .ok (.ireturn, 1) := by decide +kernel
theorem dX6_leads_12 : decode cX6_leads 12 = .ok (.iconst 0, 1) := by decide +kernel
theorem dX6_leads_13 : decode cX6_leads 13 = .ok (.istore 4, 2) := by decide +kernel
theorem dX6_leads_15 : decode cX6_leads 15 = .ok (.iload 4, 2) := by decide +kernel
theorem dX6_leads_17 : decode cX6_leads 17 = .ok (.iconst 5, 1) := by decide +kernel
theorem dX6_leads_18 : decode cX6_leads 18 = .ok (.if_icmp .ge 44, 3) := by decide +kernel
theorem dX6_leads_21 : decode cX6_leads 21 = .ok (.aload_n 0, 1) := by decide +kernel
theorem dX6_leads_22 : decode cX6_leads 22 = .ok (.getfield 54, 3) := by decide +kernel
theorem dX6_leads_25 : decode cX6_leads 25 = .ok (.iload 4, 2) := by decide +kernel
theorem dX6_leads_27 : decode cX6_leads 27 = .ok (.aload_n 1, 1) := by decide +kernel
theorem dX6_leads_28 : decode cX6_leads 28 = .ok (.iload 4, 2) := by decide +kernel
theorem dX6_leads_30 : decode cX6_leads 30 = .ok (.iaload, 1) := by decide +kernel
theorem dX6_leads_31 : decode cX6_leads 31 = .ok (.aload_n 0, 1) := by decide +kernel
theorem dX6_leads_32 : decode cX6_leads 32 = .ok (.getfield 19, 3) := by decide +kernel
theorem dX6_leads_35 : decode cX6_leads 35 = .ok (.iconst 5, 1) := by decide +kernel
theorem dX6_leads_36 : decode cX6_leads 36 = .ok (.iload_n 2, 1) := by decide +kernel
theorem dX6_leads_37 : decode cX6_leads 37 = .ok (.imul, 1) := by decide +kernel
theorem dX6_leads_38 : decode cX6_leads 38 = .ok (.iload 4, 2) := by decide +kernel
theorem dX6_leads_40 : decode cX6_leads 40 = .ok (.iadd, 1) := by decide +kernel
theorem dX6_leads_41 : decode cX6_leads 41 = .ok (.iaload, 1) := by decide +kernel
theorem dX6_leads_42 : decode cX6_leads 42 = .ok (.iadd, 1) := by decide +kernel
theorem dX6_leads_43 : decode cX6_leads 43 = .ok (.aload_n 0, 1) := by decide +kernel
theorem dX6_leads_44 : decode cX6_leads 44 = .ok (.getfield 16, 3) := by decide +kernel
theorem dX6_leads_47 : decode cX6_leads 47 = .ok (.iconst 5, 1) := by decide +kernel
theorem dX6_leads_48 : decode cX6_leads 48 = .ok (.iload_n 2, 1) := by decide +kernel
theorem dX6_leads_49 : decode cX6_leads 49 = .ok (.imul, 1) := by decide +kernel
theorem dX6_leads_50 : decode cX6_leads 50 = .ok (.iload 4, 2) := by decide +kernel
theorem dX6_leads_52 : decode cX6_leads 52 = .ok (.iadd, 1) := by decide +kernel
theorem dX6_leads_53 : decode cX6_leads 53 = .ok (.iaload, 1) := by decide +kernel
theorem dX6_leads_54 : decode cX6_leads 54 = .ok (.isub, 1) := by decide +kernel
theorem dX6_leads_55 : decode cX6_leads 55 = .ok (.iastore, 1) := by decide +kernel
theorem dX6_leads_56 : decode cX6_leads 56 = .ok (.iinc 4 1, 3) := by decide +kernel
theorem dX6_leads_59 : decode cX6_leads 59 = .ok (.goto (-44), 3) := by decide +kernel
theorem dX6_leads_62 : decode cX6_leads 62 = .ok (.aload_n 0, 1) := by decide +kernel
theorem dX6_leads_63 : decode cX6_leads 63 = .ok (.aload_n 0, 1) := by decide +kernel
theorem dX6_leads_64 : decode cX6_leads 64 = .ok (.getfield 54, 3) := by decide +kernel
theorem dX6_leads_67 : decode cX6_leads 67 = .ok (.iload_n 3, 1) := by decide +kernel
theorem dX6_leads_68 : decode cX6_leads 68 = .ok (.invokevirtual 119, 3) := by decide +kernel
theorem dX6_leads_71 : decode cX6_leads 71 = .ok (.ireturn, 1) := by decide +kernel
theorem dX6_steps_0 : decode cX6_steps 0 = .ok (.aload_n 0, 1) := by decide +kernel
theorem dX6_steps_1 : decode cX6_steps 1 = .ok (.getfield 25, 3) := by decide +kernel
theorem dX6_steps_4 : decode cX6_steps 4 = .ok (.iconst 1, 1) := by decide +kernel
theorem dX6_steps_5 : decode cX6_steps 5 = .ok (.if_icmp .ne 10, 3) := by decide +kernel
theorem dX6_steps_8 : decode cX6_steps 8 = .ok (.aload_n 0, 1) := by decide +kernel
theorem dX6_steps_9 : decode cX6_steps 9 = .ok (.getfield 96, 3) := by decide +kernel
theorem dX6_steps_12 : decode cX6_steps 12 = .ok (.goto 4, 3) := by decide +kernel
theorem dX6_steps_15 : decode cX6_steps 15 = .ok (.iconst (-1), 1) := by decide +kernel
theorem dX6_steps_16 : decode cX6_steps 16 = .ok (.ireturn, 1) := by decide +kernel
theorem dX6_witness_0 : decode cX6_witness 0 = .ok (.aload_n 0, 1) := by decide +kernel
theorem dX6_witness_1 : decode cX6_witness 1 = .ok (.getfield 25, 3) := by decide +kernel
theorem dX6_witness_4 : decode cX6_witness 4 = .ok (.iconst 1, 1) := by decide +kernel
theorem dX6_witness_5 : decode cX6_witness 5 = .ok (.if_icmp .ne 24, 3) := by decide +kernel
theorem dX6_witness_8 : decode cX6_witness 8 = .ok (.iload_n 1, 1) := by decide +kernel
theorem dX6_witness_9 : decode cX6_witness 9 = .ok (.ifCond .lt 20, 3) := by decide +kernel
theorem dX6_witness_12 : decode cX6_witness 12 = .ok (.iload_n 1, 1) := by decide +kernel
theorem dX6_witness_13 : decode cX6_witness 13 = .ok (.aload_n 0, 1) := by decide +kernel
theorem dX6_witness_14 : decode cX6_witness 14 = .ok (.getfield 96, 3) := by decide +kernel
theorem dX6_witness_17 : decode cX6_witness 17 = .ok (.if_icmp .ge 12, 3) := by decide +kernel
theorem dX6_witness_20 : decode cX6_witness 20 = .ok (.aload_n 0, 1) := by decide +kernel
theorem dX6_witness_21 : decode cX6_witness 21 = .ok (.getfield 42, 3) := by decide +kernel
theorem dX6_witness_24 : decode cX6_witness 24 = .ok (.iload_n 1, 1) := by decide +kernel
theorem dX6_witness_25 : decode cX6_witness 25 = .ok (.iaload, 1) := by decide +kernel
theorem dX6_witness_26 : decode cX6_witness 26 = .ok (.goto 4, 3) := by decide +kernel
theorem dX6_witness_29 : decode cX6_witness 29 = .ok (.iconst (-1), 1) := by decide +kernel
theorem dX6_witness_30 : decode cX6_witness 30 = .ok (.ireturn, 1) := by decide +kernel
theorem dX6_least_0 : decode cX6_least 0 = .ok (.aload_n 0, 1) := by decide +kernel
theorem dX6_least_1 : decode cX6_least 1 = .ok (.getfield 25, 3) := by decide +kernel
theorem dX6_least_4 : decode cX6_least 4 = .ok (.iconst 2, 1) := by decide +kernel
theorem dX6_least_5 : decode cX6_least 5 = .ok (.if_icmp .ge 24, 3) := by decide +kernel
theorem dX6_least_8 : decode cX6_least 8 = .ok (.iload_n 1, 1) := by decide +kernel
theorem dX6_least_9 : decode cX6_least 9 = .ok (.ifCond .lt 20, 3) := by decide +kernel
theorem dX6_least_12 : decode cX6_least 12 = .ok (.iload_n 1, 1) := by decide +kernel
theorem dX6_least_13 : decode cX6_least 13 = .ok (.aload_n 0, 1) := by decide +kernel
theorem dX6_least_14 : decode cX6_least 14 = .ok (.getfield 96, 3) := by decide +kernel
theorem dX6_least_17 : decode cX6_least 17 = .ok (.if_icmp .gt 12, 3) := by decide +kernel
theorem dX6_least_20 : decode cX6_least 20 = .ok (.aload_n 0, 1) := by decide +kernel
theorem dX6_least_21 : decode cX6_least 21 = .ok (.getfield 29, 3) := by decide +kernel
theorem dX6_least_24 : decode cX6_least 24 = .ok (.iload_n 1, 1) := by decide +kernel
theorem dX6_least_25 : decode cX6_least 25 = .ok (.iaload, 1) := by decide +kernel
theorem dX6_least_26 : decode cX6_least 26 = .ok (.goto 4, 3) := by decide +kernel
theorem dX6_least_29 : decode cX6_least 29 = .ok (.iconst (-1), 1) := by decide +kernel
theorem dX6_least_30 : decode cX6_least 30 = .ok (.ireturn, 1) := by decide +kernel
set_option maxRecDepth 20000 in
theorem ggX6_isOld_X6_tops : GoodIn wsX6_isOld wsX6_tops := goodIn_r _ [6] (by decide +kernel) (by decide +kernel)
set_option maxRecDepth 20000 in
theorem gX6_isOld_X6_tops : GoodIn wsX6_isOld (va_wsS RX6 83 yX6_tops wsX6_tops) := goodIn_app (goodIn_of _ (by decide +kernel)) ggX6_isOld_X6_tops
theorem dX6_isOld_0 : decode cX6_isOld 0 = .ok (.iconst 0, 1) := by decide +kernel
theorem dX6_isOld_1 : decode cX6_isOld 1 = .ok (.istore_n 2, 1) := by decide +kernel
theorem dX6_isOld_2 : decode cX6_isOld 2 = .ok (.aload_n 0, 1) := by decide +kernel
theorem dX6_isOld_3 : decode cX6_isOld 3 = .ok (.getfield 48, 3) := by decide +kernel
theorem dX6_isOld_6 : decode cX6_isOld 6 = .ok (.iload_n 1, 1) := by decide +kernel
theorem dX6_isOld_7 : decode cX6_isOld 7 = .ok (.iaload, 1) := by decide +kernel
theorem dX6_isOld_8 : decode cX6_isOld 8 = .ok (.istore_n 3, 1) := by decide +kernel
theorem dX6_isOld_9 : decode cX6_isOld 9 = .ok (.iload_n 3, 1) := by decide +kernel
theorem dX6_isOld_10 : decode cX6_isOld 10 = .ok (.ifCond .lt 63, 3) := by decide +kernel
theorem dX6_isOld_13 : decode cX6_isOld 13 = .ok (.iload_n 2, 1) := by decide +kernel
theorem dX6_isOld_14 : decode cX6_isOld 14 = .ok (.ifCond .ne 43, 3) := by decide +kernel
theorem dX6_isOld_17 : decode cX6_isOld 17 = .ok (.aload_n 0, 1) := by decide +kernel
theorem dX6_isOld_18 : decode cX6_isOld 18 = .ok (.getfield 45, 3) := by decide +kernel
theorem dX6_isOld_21 : decode cX6_isOld 21 = .ok (.iconst 5, 1) := by decide +kernel
theorem dX6_isOld_22 : decode cX6_isOld 22 = .ok (.iload_n 3, 1) := by decide +kernel
theorem dX6_isOld_23 : decode cX6_isOld 23 = .ok (.imul, 1) := by decide +kernel
theorem dX6_isOld_24 : decode cX6_isOld 24 = .ok (.aload_n 0, 1) := by decide +kernel
theorem dX6_isOld_25 : decode cX6_isOld 25 = .ok (.getfield 45, 3) := by decide +kernel
theorem dX6_isOld_28 : decode cX6_isOld 28 = .ok (.iconst 5, 1) := by decide +kernel
theorem dX6_isOld_29 : decode cX6_isOld 29 = .ok (.iload_n 1, 1) := by decide +kernel
theorem dX6_isOld_30 : decode cX6_isOld 30 = .ok (.imul, 1) := by decide +kernel
theorem dX6_isOld_31 : decode cX6_isOld 31 = .ok (.invokestatic 83, 3) := by decide +kernel
theorem dX6_isOld_34 : decode cX6_isOld 34 = .ok (.ifCond .eq 27, 3) := by decide +kernel
theorem dX6_isOld_37 : decode cX6_isOld 37 = .ok (.aload_n 0, 1) := by decide +kernel
theorem dX6_isOld_38 : decode cX6_isOld 38 = .ok (.getfield 45, 3) := by decide +kernel
theorem dX6_isOld_41 : decode cX6_isOld 41 = .ok (.iconst 5, 1) := by decide +kernel
theorem dX6_isOld_42 : decode cX6_isOld 42 = .ok (.iload_n 1, 1) := by decide +kernel
theorem dX6_isOld_43 : decode cX6_isOld 43 = .ok (.imul, 1) := by decide +kernel
theorem dX6_isOld_44 : decode cX6_isOld 44 = .ok (.aload_n 0, 1) := by decide +kernel
theorem dX6_isOld_45 : decode cX6_isOld 45 = .ok (.getfield 45, 3) := by decide +kernel
theorem dX6_isOld_48 : decode cX6_isOld 48 = .ok (.iconst 5, 1) := by decide +kernel
theorem dX6_isOld_49 : decode cX6_isOld 49 = .ok (.iload_n 3, 1) := by decide +kernel
theorem dX6_isOld_50 : decode cX6_isOld 50 = .ok (.imul, 1) := by decide +kernel
theorem dX6_isOld_51 : decode cX6_isOld 51 = .ok (.invokestatic 83, 3) := by decide +kernel
theorem dX6_isOld_54 : decode cX6_isOld 54 = .ok (.ifCond .eq 7, 3) := by decide +kernel
theorem dX6_isOld_57 : decode cX6_isOld 57 = .ok (.iconst 1, 1) := by decide +kernel
theorem dX6_isOld_58 : decode cX6_isOld 58 = .ok (.goto 4, 3) := by decide +kernel
theorem dX6_isOld_61 : decode cX6_isOld 61 = .ok (.iconst 0, 1) := by decide +kernel
theorem dX6_isOld_62 : decode cX6_isOld 62 = .ok (.istore_n 2, 1) := by decide +kernel
theorem dX6_isOld_63 : decode cX6_isOld 63 = .ok (.aload_n 0, 1) := by decide +kernel
theorem dX6_isOld_64 : decode cX6_isOld 64 = .ok (.getfield 48, 3) := by decide +kernel
theorem dX6_isOld_67 : decode cX6_isOld 67 = .ok (.iload_n 3, 1) := by decide +kernel
theorem dX6_isOld_68 : decode cX6_isOld 68 = .ok (.iaload, 1) := by decide +kernel
theorem dX6_isOld_69 : decode cX6_isOld 69 = .ok (.istore_n 3, 1) := by decide +kernel
theorem dX6_isOld_70 : decode cX6_isOld 70 = .ok (.goto (-61), 3) := by decide +kernel
theorem dX6_isOld_73 : decode cX6_isOld 73 = .ok (.iload_n 2, 1) := by decide +kernel
theorem dX6_isOld_74 : decode cX6_isOld 74 = .ok (.ireturn, 1) := by decide +kernel
set_option maxRecDepth 20000 in
theorem ggX6_accelerate_X6_tops : GoodIn wsX6_accelerate wsX6_tops := goodIn_r _ [8] (by decide +kernel) (by decide +kernel)
set_option maxRecDepth 20000 in
theorem gX6_accelerate_X6_tops : GoodIn wsX6_accelerate (va_wsS RX6 83 yX6_tops wsX6_tops) := goodIn_app (goodIn_of _ (by decide +kernel)) ggX6_accelerate_X6_tops
theorem dX6_accelerate_0 : decode cX6_accelerate 0 = .ok (.iconst 1, 1) := by decide +kernel
theorem dX6_accelerate_1 : decode cX6_accelerate 1 = .ok (.istore_n 2, 1) := by decide +kernel
theorem dX6_accelerate_2 : decode cX6_accelerate 2 = .ok (.iload_n 2, 1) := by decide +kernel
theorem dX6_accelerate_3 : decode cX6_accelerate 3 = .ok (.ifCond .eq 136, 3) := by decide +kernel
theorem dX6_accelerate_6 : decode cX6_accelerate 6 = .ok (.iconst 0, 1) := by decide +kernel
theorem dX6_accelerate_7 : decode cX6_accelerate 7 = .ok (.istore_n 2, 1) := by decide +kernel
theorem dX6_accelerate_8 : decode cX6_accelerate 8 = .ok (.iload_n 1, 1) := by decide +kernel
theorem dX6_accelerate_9 : decode cX6_accelerate 9 = .ok (.istore_n 3, 1) := by decide +kernel
theorem dX6_accelerate_10 : decode cX6_accelerate 10 = .ok (.iload_n 3, 1) := by decide +kernel
theorem dX6_accelerate_11 : decode cX6_accelerate 11 = .ok (.ifCond .lt 125, 3) := by decide +kernel
theorem dX6_accelerate_14 : decode cX6_accelerate 14 = .ok (.aload_n 0, 1) := by decide +kernel
theorem dX6_accelerate_15 : decode cX6_accelerate 15 = .ok (.getfield 54, 3) := by decide +kernel
theorem dX6_accelerate_18 : decode cX6_accelerate 18 = .ok (.iconst 0, 1) := by decide +kernel
theorem dX6_accelerate_19 : decode cX6_accelerate 19 = .ok (.aload_n 0, 1) := by decide +kernel
theorem dX6_accelerate_20 : decode cX6_accelerate 20 = .ok (.getfield 45, 3) := by decide +kernel
theorem dX6_accelerate_23 : decode cX6_accelerate 23 = .ok (.iconst 5, 1) := by decide +kernel
theorem dX6_accelerate_24 : decode cX6_accelerate 24 = .ok (.iload_n 3, 1) := by decide +kernel
theorem dX6_accelerate_25 : decode cX6_accelerate 25 = .ok (.imul, 1) := by decide +kernel
theorem dX6_accelerate_26 : decode cX6_accelerate 26 = .ok (.invokestatic 83, 3) := by decide +kernel
theorem dX6_accelerate_29 : decode cX6_accelerate 29 = .ok (.ifCond .eq 97, 3) := by decide +kernel
theorem dX6_accelerate_32 : decode cX6_accelerate 32 = .ok (.iconst 0, 1) := by decide +kernel
theorem dX6_accelerate_33 : decode cX6_accelerate 33 = .ok (.istore 4, 2) := by decide +kernel
theorem dX6_accelerate_35 : decode cX6_accelerate 35 = .ok (.iload 4, 2) := by decide +kernel
theorem dX6_accelerate_37 : decode cX6_accelerate 37 = .ok (.iconst 5, 1) := by decide +kernel
theorem dX6_accelerate_38 : decode cX6_accelerate 38 = .ok (.if_icmp .ge 88, 3) := by decide +kernel
theorem dX6_accelerate_41 : decode cX6_accelerate 41 = .ok (.aload_n 0, 1) := by decide +kernel
theorem dX6_accelerate_42 : decode cX6_accelerate 42 = .ok (.getfield 54, 3) := by decide +kernel
theorem dX6_accelerate_45 : decode cX6_accelerate 45 = .ok (.iload 4, 2) := by decide +kernel
theorem dX6_accelerate_47 : decode cX6_accelerate 47 = .ok (.iaload, 1) := by decide +kernel
theorem dX6_accelerate_48 : decode cX6_accelerate 48 = .ok (.aload_n 0, 1) := by decide +kernel
theorem dX6_accelerate_49 : decode cX6_accelerate 49 = .ok (.getfield 45, 3) := by decide +kernel
theorem dX6_accelerate_52 : decode cX6_accelerate 52 = .ok (.iconst 5, 1) := by decide +kernel
theorem dX6_accelerate_53 : decode cX6_accelerate 53 = .ok (.iload_n 3, 1) := by decide +kernel
theorem dX6_accelerate_54 : decode cX6_accelerate 54 = .ok (.imul, 1) := by decide +kernel
theorem dX6_accelerate_55 : decode cX6_accelerate 55 = .ok (.iload 4, 2) := by decide +kernel
theorem dX6_accelerate_57 : decode cX6_accelerate 57 = .ok (.iadd, 1) := by decide +kernel
theorem dX6_accelerate_58 : decode cX6_accelerate 58 = .ok (.iaload, 1) := by decide +kernel
theorem dX6_accelerate_59 : decode cX6_accelerate 59 = .ok (.if_icmp .le 19, 3) := by decide +kernel
theorem dX6_accelerate_62 : decode cX6_accelerate 62 = .ok (.aload_n 0, 1) := by decide +kernel
theorem dX6_accelerate_63 : decode cX6_accelerate 63 = .ok (.getfield 54, 3) := by decide +kernel
theorem dX6_accelerate_66 : decode cX6_accelerate 66 = .ok (.iload 4, 2) := by decide +kernel
theorem dX6_accelerate_68 : decode cX6_accelerate 68 = .ok (.iaload, 1) := by decide +kernel
theorem dX6_accelerate_69 : decode cX6_accelerate 69 = .ok (.ldc 123, 2) := by decide +kernel
theorem dX6_accelerate_71 : decode cX6_accelerate 71 = .ok (.if_icmp .ge 7, 3) := by decide +kernel
theorem dX6_accelerate_74 : decode cX6_accelerate 74 = .ok (.iconst 1, 1) := by decide +kernel
theorem dX6_accelerate_75 : decode cX6_accelerate 75 = .ok (.goto 4, 3) := by decide +kernel
theorem dX6_accelerate_78 : decode cX6_accelerate 78 = .ok (.iconst 0, 1) := by decide +kernel
theorem dX6_accelerate_79 : decode cX6_accelerate 79 = .ok (.istore 5, 2) := by decide +kernel
theorem dX6_accelerate_81 : decode cX6_accelerate 81 = .ok (.aload_n 0, 1) := by decide +kernel
theorem dX6_accelerate_82 : decode cX6_accelerate 82 = .ok (.getfield 54, 3) := by decide +kernel
theorem dX6_accelerate_85 : decode cX6_accelerate 85 = .ok (.iload 4, 2) := by decide +kernel
theorem dX6_accelerate_87 : decode cX6_accelerate 87 = .ok (.iload 5, 2) := by decide +kernel
theorem dX6_accelerate_89 : decode cX6_accelerate 89 = .ok (.ifCond .eq 8, 3) := by decide +kernel
theorem dX6_accelerate_92 : decode cX6_accelerate 92 = .ok (.ldc 123, 2) := by decide +kernel
theorem dX6_accelerate_94 : decode cX6_accelerate 94 = .ok (.goto 10, 3) := by decide +kernel
theorem dX6_accelerate_97 : decode cX6_accelerate 97 = .ok (.aload_n 0, 1) := by decide +kernel
theorem dX6_accelerate_98 : decode cX6_accelerate 98 = .ok (.getfield 54, 3) := by decide +kernel
theorem dX6_accelerate_101 : decode cX6_accelerate 101 = .ok (.iload 4, 2) := by decide +kernel
theorem dX6_accelerate_103 : decode cX6_accelerate 103 = .ok (.iaload, 1) := by decide +kernel
theorem dX6_accelerate_104 : decode cX6_accelerate 104 = .ok (.iastore, 1) := by decide +kernel
theorem dX6_accelerate_105 : decode cX6_accelerate 105 = .ok (.iload_n 2, 1) := by decide +kernel
theorem dX6_accelerate_106 : decode cX6_accelerate 106 = .ok (.ifCond .ne 8, 3) := by decide +kernel
theorem dX6_accelerate_109 : decode cX6_accelerate 109 = .ok (.iload 5, 2) := by decide +kernel
theorem dX6_accelerate_111 : decode cX6_accelerate 111 = .ok (.ifCond .eq 7, 3) := by decide +kernel
theorem dX6_accelerate_114 : decode cX6_accelerate 114 = .ok (.iconst 1, 1) := by decide +kernel
theorem dX6_accelerate_115 : decode cX6_accelerate 115 = .ok (.goto 4, 3) := by decide +kernel
theorem dX6_accelerate_118 : decode cX6_accelerate 118 = .ok (.iconst 0, 1) := by decide +kernel
theorem dX6_accelerate_119 : decode cX6_accelerate 119 = .ok (.istore_n 2, 1) := by decide +kernel
theorem dX6_accelerate_120 : decode cX6_accelerate 120 = .ok (.iinc 4 1, 3) := by decide +kernel
theorem dX6_accelerate_123 : decode cX6_accelerate 123 = .ok (.goto (-88), 3) := by decide +kernel
theorem dX6_accelerate_126 : decode cX6_accelerate 126 = .ok (.aload_n 0, 1) := by decide +kernel
theorem dX6_accelerate_127 : decode cX6_accelerate 127 = .ok (.getfield 48, 3) := by decide +kernel
theorem dX6_accelerate_130 : decode cX6_accelerate 130 = .ok (.iload_n 3, 1) := by decide +kernel
theorem dX6_accelerate_131 : decode cX6_accelerate 131 = .ok (.iaload, 1) := by decide +kernel
theorem dX6_accelerate_132 : decode cX6_accelerate 132 = .ok (.istore_n 3, 1) := by decide +kernel
theorem dX6_accelerate_133 : decode cX6_accelerate 133 = .ok (.goto (-123), 3) := by decide +kernel
theorem dX6_accelerate_136 : decode cX6_accelerate 136 = .ok (.goto (-134), 3) := by decide +kernel
theorem dX6_accelerate_139 : decode cX6_accelerate 139 = .ok (.return_, 1) := by decide +kernel
set_option maxRecDepth 20000 in
theorem ggX6_grow_X6_isOld : GoodIn wsX6_grow wsX6_isOld := goodIn_r _ [17, 3, 4, 18, 19, 16, 20, 44, 45, 46, 47, 48, 49, 50, 51, 52, 53, 54, 55, 56, 57, 58, 59, 60, 61, 62, 63, 64, 65, 66, 67, 68, 69, 70] (by decide +kernel) (by decide +kernel)
set_option maxRecDepth 20000 in
theorem gX6_grow_X6_isOld : GoodIn wsX6_grow (wsV RX6 131 RX6 yX6_isOld wsX6_isOld) := goodIn_app (goodIn_of _ (by decide +kernel)) ggX6_grow_X6_isOld
set_option maxRecDepth 20000 in
theorem ggX6_grow_X6_canFire : GoodIn wsX6_grow wsX6_canFire := goodIn_r _ [24, 10, 25, 26, 27, 16, 28, 6, 18, 19, 20, 44, 45, 46, 47, 48, 49, 50, 51, 52, 53, 54, 55, 56, 57, 58, 59, 60, 61, 62, 63, 64, 65, 66, 67, 68, 69, 70] (by decide +kernel) (by decide +kernel)
set_option maxRecDepth 20000 in
theorem gX6_grow_X6_canFire : GoodIn wsX6_grow (wsV RX6 116 RX6 yX6_canFire wsX6_canFire) := goodIn_app (goodIn_of _ (by decide +kernel)) ggX6_grow_X6_canFire
set_option maxRecDepth 20000 in
theorem ggX6_grow_X6_accelerate : GoodIn wsX6_grow wsX6_accelerate := goodIn_r _ [32, 7, 4, 8, 3, 18, 19, 16, 20, 44, 45, 46, 47, 48, 49, 50, 51, 52, 53, 54, 55, 56, 57, 58, 59, 60, 61, 62, 63, 64, 65, 66, 67, 68, 69, 70] (by decide +kernel) (by decide +kernel)
set_option maxRecDepth 20000 in
theorem gX6_grow_X6_accelerate : GoodIn wsX6_grow (wsV RX6 134 RX6 yX6_accelerate wsX6_accelerate) := goodIn_app (goodIn_of _ (by decide +kernel)) ggX6_grow_X6_accelerate
set_option maxRecDepth 20000 in
theorem ggX6_grow_X6_tellTree : GoodIn wsX6_grow wsX6_tellTree := goodIn_r _ [36, 37, 2, 6, 4, 38, 39, 21, 22, 23, 16, 24, 10, 25, 26, 27, 28, 18, 19, 20, 40, 41, 42, 43, 44, 45, 46, 47, 48, 49, 50, 51, 52, 53, 54, 55, 56, 57, 58, 59, 60, 61, 62, 63, 64, 65, 66, 67, 68, 69, 70] (by decide +kernel) (by decide +kernel)
set_option maxRecDepth 20000 in
theorem gX6_grow_X6_tellTree : GoodIn wsX6_grow (wsV RX6 141 RX6 yX6_tellTree wsX6_tellTree) := goodIn_app (goodIn_of _ (by decide +kernel)) ggX6_grow_X6_tellTree
theorem dX6_grow_0 : decode cX6_grow 0 = .ok (.aload_n 0, 1) := by decide +kernel
theorem dX6_grow_1 : decode cX6_grow 1 = .ok (.iconst 0, 1) := by decide +kernel
theorem dX6_grow_2 : decode cX6_grow 2 = .ok (.putfield 124, 3) := by decide +kernel
theorem dX6_grow_5 : decode cX6_grow 5 = .ok (.aload_n 0, 1) := by decide +kernel
theorem dX6_grow_6 : decode cX6_grow 6 = .ok (.iconst 1, 1) := by decide +kernel
theorem dX6_grow_7 : decode cX6_grow 7 = .ok (.putfield 128, 3) := by decide +kernel
theorem dX6_grow_10 : decode cX6_grow 10 = .ok (.aload_n 0, 1) := by decide +kernel
theorem dX6_grow_11 : decode cX6_grow 11 = .ok (.getfield 48, 3) := by decide +kernel
theorem dX6_grow_14 : decode cX6_grow 14 = .ok (.iconst 0, 1) := by decide +kernel
theorem dX6_grow_15 : decode cX6_grow 15 = .ok (.iconst (-1), 1) := by decide +kernel
theorem dX6_grow_16 : decode cX6_grow 16 = .ok (.iastore, 1) := by decide +kernel
theorem dX6_grow_17 : decode cX6_grow 17 = .ok (.iconst 0, 1) := by decide +kernel
theorem dX6_grow_18 : decode cX6_grow 18 = .ok (.istore_n 1, 1) := by decide +kernel
theorem dX6_grow_19 : decode cX6_grow 19 = .ok (.iload_n 1, 1) := by decide +kernel
theorem dX6_grow_20 : decode cX6_grow 20 = .ok (.iconst 5, 1) := by decide +kernel
theorem dX6_grow_21 : decode cX6_grow 21 = .ok (.if_icmp .ge 21, 3) := by decide +kernel
theorem dX6_grow_24 : decode cX6_grow 24 = .ok (.aload_n 0, 1) := by decide +kernel
theorem dX6_grow_25 : decode cX6_grow 25 = .ok (.getfield 45, 3) := by decide +kernel
theorem dX6_grow_28 : decode cX6_grow 28 = .ok (.iload_n 1, 1) := by decide +kernel
theorem dX6_grow_29 : decode cX6_grow 29 = .ok (.aload_n 0, 1) := by decide +kernel
theorem dX6_grow_30 : decode cX6_grow 30 = .ok (.getfield 7, 3) := by decide +kernel
theorem dX6_grow_33 : decode cX6_grow 33 = .ok (.iload_n 1, 1) := by decide +kernel
theorem dX6_grow_34 : decode cX6_grow 34 = .ok (.iaload, 1) := by decide +kernel
theorem dX6_grow_35 : decode cX6_grow 35 = .ok (.iastore, 1) := by decide +kernel
theorem dX6_grow_36 : decode cX6_grow 36 = .ok (.iinc 1 1, 3) := by decide +kernel
theorem dX6_grow_39 : decode cX6_grow 39 = .ok (.goto (-20), 3) := by decide +kernel
theorem dX6_grow_42 : decode cX6_grow 42 = .ok (.iconst 0, 1) := by decide +kernel
theorem dX6_grow_43 : decode cX6_grow 43 = .ok (.istore_n 1, 1) := by decide +kernel
theorem dX6_grow_44 : decode cX6_grow 44 = .ok (.iload_n 1, 1) := by decide +kernel
theorem dX6_grow_45 : decode cX6_grow 45 = .ok (.aload_n 0, 1) := by decide +kernel
theorem dX6_grow_46 : decode cX6_grow 46 = .ok (.getfield 128, 3) := by decide +kernel
theorem dX6_grow_49 : decode cX6_grow 49 = .ok (.if_icmp .ge 192, 3) := by decide +kernel
theorem dX6_grow_52 : decode cX6_grow 52 = .ok (.aload_n 0, 1) := by decide +kernel
theorem dX6_grow_53 : decode cX6_grow 53 = .ok (.getfield 128, 3) := by decide +kernel
theorem dX6_grow_56 : decode cX6_grow 56 = .ok (.sipush 1000, 3) := by decide +kernel
theorem dX6_grow_59 : decode cX6_grow 59 = .ok (.if_icmp .gt 182, 3) := by decide +kernel
theorem dX6_grow_62 : decode cX6_grow 62 = .ok (.iconst 0, 1) := by decide +kernel
theorem dX6_grow_63 : decode cX6_grow 63 = .ok (.istore_n 2, 1) := by decide +kernel
theorem dX6_grow_64 : decode cX6_grow 64 = .ok (.iload_n 2, 1) := by decide +kernel
theorem dX6_grow_65 : decode cX6_grow 65 = .ok (.aload_n 0, 1) := by decide +kernel
theorem dX6_grow_66 : decode cX6_grow 66 = .ok (.getfield 63, 3) := by decide +kernel
theorem dX6_grow_69 : decode cX6_grow 69 = .ok (.if_icmp .ge 166, 3) := by decide +kernel
theorem dX6_grow_72 : decode cX6_grow 72 = .ok (.aload_n 0, 1) := by decide +kernel
theorem dX6_grow_73 : decode cX6_grow 73 = .ok (.iload_n 1, 1) := by decide +kernel
theorem dX6_grow_74 : decode cX6_grow 74 = .ok (.invokevirtual 131, 3) := by decide +kernel
theorem dX6_grow_77 : decode cX6_grow 77 = .ok (.ifCond .ne 158, 3) := by decide +kernel
theorem dX6_grow_80 : decode cX6_grow 80 = .ok (.aload_n 0, 1) := by decide +kernel
theorem dX6_grow_81 : decode cX6_grow 81 = .ok (.getfield 128, 3) := by decide +kernel
theorem dX6_grow_84 : decode cX6_grow 84 = .ok (.sipush 1000, 3) := by decide +kernel
theorem dX6_grow_87 : decode cX6_grow 87 = .ok (.if_icmp .gt 148, 3) := by decide +kernel
theorem dX6_grow_90 : decode cX6_grow 90 = .ok (.aload_n 0, 1) := by decide +kernel
theorem dX6_grow_91 : decode cX6_grow 91 = .ok (.aload_n 0, 1) := by decide +kernel
theorem dX6_grow_92 : decode cX6_grow 92 = .ok (.getfield 45, 3) := by decide +kernel
theorem dX6_grow_95 : decode cX6_grow 95 = .ok (.iconst 5, 1) := by decide +kernel
theorem dX6_grow_96 : decode cX6_grow 96 = .ok (.iload_n 1, 1) := by decide +kernel
theorem dX6_grow_97 : decode cX6_grow 97 = .ok (.imul, 1) := by decide +kernel
theorem dX6_grow_98 : decode cX6_grow 98 = .ok (.iload_n 2, 1) := by decide +kernel
theorem dX6_grow_99 : decode cX6_grow 99 = .ok (.invokevirtual 116, 3) := by decide +kernel
theorem dX6_grow_102 : decode cX6_grow 102 = .ok (.ifCond .eq 127, 3) := by decide +kernel
theorem dX6_grow_105 : decode cX6_grow 105 = .ok (.iconst 0, 1) := by decide +kernel
theorem dX6_grow_106 : decode cX6_grow 106 = .ok (.istore_n 3, 1) := by decide +kernel
theorem dX6_grow_107 : decode cX6_grow 107 = .ok (.iload_n 3, 1) := by decide +kernel
theorem dX6_grow_108 : decode cX6_grow 108 = .ok (.iconst 5, 1) := by decide +kernel
theorem dX6_grow_109 : decode cX6_grow 109 = .ok (.if_icmp .ge 63, 3) := by decide +kernel
theorem dX6_grow_112 : decode cX6_grow 112 = .ok (.aload_n 0, 1) := by decide +kernel
theorem dX6_grow_113 : decode cX6_grow 113 = .ok (.getfield 45, 3) := by decide +kernel
theorem dX6_grow_116 : decode cX6_grow 116 = .ok (.iconst 5, 1) := by decide +kernel
theorem dX6_grow_117 : decode cX6_grow 117 = .ok (.iload_n 1, 1) := by decide +kernel
theorem dX6_grow_118 : decode cX6_grow 118 = .ok (.imul, 1) := by decide +kernel
theorem dX6_grow_119 : decode cX6_grow 119 = .ok (.iload_n 3, 1) := by decide +kernel
theorem dX6_grow_120 : decode cX6_grow 120 = .ok (.iadd, 1) := by decide +kernel
theorem dX6_grow_121 : decode cX6_grow 121 = .ok (.iaload, 1) := by decide +kernel
theorem dX6_grow_122 : decode cX6_grow 122 = .ok (.istore 4, 2) := by decide +kernel
theorem dX6_grow_124 : decode cX6_grow 124 = .ok (.aload_n 0, 1) := by decide +kernel
theorem dX6_grow_125 : decode cX6_grow 125 = .ok (.getfield 54, 3) := by decide +kernel
theorem dX6_grow_128 : decode cX6_grow 128 = .ok (.iload_n 3, 1) := by decide +kernel
theorem dX6_grow_129 : decode cX6_grow 129 = .ok (.iload 4, 2) := by decide +kernel
theorem dX6_grow_131 : decode cX6_grow 131 = .ok (.ldc 123, 2) := by decide +kernel
theorem dX6_grow_133 : decode cX6_grow 133 = .ok (.if_icmp .ne 8, 3) := by decide +kernel
theorem dX6_grow_136 : decode cX6_grow 136 = .ok (.ldc 123, 2) := by decide +kernel
theorem dX6_grow_138 : decode cX6_grow 138 = .ok (.goto 27, 3) := by decide +kernel
theorem dX6_grow_141 : decode cX6_grow 141 = .ok (.iload 4, 2) := by decide +kernel
theorem dX6_grow_143 : decode cX6_grow 143 = .ok (.aload_n 0, 1) := by decide +kernel
theorem dX6_grow_144 : decode cX6_grow 144 = .ok (.getfield 19, 3) := by decide +kernel
theorem dX6_grow_147 : decode cX6_grow 147 = .ok (.iconst 5, 1) := by decide +kernel
theorem dX6_grow_148 : decode cX6_grow 148 = .ok (.iload_n 2, 1) := by decide +kernel
theorem dX6_grow_149 : decode cX6_grow 149 = .ok (.imul, 1) := by decide +kernel
theorem dX6_grow_150 : decode cX6_grow 150 = .ok (.iload_n 3, 1) := by decide +kernel
theorem dX6_grow_151 : decode cX6_grow 151 = .ok (.iadd, 1) := by decide +kernel
theorem dX6_grow_152 : decode cX6_grow 152 = .ok (.iaload, 1) := by decide +kernel
theorem dX6_grow_153 : decode cX6_grow 153 = .ok (.iadd, 1) := by decide +kernel
theorem dX6_grow_154 : decode cX6_grow 154 = .ok (.aload_n 0, 1) := by decide +kernel
theorem dX6_grow_155 : decode cX6_grow 155 = .ok (.getfield 16, 3) := by decide +kernel
theorem dX6_grow_158 : decode cX6_grow 158 = .ok (.iconst 5, 1) := by decide +kernel
theorem dX6_grow_159 : decode cX6_grow 159 = .ok (.iload_n 2, 1) := by decide +kernel
theorem dX6_grow_160 : decode cX6_grow 160 = .ok (.imul, 1) := by decide +kernel
theorem dX6_grow_161 : decode cX6_grow 161 = .ok (.iload_n 3, 1) := by decide +kernel
theorem dX6_grow_162 : decode cX6_grow 162 = .ok (.iadd, 1) := by decide +kernel
theorem dX6_grow_163 : decode cX6_grow 163 = .ok (.iaload, 1) := by decide +kernel
theorem dX6_grow_164 : decode cX6_grow 164 = .ok (.isub, 1) := by decide +kernel
theorem dX6_grow_165 : decode cX6_grow 165 = .ok (.iastore, 1) := by decide +kernel
theorem dX6_grow_166 : decode cX6_grow 166 = .ok (.iinc 3 1, 3) := by decide +kernel
theorem dX6_grow_169 : decode cX6_grow 169 = .ok (.goto (-62), 3) := by decide +kernel
theorem dX6_grow_172 : decode cX6_grow 172 = .ok (.aload_n 0, 1) := by decide +kernel
theorem dX6_grow_173 : decode cX6_grow 173 = .ok (.iload_n 1, 1) := by decide +kernel
theorem dX6_grow_174 : decode cX6_grow 174 = .ok (.invokevirtual 134, 3) := by decide +kernel
theorem dX6_grow_177 : decode cX6_grow 177 = .ok (.iconst 0, 1) := by decide +kernel
theorem dX6_grow_178 : decode cX6_grow 178 = .ok (.istore_n 3, 1) := by decide +kernel
theorem dX6_grow_179 : decode cX6_grow 179 = .ok (.iload_n 3, 1) := by decide +kernel
theorem dX6_grow_180 : decode cX6_grow 180 = .ok (.iconst 5, 1) := by decide +kernel
theorem dX6_grow_181 : decode cX6_grow 181 = .ok (.if_icmp .ge 28, 3) := by decide +kernel
theorem dX6_grow_184 : decode cX6_grow 184 = .ok (.aload_n 0, 1) := by decide +kernel
theorem dX6_grow_185 : decode cX6_grow 185 = .ok (.getfield 45, 3) := by decide +kernel
theorem dX6_grow_188 : decode cX6_grow 188 = .ok (.iconst 5, 1) := by decide +kernel
theorem dX6_grow_189 : decode cX6_grow 189 = .ok (.aload_n 0, 1) := by decide +kernel
theorem dX6_grow_190 : decode cX6_grow 190 = .ok (.getfield 128, 3) := by decide +kernel
theorem dX6_grow_193 : decode cX6_grow 193 = .ok (.imul, 1) := by decide +kernel
theorem dX6_grow_194 : decode cX6_grow 194 = .ok (.iload_n 3, 1) := by decide +kernel
theorem dX6_grow_195 : decode cX6_grow 195 = .ok (.iadd, 1) := by decide +kernel
theorem dX6_grow_196 : decode cX6_grow 196 = .ok (.aload_n 0, 1) := by decide +kernel
theorem dX6_grow_197 : decode cX6_grow 197 = .ok (.getfield 54, 3) := by decide +kernel
theorem dX6_grow_200 : decode cX6_grow 200 = .ok (.iload_n 3, 1) := by decide +kernel
theorem dX6_grow_201 : decode cX6_grow 201 = .ok (.iaload, 1) := by decide +kernel
theorem dX6_grow_202 : decode cX6_grow 202 = .ok (.iastore, 1) := by decide +kernel
theorem dX6_grow_203 : decode cX6_grow 203 = .ok (.iinc 3 1, 3) := by decide +kernel
theorem dX6_grow_206 : decode cX6_grow 206 = .ok (.goto (-27), 3) := by decide +kernel
theorem dX6_grow_209 : decode cX6_grow 209 = .ok (.aload_n 0, 1) := by decide +kernel
theorem dX6_grow_210 : decode cX6_grow 210 = .ok (.getfield 48, 3) := by decide +kernel
theorem dX6_grow_213 : decode cX6_grow 213 = .ok (.aload_n 0, 1) := by decide +kernel
theorem dX6_grow_214 : decode cX6_grow 214 = .ok (.getfield 128, 3) := by decide +kernel
theorem dX6_grow_217 : decode cX6_grow 217 = .ok (.iload_n 1, 1) := by decide +kernel
theorem dX6_grow_218 : decode cX6_grow 218 = .ok (.iastore, 1) := by decide +kernel
theorem dX6_grow_219 : decode cX6_grow 219 = .ok (.aload_n 0, 1) := by decide +kernel
theorem dX6_grow_220 : decode cX6_grow 220 = .ok (.dup, 1) := by decide +kernel
theorem dX6_grow_221 : decode cX6_grow 221 = .ok (.getfield 128, 3) := by decide +kernel
theorem dX6_grow_224 : decode cX6_grow 224 = .ok (.iconst 1, 1) := by decide +kernel
theorem dX6_grow_225 : decode cX6_grow 225 = .ok (.iadd, 1) := by decide +kernel
theorem dX6_grow_226 : decode cX6_grow 226 = .ok (.putfield 128, 3) := by decide +kernel
theorem dX6_grow_229 : decode cX6_grow 229 = .ok (.iinc 2 1, 3) := by decide +kernel
theorem dX6_grow_232 : decode cX6_grow 232 = .ok (.goto (-168), 3) := by decide +kernel
theorem dX6_grow_235 : decode cX6_grow 235 = .ok (.iinc 1 1, 3) := by decide +kernel
theorem dX6_grow_238 : decode cX6_grow 238 = .ok (.goto (-194), 3) := by decide +kernel
theorem dX6_grow_241 : decode cX6_grow 241 = .ok (.aload_n 0, 1) := by decide +kernel
theorem dX6_grow_242 : decode cX6_grow 242 = .ok (.getfield 128, 3) := by decide +kernel
theorem dX6_grow_245 : decode cX6_grow 245 = .ok (.sipush 1000, 3) := by decide +kernel
theorem dX6_grow_248 : decode cX6_grow 248 = .ok (.if_icmp .le 5, 3) := by decide +kernel
theorem dX6_grow_251 : decode cX6_grow 251 = .ok (.iconst (-1), 1) := by decide +kernel
theorem dX6_grow_252 : decode cX6_grow 252 = .ok (.ireturn, 1) := by decide +kernel
theorem dX6_grow_253 : decode cX6_grow 253 = .ok (.aload_n 0, 1) := by decide +kernel
theorem dX6_grow_254 : decode cX6_grow 254 = .ok (.iconst 1, 1) := by decide +kernel
theorem dX6_grow_255 : decode cX6_grow 255 = .ok (.putfield 124, 3) := by decide +kernel
theorem dX6_grow_258 : decode cX6_grow 258 = .ok (.aload_n 0, 1) := by decide +kernel
theorem dX6_grow_259 : decode cX6_grow 259 = .ok (.aload_n 0, 1) := by decide +kernel
theorem dX6_grow_260 : decode cX6_grow 260 = .ok (.getfield 60, 3) := by decide +kernel
theorem dX6_grow_263 : decode cX6_grow 263 = .ok (.putfield 138, 3) := by decide +kernel
theorem dX6_grow_266 : decode cX6_grow 266 = .ok (.aload_n 0, 1) := by decide +kernel
theorem dX6_grow_267 : decode cX6_grow 267 = .ok (.invokevirtual 141, 3) := by decide +kernel
theorem dX6_grow_270 : decode cX6_grow 270 = .ok (.aload_n 0, 1) := by decide +kernel
theorem dX6_grow_271 : decode cX6_grow 271 = .ok (.getfield 128, 3) := by decide +kernel
theorem dX6_grow_274 : decode cX6_grow 274 = .ok (.ireturn, 1) := by decide +kernel
set_option maxRecDepth 20000 in
theorem ggX6_tellTree_X6_canFire : GoodIn wsX6_tellTree wsX6_canFire := goodIn_r _ [11, 12, 13, 14, 15, 10, 16, 3, 17, 18, 19, 24, 25, 26, 27, 28, 29, 30, 31, 32, 33, 34, 35, 36, 37, 38, 39, 40, 41, 42, 43, 44, 45, 46, 47, 48, 49, 50] (by decide +kernel) (by decide +kernel)
set_option maxRecDepth 20000 in
theorem gX6_tellTree_X6_canFire : GoodIn wsX6_tellTree (wsV RX6 116 RX6 yX6_canFire wsX6_canFire) := goodIn_app (goodIn_of _ (by decide +kernel)) ggX6_tellTree_X6_canFire
set_option maxRecDepth 20000 in
theorem ggX6_tellTree_X6_tops : GoodIn wsX6_tellTree wsX6_tops := goodIn_r _ [19] (by decide +kernel) (by decide +kernel)
set_option maxRecDepth 20000 in
theorem gX6_tellTree_X6_tops : GoodIn wsX6_tellTree (va_wsS RX6 83 yX6_tops wsX6_tops) := goodIn_app (goodIn_of _ (by decide +kernel)) ggX6_tellTree_X6_tops
set_option maxRecDepth 20000 in
theorem ggX6_tellTree_X6_isBefore : GoodIn wsX6_tellTree wsX6_isBefore := goodIn_r _ [23, 4, 24, 25, 26, 27, 28, 29, 30, 31, 32, 33, 34, 35, 36, 37, 38, 39, 40, 41, 42, 43, 44, 45, 46, 47, 48, 49, 50] (by decide +kernel) (by decide +kernel)
set_option maxRecDepth 20000 in
theorem gX6_tellTree_X6_isBefore : GoodIn wsX6_tellTree (wsV RX6 150 RX6 yX6_isBefore wsX6_isBefore) := goodIn_app (goodIn_of _ (by decide +kernel)) ggX6_tellTree_X6_isBefore
theorem dX6_tellTree_0 : decode cX6_tellTree 0 = .ok (.aload_n 0, 1) := by decide +kernel
theorem dX6_tellTree_1 : decode cX6_tellTree 1 = .ok (.iconst 0, 1) := by decide +kernel
theorem dX6_tellTree_2 : decode cX6_tellTree 2 = .ok (.putfield 144, 3) := by decide +kernel
theorem dX6_tellTree_5 : decode cX6_tellTree 5 = .ok (.iconst 0, 1) := by decide +kernel
theorem dX6_tellTree_6 : decode cX6_tellTree 6 = .ok (.istore_n 1, 1) := by decide +kernel
theorem dX6_tellTree_7 : decode cX6_tellTree 7 = .ok (.iload_n 1, 1) := by decide +kernel
theorem dX6_tellTree_8 : decode cX6_tellTree 8 = .ok (.aload_n 0, 1) := by decide +kernel
theorem dX6_tellTree_9 : decode cX6_tellTree 9 = .ok (.getfield 128, 3) := by decide +kernel
theorem dX6_tellTree_12 : decode cX6_tellTree 12 = .ok (.if_icmp .ge 56, 3) := by decide +kernel
theorem dX6_tellTree_15 : decode cX6_tellTree 15 = .ok (.iconst 0, 1) := by decide +kernel
theorem dX6_tellTree_16 : decode cX6_tellTree 16 = .ok (.istore_n 2, 1) := by decide +kernel
theorem dX6_tellTree_17 : decode cX6_tellTree 17 = .ok (.iload_n 2, 1) := by decide +kernel
theorem dX6_tellTree_18 : decode cX6_tellTree 18 = .ok (.aload_n 0, 1) := by decide +kernel
theorem dX6_tellTree_19 : decode cX6_tellTree 19 = .ok (.getfield 63, 3) := by decide +kernel
theorem dX6_tellTree_22 : decode cX6_tellTree 22 = .ok (.if_icmp .ge 40, 3) := by decide +kernel
theorem dX6_tellTree_25 : decode cX6_tellTree 25 = .ok (.aload_n 0, 1) := by decide +kernel
theorem dX6_tellTree_26 : decode cX6_tellTree 26 = .ok (.dup, 1) := by decide +kernel
theorem dX6_tellTree_27 : decode cX6_tellTree 27 = .ok (.getfield 144, 3) := by decide +kernel
theorem dX6_tellTree_30 : decode cX6_tellTree 30 = .ok (.aload_n 0, 1) := by decide +kernel
theorem dX6_tellTree_31 : decode cX6_tellTree 31 = .ok (.aload_n 0, 1) := by decide +kernel
theorem dX6_tellTree_32 : decode cX6_tellTree 32 = .ok (.getfield 45, 3) := by decide +kernel
theorem dX6_tellTree_35 : decode cX6_tellTree 35 = .ok (.iconst 5, 1) := by decide +kernel
theorem dX6_tellTree_36 : decode cX6_tellTree 36 = .ok (.iload_n 1, 1) := by decide +kernel
theorem dX6_tellTree_37 : decode cX6_tellTree 37 = .ok (.imul, 1) := by decide +kernel
theorem dX6_tellTree_38 : decode cX6_tellTree 38 = .ok (.iload_n 2, 1) := by decide +kernel
theorem dX6_tellTree_39 : decode cX6_tellTree 39 = .ok (.invokevirtual 116, 3) := by decide +kernel
theorem dX6_tellTree_42 : decode cX6_tellTree 42 = .ok (.ifCond .eq 9, 3) := by decide +kernel
theorem dX6_tellTree_45 : decode cX6_tellTree 45 = .ok (.iconst 1, 1) := by decide +kernel
theorem dX6_tellTree_46 : decode cX6_tellTree 46 = .ok (.iload_n 2, 1) := by decide +kernel
theorem dX6_tellTree_47 : decode cX6_tellTree 47 = .ok (.ishl, 1) := by decide +kernel
theorem dX6_tellTree_48 : decode cX6_tellTree 48 = .ok (.goto 4, 3) := by decide +kernel
theorem dX6_tellTree_51 : decode cX6_tellTree 51 = .ok (.iconst 0, 1) := by decide +kernel
theorem dX6_tellTree_52 : decode cX6_tellTree 52 = .ok (.ior, 1) := by decide +kernel
theorem dX6_tellTree_53 : decode cX6_tellTree 53 = .ok (.putfield 144, 3) := by decide +kernel
theorem dX6_tellTree_56 : decode cX6_tellTree 56 = .ok (.iinc 2 1, 3) := by decide +kernel
theorem dX6_tellTree_59 : decode cX6_tellTree 59 = .ok (.goto (-42), 3) := by decide +kernel
theorem dX6_tellTree_62 : decode cX6_tellTree 62 = .ok (.iinc 1 1, 3) := by decide +kernel
theorem dX6_tellTree_65 : decode cX6_tellTree 65 = .ok (.goto (-58), 3) := by decide +kernel
theorem dX6_tellTree_68 : decode cX6_tellTree 68 = .ok (.aload_n 0, 1) := by decide +kernel
theorem dX6_tellTree_69 : decode cX6_tellTree 69 = .ok (.iconst 0, 1) := by decide +kernel
theorem dX6_tellTree_70 : decode cX6_tellTree 70 = .ok (.putfield 147, 3) := by decide +kernel
theorem dX6_tellTree_73 : decode cX6_tellTree 73 = .ok (.iconst 0, 1) := by decide +kernel
theorem dX6_tellTree_74 : decode cX6_tellTree 74 = .ok (.istore_n 1, 1) := by decide +kernel
theorem dX6_tellTree_75 : decode cX6_tellTree 75 = .ok (.iload_n 1, 1) := by decide +kernel
theorem dX6_tellTree_76 : decode cX6_tellTree 76 = .ok (.aload_n 0, 1) := by decide +kernel
theorem dX6_tellTree_77 : decode cX6_tellTree 77 = .ok (.getfield 128, 3) := by decide +kernel
theorem dX6_tellTree_80 : decode cX6_tellTree 80 = .ok (.if_icmp .ge 169, 3) := by decide +kernel
theorem dX6_tellTree_83 : decode cX6_tellTree 83 = .ok (.iconst 1, 1) := by decide +kernel
theorem dX6_tellTree_84 : decode cX6_tellTree 84 = .ok (.istore_n 2, 1) := by decide +kernel
theorem dX6_tellTree_85 : decode cX6_tellTree 85 = .ok (.iconst 0, 1) := by decide +kernel
theorem dX6_tellTree_86 : decode cX6_tellTree 86 = .ok (.istore_n 3, 1) := by decide +kernel
theorem dX6_tellTree_87 : decode cX6_tellTree 87 = .ok (.iload_n 3, 1) := by decide +kernel
theorem dX6_tellTree_88 : decode cX6_tellTree 88 = .ok (.aload_n 0, 1) := by decide +kernel
theorem dX6_tellTree_89 : decode cX6_tellTree 89 = .ok (.getfield 128, 3) := by decide +kernel
theorem dX6_tellTree_92 : decode cX6_tellTree 92 = .ok (.if_icmp .ge 85, 3) := by decide +kernel
theorem dX6_tellTree_95 : decode cX6_tellTree 95 = .ok (.aload_n 0, 1) := by decide +kernel
theorem dX6_tellTree_96 : decode cX6_tellTree 96 = .ok (.getfield 45, 3) := by decide +kernel
theorem dX6_tellTree_99 : decode cX6_tellTree 99 = .ok (.iconst 5, 1) := by decide +kernel
theorem dX6_tellTree_100 : decode cX6_tellTree 100 = .ok (.iload_n 3, 1) := by decide +kernel
theorem dX6_tellTree_101 : decode cX6_tellTree 101 = .ok (.imul, 1) := by decide +kernel
theorem dX6_tellTree_102 : decode cX6_tellTree 102 = .ok (.aload_n 0, 1) := by decide +kernel
theorem dX6_tellTree_103 : decode cX6_tellTree 103 = .ok (.getfield 45, 3) := by decide +kernel
theorem dX6_tellTree_106 : decode cX6_tellTree 106 = .ok (.iconst 5, 1) := by decide +kernel
theorem dX6_tellTree_107 : decode cX6_tellTree 107 = .ok (.iload_n 1, 1) := by decide +kernel
theorem dX6_tellTree_108 : decode cX6_tellTree 108 = .ok (.imul, 1) := by decide +kernel
theorem dX6_tellTree_109 : decode cX6_tellTree 109 = .ok (.invokestatic 83, 3) := by decide +kernel
theorem dX6_tellTree_112 : decode cX6_tellTree 112 = .ok (.istore 4, 2) := by decide +kernel
theorem dX6_tellTree_114 : decode cX6_tellTree 114 = .ok (.iload 4, 2) := by decide +kernel
theorem dX6_tellTree_116 : decode cX6_tellTree 116 = .ok (.ifCond .eq 27, 3) := by decide +kernel
theorem dX6_tellTree_119 : decode cX6_tellTree 119 = .ok (.aload_n 0, 1) := by decide +kernel
theorem dX6_tellTree_120 : decode cX6_tellTree 120 = .ok (.getfield 45, 3) := by decide +kernel
theorem dX6_tellTree_123 : decode cX6_tellTree 123 = .ok (.iconst 5, 1) := by decide +kernel
theorem dX6_tellTree_124 : decode cX6_tellTree 124 = .ok (.iload_n 1, 1) := by decide +kernel
theorem dX6_tellTree_125 : decode cX6_tellTree 125 = .ok (.imul, 1) := by decide +kernel
theorem dX6_tellTree_126 : decode cX6_tellTree 126 = .ok (.aload_n 0, 1) := by decide +kernel
theorem dX6_tellTree_127 : decode cX6_tellTree 127 = .ok (.getfield 45, 3) := by decide +kernel
theorem dX6_tellTree_130 : decode cX6_tellTree 130 = .ok (.iconst 5, 1) := by decide +kernel
theorem dX6_tellTree_131 : decode cX6_tellTree 131 = .ok (.iload_n 3, 1) := by decide +kernel
theorem dX6_tellTree_132 : decode cX6_tellTree 132 = .ok (.imul, 1) := by decide +kernel
theorem dX6_tellTree_133 : decode cX6_tellTree 133 = .ok (.invokestatic 83, 3) := by decide +kernel
theorem dX6_tellTree_136 : decode cX6_tellTree 136 = .ok (.ifCond .eq 7, 3) := by decide +kernel
theorem dX6_tellTree_139 : decode cX6_tellTree 139 = .ok (.iconst 1, 1) := by decide +kernel
theorem dX6_tellTree_140 : decode cX6_tellTree 140 = .ok (.goto 4, 3) := by decide +kernel
theorem dX6_tellTree_143 : decode cX6_tellTree 143 = .ok (.iconst 0, 1) := by decide +kernel
theorem dX6_tellTree_144 : decode cX6_tellTree 144 = .ok (.istore 5, 2) := by decide +kernel
theorem dX6_tellTree_146 : decode cX6_tellTree 146 = .ok (.iload_n 2, 1) := by decide +kernel
theorem dX6_tellTree_147 : decode cX6_tellTree 147 = .ok (.ifCond .eq 22, 3) := by decide +kernel
theorem dX6_tellTree_150 : decode cX6_tellTree 150 = .ok (.iload 4, 2) := by decide +kernel
theorem dX6_tellTree_152 : decode cX6_tellTree 152 = .ok (.ifCond .eq 13, 3) := by decide +kernel
theorem dX6_tellTree_155 : decode cX6_tellTree 155 = .ok (.iload 5, 2) := by decide +kernel
theorem dX6_tellTree_157 : decode cX6_tellTree 157 = .ok (.ifCond .eq 12, 3) := by decide +kernel
theorem dX6_tellTree_160 : decode cX6_tellTree 160 = .ok (.iload_n 3, 1) := by decide +kernel
theorem dX6_tellTree_161 : decode cX6_tellTree 161 = .ok (.iload_n 1, 1) := by decide +kernel
theorem dX6_tellTree_162 : decode cX6_tellTree 162 = .ok (.if_icmp .lt 7, 3) := by decide +kernel
theorem dX6_tellTree_165 : decode cX6_tellTree 165 = .ok (.iconst 1, 1) := by decide +kernel
theorem dX6_tellTree_166 : decode cX6_tellTree 166 = .ok (.goto 4, 3) := by decide +kernel
theorem dX6_tellTree_169 : decode cX6_tellTree 169 = .ok (.iconst 0, 1) := by decide +kernel
theorem dX6_tellTree_170 : decode cX6_tellTree 170 = .ok (.istore_n 2, 1) := by decide +kernel
theorem dX6_tellTree_171 : decode cX6_tellTree 171 = .ok (.iinc 3 1, 3) := by decide +kernel
theorem dX6_tellTree_174 : decode cX6_tellTree 174 = .ok (.goto (-87), 3) := by decide +kernel
theorem dX6_tellTree_177 : decode cX6_tellTree 177 = .ok (.iload_n 2, 1) := by decide +kernel
theorem dX6_tellTree_178 : decode cX6_tellTree 178 = .ok (.ifCond .eq 65, 3) := by decide +kernel
theorem dX6_tellTree_181 : decode cX6_tellTree 181 = .ok (.aload_n 0, 1) := by decide +kernel
theorem dX6_tellTree_182 : decode cX6_tellTree 182 = .ok (.getfield 147, 3) := by decide +kernel
theorem dX6_tellTree_185 : decode cX6_tellTree 185 = .ok (.istore_n 3, 1) := by decide +kernel
theorem dX6_tellTree_186 : decode cX6_tellTree 186 = .ok (.iload_n 3, 1) := by decide +kernel
theorem dX6_tellTree_187 : decode cX6_tellTree 187 = .ok (.ifCond .le 39, 3) := by decide +kernel
theorem dX6_tellTree_190 : decode cX6_tellTree 190 = .ok (.aload_n 0, 1) := by decide +kernel
theorem dX6_tellTree_191 : decode cX6_tellTree 191 = .ok (.iload_n 1, 1) := by decide +kernel
theorem dX6_tellTree_192 : decode cX6_tellTree 192 = .ok (.aload_n 0, 1) := by decide +kernel
theorem dX6_tellTree_193 : decode cX6_tellTree 193 = .ok (.getfield 51, 3) := by decide +kernel
theorem dX6_tellTree_196 : decode cX6_tellTree 196 = .ok (.iload_n 3, 1) := by decide +kernel
theorem dX6_tellTree_197 : decode cX6_tellTree 197 = .ok (.iconst 1, 1) := by decide +kernel
theorem dX6_tellTree_198 : decode cX6_tellTree 198 = .ok (.isub, 1) := by decide +kernel
theorem dX6_tellTree_199 : decode cX6_tellTree 199 = .ok (.iaload, 1) := by decide +kernel
theorem dX6_tellTree_200 : decode cX6_tellTree 200 = .ok (.invokevirtual 150, 3) := by decide +kernel
theorem dX6_tellTree_203 : decode cX6_tellTree 203 = .ok (.ifCond .eq 23, 3) := by decide +kernel
theorem dX6_tellTree_206 : decode cX6_tellTree 206 = .ok (.aload_n 0, 1) := by decide +kernel
theorem dX6_tellTree_207 : decode cX6_tellTree 207 = .ok (.getfield 51, 3) := by decide +kernel
theorem dX6_tellTree_210 : decode cX6_tellTree 210 = .ok (.iload_n 3, 1) := by decide +kernel
theorem dX6_tellTree_211 : decode cX6_tellTree 211 = .ok (.aload_n 0, 1) := by decide +kernel
theorem dX6_tellTree_212 : decode cX6_tellTree 212 = .ok (.getfield 51, 3) := by decide +kernel
theorem dX6_tellTree_215 : decode cX6_tellTree 215 = .ok (.iload_n 3, 1) := by decide +kernel
theorem dX6_tellTree_216 : decode cX6_tellTree 216 = .ok (.iconst 1, 1) := by decide +kernel
theorem dX6_tellTree_217 : decode cX6_tellTree 217 = .ok (.isub, 1) := by decide +kernel
theorem dX6_tellTree_218 : decode cX6_tellTree 218 = .ok (.iaload, 1) := by decide +kernel
theorem dX6_tellTree_219 : decode cX6_tellTree 219 = .ok (.iastore, 1) := by decide +kernel
theorem dX6_tellTree_220 : decode cX6_tellTree 220 = .ok (.iinc 3 (-1), 3) := by decide +kernel
theorem dX6_tellTree_223 : decode cX6_tellTree 223 = .ok (.goto (-37), 3) := by decide +kernel
theorem dX6_tellTree_226 : decode cX6_tellTree 226 = .ok (.aload_n 0, 1) := by decide +kernel
theorem dX6_tellTree_227 : decode cX6_tellTree 227 = .ok (.getfield 51, 3) := by decide +kernel
theorem dX6_tellTree_230 : decode cX6_tellTree 230 = .ok (.iload_n 3, 1) := by decide +kernel
theorem dX6_tellTree_231 : decode cX6_tellTree 231 = .ok (.iload_n 1, 1) := by decide +kernel
theorem dX6_tellTree_232 : decode cX6_tellTree 232 = .ok (.iastore, 1) := by decide +kernel
theorem dX6_tellTree_233 : decode cX6_tellTree 233 = .ok (.aload_n 0, 1) := by decide +kernel
theorem dX6_tellTree_234 : decode cX6_tellTree 234 = .ok (.dup, 1) := by decide +kernel
theorem dX6_tellTree_235 : decode cX6_tellTree 235 = .ok (.getfield 147, 3) := by decide +kernel
theorem dX6_tellTree_238 : decode cX6_tellTree 238 = .ok (.iconst 1, 1) := by decide +kernel
theorem dX6_tellTree_239 : decode cX6_tellTree 239 = .ok (.iadd, 1) := by decide +kernel
theorem dX6_tellTree_240 : decode cX6_tellTree 240 = .ok (.putfield 147, 3) := by decide +kernel
theorem dX6_tellTree_243 : decode cX6_tellTree 243 = .ok (.iinc 1 1, 3) := by decide +kernel
theorem dX6_tellTree_246 : decode cX6_tellTree 246 = .ok (.goto (-171), 3) := by decide +kernel
theorem dX6_tellTree_249 : decode cX6_tellTree 249 = .ok (.return_, 1) := by decide +kernel
theorem dX6_isBefore_0 : decode cX6_isBefore 0 = .ok (.iconst 0, 1) := by decide +kernel
theorem dX6_isBefore_1 : decode cX6_isBefore 1 = .ok (.istore_n 3, 1) := by decide +kernel
theorem dX6_isBefore_2 : decode cX6_isBefore 2 = .ok (.iload_n 3, 1) := by decide +kernel
theorem dX6_isBefore_3 : decode cX6_isBefore 3 = .ok (.iconst 5, 1) := by decide +kernel
theorem dX6_isBefore_4 : decode cX6_isBefore 4 = .ok (.if_icmp .ge 48, 3) := by decide +kernel
theorem dX6_isBefore_7 : decode cX6_isBefore 7 = .ok (.aload_n 0, 1) := by decide +kernel
theorem dX6_isBefore_8 : decode cX6_isBefore 8 = .ok (.getfield 45, 3) := by decide +kernel
theorem dX6_isBefore_11 : decode cX6_isBefore 11 = .ok (.iconst 5, 1) := by decide +kernel
theorem dX6_isBefore_12 : decode cX6_isBefore 12 = .ok (.iload_n 1, 1) := by decide +kernel
theorem dX6_isBefore_13 : decode cX6_isBefore 13 = .ok (.imul, 1) := by decide +kernel
theorem dX6_isBefore_14 : decode cX6_isBefore 14 = .ok (.iload_n 3, 1) := by decide +kernel
theorem dX6_isBefore_15 : decode cX6_isBefore 15 = .ok (.iadd, 1) := by decide +kernel
theorem dX6_isBefore_16 : decode cX6_isBefore 16 = .ok (.iaload, 1) := by decide +kernel
theorem dX6_isBefore_17 : decode cX6_isBefore 17 = .ok (.aload_n 0, 1) := by decide +kernel
theorem dX6_isBefore_18 : decode cX6_isBefore 18 = .ok (.getfield 45, 3) := by decide +kernel
theorem dX6_isBefore_21 : decode cX6_isBefore 21 = .ok (.iconst 5, 1) := by decide +kernel
theorem dX6_isBefore_22 : decode cX6_isBefore 22 = .ok (.iload_n 2, 1) := by decide +kernel
theorem dX6_isBefore_23 : decode cX6_isBefore 23 = .ok (.imul, 1) := by decide +kernel
theorem dX6_isBefore_24 : decode cX6_isBefore 24 = .ok (.iload_n 3, 1) := by decide +kernel
theorem dX6_isBefore_25 : decode cX6_isBefore 25 = .ok (.iadd, 1) := by decide +kernel
theorem dX6_isBefore_26 : decode cX6_isBefore 26 = .ok (.iaload, 1) := by decide +kernel
theorem dX6_isBefore_27 : decode cX6_isBefore 27 = .ok (.isub, 1) := by decide +kernel
theorem dX6_isBefore_28 : decode cX6_isBefore 28 = .ok (.istore 4, 2) := by decide +kernel
theorem dX6_isBefore_30 : decode cX6_isBefore 30 = .ok (.iload 4, 2) := by decide +kernel
theorem dX6_isBefore_32 : decode cX6_isBefore 32 = .ok (.ifCond .eq 14, 3) := by decide +kernel
end
section
theorem dX6_isBefore_35 : decode cX6_isBefore 35 = .ok (.iload 4, 2) := by decide +kernel
theorem dX6_isBefore_37 : decode cX6_isBefore 37 = .ok (.ifCond .ge 7, 3) := by decide +kernel
theorem dX6_isBefore_40 : decode cX6_isBefore 40 = .ok (.iconst 1, 1) := by decide +kernel
theorem dX6_isBefore_41 : decode cX6_isBefore 41 = .ok (.goto 4, 3) := by decide +kernel
theorem dX6_isBefore_44 : decode cX6_isBefore 44 = .ok (.iconst 0, 1) := by decide +kernel
theorem dX6_isBefore_45 : decode cX6_isBefore 45 = .ok (.ireturn, 1) := by decide +kernel
theorem dX6_isBefore_46 : decode cX6_isBefore 46 = .ok (.iinc 3 1, 3) := by decide +kernel
theorem dX6_isBefore_49 : decode cX6_isBefore 49 = .ok (.goto (-47), 3) := by decide +kernel
theorem dX6_isBefore_52 : decode cX6_isBefore 52 = .ok (.iconst 0, 1) := by decide +kernel
theorem dX6_isBefore_53 : decode cX6_isBefore 53 = .ok (.ireturn, 1) := by decide +kernel
theorem dX6_told_0 : decode cX6_told 0 = .ok (.iload_n 0, 1) := by decide +kernel
theorem dX6_told_1 : decode cX6_told 1 = .ok (.ldc 123, 2) := by decide +kernel
theorem dX6_told_3 : decode cX6_told 3 = .ok (.if_icmp .ne 8, 3) := by decide +kernel
theorem dX6_told_6 : decode cX6_told 6 = .ok (.bipush (-2), 2) := by decide +kernel
theorem dX6_told_8 : decode cX6_told 8 = .ok (.goto 4, 3) := by decide +kernel
theorem dX6_told_11 : decode cX6_told 11 = .ok (.iload_n 0, 1) := by decide +kernel
theorem dX6_told_12 : decode cX6_told 12 = .ok (.ireturn, 1) := by decide +kernel
theorem dX6_isGrownPlace_0 : decode cX6_isGrownPlace 0 = .ok (.aload_n 0, 1) := by decide +kernel
theorem dX6_isGrownPlace_1 : decode cX6_isGrownPlace 1 = .ok (.getfield 124, 3) := by decide +kernel
theorem dX6_isGrownPlace_4 : decode cX6_isGrownPlace 4 = .ok (.ifCond .eq 19, 3) := by decide +kernel
theorem dX6_isGrownPlace_7 : decode cX6_isGrownPlace 7 = .ok (.iload_n 1, 1) := by decide +kernel
theorem dX6_isGrownPlace_8 : decode cX6_isGrownPlace 8 = .ok (.ifCond .lt 15, 3) := by decide +kernel
theorem dX6_isGrownPlace_11 : decode cX6_isGrownPlace 11 = .ok (.iload_n 1, 1) := by decide +kernel
theorem dX6_isGrownPlace_12 : decode cX6_isGrownPlace 12 = .ok (.aload_n 0, 1) := by decide +kernel
theorem dX6_isGrownPlace_13 : decode cX6_isGrownPlace 13 = .ok (.getfield 138, 3) := by decide +kernel
theorem dX6_isGrownPlace_16 : decode cX6_isGrownPlace 16 = .ok (.if_icmp .ge 7, 3) := by decide +kernel
theorem dX6_isGrownPlace_19 : decode cX6_isGrownPlace 19 = .ok (.iconst 1, 1) := by decide +kernel
theorem dX6_isGrownPlace_20 : decode cX6_isGrownPlace 20 = .ok (.goto 4, 3) := by decide +kernel
theorem dX6_isGrownPlace_23 : decode cX6_isGrownPlace 23 = .ok (.iconst 0, 1) := by decide +kernel
theorem dX6_isGrownPlace_24 : decode cX6_isGrownPlace 24 = .ok (.ireturn, 1) := by decide +kernel
set_option maxRecDepth 20000 in
theorem ggX6_most_X6_isGrownPlace : GoodIn wsX6_most wsX6_isGrownPlace := goodIn_r _ [7, 8, 9, 14, 15, 16, 17, 18, 19, 20, 21, 22, 23, 24, 25, 26, 27, 28, 29, 30, 31, 32, 33, 34, 35, 36, 37, 38, 39, 40] (by decide +kernel) (by decide +kernel)
set_option maxRecDepth 20000 in
theorem gX6_most_X6_isGrownPlace : GoodIn wsX6_most (wsV RX6 153 RX6 yX6_isGrownPlace wsX6_isGrownPlace) := goodIn_app (goodIn_of _ (by decide +kernel)) ggX6_most_X6_isGrownPlace
set_option maxRecDepth 20000 in
theorem ggX6_most_X6_told : GoodIn wsX6_most wsX6_told := goodIn_r _ [12, 13] (by decide +kernel) (by decide +kernel)
set_option maxRecDepth 20000 in
theorem gX6_most_X6_told : GoodIn wsX6_most (va_wsS RX6 156 yX6_told wsX6_told) := goodIn_app (goodIn_of _ (by decide +kernel)) ggX6_most_X6_told
theorem dX6_most_0 : decode cX6_most 0 = .ok (.aload_n 0, 1) := by decide +kernel
theorem dX6_most_1 : decode cX6_most 1 = .ok (.iload_n 1, 1) := by decide +kernel
theorem dX6_most_2 : decode cX6_most 2 = .ok (.invokevirtual 153, 3) := by decide +kernel
theorem dX6_most_5 : decode cX6_most 5 = .ok (.ifCond .ne 5, 3) := by decide +kernel
theorem dX6_most_8 : decode cX6_most 8 = .ok (.iconst (-1), 1) := by decide +kernel
theorem dX6_most_9 : decode cX6_most 9 = .ok (.ireturn, 1) := by decide +kernel
theorem dX6_most_10 : decode cX6_most 10 = .ok (.iconst 0, 1) := by decide +kernel
theorem dX6_most_11 : decode cX6_most 11 = .ok (.istore_n 2, 1) := by decide +kernel
theorem dX6_most_12 : decode cX6_most 12 = .ok (.iconst 0, 1) := by decide +kernel
theorem dX6_most_13 : decode cX6_most 13 = .ok (.istore_n 3, 1) := by decide +kernel
theorem dX6_most_14 : decode cX6_most 14 = .ok (.iload_n 3, 1) := by decide +kernel
theorem dX6_most_15 : decode cX6_most 15 = .ok (.aload_n 0, 1) := by decide +kernel
theorem dX6_most_16 : decode cX6_most 16 = .ok (.getfield 128, 3) := by decide +kernel
theorem dX6_most_19 : decode cX6_most 19 = .ok (.if_icmp .ge 38, 3) := by decide +kernel
theorem dX6_most_22 : decode cX6_most 22 = .ok (.aload_n 0, 1) := by decide +kernel
theorem dX6_most_23 : decode cX6_most 23 = .ok (.getfield 45, 3) := by decide +kernel
theorem dX6_most_26 : decode cX6_most 26 = .ok (.iconst 5, 1) := by decide +kernel
theorem dX6_most_27 : decode cX6_most 27 = .ok (.iload_n 3, 1) := by decide +kernel
theorem dX6_most_28 : decode cX6_most 28 = .ok (.imul, 1) := by decide +kernel
theorem dX6_most_29 : decode cX6_most 29 = .ok (.iload_n 1, 1) := by decide +kernel
theorem dX6_most_30 : decode cX6_most 30 = .ok (.iadd, 1) := by decide +kernel
theorem dX6_most_31 : decode cX6_most 31 = .ok (.iaload, 1) := by decide +kernel
theorem dX6_most_32 : decode cX6_most 32 = .ok (.iload_n 2, 1) := by decide +kernel
theorem dX6_most_33 : decode cX6_most 33 = .ok (.if_icmp .le 16, 3) := by decide +kernel
theorem dX6_most_36 : decode cX6_most 36 = .ok (.aload_n 0, 1) := by decide +kernel
theorem dX6_most_37 : decode cX6_most 37 = .ok (.getfield 45, 3) := by decide +kernel
theorem dX6_most_40 : decode cX6_most 40 = .ok (.iconst 5, 1) := by decide +kernel
theorem dX6_most_41 : decode cX6_most 41 = .ok (.iload_n 3, 1) := by decide +kernel
theorem dX6_most_42 : decode cX6_most 42 = .ok (.imul, 1) := by decide +kernel
theorem dX6_most_43 : decode cX6_most 43 = .ok (.iload_n 1, 1) := by decide +kernel
theorem dX6_most_44 : decode cX6_most 44 = .ok (.iadd, 1) := by decide +kernel
theorem dX6_most_45 : decode cX6_most 45 = .ok (.iaload, 1) := by decide +kernel
theorem dX6_most_46 : decode cX6_most 46 = .ok (.goto 4, 3) := by decide +kernel
theorem dX6_most_49 : decode cX6_most 49 = .ok (.iload_n 2, 1) := by decide +kernel
theorem dX6_most_50 : decode cX6_most 50 = .ok (.istore_n 2, 1) := by decide +kernel
theorem dX6_most_51 : decode cX6_most 51 = .ok (.iinc 3 1, 3) := by decide +kernel
theorem dX6_most_54 : decode cX6_most 54 = .ok (.goto (-40), 3) := by decide +kernel
theorem dX6_most_57 : decode cX6_most 57 = .ok (.iload_n 2, 1) := by decide +kernel
theorem dX6_most_58 : decode cX6_most 58 = .ok (.invokestatic 156, 3) := by decide +kernel
theorem dX6_most_61 : decode cX6_most 61 = .ok (.ireturn, 1) := by decide +kernel
theorem dX6_live_0 : decode cX6_live 0 = .ok (.aload_n 0, 1) := by decide +kernel
theorem dX6_live_1 : decode cX6_live 1 = .ok (.getfield 124, 3) := by decide +kernel
theorem dX6_live_4 : decode cX6_live 4 = .ok (.ifCond .eq 29, 3) := by decide +kernel
theorem dX6_live_7 : decode cX6_live 7 = .ok (.iload_n 1, 1) := by decide +kernel
theorem dX6_live_8 : decode cX6_live 8 = .ok (.ifCond .lt 25, 3) := by decide +kernel
theorem dX6_live_11 : decode cX6_live 11 = .ok (.iload_n 1, 1) := by decide +kernel
theorem dX6_live_12 : decode cX6_live 12 = .ok (.bipush 6, 2) := by decide +kernel
theorem dX6_live_14 : decode cX6_live 14 = .ok (.if_icmp .ge 19, 3) := by decide +kernel
theorem dX6_live_17 : decode cX6_live 17 = .ok (.aload_n 0, 1) := by decide +kernel
theorem dX6_live_18 : decode cX6_live 18 = .ok (.getfield 144, 3) := by decide +kernel
theorem dX6_live_21 : decode cX6_live 21 = .ok (.iload_n 1, 1) := by decide +kernel
theorem dX6_live_22 : decode cX6_live 22 = .ok (.ishr, 1) := by decide +kernel
theorem dX6_live_23 : decode cX6_live 23 = .ok (.iconst 1, 1) := by decide +kernel
theorem dX6_live_24 : decode cX6_live 24 = .ok (.iand, 1) := by decide +kernel
theorem dX6_live_25 : decode cX6_live 25 = .ok (.iconst 1, 1) := by decide +kernel
theorem dX6_live_26 : decode cX6_live 26 = .ok (.if_icmp .ne 7, 3) := by decide +kernel
theorem dX6_live_29 : decode cX6_live 29 = .ok (.iconst 1, 1) := by decide +kernel
theorem dX6_live_30 : decode cX6_live 30 = .ok (.goto 4, 3) := by decide +kernel
theorem dX6_live_33 : decode cX6_live 33 = .ok (.iconst 0, 1) := by decide +kernel
theorem dX6_live_34 : decode cX6_live 34 = .ok (.ireturn, 1) := by decide +kernel
theorem dX6_limits_0 : decode cX6_limits 0 = .ok (.aload_n 0, 1) := by decide +kernel
theorem dX6_limits_1 : decode cX6_limits 1 = .ok (.getfield 124, 3) := by decide +kernel
theorem dX6_limits_4 : decode cX6_limits 4 = .ok (.ifCond .eq 10, 3) := by decide +kernel
theorem dX6_limits_7 : decode cX6_limits 7 = .ok (.aload_n 0, 1) := by decide +kernel
theorem dX6_limits_8 : decode cX6_limits 8 = .ok (.getfield 147, 3) := by decide +kernel
theorem dX6_limits_11 : decode cX6_limits 11 = .ok (.goto 4, 3) := by decide +kernel
theorem dX6_limits_14 : decode cX6_limits 14 = .ok (.iconst (-1), 1) := by decide +kernel
theorem dX6_limits_15 : decode cX6_limits 15 = .ok (.ireturn, 1) := by decide +kernel
set_option maxRecDepth 20000 in
theorem ggX6_limit_X6_isGrownPlace : GoodIn wsX6_limit wsX6_isGrownPlace := goodIn_r _ [8, 9, 10, 15, 16, 17, 18, 19, 20, 21, 22, 23, 24, 25, 26, 27, 28, 29, 30, 31, 32, 33, 34, 35, 36, 37, 38, 39, 40, 41] (by decide +kernel) (by decide +kernel)
set_option maxRecDepth 20000 in
theorem gX6_limit_X6_isGrownPlace : GoodIn wsX6_limit (wsV RX6 153 RX6 yX6_isGrownPlace wsX6_isGrownPlace) := goodIn_app (goodIn_of _ (by decide +kernel)) ggX6_limit_X6_isGrownPlace
set_option maxRecDepth 20000 in
theorem ggX6_limit_X6_told : GoodIn wsX6_limit wsX6_told := goodIn_r _ [13, 14] (by decide +kernel) (by decide +kernel)
set_option maxRecDepth 20000 in
theorem gX6_limit_X6_told : GoodIn wsX6_limit (va_wsS RX6 156 yX6_told wsX6_told) := goodIn_app (goodIn_of _ (by decide +kernel)) ggX6_limit_X6_told
theorem dX6_limit_0 : decode cX6_limit 0 = .ok (.aload_n 0, 1) := by decide +kernel
theorem dX6_limit_1 : decode cX6_limit 1 = .ok (.iload_n 2, 1) := by decide +kernel
theorem dX6_limit_2 : decode cX6_limit 2 = .ok (.invokevirtual 153, 3) := by decide +kernel
theorem dX6_limit_5 : decode cX6_limit 5 = .ok (.ifCond .eq 36, 3) := by decide +kernel
theorem dX6_limit_8 : decode cX6_limit 8 = .ok (.iload_n 1, 1) := by decide +kernel
theorem dX6_limit_9 : decode cX6_limit 9 = .ok (.ifCond .lt 32, 3) := by decide +kernel
theorem dX6_limit_12 : decode cX6_limit 12 = .ok (.iload_n 1, 1) := by decide +kernel
theorem dX6_limit_13 : decode cX6_limit 13 = .ok (.aload_n 0, 1) := by decide +kernel
theorem dX6_limit_14 : decode cX6_limit 14 = .ok (.getfield 147, 3) := by decide +kernel
theorem dX6_limit_17 : decode cX6_limit 17 = .ok (.if_icmp .ge 24, 3) := by decide +kernel
theorem dX6_limit_20 : decode cX6_limit 20 = .ok (.aload_n 0, 1) := by decide +kernel
theorem dX6_limit_21 : decode cX6_limit 21 = .ok (.getfield 45, 3) := by decide +kernel
theorem dX6_limit_24 : decode cX6_limit 24 = .ok (.iconst 5, 1) := by decide +kernel
theorem dX6_limit_25 : decode cX6_limit 25 = .ok (.aload_n 0, 1) := by decide +kernel
theorem dX6_limit_26 : decode cX6_limit 26 = .ok (.getfield 51, 3) := by decide +kernel
theorem dX6_limit_29 : decode cX6_limit 29 = .ok (.iload_n 1, 1) := by decide +kernel
theorem dX6_limit_30 : decode cX6_limit 30 = .ok (.iaload, 1) := by decide +kernel
theorem dX6_limit_31 : decode cX6_limit 31 = .ok (.imul, 1) := by decide +kernel
theorem dX6_limit_32 : decode cX6_limit 32 = .ok (.iload_n 2, 1) := by decide +kernel
theorem dX6_limit_33 : decode cX6_limit 33 = .ok (.iadd, 1) := by decide +kernel
theorem dX6_limit_34 : decode cX6_limit 34 = .ok (.iaload, 1) := by decide +kernel
theorem dX6_limit_35 : decode cX6_limit 35 = .ok (.invokestatic 156, 3) := by decide +kernel
theorem dX6_limit_38 : decode cX6_limit 38 = .ok (.goto 4, 3) := by decide +kernel
theorem dX6_limit_41 : decode cX6_limit 41 = .ok (.iconst (-1), 1) := by decide +kernel
theorem dX6_limit_42 : decode cX6_limit 42 = .ok (.ireturn, 1) := by decide +kernel
set_option maxRecDepth 20000 in
theorem ggX6_covers_X6_tops : GoodIn wsX6_covers wsX6_tops := goodIn_r _ [10] (by decide +kernel) (by decide +kernel)
set_option maxRecDepth 20000 in
theorem gX6_covers_X6_tops : GoodIn wsX6_covers (va_wsS RX6 83 yX6_tops wsX6_tops) := goodIn_app (goodIn_of _ (by decide +kernel)) ggX6_covers_X6_tops
theorem dX6_covers_0 : decode cX6_covers 0 = .ok (.iconst 0, 1) := by decide +kernel
theorem dX6_covers_1 : decode cX6_covers 1 = .ok (.istore_n 1, 1) := by decide +kernel
theorem dX6_covers_2 : decode cX6_covers 2 = .ok (.iconst 0, 1) := by decide +kernel
theorem dX6_covers_3 : decode cX6_covers 3 = .ok (.istore_n 2, 1) := by decide +kernel
theorem dX6_covers_4 : decode cX6_covers 4 = .ok (.iload_n 2, 1) := by decide +kernel
theorem dX6_covers_5 : decode cX6_covers 5 = .ok (.aload_n 0, 1) := by decide +kernel
theorem dX6_covers_6 : decode cX6_covers 6 = .ok (.getfield 128, 3) := by decide +kernel
theorem dX6_covers_9 : decode cX6_covers 9 = .ok (.if_icmp .ge 55, 3) := by decide +kernel
theorem dX6_covers_12 : decode cX6_covers 12 = .ok (.aload_n 0, 1) := by decide +kernel
theorem dX6_covers_13 : decode cX6_covers 13 = .ok (.getfield 124, 3) := by decide +kernel
theorem dX6_covers_16 : decode cX6_covers 16 = .ok (.ifCond .eq 48, 3) := by decide +kernel
theorem dX6_covers_19 : decode cX6_covers 19 = .ok (.aload_n 0, 1) := by decide +kernel
theorem dX6_covers_20 : decode cX6_covers 20 = .ok (.getfield 138, 3) := by decide +kernel
theorem dX6_covers_23 : decode cX6_covers 23 = .ok (.aload_n 0, 1) := by decide +kernel
theorem dX6_covers_24 : decode cX6_covers 24 = .ok (.getfield 60, 3) := by decide +kernel
theorem dX6_covers_27 : decode cX6_covers 27 = .ok (.if_icmp .ne 37, 3) := by decide +kernel
theorem dX6_covers_30 : decode cX6_covers 30 = .ok (.iload_n 1, 1) := by decide +kernel
theorem dX6_covers_31 : decode cX6_covers 31 = .ok (.ifCond .ne 21, 3) := by decide +kernel
theorem dX6_covers_34 : decode cX6_covers 34 = .ok (.aload_n 0, 1) := by decide +kernel
theorem dX6_covers_35 : decode cX6_covers 35 = .ok (.getfield 45, 3) := by decide +kernel
theorem dX6_covers_38 : decode cX6_covers 38 = .ok (.iconst 5, 1) := by decide +kernel
theorem dX6_covers_39 : decode cX6_covers 39 = .ok (.iload_n 2, 1) := by decide +kernel
theorem dX6_covers_40 : decode cX6_covers 40 = .ok (.imul, 1) := by decide +kernel
theorem dX6_covers_41 : decode cX6_covers 41 = .ok (.aload_n 0, 1) := by decide +kernel
theorem dX6_covers_42 : decode cX6_covers 42 = .ok (.getfield 13, 3) := by decide +kernel
theorem dX6_covers_45 : decode cX6_covers 45 = .ok (.iconst 0, 1) := by decide +kernel
theorem dX6_covers_46 : decode cX6_covers 46 = .ok (.invokestatic 83, 3) := by decide +kernel
theorem dX6_covers_49 : decode cX6_covers 49 = .ok (.ifCond .eq 7, 3) := by decide +kernel
theorem dX6_covers_52 : decode cX6_covers 52 = .ok (.iconst 1, 1) := by decide +kernel
theorem dX6_covers_53 : decode cX6_covers 53 = .ok (.goto 4, 3) := by decide +kernel
theorem dX6_covers_56 : decode cX6_covers 56 = .ok (.iconst 0, 1) := by decide +kernel
theorem dX6_covers_57 : decode cX6_covers 57 = .ok (.istore_n 1, 1) := by decide +kernel
theorem dX6_covers_58 : decode cX6_covers 58 = .ok (.iinc 2 1, 3) := by decide +kernel
theorem dX6_covers_61 : decode cX6_covers 61 = .ok (.goto (-57), 3) := by decide +kernel
theorem dX6_covers_64 : decode cX6_covers 64 = .ok (.iload_n 1, 1) := by decide +kernel
theorem dX6_covers_65 : decode cX6_covers 65 = .ok (.ireturn, 1) := by decide +kernel
set_option maxRecDepth 20000 in
theorem ggX6_fire_X6_canFire : GoodIn wsX6_fire wsX6_canFire := goodIn_r _ [8, 3, 9, 10, 11, 7, 12, 13, 14, 15, 16, 17, 18, 19, 20, 21, 22, 23, 24, 25, 26, 27, 28, 29, 30, 31, 32, 33, 34, 35, 36, 37, 38, 39, 40, 41, 42, 43] (by decide +kernel) (by decide +kernel)
set_option maxRecDepth 20000 in
theorem gX6_fire_X6_canFire : GoodIn wsX6_fire (wsV RX6 116 RX6 yX6_canFire wsX6_canFire) := goodIn_app (goodIn_of _ (by decide +kernel)) ggX6_fire_X6_canFire
theorem dX6_fire_0 : decode cX6_fire 0 = .ok (.aload_n 0, 1) := by decide +kernel
theorem dX6_fire_1 : decode cX6_fire 1 = .ok (.aload_n 0, 1) := by decide +kernel
theorem dX6_fire_2 : decode cX6_fire 2 = .ok (.getfield 22, 3) := by decide +kernel
theorem dX6_fire_5 : decode cX6_fire 5 = .ok (.iconst 0, 1) := by decide +kernel
theorem dX6_fire_6 : decode cX6_fire 6 = .ok (.iload_n 1, 1) := by decide +kernel
theorem dX6_fire_7 : decode cX6_fire 7 = .ok (.invokevirtual 116, 3) := by decide +kernel
theorem dX6_fire_10 : decode cX6_fire 10 = .ok (.ifCond .ne 5, 3) := by decide +kernel
theorem dX6_fire_13 : decode cX6_fire 13 = .ok (.iconst 0, 1) := by decide +kernel
theorem dX6_fire_14 : decode cX6_fire 14 = .ok (.ireturn, 1) := by decide +kernel
theorem dX6_fire_15 : decode cX6_fire 15 = .ok (.iconst 0, 1) := by decide +kernel
theorem dX6_fire_16 : decode cX6_fire 16 = .ok (.istore_n 2, 1) := by decide +kernel
theorem dX6_fire_17 : decode cX6_fire 17 = .ok (.iload_n 2, 1) := by decide +kernel
theorem dX6_fire_18 : decode cX6_fire 18 = .ok (.iconst 5, 1) := by decide +kernel
theorem dX6_fire_19 : decode cX6_fire 19 = .ok (.if_icmp .ge 39, 3) := by decide +kernel
theorem dX6_fire_22 : decode cX6_fire 22 = .ok (.aload_n 0, 1) := by decide +kernel
theorem dX6_fire_23 : decode cX6_fire 23 = .ok (.getfield 22, 3) := by decide +kernel
theorem dX6_fire_26 : decode cX6_fire 26 = .ok (.iload_n 2, 1) := by decide +kernel
theorem dX6_fire_27 : decode cX6_fire 27 = .ok (.dup2, 1) := by decide +kernel
theorem dX6_fire_28 : decode cX6_fire 28 = .ok (.iaload, 1) := by decide +kernel
theorem dX6_fire_29 : decode cX6_fire 29 = .ok (.aload_n 0, 1) := by decide +kernel
theorem dX6_fire_30 : decode cX6_fire 30 = .ok (.getfield 19, 3) := by decide +kernel
theorem dX6_fire_33 : decode cX6_fire 33 = .ok (.iconst 5, 1) := by decide +kernel
theorem dX6_fire_34 : decode cX6_fire 34 = .ok (.iload_n 1, 1) := by decide +kernel
theorem dX6_fire_35 : decode cX6_fire 35 = .ok (.imul, 1) := by decide +kernel
theorem dX6_fire_36 : decode cX6_fire 36 = .ok (.iload_n 2, 1) := by decide +kernel
theorem dX6_fire_37 : decode cX6_fire 37 = .ok (.iadd, 1) := by decide +kernel
theorem dX6_fire_38 : decode cX6_fire 38 = .ok (.iaload, 1) := by decide +kernel
theorem dX6_fire_39 : decode cX6_fire 39 = .ok (.aload_n 0, 1) := by decide +kernel
theorem dX6_fire_40 : decode cX6_fire 40 = .ok (.getfield 16, 3) := by decide +kernel
theorem dX6_fire_43 : decode cX6_fire 43 = .ok (.iconst 5, 1) := by decide +kernel
theorem dX6_fire_44 : decode cX6_fire 44 = .ok (.iload_n 1, 1) := by decide +kernel
theorem dX6_fire_45 : decode cX6_fire 45 = .ok (.imul, 1) := by decide +kernel
theorem dX6_fire_46 : decode cX6_fire 46 = .ok (.iload_n 2, 1) := by decide +kernel
theorem dX6_fire_47 : decode cX6_fire 47 = .ok (.iadd, 1) := by decide +kernel
theorem dX6_fire_48 : decode cX6_fire 48 = .ok (.iaload, 1) := by decide +kernel
theorem dX6_fire_49 : decode cX6_fire 49 = .ok (.isub, 1) := by decide +kernel
theorem dX6_fire_50 : decode cX6_fire 50 = .ok (.iadd, 1) := by decide +kernel
theorem dX6_fire_51 : decode cX6_fire 51 = .ok (.iastore, 1) := by decide +kernel
theorem dX6_fire_52 : decode cX6_fire 52 = .ok (.iinc 2 1, 3) := by decide +kernel
theorem dX6_fire_55 : decode cX6_fire 55 = .ok (.goto (-38), 3) := by decide +kernel
theorem dX6_fire_58 : decode cX6_fire 58 = .ok (.iconst 1, 1) := by decide +kernel
theorem dX6_fire_59 : decode cX6_fire 59 = .ok (.ireturn, 1) := by decide +kernel
set_option maxRecDepth 20000 in
theorem ggX6_tokens_X6_isPlace : GoodIn wsX6_tokens wsX6_isPlace := goodIn_r _ [6, 7, 8, 9, 10, 11, 12, 13, 14, 15, 16, 17, 18, 19, 20, 21, 22, 23, 24, 25, 26, 27, 28, 29, 30, 31, 32, 33, 34] (by decide +kernel) (by decide +kernel)
set_option maxRecDepth 20000 in
theorem gX6_tokens_X6_isPlace : GoodIn wsX6_tokens (wsV RX6 77 RX6 yX6_isPlace wsX6_isPlace) := goodIn_app (goodIn_of _ (by decide +kernel)) ggX6_tokens_X6_isPlace
theorem dX6_tokens_0 : decode cX6_tokens 0 = .ok (.aload_n 0, 1) := by decide +kernel
theorem dX6_tokens_1 : decode cX6_tokens 1 = .ok (.iload_n 1, 1) := by decide +kernel
theorem dX6_tokens_2 : decode cX6_tokens 2 = .ok (.invokevirtual 77, 3) := by decide +kernel
theorem dX6_tokens_5 : decode cX6_tokens 5 = .ok (.ifCond .eq 12, 3) := by decide +kernel
theorem dX6_tokens_8 : decode cX6_tokens 8 = .ok (.aload_n 0, 1) := by decide +kernel
theorem dX6_tokens_9 : decode cX6_tokens 9 = .ok (.getfield 22, 3) := by decide +kernel
theorem dX6_tokens_12 : decode cX6_tokens 12 = .ok (.iload_n 1, 1) := by decide +kernel
theorem dX6_tokens_13 : decode cX6_tokens 13 = .ok (.iaload, 1) := by decide +kernel
theorem dX6_tokens_14 : decode cX6_tokens 14 = .ok (.goto 4, 3) := by decide +kernel
theorem dX6_tokens_17 : decode cX6_tokens 17 = .ok (.iconst (-1), 1) := by decide +kernel
theorem dX6_tokens_18 : decode cX6_tokens 18 = .ok (.ireturn, 1) := by decide +kernel
theorem dJ9_max_7cf53_0 : decode cJ9_max_7cf53 0 = .ok (.iload_n 0, 1) := by decide +kernel
theorem dJ9_max_7cf53_1 : decode cJ9_max_7cf53 1 = .ok (.iload_n 1, 1) := by decide +kernel
theorem dJ9_max_7cf53_2 : decode cJ9_max_7cf53 2 = .ok (.if_icmp .lt 7, 3) := by decide +kernel
theorem dJ9_max_7cf53_5 : decode cJ9_max_7cf53 5 = .ok (.iload_n 0, 1) := by decide +kernel
theorem dJ9_max_7cf53_6 : decode cJ9_max_7cf53 6 = .ok (.goto 4, 3) := by decide +kernel
theorem dJ9_max_7cf53_9 : decode cJ9_max_7cf53 9 = .ok (.iload_n 1, 1) := by decide +kernel
theorem dJ9_max_7cf53_10 : decode cJ9_max_7cf53 10 = .ok (.ireturn, 1) := by decide +kernel
theorem dJ9_min_7cf53_0 : decode cJ9_min_7cf53 0 = .ok (.iload_n 0, 1) := by decide +kernel
theorem dJ9_min_7cf53_1 : decode cJ9_min_7cf53 1 = .ok (.iload_n 1, 1) := by decide +kernel
theorem dJ9_min_7cf53_2 : decode cJ9_min_7cf53 2 = .ok (.if_icmp .gt 7, 3) := by decide +kernel
theorem dJ9_min_7cf53_5 : decode cJ9_min_7cf53 5 = .ok (.iload_n 0, 1) := by decide +kernel
theorem dJ9_min_7cf53_6 : decode cJ9_min_7cf53 6 = .ok (.goto 4, 3) := by decide +kernel
theorem dJ9_min_7cf53_9 : decode cJ9_min_7cf53 9 = .ok (.iload_n 1, 1) := by decide +kernel
theorem dJ9_min_7cf53_10 : decode cJ9_min_7cf53 10 = .ok (.ireturn, 1) := by decide +kernel
theorem dJ7_copyOf_c38d5_0 : decode cJ7_copyOf_c38d5 0 = .ok (.iload_n 1, 1) := by decide +kernel
theorem dJ7_copyOf_c38d5_1 : decode cJ7_copyOf_c38d5 1 = .ok (.aload_n 0, 1) := by decide +kernel
theorem dJ7_copyOf_c38d5_2 : decode cJ7_copyOf_c38d5 2 = .ok (.arraylength, 1) := by decide +kernel
theorem dJ7_copyOf_c38d5_3 : decode cJ7_copyOf_c38d5 3 = .ok (.if_icmp .ne 11, 3) := by decide +kernel
theorem dJ7_copyOf_c38d5_6 : decode cJ7_copyOf_c38d5 6 = .ok (.aload_n 0, 1) := by decide +kernel
theorem dJ7_copyOf_c38d5_7 : decode cJ7_copyOf_c38d5 7 = .ok (.invokevirtual 319, 3) := by decide +kernel
theorem dJ7_copyOf_c38d5_10 : decode cJ7_copyOf_c38d5 10 = .ok (.checkcast 320, 3) := by decide +kernel
theorem dJ7_copyOf_c38d5_13 : decode cJ7_copyOf_c38d5 13 = .ok (.areturn, 1) := by decide +kernel
theorem dJ7_copyOf_c38d5_14 : decode cJ7_copyOf_c38d5 14 = .ok (.iload_n 1, 1) := by decide +kernel
theorem dJ7_copyOf_c38d5_15 : decode cJ7_copyOf_c38d5 15 = .ok (.newarray .long, 2) := by decide +kernel
theorem dJ7_copyOf_c38d5_17 : decode cJ7_copyOf_c38d5 17 = .ok (.astore_n 2, 1) := by decide +kernel
theorem dJ7_copyOf_c38d5_18 : decode cJ7_copyOf_c38d5 18 = .ok (.aload_n 0, 1) := by decide +kernel
theorem dJ7_copyOf_c38d5_19 : decode cJ7_copyOf_c38d5 19 = .ok (.iconst 0, 1) := by decide +kernel
theorem dJ7_copyOf_c38d5_20 : decode cJ7_copyOf_c38d5 20 = .ok (.aload_n 2, 1) := by decide +kernel
theorem dJ7_copyOf_c38d5_21 : decode cJ7_copyOf_c38d5 21 = .ok (.iconst 0, 1) := by decide +kernel
theorem dJ7_copyOf_c38d5_22 : decode cJ7_copyOf_c38d5 22 = .ok (.aload_n 0, 1) := by decide +kernel
theorem dJ7_copyOf_c38d5_23 : decode cJ7_copyOf_c38d5 23 = .ok (.arraylength, 1) := by decide +kernel
theorem dJ7_copyOf_c38d5_24 : decode cJ7_copyOf_c38d5 24 = .ok (.iload_n 1, 1) := by decide +kernel
theorem dJ7_copyOf_c38d5_25 : decode cJ7_copyOf_c38d5 25 = .ok (.invokestatic 304, 3) := by decide +kernel
theorem dJ7_copyOf_c38d5_28 : decode cJ7_copyOf_c38d5 28 = .ok (.invokestatic 150, 3) := by decide +kernel
theorem dJ7_copyOf_c38d5_31 : decode cJ7_copyOf_c38d5 31 = .ok (.aload_n 2, 1) := by decide +kernel
theorem dJ7_copyOf_c38d5_32 : decode cJ7_copyOf_c38d5 32 = .ok (.areturn, 1) := by decide +kernel
set_option maxRecDepth 20000 in
theorem ggL_law_X5_init : GoodIn wsL_law wsX5_init := goodIn_r _ [8, 9, 10, 11, 12, 13, 14, 15, 16, 17, 18, 19, 20, 21, 22, 23, 24, 25, 26, 27, 28, 29, 30, 31, 32, 33, 34, 35, 36, 37, 38, 39, 40, 41, 42, 43, 44, 45, 46, 47, 48, 49, 50, 51, 52, 53, 54, 55, 56, 57, 58, 59, 60, 61, 62, 63, 64, 65, 66, 67, 68, 69, 70, 71, 72, 73, 544, 545, 546, 547, 548, 549, 513, 514, 515, 516, 550, 551, 552, 553, 554, 555, 556, 557, 558, 559, 560, 561, 562, 563, 564, 565, 566, 567, 568, 569, 570, 571, 572, 573] (by decide +kernel) (by decide +kernel)
set_option maxRecDepth 20000 in
theorem gL_law_X5_init : GoodIn wsL_law (wsX5_init) := ggL_law_X5_init
set_option maxRecDepth 20000 in
theorem ggL_law_X6_init : GoodIn wsL_law wsX6_init := goodIn_r _ [76, 77, 10, 11, 16, 78, 79, 80, 81, 82, 83, 84, 85, 86, 87, 88, 89, 90, 91, 92, 93, 94, 517, 518, 519, 520, 521, 522, 523, 524, 525, 526, 527, 528, 529, 530, 531, 532, 533, 534, 535, 536, 537, 538, 539, 540, 541, 542, 543] (by decide +kernel) (by decide +kernel)
set_option maxRecDepth 20000 in
theorem gL_law_X6_init : GoodIn wsL_law (wsX6_init) := ggL_law_X6_init
set_option maxRecDepth 20000 in
theorem ggL_law_X5_place : GoodIn wsL_law wsX5_place := goodIn_r _ [98, 15, 99, 100, 101, 102, 2, 103, 104, 105, 106, 107, 17, 108, 109, 110, 111, 513, 514, 515, 516, 544, 545, 546, 547, 548, 549] (by decide +kernel) (by decide +kernel)
set_option maxRecDepth 20000 in
theorem gL_law_X5_place : GoodIn wsL_law (wsV RL 13 RX5 yX5_place wsX5_place) := goodIn_app (goodIn_of _ (by decide +kernel)) ggL_law_X5_place
set_option maxRecDepth 20000 in
theorem ggL_law_X6_place : GoodIn wsL_law wsX6_place := goodIn_r _ [115, 116, 78, 117, 118, 5, 119, 120, 121, 122, 123, 82, 517, 518, 519, 520, 521, 522, 523, 524, 525, 526, 527, 528, 529, 530, 531, 532, 533, 534, 535, 536, 537, 538, 539, 540, 541, 542, 543] (by decide +kernel) (by decide +kernel)
set_option maxRecDepth 20000 in
theorem gL_law_X6_place : GoodIn wsL_law (wsV RL 17 RX6 yX6_place wsX6_place) := goodIn_app (goodIn_of _ (by decide +kernel)) ggL_law_X6_place
set_option maxRecDepth 20000 in
theorem ggL_law_X5_transition : GoodIn wsL_law wsX5_transition := goodIn_r _ [127, 15, 128, 104, 105, 106, 2, 107, 100, 17, 108, 109, 110, 111, 513, 514, 515, 516, 544, 545, 546, 547, 548, 549] (by decide +kernel) (by decide +kernel)
set_option maxRecDepth 20000 in
theorem gL_law_X5_transition : GoodIn wsL_law (wsV RL 18 RX5 yX5_transition wsX5_transition) := goodIn_app (goodIn_of _ (by decide +kernel)) ggL_law_X5_transition
set_option maxRecDepth 20000 in
theorem ggL_law_X6_transition : GoodIn wsL_law wsX6_transition := goodIn_r _ [132, 133, 120, 121, 122, 5, 123, 82, 78, 517, 518, 519, 520, 521, 522, 523, 524, 525, 526, 527, 528, 529, 530, 531, 532, 533, 534, 535, 536, 537, 538, 539, 540, 541, 542, 543] (by decide +kernel) (by decide +kernel)
set_option maxRecDepth 20000 in
theorem gL_law_X6_transition : GoodIn wsL_law (wsV RL 22 RX6 yX6_transition wsX6_transition) := goodIn_app (goodIn_of _ (by decide +kernel)) ggL_law_X6_transition
set_option maxRecDepth 20000 in
theorem ggL_law_X5_arc : GoodIn wsL_law wsX5_arc := goodIn_r _ [137, 15, 138, 139, 140, 141, 142, 14, 143, 30, 144, 145, 146, 147, 29, 101, 102, 2, 103, 104, 105, 106, 107, 100, 17, 108, 109, 110, 111, 513, 514, 515, 516, 544, 545, 546, 547, 548, 549] (by decide +kernel) (by decide +kernel)
set_option maxRecDepth 20000 in
theorem gL_law_X5_arc : GoodIn wsL_law (wsV RL 23 RX5 yX5_arc wsX5_arc) := goodIn_app (goodIn_of _ (by decide +kernel)) ggL_law_X5_arc
set_option maxRecDepth 20000 in
theorem ggL_law_X6_arc : GoodIn wsL_law wsX6_arc := goodIn_r _ [151, 80, 81, 152, 153, 154, 5, 155, 133, 156, 157, 158, 159, 116, 117, 118, 119, 120, 121, 122, 123, 82, 78, 517, 518, 519, 520, 521, 522, 523, 524, 525, 526, 527, 528, 529, 530, 531, 532, 533, 534, 535, 536, 537, 538, 539, 540, 541, 542, 543] (by decide +kernel) (by decide +kernel)
set_option maxRecDepth 20000 in
theorem gL_law_X6_arc : GoodIn wsL_law (wsV RL 27 RX6 yX6_arc wsX6_arc) := goodIn_app (goodIn_of _ (by decide +kernel)) ggL_law_X6_arc
set_option maxRecDepth 20000 in
theorem ggL_law_X5_target : GoodIn wsL_law wsX5_target := goodIn_r _ [163, 15, 164, 144, 145, 146, 14, 147, 29, 101, 102, 2, 103, 513, 514, 515, 516, 544, 545, 546, 547, 548, 549] (by decide +kernel) (by decide +kernel)
set_option maxRecDepth 20000 in
theorem gL_law_X5_target : GoodIn wsL_law (wsV RL 28 RX5 yX5_target wsX5_target) := goodIn_app (goodIn_of _ (by decide +kernel)) ggL_law_X5_target
set_option maxRecDepth 20000 in
theorem ggL_law_X6_target : GoodIn wsL_law wsX6_target := goodIn_r _ [168, 79, 156, 157, 158, 5, 159, 116, 117, 118, 119, 517, 518, 519, 520, 521, 522, 523, 524, 525, 526, 527, 528, 529, 530, 531, 532, 533, 534, 535, 536, 537, 538, 539, 540, 541, 542, 543] (by decide +kernel) (by decide +kernel)
set_option maxRecDepth 20000 in
theorem gL_law_X6_target : GoodIn wsL_law (wsV RL 32 RX6 yX6_target wsX6_target) := goodIn_app (goodIn_of _ (by decide +kernel)) ggL_law_X6_target
set_option maxRecDepth 20000 in
theorem ggL_law_X5_rounds : GoodIn wsL_law wsX5_rounds := goodIn_r _ [172, 21, 15, 173, 174, 175, 176, 20, 177, 39, 40, 41, 51, 178, 179, 180, 181, 182, 183, 43, 184, 44, 46, 185, 47, 186, 53, 187, 52, 188, 189, 190, 191, 192, 193, 194, 50, 195, 60, 59, 196, 197, 198, 199, 200, 201, 202, 203, 204, 205, 45, 206, 207, 208, 209, 210, 109, 110, 111, 211, 212, 213, 214, 55, 215, 216, 217, 218, 219, 220, 221, 222, 223, 224, 225, 226, 227, 228, 229, 230, 231, 232, 233, 234, 235, 236, 237, 238, 239, 54, 240, 241, 242, 243, 42, 513, 514, 515, 516, 550, 551, 552, 553, 554, 555, 556, 557, 558, 559, 560, 561, 562, 572, 573, 544, 545, 546, 547, 548, 549] (by decide +kernel) (by decide +kernel)
set_option maxRecDepth 20000 in
theorem gL_law_X5_rounds : GoodIn wsL_law (wsV RL 33 RX5 yX5_rounds wsX5_rounds) := goodIn_app (goodIn_of _ (by decide +kernel)) ggL_law_X5_rounds
set_option maxRecDepth 20000 in
theorem ggL_law_X6_rounds : GoodIn wsL_law wsX6_rounds := goodIn_r _ [247, 116, 248, 249, 93, 79, 84, 86, 87, 250, 88, 251, 83, 252, 253, 254, 5, 255, 256, 257, 258, 259, 260, 261, 262, 78, 263, 264, 265, 266, 267, 268, 269, 270, 133, 81, 80, 271, 272, 273, 274, 94, 89, 275, 276, 277, 278, 279, 280, 281, 282, 152, 153, 154, 155, 283, 284, 285, 286, 517, 518, 519, 520, 521, 522, 523, 524, 525, 526, 527, 528, 529, 530, 531, 532, 533, 534, 535, 536, 537, 538, 539, 540, 541, 542, 543] (by decide +kernel) (by decide +kernel)
set_option maxRecDepth 20000 in
theorem gL_law_X6_rounds : GoodIn wsL_law (wsV RL 36 RX6 yX6_rounds wsX6_rounds) := goodIn_app (goodIn_of _ (by decide +kernel)) ggL_law_X6_rounds
set_option maxRecDepth 20000 in
theorem ggL_law_X5_steps : GoodIn wsL_law wsX5_steps := goodIn_r _ [290, 21, 173, 291, 513, 514, 515, 516, 550, 551, 552, 553, 554, 555, 556, 557, 558, 559, 560, 561, 562] (by decide +kernel) (by decide +kernel)
set_option maxRecDepth 20000 in
theorem gL_law_X5_steps : GoodIn wsL_law (wsV RL 37 RX5 yX5_steps wsX5_steps) := goodIn_app (goodIn_of _ (by decide +kernel)) ggL_law_X5_steps
set_option maxRecDepth 20000 in
theorem ggL_law_X6_steps : GoodIn wsL_law wsX6_steps := goodIn_r _ [295, 83, 250, 517, 518, 519, 520, 521, 522, 523, 524, 525, 526, 527, 528, 529, 530, 531, 532, 533, 534, 535, 536, 537, 538, 539, 540, 541, 542, 543] (by decide +kernel) (by decide +kernel)
set_option maxRecDepth 20000 in
theorem gL_law_X6_steps : GoodIn wsL_law (wsV RL 40 RX6 yX6_steps wsX6_steps) := goodIn_app (goodIn_of _ (by decide +kernel)) ggL_law_X6_steps
set_option maxRecDepth 20000 in
theorem ggL_law_X5_witness : GoodIn wsL_law wsX5_witness := goodIn_r _ [299, 21, 300, 301, 288, 289, 2, 290, 173, 291, 513, 514, 515, 516, 550, 551, 552, 553, 554, 555, 556, 557, 558, 559, 560, 561, 562] (by decide +kernel) (by decide +kernel)
set_option maxRecDepth 20000 in
theorem gL_law_X5_witness : GoodIn wsL_law (wsV RL 41 RX5 yX5_witness wsX5_witness) := goodIn_app (goodIn_of _ (by decide +kernel)) ggL_law_X5_witness
set_option maxRecDepth 20000 in
theorem ggL_law_X6_witness : GoodIn wsL_law wsX6_witness := goodIn_r _ [305, 83, 250, 89, 517, 518, 519, 520, 521, 522, 523, 524, 525, 526, 527, 528, 529, 530, 531, 532, 533, 534, 535, 536, 537, 538, 539, 540, 541, 542, 543] (by decide +kernel) (by decide +kernel)
set_option maxRecDepth 20000 in
theorem gL_law_X6_witness : GoodIn wsL_law (wsV RL 44 RX6 yX6_witness wsX6_witness) := goodIn_app (goodIn_of _ (by decide +kernel)) ggL_law_X6_witness
set_option maxRecDepth 20000 in
theorem ggL_law_X5_least : GoodIn wsL_law wsX5_least := goodIn_r _ [309, 21, 291, 310, 513, 514, 515, 516, 550, 551, 552, 553, 554, 555, 556, 557, 558, 559, 560, 561, 562] (by decide +kernel) (by decide +kernel)
set_option maxRecDepth 20000 in
theorem gL_law_X5_least : GoodIn wsL_law (wsV RL 45 RX5 yX5_least wsX5_least) := goodIn_app (goodIn_of _ (by decide +kernel)) ggL_law_X5_least
set_option maxRecDepth 20000 in
theorem ggL_law_X6_least : GoodIn wsL_law wsX6_least := goodIn_r _ [314, 83, 250, 84, 517, 518, 519, 520, 521, 522, 523, 524, 525, 526, 527, 528, 529, 530, 531, 532, 533, 534, 535, 536, 537, 538, 539, 540, 541, 542, 543] (by decide +kernel) (by decide +kernel)
set_option maxRecDepth 20000 in
theorem gL_law_X6_least : GoodIn wsL_law (wsV RL 48 RX6 yX6_least wsX6_least) := goodIn_app (goodIn_of _ (by decide +kernel)) ggL_law_X6_least
set_option maxRecDepth 20000 in
theorem ggL_law_X5_grow : GoodIn wsL_law wsX5_grow := goodIn_r _ [318, 25, 15, 319, 320, 321, 322, 323, 24, 324, 66, 64, 325, 326, 327, 328, 329, 65, 69, 330, 70, 331, 109, 110, 111, 71, 72, 67, 332, 333, 334, 335, 336, 337, 338, 339, 340, 341, 342, 343, 344, 345, 346, 347, 14, 348, 34, 29, 349, 350, 351, 352, 353, 354, 355, 356, 357, 35, 358, 359, 360, 361, 362, 363, 364, 365, 366, 367, 368, 369, 370, 371, 372, 373, 374, 375, 376, 377, 378, 73, 379, 380, 381, 382, 383, 384, 385, 386, 387, 388, 389, 390, 513, 514, 515, 516, 563, 564, 565, 566, 567, 568, 569, 570, 571, 544, 545, 546, 547, 548, 549] (by decide +kernel) (by decide +kernel)
set_option maxRecDepth 20000 in
theorem gL_law_X5_grow : GoodIn wsL_law (wsV RL 49 RX5 yX5_grow wsX5_grow) := goodIn_app (goodIn_of _ (by decide +kernel)) ggL_law_X5_grow
set_option maxRecDepth 20000 in
theorem ggL_law_X6_grow : GoodIn wsL_law wsX6_grow := goodIn_r _ [394, 395, 396, 91, 90, 78, 133, 93, 397, 81, 80, 116, 398, 399, 400, 401, 5, 402, 256, 257, 258, 279, 280, 281, 282, 152, 153, 154, 155, 403, 404, 405, 406, 407, 408, 409, 410, 411, 412, 92, 413, 414, 415, 416, 517, 518, 519, 520, 521, 522, 523, 524, 525, 526, 527, 528, 529, 530, 531, 532, 533, 534, 535, 536, 537, 538, 539, 540, 541, 542, 543] (by decide +kernel) (by decide +kernel)
set_option maxRecDepth 20000 in
theorem gL_law_X6_grow : GoodIn wsL_law (wsV RL 52 RX6 yX6_grow wsX6_grow) := goodIn_app (goodIn_of _ (by decide +kernel)) ggL_law_X6_grow
set_option maxRecDepth 20000 in
theorem ggL_law_X5_most : GoodIn wsL_law wsX5_most := goodIn_r _ [420, 25, 319, 421, 422, 423, 24, 424, 65, 425, 426, 427, 428, 67, 429, 430, 208, 431, 432, 433, 434, 435, 73, 367, 368, 369, 370, 70, 436, 437, 2, 438, 439, 513, 514, 515, 516, 563, 564, 565, 566, 567, 568, 569, 570, 571] (by decide +kernel) (by decide +kernel)
set_option maxRecDepth 20000 in
theorem gL_law_X5_most : GoodIn wsL_law (wsV RL 53 RX5 yX5_most wsX5_most) := goodIn_app (goodIn_of _ (by decide +kernel)) ggL_law_X5_most
set_option maxRecDepth 20000 in
theorem ggL_law_X6_most : GoodIn wsL_law wsX6_most := goodIn_r _ [443, 396, 90, 444, 445, 446, 5, 447, 395, 398, 448, 449, 450, 397, 517, 518, 519, 520, 521, 522, 523, 524, 525, 526, 527, 528, 529, 530, 531, 532, 533, 534, 535, 536, 537, 538, 539, 540, 541, 542, 543] (by decide +kernel) (by decide +kernel)
set_option maxRecDepth 20000 in
theorem gL_law_X6_most : GoodIn wsL_law (wsV RL 56 RX6 yX6_most wsX6_most) := goodIn_app (goodIn_of _ (by decide +kernel)) ggL_law_X6_most
set_option maxRecDepth 20000 in
theorem ggL_law_X5_live : GoodIn wsL_law wsX5_live := goodIn_r _ [454, 25, 319, 455, 101, 102, 2, 103, 513, 514, 515, 516, 563, 564, 565, 566, 567, 568, 569, 570, 571] (by decide +kernel) (by decide +kernel)
set_option maxRecDepth 20000 in
theorem gL_law_X5_live : GoodIn wsL_law (wsV RL 57 RX5 yX5_live wsX5_live) := goodIn_app (goodIn_of _ (by decide +kernel)) ggL_law_X5_live
set_option maxRecDepth 20000 in
theorem ggL_law_X6_live : GoodIn wsL_law wsX6_live := goodIn_r _ [459, 395, 411, 517, 518, 519, 520, 521, 522, 523, 524, 525, 526, 527, 528, 529, 530, 531, 532, 533, 534, 535, 536, 537, 538, 539, 540, 541, 542, 543] (by decide +kernel) (by decide +kernel)
set_option maxRecDepth 20000 in
theorem gL_law_X6_live : GoodIn wsL_law (wsV RL 61 RX6 yX6_live wsX6_live) := goodIn_app (goodIn_of _ (by decide +kernel)) ggL_law_X6_live
set_option maxRecDepth 20000 in
theorem ggL_law_X5_limits : GoodIn wsL_law wsX5_limits := goodIn_r _ [463, 25, 319, 464, 513, 514, 515, 516, 563, 564, 565, 566, 567, 568, 569, 570, 571] (by decide +kernel) (by decide +kernel)
set_option maxRecDepth 20000 in
theorem gL_law_X5_limits : GoodIn wsL_law (wsV RL 62 RX5 yX5_limits wsX5_limits) := goodIn_app (goodIn_of _ (by decide +kernel)) ggL_law_X5_limits
set_option maxRecDepth 20000 in
theorem ggL_law_X6_limits : GoodIn wsL_law wsX6_limits := goodIn_r _ [468, 395, 412, 517, 518, 519, 520, 521, 522, 523, 524, 525, 526, 527, 528, 529, 530, 531, 532, 533, 534, 535, 536, 537, 538, 539, 540, 541, 542, 543] (by decide +kernel) (by decide +kernel)
set_option maxRecDepth 20000 in
theorem gL_law_X6_limits : GoodIn wsL_law (wsV RL 65 RX6 yX6_limits wsX6_limits) := goodIn_app (goodIn_of _ (by decide +kernel)) ggL_law_X6_limits
set_option maxRecDepth 20000 in
theorem ggL_law_X5_limit : GoodIn wsL_law wsX5_limit := goodIn_r _ [472, 25, 319, 464, 421, 422, 423, 24, 424, 65, 473, 433, 434, 435, 73, 367, 368, 369, 370, 70, 436, 437, 2, 438, 439, 513, 514, 515, 516, 563, 564, 565, 566, 567, 568, 569, 570, 571] (by decide +kernel) (by decide +kernel)
set_option maxRecDepth 20000 in
theorem gL_law_X5_limit : GoodIn wsL_law (wsV RL 66 RX5 yX5_limit wsX5_limit) := goodIn_app (goodIn_of _ (by decide +kernel)) ggL_law_X5_limit
set_option maxRecDepth 20000 in
theorem ggL_law_X6_limit : GoodIn wsL_law wsX6_limit := goodIn_r _ [477, 412, 90, 92, 444, 445, 446, 5, 447, 395, 398, 448, 449, 450, 397, 517, 518, 519, 520, 521, 522, 523, 524, 525, 526, 527, 528, 529, 530, 531, 532, 533, 534, 535, 536, 537, 538, 539, 540, 541, 542, 543] (by decide +kernel) (by decide +kernel)
set_option maxRecDepth 20000 in
theorem gL_law_X6_limit : GoodIn wsL_law (wsV RL 70 RX6 yX6_limit wsX6_limit) := goodIn_app (goodIn_of _ (by decide +kernel)) ggL_law_X6_limit
set_option maxRecDepth 20000 in
theorem ggL_law_X5_covers : GoodIn wsL_law wsX5_covers := goodIn_r _ [481, 25, 319, 482, 15, 99, 164, 483, 484, 485, 24, 486, 67, 487, 488, 489, 490, 65, 432, 433, 434, 435, 73, 367, 368, 369, 370, 70, 513, 514, 515, 516, 563, 564, 565, 566, 567, 568, 569, 570, 571, 544, 545, 546, 547, 548, 549] (by decide +kernel) (by decide +kernel)
set_option maxRecDepth 20000 in
theorem gL_law_X5_covers : GoodIn wsL_law (wsV RL 71 RX5 yX5_covers wsX5_covers) := goodIn_app (goodIn_of _ (by decide +kernel)) ggL_law_X5_covers
set_option maxRecDepth 20000 in
theorem ggL_law_X6_covers : GoodIn wsL_law wsX6_covers := goodIn_r _ [494, 396, 395, 398, 116, 90, 79, 256, 257, 5, 258, 517, 518, 519, 520, 521, 522, 523, 524, 525, 526, 527, 528, 529, 530, 531, 532, 533, 534, 535, 536, 537, 538, 539, 540, 541, 542, 543] (by decide +kernel) (by decide +kernel)
set_option maxRecDepth 20000 in
theorem gL_law_X6_covers : GoodIn wsL_law (wsV RL 75 RX6 yX6_covers wsX6_covers) := goodIn_app (goodIn_of _ (by decide +kernel)) ggL_law_X6_covers
set_option maxRecDepth 20000 in
theorem ggL_law_X5_fire : GoodIn wsL_law wsX5_fire := goodIn_r _ [498, 15, 17, 140, 141, 142, 14, 143, 30, 499, 346, 347, 348, 34, 29, 500, 354, 355, 356, 357, 35, 513, 514, 515, 516, 544, 545, 546, 547, 548, 549] (by decide +kernel) (by decide +kernel)
set_option maxRecDepth 20000 in
theorem gL_law_X5_fire : GoodIn wsL_law (wsV RL 76 RX5 yX5_fire wsX5_fire) := goodIn_app (goodIn_of _ (by decide +kernel)) ggL_law_X5_fire
set_option maxRecDepth 20000 in
theorem ggL_law_X6_fire : GoodIn wsL_law wsX6_fire := goodIn_r _ [504, 82, 81, 80, 279, 280, 281, 5, 282, 152, 153, 154, 155, 133, 256, 257, 258, 517, 518, 519, 520, 521, 522, 523, 524, 525, 526, 527, 528, 529, 530, 531, 532, 533, 534, 535, 536, 537, 538, 539, 540, 541, 542, 543] (by decide +kernel) (by decide +kernel)
set_option maxRecDepth 20000 in
theorem gL_law_X6_fire : GoodIn wsL_law (wsV RL 79 RX6 yX6_fire wsX6_fire) := goodIn_app (goodIn_of _ (by decide +kernel)) ggL_law_X6_fire
set_option maxRecDepth 20000 in
theorem ggL_law_X5_tokens : GoodIn wsL_law wsX5_tokens := goodIn_r _ [508, 15, 17, 144, 145, 146, 14, 147, 29, 513, 514, 515, 516, 544, 545, 546, 547, 548, 549] (by decide +kernel) (by decide +kernel)
set_option maxRecDepth 20000 in
theorem gL_law_X5_tokens : GoodIn wsL_law (wsV RL 80 RX5 yX5_tokens wsX5_tokens) := goodIn_app (goodIn_of _ (by decide +kernel)) ggL_law_X5_tokens
set_option maxRecDepth 20000 in
theorem ggL_law_X6_tokens : GoodIn wsL_law wsX6_tokens := goodIn_r _ [512, 82, 156, 157, 158, 5, 159, 116, 517, 518, 519, 520, 521, 522, 523, 524, 525, 526, 527, 528, 529, 530, 531, 532, 533, 534, 535, 536, 537, 538, 539, 540, 541, 542, 543] (by decide +kernel) (by decide +kernel)
set_option maxRecDepth 20000 in
theorem gL_law_X6_tokens : GoodIn wsL_law (wsV RL 83 RX6 yX6_tokens wsX6_tokens) := goodIn_app (goodIn_of _ (by decide +kernel)) ggL_law_X6_tokens
theorem dL_law_0 : decode cL_law 0 = .ok (.new 7, 3) := by decide +kernel
theorem dL_law_3 : decode cL_law 3 = .ok (.dup, 1) := by decide +kernel
theorem dL_law_4 : decode cL_law 4 = .ok (.invokespecial 9, 3) := by decide +kernel
theorem dL_law_7 : decode cL_law 7 = .ok (.astore_n 1, 1) := by decide +kernel
theorem dL_law_8 : decode cL_law 8 = .ok (.new 10, 3) := by decide +kernel
theorem dL_law_11 : decode cL_law 11 = .ok (.dup, 1) := by decide +kernel
theorem dL_law_12 : decode cL_law 12 = .ok (.invokespecial 12, 3) := by decide +kernel
theorem dL_law_15 : decode cL_law 15 = .ok (.astore_n 2, 1) := by decide +kernel
theorem dL_law_16 : decode cL_law 16 = .ok (.iconst 0, 1) := by decide +kernel
theorem dL_law_17 : decode cL_law 17 = .ok (.istore_n 3, 1) := by decide +kernel
theorem dL_law_18 : decode cL_law 18 = .ok (.iload_n 3, 1) := by decide +kernel
theorem dL_law_19 : decode cL_law 19 = .ok (.aload_n 0, 1) := by decide +kernel
theorem dL_law_20 : decode cL_law 20 = .ok (.arraylength, 1) := by decide +kernel
theorem dL_law_21 : decode cL_law 21 = .ok (.iconst 5, 1) := by decide +kernel
theorem dL_law_22 : decode cL_law 22 = .ok (.isub, 1) := by decide +kernel
theorem dL_law_23 : decode cL_law 23 = .ok (.if_icmp .gt 453, 3) := by decide +kernel
theorem dL_law_26 : decode cL_law 26 = .ok (.aload_n 0, 1) := by decide +kernel
theorem dL_law_27 : decode cL_law 27 = .ok (.iload_n 3, 1) := by decide +kernel
theorem dL_law_28 : decode cL_law 28 = .ok (.iaload, 1) := by decide +kernel
theorem dL_law_29 : decode cL_law 29 = .ok (.bipush 15, 2) := by decide +kernel
theorem dL_law_31 : decode cL_law 31 = .ok (.iand, 1) := by decide +kernel
theorem dL_law_32 : decode cL_law 32 = .ok (.tableswitch 438 0 15 #[80, 103, 116, 169, 202, 215, 228, 251, 274, 287, 310, 333, 346, 379, 392, 415], 80) := by decide +kernel
theorem dL_law_112 : decode cL_law 112 = .ok (.aload_n 1, 1) := by decide +kernel
theorem dL_law_113 : decode cL_law 113 = .ok (.aload_n 0, 1) := by decide +kernel
theorem dL_law_114 : decode cL_law 114 = .ok (.iload_n 3, 1) := by decide +kernel
theorem dL_law_115 : decode cL_law 115 = .ok (.iconst 1, 1) := by decide +kernel
theorem dL_law_116 : decode cL_law 116 = .ok (.iadd, 1) := by decide +kernel
theorem dL_law_117 : decode cL_law 117 = .ok (.iaload, 1) := by decide +kernel
theorem dL_law_118 : decode cL_law 118 = .ok (.invokevirtual 13, 3) := by decide +kernel
theorem dL_law_121 : decode cL_law 121 = .ok (.aload_n 2, 1) := by decide +kernel
theorem dL_law_122 : decode cL_law 122 = .ok (.aload_n 0, 1) := by decide +kernel
theorem dL_law_123 : decode cL_law 123 = .ok (.iload_n 3, 1) := by decide +kernel
theorem dL_law_124 : decode cL_law 124 = .ok (.iconst 1, 1) := by decide +kernel
theorem dL_law_125 : decode cL_law 125 = .ok (.iadd, 1) := by decide +kernel
theorem dL_law_126 : decode cL_law 126 = .ok (.iaload, 1) := by decide +kernel
theorem dL_law_127 : decode cL_law 127 = .ok (.invokevirtual 17, 3) := by decide +kernel
theorem dL_law_130 : decode cL_law 130 = .ok (.if_icmp .eq 340, 3) := by decide +kernel
theorem dL_law_133 : decode cL_law 133 = .ok (.iconst 0, 1) := by decide +kernel
theorem dL_law_134 : decode cL_law 134 = .ok (.ireturn, 1) := by decide +kernel
theorem dL_law_135 : decode cL_law 135 = .ok (.aload_n 1, 1) := by decide +kernel
theorem dL_law_136 : decode cL_law 136 = .ok (.invokevirtual 18, 3) := by decide +kernel
theorem dL_law_139 : decode cL_law 139 = .ok (.aload_n 2, 1) := by decide +kernel
theorem dL_law_140 : decode cL_law 140 = .ok (.invokevirtual 22, 3) := by decide +kernel
theorem dL_law_143 : decode cL_law 143 = .ok (.if_icmp .eq 327, 3) := by decide +kernel
theorem dL_law_146 : decode cL_law 146 = .ok (.iconst 0, 1) := by decide +kernel
theorem dL_law_147 : decode cL_law 147 = .ok (.ireturn, 1) := by decide +kernel
theorem dL_law_148 : decode cL_law 148 = .ok (.aload_n 1, 1) := by decide +kernel
theorem dL_law_149 : decode cL_law 149 = .ok (.aload_n 0, 1) := by decide +kernel
theorem dL_law_150 : decode cL_law 150 = .ok (.iload_n 3, 1) := by decide +kernel
theorem dL_law_151 : decode cL_law 151 = .ok (.iconst 1, 1) := by decide +kernel
theorem dL_law_152 : decode cL_law 152 = .ok (.iadd, 1) := by decide +kernel
theorem dL_law_153 : decode cL_law 153 = .ok (.iaload, 1) := by decide +kernel
theorem dL_law_154 : decode cL_law 154 = .ok (.aload_n 0, 1) := by decide +kernel
theorem dL_law_155 : decode cL_law 155 = .ok (.iload_n 3, 1) := by decide +kernel
theorem dL_law_156 : decode cL_law 156 = .ok (.iconst 2, 1) := by decide +kernel
theorem dL_law_157 : decode cL_law 157 = .ok (.iadd, 1) := by decide +kernel
theorem dL_law_158 : decode cL_law 158 = .ok (.iaload, 1) := by decide +kernel
theorem dL_law_159 : decode cL_law 159 = .ok (.aload_n 0, 1) := by decide +kernel
theorem dL_law_160 : decode cL_law 160 = .ok (.iload_n 3, 1) := by decide +kernel
theorem dL_law_161 : decode cL_law 161 = .ok (.iconst 3, 1) := by decide +kernel
theorem dL_law_162 : decode cL_law 162 = .ok (.iadd, 1) := by decide +kernel
theorem dL_law_163 : decode cL_law 163 = .ok (.iaload, 1) := by decide +kernel
theorem dL_law_164 : decode cL_law 164 = .ok (.aload_n 0, 1) := by decide +kernel
theorem dL_law_165 : decode cL_law 165 = .ok (.iload_n 3, 1) := by decide +kernel
theorem dL_law_166 : decode cL_law 166 = .ok (.iconst 4, 1) := by decide +kernel
theorem dL_law_167 : decode cL_law 167 = .ok (.iadd, 1) := by decide +kernel
theorem dL_law_168 : decode cL_law 168 = .ok (.iaload, 1) := by decide +kernel
theorem dL_law_169 : decode cL_law 169 = .ok (.invokevirtual 23, 3) := by decide +kernel
theorem dL_law_172 : decode cL_law 172 = .ok (.aload_n 2, 1) := by decide +kernel
theorem dL_law_173 : decode cL_law 173 = .ok (.aload_n 0, 1) := by decide +kernel
theorem dL_law_174 : decode cL_law 174 = .ok (.iload_n 3, 1) := by decide +kernel
theorem dL_law_175 : decode cL_law 175 = .ok (.iconst 1, 1) := by decide +kernel
theorem dL_law_176 : decode cL_law 176 = .ok (.iadd, 1) := by decide +kernel
theorem dL_law_177 : decode cL_law 177 = .ok (.iaload, 1) := by decide +kernel
theorem dL_law_178 : decode cL_law 178 = .ok (.aload_n 0, 1) := by decide +kernel
theorem dL_law_179 : decode cL_law 179 = .ok (.iload_n 3, 1) := by decide +kernel
theorem dL_law_180 : decode cL_law 180 = .ok (.iconst 2, 1) := by decide +kernel
theorem dL_law_181 : decode cL_law 181 = .ok (.iadd, 1) := by decide +kernel
theorem dL_law_182 : decode cL_law 182 = .ok (.iaload, 1) := by decide +kernel
theorem dL_law_183 : decode cL_law 183 = .ok (.aload_n 0, 1) := by decide +kernel
theorem dL_law_184 : decode cL_law 184 = .ok (.iload_n 3, 1) := by decide +kernel
theorem dL_law_185 : decode cL_law 185 = .ok (.iconst 3, 1) := by decide +kernel
theorem dL_law_186 : decode cL_law 186 = .ok (.iadd, 1) := by decide +kernel
theorem dL_law_187 : decode cL_law 187 = .ok (.iaload, 1) := by decide +kernel
theorem dL_law_188 : decode cL_law 188 = .ok (.aload_n 0, 1) := by decide +kernel
theorem dL_law_189 : decode cL_law 189 = .ok (.iload_n 3, 1) := by decide +kernel
theorem dL_law_190 : decode cL_law 190 = .ok (.iconst 4, 1) := by decide +kernel
theorem dL_law_191 : decode cL_law 191 = .ok (.iadd, 1) := by decide +kernel
theorem dL_law_192 : decode cL_law 192 = .ok (.iaload, 1) := by decide +kernel
theorem dL_law_193 : decode cL_law 193 = .ok (.invokevirtual 27, 3) := by decide +kernel
theorem dL_law_196 : decode cL_law 196 = .ok (.if_icmp .eq 274, 3) := by decide +kernel
theorem dL_law_199 : decode cL_law 199 = .ok (.iconst 0, 1) := by decide +kernel
theorem dL_law_200 : decode cL_law 200 = .ok (.ireturn, 1) := by decide +kernel
theorem dL_law_201 : decode cL_law 201 = .ok (.aload_n 1, 1) := by decide +kernel
theorem dL_law_202 : decode cL_law 202 = .ok (.aload_n 0, 1) := by decide +kernel
theorem dL_law_203 : decode cL_law 203 = .ok (.iload_n 3, 1) := by decide +kernel
theorem dL_law_204 : decode cL_law 204 = .ok (.iconst 1, 1) := by decide +kernel
theorem dL_law_205 : decode cL_law 205 = .ok (.iadd, 1) := by decide +kernel
theorem dL_law_206 : decode cL_law 206 = .ok (.iaload, 1) := by decide +kernel
theorem dL_law_207 : decode cL_law 207 = .ok (.aload_n 0, 1) := by decide +kernel
theorem dL_law_208 : decode cL_law 208 = .ok (.iload_n 3, 1) := by decide +kernel
theorem dL_law_209 : decode cL_law 209 = .ok (.iconst 2, 1) := by decide +kernel
theorem dL_law_210 : decode cL_law 210 = .ok (.iadd, 1) := by decide +kernel
theorem dL_law_211 : decode cL_law 211 = .ok (.iaload, 1) := by decide +kernel
theorem dL_law_212 : decode cL_law 212 = .ok (.invokevirtual 28, 3) := by decide +kernel
theorem dL_law_215 : decode cL_law 215 = .ok (.aload_n 2, 1) := by decide +kernel
theorem dL_law_216 : decode cL_law 216 = .ok (.aload_n 0, 1) := by decide +kernel
theorem dL_law_217 : decode cL_law 217 = .ok (.iload_n 3, 1) := by decide +kernel
theorem dL_law_218 : decode cL_law 218 = .ok (.iconst 1, 1) := by decide +kernel
theorem dL_law_219 : decode cL_law 219 = .ok (.iadd, 1) := by decide +kernel
theorem dL_law_220 : decode cL_law 220 = .ok (.iaload, 1) := by decide +kernel
theorem dL_law_221 : decode cL_law 221 = .ok (.aload_n 0, 1) := by decide +kernel
theorem dL_law_222 : decode cL_law 222 = .ok (.iload_n 3, 1) := by decide +kernel
theorem dL_law_223 : decode cL_law 223 = .ok (.iconst 2, 1) := by decide +kernel
theorem dL_law_224 : decode cL_law 224 = .ok (.iadd, 1) := by decide +kernel
theorem dL_law_225 : decode cL_law 225 = .ok (.iaload, 1) := by decide +kernel
theorem dL_law_226 : decode cL_law 226 = .ok (.invokevirtual 32, 3) := by decide +kernel
theorem dL_law_229 : decode cL_law 229 = .ok (.if_icmp .eq 241, 3) := by decide +kernel
theorem dL_law_232 : decode cL_law 232 = .ok (.iconst 0, 1) := by decide +kernel
theorem dL_law_233 : decode cL_law 233 = .ok (.ireturn, 1) := by decide +kernel
theorem dL_law_234 : decode cL_law 234 = .ok (.aload_n 1, 1) := by decide +kernel
theorem dL_law_235 : decode cL_law 235 = .ok (.invokevirtual 33, 3) := by decide +kernel
theorem dL_law_238 : decode cL_law 238 = .ok (.aload_n 2, 1) := by decide +kernel
theorem dL_law_239 : decode cL_law 239 = .ok (.invokevirtual 36, 3) := by decide +kernel
theorem dL_law_242 : decode cL_law 242 = .ok (.if_icmp .eq 228, 3) := by decide +kernel
theorem dL_law_245 : decode cL_law 245 = .ok (.iconst 0, 1) := by decide +kernel
theorem dL_law_246 : decode cL_law 246 = .ok (.ireturn, 1) := by decide +kernel
theorem dL_law_247 : decode cL_law 247 = .ok (.aload_n 1, 1) := by decide +kernel
theorem dL_law_248 : decode cL_law 248 = .ok (.invokevirtual 37, 3) := by decide +kernel
theorem dL_law_251 : decode cL_law 251 = .ok (.aload_n 2, 1) := by decide +kernel
theorem dL_law_252 : decode cL_law 252 = .ok (.invokevirtual 40, 3) := by decide +kernel
theorem dL_law_255 : decode cL_law 255 = .ok (.if_icmp .eq 215, 3) := by decide +kernel
theorem dL_law_258 : decode cL_law 258 = .ok (.iconst 0, 1) := by decide +kernel
theorem dL_law_259 : decode cL_law 259 = .ok (.ireturn, 1) := by decide +kernel
theorem dL_law_260 : decode cL_law 260 = .ok (.aload_n 1, 1) := by decide +kernel
theorem dL_law_261 : decode cL_law 261 = .ok (.aload_n 0, 1) := by decide +kernel
theorem dL_law_262 : decode cL_law 262 = .ok (.iload_n 3, 1) := by decide +kernel
theorem dL_law_263 : decode cL_law 263 = .ok (.iconst 1, 1) := by decide +kernel
theorem dL_law_264 : decode cL_law 264 = .ok (.iadd, 1) := by decide +kernel
theorem dL_law_265 : decode cL_law 265 = .ok (.iaload, 1) := by decide +kernel
theorem dL_law_266 : decode cL_law 266 = .ok (.invokevirtual 41, 3) := by decide +kernel
theorem dL_law_269 : decode cL_law 269 = .ok (.aload_n 2, 1) := by decide +kernel
theorem dL_law_270 : decode cL_law 270 = .ok (.aload_n 0, 1) := by decide +kernel
theorem dL_law_271 : decode cL_law 271 = .ok (.iload_n 3, 1) := by decide +kernel
theorem dL_law_272 : decode cL_law 272 = .ok (.iconst 1, 1) := by decide +kernel
theorem dL_law_273 : decode cL_law 273 = .ok (.iadd, 1) := by decide +kernel
theorem dL_law_274 : decode cL_law 274 = .ok (.iaload, 1) := by decide +kernel
theorem dL_law_275 : decode cL_law 275 = .ok (.invokevirtual 44, 3) := by decide +kernel
theorem dL_law_278 : decode cL_law 278 = .ok (.if_icmp .eq 192, 3) := by decide +kernel
theorem dL_law_281 : decode cL_law 281 = .ok (.iconst 0, 1) := by decide +kernel
theorem dL_law_282 : decode cL_law 282 = .ok (.ireturn, 1) := by decide +kernel
theorem dL_law_283 : decode cL_law 283 = .ok (.aload_n 1, 1) := by decide +kernel
theorem dL_law_284 : decode cL_law 284 = .ok (.aload_n 0, 1) := by decide +kernel
theorem dL_law_285 : decode cL_law 285 = .ok (.iload_n 3, 1) := by decide +kernel
theorem dL_law_286 : decode cL_law 286 = .ok (.iconst 1, 1) := by decide +kernel
theorem dL_law_287 : decode cL_law 287 = .ok (.iadd, 1) := by decide +kernel
theorem dL_law_288 : decode cL_law 288 = .ok (.iaload, 1) := by decide +kernel
theorem dL_law_289 : decode cL_law 289 = .ok (.invokevirtual 45, 3) := by decide +kernel
theorem dL_law_292 : decode cL_law 292 = .ok (.aload_n 2, 1) := by decide +kernel
theorem dL_law_293 : decode cL_law 293 = .ok (.aload_n 0, 1) := by decide +kernel
theorem dL_law_294 : decode cL_law 294 = .ok (.iload_n 3, 1) := by decide +kernel
theorem dL_law_295 : decode cL_law 295 = .ok (.iconst 1, 1) := by decide +kernel
theorem dL_law_296 : decode cL_law 296 = .ok (.iadd, 1) := by decide +kernel
theorem dL_law_297 : decode cL_law 297 = .ok (.iaload, 1) := by decide +kernel
theorem dL_law_298 : decode cL_law 298 = .ok (.invokevirtual 48, 3) := by decide +kernel
theorem dL_law_301 : decode cL_law 301 = .ok (.if_icmp .eq 169, 3) := by decide +kernel
theorem dL_law_304 : decode cL_law 304 = .ok (.iconst 0, 1) := by decide +kernel
theorem dL_law_305 : decode cL_law 305 = .ok (.ireturn, 1) := by decide +kernel
theorem dL_law_306 : decode cL_law 306 = .ok (.aload_n 1, 1) := by decide +kernel
theorem dL_law_307 : decode cL_law 307 = .ok (.invokevirtual 49, 3) := by decide +kernel
theorem dL_law_310 : decode cL_law 310 = .ok (.aload_n 2, 1) := by decide +kernel
theorem dL_law_311 : decode cL_law 311 = .ok (.invokevirtual 52, 3) := by decide +kernel
theorem dL_law_314 : decode cL_law 314 = .ok (.if_icmp .eq 156, 3) := by decide +kernel
theorem dL_law_317 : decode cL_law 317 = .ok (.iconst 0, 1) := by decide +kernel
theorem dL_law_318 : decode cL_law 318 = .ok (.ireturn, 1) := by decide +kernel
theorem dL_law_319 : decode cL_law 319 = .ok (.aload_n 1, 1) := by decide +kernel
theorem dL_law_320 : decode cL_law 320 = .ok (.aload_n 0, 1) := by decide +kernel
theorem dL_law_321 : decode cL_law 321 = .ok (.iload_n 3, 1) := by decide +kernel
theorem dL_law_322 : decode cL_law 322 = .ok (.iconst 1, 1) := by decide +kernel
theorem dL_law_323 : decode cL_law 323 = .ok (.iadd, 1) := by decide +kernel
theorem dL_law_324 : decode cL_law 324 = .ok (.iaload, 1) := by decide +kernel
theorem dL_law_325 : decode cL_law 325 = .ok (.invokevirtual 53, 3) := by decide +kernel
theorem dL_law_328 : decode cL_law 328 = .ok (.aload_n 2, 1) := by decide +kernel
theorem dL_law_329 : decode cL_law 329 = .ok (.aload_n 0, 1) := by decide +kernel
theorem dL_law_330 : decode cL_law 330 = .ok (.iload_n 3, 1) := by decide +kernel
theorem dL_law_331 : decode cL_law 331 = .ok (.iconst 1, 1) := by decide +kernel
theorem dL_law_332 : decode cL_law 332 = .ok (.iadd, 1) := by decide +kernel
theorem dL_law_333 : decode cL_law 333 = .ok (.iaload, 1) := by decide +kernel
theorem dL_law_334 : decode cL_law 334 = .ok (.invokevirtual 56, 3) := by decide +kernel
theorem dL_law_337 : decode cL_law 337 = .ok (.if_icmp .eq 133, 3) := by decide +kernel
theorem dL_law_340 : decode cL_law 340 = .ok (.iconst 0, 1) := by decide +kernel
theorem dL_law_341 : decode cL_law 341 = .ok (.ireturn, 1) := by decide +kernel
theorem dL_law_342 : decode cL_law 342 = .ok (.aload_n 1, 1) := by decide +kernel
theorem dL_law_343 : decode cL_law 343 = .ok (.aload_n 0, 1) := by decide +kernel
theorem dL_law_344 : decode cL_law 344 = .ok (.iload_n 3, 1) := by decide +kernel
theorem dL_law_345 : decode cL_law 345 = .ok (.iconst 1, 1) := by decide +kernel
theorem dL_law_346 : decode cL_law 346 = .ok (.iadd, 1) := by decide +kernel
theorem dL_law_347 : decode cL_law 347 = .ok (.iaload, 1) := by decide +kernel
theorem dL_law_348 : decode cL_law 348 = .ok (.invokevirtual 57, 3) := by decide +kernel
theorem dL_law_351 : decode cL_law 351 = .ok (.aload_n 2, 1) := by decide +kernel
theorem dL_law_352 : decode cL_law 352 = .ok (.aload_n 0, 1) := by decide +kernel
theorem dL_law_353 : decode cL_law 353 = .ok (.iload_n 3, 1) := by decide +kernel
theorem dL_law_354 : decode cL_law 354 = .ok (.iconst 1, 1) := by decide +kernel
theorem dL_law_355 : decode cL_law 355 = .ok (.iadd, 1) := by decide +kernel
theorem dL_law_356 : decode cL_law 356 = .ok (.iaload, 1) := by decide +kernel
theorem dL_law_357 : decode cL_law 357 = .ok (.invokevirtual 61, 3) := by decide +kernel
theorem dL_law_360 : decode cL_law 360 = .ok (.if_icmp .eq 110, 3) := by decide +kernel
theorem dL_law_363 : decode cL_law 363 = .ok (.iconst 0, 1) := by decide +kernel
theorem dL_law_364 : decode cL_law 364 = .ok (.ireturn, 1) := by decide +kernel
theorem dL_law_365 : decode cL_law 365 = .ok (.aload_n 1, 1) := by decide +kernel
theorem dL_law_366 : decode cL_law 366 = .ok (.invokevirtual 62, 3) := by decide +kernel
theorem dL_law_369 : decode cL_law 369 = .ok (.aload_n 2, 1) := by decide +kernel
theorem dL_law_370 : decode cL_law 370 = .ok (.invokevirtual 65, 3) := by decide +kernel
theorem dL_law_373 : decode cL_law 373 = .ok (.if_icmp .eq 97, 3) := by decide +kernel
theorem dL_law_376 : decode cL_law 376 = .ok (.iconst 0, 1) := by decide +kernel
theorem dL_law_377 : decode cL_law 377 = .ok (.ireturn, 1) := by decide +kernel
theorem dL_law_378 : decode cL_law 378 = .ok (.aload_n 1, 1) := by decide +kernel
theorem dL_law_379 : decode cL_law 379 = .ok (.aload_n 0, 1) := by decide +kernel
theorem dL_law_380 : decode cL_law 380 = .ok (.iload_n 3, 1) := by decide +kernel
theorem dL_law_381 : decode cL_law 381 = .ok (.iconst 1, 1) := by decide +kernel
theorem dL_law_382 : decode cL_law 382 = .ok (.iadd, 1) := by decide +kernel
theorem dL_law_383 : decode cL_law 383 = .ok (.iaload, 1) := by decide +kernel
theorem dL_law_384 : decode cL_law 384 = .ok (.aload_n 0, 1) := by decide +kernel
theorem dL_law_385 : decode cL_law 385 = .ok (.iload_n 3, 1) := by decide +kernel
theorem dL_law_386 : decode cL_law 386 = .ok (.iconst 2, 1) := by decide +kernel
theorem dL_law_387 : decode cL_law 387 = .ok (.iadd, 1) := by decide +kernel
theorem dL_law_388 : decode cL_law 388 = .ok (.iaload, 1) := by decide +kernel
theorem dL_law_389 : decode cL_law 389 = .ok (.invokevirtual 66, 3) := by decide +kernel
theorem dL_law_392 : decode cL_law 392 = .ok (.aload_n 2, 1) := by decide +kernel
theorem dL_law_393 : decode cL_law 393 = .ok (.aload_n 0, 1) := by decide +kernel
theorem dL_law_394 : decode cL_law 394 = .ok (.iload_n 3, 1) := by decide +kernel
theorem dL_law_395 : decode cL_law 395 = .ok (.iconst 1, 1) := by decide +kernel
theorem dL_law_396 : decode cL_law 396 = .ok (.iadd, 1) := by decide +kernel
theorem dL_law_397 : decode cL_law 397 = .ok (.iaload, 1) := by decide +kernel
theorem dL_law_398 : decode cL_law 398 = .ok (.aload_n 0, 1) := by decide +kernel
theorem dL_law_399 : decode cL_law 399 = .ok (.iload_n 3, 1) := by decide +kernel
theorem dL_law_400 : decode cL_law 400 = .ok (.iconst 2, 1) := by decide +kernel
theorem dL_law_401 : decode cL_law 401 = .ok (.iadd, 1) := by decide +kernel
theorem dL_law_402 : decode cL_law 402 = .ok (.iaload, 1) := by decide +kernel
theorem dL_law_403 : decode cL_law 403 = .ok (.invokevirtual 70, 3) := by decide +kernel
theorem dL_law_406 : decode cL_law 406 = .ok (.if_icmp .eq 64, 3) := by decide +kernel
theorem dL_law_409 : decode cL_law 409 = .ok (.iconst 0, 1) := by decide +kernel
theorem dL_law_410 : decode cL_law 410 = .ok (.ireturn, 1) := by decide +kernel
theorem dL_law_411 : decode cL_law 411 = .ok (.aload_n 1, 1) := by decide +kernel
theorem dL_law_412 : decode cL_law 412 = .ok (.invokevirtual 71, 3) := by decide +kernel
theorem dL_law_415 : decode cL_law 415 = .ok (.aload_n 2, 1) := by decide +kernel
theorem dL_law_416 : decode cL_law 416 = .ok (.invokevirtual 75, 3) := by decide +kernel
theorem dL_law_419 : decode cL_law 419 = .ok (.if_icmp .eq 51, 3) := by decide +kernel
theorem dL_law_422 : decode cL_law 422 = .ok (.iconst 0, 1) := by decide +kernel
theorem dL_law_423 : decode cL_law 423 = .ok (.ireturn, 1) := by decide +kernel
theorem dL_law_424 : decode cL_law 424 = .ok (.aload_n 1, 1) := by decide +kernel
theorem dL_law_425 : decode cL_law 425 = .ok (.aload_n 0, 1) := by decide +kernel
theorem dL_law_426 : decode cL_law 426 = .ok (.iload_n 3, 1) := by decide +kernel
theorem dL_law_427 : decode cL_law 427 = .ok (.iconst 1, 1) := by decide +kernel
theorem dL_law_428 : decode cL_law 428 = .ok (.iadd, 1) := by decide +kernel
theorem dL_law_429 : decode cL_law 429 = .ok (.iaload, 1) := by decide +kernel
theorem dL_law_430 : decode cL_law 430 = .ok (.invokevirtual 76, 3) := by decide +kernel
theorem dL_law_433 : decode cL_law 433 = .ok (.aload_n 2, 1) := by decide +kernel
theorem dL_law_434 : decode cL_law 434 = .ok (.aload_n 0, 1) := by decide +kernel
theorem dL_law_435 : decode cL_law 435 = .ok (.iload_n 3, 1) := by decide +kernel
theorem dL_law_436 : decode cL_law 436 = .ok (.iconst 1, 1) := by decide +kernel
theorem dL_law_437 : decode cL_law 437 = .ok (.iadd, 1) := by decide +kernel
theorem dL_law_438 : decode cL_law 438 = .ok (.iaload, 1) := by decide +kernel
theorem dL_law_439 : decode cL_law 439 = .ok (.invokevirtual 79, 3) := by decide +kernel
theorem dL_law_442 : decode cL_law 442 = .ok (.if_icmp .eq 28, 3) := by decide +kernel
theorem dL_law_445 : decode cL_law 445 = .ok (.iconst 0, 1) := by decide +kernel
theorem dL_law_446 : decode cL_law 446 = .ok (.ireturn, 1) := by decide +kernel
theorem dL_law_447 : decode cL_law 447 = .ok (.aload_n 1, 1) := by decide +kernel
theorem dL_law_448 : decode cL_law 448 = .ok (.aload_n 0, 1) := by decide +kernel
theorem dL_law_449 : decode cL_law 449 = .ok (.iload_n 3, 1) := by decide +kernel
theorem dL_law_450 : decode cL_law 450 = .ok (.iconst 1, 1) := by decide +kernel
theorem dL_law_451 : decode cL_law 451 = .ok (.iadd, 1) := by decide +kernel
theorem dL_law_452 : decode cL_law 452 = .ok (.iaload, 1) := by decide +kernel
theorem dL_law_453 : decode cL_law 453 = .ok (.invokevirtual 80, 3) := by decide +kernel
theorem dL_law_456 : decode cL_law 456 = .ok (.aload_n 2, 1) := by decide +kernel
theorem dL_law_457 : decode cL_law 457 = .ok (.aload_n 0, 1) := by decide +kernel
theorem dL_law_458 : decode cL_law 458 = .ok (.iload_n 3, 1) := by decide +kernel
theorem dL_law_459 : decode cL_law 459 = .ok (.iconst 1, 1) := by decide +kernel
theorem dL_law_460 : decode cL_law 460 = .ok (.iadd, 1) := by decide +kernel
theorem dL_law_461 : decode cL_law 461 = .ok (.iaload, 1) := by decide +kernel
theorem dL_law_462 : decode cL_law 462 = .ok (.invokevirtual 83, 3) := by decide +kernel
theorem dL_law_465 : decode cL_law 465 = .ok (.if_icmp .eq 5, 3) := by decide +kernel
theorem dL_law_468 : decode cL_law 468 = .ok (.iconst 0, 1) := by decide +kernel
theorem dL_law_469 : decode cL_law 469 = .ok (.ireturn, 1) := by decide +kernel
theorem dL_law_470 : decode cL_law 470 = .ok (.iinc 3 5, 3) := by decide +kernel
theorem dL_law_473 : decode cL_law 473 = .ok (.goto (-455), 3) := by decide +kernel
theorem dL_law_476 : decode cL_law 476 = .ok (.iconst 1, 1) := by decide +kernel
theorem dL_law_477 : decode cL_law 477 = .ok (.ireturn, 1) := by decide +kernel
abbrev vwCl : List vw_C := [(RX0, TX0, 6), (RX2, TX2, 2), (RX3, TX3, 13), (RX4, TX4, 9), (RX5, TX5, 4), (RX6, TX6, 27)]
end
section
/-! ROWS OF MY OWN: numbers as nI n, booleans as bI b, arrays by a plain place -/
def bI (b : Bool) : Int32 := if b then 1 else 0
theorem bI_t : bI true = 1 := rfl
theorem bI_f : bI false = 0 := rfl
theorem bI_n (b : Bool) : narrow .boolean (.int (bI b)) = .int (bI b) := by cases b <;> rfl
theorem bI_0 (b : Bool) : bI b = 0 ↔ b = false := by cases b <;> decide
section WK
variable {p : Program} {l : Launch} {e : Env} {R : Room} {s : State} {m : MethodId} {args : Array Value} {below : List Frame} {meth : Method} {c : Code} {H : Heap} {locs : List Loc} {cells slots : Nat} {Q : State → Prop}
variable {cc : ByteArray} {pc : Nat} {ls : Array Slot} {rest : List Value} {D : va_G} {cl : List vw_C} {A : Nat → Prop} {a : Nat} {tys : List (ClassId × FieldType)} {ws : va_W} {H0 : Heap}
theorem wk_iadd (hexec : p.tables.exec = Jvm.exec) (hb : c.code = cc) {x y : Nat} (hdg : decode cc pc = .ok (.iadd, 1))
    (k : W p l e R s m args below meth c H locs cells slots Q (F0 m (pc + 1) ls (.int (nI (x + y)) :: rest))) : W p l e R s m args below meth c H locs cells slots Q (F0 m pc ls (.int (nI y) :: .int (nI x) :: rest)) :=
  lv_iadd hexec hb hdg (by rw [nI_add]; exact k)
theorem wk_isub (hexec : p.tables.exec = Jvm.exec) (hb : c.code = cc) {x y : Nat} (h : y ≤ x) (hdg : decode cc pc = .ok (.isub, 1))
    (k : W p l e R s m args below meth c H locs cells slots Q (F0 m (pc + 1) ls (.int (nI (x - y)) :: rest))) : W p l e R s m args below meth c H locs cells slots Q (F0 m pc ls (.int (nI y) :: .int (nI x) :: rest)) :=
  lv_isub hexec hb hdg (by rw [pk_sub h]; exact k)
theorem wk_imul (hexec : p.tables.exec = Jvm.exec) (hb : c.code = cc) {x y : Nat} (hdg : decode cc pc = .ok (.imul, 1))
    (k : W p l e R s m args below meth c H locs cells slots Q (F0 m (pc + 1) ls (.int (nI (x * y)) :: rest))) : W p l e R s m args below meth c H locs cells slots Q (F0 m pc ls (.int (nI y) :: .int (nI x) :: rest)) :=
  lv_imul hexec hb hdg (by rw [pk_mul]; exact k)
theorem wk_icmp_ge (hexec : p.tables.exec = Jvm.exec) (hb : c.code = cc) {x y : Nat} {off : Int} {tgt : Nat} (hx : x < 2 ^ 31) (hy : y < 2 ^ 31) (hdg : decode cc pc = .ok (.if_icmp .ge off, 3)) (ht : (pc : Int) + off = (tgt : Int))
    (kt : y ≤ x → W p l e R s m args below meth c H locs cells slots Q (F0 m tgt ls rest)) (kf : x < y → W p l e R s m args below meth c H locs cells slots Q (F0 m (pc + 3) ls rest)) : W p l e R s m args below meth c H locs cells slots Q (F0 m pc ls (.int (nI y) :: .int (nI x) :: rest)) :=
  lv_icmp_ge hexec hb hdg ht (fun h => kt ((nI_leI hy hx).mp h)) (fun h => kf (Nat.lt_of_not_le (fun q => h ((nI_leI hy hx).mpr q))))
theorem wk_icmp_lt (hexec : p.tables.exec = Jvm.exec) (hb : c.code = cc) {x y : Nat} {off : Int} {tgt : Nat} (hx : x < 2 ^ 31) (hy : y < 2 ^ 31) (hdg : decode cc pc = .ok (.if_icmp .lt off, 3)) (ht : (pc : Int) + off = (tgt : Int))
    (kt : x < y → W p l e R s m args below meth c H locs cells slots Q (F0 m tgt ls rest)) (kf : y ≤ x → W p l e R s m args below meth c H locs cells slots Q (F0 m (pc + 3) ls rest)) : W p l e R s m args below meth c H locs cells slots Q (F0 m pc ls (.int (nI y) :: .int (nI x) :: rest)) :=
  lv_icmp_lt hexec hb hdg ht (fun h => kt ((nI_ltI hx hy).mp h)) (fun h => kf (Nat.le_of_not_lt (fun q => h ((nI_ltI hx hy).mpr q))))
theorem wk_icmp_gt (hexec : p.tables.exec = Jvm.exec) (hb : c.code = cc) {x y : Nat} {off : Int} {tgt : Nat} (hx : x < 2 ^ 31) (hy : y < 2 ^ 31) (hdg : decode cc pc = .ok (.if_icmp .gt off, 3)) (ht : (pc : Int) + off = (tgt : Int))
    (kt : y < x → W p l e R s m args below meth c H locs cells slots Q (F0 m tgt ls rest)) (kf : x ≤ y → W p l e R s m args below meth c H locs cells slots Q (F0 m (pc + 3) ls rest)) : W p l e R s m args below meth c H locs cells slots Q (F0 m pc ls (.int (nI y) :: .int (nI x) :: rest)) :=
  lv_icmp_gt hexec hb hdg ht (fun h => kt ((nI_ltI hy hx).mp h)) (fun h => kf (Nat.le_of_not_lt (fun q => h ((nI_ltI hy hx).mpr q))))
theorem wk_icmp_le (hexec : p.tables.exec = Jvm.exec) (hb : c.code = cc) {x y : Nat} {off : Int} {tgt : Nat} (hx : x < 2 ^ 31) (hy : y < 2 ^ 31) (hdg : decode cc pc = .ok (.if_icmp .le off, 3)) (ht : (pc : Int) + off = (tgt : Int))
    (kt : x ≤ y → W p l e R s m args below meth c H locs cells slots Q (F0 m tgt ls rest)) (kf : y < x → W p l e R s m args below meth c H locs cells slots Q (F0 m (pc + 3) ls rest)) : W p l e R s m args below meth c H locs cells slots Q (F0 m pc ls (.int (nI y) :: .int (nI x) :: rest)) :=
  lv_icmp_le hexec hb hdg ht (fun h => kt ((nI_leI hx hy).mp h)) (fun h => kf (Nat.lt_of_not_le (fun q => h ((nI_leI hx hy).mpr q))))
theorem wk_icmp_eq (hexec : p.tables.exec = Jvm.exec) (hb : c.code = cc) {x y : Nat} {off : Int} {tgt : Nat} (hx : x < 2 ^ 31) (hy : y < 2 ^ 31) (hdg : decode cc pc = .ok (.if_icmp .eq off, 3)) (ht : (pc : Int) + off = (tgt : Int))
    (kt : x = y → W p l e R s m args below meth c H locs cells slots Q (F0 m tgt ls rest)) (kf : x ≠ y → W p l e R s m args below meth c H locs cells slots Q (F0 m (pc + 3) ls rest)) : W p l e R s m args below meth c H locs cells slots Q (F0 m pc ls (.int (nI y) :: .int (nI x) :: rest)) :=
  lv_icmp_eq hexec hb hdg ht (fun h => kt ((nI_eq hx hy).mp h)) (fun h => kf (fun q => h ((nI_eq hx hy).mpr q)))
theorem wk_icmp_ne (hexec : p.tables.exec = Jvm.exec) (hb : c.code = cc) {x y : Nat} {off : Int} {tgt : Nat} (hx : x < 2 ^ 31) (hy : y < 2 ^ 31) (hdg : decode cc pc = .ok (.if_icmp .ne off, 3)) (ht : (pc : Int) + off = (tgt : Int))
    (kt : x ≠ y → W p l e R s m args below meth c H locs cells slots Q (F0 m tgt ls rest)) (kf : x = y → W p l e R s m args below meth c H locs cells slots Q (F0 m (pc + 3) ls rest)) : W p l e R s m args below meth c H locs cells slots Q (F0 m pc ls (.int (nI y) :: .int (nI x) :: rest)) :=
  lv_icmp_ne hexec hb hdg ht (fun h => kt (fun q => h ((nI_eq hx hy).mpr q))) (fun h => kf ((nI_eq hx hy).mp h))
theorem wk_if_le (hexec : p.tables.exec = Jvm.exec) (hb : c.code = cc) {x : Nat} {off : Int} {tgt : Nat} (hx : x < 2 ^ 31) (hdg : decode cc pc = .ok (.ifCond .le off, 3)) (ht : (pc : Int) + off = (tgt : Int))
    (kt : x = 0 → W p l e R s m args below meth c H locs cells slots Q (F0 m tgt ls rest)) (kf : 0 < x → W p l e R s m args below meth c H locs cells slots Q (F0 m (pc + 3) ls rest)) : W p l e R s m args below meth c H locs cells slots Q (F0 m pc ls (.int (nI x) :: rest)) :=
  lv_if_le hexec hb hdg ht (fun h => kt (by have := (nI_leI hx (show 0 < 2 ^ 31 by decide)).mp h; omega)) (fun h => kf (Nat.pos_of_ne_zero (fun q => h (by subst q; decide))))
theorem wk_if_eqb (hexec : p.tables.exec = Jvm.exec) (hb : c.code = cc) {x : Bool} {off : Int} {tgt : Nat} (hdg : decode cc pc = .ok (.ifCond .eq off, 3)) (ht : (pc : Int) + off = (tgt : Int))
    (kt : x = false → W p l e R s m args below meth c H locs cells slots Q (F0 m tgt ls rest)) (kf : x = true → W p l e R s m args below meth c H locs cells slots Q (F0 m (pc + 3) ls rest)) : W p l e R s m args below meth c H locs cells slots Q (F0 m pc ls (.int (bI x) :: rest)) :=
  lv_if_eq hexec hb hdg ht (fun h => kt ((bI_0 x).mp h)) (fun h => kf (by cases x with | true => rfl | false => exact absurd rfl h))
theorem wk_if_neb (hexec : p.tables.exec = Jvm.exec) (hb : c.code = cc) {x : Bool} {off : Int} {tgt : Nat} (hdg : decode cc pc = .ok (.ifCond .ne off, 3)) (ht : (pc : Int) + off = (tgt : Int))
    (kt : x = true → W p l e R s m args below meth c H locs cells slots Q (F0 m tgt ls rest)) (kf : x = false → W p l e R s m args below meth c H locs cells slots Q (F0 m (pc + 3) ls rest)) : W p l e R s m args below meth c H locs cells slots Q (F0 m pc ls (.int (bI x) :: rest)) :=
  lv_if_ne hexec hb hdg ht (fun h => kt (by cases x with | true => rfl | false => exact absurd rfl h)) (fun h => kf ((bI_0 x).mp h))
theorem wk_iald (hexec : p.tables.exec = Jvm.exec) (hb : c.code = cc) (hK : va_K D cl tys s) (hP : va_P D cl ws H) (q0 t0 : Nat) {cA : ClassId} {n : Nat} {f : Nat → Int32} (ha : ws[q0]? = some (a, .inl (cA, n, .inl f))) (ht : tys[t0]? = some (cA, .int)) {i : Nat} (hi : i < n) (hn : n < 2 ^ 31) (hdg : decode cc pc = .ok (.iaload, 1))
    (kk : W p l e R s m args below meth c H locs cells slots Q (F0 m (pc + 1) ls (.int (f i) :: rest))) : W p l e R s m args below meth c H locs cells slots Q (F0 m pc ls (.int (nI i) :: .ref a :: rest)) := by
  refine va_iald hexec hb hK hP q0 t0 ha ht (vp_in_nI hi hn) hdg ?_
  rw [nI_clamp (by omega)]
  exact kk
theorem wk_zald (hexec : p.tables.exec = Jvm.exec) (hb : c.code = cc) (hK : va_K D cl tys s) (hP : va_P D cl ws H) (q0 t0 : Nat) {cA : ClassId} {n : Nat} {f : Nat → Int32} (ha : ws[q0]? = some (a, .inl (cA, n, .inl f))) (ht : tys[t0]? = some (cA, .boolean)) {i : Nat} (hi : i < n) (hn : n < 2 ^ 31) (hdg : decode cc pc = .ok (.baload, 1))
    (kk : W p l e R s m args below meth c H locs cells slots Q (F0 m (pc + 1) ls (.int (f i) :: rest))) : W p l e R s m args below meth c H locs cells slots Q (F0 m pc ls (.int (nI i) :: .ref a :: rest)) := by
  refine va_zald hexec hb hK hP q0 t0 ha ht (vp_in_nI hi hn) hdg ?_
  rw [nI_clamp (by omega)]
  exact kk
theorem wk_lald (hexec : p.tables.exec = Jvm.exec) (hb : c.code = cc) (hK : va_K D cl tys s) (hP : va_P D cl ws H) (q0 t0 : Nat) {cA : ClassId} {n : Nat} {f : Nat → Int64} (ha : ws[q0]? = some (a, .inl (cA, n, .inr (.inl f)))) (ht : tys[t0]? = some (cA, .long)) {i : Nat} (hi : i < n) (hn : n < 2 ^ 31) (hdg : decode cc pc = .ok (.laload, 1))
    (kk : W p l e R s m args below meth c H locs cells slots Q (F0 m (pc + 1) ls (.long (f i) :: rest))) : W p l e R s m args below meth c H locs cells slots Q (F0 m pc ls (.int (nI i) :: .ref a :: rest)) := by
  refine va_lald hexec hb hK hP q0 t0 ha ht (vp_in_nI hi hn) hdg ?_
  rw [nI_clamp (by omega)]
  exact kk
theorem wk_aald (hexec : p.tables.exec = Jvm.exec) (hb : c.code = cc) (hK : va_K D cl tys s) (hP : va_P D cl ws H) (q0 t0 : Nat) {cA : ClassId} {t : FieldType} {n : Nat} {f : Nat → Option Nat} (ha : ws[q0]? = some (a, .inl (cA, n, .inr (.inr (.inr (.inr f)))))) (ht : tys[t0]? = some (cA, .array t)) {i y : Nat} (hi : i < n) (hn : n < 2 ^ 31) (hf : f i = some y) (hdg : decode cc pc = .ok (.aaload, 1))
    (kk : W p l e R s m args below meth c H locs cells slots Q (F0 m (pc + 1) ls (.ref y :: rest))) : W p l e R s m args below meth c H locs cells slots Q (F0 m pc ls (.int (nI i) :: .ref a :: rest)) := by
  have hc : (nI i).toNatClampNeg = i := nI_clamp (by omega)
  refine W.aald (v := va_rf (f i)) (ty := .array t) hexec hb (hP q0 _ ha) ((hK.2 t0 _ ht).1 n (fun j => va_rf (f j))) rfl (fun q => by cases q) (by show ¬ (nI i < 0 ∨ (arrV _ _ _).slots.size ≤ _); rw [arrV_size]; exact vp_in_nI hi hn) (by show (arrV _ _ _).slots[_]? = _; rw [hc, arrV_read _ _ hi]) rfl rfl hdg ?_
  rw [hf]
  exact kk
theorem wk_iast (hexec : p.tables.exec = Jvm.exec) (hb : c.code = cc) (hK : va_K D cl tys s) (hP : va_P D cl ws H) (hD : va_D A ws) (hS : va_S A H0 H locs) (q0 t0 : Nat) {cA : ClassId} {n : Nat} {f : Nat → Int32} (ha : ws[q0]? = some (a, .inl (cA, n, .inl f))) (ht : tys[t0]? = some (cA, .int)) {i : Nat} {x : Int32} (hi : i < n) (hn : n < 2 ^ 31) (hdg : decode cc pc = .ok (.iastore, 1))
    (kk : ∀ (H1 : Heap) (locs1 : List Loc), va_P D cl (ws.set q0 (a, .inl (cA, n, .inl (upd f i x)))) H1 → va_D A (ws.set q0 (a, .inl (cA, n, .inl (upd f i x)))) → va_S A H0 H1 locs1 → W p l e R s m args below meth c H1 locs1 cells slots Q (F0 m (pc + 1) ls rest)) : W p l e R s m args below meth c H locs cells slots Q (F0 m pc ls (.int x :: .int (nI i) :: .ref a :: rest)) := by
  refine va_iast hexec hb hK hP hD hS q0 t0 ha ht (vp_in_nI hi hn) hdg ?_
  rw [nI_clamp (by omega)]
  exact kk
theorem wk_zast (hexec : p.tables.exec = Jvm.exec) (hb : c.code = cc) (hK : va_K D cl tys s) (hP : va_P D cl ws H) (hD : va_D A ws) (hS : va_S A H0 H locs) (q0 t0 : Nat) {cA : ClassId} {n : Nat} {f : Nat → Int32} (ha : ws[q0]? = some (a, .inl (cA, n, .inl f))) (ht : tys[t0]? = some (cA, .boolean)) {i : Nat} {b : Bool} (hi : i < n) (hn : n < 2 ^ 31) (hdg : decode cc pc = .ok (.bastore, 1))
    (kk : ∀ (H1 : Heap) (locs1 : List Loc), va_P D cl (ws.set q0 (a, .inl (cA, n, .inl (upd f i (bI b))))) H1 → va_D A (ws.set q0 (a, .inl (cA, n, .inl (upd f i (bI b))))) → va_S A H0 H1 locs1 → W p l e R s m args below meth c H1 locs1 cells slots Q (F0 m (pc + 1) ls rest)) : W p l e R s m args below meth c H locs cells slots Q (F0 m pc ls (.int (bI b) :: .int (nI i) :: .ref a :: rest)) := by
  refine va_zast hexec hb hK hP hD hS q0 t0 ha ht (vp_in_nI hi hn) hdg ?_
  rw [nI_clamp (by omega), show vp_nar .boolean (bI b) = bI b by cases b <;> rfl]
  exact kk
theorem wk_last (hexec : p.tables.exec = Jvm.exec) (hb : c.code = cc) (hK : va_K D cl tys s) (hP : va_P D cl ws H) (hD : va_D A ws) (hS : va_S A H0 H locs) (q0 t0 : Nat) {cA : ClassId} {n : Nat} {f : Nat → Int64} (ha : ws[q0]? = some (a, .inl (cA, n, .inr (.inl f)))) (ht : tys[t0]? = some (cA, .long)) {i : Nat} {x : Int64} (hi : i < n) (hn : n < 2 ^ 31) (hdg : decode cc pc = .ok (.lastore, 1))
    (kk : ∀ (H1 : Heap) (locs1 : List Loc), va_P D cl (ws.set q0 (a, .inl (cA, n, .inr (.inl (vp_updL f i x))))) H1 → va_D A (ws.set q0 (a, .inl (cA, n, .inr (.inl (vp_updL f i x))))) → va_S A H0 H1 locs1 → W p l e R s m args below meth c H1 locs1 cells slots Q (F0 m (pc + 1) ls rest)) : W p l e R s m args below meth c H locs cells slots Q (F0 m pc ls (.long x :: .int (nI i) :: .ref a :: rest)) := by
  refine va_last hexec hb hK hP hD hS q0 t0 ha ht (vp_in_nI hi hn) hdg ?_
  rw [nI_clamp (by omega)]
  exact kk
end WK
/-- behind a call that writes nothing, the world is the same -/
theorem wk_same {D : va_G} {cl : List vw_C} {ws : va_W} {H H1 : Heap} (hP : va_P D cl ws H) (hk : ∀ q : Nat, q < H.size → ¬ False → H1[q]? = H[q]?) : va_P D cl ws H1 := hP.kept (fun k9 x hx => hk x.1 ((hP k9 x hx).lt) (fun h => h))
end
section
/-! CALLS OF MY OWN: a callee that writes nothing (ro_), a callee that writes its own cells (wr_) -/
abbrev tysC (cI cJ cZ cA : ClassId) : List (ClassId × FieldType) := [(cI, .int), (cJ, .long), (cZ, .boolean), (cA, .array .int)]
abbrev ro_P (D : va_G) (tys : List (ClassId × FieldType)) (av : List Value) (ws : va_W) : Array Value → State → Prop := va_Pc av (fun U => va_P D vwCl ws U.heap ∧ va_K D vwCl tys U)
abbrev ro_Q (ans : Int32) : Array Value → State → Outcome → State → Prop := va_Qi (fun (r : Int32) (_ : Unit) => r = ans) (fun _ _ => True) (fun _ => False)
abbrev ro_QL (ans : Int64) : Array Value → State → Outcome → State → Prop := va_Ql (fun (r : Int64) (_ : Unit) => r = ans) (fun _ _ => True) (fun _ => False)
abbrev wr_P (D : va_G) (tys : List (ClassId × FieldType)) (av : List Value) (ws : va_W) (sz : Nat) : Array Value → State → Prop := va_Pc av (fun U => U.heap.size = sz ∧ va_P D vwCl ws U.heap ∧ va_K D vwCl tys U ∧ va_D (fun _ => True) ws)
abbrev wr_Qv (D : va_G) {S : Type} (ws : va_W) (sz : Nat) (post : S → Prop) (w1 : S → va_W) : Array Value → State → Outcome → State → Prop := va_Qv post (fun u t => va_P D vwCl (w1 u) t.heap ∧ va_D (va_A ws sz) (w1 u)) (va_A ws sz)
abbrev wr_Qi (D : va_G) {S : Type} (ws : va_W) (sz : Nat) (post : Int32 → S → Prop) (w1 : S → va_W) : Array Value → State → Outcome → State → Prop := va_Qi post (fun u t => va_P D vwCl (w1 u) t.heap ∧ va_D (va_A ws sz) (w1 u)) (va_A ws sz)
theorem ro_blind {D : va_G} {tys : List (ClassId × FieldType)} {av : List Value} {ws : va_W} : FrameBlind (ro_P D tys av ws) := fun a U g mk q => by
  obtain ⟨q0, qP, qK⟩ := q
  exact ⟨q0, qP, va_K.moved (u := U) (U := U.calling g mk a) (Vm.Alike.refl U.vm) qK⟩
theorem wr_blind {D : va_G} {tys : List (ClassId × FieldType)} {av : List Value} {ws : va_W} {sz : Nat} : FrameBlind (wr_P D tys av ws sz) := fun a U g mk q => by
  obtain ⟨q0, q1, qP, qK, qD⟩ := q
  exact ⟨q0, q1, qP, va_K.moved (u := U) (U := U.calling g mk a) (Vm.Alike.refl U.vm) qK, qD⟩
section WC
variable {p : Program} {l : Launch} {e : Env} {R : Room} {s : State} {m : MethodId} {args : Array Value} {below : List Frame} {meth : Method} {c : Code} {H : Heap} {locs : List Loc} {cells slots : Nat} {Q : State → Prop}
variable {cc : ByteArray} {pc : Nat} {ls : Array Slot} {rest : List Value} {D : va_G} {A : Nat → Prop} {tys : List (ClassId × FieldType)} {ws : va_W} {H0 : Heap}
variable {y : MethodName} {bytes : ByteArray} {maxL nL n index : Nat} {ret : Option FieldType} {wsy : List Cond} {rm : Room} {Ts : List Cond} {own C : String} {b : Nat} {As : List Value} {wc wr : va_W} {st : List Value} {fs : List Value} {qc : u_T × Nat}
theorem wk_Vi {ans : Int32} (S : CallFix p m c cc nL s args Ts own)
    (hM : Met l y wsy rm (ro_P D tys (.ref b :: As) wc) (ro_Q ans) 0 0 (fun _ => False)) (cw : CallW R s args own C index y bytes maxL ret wsy rm 0 0 n)
    (hK : va_K D vwCl tys s) (hP : va_P D vwCl ws H) (is : List Nat) (hs : is.filterMap (fun i => ws[i]?) = wc) (q0 ci : Nat) (hc : vwCl[ci]? = some (C, qc)) (he : wc[q0]? = some (b, .inr (ci, fs)))
    (hS : va_S A H0 H locs) (hn : As.length = n) (hsize : ls.size = nL) (hstack : st = As.reverse ++ .ref b :: rest) (hW : (rest.map fun v => v.category).sum ≤ 8) (hdg : decode cc pc = .ok (.invokevirtual index, 3)) (hf : cells ≤ R.cells ∧ slots ≤ R.slots)
    (kk : ∀ (H1 : Heap) (locs1 : List Loc), va_P D vwCl ws H1 → va_S A H0 H1 locs1 → W p l e R s m args below meth c H1 locs1 cells slots Q (F0 m (pc + 3) ls (.int ans :: rest))) : W p l e R s m args below meth c H locs cells slots Q (F0 m pc ls st) := by
  refine va_calli (va_runV S hM cw ⟨ro_blind, va_recv hK (hP.sub is hs) hc he, fun U hU hW9 => ⟨rfl, by rw [hU]; exact hP.sub is hs, va_K.moved hW9.alike hK⟩⟩ rfl hn hsize hstack (lv_room hW) hdg hf) hS (fun q _ h => absurd h id) (fun q h => absurd h id) (fun r u t H1 locs1 ht hvm hw hB hz hk hS1 => ?_)
  subst hw
  exact kk H1 locs1 (wk_same hP hk) hS1
theorem wk_Si {ans : Int32} (S : CallFix p m c cc nL s args Ts own)
    (hM : Met l y wsy rm (ro_P D tys As wc) (ro_Q ans) 0 0 (fun _ => False)) (cw : CallB R s args own index y bytes maxL ret wsy rm 0 0 n ∧ (Cond.static y).before args s = true)
    (hK : va_K D vwCl tys s) (hP : va_P D vwCl ws H) (is : List Nat) (hs : is.filterMap (fun i => ws[i]?) = wc)
    (hS : va_S A H0 H locs) (hn : As.length = n) (hsize : ls.size = nL) (hstack : st = As.reverse ++ rest) (hW : (rest.map fun v => v.category).sum ≤ 8) (hdg : decode cc pc = .ok (.invokestatic index, 3)) (hf : cells ≤ R.cells ∧ slots ≤ R.slots)
    (kk : ∀ (H1 : Heap) (locs1 : List Loc), va_P D vwCl ws H1 → va_S A H0 H1 locs1 → W p l e R s m args below meth c H1 locs1 cells slots Q (F0 m (pc + 3) ls (.int ans :: rest))) : W p l e R s m args below meth c H locs cells slots Q (F0 m pc ls st) := by
  refine va_calli (va_runS S hM cw ⟨ro_blind, fun U hU hW9 => ⟨rfl, by rw [hU]; exact hP.sub is hs, va_K.moved hW9.alike hK⟩⟩ rfl hn hsize hstack (lv_room hW) hdg hf) hS (fun q _ h => absurd h id) (fun q h => absurd h id) (fun r u t H1 locs1 ht hvm hw hB hz hk hS1 => ?_)
  subst hw
  exact kk H1 locs1 (wk_same hP hk) hS1
theorem wk_Sl {ans : Int64} (S : CallFix p m c cc nL s args Ts own)
    (hM : Met l y wsy rm (ro_P D tys As wc) (ro_QL ans) 0 0 (fun _ => False)) (cw : CallB R s args own index y bytes maxL ret wsy rm 0 0 n ∧ (Cond.static y).before args s = true)
    (hK : va_K D vwCl tys s) (hP : va_P D vwCl ws H) (is : List Nat) (hs : is.filterMap (fun i => ws[i]?) = wc)
    (hS : va_S A H0 H locs) (hn : As.length = n) (hsize : ls.size = nL) (hstack : st = As.reverse ++ rest) (hW : (rest.map fun v => v.category).sum ≤ 8) (hdg : decode cc pc = .ok (.invokestatic index, 3)) (hf : cells ≤ R.cells ∧ slots ≤ R.slots)
    (kk : ∀ (H1 : Heap) (locs1 : List Loc), va_P D vwCl ws H1 → va_S A H0 H1 locs1 → W p l e R s m args below meth c H1 locs1 cells slots Q (F0 m (pc + 3) ls (.long ans :: rest))) : W p l e R s m args below meth c H locs cells slots Q (F0 m pc ls st) := by
  refine va_calll (va_runS S hM cw ⟨ro_blind, fun U hU hW9 => ⟨rfl, by rw [hU]; exact hP.sub is hs, va_K.moved hW9.alike hK⟩⟩ rfl hn hsize hstack (lv_room hW) hdg hf) hS (fun q _ h => absurd h id) (fun q h => absurd h id) (fun r u t H1 locs1 ht hvm hw hB hz hk hS1 => ?_)
  subst hw
  exact kk H1 locs1 (wk_same hP hk) hS1
theorem wk_VvW {S9 : Type} {post : S9 → Prop} {w1 : S9 → va_W} {mc ms : Nat} (S : CallFix p m c cc nL s args Ts own)
    (hM : Met l y wsy rm (wr_P D tys (.ref b :: As) wc H.size) (wr_Qv D wc H.size post w1) mc ms (va_A wc H.size)) (cw : CallW R s args own C index y bytes maxL ret wsy rm mc ms n)
    (hK : va_K D vwCl tys s) (hP : va_P D vwCl ws H) (hD : va_D A ws) (hA : ∀ q, H0.size ≤ q → A q) (is : List Nat) (hs : is.map (fun i => ws[i]?) = wc.map some) (hnd : va_nd is = true) (isR : List Nat) (hsR : isR.map (fun i => ws[i]?) = wr.map some) (hndR : va_nd isR = true) (hdis : ∀ i ∈ isR, i ∉ is) (q0 ci : Nat) (hc : vwCl[ci]? = some (C, qc)) (he : wc[q0]? = some (b, .inr (ci, fs)))
    (hS : va_S A H0 H locs) (hn : As.length = n) (hsize : ls.size = nL) (hstack : st = As.reverse ++ .ref b :: rest) (hW : (rest.map fun v => v.category).sum ≤ 8) (hdg : decode cc pc = .ok (.invokevirtual index, 3)) (hf : cells + mc ≤ R.cells ∧ slots + ms ≤ R.slots)
    (kk : ∀ (u : S9) (H1 : Heap) (locs1 : List Loc), post u → va_P D vwCl (wr ++ w1 u) H1 → va_D A (wr ++ w1 u) → va_S A H0 H1 locs1 → W p l e R s m args below meth c H1 locs1 (cells + mc) (slots + ms) Q (F0 m (pc + 3) ls rest)) : W p l e R s m args below meth c H locs cells slots Q (F0 m pc ls st) := by
  have hfm : is.filterMap (fun i => ws[i]?) = wc := by
    have h := congrArg (List.filterMap id) hs
    rw [List.filterMap_map, List.filterMap_map] at h
    have h2 : List.filterMap (id ∘ some) wc = wc := List.filterMap_some
    exact h.trans h2
  have hPc := hP.sub is hfm
  have hDc := hD.sub is hnd hs
  have hFc := va_free (wc := wc) hD hS hA is hs
  refine va_callv (va_runV S hM cw ⟨wr_blind, va_recv hK hPc hc he, fun U hU hW9 => ⟨rfl, by rw [hU], by rw [hU]; exact hPc, va_K.moved hW9.alike hK, hDc.weaken (fun _ _ _ _ => trivial)⟩⟩ rfl hn hsize hstack (lv_room hW) hdg hf) hS (fun q _ h => hFc q h) hFc (fun u t H1 locs1 ht hvm hw hB hz hk hS1 => ?_)
  obtain ⟨hP1, hD1⟩ := hB
  rw [ht] at hP1
  obtain ⟨hP2, hD2⟩ := va_join (wr := wr) (w1 := w1 u) hP hD is isR hs hsR hndR hdis hk hFc hP1 hD1
  exact kk u H1 locs1 hw hP2 hD2 hS1
theorem wk_ViW {S9 : Type} {post : Int32 → S9 → Prop} {w1 : S9 → va_W} {mc ms : Nat} (S : CallFix p m c cc nL s args Ts own)
    (hM : Met l y wsy rm (wr_P D tys (.ref b :: As) wc H.size) (wr_Qi D wc H.size post w1) mc ms (va_A wc H.size)) (cw : CallW R s args own C index y bytes maxL ret wsy rm mc ms n)
    (hK : va_K D vwCl tys s) (hP : va_P D vwCl ws H) (hD : va_D A ws) (hA : ∀ q, H0.size ≤ q → A q) (is : List Nat) (hs : is.map (fun i => ws[i]?) = wc.map some) (hnd : va_nd is = true) (isR : List Nat) (hsR : isR.map (fun i => ws[i]?) = wr.map some) (hndR : va_nd isR = true) (hdis : ∀ i ∈ isR, i ∉ is) (q0 ci : Nat) (hc : vwCl[ci]? = some (C, qc)) (he : wc[q0]? = some (b, .inr (ci, fs)))
    (hS : va_S A H0 H locs) (hn : As.length = n) (hsize : ls.size = nL) (hstack : st = As.reverse ++ .ref b :: rest) (hW : (rest.map fun v => v.category).sum ≤ 8) (hdg : decode cc pc = .ok (.invokevirtual index, 3)) (hf : cells + mc ≤ R.cells ∧ slots + ms ≤ R.slots)
    (kk : ∀ (r : Int32) (u : S9) (H1 : Heap) (locs1 : List Loc), post r u → va_P D vwCl (wr ++ w1 u) H1 → va_D A (wr ++ w1 u) → va_S A H0 H1 locs1 → W p l e R s m args below meth c H1 locs1 (cells + mc) (slots + ms) Q (F0 m (pc + 3) ls (.int r :: rest))) : W p l e R s m args below meth c H locs cells slots Q (F0 m pc ls st) := by
  have hfm : is.filterMap (fun i => ws[i]?) = wc := by
    have h := congrArg (List.filterMap id) hs
    rw [List.filterMap_map, List.filterMap_map] at h
    have h2 : List.filterMap (id ∘ some) wc = wc := List.filterMap_some
    exact h.trans h2
  have hPc := hP.sub is hfm
  have hDc := hD.sub is hnd hs
  have hFc := va_free (wc := wc) hD hS hA is hs
  refine va_calli (va_runV S hM cw ⟨wr_blind, va_recv hK hPc hc he, fun U hU hW9 => ⟨rfl, by rw [hU], by rw [hU]; exact hPc, va_K.moved hW9.alike hK, hDc.weaken (fun _ _ _ _ => trivial)⟩⟩ rfl hn hsize hstack (lv_room hW) hdg hf) hS (fun q _ h => hFc q h) hFc (fun r u t H1 locs1 ht hvm hw hB hz hk hS1 => ?_)
  obtain ⟨hP1, hD1⟩ := hB
  rw [ht] at hP1
  obtain ⟨hP2, hD2⟩ := va_join (wr := wr) (w1 := w1 u) hP hD is isR hs hsR hndR hdis hk hFc hP1 hD1
  exact kk r u H1 locs1 hw hP2 hD2 hS1
end WC
end
section
/-! CONTRACTS OF MY OWN: a contract out of a walk whose end is a hypothesis -/
theorem met_ro {l : Launch} {y : MethodName} {ws ws' : List Cond} {rm : Room} {cc : ByteArray} {maxL : Nat} {ty : FieldType} {D : va_G} {tys : List (ClassId × FieldType)} {av : List Value} {wsc : va_W} {ans : Int32} (hy : plainName y.cls = true) (hw : ws = Cond.code y cc maxL (some ty) :: ws') (hlen : (lg_sl av).length ≤ maxL) (hty : narrow ty (.int ans) = .int ans)
    (body : ∀ (p : Program) (e : Env) (s : State) (m : MethodId) (args : Array Value) (below : List Frame) (meth : Method) (c : Code) (Q : State → Prop), p.tables.exec = Jvm.exec → c.code = cc → c.maxLocals = maxL → s.vm.findClass y.cls = some m.cls → (∀ w ∈ ws, w.before args s = true) → va_P D vwCl wsc s.heap → va_K D vwCl tys s →
      (∀ (v : Int32) (H : Heap) (locs : List Loc) (pc : Nat) (ls : Array Slot), v = ans → decode cc pc = .ok (.ireturn, 1) → va_S (fun _ => False) s.heap H locs → W p l e rm s m args below meth c H locs 0 0 Q (F0 m pc ls [.int v])) →
      ∀ ls : Array Slot, lv_has ls maxL (lv_args 0 av) → W p l e rm s m args below meth c s.heap [] 0 0 Q (F0 m 0 ls [])) :
    Met l y ws rm (ro_P D tys av wsc) (ro_Q ans) 0 0 (fun _ => False) := by
  refine Met.ofW (cc := cc) (maxL := maxL) (ret := some ty) hy hw ?_
  intro p e s m args below meth c s₁ B hml hv
  obtain ⟨rfl, hP, hK⟩ := hv
  have hx := B.exec
  have hb := B.bytes
  have hr := B.returns
  have hts := atoms_spec (ws := ws) B.pre
  have hown : s.vm.findClass y.cls = some m.cls := findClass_of_methodNamed B.named
  have hlocks := B.notSynchronized
  have hl := lv_entry av (n := maxL) hlen
  rw [lg_entry_eq]
  refine body p e s m _ below meth c _ hx hb hml hown hts hP hK ?_ _ hl
  intro v H locs pc ls hv hdg hS
  subst hv
  exact W.zret (v := v) (ty := ty) hx hb hr hty (fun t ht hW => ⟨⟨v, (), rfl, rfl, trivial⟩, hS.F ht⟩) hS.2.2 hdg
theorem met_roL {l : Launch} {y : MethodName} {ws ws' : List Cond} {rm : Room} {cc : ByteArray} {maxL : Nat} {D : va_G} {tys : List (ClassId × FieldType)} {av : List Value} {wsc : va_W} {ans : Int64} (hy : plainName y.cls = true) (hw : ws = Cond.code y cc maxL (some .long) :: ws') (hlen : (lg_sl av).length ≤ maxL)
    (body : ∀ (p : Program) (e : Env) (s : State) (m : MethodId) (args : Array Value) (below : List Frame) (meth : Method) (c : Code) (Q : State → Prop), p.tables.exec = Jvm.exec → c.code = cc → c.maxLocals = maxL → s.vm.findClass y.cls = some m.cls → (∀ w ∈ ws, w.before args s = true) → va_P D vwCl wsc s.heap → va_K D vwCl tys s →
      (∀ (v : Int64) (H : Heap) (locs : List Loc) (pc : Nat) (ls : Array Slot), v = ans → decode cc pc = .ok (.lreturn, 1) → va_S (fun _ => False) s.heap H locs → W p l e rm s m args below meth c H locs 0 0 Q (F0 m pc ls [.long v])) →
      ∀ ls : Array Slot, lv_has ls maxL (lv_args 0 av) → W p l e rm s m args below meth c s.heap [] 0 0 Q (F0 m 0 ls [])) :
    Met l y ws rm (ro_P D tys av wsc) (ro_QL ans) 0 0 (fun _ => False) := by
  refine Met.ofW (cc := cc) (maxL := maxL) (ret := some .long) hy hw ?_
  intro p e s m args below meth c s₁ B hml hv
  obtain ⟨rfl, hP, hK⟩ := hv
  have hx := B.exec
  have hb := B.bytes
  have hr := B.returns
  have hts := atoms_spec (ws := ws) B.pre
  have hown : s.vm.findClass y.cls = some m.cls := findClass_of_methodNamed B.named
  have hlocks := B.notSynchronized
  have hl := lv_entry av (n := maxL) hlen
  rw [lg_entry_eq]
  refine body p e s m _ below meth c _ hx hb hml hown hts hP hK ?_ _ hl
  intro v H locs pc ls hv hdg hS
  subst hv
  exact W.lret (v := v) hx hb hr (fun t ht hW => ⟨⟨v, (), rfl, rfl, trivial⟩, hS.F ht⟩) hS.2.2 hdg
theorem met_wv {l : Launch} {y : MethodName} {ws ws' : List Cond} {rm : Room} {cc : ByteArray} {maxL : Nat} {D : va_G} {tys : List (ClassId × FieldType)} {av : List Value} {wsc : va_W} {sz : Nat} {S9 : Type} {post : S9 → Prop} {w1 : S9 → va_W} {mc ms : Nat} (hy : plainName y.cls = true) (hw : ws = Cond.code y cc maxL none :: ws') (hlen : (lg_sl av).length ≤ maxL)
    (body : ∀ (p : Program) (e : Env) (s : State) (m : MethodId) (args : Array Value) (below : List Frame) (meth : Method) (c : Code) (Q : State → Prop) (A : Nat → Prop), p.tables.exec = Jvm.exec → c.code = cc → c.maxLocals = maxL → s.vm.findClass y.cls = some m.cls → (∀ w ∈ ws, w.before args s = true) → va_P D vwCl wsc s.heap → va_K D vwCl tys s → va_D A wsc → (∀ q : Nat, s.heap.size ≤ q → A q) →
      (∀ (u : S9) (H : Heap) (locs : List Loc) (pc : Nat) (ls : Array Slot) (k n : Nat), post u → va_P D vwCl (w1 u) H → va_D A (w1 u) → decode cc pc = .ok (.return_, 1) → va_S A s.heap H locs → k ≤ mc → n ≤ ms → W p l e rm s m args below meth c H locs k n Q (F0 m pc ls [])) →
      ∀ ls : Array Slot, lv_has ls maxL (lv_args 0 av) → W p l e rm s m args below meth c s.heap [] 0 0 Q (F0 m 0 ls [])) :
    Met l y ws rm (wr_P D tys av wsc sz) (wr_Qv D wsc sz post w1) mc ms (va_A wsc sz) := by
  refine Met.ofW (cc := cc) (maxL := maxL) (ret := none) hy hw ?_
  intro p e s m args below meth c s₁ B hml hv
  obtain ⟨rfl, hsz, hP, hK, hD0⟩ := hv
  have hx := B.exec
  have hb := B.bytes
  have hr := B.returns
  have hts := atoms_spec (ws := ws) B.pre
  have hown : s.vm.findClass y.cls = some m.cls := findClass_of_methodNamed B.named
  have hlocks := B.notSynchronized
  subst hsz
  have hD := hD0.self (sz := s.heap.size)
  have hl := lv_entry av (n := maxL) hlen
  rw [lg_entry_eq]
  refine body p e s m _ below meth c _ _ hx hb hml hown hts hP hK hD (fun q h => Or.inr h) ?_ _ hl
  intro u H locs pc ls k n hu hP1 hD1 hdg hS hk hn
  refine W.widen hk hn ?_
  exact W.vret hx hb hr (fun t ht hW => ⟨⟨u, rfl, hu, by rw [ht]; exact hP1, hD1⟩, hS.F ht⟩) hS.2.2 hdg
theorem met_wi {l : Launch} {y : MethodName} {ws ws' : List Cond} {rm : Room} {cc : ByteArray} {maxL : Nat} {ty : FieldType} {D : va_G} {tys : List (ClassId × FieldType)} {av : List Value} {wsc : va_W} {sz : Nat} {S9 : Type} {post : Int32 → S9 → Prop} {w1 : S9 → va_W} {mc ms : Nat} (hy : plainName y.cls = true) (hw : ws = Cond.code y cc maxL (some ty) :: ws') (hlen : (lg_sl av).length ≤ maxL)
    (body : ∀ (p : Program) (e : Env) (s : State) (m : MethodId) (args : Array Value) (below : List Frame) (meth : Method) (c : Code) (Q : State → Prop) (A : Nat → Prop), p.tables.exec = Jvm.exec → c.code = cc → c.maxLocals = maxL → s.vm.findClass y.cls = some m.cls → (∀ w ∈ ws, w.before args s = true) → va_P D vwCl wsc s.heap → va_K D vwCl tys s → va_D A wsc → (∀ q : Nat, s.heap.size ≤ q → A q) →
      (∀ (v : Int32) (u : S9) (H : Heap) (locs : List Loc) (pc : Nat) (ls : Array Slot) (k n : Nat), narrow ty (.int v) = .int v → post v u → va_P D vwCl (w1 u) H → va_D A (w1 u) → decode cc pc = .ok (.ireturn, 1) → va_S A s.heap H locs → k ≤ mc → n ≤ ms → W p l e rm s m args below meth c H locs k n Q (F0 m pc ls [.int v])) →
      ∀ ls : Array Slot, lv_has ls maxL (lv_args 0 av) → W p l e rm s m args below meth c s.heap [] 0 0 Q (F0 m 0 ls [])) :
    Met l y ws rm (wr_P D tys av wsc sz) (wr_Qi D wsc sz post w1) mc ms (va_A wsc sz) := by
  refine Met.ofW (cc := cc) (maxL := maxL) (ret := some ty) hy hw ?_
  intro p e s m args below meth c s₁ B hml hv
  obtain ⟨rfl, hsz, hP, hK, hD0⟩ := hv
  have hx := B.exec
  have hb := B.bytes
  have hr := B.returns
  have hts := atoms_spec (ws := ws) B.pre
  have hown : s.vm.findClass y.cls = some m.cls := findClass_of_methodNamed B.named
  have hlocks := B.notSynchronized
  subst hsz
  have hD := hD0.self (sz := s.heap.size)
  have hl := lv_entry av (n := maxL) hlen
  rw [lg_entry_eq]
  refine body p e s m _ below meth c _ _ hx hb hml hown hts hP hK hD (fun q h => Or.inr h) ?_ _ hl
  intro v u H locs pc ls k n hty hu hP1 hD1 hdg hS hk hn
  refine W.widen hk hn ?_
  exact W.zret (v := v) (ty := ty) hx hb hr hty (fun t ht hW => ⟨⟨v, u, rfl, hu, by rw [ht]; exact hP1, hD1⟩, hS.F ht⟩) hS.2.2 hdg
end
section
section WL
variable {p : Program} {l : Launch} {e : Env} {R : Room} {s : State} {m : MethodId} {args : Array Value} {below : List Frame} {meth : Method} {c : Code} {H : Heap} {locs : List Loc} {cells slots : Nat} {Q : State → Prop}
variable {cc : ByteArray} {pc : Nat} {ls : Array Slot} {rest : List Value}
theorem wk_ldc (hexec : p.tables.exec = Jvm.exec) (hb : c.code = cc) {own : String} {index : Nat} {v : Int32} (hown : s.vm.findClass own = some m.cls) (hconst : (Jvm.Cond.constant own index v).before args s = true) (hdg : decode cc pc = .ok (.ldc index, 2))
    (k : W p l e R s m args below meth c H locs cells slots Q (F0 m (pc + 2) ls (.int v :: rest))) : W p l e R s m args below meth c H locs cells slots Q (F0 m pc ls rest) := W.ldc hexec hb hown hconst (g := F0 m pc ls rest) rfl hdg k
theorem wk_ldc2 (hexec : p.tables.exec = Jvm.exec) (hb : c.code = cc) {own : String} {index : Nat} {v : Int64} (hown : s.vm.findClass own = some m.cls) (hconst : (Jvm.Cond.constantLong own index v).before args s = true) (hdg : decode cc pc = .ok (.ldc2_w index, 3))
    (k : W p l e R s m args below meth c H locs cells slots Q (F0 m (pc + 3) ls (.long v :: rest))) : W p l e R s m args below meth c H locs cells slots Q (F0 m pc ls rest) := W.ldc2 hexec hb hown hconst (g := F0 m pc ls rest) rfl hdg k
end WL
end
section
/-! pure words of the small methods -/
theorem bI_T {b : Bool} (h : b = true) : nI 1 = bI b := by rw [h]; rfl
theorem bI_F {b : Bool} (h : b = false) : nI 0 = bI b := by rw [h]; rfl
theorem wk_dec {x : Nat} (h : 0 < x) : nI x + Int32.ofInt (-1) = nI (x - 1) := by
  obtain ⟨y, rfl⟩ : ∃ y, x = y + 1 := ⟨x - 1, by omega⟩
  have := pk_m1 y
  exact this
theorem wk_fz (b : Bool) : fits .boolean (.int (bI b)) = true := by cases b <;> rfl
/-- 0 ≤ x < n -/
def inB (x n : Int32) : Bool := decide (¬ x < 0) && decide (¬ n ≤ x)
/-- 0 ≤ x ≤ n -/
def inC (x n : Int32) : Bool := decide (¬ x < 0) && decide (¬ n < x)
/-- at each of the five places f from x on has as many as g from y on -/
def tpB (f : Nat → Int32) (x : Nat) (g : Nat → Int32) (y : Nat) : Bool := (List.range 5).all (fun q => decide (¬ f (x + q) < g (y + q)))
theorem tpB_iff {f : Nat → Int32} {x : Nat} {g : Nat → Int32} {y : Nat} : tpB f x g y = true ↔ ∀ q, q < 5 → ¬ f (x + q) < g (y + q) := by
  unfold tpB
  rw [List.all_eq_true]
  exact ⟨fun h q hq => of_decide_eq_true (h q (List.mem_range.mpr hq)), fun h q hq => decide_eq_true (h q (List.mem_range.mp hq))⟩
theorem bb_eq {t u : Bool} {P : Prop} (h : t = true ↔ P) (h2 : u = true ↔ P) : t = u := Bool.eq_iff_iff.mpr (h.trans h2.symm)
theorem al_f1 {t : Bool} {k : Nat} {P : Nat → Prop} (h : t = true ↔ ∀ q, q < k → P q) (c : t = false) : false = true ↔ ∀ q, q < k + 1 → P q :=
  ⟨fun h => by (cases h), fun h2 => by rw [← c]; exact h.mpr (fun q hq => h2 q (Nat.lt_succ_of_lt hq))⟩
theorem al_f2 {k : Nat} {P : Nat → Prop} (c : ¬ P k) : false = true ↔ ∀ q, q < k + 1 → P q :=
  ⟨fun h => by (cases h), fun h2 => absurd (h2 k (Nat.lt_succ_self k)) c⟩
theorem al_t {t : Bool} {k : Nat} {P : Nat → Prop} (h : t = true ↔ ∀ q, q < k → P q) (ct : t = true) (c : P k) : true = true ↔ ∀ q, q < k + 1 → P q :=
  ⟨fun _ q hq => by rcases Nat.lt_or_eq_of_le (Nat.le_of_lt_succ hq) with h1 | rfl; exact h.mp ct q h1; exact c, fun _ => rfl⟩
theorem al_0 {P : Nat → Prop} : true = true ↔ ∀ q, q < 0 → P q := ⟨fun _ q hq => absurd hq (Nat.not_lt_zero q), fun _ => rfl⟩
theorem ex_0 {P : Nat → Prop} : false = true ↔ ∃ q, q < 0 ∧ P q := ⟨fun h => by (cases h), fun ⟨q, hq, _⟩ => absurd hq (Nat.not_lt_zero q)⟩
theorem ex_t1 {t : Bool} {k : Nat} {P : Nat → Prop} (h : t = true ↔ ∃ q, q < k ∧ P q) (c : t = true) : true = true ↔ ∃ q, q < k + 1 ∧ P q :=
  ⟨fun _ => by obtain ⟨q, h1, h2⟩ := h.mp c; exact ⟨q, Nat.lt_succ_of_lt h1, h2⟩, fun _ => rfl⟩
theorem ex_t2 {k : Nat} {P : Nat → Prop} (c : P k) : true = true ↔ ∃ q, q < k + 1 ∧ P q := ⟨fun _ => ⟨k, Nat.lt_succ_self k, c⟩, fun _ => rfl⟩
theorem ex_f {t : Bool} {k : Nat} {P : Nat → Prop} (h : t = true ↔ ∃ q, q < k ∧ P q) (ct : t = false) (c : ¬ P k) : false = true ↔ ∃ q, q < k + 1 ∧ P q :=
  ⟨fun h => by (cases h), fun ⟨q, h1, h2⟩ => by rcases Nat.lt_or_eq_of_le (Nat.le_of_lt_succ h1) with h3 | rfl; exact ct ▸ h.mpr ⟨q, h3, h2⟩; exact absurd h2 c⟩
theorem bd_eq {t : Bool} {P : Prop} {i : Decidable P} (h : t = true ↔ P) : t = decide P := by
  cases t with
  | true => exact (decide_eq_true (h.mp rfl)).symm
  | false => exact (decide_eq_false (fun q => by cases h.mpr q)).symm
/-! pure words: copying five places, the small writers of the reference -/
def cpN (h f : Nat → Int32) (k : Nat) : Nat → Int32 := fun q => if q < k then h q else f q
theorem cpN_0 (h f : Nat → Int32) : cpN h f 0 = f := funext fun q => if_neg (Nat.not_lt_zero q)
theorem cpN_s (h f : Nat → Int32) (k : Nat) : upd (cpN h f k) k (h k) = cpN h f (k + 1) := by
  funext q
  unfold upd cpN
  by_cases h1 : q = k
  · subst h1; rw [if_pos rfl, if_pos (Nat.lt_succ_self q)]
  · by_cases h2 : q < k
    · rw [if_neg h1, if_pos h2, if_pos (Nat.lt_succ_of_lt h2)]
    · rw [if_neg h1, if_neg h2, if_neg (by omega)]
theorem cpN_ge {h f : Nat → Int32} {k q : Nat} (hq : k ≤ q) : cpN h f k q = f q := if_neg (Nat.not_lt.mpr hq)
theorem cpN_lt {h f : Nat → Int32} {k q : Nat} (hq : q < k) : cpN h f k q = h q := if_pos hq
theorem inB_nI {x : Int32} {k : Nat} (hk : k < 2 ^ 31) (h : inB x (nI k) = true) : ∃ j : Nat, j < k ∧ x = nI j := by
  unfold inB at h
  rw [Bool.and_eq_true] at h
  have h1 := of_decide_eq_true h.1
  have h2 := of_decide_eq_true h.2
  obtain ⟨j, h3, h4, -⟩ := pk_mu h1 h2 hk
  exact ⟨j, h3, h4⟩
theorem inC_nI {x : Int32} {k : Nat} (hk : k < 2 ^ 31) (h : inC x (nI k) = true) : ∃ j : Nat, j ≤ k ∧ x = nI j := by
  unfold inC at h
  rw [Bool.and_eq_true] at h
  have h1 := of_decide_eq_true h.1
  have h2 := of_decide_eq_true h.2
  obtain ⟨j, h3, rfl⟩ := nI_of h1
  exact ⟨j, Nat.le_of_not_lt (fun q => h2 ((nI_ltI hk h3).mpr q)), rfl⟩
theorem inB_is {j k : Nat} (hj : j < k) (hk : k < 2 ^ 31) : inB (nI j) (nI k) = true := by
  unfold inB
  rw [Bool.and_eq_true]
  exact ⟨decide_eq_true (nI_pos (by omega)), decide_eq_true (nI_ge hj hk)⟩
def placeM (pl : Nat) (f1 f6 : Nat → Int32) (x : Int32) : Int32 × Nat × (Nat → Int32) × (Nat → Int32) :=
  if pl = 5 ∨ inC x (nI 20) = false then (-1, pl, f1, f6) else (nI pl, pl + 1, upd f1 pl x, cpN (upd f1 pl x) f6 5)
def transM (tr : Nat) (f1 f6 : Nat → Int32) : Int32 × Nat × (Nat → Int32) :=
  if tr = 6 then (-1, tr, f6) else (nI tr, tr + 1, cpN f1 f6 5)
def arcM (pl tr : Nat) (f1 f4 f5 f6 : Nat → Int32) (x1 x2 x3 x4 : Int32) : Bool × (Nat → Int32) × (Nat → Int32) × (Nat → Int32) :=
  if inB x1 (nI tr) && inB x2 (nI pl) && inC x3 (nI 5) && inC x4 (nI 5) then (true, upd f4 (5 * x1.toNatClampNeg + x2.toNatClampNeg) x3, upd f5 (5 * x1.toNatClampNeg + x2.toNatClampNeg) x4, cpN f1 f6 5) else (false, f4, f5, f6)
def targetM (pl : Nat) (f2 : Nat → Int32) (x1 x2 : Int32) : Bool × (Nat → Int32) :=
  if inB x1 (nI pl) && inC x2 (nI 20) then (true, upd f2 x1.toNatClampNeg x2) else (false, f2)
/-- what firing leads to -/
def fiM (f4 f5 f6 : Nat → Int32) (t : Nat) : Nat → Int32 := fun q => f6 q + (f5 (5 * t + q) - f4 (5 * t + q))
def canM (tr : Nat) (f4 f : Nat → Int32) (x : Nat) (t : Int32) : Bool := inB t (nI tr) && tpB f x f4 (5 * t.toNatClampNeg)
def fireM (tr : Nat) (f4 f5 f6 : Nat → Int32) (t : Int32) : Bool × (Nat → Int32) :=
  if canM tr f4 f6 0 t then (true, cpN (fiM f4 f5 f6 t.toNatClampNeg) f6 5) else (false, f6)
/-! THE REFERENCE: its cells -/
abbrev mw (cI : ClassId) (r : Nat → Nat) (i0 i3 i7 i8 i9 i13 i15 i17 i18 i19 i22 i23 : Int32) (a1 a2 a4 a5 a6 a10 a11 a12 a14 a16 a20 a21 a24 a25 a26 : Nat → Int32) : va_W := [(r 0, .inr (5, [.int i0, .ref (r 1), .ref (r 2), .int i3, .ref (r 4), .ref (r 5), .ref (r 6), .int i7, .int i8, .int i9, .ref (r 10), .ref (r 11), .ref (r 12), .int i13, .ref (r 14), .int i15, .ref (r 16), .int i17, .int i18, .int i19, .ref (r 20), .ref (r 21), .int i22, .int i23, .ref (r 24), .ref (r 25), .ref (r 26)])), (r 1, .inl (cI, 5, .inl a1)), (r 2, .inl (cI, 5, .inl a2)), (r 4, .inl (cI, 30, .inl a4)), (r 5, .inl (cI, 30, .inl a5)), (r 6, .inl (cI, 5, .inl a6)), (r 10, .inl (cI, 61, .inl a10)), (r 11, .inl (cI, 61000, .inl a11)), (r 12, .inl (cI, 7500, .inl a12)), (r 14, .inl (cI, 7500, .inl a14)), (r 16, .inl (cI, 60, .inl a16)), (r 20, .inl (cI, 5005, .inl a20)), (r 21, .inl (cI, 1001, .inl a21)), (r 24, .inl (cI, 1001, .inl a24)), (r 25, .inl (cI, 5, .inl a25)), (r 26, .inl (cI, 5, .inl a26))]
end
section
set_option maxHeartbeats 4000000 in
set_option maxRecDepth 100000 in
theorem c_X6_isPlace (l : Launch) (D : va_G) (cI cJ cZ cA : ClassId) (r : Nat → Nat) (i0 i3 i7 i8 i9 i13 i15 i17 i18 i19 i22 i23 : Int32) (a1 a2 a4 a5 a6 a10 a11 a12 a14 a16 a20 a21 a24 a25 a26 : Nat → Int32) (x : Int32) : Met l yX6_isPlace wsX6_isPlace ({ frames := 0, cells := 0, slots := 0, locals := 0 } : Room) (ro_P D (tysC cI cJ cZ cA) [.ref (r 0), .int x] (mw cI r i0 i3 i7 i8 i9 i13 i15 i17 i18 i19 i22 i23 a1 a2 a4 a5 a6 a10 a11 a12 a14 a16 a20 a21 a24 a25 a26)) (ro_Q (bI (inB x i0))) 0 0 (fun _ => False) := by
  refine met_ro (cc := cX6_isPlace) (maxL := 2) (ty := .boolean) (by decide) rfl (Nat.le_of_ble_eq_true rfl) (bI_n _) ?_
  intro p e s m args below meth c Q hx hb hml hown hts hP hK hret ls hl
  obtain ⟨H, hH9⟩ : ∃ H : Heap, H = s.heap := ⟨_, rfl⟩
  have hP : va_P D vwCl (mw cI r i0 i3 i7 i8 i9 i13 i15 i17 i18 i19 i22 i23 a1 a2 a4 a5 a6 a10 a11 a12 a14 a16 a20 a21 a24 a25 a26) H := by rw [hH9]; exact hP
  have hS : va_S (fun _ => False) s.heap H [] := by rw [hH9]; exact va_S.rf
  rw [← hH9]
  have hown : s.vm.findClass RX6 = some m.cls := hown
  have hin6 : ∀ w ∈ wsX60, w ∈ wsX6_isPlace := by decide +kernel
  have fl60 := hts (.fieldLink RX6 60 "CoverRoundsModel" "places" "I") (by decide +kernel)
  have hl : lv_has ls 2 [(0, .ref (r 0)), (1, .int x)] := hl
  refine lv_iload_n hx hb dX6_isPlace_0 rfl (lv_at hl 1 rfl) ?_
  refine lv_if_lt (tgt := 16) hx hb dX6_isPlace_1 (by decide) (fun c1 => ?_) (fun c1 => ?_)
  · skip
    refine lv_iconst (v := nI 0) hx hb dX6_isPlace_16 (by decide) ?_
    exact hret _ _ _ _ _ (bI_F (by simp [inB, c1])) dX6_isPlace_17 hS
  · skip
    refine lv_iload_n hx hb dX6_isPlace_4 rfl (lv_at hl 1 rfl) ?_
    refine lv_aload_n hx hb dX6_isPlace_5 rfl (lv_at hl 0 rfl) ?_
    refine va_get (D := D) (ci := 5) (v := .int i0) (C := RX6) (T := TX6) (N := 27) hx hb hts hin6 hown hK hP 0 rfl rfl 0 (by decide) fl60 (fun _ h9 => h9) rfl dX6_isPlace_6 ?_
    refine lv_icmp_ge (tgt := 16) hx hb dX6_isPlace_9 (by decide) (fun c9 => ?_) (fun c9 => ?_)
    · skip
      refine lv_iconst (v := nI 0) hx hb dX6_isPlace_16 (by decide) ?_
      exact hret _ _ _ _ _ (bI_F (by simp [inB, c1, c9])) dX6_isPlace_17 hS
    · skip
      refine lv_iconst (v := nI 1) hx hb dX6_isPlace_12 (by decide) ?_
      refine lv_goto (tgt := 17) hx hb dX6_isPlace_13 (by decide) ?_
      exact hret _ _ _ _ _ (bI_T (by simp [inB, c1, c9])) dX6_isPlace_17 hS

set_option maxHeartbeats 4000000 in
set_option maxRecDepth 100000 in
theorem c_X6_isTransition (l : Launch) (D : va_G) (cI cJ cZ cA : ClassId) (r : Nat → Nat) (i0 i3 i7 i8 i9 i13 i15 i17 i18 i19 i22 i23 : Int32) (a1 a2 a4 a5 a6 a10 a11 a12 a14 a16 a20 a21 a24 a25 a26 : Nat → Int32) (x : Int32) : Met l yX6_isTransition wsX6_isTransition ({ frames := 0, cells := 0, slots := 0, locals := 0 } : Room) (ro_P D (tysC cI cJ cZ cA) [.ref (r 0), .int x] (mw cI r i0 i3 i7 i8 i9 i13 i15 i17 i18 i19 i22 i23 a1 a2 a4 a5 a6 a10 a11 a12 a14 a16 a20 a21 a24 a25 a26)) (ro_Q (bI (inB x i3))) 0 0 (fun _ => False) := by
  refine met_ro (cc := cX6_isTransition) (maxL := 2) (ty := .boolean) (by decide) rfl (Nat.le_of_ble_eq_true rfl) (bI_n _) ?_
  intro p e s m args below meth c Q hx hb hml hown hts hP hK hret ls hl
  obtain ⟨H, hH9⟩ : ∃ H : Heap, H = s.heap := ⟨_, rfl⟩
  have hP : va_P D vwCl (mw cI r i0 i3 i7 i8 i9 i13 i15 i17 i18 i19 i22 i23 a1 a2 a4 a5 a6 a10 a11 a12 a14 a16 a20 a21 a24 a25 a26) H := by rw [hH9]; exact hP
  have hS : va_S (fun _ => False) s.heap H [] := by rw [hH9]; exact va_S.rf
  rw [← hH9]
  have hown : s.vm.findClass RX6 = some m.cls := hown
  have hin6 : ∀ w ∈ wsX60, w ∈ wsX6_isTransition := by decide +kernel
  have fl63 := hts (.fieldLink RX6 63 "CoverRoundsModel" "transitions" "I") (by decide +kernel)
  have hl : lv_has ls 2 [(0, .ref (r 0)), (1, .int x)] := hl
  refine lv_iload_n hx hb dX6_isTransition_0 rfl (lv_at hl 1 rfl) ?_
  refine lv_if_lt (tgt := 16) hx hb dX6_isTransition_1 (by decide) (fun c1 => ?_) (fun c1 => ?_)
  · skip
    refine lv_iconst (v := nI 0) hx hb dX6_isTransition_16 (by decide) ?_
    exact hret _ _ _ _ _ (bI_F (by simp [inB, c1])) dX6_isTransition_17 hS
  · skip
    refine lv_iload_n hx hb dX6_isTransition_4 rfl (lv_at hl 1 rfl) ?_
    refine lv_aload_n hx hb dX6_isTransition_5 rfl (lv_at hl 0 rfl) ?_
    refine va_get (D := D) (ci := 5) (v := .int i3) (C := RX6) (T := TX6) (N := 27) hx hb hts hin6 hown hK hP 0 rfl rfl 3 (by decide) fl63 (fun _ h9 => h9) rfl dX6_isTransition_6 ?_
    refine lv_icmp_ge (tgt := 16) hx hb dX6_isTransition_9 (by decide) (fun c9 => ?_) (fun c9 => ?_)
    · skip
      refine lv_iconst (v := nI 0) hx hb dX6_isTransition_16 (by decide) ?_
      exact hret _ _ _ _ _ (bI_F (by simp [inB, c1, c9])) dX6_isTransition_17 hS
    · skip
      refine lv_iconst (v := nI 1) hx hb dX6_isTransition_12 (by decide) ?_
      refine lv_goto (tgt := 17) hx hb dX6_isTransition_13 (by decide) ?_
      exact hret _ _ _ _ _ (bI_T (by simp [inB, c1, c9])) dX6_isTransition_17 hS

set_option maxHeartbeats 4000000 in
set_option maxRecDepth 100000 in
theorem c_X6_isIn (l : Launch) (D : va_G) (cI cJ cZ cA : ClassId) (x y : Int32) : Met l yX6_isIn wsX6_isIn ({ frames := 0, cells := 0, slots := 0, locals := 0 } : Room) (ro_P D (tysC cI cJ cZ cA) [.int x, .int y] []) (ro_Q (bI (inC x y))) 0 0 (fun _ => False) := by
  refine met_ro (cc := cX6_isIn) (maxL := 2) (ty := .boolean) (by decide) rfl (Nat.le_of_ble_eq_true rfl) (bI_n _) ?_
  intro p e s m args below meth c Q hx hb hml hown hts hP hK hret ls hl
  obtain ⟨H, hH9⟩ : ∃ H : Heap, H = s.heap := ⟨_, rfl⟩
  have hP : va_P D vwCl [] H := by rw [hH9]; exact hP
  have hS : va_S (fun _ => False) s.heap H [] := by rw [hH9]; exact va_S.rf
  rw [← hH9]
  have hown : s.vm.findClass RX6 = some m.cls := hown
  have hl : lv_has ls 2 [(0, .int x), (1, .int y)] := hl
  refine lv_iload_n hx hb dX6_isIn_0 rfl (lv_at hl 0 rfl) ?_
  refine lv_if_lt (tgt := 13) hx hb dX6_isIn_1 (by decide) (fun c1 => ?_) (fun c1 => ?_)
  · skip
    refine lv_iconst (v := nI 0) hx hb dX6_isIn_13 (by decide) ?_
    exact hret _ _ _ _ _ (bI_F (by simp [inC, c1])) dX6_isIn_14 hS
  · skip
    refine lv_iload_n hx hb dX6_isIn_4 rfl (lv_at hl 0 rfl) ?_
    refine lv_iload_n hx hb dX6_isIn_5 rfl (lv_at hl 1 rfl) ?_
    refine lv_icmp_gt (tgt := 13) hx hb dX6_isIn_6 (by decide) (fun c6 => ?_) (fun c6 => ?_)
    · skip
      refine lv_iconst (v := nI 0) hx hb dX6_isIn_13 (by decide) ?_
      exact hret _ _ _ _ _ (bI_F (by simp [inC, c1, c6])) dX6_isIn_14 hS
    · skip
      refine lv_iconst (v := nI 1) hx hb dX6_isIn_9 (by decide) ?_
      refine lv_goto (tgt := 14) hx hb dX6_isIn_10 (by decide) ?_
      exact hret _ _ _ _ _ (bI_T (by simp [inC, c1, c6])) dX6_isIn_14 hS

set_option maxHeartbeats 4000000 in
set_option maxRecDepth 100000 in
theorem c_X6_tops (l : Launch) (D : va_G) (cI cJ cZ cA : ClassId) (ax ay nx ny x y : Nat) (f g : Nat → Int32) (hnx : nx < 2 ^ 31) (hny : ny < 2 ^ 31) (hx5 : x + 5 ≤ nx) (hy5 : y + 5 ≤ ny) : Met l yX6_tops wsX6_tops ({ frames := 0, cells := 0, slots := 0, locals := 0 } : Room) (ro_P D (tysC cI cJ cZ cA) [.ref ax, .int (nI x), .ref ay, .int (nI y)] [(ax, .inl (cI, nx, .inl f)), (ay, .inl (cI, ny, .inl g))]) (ro_Q (bI (tpB f x g y))) 0 0 (fun _ => False) := by
  refine met_ro (cc := cX6_tops) (maxL := 6) (ty := .boolean) (by decide) rfl (Nat.le_of_ble_eq_true rfl) (bI_n _) ?_
  intro p e s m args below meth c Q hx hb hml hown hts hP hK hret ls hl
  obtain ⟨H, hH9⟩ : ∃ H : Heap, H = s.heap := ⟨_, rfl⟩
  have hP : va_P D vwCl [(ax, .inl (cI, nx, .inl f)), (ay, .inl (cI, ny, .inl g))] H := by rw [hH9]; exact hP
  have hS : va_S (fun _ => False) s.heap H [] := by rw [hH9]; exact va_S.rf
  rw [← hH9]
  have hown : s.vm.findClass RX6 = some m.cls := hown
  have hl : lv_has ls 6 [(0, .ref ax), (1, .int (nI x)), (2, .ref ay), (3, .int (nI y))] := hl
  refine lv_iconst (v := nI 1) hx hb dX6_tops_0 (by decide) ?_
  refine lv_istore (lv' := [(4, .int (nI 1)), (0, .ref ax), (1, .int (nI x)), (2, .ref ay), (3, .int (nI y))]) hx hb dX6_tops_1 hl (by decide) rfl (fun ls hl => ?_)
  refine lv_iconst (v := nI 0) hx hb dX6_tops_3 (by decide) ?_
  refine lv_istore (lv' := [(5, .int (nI 0)), (4, .int (nI 1)), (0, .ref ax), (1, .int (nI x)), (2, .ref ay), (3, .int (nI y))]) hx hb dX6_tops_4 hl (by decide) rfl (fun ls hl => ?_)
  have lp6 : ∀ (n9 : Nat) (k : Nat) (t : Bool), 5 - k < n9 → k ≤ 5 → (t = true ↔ ∀ q, q < k → ¬ f (x + q) < g (y + q)) → ∀ (H : Heap) (locs : List Loc) (ls : Array Slot), va_P D vwCl [(ax, .inl (cI, nx, .inl f)), (ay, .inl (cI, ny, .inl g))] H → va_S (fun _ => False) s.heap H locs → lv_has ls 6 [(0, .ref ax), (1, .int (nI x)), (2, .ref ay), (3, .int (nI y)), (4, .int (bI t)), (5, .int (nI k))] → W p l e ({ frames := 0, cells := 0, slots := 0, locals := 0 } : Room) s m args below meth c H locs 0 0 Q (F0 m 6 ls []) := by
    intro n9
    induction n9 with
    | zero => intro k t hm6; exact absurd hm6 (Nat.not_lt_zero _)
    | succ n9 ih6 =>
      intro k t hm6 hk ht H locs ls hP hS hl
      refine lv_iload hx hb dX6_tops_6 (lv_at hl 5 rfl) ?_
      refine lv_iconst (v := nI 5) hx hb dX6_tops_8 (by decide) ?_
      refine wk_icmp_ge (tgt := 45) hx hb (by omega) (by omega) dX6_tops_9 (by decide) (fun c9 => ?_) (fun c9 => ?_)
      · skip
        refine lv_iload hx hb dX6_tops_45 (lv_at hl 4 rfl) ?_
        have hk5 : k = 5 := by omega
        subst hk5
        exact hret _ _ _ _ _ (congrArg bI (bb_eq ht tpB_iff)) dX6_tops_47 hS
      · skip
        refine lv_iload hx hb dX6_tops_12 (lv_at hl 4 rfl) ?_
        refine wk_if_eqb (tgt := 36) hx hb dX6_tops_14 (by decide) (fun c14 => ?_) (fun c14 => ?_)
        · skip
          refine lv_iconst (v := nI 0) hx hb dX6_tops_36 (by decide) ?_
          refine lv_istore (lv' := [(4, .int (nI 0)), (0, .ref ax), (1, .int (nI x)), (2, .ref ay), (3, .int (nI y)), (5, .int (nI k))]) hx hb dX6_tops_37 hl (by decide) rfl (fun ls hl => ?_)
          refine lv_iinc (v := (nI (k + 1))) (lv' := [(5, .int (nI (k + 1))), (4, .int (nI 0)), (0, .ref ax), (1, .int (nI x)), (2, .ref ay), (3, .int (nI y))]) hx hb dX6_tops_39 hl (k := 5) rfl (by exact nI_1 _) (by decide) rfl (fun ls hl => ?_)
          refine lv_goto (tgt := 6) hx hb dX6_tops_42 (by decide) ?_
          exact ih6 (k + 1) false (by omega) (by omega) (al_f1 ht c14) _ _ _ hP hS (lv_sub hl [2, 3, 4, 5, 1, 0] rfl)
        · skip
          refine lv_aload_n hx hb dX6_tops_17 rfl (lv_at hl 0 rfl) ?_
          refine lv_iload_n hx hb dX6_tops_18 rfl (lv_at hl 1 rfl) ?_
          refine lv_iload hx hb dX6_tops_19 (lv_at hl 5 rfl) ?_
          refine wk_iadd hx hb dX6_tops_21 ?_
          refine wk_iald hx hb hK hP 0 0 rfl rfl (i := x + k) (by omega) (by omega) dX6_tops_22 ?_
          refine lv_aload_n hx hb dX6_tops_23 rfl (lv_at hl 2 rfl) ?_
          refine lv_iload_n hx hb dX6_tops_24 rfl (lv_at hl 3 rfl) ?_
          refine lv_iload hx hb dX6_tops_25 (lv_at hl 5 rfl) ?_
          refine wk_iadd hx hb dX6_tops_27 ?_
          refine wk_iald hx hb hK hP 1 0 rfl rfl (i := y + k) (by omega) (by omega) dX6_tops_28 ?_
          refine lv_icmp_lt (tgt := 36) hx hb dX6_tops_29 (by decide) (fun c29 => ?_) (fun c29 => ?_)
          · skip
            refine lv_iconst (v := nI 0) hx hb dX6_tops_36 (by decide) ?_
            refine lv_istore (lv' := [(4, .int (nI 0)), (0, .ref ax), (1, .int (nI x)), (2, .ref ay), (3, .int (nI y)), (5, .int (nI k))]) hx hb dX6_tops_37 hl (by decide) rfl (fun ls hl => ?_)
            refine lv_iinc (v := (nI (k + 1))) (lv' := [(5, .int (nI (k + 1))), (4, .int (nI 0)), (0, .ref ax), (1, .int (nI x)), (2, .ref ay), (3, .int (nI y))]) hx hb dX6_tops_39 hl (k := 5) rfl (by exact nI_1 _) (by decide) rfl (fun ls hl => ?_)
            refine lv_goto (tgt := 6) hx hb dX6_tops_42 (by decide) ?_
            exact ih6 (k + 1) false (by omega) (by omega) (al_f2 (fun h => h c29)) _ _ _ hP hS (lv_sub hl [2, 3, 4, 5, 1, 0] rfl)
          · skip
            refine lv_iconst (v := nI 1) hx hb dX6_tops_32 (by decide) ?_
            refine lv_goto (tgt := 37) hx hb dX6_tops_33 (by decide) ?_
            refine lv_istore (lv' := [(4, .int (nI 1)), (0, .ref ax), (1, .int (nI x)), (2, .ref ay), (3, .int (nI y)), (5, .int (nI k))]) hx hb dX6_tops_37 hl (by decide) rfl (fun ls hl => ?_)
            refine lv_iinc (v := (nI (k + 1))) (lv' := [(5, .int (nI (k + 1))), (4, .int (nI 1)), (0, .ref ax), (1, .int (nI x)), (2, .ref ay), (3, .int (nI y))]) hx hb dX6_tops_39 hl (k := 5) rfl (by exact nI_1 _) (by decide) rfl (fun ls hl => ?_)
            refine lv_goto (tgt := 6) hx hb dX6_tops_42 (by decide) ?_
            exact ih6 (k + 1) true (by omega) (by omega) (al_t ht c14 c29) _ _ _ hP hS (lv_sub hl [2, 3, 4, 5, 1, 0] rfl)
  exact lp6 _ 0 true (Nat.lt_succ_self _) (by omega) al_0 _ _ _ hP hS (lv_sub hl [2, 3, 4, 5, 1, 0] rfl)
end
section
set_option maxHeartbeats 4000000 in
set_option maxRecDepth 100000 in
theorem c_X6_begin (l : Launch) (D : va_G) (cI cJ cZ cA : ClassId) (r : Nat → Nat) (i0 i3 i7 i8 i9 i13 i15 i17 i18 i19 i22 i23 : Int32) (a1 a2 a4 a5 a6 a10 a11 a12 a14 a16 a20 a21 a24 a25 a26 : Nat → Int32) (sz : Nat) : Met l yX6_begin wsX6_begin ({ frames := 0, cells := 0, slots := 0, locals := 0 } : Room) (wr_P D (tysC cI cJ cZ cA) [.ref (r 0)] (mw cI r i0 i3 i7 i8 i9 i13 i15 i17 i18 i19 i22 i23 a1 a2 a4 a5 a6 a10 a11 a12 a14 a16 a20 a21 a24 a25 a26) sz) (wr_Qv D (S := Unit) (mw cI r i0 i3 i7 i8 i9 i13 i15 i17 i18 i19 i22 i23 a1 a2 a4 a5 a6 a10 a11 a12 a14 a16 a20 a21 a24 a25 a26) sz (fun _ => True) (fun _ => (mw cI r i0 i3 i7 i8 i9 i13 i15 i17 i18 i19 i22 i23 a1 a2 a4 a5 (cpN a1 a6 5) a10 a11 a12 a14 a16 a20 a21 a24 a25 a26))) 0 0 (va_A (mw cI r i0 i3 i7 i8 i9 i13 i15 i17 i18 i19 i22 i23 a1 a2 a4 a5 a6 a10 a11 a12 a14 a16 a20 a21 a24 a25 a26) sz) := by
  refine met_wv (cc := cX6_begin) (maxL := 2) (by decide) rfl (Nat.le_of_ble_eq_true rfl) ?_
  intro p e s m args below meth c Q A hx hb hml hown hts hP hK hD hA hret ls hl
  obtain ⟨H, hH9⟩ : ∃ H : Heap, H = s.heap := ⟨_, rfl⟩
  have hP : va_P D vwCl (mw cI r i0 i3 i7 i8 i9 i13 i15 i17 i18 i19 i22 i23 a1 a2 a4 a5 a6 a10 a11 a12 a14 a16 a20 a21 a24 a25 a26) H := by rw [hH9]; exact hP
  have hS : va_S A s.heap H [] := by rw [hH9]; exact va_S.rf
  rw [← hH9]
  have hown : s.vm.findClass RX6 = some m.cls := hown
  have hin6 : ∀ w ∈ wsX60, w ∈ wsX6_begin := by decide +kernel
  have fl22 := hts (.fieldLink RX6 22 "CoverRoundsModel" "now" "[I") (by decide +kernel)
  have fl7 := hts (.fieldLink RX6 7 "CoverRoundsModel" "first" "[I") (by decide +kernel)
  have hl : lv_has ls 2 [(0, .ref (r 0))] := hl
  refine lv_iconst (v := nI 0) hx hb dX6_begin_0 (by decide) ?_
  refine lv_istore_n (lv' := [(1, .int (nI 0)), (0, .ref (r 0))]) hx hb dX6_begin_1 rfl hl (by decide) rfl (fun ls hl => ?_)
  have lp2 : ∀ (n9 : Nat) (k : Nat), 5 - k < n9 → k ≤ 5 → ∀ (H : Heap) (locs : List Loc) (ls : Array Slot), va_P D vwCl (mw cI r i0 i3 i7 i8 i9 i13 i15 i17 i18 i19 i22 i23 a1 a2 a4 a5 (cpN a1 a6 k) a10 a11 a12 a14 a16 a20 a21 a24 a25 a26) H → va_D A (mw cI r i0 i3 i7 i8 i9 i13 i15 i17 i18 i19 i22 i23 a1 a2 a4 a5 (cpN a1 a6 k) a10 a11 a12 a14 a16 a20 a21 a24 a25 a26) → va_S A s.heap H locs → lv_has ls 2 [(0, .ref (r 0)), (1, .int (nI k))] → W p l e ({ frames := 0, cells := 0, slots := 0, locals := 0 } : Room) s m args below meth c H locs 0 0 Q (F0 m 2 ls []) := by
    intro n9
    induction n9 with
    | zero => intro k hm2; exact absurd hm2 (Nat.not_lt_zero _)
    | succ n9 ih2 =>
      intro k hm2 hk H locs ls hP hD hS hl
      refine lv_iload_n hx hb dX6_begin_2 rfl (lv_at hl 1 rfl) ?_
      refine lv_iconst (v := nI 5) hx hb dX6_begin_3 (by decide) ?_
      refine wk_icmp_ge (tgt := 25) hx hb (by omega) (by omega) dX6_begin_4 (by decide) (fun c4 => ?_) (fun c4 => ?_)
      · skip
        have hk5 : k = 5 := by omega
        subst hk5
        exact hret () _ _ _ _ _ _ trivial hP hD dX6_begin_25 hS (Nat.zero_le _) (Nat.zero_le _)
      · skip
        refine lv_aload_n hx hb dX6_begin_7 rfl (lv_at hl 0 rfl) ?_
        refine va_get (D := D) (ci := 5) (v := .ref (r 6)) (C := RX6) (T := TX6) (N := 27) hx hb hts hin6 hown hK hP 0 rfl rfl 6 (by decide) fl22 (fun _ h9 => h9) rfl dX6_begin_8 ?_
        refine lv_iload_n hx hb dX6_begin_11 rfl (lv_at hl 1 rfl) ?_
        refine lv_aload_n hx hb dX6_begin_12 rfl (lv_at hl 0 rfl) ?_
        refine va_get (D := D) (ci := 5) (v := .ref (r 1)) (C := RX6) (T := TX6) (N := 27) hx hb hts hin6 hown hK hP 0 rfl rfl 1 (by decide) fl7 (fun _ h9 => h9) rfl dX6_begin_13 ?_
        refine lv_iload_n hx hb dX6_begin_16 rfl (lv_at hl 1 rfl) ?_
        refine wk_iald hx hb hK hP 1 0 rfl rfl (i := k) (by omega) (by omega) dX6_begin_17 ?_
        refine wk_iast hx hb hK hP hD hS 5 0 rfl rfl (i := k) (by omega) (by omega) dX6_begin_18 (fun H locs hP hD hS => ?_)
        have hP : va_P D vwCl (mw cI r i0 i3 i7 i8 i9 i13 i15 i17 i18 i19 i22 i23 a1 a2 a4 a5 (upd (cpN a1 a6 k) k (a1 k)) a10 a11 a12 a14 a16 a20 a21 a24 a25 a26) H := hP
        have hD : va_D A (mw cI r i0 i3 i7 i8 i9 i13 i15 i17 i18 i19 i22 i23 a1 a2 a4 a5 (upd (cpN a1 a6 k) k (a1 k)) a10 a11 a12 a14 a16 a20 a21 a24 a25 a26) := hD
        refine lv_iinc (v := (nI (k + 1))) (lv' := [(1, .int (nI (k + 1))), (0, .ref (r 0))]) hx hb dX6_begin_19 hl (k := 1) rfl (by exact nI_1 _) (by decide) rfl (fun ls hl => ?_)
        refine lv_goto (tgt := 2) hx hb dX6_begin_22 (by decide) ?_
        have hP : va_P D vwCl (mw cI r i0 i3 i7 i8 i9 i13 i15 i17 i18 i19 i22 i23 a1 a2 a4 a5 (cpN a1 a6 (k + 1)) a10 a11 a12 a14 a16 a20 a21 a24 a25 a26) H := by rw [← cpN_s]; exact hP
        have hD : va_D A (mw cI r i0 i3 i7 i8 i9 i13 i15 i17 i18 i19 i22 i23 a1 a2 a4 a5 (cpN a1 a6 (k + 1)) a10 a11 a12 a14 a16 a20 a21 a24 a25 a26) := by rw [← cpN_s]; exact hD
        exact ih2 (k + 1) (by omega) (by omega) _ _ _ hP hD hS (lv_sub hl [1, 0] rfl)
  have hP : va_P D vwCl (mw cI r i0 i3 i7 i8 i9 i13 i15 i17 i18 i19 i22 i23 a1 a2 a4 a5 (cpN a1 a6 0) a10 a11 a12 a14 a16 a20 a21 a24 a25 a26) H := by rw [cpN_0]; exact hP
  have hD : va_D A (mw cI r i0 i3 i7 i8 i9 i13 i15 i17 i18 i19 i22 i23 a1 a2 a4 a5 (cpN a1 a6 0) a10 a11 a12 a14 a16 a20 a21 a24 a25 a26) := by rw [cpN_0]; exact hD
  exact lp2 _ 0 (Nat.lt_succ_self _) (by omega) _ _ _ hP hD hS (lv_sub hl [1, 0] rfl)

set_option maxHeartbeats 4000000 in
set_option maxRecDepth 100000 in
theorem c_X6_place (l : Launch) (D : va_G) (cI cJ cZ cA : ClassId) (r : Nat → Nat) (i3 i7 i8 i9 i13 i15 i17 i18 i19 i22 i23 : Int32) (a1 a2 a4 a5 a6 a10 a11 a12 a14 a16 a20 a21 a24 a25 a26 : Nat → Int32) (sz pl : Nat) (x : Int32) (hpl : pl ≤ 5) : Met l yX6_place wsX6_place ({ frames := 1, cells := 0, slots := 0, locals := 21 } : Room) (wr_P D (tysC cI cJ cZ cA) [.ref (r 0), .int x] (mw cI r (nI pl) i3 i7 i8 i9 i13 i15 i17 i18 i19 i22 i23 a1 a2 a4 a5 a6 a10 a11 a12 a14 a16 a20 a21 a24 a25 a26) sz) (wr_Qi D (S := Nat × (Nat → Int32) × (Nat → Int32)) (mw cI r (nI pl) i3 i7 i8 i9 i13 i15 i17 i18 i19 i22 i23 a1 a2 a4 a5 a6 a10 a11 a12 a14 a16 a20 a21 a24 a25 a26) sz (fun r9 u => (r9, u) = placeM pl a1 a6 x) (fun u => (mw cI r (nI u.1) i3 i7 i8 i9 i13 i15 i17 i18 i19 i22 i23 u.2.1 a2 a4 a5 u.2.2 a10 a11 a12 a14 a16 a20 a21 a24 a25 a26))) 0 0 (va_A (mw cI r (nI pl) i3 i7 i8 i9 i13 i15 i17 i18 i19 i22 i23 a1 a2 a4 a5 a6 a10 a11 a12 a14 a16 a20 a21 a24 a25 a26) sz) := by
  refine met_wi (cc := cX6_place) (maxL := 2) (ty := .int) (by decide) rfl (Nat.le_of_ble_eq_true rfl) ?_
  intro p e s m args below meth c Q A hx hb hml hown hts hP hK hD hA hret ls hl
  obtain ⟨H, hH9⟩ : ∃ H : Heap, H = s.heap := ⟨_, rfl⟩
  have hP : va_P D vwCl (mw cI r (nI pl) i3 i7 i8 i9 i13 i15 i17 i18 i19 i22 i23 a1 a2 a4 a5 a6 a10 a11 a12 a14 a16 a20 a21 a24 a25 a26) H := by rw [hH9]; exact hP
  have hS : va_S A s.heap H [] := by rw [hH9]; exact va_S.rf
  rw [← hH9]
  have hown : s.vm.findClass RX6 = some m.cls := hown
  have hin6 : ∀ w ∈ wsX60, w ∈ wsX6_place := by decide +kernel
  have fl60 := hts (.fieldLink RX6 60 "CoverRoundsModel" "places" "I") (by decide +kernel)
  have fl7 := hts (.fieldLink RX6 7 "CoverRoundsModel" "first" "[I") (by decide +kernel)
  have hl : lv_has ls 2 [(0, .ref (r 0)), (1, .int x)] := hl
  refine lv_aload_n hx hb dX6_place_0 rfl (lv_at hl 0 rfl) ?_
  refine va_get (D := D) (ci := 5) (v := .int (nI pl)) (C := RX6) (T := TX6) (N := 27) hx hb hts hin6 hown hK hP 0 rfl rfl 0 (by decide) fl60 (fun _ h9 => h9) rfl dX6_place_1 ?_
  refine lv_iconst (v := nI 5) hx hb dX6_place_4 (by decide) ?_
  refine wk_icmp_eq (tgt := 17) hx hb (by omega) (by omega) dX6_place_5 (by decide) (fun c5 => ?_) (fun c5 => ?_)
  · skip
    refine lv_iconst (v := -1) hx hb dX6_place_17 (by decide) ?_
    exact hret _ (pl, a1, a6) _ _ _ _ _ _ rfl (by simp [placeM, c5]) hP hD dX6_place_18 hS (Nat.zero_le _) (Nat.zero_le _)
  · skip
    refine lv_iload_n hx hb dX6_place_8 rfl (lv_at hl 1 rfl) ?_
    refine lv_bipush (v := nI 20) hx hb dX6_place_9 (by decide) ?_
    refine wk_Si (As := [.int x, .int (nI 20)]) (rest := []) ⟨hx, hb, hml, hown, hts⟩ (c_X6_isIn l D cI cJ cZ cA x (nI 20)) (va_cwS 2 hts gX6_place_X6_isIn rfl rfl rfl (by decide +kernel) ⟨Nat.le_of_ble_eq_true rfl, Nat.le_of_ble_eq_true rfl⟩) hK hP [] rfl hS rfl hl.1 rfl (Nat.le_of_ble_eq_true rfl) dX6_place_11 ⟨Nat.zero_le _, Nat.zero_le _⟩ (fun H locs hP hS => ?_)
    refine wk_if_neb (tgt := 19) hx hb dX6_place_14 (by decide) (fun c14 => ?_) (fun c14 => ?_)
    · skip
      refine lv_aload_n hx hb dX6_place_19 rfl (lv_at hl 0 rfl) ?_
      refine va_get (D := D) (ci := 5) (v := .ref (r 1)) (C := RX6) (T := TX6) (N := 27) hx hb hts hin6 hown hK hP 0 rfl rfl 1 (by decide) fl7 (fun _ h9 => h9) rfl dX6_place_20 ?_
      refine lv_aload_n hx hb dX6_place_23 rfl (lv_at hl 0 rfl) ?_
      refine va_get (D := D) (ci := 5) (v := .int (nI pl)) (C := RX6) (T := TX6) (N := 27) hx hb hts hin6 hown hK hP 0 rfl rfl 0 (by decide) fl60 (fun _ h9 => h9) rfl dX6_place_24 ?_
      refine lv_iload_n hx hb dX6_place_27 rfl (lv_at hl 1 rfl) ?_
      refine wk_iast hx hb hK hP hD hS 1 0 rfl rfl (i := pl) (by omega) (by omega) dX6_place_28 (fun H locs hP hD hS => ?_)
      have hP : va_P D vwCl (mw cI r (nI pl) i3 i7 i8 i9 i13 i15 i17 i18 i19 i22 i23 (upd a1 pl x) a2 a4 a5 a6 a10 a11 a12 a14 a16 a20 a21 a24 a25 a26) H := hP
      have hD : va_D A (mw cI r (nI pl) i3 i7 i8 i9 i13 i15 i17 i18 i19 i22 i23 (upd a1 pl x) a2 a4 a5 a6 a10 a11 a12 a14 a16 a20 a21 a24 a25 a26) := hD
      refine lv_aload_n hx hb dX6_place_29 rfl (lv_at hl 0 rfl) ?_
      refine lv_dup hx hb dX6_place_30 rfl ?_
      refine va_get (D := D) (ci := 5) (v := .int (nI pl)) (C := RX6) (T := TX6) (N := 27) hx hb hts hin6 hown hK hP 0 rfl rfl 0 (by decide) fl60 (fun _ h9 => h9) rfl dX6_place_31 ?_
      refine lv_iconst (v := nI 1) hx hb dX6_place_34 (by decide) ?_
      refine wk_iadd hx hb dX6_place_35 ?_
      refine va_put (D := D) (ci := 5) (v := .int (nI (pl + 1))) (ty := .int) (C := RX6) (T := TX6) (N := 27) hx hb hts hin6 tyX6 tyX6_ok nmX6 hown hK hP hD hS 0 rfl rfl 0 (by decide) fl60 (fun _ h9 => h9) rfl (by decide +kernel) rfl rfl (Nat.le_of_ble_eq_true rfl) dX6_place_36 (fun H locs hP hD hS => ?_)
      have hP : va_P D vwCl (mw cI r (nI (pl + 1)) i3 i7 i8 i9 i13 i15 i17 i18 i19 i22 i23 (upd a1 pl x) a2 a4 a5 a6 a10 a11 a12 a14 a16 a20 a21 a24 a25 a26) H := hP
      have hD : va_D A (mw cI r (nI (pl + 1)) i3 i7 i8 i9 i13 i15 i17 i18 i19 i22 i23 (upd a1 pl x) a2 a4 a5 a6 a10 a11 a12 a14 a16 a20 a21 a24 a25 a26) := hD
      refine lv_aload_n hx hb dX6_place_39 rfl (lv_at hl 0 rfl) ?_
      refine wk_VvW (As := []) (rest := []) (wr := []) ⟨hx, hb, hml, hown, hts⟩ (c_X6_begin l D cI cJ cZ cA r (nI (pl + 1)) i3 i7 i8 i9 i13 i15 i17 i18 i19 i22 i23 (upd a1 pl x) a2 a4 a5 a6 a10 a11 a12 a14 a16 a20 a21 a24 a25 a26 H.size) (cwV 0 hts gX6_place_X6_begin rfl rfl rfl (by decide +kernel) ⟨Nat.le_of_ble_eq_true rfl, Nat.le_of_ble_eq_true rfl⟩) hK hP hD hA [0, 1, 2, 3, 4, 5, 6, 7, 8, 9, 10, 11, 12, 13, 14, 15] rfl (by decide) [] rfl (by decide) (by decide) 0 5 rfl rfl hS rfl hl.1 rfl (Nat.le_of_ble_eq_true rfl) dX6_place_40 ⟨Nat.le_of_ble_eq_true rfl, Nat.le_of_ble_eq_true rfl⟩ (fun u9 H locs hu hP hD hS => ?_)
      have hP : va_P D vwCl (mw cI r (nI (pl + 1)) i3 i7 i8 i9 i13 i15 i17 i18 i19 i22 i23 (upd a1 pl x) a2 a4 a5 (cpN (upd a1 pl x) a6 5) a10 a11 a12 a14 a16 a20 a21 a24 a25 a26) H := hP
      have hD : va_D A (mw cI r (nI (pl + 1)) i3 i7 i8 i9 i13 i15 i17 i18 i19 i22 i23 (upd a1 pl x) a2 a4 a5 (cpN (upd a1 pl x) a6 5) a10 a11 a12 a14 a16 a20 a21 a24 a25 a26) := hD
      refine lv_aload_n hx hb dX6_place_43 rfl (lv_at hl 0 rfl) ?_
      refine va_get (D := D) (ci := 5) (v := .int (nI (pl + 1))) (C := RX6) (T := TX6) (N := 27) hx hb hts hin6 hown hK hP 0 rfl rfl 0 (by decide) fl60 (fun _ h9 => h9) rfl dX6_place_44 ?_
      refine lv_iconst (v := nI 1) hx hb dX6_place_47 (by decide) ?_
      refine wk_isub hx hb (by omega) dX6_place_48 ?_
      exact hret _ (pl + 1, (upd a1 pl x), (cpN (upd a1 pl x) a6 5)) _ _ _ _ _ _ rfl (by simp [placeM, c5, c14]) hP hD dX6_place_49 hS (Nat.zero_le _) (Nat.zero_le _)
    · skip
      refine lv_iconst (v := -1) hx hb dX6_place_17 (by decide) ?_
      exact hret _ (pl, a1, a6) _ _ _ _ _ _ rfl (by simp [placeM, c5, c14]) hP hD dX6_place_18 hS (Nat.zero_le _) (Nat.zero_le _)

set_option maxHeartbeats 4000000 in
set_option maxRecDepth 100000 in
theorem c_X6_transition (l : Launch) (D : va_G) (cI cJ cZ cA : ClassId) (r : Nat → Nat) (i0 i7 i8 i9 i13 i15 i17 i18 i19 i22 i23 : Int32) (a1 a2 a4 a5 a6 a10 a11 a12 a14 a16 a20 a21 a24 a25 a26 : Nat → Int32) (sz tr : Nat) (htr : tr ≤ 6) : Met l yX6_transition wsX6_transition ({ frames := 1, cells := 0, slots := 0, locals := 21 } : Room) (wr_P D (tysC cI cJ cZ cA) [.ref (r 0)] (mw cI r i0 (nI tr) i7 i8 i9 i13 i15 i17 i18 i19 i22 i23 a1 a2 a4 a5 a6 a10 a11 a12 a14 a16 a20 a21 a24 a25 a26) sz) (wr_Qi D (S := Nat × (Nat → Int32)) (mw cI r i0 (nI tr) i7 i8 i9 i13 i15 i17 i18 i19 i22 i23 a1 a2 a4 a5 a6 a10 a11 a12 a14 a16 a20 a21 a24 a25 a26) sz (fun r9 u => (r9, u) = transM tr a1 a6) (fun u => (mw cI r i0 (nI u.1) i7 i8 i9 i13 i15 i17 i18 i19 i22 i23 a1 a2 a4 a5 u.2 a10 a11 a12 a14 a16 a20 a21 a24 a25 a26))) 0 0 (va_A (mw cI r i0 (nI tr) i7 i8 i9 i13 i15 i17 i18 i19 i22 i23 a1 a2 a4 a5 a6 a10 a11 a12 a14 a16 a20 a21 a24 a25 a26) sz) := by
  refine met_wi (cc := cX6_transition) (maxL := 1) (ty := .int) (by decide) rfl (Nat.le_of_ble_eq_true rfl) ?_
  intro p e s m args below meth c Q A hx hb hml hown hts hP hK hD hA hret ls hl
  obtain ⟨H, hH9⟩ : ∃ H : Heap, H = s.heap := ⟨_, rfl⟩
  have hP : va_P D vwCl (mw cI r i0 (nI tr) i7 i8 i9 i13 i15 i17 i18 i19 i22 i23 a1 a2 a4 a5 a6 a10 a11 a12 a14 a16 a20 a21 a24 a25 a26) H := by rw [hH9]; exact hP
  have hS : va_S A s.heap H [] := by rw [hH9]; exact va_S.rf
  rw [← hH9]
  have hown : s.vm.findClass RX6 = some m.cls := hown
  have hin6 : ∀ w ∈ wsX60, w ∈ wsX6_transition := by decide +kernel
  have fl63 := hts (.fieldLink RX6 63 "CoverRoundsModel" "transitions" "I") (by decide +kernel)
  have hl : lv_has ls 1 [(0, .ref (r 0))] := hl
  refine lv_aload_n hx hb dX6_transition_0 rfl (lv_at hl 0 rfl) ?_
  refine va_get (D := D) (ci := 5) (v := .int (nI tr)) (C := RX6) (T := TX6) (N := 27) hx hb hts hin6 hown hK hP 0 rfl rfl 3 (by decide) fl63 (fun _ h9 => h9) rfl dX6_transition_1 ?_
  refine lv_bipush (v := nI 6) hx hb dX6_transition_4 (by decide) ?_
  refine wk_icmp_ne (tgt := 11) hx hb (by omega) (by omega) dX6_transition_6 (by decide) (fun c6 => ?_) (fun c6 => ?_)
  · skip
    refine lv_aload_n hx hb dX6_transition_11 rfl (lv_at hl 0 rfl) ?_
    refine lv_dup hx hb dX6_transition_12 rfl ?_
    refine va_get (D := D) (ci := 5) (v := .int (nI tr)) (C := RX6) (T := TX6) (N := 27) hx hb hts hin6 hown hK hP 0 rfl rfl 3 (by decide) fl63 (fun _ h9 => h9) rfl dX6_transition_13 ?_
    refine lv_iconst (v := nI 1) hx hb dX6_transition_16 (by decide) ?_
    refine wk_iadd hx hb dX6_transition_17 ?_
    refine va_put (D := D) (ci := 5) (v := .int (nI (tr + 1))) (ty := .int) (C := RX6) (T := TX6) (N := 27) hx hb hts hin6 tyX6 tyX6_ok nmX6 hown hK hP hD hS 0 rfl rfl 3 (by decide) fl63 (fun _ h9 => h9) rfl (by decide +kernel) rfl rfl (Nat.le_of_ble_eq_true rfl) dX6_transition_18 (fun H locs hP hD hS => ?_)
    have hP : va_P D vwCl (mw cI r i0 (nI (tr + 1)) i7 i8 i9 i13 i15 i17 i18 i19 i22 i23 a1 a2 a4 a5 a6 a10 a11 a12 a14 a16 a20 a21 a24 a25 a26) H := hP
    have hD : va_D A (mw cI r i0 (nI (tr + 1)) i7 i8 i9 i13 i15 i17 i18 i19 i22 i23 a1 a2 a4 a5 a6 a10 a11 a12 a14 a16 a20 a21 a24 a25 a26) := hD
    refine lv_aload_n hx hb dX6_transition_21 rfl (lv_at hl 0 rfl) ?_
    refine wk_VvW (As := []) (rest := []) (wr := []) ⟨hx, hb, hml, hown, hts⟩ (c_X6_begin l D cI cJ cZ cA r i0 (nI (tr + 1)) i7 i8 i9 i13 i15 i17 i18 i19 i22 i23 a1 a2 a4 a5 a6 a10 a11 a12 a14 a16 a20 a21 a24 a25 a26 H.size) (cwV 0 hts gX6_transition_X6_begin rfl rfl rfl (by decide +kernel) ⟨Nat.le_of_ble_eq_true rfl, Nat.le_of_ble_eq_true rfl⟩) hK hP hD hA [0, 1, 2, 3, 4, 5, 6, 7, 8, 9, 10, 11, 12, 13, 14, 15] rfl (by decide) [] rfl (by decide) (by decide) 0 5 rfl rfl hS rfl hl.1 rfl (Nat.le_of_ble_eq_true rfl) dX6_transition_22 ⟨Nat.le_of_ble_eq_true rfl, Nat.le_of_ble_eq_true rfl⟩ (fun u9 H locs hu hP hD hS => ?_)
    have hP : va_P D vwCl (mw cI r i0 (nI (tr + 1)) i7 i8 i9 i13 i15 i17 i18 i19 i22 i23 a1 a2 a4 a5 (cpN a1 a6 5) a10 a11 a12 a14 a16 a20 a21 a24 a25 a26) H := hP
    have hD : va_D A (mw cI r i0 (nI (tr + 1)) i7 i8 i9 i13 i15 i17 i18 i19 i22 i23 a1 a2 a4 a5 (cpN a1 a6 5) a10 a11 a12 a14 a16 a20 a21 a24 a25 a26) := hD
    refine lv_aload_n hx hb dX6_transition_25 rfl (lv_at hl 0 rfl) ?_
    refine va_get (D := D) (ci := 5) (v := .int (nI (tr + 1))) (C := RX6) (T := TX6) (N := 27) hx hb hts hin6 hown hK hP 0 rfl rfl 3 (by decide) fl63 (fun _ h9 => h9) rfl dX6_transition_26 ?_
    refine lv_iconst (v := nI 1) hx hb dX6_transition_29 (by decide) ?_
    refine wk_isub hx hb (by omega) dX6_transition_30 ?_
    exact hret _ (tr + 1, (cpN a1 a6 5)) _ _ _ _ _ _ rfl (by simp [transM, c6]) hP hD dX6_transition_31 hS (Nat.zero_le _) (Nat.zero_le _)
  · skip
    refine lv_iconst (v := -1) hx hb dX6_transition_9 (by decide) ?_
    exact hret _ (tr, a6) _ _ _ _ _ _ rfl (by simp [transM, c6]) hP hD dX6_transition_10 hS (Nat.zero_le _) (Nat.zero_le _)

set_option maxHeartbeats 4000000 in
set_option maxRecDepth 100000 in
theorem c_X6_arc (l : Launch) (D : va_G) (cI cJ cZ cA : ClassId) (r : Nat → Nat) (i7 i8 i9 i13 i15 i17 i18 i19 i22 i23 : Int32) (a1 a2 a4 a5 a6 a10 a11 a12 a14 a16 a20 a21 a24 a25 a26 : Nat → Int32) (sz pl tr : Nat) (x1 x2 x3 x4 : Int32) (hpl : pl ≤ 5) (htr : tr ≤ 6) : Met l yX6_arc wsX6_arc ({ frames := 1, cells := 0, slots := 0, locals := 21 } : Room) (wr_P D (tysC cI cJ cZ cA) [.ref (r 0), .int x1, .int x2, .int x3, .int x4] (mw cI r (nI pl) (nI tr) i7 i8 i9 i13 i15 i17 i18 i19 i22 i23 a1 a2 a4 a5 a6 a10 a11 a12 a14 a16 a20 a21 a24 a25 a26) sz) (wr_Qi D (S := (Nat → Int32) × (Nat → Int32) × (Nat → Int32)) (mw cI r (nI pl) (nI tr) i7 i8 i9 i13 i15 i17 i18 i19 i22 i23 a1 a2 a4 a5 a6 a10 a11 a12 a14 a16 a20 a21 a24 a25 a26) sz (fun r9 u => r9 = bI (arcM pl tr a1 a4 a5 a6 x1 x2 x3 x4).1 ∧ u = (arcM pl tr a1 a4 a5 a6 x1 x2 x3 x4).2) (fun u => (mw cI r (nI pl) (nI tr) i7 i8 i9 i13 i15 i17 i18 i19 i22 i23 a1 a2 u.1 u.2.1 u.2.2 a10 a11 a12 a14 a16 a20 a21 a24 a25 a26))) 0 0 (va_A (mw cI r (nI pl) (nI tr) i7 i8 i9 i13 i15 i17 i18 i19 i22 i23 a1 a2 a4 a5 a6 a10 a11 a12 a14 a16 a20 a21 a24 a25 a26) sz) := by
  refine met_wi (cc := cX6_arc) (maxL := 5) (ty := .boolean) (by decide) rfl (Nat.le_of_ble_eq_true rfl) ?_
  intro p e s m args below meth c Q A hx hb hml hown hts hP hK hD hA hret ls hl
  obtain ⟨H, hH9⟩ : ∃ H : Heap, H = s.heap := ⟨_, rfl⟩
  have hP : va_P D vwCl (mw cI r (nI pl) (nI tr) i7 i8 i9 i13 i15 i17 i18 i19 i22 i23 a1 a2 a4 a5 a6 a10 a11 a12 a14 a16 a20 a21 a24 a25 a26) H := by rw [hH9]; exact hP
  have hS : va_S A s.heap H [] := by rw [hH9]; exact va_S.rf
  rw [← hH9]
  have hown : s.vm.findClass RX6 = some m.cls := hown
  have hin6 : ∀ w ∈ wsX60, w ∈ wsX6_arc := by decide +kernel
  have fl16 := hts (.fieldLink RX6 16 "CoverRoundsModel" "takes" "[I") (by decide +kernel)
  have fl19 := hts (.fieldLink RX6 19 "CoverRoundsModel" "gives" "[I") (by decide +kernel)
  have hl : lv_has ls 5 [(0, .ref (r 0)), (1, .int x1), (2, .int x2), (3, .int x3), (4, .int x4)] := hl
  refine lv_aload_n hx hb dX6_arc_0 rfl (lv_at hl 0 rfl) ?_
  refine lv_iload_n hx hb dX6_arc_1 rfl (lv_at hl 1 rfl) ?_
  refine wk_Vi (As := [.int x1]) (rest := []) ⟨hx, hb, hml, hown, hts⟩ (c_X6_isTransition l D cI cJ cZ cA r (nI pl) (nI tr) i7 i8 i9 i13 i15 i17 i18 i19 i22 i23 a1 a2 a4 a5 a6 a10 a11 a12 a14 a16 a20 a21 a24 a25 a26 x1) (cwV 1 hts gX6_arc_X6_isTransition rfl rfl rfl (by decide +kernel) ⟨Nat.le_of_ble_eq_true rfl, Nat.le_of_ble_eq_true rfl⟩) hK hP [0, 1, 2, 3, 4, 5, 6, 7, 8, 9, 10, 11, 12, 13, 14, 15] rfl 0 5 rfl rfl hS rfl hl.1 rfl (Nat.le_of_ble_eq_true rfl) dX6_arc_2 ⟨Nat.zero_le _, Nat.zero_le _⟩ (fun H locs hP hS => ?_)
  refine wk_if_eqb (tgt := 33) hx hb dX6_arc_5 (by decide) (fun c5 => ?_) (fun c5 => ?_)
  · skip
    refine lv_iconst (v := nI 0) hx hb dX6_arc_33 (by decide) ?_
    exact hret _ (a4, a5, a6) _ _ _ _ _ _ rfl (⟨bI_F (by simp [arcM, c5]), by simp [arcM, c5]⟩) hP hD dX6_arc_34 hS (Nat.zero_le _) (Nat.zero_le _)
  · skip
    refine lv_aload_n hx hb dX6_arc_8 rfl (lv_at hl 0 rfl) ?_
    refine lv_iload_n hx hb dX6_arc_9 rfl (lv_at hl 2 rfl) ?_
    refine wk_Vi (As := [.int x2]) (rest := []) ⟨hx, hb, hml, hown, hts⟩ (c_X6_isPlace l D cI cJ cZ cA r (nI pl) (nI tr) i7 i8 i9 i13 i15 i17 i18 i19 i22 i23 a1 a2 a4 a5 a6 a10 a11 a12 a14 a16 a20 a21 a24 a25 a26 x2) (cwV 1 hts gX6_arc_X6_isPlace rfl rfl rfl (by decide +kernel) ⟨Nat.le_of_ble_eq_true rfl, Nat.le_of_ble_eq_true rfl⟩) hK hP [0, 1, 2, 3, 4, 5, 6, 7, 8, 9, 10, 11, 12, 13, 14, 15] rfl 0 5 rfl rfl hS rfl hl.1 rfl (Nat.le_of_ble_eq_true rfl) dX6_arc_10 ⟨Nat.zero_le _, Nat.zero_le _⟩ (fun H locs hP hS => ?_)
    refine wk_if_eqb (tgt := 33) hx hb dX6_arc_13 (by decide) (fun c13 => ?_) (fun c13 => ?_)
    · skip
      refine lv_iconst (v := nI 0) hx hb dX6_arc_33 (by decide) ?_
      exact hret _ (a4, a5, a6) _ _ _ _ _ _ rfl (⟨bI_F (by simp [arcM, c5, c13]), by simp [arcM, c5, c13]⟩) hP hD dX6_arc_34 hS (Nat.zero_le _) (Nat.zero_le _)
    · skip
      refine lv_iload_n hx hb dX6_arc_16 rfl (lv_at hl 3 rfl) ?_
      refine lv_iconst (v := nI 5) hx hb dX6_arc_17 (by decide) ?_
      refine wk_Si (As := [.int x3, .int (nI 5)]) (rest := []) ⟨hx, hb, hml, hown, hts⟩ (c_X6_isIn l D cI cJ cZ cA x3 (nI 5)) (va_cwS 2 hts gX6_arc_X6_isIn rfl rfl rfl (by decide +kernel) ⟨Nat.le_of_ble_eq_true rfl, Nat.le_of_ble_eq_true rfl⟩) hK hP [] rfl hS rfl hl.1 rfl (Nat.le_of_ble_eq_true rfl) dX6_arc_18 ⟨Nat.zero_le _, Nat.zero_le _⟩ (fun H locs hP hS => ?_)
      refine wk_if_eqb (tgt := 33) hx hb dX6_arc_21 (by decide) (fun c21 => ?_) (fun c21 => ?_)
      · skip
        refine lv_iconst (v := nI 0) hx hb dX6_arc_33 (by decide) ?_
        exact hret _ (a4, a5, a6) _ _ _ _ _ _ rfl (⟨bI_F (by simp [arcM, c5, c13, c21]), by simp [arcM, c5, c13, c21]⟩) hP hD dX6_arc_34 hS (Nat.zero_le _) (Nat.zero_le _)
      · skip
        refine lv_iload hx hb dX6_arc_24 (lv_at hl 4 rfl) ?_
        refine lv_iconst (v := nI 5) hx hb dX6_arc_26 (by decide) ?_
        refine wk_Si (As := [.int x4, .int (nI 5)]) (rest := []) ⟨hx, hb, hml, hown, hts⟩ (c_X6_isIn l D cI cJ cZ cA x4 (nI 5)) (va_cwS 2 hts gX6_arc_X6_isIn rfl rfl rfl (by decide +kernel) ⟨Nat.le_of_ble_eq_true rfl, Nat.le_of_ble_eq_true rfl⟩) hK hP [] rfl hS rfl hl.1 rfl (Nat.le_of_ble_eq_true rfl) dX6_arc_27 ⟨Nat.zero_le _, Nat.zero_le _⟩ (fun H locs hP hS => ?_)
        refine wk_if_neb (tgt := 35) hx hb dX6_arc_30 (by decide) (fun c30 => ?_) (fun c30 => ?_)
        · skip
          obtain ⟨j1, hj1, rfl⟩ := inB_nI (by omega) c5
          obtain ⟨j2, hj2, rfl⟩ := inB_nI (by omega) c13
          refine lv_aload_n hx hb dX6_arc_35 rfl (lv_at hl 0 rfl) ?_
          refine va_get (D := D) (ci := 5) (v := .ref (r 4)) (C := RX6) (T := TX6) (N := 27) hx hb hts hin6 hown hK hP 0 rfl rfl 4 (by decide) fl16 (fun _ h9 => h9) rfl dX6_arc_36 ?_
          refine lv_iconst (v := nI 5) hx hb dX6_arc_39 (by decide) ?_
          refine lv_iload_n hx hb dX6_arc_40 rfl (lv_at hl 1 rfl) ?_
          refine wk_imul hx hb dX6_arc_41 ?_
          refine lv_iload_n hx hb dX6_arc_42 rfl (lv_at hl 2 rfl) ?_
          refine wk_iadd hx hb dX6_arc_43 ?_
          refine lv_iload_n hx hb dX6_arc_44 rfl (lv_at hl 3 rfl) ?_
          refine wk_iast hx hb hK hP hD hS 3 0 rfl rfl (i := (5 * j1) + j2) (by omega) (by omega) dX6_arc_45 (fun H locs hP hD hS => ?_)
          have hP : va_P D vwCl (mw cI r (nI pl) (nI tr) i7 i8 i9 i13 i15 i17 i18 i19 i22 i23 a1 a2 (upd a4 ((5 * j1) + j2) x3) a5 a6 a10 a11 a12 a14 a16 a20 a21 a24 a25 a26) H := hP
          have hD : va_D A (mw cI r (nI pl) (nI tr) i7 i8 i9 i13 i15 i17 i18 i19 i22 i23 a1 a2 (upd a4 ((5 * j1) + j2) x3) a5 a6 a10 a11 a12 a14 a16 a20 a21 a24 a25 a26) := hD
          refine lv_aload_n hx hb dX6_arc_46 rfl (lv_at hl 0 rfl) ?_
          refine va_get (D := D) (ci := 5) (v := .ref (r 5)) (C := RX6) (T := TX6) (N := 27) hx hb hts hin6 hown hK hP 0 rfl rfl 5 (by decide) fl19 (fun _ h9 => h9) rfl dX6_arc_47 ?_
          refine lv_iconst (v := nI 5) hx hb dX6_arc_50 (by decide) ?_
          refine lv_iload_n hx hb dX6_arc_51 rfl (lv_at hl 1 rfl) ?_
          refine wk_imul hx hb dX6_arc_52 ?_
          refine lv_iload_n hx hb dX6_arc_53 rfl (lv_at hl 2 rfl) ?_
          refine wk_iadd hx hb dX6_arc_54 ?_
          refine lv_iload hx hb dX6_arc_55 (lv_at hl 4 rfl) ?_
          refine wk_iast hx hb hK hP hD hS 4 0 rfl rfl (i := (5 * j1) + j2) (by omega) (by omega) dX6_arc_57 (fun H locs hP hD hS => ?_)
          have hP : va_P D vwCl (mw cI r (nI pl) (nI tr) i7 i8 i9 i13 i15 i17 i18 i19 i22 i23 a1 a2 (upd a4 ((5 * j1) + j2) x3) (upd a5 ((5 * j1) + j2) x4) a6 a10 a11 a12 a14 a16 a20 a21 a24 a25 a26) H := hP
          have hD : va_D A (mw cI r (nI pl) (nI tr) i7 i8 i9 i13 i15 i17 i18 i19 i22 i23 a1 a2 (upd a4 ((5 * j1) + j2) x3) (upd a5 ((5 * j1) + j2) x4) a6 a10 a11 a12 a14 a16 a20 a21 a24 a25 a26) := hD
          refine lv_aload_n hx hb dX6_arc_58 rfl (lv_at hl 0 rfl) ?_
          refine wk_VvW (As := []) (rest := []) (wr := []) ⟨hx, hb, hml, hown, hts⟩ (c_X6_begin l D cI cJ cZ cA r (nI pl) (nI tr) i7 i8 i9 i13 i15 i17 i18 i19 i22 i23 a1 a2 (upd a4 ((5 * j1) + j2) x3) (upd a5 ((5 * j1) + j2) x4) a6 a10 a11 a12 a14 a16 a20 a21 a24 a25 a26 H.size) (cwV 0 hts gX6_arc_X6_begin rfl rfl rfl (by decide +kernel) ⟨Nat.le_of_ble_eq_true rfl, Nat.le_of_ble_eq_true rfl⟩) hK hP hD hA [0, 1, 2, 3, 4, 5, 6, 7, 8, 9, 10, 11, 12, 13, 14, 15] rfl (by decide) [] rfl (by decide) (by decide) 0 5 rfl rfl hS rfl hl.1 rfl (Nat.le_of_ble_eq_true rfl) dX6_arc_59 ⟨Nat.le_of_ble_eq_true rfl, Nat.le_of_ble_eq_true rfl⟩ (fun u9 H locs hu hP hD hS => ?_)
          have hP : va_P D vwCl (mw cI r (nI pl) (nI tr) i7 i8 i9 i13 i15 i17 i18 i19 i22 i23 a1 a2 (upd a4 ((5 * j1) + j2) x3) (upd a5 ((5 * j1) + j2) x4) (cpN a1 a6 5) a10 a11 a12 a14 a16 a20 a21 a24 a25 a26) H := hP
          have hD : va_D A (mw cI r (nI pl) (nI tr) i7 i8 i9 i13 i15 i17 i18 i19 i22 i23 a1 a2 (upd a4 ((5 * j1) + j2) x3) (upd a5 ((5 * j1) + j2) x4) (cpN a1 a6 5) a10 a11 a12 a14 a16 a20 a21 a24 a25 a26) := hD
          refine lv_iconst (v := nI 1) hx hb dX6_arc_62 (by decide) ?_
          exact hret _ ((upd a4 ((5 * j1) + j2) x3), (upd a5 ((5 * j1) + j2) x4), (cpN a1 a6 5)) _ _ _ _ _ _ rfl (⟨bI_T (by simp [arcM, c5, c13, c21, c30]), by simp [arcM, c5, c13, c21, c30, nI_clamp (show j1 < 2 ^ 31 by omega), nI_clamp (show j2 < 2 ^ 31 by omega)]⟩) hP hD dX6_arc_63 hS (Nat.zero_le _) (Nat.zero_le _)
        · skip
          refine lv_iconst (v := nI 0) hx hb dX6_arc_33 (by decide) ?_
          exact hret _ (a4, a5, a6) _ _ _ _ _ _ rfl (⟨bI_F (by simp [arcM, c5, c13, c21, c30]), by simp [arcM, c5, c13, c21, c30]⟩) hP hD dX6_arc_34 hS (Nat.zero_le _) (Nat.zero_le _)

set_option maxHeartbeats 4000000 in
set_option maxRecDepth 100000 in
theorem c_X6_target (l : Launch) (D : va_G) (cI cJ cZ cA : ClassId) (r : Nat → Nat) (i3 i7 i8 i9 i13 i15 i17 i18 i19 i22 i23 : Int32) (a1 a2 a4 a5 a6 a10 a11 a12 a14 a16 a20 a21 a24 a25 a26 : Nat → Int32) (sz pl : Nat) (x1 x2 : Int32) (hpl : pl ≤ 5) : Met l yX6_target wsX6_target ({ frames := 1, cells := 0, slots := 0, locals := 21 } : Room) (wr_P D (tysC cI cJ cZ cA) [.ref (r 0), .int x1, .int x2] (mw cI r (nI pl) i3 i7 i8 i9 i13 i15 i17 i18 i19 i22 i23 a1 a2 a4 a5 a6 a10 a11 a12 a14 a16 a20 a21 a24 a25 a26) sz) (wr_Qi D (S := Nat → Int32) (mw cI r (nI pl) i3 i7 i8 i9 i13 i15 i17 i18 i19 i22 i23 a1 a2 a4 a5 a6 a10 a11 a12 a14 a16 a20 a21 a24 a25 a26) sz (fun r9 u => r9 = bI (targetM pl a2 x1 x2).1 ∧ u = (targetM pl a2 x1 x2).2) (fun u => (mw cI r (nI pl) i3 i7 i8 i9 i13 i15 i17 i18 i19 i22 i23 a1 u a4 a5 a6 a10 a11 a12 a14 a16 a20 a21 a24 a25 a26))) 0 0 (va_A (mw cI r (nI pl) i3 i7 i8 i9 i13 i15 i17 i18 i19 i22 i23 a1 a2 a4 a5 a6 a10 a11 a12 a14 a16 a20 a21 a24 a25 a26) sz) := by
  refine met_wi (cc := cX6_target) (maxL := 3) (ty := .boolean) (by decide) rfl (Nat.le_of_ble_eq_true rfl) ?_
  intro p e s m args below meth c Q A hx hb hml hown hts hP hK hD hA hret ls hl
  obtain ⟨H, hH9⟩ : ∃ H : Heap, H = s.heap := ⟨_, rfl⟩
  have hP : va_P D vwCl (mw cI r (nI pl) i3 i7 i8 i9 i13 i15 i17 i18 i19 i22 i23 a1 a2 a4 a5 a6 a10 a11 a12 a14 a16 a20 a21 a24 a25 a26) H := by rw [hH9]; exact hP
  have hS : va_S A s.heap H [] := by rw [hH9]; exact va_S.rf
  rw [← hH9]
  have hown : s.vm.findClass RX6 = some m.cls := hown
  have hin6 : ∀ w ∈ wsX60, w ∈ wsX6_target := by decide +kernel
  have fl13 := hts (.fieldLink RX6 13 "CoverRoundsModel" "target" "[I") (by decide +kernel)
  have hl : lv_has ls 3 [(0, .ref (r 0)), (1, .int x1), (2, .int x2)] := hl
  refine lv_aload_n hx hb dX6_target_0 rfl (lv_at hl 0 rfl) ?_
  refine lv_iload_n hx hb dX6_target_1 rfl (lv_at hl 1 rfl) ?_
  refine wk_Vi (As := [.int x1]) (rest := []) ⟨hx, hb, hml, hown, hts⟩ (c_X6_isPlace l D cI cJ cZ cA r (nI pl) i3 i7 i8 i9 i13 i15 i17 i18 i19 i22 i23 a1 a2 a4 a5 a6 a10 a11 a12 a14 a16 a20 a21 a24 a25 a26 x1) (cwV 1 hts gX6_target_X6_isPlace rfl rfl rfl (by decide +kernel) ⟨Nat.le_of_ble_eq_true rfl, Nat.le_of_ble_eq_true rfl⟩) hK hP [0, 1, 2, 3, 4, 5, 6, 7, 8, 9, 10, 11, 12, 13, 14, 15] rfl 0 5 rfl rfl hS rfl hl.1 rfl (Nat.le_of_ble_eq_true rfl) dX6_target_2 ⟨Nat.zero_le _, Nat.zero_le _⟩ (fun H locs hP hS => ?_)
  refine wk_if_eqb (tgt := 17) hx hb dX6_target_5 (by decide) (fun c5 => ?_) (fun c5 => ?_)
  · skip
    refine lv_iconst (v := nI 0) hx hb dX6_target_17 (by decide) ?_
    exact hret _ a2 _ _ _ _ _ _ rfl (⟨bI_F (by simp [targetM, c5]), by simp [targetM, c5]⟩) hP hD dX6_target_18 hS (Nat.zero_le _) (Nat.zero_le _)
  · skip
    refine lv_iload_n hx hb dX6_target_8 rfl (lv_at hl 2 rfl) ?_
    refine lv_bipush (v := nI 20) hx hb dX6_target_9 (by decide) ?_
    refine wk_Si (As := [.int x2, .int (nI 20)]) (rest := []) ⟨hx, hb, hml, hown, hts⟩ (c_X6_isIn l D cI cJ cZ cA x2 (nI 20)) (va_cwS 2 hts gX6_target_X6_isIn rfl rfl rfl (by decide +kernel) ⟨Nat.le_of_ble_eq_true rfl, Nat.le_of_ble_eq_true rfl⟩) hK hP [] rfl hS rfl hl.1 rfl (Nat.le_of_ble_eq_true rfl) dX6_target_11 ⟨Nat.zero_le _, Nat.zero_le _⟩ (fun H locs hP hS => ?_)
    refine wk_if_neb (tgt := 19) hx hb dX6_target_14 (by decide) (fun c14 => ?_) (fun c14 => ?_)
    · skip
      obtain ⟨j1, hj1, rfl⟩ := inB_nI (by omega) c5
      refine lv_aload_n hx hb dX6_target_19 rfl (lv_at hl 0 rfl) ?_
      refine va_get (D := D) (ci := 5) (v := .ref (r 2)) (C := RX6) (T := TX6) (N := 27) hx hb hts hin6 hown hK hP 0 rfl rfl 2 (by decide) fl13 (fun _ h9 => h9) rfl dX6_target_20 ?_
      refine lv_iload_n hx hb dX6_target_23 rfl (lv_at hl 1 rfl) ?_
      refine lv_iload_n hx hb dX6_target_24 rfl (lv_at hl 2 rfl) ?_
      refine wk_iast hx hb hK hP hD hS 2 0 rfl rfl (i := j1) (by omega) (by omega) dX6_target_25 (fun H locs hP hD hS => ?_)
      have hP : va_P D vwCl (mw cI r (nI pl) i3 i7 i8 i9 i13 i15 i17 i18 i19 i22 i23 a1 (upd a2 j1 x2) a4 a5 a6 a10 a11 a12 a14 a16 a20 a21 a24 a25 a26) H := hP
      have hD : va_D A (mw cI r (nI pl) i3 i7 i8 i9 i13 i15 i17 i18 i19 i22 i23 a1 (upd a2 j1 x2) a4 a5 a6 a10 a11 a12 a14 a16 a20 a21 a24 a25 a26) := hD
      refine lv_iconst (v := nI 1) hx hb dX6_target_26 (by decide) ?_
      exact hret _ (upd a2 j1 x2) _ _ _ _ _ _ rfl (⟨bI_T (by simp [targetM, c5, c14]), by simp [targetM, c5, c14, nI_clamp (show j1 < 2 ^ 31 by omega)]⟩) hP hD dX6_target_27 hS (Nat.zero_le _) (Nat.zero_le _)
    · skip
      refine lv_iconst (v := nI 0) hx hb dX6_target_17 (by decide) ?_
      exact hret _ a2 _ _ _ _ _ _ rfl (⟨bI_F (by simp [targetM, c5, c14]), by simp [targetM, c5, c14]⟩) hP hD dX6_target_18 hS (Nat.zero_le _) (Nat.zero_le _)

set_option maxHeartbeats 4000000 in
set_option maxRecDepth 100000 in
theorem c_X6_canFire (l : Launch) (D : va_G) (cI cJ cZ cA : ClassId) (r : Nat → Nat) (i0 i7 i8 i9 i13 i15 i17 i18 i19 i22 i23 : Int32) (a1 a2 a4 a5 a6 a10 a11 a12 a14 a16 a20 a21 a24 a25 a26 : Nat → Int32) (tr ma ml y : Nat) (mf : Nat → Int32) (x : Int32) (htr : tr ≤ 6) (hml9 : ml < 2 ^ 31) (hy : y + 5 ≤ ml) : Met l yX6_canFire wsX6_canFire ({ frames := 1, cells := 0, slots := 0, locals := 25 } : Room) (ro_P D (tysC cI cJ cZ cA) [.ref (r 0), .ref ma, .int (nI y), .int x] ((mw cI r i0 (nI tr) i7 i8 i9 i13 i15 i17 i18 i19 i22 i23 a1 a2 a4 a5 a6 a10 a11 a12 a14 a16 a20 a21 a24 a25 a26) ++ [(ma, .inl (cI, ml, .inl mf))])) (ro_Q (bI (canM tr a4 mf y x))) 0 0 (fun _ => False) := by
  refine met_ro (cc := cX6_canFire) (maxL := 4) (ty := .boolean) (by decide) rfl (Nat.le_of_ble_eq_true rfl) (bI_n _) ?_
  intro p e s m args below meth c Q hx hb hml hown hts hP hK hret ls hl
  obtain ⟨H, hH9⟩ : ∃ H : Heap, H = s.heap := ⟨_, rfl⟩
  have hP : va_P D vwCl ((mw cI r i0 (nI tr) i7 i8 i9 i13 i15 i17 i18 i19 i22 i23 a1 a2 a4 a5 a6 a10 a11 a12 a14 a16 a20 a21 a24 a25 a26) ++ [(ma, .inl (cI, ml, .inl mf))]) H := by rw [hH9]; exact hP
  have hS : va_S (fun _ => False) s.heap H [] := by rw [hH9]; exact va_S.rf
  rw [← hH9]
  have hown : s.vm.findClass RX6 = some m.cls := hown
  have hin6 : ∀ w ∈ wsX60, w ∈ wsX6_canFire := by decide +kernel
  have fl16 := hts (.fieldLink RX6 16 "CoverRoundsModel" "takes" "[I") (by decide +kernel)
  have hl : lv_has ls 4 [(0, .ref (r 0)), (1, .ref ma), (2, .int (nI y)), (3, .int x)] := hl
  refine lv_aload_n hx hb dX6_canFire_0 rfl (lv_at hl 0 rfl) ?_
  refine lv_iload_n hx hb dX6_canFire_1 rfl (lv_at hl 3 rfl) ?_
  refine wk_Vi (As := [.int x]) (rest := []) ⟨hx, hb, hml, hown, hts⟩ (c_X6_isTransition l D cI cJ cZ cA r i0 (nI tr) i7 i8 i9 i13 i15 i17 i18 i19 i22 i23 a1 a2 a4 a5 a6 a10 a11 a12 a14 a16 a20 a21 a24 a25 a26 x) (cwV 1 hts gX6_canFire_X6_isTransition rfl rfl rfl (by decide +kernel) ⟨Nat.le_of_ble_eq_true rfl, Nat.le_of_ble_eq_true rfl⟩) hK hP [0, 1, 2, 3, 4, 5, 6, 7, 8, 9, 10, 11, 12, 13, 14, 15] rfl 0 5 rfl rfl hS rfl hl.1 rfl (Nat.le_of_ble_eq_true rfl) dX6_canFire_2 ⟨Nat.zero_le _, Nat.zero_le _⟩ (fun H locs hP hS => ?_)
  refine wk_if_eqb (tgt := 27) hx hb dX6_canFire_5 (by decide) (fun c5 => ?_) (fun c5 => ?_)
  · skip
    refine lv_iconst (v := nI 0) hx hb dX6_canFire_27 (by decide) ?_
    exact hret _ _ _ _ _ (bI_F (by simp [canM, c5])) dX6_canFire_28 hS
  · skip
    obtain ⟨j, hj, rfl⟩ := inB_nI (by omega) c5
    have hcl : (nI j).toNatClampNeg = j := nI_clamp (by omega)
    refine lv_aload_n hx hb dX6_canFire_8 rfl (lv_at hl 1 rfl) ?_
    refine lv_iload_n hx hb dX6_canFire_9 rfl (lv_at hl 2 rfl) ?_
    refine lv_aload_n hx hb dX6_canFire_10 rfl (lv_at hl 0 rfl) ?_
    refine va_get (D := D) (ci := 5) (v := .ref (r 4)) (C := RX6) (T := TX6) (N := 27) hx hb hts hin6 hown hK hP 0 rfl rfl 4 (by decide) fl16 (fun _ h9 => h9) rfl dX6_canFire_11 ?_
    refine lv_iconst (v := nI 5) hx hb dX6_canFire_14 (by decide) ?_
    refine lv_iload_n hx hb dX6_canFire_15 rfl (lv_at hl 3 rfl) ?_
    refine wk_imul hx hb dX6_canFire_16 ?_
    refine wk_Si (As := [.ref ma, .int (nI y), .ref (r 4), .int (nI (5 * j))]) (rest := []) ⟨hx, hb, hml, hown, hts⟩ (c_X6_tops l D cI cJ cZ cA ma (r 4) ml 30 y (5 * j) mf a4 (by omega) (by omega) (by omega) (by omega)) (va_cwS 4 hts gX6_canFire_X6_tops rfl rfl rfl (by decide +kernel) ⟨Nat.le_of_ble_eq_true rfl, Nat.le_of_ble_eq_true rfl⟩) hK hP [16, 3] rfl hS rfl hl.1 rfl (Nat.le_of_ble_eq_true rfl) dX6_canFire_17 ⟨Nat.zero_le _, Nat.zero_le _⟩ (fun H locs hP hS => ?_)
    refine wk_if_eqb (tgt := 27) hx hb dX6_canFire_20 (by decide) (fun c20 => ?_) (fun c20 => ?_)
    · skip
      refine lv_iconst (v := nI 0) hx hb dX6_canFire_27 (by decide) ?_
      exact hret _ _ _ _ _ (bI_F (by simp [canM, c5, c20, hcl])) dX6_canFire_28 hS
    · skip
      refine lv_iconst (v := nI 1) hx hb dX6_canFire_23 (by decide) ?_
      refine lv_goto (tgt := 28) hx hb dX6_canFire_24 (by decide) ?_
      exact hret _ _ _ _ _ (bI_T (by simp [canM, c5, c20, hcl])) dX6_canFire_28 hS

set_option maxHeartbeats 4000000 in
set_option maxRecDepth 100000 in
theorem c_X6_fire (l : Launch) (D : va_G) (cI cJ cZ cA : ClassId) (r : Nat → Nat) (i0 i7 i8 i9 i13 i15 i17 i18 i19 i22 i23 : Int32) (a1 a2 a4 a5 a6 a10 a11 a12 a14 a16 a20 a21 a24 a25 a26 : Nat → Int32) (sz tr : Nat) (x : Int32) (htr : tr ≤ 6) : Met l yX6_fire wsX6_fire ({ frames := 2, cells := 0, slots := 0, locals := 48 } : Room) (wr_P D (tysC cI cJ cZ cA) [.ref (r 0), .int x] (mw cI r i0 (nI tr) i7 i8 i9 i13 i15 i17 i18 i19 i22 i23 a1 a2 a4 a5 a6 a10 a11 a12 a14 a16 a20 a21 a24 a25 a26) sz) (wr_Qi D (S := Nat → Int32) (mw cI r i0 (nI tr) i7 i8 i9 i13 i15 i17 i18 i19 i22 i23 a1 a2 a4 a5 a6 a10 a11 a12 a14 a16 a20 a21 a24 a25 a26) sz (fun r9 u => r9 = bI (fireM tr a4 a5 a6 x).1 ∧ u = (fireM tr a4 a5 a6 x).2) (fun u => (mw cI r i0 (nI tr) i7 i8 i9 i13 i15 i17 i18 i19 i22 i23 a1 a2 a4 a5 u a10 a11 a12 a14 a16 a20 a21 a24 a25 a26))) 0 0 (va_A (mw cI r i0 (nI tr) i7 i8 i9 i13 i15 i17 i18 i19 i22 i23 a1 a2 a4 a5 a6 a10 a11 a12 a14 a16 a20 a21 a24 a25 a26) sz) := by
  refine met_wi (cc := cX6_fire) (maxL := 3) (ty := .boolean) (by decide) rfl (Nat.le_of_ble_eq_true rfl) ?_
  intro p e s m args below meth c Q A hx hb hml hown hts hP hK hD hA hret ls hl
  obtain ⟨H, hH9⟩ : ∃ H : Heap, H = s.heap := ⟨_, rfl⟩
  have hP : va_P D vwCl (mw cI r i0 (nI tr) i7 i8 i9 i13 i15 i17 i18 i19 i22 i23 a1 a2 a4 a5 a6 a10 a11 a12 a14 a16 a20 a21 a24 a25 a26) H := by rw [hH9]; exact hP
  have hS : va_S A s.heap H [] := by rw [hH9]; exact va_S.rf
  rw [← hH9]
  have hown : s.vm.findClass RX6 = some m.cls := hown
  have hin6 : ∀ w ∈ wsX60, w ∈ wsX6_fire := by decide +kernel
  have fl22 := hts (.fieldLink RX6 22 "CoverRoundsModel" "now" "[I") (by decide +kernel)
  have fl19 := hts (.fieldLink RX6 19 "CoverRoundsModel" "gives" "[I") (by decide +kernel)
  have fl16 := hts (.fieldLink RX6 16 "CoverRoundsModel" "takes" "[I") (by decide +kernel)
  have hl : lv_has ls 3 [(0, .ref (r 0)), (1, .int x)] := hl
  refine lv_aload_n hx hb dX6_fire_0 rfl (lv_at hl 0 rfl) ?_
  refine lv_aload_n hx hb dX6_fire_1 rfl (lv_at hl 0 rfl) ?_
  refine va_get (D := D) (ci := 5) (v := .ref (r 6)) (C := RX6) (T := TX6) (N := 27) hx hb hts hin6 hown hK hP 0 rfl rfl 6 (by decide) fl22 (fun _ h9 => h9) rfl dX6_fire_2 ?_
  refine lv_iconst (v := nI 0) hx hb dX6_fire_5 (by decide) ?_
  refine lv_iload_n hx hb dX6_fire_6 rfl (lv_at hl 1 rfl) ?_
  refine wk_Vi (As := [.ref (r 6), .int (nI 0), .int x]) (rest := []) ⟨hx, hb, hml, hown, hts⟩ (c_X6_canFire l D cI cJ cZ cA r i0 i7 i8 i9 i13 i15 i17 i18 i19 i22 i23 a1 a2 a4 a5 a6 a10 a11 a12 a14 a16 a20 a21 a24 a25 a26 tr (r 6) 5 0 a6 x (by omega) (by omega) (by omega)) (cwV 3 hts gX6_fire_X6_canFire rfl rfl rfl (by decide +kernel) ⟨Nat.le_of_ble_eq_true rfl, Nat.le_of_ble_eq_true rfl⟩) hK hP [0, 1, 2, 3, 4, 5, 6, 7, 8, 9, 10, 11, 12, 13, 14, 15, 5] rfl 0 5 rfl rfl hS rfl hl.1 rfl (Nat.le_of_ble_eq_true rfl) dX6_fire_7 ⟨Nat.zero_le _, Nat.zero_le _⟩ (fun H locs hP hS => ?_)
  refine wk_if_neb (tgt := 15) hx hb dX6_fire_10 (by decide) (fun c10 => ?_) (fun c10 => ?_)
  · skip
    have hc9 := c10
    unfold canM at hc9
    rw [Bool.and_eq_true] at hc9
    obtain ⟨j, hj, rfl⟩ := inB_nI (by omega) hc9.1
    have hcl : (nI j).toNatClampNeg = j := nI_clamp (by omega)
    refine lv_iconst (v := nI 0) hx hb dX6_fire_15 (by decide) ?_
    refine lv_istore_n (lv' := [(2, .int (nI 0)), (0, .ref (r 0)), (1, .int (nI j))]) hx hb dX6_fire_16 rfl hl (by decide) rfl (fun ls hl => ?_)
    have lp17 : ∀ (n9 : Nat) (k : Nat), 5 - k < n9 → k ≤ 5 → ∀ (H : Heap) (locs : List Loc) (ls : Array Slot), va_P D vwCl (mw cI r i0 (nI tr) i7 i8 i9 i13 i15 i17 i18 i19 i22 i23 a1 a2 a4 a5 (cpN (fiM a4 a5 a6 j) a6 k) a10 a11 a12 a14 a16 a20 a21 a24 a25 a26) H → va_D A (mw cI r i0 (nI tr) i7 i8 i9 i13 i15 i17 i18 i19 i22 i23 a1 a2 a4 a5 (cpN (fiM a4 a5 a6 j) a6 k) a10 a11 a12 a14 a16 a20 a21 a24 a25 a26) → va_S A s.heap H locs → lv_has ls 3 [(0, .ref (r 0)), (1, .int (nI j)), (2, .int (nI k))] → W p l e ({ frames := 2, cells := 0, slots := 0, locals := 48 } : Room) s m args below meth c H locs 0 0 Q (F0 m 17 ls []) := by
      intro n9
      induction n9 with
      | zero => intro k hm17; exact absurd hm17 (Nat.not_lt_zero _)
      | succ n9 ih17 =>
        intro k hm17 hk H locs ls hP hD hS hl
        refine lv_iload_n hx hb dX6_fire_17 rfl (lv_at hl 2 rfl) ?_
        refine lv_iconst (v := nI 5) hx hb dX6_fire_18 (by decide) ?_
        refine wk_icmp_ge (tgt := 58) hx hb (by omega) (by omega) dX6_fire_19 (by decide) (fun c19 => ?_) (fun c19 => ?_)
        · skip
          refine lv_iconst (v := nI 1) hx hb dX6_fire_58 (by decide) ?_
          have hk5 : k = 5 := by omega
          subst hk5
          exact hret _ _ _ _ _ _ _ _ rfl ⟨bI_T (by simp [fireM, c10]), by simp [fireM, c10, hcl]⟩ hP hD dX6_fire_59 hS (Nat.zero_le _) (Nat.zero_le _)
        · skip
          refine lv_aload_n hx hb dX6_fire_22 rfl (lv_at hl 0 rfl) ?_
          refine va_get (D := D) (ci := 5) (v := .ref (r 6)) (C := RX6) (T := TX6) (N := 27) hx hb hts hin6 hown hK hP 0 rfl rfl 6 (by decide) fl22 (fun _ h9 => h9) rfl dX6_fire_23 ?_
          refine lv_iload_n hx hb dX6_fire_26 rfl (lv_at hl 2 rfl) ?_
          refine lv_dup2_11 hx hb dX6_fire_27 rfl rfl ?_
          refine wk_iald hx hb hK hP 5 0 rfl rfl (i := k) (by omega) (by omega) dX6_fire_28 ?_
          rw [show ((cpN (fiM a4 a5 a6 j) a6 k) k) = (a6 k) from cpN_ge (Nat.le_refl _)]
          refine lv_aload_n hx hb dX6_fire_29 rfl (lv_at hl 0 rfl) ?_
          refine va_get (D := D) (ci := 5) (v := .ref (r 5)) (C := RX6) (T := TX6) (N := 27) hx hb hts hin6 hown hK hP 0 rfl rfl 5 (by decide) fl19 (fun _ h9 => h9) rfl dX6_fire_30 ?_
          refine lv_iconst (v := nI 5) hx hb dX6_fire_33 (by decide) ?_
          refine lv_iload_n hx hb dX6_fire_34 rfl (lv_at hl 1 rfl) ?_
          refine wk_imul hx hb dX6_fire_35 ?_
          refine lv_iload_n hx hb dX6_fire_36 rfl (lv_at hl 2 rfl) ?_
          refine wk_iadd hx hb dX6_fire_37 ?_
          refine wk_iald hx hb hK hP 4 0 rfl rfl (i := (5 * j) + k) (by omega) (by omega) dX6_fire_38 ?_
          refine lv_aload_n hx hb dX6_fire_39 rfl (lv_at hl 0 rfl) ?_
          refine va_get (D := D) (ci := 5) (v := .ref (r 4)) (C := RX6) (T := TX6) (N := 27) hx hb hts hin6 hown hK hP 0 rfl rfl 4 (by decide) fl16 (fun _ h9 => h9) rfl dX6_fire_40 ?_
          refine lv_iconst (v := nI 5) hx hb dX6_fire_43 (by decide) ?_
          refine lv_iload_n hx hb dX6_fire_44 rfl (lv_at hl 1 rfl) ?_
          refine wk_imul hx hb dX6_fire_45 ?_
          refine lv_iload_n hx hb dX6_fire_46 rfl (lv_at hl 2 rfl) ?_
          refine wk_iadd hx hb dX6_fire_47 ?_
          refine wk_iald hx hb hK hP 3 0 rfl rfl (i := (5 * j) + k) (by omega) (by omega) dX6_fire_48 ?_
          refine lv_isub hx hb dX6_fire_49 ?_
          refine lv_iadd hx hb dX6_fire_50 ?_
          refine wk_iast hx hb hK hP hD hS 5 0 rfl rfl (i := k) (by omega) (by omega) dX6_fire_51 (fun H locs hP hD hS => ?_)
          have hP : va_P D vwCl (mw cI r i0 (nI tr) i7 i8 i9 i13 i15 i17 i18 i19 i22 i23 a1 a2 a4 a5 (upd (cpN (fiM a4 a5 a6 j) a6 k) k ((a6 k) + ((a5 ((5 * j) + k)) - (a4 ((5 * j) + k))))) a10 a11 a12 a14 a16 a20 a21 a24 a25 a26) H := hP
          have hD : va_D A (mw cI r i0 (nI tr) i7 i8 i9 i13 i15 i17 i18 i19 i22 i23 a1 a2 a4 a5 (upd (cpN (fiM a4 a5 a6 j) a6 k) k ((a6 k) + ((a5 ((5 * j) + k)) - (a4 ((5 * j) + k))))) a10 a11 a12 a14 a16 a20 a21 a24 a25 a26) := hD
          refine lv_iinc (v := (nI (k + 1))) (lv' := [(2, .int (nI (k + 1))), (0, .ref (r 0)), (1, .int (nI j))]) hx hb dX6_fire_52 hl (k := 2) rfl (by exact nI_1 _) (by decide) rfl (fun ls hl => ?_)
          refine lv_goto (tgt := 17) hx hb dX6_fire_55 (by decide) ?_
          have hP : va_P D vwCl (mw cI r i0 (nI tr) i7 i8 i9 i13 i15 i17 i18 i19 i22 i23 a1 a2 a4 a5 (cpN (fiM a4 a5 a6 j) a6 (k + 1)) a10 a11 a12 a14 a16 a20 a21 a24 a25 a26) H := by rw [← cpN_s]; exact hP
          have hD : va_D A (mw cI r i0 (nI tr) i7 i8 i9 i13 i15 i17 i18 i19 i22 i23 a1 a2 a4 a5 (cpN (fiM a4 a5 a6 j) a6 (k + 1)) a10 a11 a12 a14 a16 a20 a21 a24 a25 a26) := by rw [← cpN_s]; exact hD
          exact ih17 (k + 1) (by omega) (by omega) _ _ _ hP hD hS (lv_sub hl [1, 2, 0] rfl)
    have hP : va_P D vwCl (mw cI r i0 (nI tr) i7 i8 i9 i13 i15 i17 i18 i19 i22 i23 a1 a2 a4 a5 (cpN (fiM a4 a5 a6 j) a6 0) a10 a11 a12 a14 a16 a20 a21 a24 a25 a26) H := by rw [cpN_0]; exact hP
    have hD : va_D A (mw cI r i0 (nI tr) i7 i8 i9 i13 i15 i17 i18 i19 i22 i23 a1 a2 a4 a5 (cpN (fiM a4 a5 a6 j) a6 0) a10 a11 a12 a14 a16 a20 a21 a24 a25 a26) := by rw [cpN_0]; exact hD
    exact lp17 _ 0 (Nat.lt_succ_self _) (by omega) _ _ _ hP hD hS (lv_sub hl [1, 2, 0] rfl)
  · skip
    refine lv_iconst (v := nI 0) hx hb dX6_fire_13 (by decide) ?_
    exact hret _ a6 _ _ _ _ _ _ rfl ⟨bI_F (by simp [fireM, c10]), by simp [fireM, c10]⟩ hP hD dX6_fire_14 hS (Nat.zero_le _) (Nat.zero_le _)

set_option maxHeartbeats 4000000 in
set_option maxRecDepth 100000 in
theorem c_X6_tokens (l : Launch) (D : va_G) (cI cJ cZ cA : ClassId) (r : Nat → Nat) (i3 i7 i8 i9 i13 i15 i17 i18 i19 i22 i23 : Int32) (a1 a2 a4 a5 a6 a10 a11 a12 a14 a16 a20 a21 a24 a25 a26 : Nat → Int32) (pl : Nat) (x : Int32) (hpl : pl ≤ 5) : Met l yX6_tokens wsX6_tokens ({ frames := 1, cells := 0, slots := 0, locals := 21 } : Room) (ro_P D (tysC cI cJ cZ cA) [.ref (r 0), .int x] (mw cI r (nI pl) i3 i7 i8 i9 i13 i15 i17 i18 i19 i22 i23 a1 a2 a4 a5 a6 a10 a11 a12 a14 a16 a20 a21 a24 a25 a26)) (ro_Q (if inB x (nI pl) then a6 x.toNatClampNeg else -1)) 0 0 (fun _ => False) := by
  refine met_ro (cc := cX6_tokens) (maxL := 2) (ty := .int) (by decide) rfl (Nat.le_of_ble_eq_true rfl) rfl ?_
  intro p e s m args below meth c Q hx hb hml hown hts hP hK hret ls hl
  obtain ⟨H, hH9⟩ : ∃ H : Heap, H = s.heap := ⟨_, rfl⟩
  have hP : va_P D vwCl (mw cI r (nI pl) i3 i7 i8 i9 i13 i15 i17 i18 i19 i22 i23 a1 a2 a4 a5 a6 a10 a11 a12 a14 a16 a20 a21 a24 a25 a26) H := by rw [hH9]; exact hP
  have hS : va_S (fun _ => False) s.heap H [] := by rw [hH9]; exact va_S.rf
  rw [← hH9]
  have hown : s.vm.findClass RX6 = some m.cls := hown
  have hin6 : ∀ w ∈ wsX60, w ∈ wsX6_tokens := by decide +kernel
  have fl22 := hts (.fieldLink RX6 22 "CoverRoundsModel" "now" "[I") (by decide +kernel)
  have hl : lv_has ls 2 [(0, .ref (r 0)), (1, .int x)] := hl
  refine lv_aload_n hx hb dX6_tokens_0 rfl (lv_at hl 0 rfl) ?_
  refine lv_iload_n hx hb dX6_tokens_1 rfl (lv_at hl 1 rfl) ?_
  refine wk_Vi (As := [.int x]) (rest := []) ⟨hx, hb, hml, hown, hts⟩ (c_X6_isPlace l D cI cJ cZ cA r (nI pl) i3 i7 i8 i9 i13 i15 i17 i18 i19 i22 i23 a1 a2 a4 a5 a6 a10 a11 a12 a14 a16 a20 a21 a24 a25 a26 x) (cwV 1 hts gX6_tokens_X6_isPlace rfl rfl rfl (by decide +kernel) ⟨Nat.le_of_ble_eq_true rfl, Nat.le_of_ble_eq_true rfl⟩) hK hP [0, 1, 2, 3, 4, 5, 6, 7, 8, 9, 10, 11, 12, 13, 14, 15] rfl 0 5 rfl rfl hS rfl hl.1 rfl (Nat.le_of_ble_eq_true rfl) dX6_tokens_2 ⟨Nat.zero_le _, Nat.zero_le _⟩ (fun H locs hP hS => ?_)
  refine wk_if_eqb (tgt := 17) hx hb dX6_tokens_5 (by decide) (fun c5 => ?_) (fun c5 => ?_)
  · skip
    refine lv_iconst (v := -1) hx hb dX6_tokens_17 (by decide) ?_
    exact hret _ _ _ _ _ (by simp [c5]) dX6_tokens_18 hS
  · skip
    obtain ⟨j, hj, rfl⟩ := inB_nI (by omega) c5
    have hcl : (nI j).toNatClampNeg = j := nI_clamp (by omega)
    refine lv_aload_n hx hb dX6_tokens_8 rfl (lv_at hl 0 rfl) ?_
    refine va_get (D := D) (ci := 5) (v := .ref (r 6)) (C := RX6) (T := TX6) (N := 27) hx hb hts hin6 hown hK hP 0 rfl rfl 6 (by decide) fl22 (fun _ h9 => h9) rfl dX6_tokens_9 ?_
    refine lv_iload_n hx hb dX6_tokens_12 rfl (lv_at hl 1 rfl) ?_
    refine wk_iald hx hb hK hP 5 0 rfl rfl (i := j) (by omega) (by omega) dX6_tokens_13 ?_
    refine lv_goto (tgt := 18) hx hb dX6_tokens_14 (by decide) ?_
    exact hret _ _ _ _ _ (by simp [c5, hcl]) dX6_tokens_18 hS
end
section
/-! ROWS OF FIVE in an array of numbers, as a list -/
abbrev Rw : Type := Nat → Int32
def tp5 (f g : Rw) : Bool := (List.range 5).all (fun q => decide (¬ f q < g q))
theorem tp5_iff {f g : Rw} : tp5 f g = true ↔ ∀ q, q < 5 → ¬ f q < g q := by
  unfold tp5
  rw [List.all_eq_true]
  exact ⟨fun h q hq => of_decide_eq_true (h q (List.mem_range.mpr hq)), fun h q hq => decide_eq_true (h q (List.mem_range.mp hq))⟩
theorem tpB_row {f g : Nat → Int32} {x y : Nat} {u v : Rw} (h1 : ∀ q, q < 5 → f (x + q) = u q) (h2 : ∀ q, q < 5 → g (y + q) = v q) : tpB f x g y = tp5 u v := by
  refine bb_eq tpB_iff ?_
  rw [tp5_iff]
  exact ⟨fun h q hq => by rw [h1 q hq, h2 q hq]; exact h q hq, fun h q hq => by have := h q hq; rw [h1 q hq, h2 q hq] at this; exact this⟩
def rowsV (f : Nat → Int32) (off : Nat) (X : List Rw) : Prop := ∀ k x, X[k]? = some x → ∀ q, q < 5 → f (off + 5 * k + q) = x q
def tkIn (X : List Rw) (w : Rw) : List Rw := if X.any (fun x => tp5 w x) then X else X.filter (fun x => !(tp5 x w)) ++ [w]
/-- five places moved from b to a, the first q of them -/
def mvN (f : Nat → Int32) (a b q : Nat) : Nat → Int32 := fun z => if a ≤ z ∧ z < a + q then f (b + (z - a)) else f z
def wrN (f w : Nat → Int32) (a q : Nat) : Nat → Int32 := fun z => if a ≤ z ∧ z < a + q then w (z - a) else f z
theorem mvN_0 (f : Nat → Int32) (a b : Nat) : mvN f a b 0 = f := funext fun z => if_neg (by omega)
theorem wrN_0 (f w : Nat → Int32) (a : Nat) : wrN f w a 0 = f := funext fun z => if_neg (by omega)
theorem mvN_src {f : Nat → Int32} {a b q : Nat} (h : a ≤ b) : mvN f a b q (b + q) = f (b + q) := if_neg (by omega)
theorem mvN_s (f : Nat → Int32) (a b q : Nat) : upd (mvN f a b q) (a + q) (f (b + q)) = mvN f a b (q + 1) := by
  funext z
  unfold upd mvN
  by_cases h1 : z = a + q
  · subst h1; rw [if_pos rfl, if_pos (by omega), show a + q - a = q by omega]
  · by_cases h2 : a ≤ z ∧ z < a + q
    · rw [if_neg h1, if_pos h2, if_pos (by omega)]
    · rw [if_neg h1, if_neg h2, if_neg (by omega)]
theorem wrN_s (f w : Nat → Int32) (a q : Nat) : upd (wrN f w a q) (a + q) (w q) = wrN f w a (q + 1) := by
  funext z
  unfold upd wrN
  by_cases h1 : z = a + q
  · subst h1; rw [if_pos rfl, if_pos (by omega), show a + q - a = q by omega]
  · by_cases h2 : a ≤ z ∧ z < a + q
    · rw [if_neg h1, if_pos h2, if_pos (by omega)]
    · rw [if_neg h1, if_neg h2, if_neg (by omega)]
def ti2 (f : Nat → Int32) (X : List Rw) (w : Rw) (k td : Nat) : Prop := td = ((X.take k).filter (fun x => !(tp5 x w))).length ∧ rowsV f 0 ((X.take k).filter (fun x => !(tp5 x w))) ∧ ∀ j x, k ≤ j → X[j]? = some x → ∀ q, q < 5 → f (5 * j + q) = x q
theorem ti2_0 {f : Nat → Int32} {X : List Rw} {w : Rw} (h : rowsV f 0 X) : ti2 f X w 0 0 := by
  refine ⟨by simp, fun k x hx => by simp at hx, fun j x _ hx q hq => ?_⟩
  have := h j x hx q hq
  rw [Nat.zero_add] at this
  exact this
theorem ti2_le {f : Nat → Int32} {X : List Rw} {w : Rw} {k td : Nat} (h : ti2 f X w k td) : td ≤ k := by
  rw [h.1]
  exact Nat.le_trans (List.length_filter_le _ _) (by rw [List.length_take]; exact Nat.min_le_left _ _)
theorem take_s {α : Type} {X : List α} {k : Nat} {x : α} (hx : X[k]? = some x) : X.take (k + 1) = X.take k ++ [x] := by
  rw [List.take_add_one, hx]; rfl
theorem ti2_skip {f : Nat → Int32} {X : List Rw} {w x : Rw} {k td : Nat} (h : ti2 f X w k td) (hx : X[k]? = some x) (ht : tp5 x w = true) : ti2 f X w (k + 1) td := by
  obtain ⟨h1, h2, h3⟩ := h
  have e : (X.take (k + 1)).filter (fun x => !(tp5 x w)) = (X.take k).filter (fun x => !(tp5 x w)) := by
    rw [take_s hx, List.filter_append]
    simp [ht]
  refine ⟨by rw [e]; exact h1, by rw [e]; exact h2, fun j y hj => h3 j y (by omega)⟩
theorem ti2_keep {f : Nat → Int32} {X : List Rw} {w x : Rw} {k td : Nat} (h : ti2 f X w k td) (hx : X[k]? = some x) (ht : tp5 x w = false) : ti2 (mvN f (5 * td) (5 * k) 5) X w (k + 1) (td + 1) := by
  have hle := ti2_le h
  obtain ⟨h1, h2, h3⟩ := h
  have e : (X.take (k + 1)).filter (fun x => !(tp5 x w)) = (X.take k).filter (fun x => !(tp5 x w)) ++ [x] := by
    rw [take_s hx, List.filter_append]
    simp [ht]
  refine ⟨by rw [e, List.length_append, ← h1]; rfl, ?_, fun j y hj hy q hq => ?_⟩
  · rw [e]
    intro j y hy q hq
    rw [Nat.zero_add]
    by_cases hj : j < td
    · rw [List.getElem?_append_left (by omega)] at hy
      have := h2 j y hy q hq
      rw [Nat.zero_add] at this
      rw [← this]
      exact if_neg (by omega)
    · rw [List.getElem?_append_right (by omega)] at hy
      have h0 : j - ((X.take k).filter (fun x => !(tp5 x w))).length < 1 := (List.getElem?_eq_some_iff.mp hy).1
      have hjt : j = td := by omega
      rw [show j - ((X.take k).filter (fun x => !(tp5 x w))).length = 0 by omega] at hy
      cases hy
      rw [← h3 k x (Nat.le_refl k) hx q hq]
      unfold mvN
      rw [if_pos (by omega)]
      congr 1
      omega
  · rw [← h3 j y (by omega) hy q hq]
    exact if_neg (by omega)
theorem ti2_end {f : Nat → Int32} {X : List Rw} {w v : Rw} {td : Nat} (h : ti2 f X w X.length td) (hv : ∀ q, q < 5 → v q = w q) (hn : ∀ q x, q < X.length → X[q]? = some x → tp5 w x = false) : rowsV (wrN f v (5 * td) 5) 0 (tkIn X w) ∧ td + 1 = (tkIn X w).length := by
  obtain ⟨h1, h2, -⟩ := h
  rw [List.take_length] at h1 h2
  have e : tkIn X w = X.filter (fun x => !(tp5 x w)) ++ [w] := by
    unfold tkIn
    rw [if_neg]
    intro ha
    obtain ⟨x, hx, hx2⟩ := List.any_eq_true.mp ha
    obtain ⟨q, hq⟩ := List.mem_iff_getElem?.mp hx
    rw [hn q x (List.getElem?_eq_some_iff.mp hq).1 hq] at hx2
    cases hx2
  rw [e]
  refine ⟨?_, by rw [List.length_append, ← h1]; rfl⟩
  intro j y hy q hq
  rw [Nat.zero_add]
  by_cases hj : j < td
  · rw [List.getElem?_append_left (by omega)] at hy
    have := h2 j y hy q hq
    rw [Nat.zero_add] at this
    rw [← this]
    exact if_neg (by omega)
  · rw [List.getElem?_append_right (by omega)] at hy
    have h0 : j - (X.filter (fun x => !(tp5 x w))).length < 1 := (List.getElem?_eq_some_iff.mp hy).1
    rw [show j - (X.filter (fun x => !(tp5 x w))).length = 0 by omega] at hy
    cases hy
    unfold wrN
    rw [if_pos (by omega), show 5 * j + q - 5 * td = q by omega]
    exact hv q hq
theorem tkIn_hit {X : List Rw} {w x : Rw} {k : Nat} (hx : X[k]? = some x) (ht : tp5 w x = true) : tkIn X w = X := if_pos (List.any_eq_true.mpr ⟨x, List.mem_of_getElem? hx, ht⟩)
theorem tkIn_len (X : List Rw) (w : Rw) : (tkIn X w).length ≤ X.length + 1 := by
  unfold tkIn
  split
  · omega
  · rw [List.length_append]
    have := List.length_filter_le (fun x => !(tp5 x w)) X
    simp
    exact this
theorem rowsV_at {f : Nat → Int32} {off : Nat} {X : List Rw} (h : rowsV f off X) {k : Nat} (hk : k < X.length) : ∃ x, X[k]? = some x ∧ ∀ q, q < 5 → f (off + 5 * k + q) = x q :=
  ⟨X[k], List.getElem?_eq_getElem hk, h k _ (List.getElem?_eq_getElem hk)⟩
theorem rowsV_at0 {f : Nat → Int32} {X : List Rw} (h : rowsV f 0 X) {k : Nat} (hk : k < X.length) : ∃ x, X[k]? = some x ∧ ∀ q, q < 5 → f (5 * k + q) = x q := by
  obtain ⟨x, h1, h2⟩ := rowsV_at h hk
  exact ⟨x, h1, fun q hq => by have := h2 q hq; rw [Nat.zero_add] at this; exact this⟩
theorem any_rows {f g : Nat → Int32} {off : Nat} {X : List Rw} {v : Rw} (h : rowsV g off X) (hv : ∀ q, q < 5 → f (0 + q) = v q) : X.any (fun x => tp5 v x) = true ↔ ∃ q, q < X.length ∧ tpB f 0 g (off + 5 * q) = true := by
  rw [List.any_eq_true]
  constructor
  · rintro ⟨x, hx, ht⟩
    obtain ⟨k, hk⟩ := List.mem_iff_getElem?.mp hx
    refine ⟨k, (List.getElem?_eq_some_iff.mp hk).1, ?_⟩
    rw [tpB_row hv (h k x hk)]
    exact ht
  · rintro ⟨k, hk, ht⟩
    obtain ⟨x, h1, h2⟩ := rowsV_at h hk
    rw [tpB_row hv h2] at ht
    exact ⟨x, List.mem_of_getElem? h1, ht⟩
end
section
set_option maxHeartbeats 4000000 in
set_option maxRecDepth 100000 in
theorem c_X6_takeIn (l : Launch) (D : va_G) (cI cJ cZ cA : ClassId) (r : Nat → Nat) (i0 i3 i7 i8 i9 i15 i17 i18 i19 i22 i23 : Int32) (a1 a2 a4 a5 a6 a10 a11 a12 a14 a16 a20 a21 a24 a25 a26 : Nat → Int32) (sz : Nat) (X : List Rw) (w : Rw) (hX : rowsV a12 0 X) (hXl : X.length ≤ 1450) (hw : ∀ q, q < 5 → a25 q = w q) : Met l yX6_takeIn wsX6_takeIn ({ frames := 1, cells := 0, slots := 0, locals := 25 } : Room) (wr_P D (tysC cI cJ cZ cA) [.ref (r 0)] (mw cI r i0 i3 i7 i8 i9 (nI X.length) i15 i17 i18 i19 i22 i23 a1 a2 a4 a5 a6 a10 a11 a12 a14 a16 a20 a21 a24 a25 a26) sz) (wr_Qv D (S := Nat → Int32) (mw cI r i0 i3 i7 i8 i9 (nI X.length) i15 i17 i18 i19 i22 i23 a1 a2 a4 a5 a6 a10 a11 a12 a14 a16 a20 a21 a24 a25 a26) sz (fun u => rowsV u 0 (tkIn X w)) (fun u => (mw cI r i0 i3 i7 i8 i9 (nI ((tkIn X w).length)) i15 i17 i18 i19 i22 i23 a1 a2 a4 a5 a6 a10 a11 u a14 a16 a20 a21 a24 a25 a26))) 0 0 (va_A (mw cI r i0 i3 i7 i8 i9 (nI X.length) i15 i17 i18 i19 i22 i23 a1 a2 a4 a5 a6 a10 a11 a12 a14 a16 a20 a21 a24 a25 a26) sz) := by
  refine met_wv (cc := cX6_takeIn) (maxL := 4) (by decide) rfl (Nat.le_of_ble_eq_true rfl) ?_
  intro p e s m args below meth c Q A hx hb hml hown hts hP hK hD hA hret ls hl
  obtain ⟨H, hH9⟩ : ∃ H : Heap, H = s.heap := ⟨_, rfl⟩
  have hP : va_P D vwCl (mw cI r i0 i3 i7 i8 i9 (nI X.length) i15 i17 i18 i19 i22 i23 a1 a2 a4 a5 a6 a10 a11 a12 a14 a16 a20 a21 a24 a25 a26) H := by rw [hH9]; exact hP
  have hS : va_S A s.heap H [] := by rw [hH9]; exact va_S.rf
  rw [← hH9]
  have hown : s.vm.findClass RX6 = some m.cls := hown
  have hin6 : ∀ w ∈ wsX60, w ∈ wsX6_takeIn := by decide +kernel
  have fl80 := hts (.fieldLink RX6 80 "CoverRoundsModel" "roundCount" "I") (by decide +kernel)
  have fl54 := hts (.fieldLink RX6 54 "CoverRoundsModel" "work" "[I") (by decide +kernel)
  have fl36 := hts (.fieldLink RX6 36 "CoverRoundsModel" "round" "[I") (by decide +kernel)
  have hl : lv_has ls 4 [(0, .ref (r 0))] := hl
  refine lv_iconst (v := nI 0) hx hb dX6_takeIn_0 (by decide) ?_
  refine lv_istore_n (lv' := [(1, .int (nI 0)), (0, .ref (r 0))]) hx hb dX6_takeIn_1 rfl hl (by decide) rfl (fun ls hl => ?_)
  have lp2 : ∀ (n9 : Nat) (k : Nat), X.length - k < n9 → k ≤ X.length → (∀ q x, q < k → X[q]? = some x → tp5 w x = false) → ∀ (H : Heap) (locs : List Loc) (ls : Array Slot), va_P D vwCl (mw cI r i0 i3 i7 i8 i9 (nI X.length) i15 i17 i18 i19 i22 i23 a1 a2 a4 a5 a6 a10 a11 a12 a14 a16 a20 a21 a24 a25 a26) H → va_D A (mw cI r i0 i3 i7 i8 i9 (nI X.length) i15 i17 i18 i19 i22 i23 a1 a2 a4 a5 a6 a10 a11 a12 a14 a16 a20 a21 a24 a25 a26) → va_S A s.heap H locs → lv_has ls 4 [(0, .ref (r 0)), (1, .int (nI k))] → W p l e ({ frames := 1, cells := 0, slots := 0, locals := 25 } : Room) s m args below meth c H locs 0 0 Q (F0 m 2 ls []) := by
    intro n9
    induction n9 with
    | zero => intro k hm2; exact absurd hm2 (Nat.not_lt_zero _)
    | succ n9 ih2 =>
      intro k hm2 hk hn H locs ls hP hD hS hl
      refine lv_iload_n hx hb dX6_takeIn_2 rfl (lv_at hl 1 rfl) ?_
      refine lv_aload_n hx hb dX6_takeIn_3 rfl (lv_at hl 0 rfl) ?_
      refine va_get (D := D) (ci := 5) (v := .int (nI X.length)) (C := RX6) (T := TX6) (N := 27) hx hb hts hin6 hown hK hP 0 rfl rfl 13 (by decide) fl80 (fun _ h9 => h9) rfl dX6_takeIn_4 ?_
      refine wk_icmp_ge (tgt := 35) hx hb (by omega) (by omega) dX6_takeIn_7 (by decide) (fun c7 => ?_) (fun c7 => ?_)
      · skip
        have hkX : k = X.length := by omega
        subst hkX
        refine lv_iconst (v := nI 0) hx hb dX6_takeIn_35 (by decide) ?_
        refine lv_istore_n (lv' := [(1, .int (nI 0)), (0, .ref (r 0))]) hx hb dX6_takeIn_36 rfl hl (by decide) rfl (fun ls hl => ?_)
        refine lv_iconst (v := nI 0) hx hb dX6_takeIn_37 (by decide) ?_
        refine lv_istore_n (lv' := [(2, .int (nI 0)), (1, .int (nI 0)), (0, .ref (r 0))]) hx hb dX6_takeIn_38 rfl hl (by decide) rfl (fun ls hl => ?_)
        have lp39 : ∀ (n9 : Nat) (k : Nat) (td : Nat) (f : Nat → Int32), X.length - k < n9 → k ≤ X.length → ti2 f X w k td → ∀ (H : Heap) (locs : List Loc) (ls : Array Slot), va_P D vwCl (mw cI r i0 i3 i7 i8 i9 (nI X.length) i15 i17 i18 i19 i22 i23 a1 a2 a4 a5 a6 a10 a11 f a14 a16 a20 a21 a24 a25 a26) H → va_D A (mw cI r i0 i3 i7 i8 i9 (nI X.length) i15 i17 i18 i19 i22 i23 a1 a2 a4 a5 a6 a10 a11 f a14 a16 a20 a21 a24 a25 a26) → va_S A s.heap H locs → lv_has ls 4 [(0, .ref (r 0)), (1, .int (nI td)), (2, .int (nI k))] → W p l e ({ frames := 1, cells := 0, slots := 0, locals := 25 } : Room) s m args below meth c H locs 0 0 Q (F0 m 39 ls []) := by
          intro n9
          induction n9 with
          | zero => intro k td f hm39; exact absurd hm39 (Nat.not_lt_zero _)
          | succ n9 ih39 =>
            intro k td f hm39 hk ht H locs ls hP hD hS hl
            refine lv_iload_n hx hb dX6_takeIn_39 rfl (lv_at hl 2 rfl) ?_
            refine lv_aload_n hx hb dX6_takeIn_40 rfl (lv_at hl 0 rfl) ?_
            refine va_get (D := D) (ci := 5) (v := .int (nI X.length)) (C := RX6) (T := TX6) (N := 27) hx hb hts hin6 hown hK hP 0 rfl rfl 13 (by decide) fl80 (fun _ h9 => h9) rfl dX6_takeIn_41 ?_
            refine wk_icmp_ge (tgt := 107) hx hb (by omega) (by omega) dX6_takeIn_44 (by decide) (fun c44 => ?_) (fun c44 => ?_)
            · skip
              have hle := ti2_le ht
              refine lv_iconst (v := nI 0) hx hb dX6_takeIn_107 (by decide) ?_
              refine lv_istore_n (lv' := [(2, .int (nI 0)), (0, .ref (r 0)), (1, .int (nI td))]) hx hb dX6_takeIn_108 rfl hl (by decide) rfl (fun ls hl => ?_)
              have lp109 : ∀ (n9 : Nat) (q : Nat), 5 - q < n9 → q ≤ 5 → ∀ (H : Heap) (locs : List Loc) (ls : Array Slot), va_P D vwCl (mw cI r i0 i3 i7 i8 i9 (nI X.length) i15 i17 i18 i19 i22 i23 a1 a2 a4 a5 a6 a10 a11 (wrN f a25 (5 * td) q) a14 a16 a20 a21 a24 a25 a26) H → va_D A (mw cI r i0 i3 i7 i8 i9 (nI X.length) i15 i17 i18 i19 i22 i23 a1 a2 a4 a5 a6 a10 a11 (wrN f a25 (5 * td) q) a14 a16 a20 a21 a24 a25 a26) → va_S A s.heap H locs → lv_has ls 4 [(0, .ref (r 0)), (1, .int (nI td)), (2, .int (nI q))] → W p l e ({ frames := 1, cells := 0, slots := 0, locals := 25 } : Room) s m args below meth c H locs 0 0 Q (F0 m 109 ls []) := by
                intro n9
                induction n9 with
                | zero => intro q hm109; exact absurd hm109 (Nat.not_lt_zero _)
                | succ n9 ih109 =>
                  intro q hm109 hq H locs ls hP hD hS hl
                  refine lv_iload_n hx hb dX6_takeIn_109 rfl (lv_at hl 2 rfl) ?_
                  refine lv_iconst (v := nI 5) hx hb dX6_takeIn_110 (by decide) ?_
                  refine wk_icmp_ge (tgt := 136) hx hb (by omega) (by omega) dX6_takeIn_111 (by decide) (fun c111 => ?_) (fun c111 => ?_)
                  · skip
                    refine lv_aload_n hx hb dX6_takeIn_136 rfl (lv_at hl 0 rfl) ?_
                    refine lv_iload_n hx hb dX6_takeIn_137 rfl (lv_at hl 1 rfl) ?_
                    refine lv_iconst (v := nI 1) hx hb dX6_takeIn_138 (by decide) ?_
                    refine wk_iadd hx hb dX6_takeIn_139 ?_
                    refine va_put (D := D) (ci := 5) (v := .int (nI (td + 1))) (ty := .int) (C := RX6) (T := TX6) (N := 27) hx hb hts hin6 tyX6 tyX6_ok nmX6 hown hK hP hD hS 0 rfl rfl 13 (by decide) fl80 (fun _ h9 => h9) rfl (by decide +kernel) rfl rfl (Nat.le_of_ble_eq_true rfl) dX6_takeIn_140 (fun H locs hP hD hS => ?_)
                    have hP : va_P D vwCl (mw cI r i0 i3 i7 i8 i9 (nI (td + 1)) i15 i17 i18 i19 i22 i23 a1 a2 a4 a5 a6 a10 a11 (wrN f a25 (5 * td) q) a14 a16 a20 a21 a24 a25 a26) H := hP
                    have hD : va_D A (mw cI r i0 i3 i7 i8 i9 (nI (td + 1)) i15 i17 i18 i19 i22 i23 a1 a2 a4 a5 a6 a10 a11 (wrN f a25 (5 * td) q) a14 a16 a20 a21 a24 a25 a26) := hD
                    have hq5 : q = 5 := by omega
                    subst hq5
                    have hkX : k = X.length := by omega
                    subst hkX
                    obtain ⟨e8, e9⟩ := ti2_end ht hw hn
                    exact hret _ _ _ _ _ _ _ e8 (by rw [← e9]; exact hP) (by rw [← e9]; exact hD) dX6_takeIn_143 hS (Nat.zero_le _) (Nat.zero_le _)
                  · skip
                    refine lv_aload_n hx hb dX6_takeIn_114 rfl (lv_at hl 0 rfl) ?_
                    refine va_get (D := D) (ci := 5) (v := .ref (r 12)) (C := RX6) (T := TX6) (N := 27) hx hb hts hin6 hown hK hP 0 rfl rfl 12 (by decide) fl36 (fun _ h9 => h9) rfl dX6_takeIn_115 ?_
                    refine lv_iconst (v := nI 5) hx hb dX6_takeIn_118 (by decide) ?_
                    refine lv_iload_n hx hb dX6_takeIn_119 rfl (lv_at hl 1 rfl) ?_
                    refine wk_imul hx hb dX6_takeIn_120 ?_
                    refine lv_iload_n hx hb dX6_takeIn_121 rfl (lv_at hl 2 rfl) ?_
                    refine wk_iadd hx hb dX6_takeIn_122 ?_
                    refine lv_aload_n hx hb dX6_takeIn_123 rfl (lv_at hl 0 rfl) ?_
                    refine va_get (D := D) (ci := 5) (v := .ref (r 25)) (C := RX6) (T := TX6) (N := 27) hx hb hts hin6 hown hK hP 0 rfl rfl 25 (by decide) fl54 (fun _ h9 => h9) rfl dX6_takeIn_124 ?_
                    refine lv_iload_n hx hb dX6_takeIn_127 rfl (lv_at hl 2 rfl) ?_
                    refine wk_iald hx hb hK hP 14 0 rfl rfl (i := q) (by omega) (by omega) dX6_takeIn_128 ?_
                    refine wk_iast hx hb hK hP hD hS 8 0 rfl rfl (i := (5 * td) + q) (by omega) (by omega) dX6_takeIn_129 (fun H locs hP hD hS => ?_)
                    have hP : va_P D vwCl (mw cI r i0 i3 i7 i8 i9 (nI X.length) i15 i17 i18 i19 i22 i23 a1 a2 a4 a5 a6 a10 a11 (upd (wrN f a25 (5 * td) q) ((5 * td) + q) (a25 q)) a14 a16 a20 a21 a24 a25 a26) H := hP
                    have hD : va_D A (mw cI r i0 i3 i7 i8 i9 (nI X.length) i15 i17 i18 i19 i22 i23 a1 a2 a4 a5 a6 a10 a11 (upd (wrN f a25 (5 * td) q) ((5 * td) + q) (a25 q)) a14 a16 a20 a21 a24 a25 a26) := hD
                    refine lv_iinc (v := (nI (q + 1))) (lv' := [(2, .int (nI (q + 1))), (0, .ref (r 0)), (1, .int (nI td))]) hx hb dX6_takeIn_130 hl (k := 2) rfl (by exact nI_1 _) (by decide) rfl (fun ls hl => ?_)
                    refine lv_goto (tgt := 109) hx hb dX6_takeIn_133 (by decide) ?_
                    have hP : va_P D vwCl (mw cI r i0 i3 i7 i8 i9 (nI X.length) i15 i17 i18 i19 i22 i23 a1 a2 a4 a5 a6 a10 a11 (wrN f a25 (5 * td) (q + 1)) a14 a16 a20 a21 a24 a25 a26) H := by rw [← wrN_s]; exact hP
                    have hD : va_D A (mw cI r i0 i3 i7 i8 i9 (nI X.length) i15 i17 i18 i19 i22 i23 a1 a2 a4 a5 a6 a10 a11 (wrN f a25 (5 * td) (q + 1)) a14 a16 a20 a21 a24 a25 a26) := by rw [← wrN_s]; exact hD
                    exact ih109 (q + 1) (by omega) (by omega) _ _ _ hP hD hS (lv_sub hl [1, 2, 0] rfl)
              have hP : va_P D vwCl (mw cI r i0 i3 i7 i8 i9 (nI X.length) i15 i17 i18 i19 i22 i23 a1 a2 a4 a5 a6 a10 a11 (wrN f a25 (5 * td) 0) a14 a16 a20 a21 a24 a25 a26) H := by rw [wrN_0]; exact hP
              have hD : va_D A (mw cI r i0 i3 i7 i8 i9 (nI X.length) i15 i17 i18 i19 i22 i23 a1 a2 a4 a5 a6 a10 a11 (wrN f a25 (5 * td) 0) a14 a16 a20 a21 a24 a25 a26) := by rw [wrN_0]; exact hD
              exact lp109 _ 0 (Nat.lt_succ_self _) (by omega) _ _ _ hP hD hS (lv_sub hl [1, 2, 0] rfl)
            · skip
              obtain ⟨x, hx9⟩ : ∃ x, X[k]? = some x := ⟨X[k], List.getElem?_eq_getElem (by omega)⟩
              have hle := ti2_le ht
              have hxr := ht.2.2 k x (Nat.le_refl k) hx9
              refine lv_aload_n hx hb dX6_takeIn_47 rfl (lv_at hl 0 rfl) ?_
              refine va_get (D := D) (ci := 5) (v := .ref (r 12)) (C := RX6) (T := TX6) (N := 27) hx hb hts hin6 hown hK hP 0 rfl rfl 12 (by decide) fl36 (fun _ h9 => h9) rfl dX6_takeIn_48 ?_
              refine lv_iconst (v := nI 5) hx hb dX6_takeIn_51 (by decide) ?_
              refine lv_iload_n hx hb dX6_takeIn_52 rfl (lv_at hl 2 rfl) ?_
              refine wk_imul hx hb dX6_takeIn_53 ?_
              refine lv_aload_n hx hb dX6_takeIn_54 rfl (lv_at hl 0 rfl) ?_
              refine va_get (D := D) (ci := 5) (v := .ref (r 25)) (C := RX6) (T := TX6) (N := 27) hx hb hts hin6 hown hK hP 0 rfl rfl 25 (by decide) fl54 (fun _ h9 => h9) rfl dX6_takeIn_55 ?_
              refine lv_iconst (v := nI 0) hx hb dX6_takeIn_58 (by decide) ?_
              refine wk_Si (As := [.ref (r 12), .int (nI (5 * k)), .ref (r 25), .int (nI 0)]) (rest := []) ⟨hx, hb, hml, hown, hts⟩ (c_X6_tops l D cI cJ cZ cA (r 12) (r 25) 7500 5 (5 * k) 0 f a25 (by omega) (by omega) (by omega) (by omega)) (va_cwS 4 hts gX6_takeIn_X6_tops rfl rfl rfl (by decide +kernel) ⟨Nat.le_of_ble_eq_true rfl, Nat.le_of_ble_eq_true rfl⟩) hK hP [8, 14] rfl hS rfl hl.1 rfl (Nat.le_of_ble_eq_true rfl) dX6_takeIn_59 ⟨Nat.zero_le _, Nat.zero_le _⟩ (fun H locs hP hS => ?_)
              refine wk_if_neb (tgt := 101) hx hb dX6_takeIn_62 (by decide) (fun c62 => ?_) (fun c62 => ?_)
              · skip
                refine lv_iinc (v := (nI (k + 1))) (lv' := [(2, .int (nI (k + 1))), (0, .ref (r 0)), (1, .int (nI td))]) hx hb dX6_takeIn_101 hl (k := 2) rfl (by exact nI_1 _) (by decide) rfl (fun ls hl => ?_)
                refine lv_goto (tgt := 39) hx hb dX6_takeIn_104 (by decide) ?_
                exact ih39 (k + 1) td f (by omega) (by omega) (ti2_skip ht hx9 ((tpB_row hxr (fun q hq => by rw [Nat.zero_add]; exact hw q hq)).symm.trans c62)) _ _ _ hP hD hS (lv_sub hl [1, 2, 0] rfl)
              · skip
                refine lv_iconst (v := nI 0) hx hb dX6_takeIn_65 (by decide) ?_
                refine lv_istore_n (lv' := [(3, .int (nI 0)), (0, .ref (r 0)), (1, .int (nI td)), (2, .int (nI k))]) hx hb dX6_takeIn_66 rfl hl (by decide) rfl (fun ls hl => ?_)
                have lp67 : ∀ (n9 : Nat) (q : Nat), 5 - q < n9 → q ≤ 5 → ∀ (H : Heap) (locs : List Loc) (ls : Array Slot), va_P D vwCl (mw cI r i0 i3 i7 i8 i9 (nI X.length) i15 i17 i18 i19 i22 i23 a1 a2 a4 a5 a6 a10 a11 (mvN f (5 * td) (5 * k) q) a14 a16 a20 a21 a24 a25 a26) H → va_D A (mw cI r i0 i3 i7 i8 i9 (nI X.length) i15 i17 i18 i19 i22 i23 a1 a2 a4 a5 a6 a10 a11 (mvN f (5 * td) (5 * k) q) a14 a16 a20 a21 a24 a25 a26) → va_S A s.heap H locs → lv_has ls 4 [(0, .ref (r 0)), (1, .int (nI td)), (2, .int (nI k)), (3, .int (nI q))] → W p l e ({ frames := 1, cells := 0, slots := 0, locals := 25 } : Room) s m args below meth c H locs 0 0 Q (F0 m 67 ls []) := by
                  intro n9
                  induction n9 with
                  | zero => intro q hm67; exact absurd hm67 (Nat.not_lt_zero _)
                  | succ n9 ih67 =>
                    intro q hm67 hq H locs ls hP hD hS hl
                    refine lv_iload_n hx hb dX6_takeIn_67 rfl (lv_at hl 3 rfl) ?_
                    refine lv_iconst (v := nI 5) hx hb dX6_takeIn_68 (by decide) ?_
                    refine wk_icmp_ge (tgt := 98) hx hb (by omega) (by omega) dX6_takeIn_69 (by decide) (fun c69 => ?_) (fun c69 => ?_)
                    · skip
                      refine lv_iinc (v := (nI (td + 1))) (lv' := [(1, .int (nI (td + 1))), (0, .ref (r 0)), (2, .int (nI k)), (3, .int (nI q))]) hx hb dX6_takeIn_98 hl (k := 1) rfl (by exact nI_1 _) (by decide) rfl (fun ls hl => ?_)
                      refine lv_iinc (v := (nI (k + 1))) (lv' := [(2, .int (nI (k + 1))), (1, .int (nI (td + 1))), (0, .ref (r 0)), (3, .int (nI q))]) hx hb dX6_takeIn_101 hl (k := 2) rfl (by exact nI_1 _) (by decide) rfl (fun ls hl => ?_)
                      refine lv_goto (tgt := 39) hx hb dX6_takeIn_104 (by decide) ?_
                      have hq5 : q = 5 := by omega
                      subst hq5
                      exact ih39 (k + 1) (td + 1) (mvN f (5 * td) (5 * k) 5) (by omega) (by omega) (ti2_keep ht hx9 ((tpB_row hxr (fun q hq => by rw [Nat.zero_add]; exact hw q hq)).symm.trans c62)) _ _ _ hP hD hS (lv_sub hl [2, 1, 0] rfl)
                    · skip
                      refine lv_aload_n hx hb dX6_takeIn_72 rfl (lv_at hl 0 rfl) ?_
                      refine va_get (D := D) (ci := 5) (v := .ref (r 12)) (C := RX6) (T := TX6) (N := 27) hx hb hts hin6 hown hK hP 0 rfl rfl 12 (by decide) fl36 (fun _ h9 => h9) rfl dX6_takeIn_73 ?_
                      refine lv_iconst (v := nI 5) hx hb dX6_takeIn_76 (by decide) ?_
                      refine lv_iload_n hx hb dX6_takeIn_77 rfl (lv_at hl 1 rfl) ?_
                      refine wk_imul hx hb dX6_takeIn_78 ?_
                      refine lv_iload_n hx hb dX6_takeIn_79 rfl (lv_at hl 3 rfl) ?_
                      refine wk_iadd hx hb dX6_takeIn_80 ?_
                      refine lv_aload_n hx hb dX6_takeIn_81 rfl (lv_at hl 0 rfl) ?_
                      refine va_get (D := D) (ci := 5) (v := .ref (r 12)) (C := RX6) (T := TX6) (N := 27) hx hb hts hin6 hown hK hP 0 rfl rfl 12 (by decide) fl36 (fun _ h9 => h9) rfl dX6_takeIn_82 ?_
                      refine lv_iconst (v := nI 5) hx hb dX6_takeIn_85 (by decide) ?_
                      refine lv_iload_n hx hb dX6_takeIn_86 rfl (lv_at hl 2 rfl) ?_
                      refine wk_imul hx hb dX6_takeIn_87 ?_
                      refine lv_iload_n hx hb dX6_takeIn_88 rfl (lv_at hl 3 rfl) ?_
                      refine wk_iadd hx hb dX6_takeIn_89 ?_
                      refine wk_iald hx hb hK hP 8 0 rfl rfl (i := (5 * k) + q) (by omega) (by omega) dX6_takeIn_90 ?_
                      rw [show ((mvN f (5 * td) (5 * k) q) ((5 * k) + q)) = (f (5 * k + q)) from mvN_src (by omega)]
                      refine wk_iast hx hb hK hP hD hS 8 0 rfl rfl (i := (5 * td) + q) (by omega) (by omega) dX6_takeIn_91 (fun H locs hP hD hS => ?_)
                      have hP : va_P D vwCl (mw cI r i0 i3 i7 i8 i9 (nI X.length) i15 i17 i18 i19 i22 i23 a1 a2 a4 a5 a6 a10 a11 (upd (mvN f (5 * td) (5 * k) q) ((5 * td) + q) (f (5 * k + q))) a14 a16 a20 a21 a24 a25 a26) H := hP
                      have hD : va_D A (mw cI r i0 i3 i7 i8 i9 (nI X.length) i15 i17 i18 i19 i22 i23 a1 a2 a4 a5 a6 a10 a11 (upd (mvN f (5 * td) (5 * k) q) ((5 * td) + q) (f (5 * k + q))) a14 a16 a20 a21 a24 a25 a26) := hD
                      refine lv_iinc (v := (nI (q + 1))) (lv' := [(3, .int (nI (q + 1))), (0, .ref (r 0)), (1, .int (nI td)), (2, .int (nI k))]) hx hb dX6_takeIn_92 hl (k := 3) rfl (by exact nI_1 _) (by decide) rfl (fun ls hl => ?_)
                      refine lv_goto (tgt := 67) hx hb dX6_takeIn_95 (by decide) ?_
                      have hP : va_P D vwCl (mw cI r i0 i3 i7 i8 i9 (nI X.length) i15 i17 i18 i19 i22 i23 a1 a2 a4 a5 a6 a10 a11 (mvN f (5 * td) (5 * k) (q + 1)) a14 a16 a20 a21 a24 a25 a26) H := by rw [← mvN_s]; exact hP
                      have hD : va_D A (mw cI r i0 i3 i7 i8 i9 (nI X.length) i15 i17 i18 i19 i22 i23 a1 a2 a4 a5 a6 a10 a11 (mvN f (5 * td) (5 * k) (q + 1)) a14 a16 a20 a21 a24 a25 a26) := by rw [← mvN_s]; exact hD
                      exact ih67 (q + 1) (by omega) (by omega) _ _ _ hP hD hS (lv_sub hl [1, 2, 3, 0] rfl)
                have hP : va_P D vwCl (mw cI r i0 i3 i7 i8 i9 (nI X.length) i15 i17 i18 i19 i22 i23 a1 a2 a4 a5 a6 a10 a11 (mvN f (5 * td) (5 * k) 0) a14 a16 a20 a21 a24 a25 a26) H := by rw [mvN_0]; exact hP
                have hD : va_D A (mw cI r i0 i3 i7 i8 i9 (nI X.length) i15 i17 i18 i19 i22 i23 a1 a2 a4 a5 a6 a10 a11 (mvN f (5 * td) (5 * k) 0) a14 a16 a20 a21 a24 a25 a26) := by rw [mvN_0]; exact hD
                exact lp67 _ 0 (Nat.lt_succ_self _) (by omega) _ _ _ hP hD hS (lv_sub hl [1, 2, 3, 0] rfl)
        exact lp39 _ 0 0 a12 (Nat.lt_succ_self _) (by omega) (ti2_0 hX) _ _ _ hP hD hS (lv_sub hl [2, 1, 0] rfl)
      · skip
        obtain ⟨x, hx9, hr9⟩ := rowsV_at0 hX (show k < X.length by omega)
        refine lv_aload_n hx hb dX6_takeIn_10 rfl (lv_at hl 0 rfl) ?_
        refine va_get (D := D) (ci := 5) (v := .ref (r 25)) (C := RX6) (T := TX6) (N := 27) hx hb hts hin6 hown hK hP 0 rfl rfl 25 (by decide) fl54 (fun _ h9 => h9) rfl dX6_takeIn_11 ?_
        refine lv_iconst (v := nI 0) hx hb dX6_takeIn_14 (by decide) ?_
        refine lv_aload_n hx hb dX6_takeIn_15 rfl (lv_at hl 0 rfl) ?_
        refine va_get (D := D) (ci := 5) (v := .ref (r 12)) (C := RX6) (T := TX6) (N := 27) hx hb hts hin6 hown hK hP 0 rfl rfl 12 (by decide) fl36 (fun _ h9 => h9) rfl dX6_takeIn_16 ?_
        refine lv_iconst (v := nI 5) hx hb dX6_takeIn_19 (by decide) ?_
        refine lv_iload_n hx hb dX6_takeIn_20 rfl (lv_at hl 1 rfl) ?_
        refine wk_imul hx hb dX6_takeIn_21 ?_
        refine wk_Si (As := [.ref (r 25), .int (nI 0), .ref (r 12), .int (nI (5 * k))]) (rest := []) ⟨hx, hb, hml, hown, hts⟩ (c_X6_tops l D cI cJ cZ cA (r 25) (r 12) 5 7500 0 (5 * k) a25 a12 (by omega) (by omega) (by omega) (by omega)) (va_cwS 4 hts gX6_takeIn_X6_tops rfl rfl rfl (by decide +kernel) ⟨Nat.le_of_ble_eq_true rfl, Nat.le_of_ble_eq_true rfl⟩) hK hP [14, 8] rfl hS rfl hl.1 rfl (Nat.le_of_ble_eq_true rfl) dX6_takeIn_22 ⟨Nat.zero_le _, Nat.zero_le _⟩ (fun H locs hP hS => ?_)
        refine wk_if_eqb (tgt := 29) hx hb dX6_takeIn_25 (by decide) (fun c25 => ?_) (fun c25 => ?_)
        · skip
          refine lv_iinc (v := (nI (k + 1))) (lv' := [(1, .int (nI (k + 1))), (0, .ref (r 0))]) hx hb dX6_takeIn_29 hl (k := 1) rfl (by exact nI_1 _) (by decide) rfl (fun ls hl => ?_)
          refine lv_goto (tgt := 2) hx hb dX6_takeIn_32 (by decide) ?_
          have hn2 : ∀ q x, q < k + 1 → X[q]? = some x → tp5 w x = false := fun q y hq hy => by
            rcases Nat.lt_or_eq_of_le (Nat.le_of_lt_succ hq) with h1 | rfl
            · exact hn q y h1 hy
            · rw [hx9] at hy; cases hy; exact (tpB_row (fun q hq => by rw [Nat.zero_add]; exact hw q hq) hr9).symm.trans c25
          exact ih2 (k + 1) (by omega) (by omega) hn2 _ _ _ hP hD hS (lv_sub hl [1, 0] rfl)
        · skip
          have e9 := tkIn_hit (w := w) hx9 ((tpB_row (fun q hq => by rw [Nat.zero_add]; exact hw q hq) hr9).symm.trans c25)
          exact hret a12 _ _ _ _ _ _ (by rw [e9]; exact hX) (by rw [e9]; exact hP) (by rw [e9]; exact hD) dX6_takeIn_28 hS (Nat.zero_le _) (Nat.zero_le _)
  exact lp2 _ 0 (Nat.lt_succ_self _) (by omega) (fun q x h => absurd h (Nat.not_lt_zero q)) _ _ _ hP hD hS (lv_sub hl [1, 0] rfl)

set_option maxHeartbeats 4000000 in
set_option maxRecDepth 100000 in
theorem c_X6_isFirstIn (l : Launch) (D : va_G) (cI cJ cZ cA : ClassId) (r : Nat → Nat) (i0 i3 i7 i8 i9 i15 i17 i18 i19 i22 i23 : Int32) (a1 a2 a4 a5 a6 a10 a11 a12 a14 a16 a20 a21 a24 a25 a26 : Nat → Int32) (X : List Rw) (hX : rowsV a12 0 X) (hXl : X.length ≤ 1450) : Met l yX6_isFirstIn wsX6_isFirstIn ({ frames := 1, cells := 0, slots := 0, locals := 25 } : Room) (ro_P D (tysC cI cJ cZ cA) [.ref (r 0)] (mw cI r i0 i3 i7 i8 i9 (nI X.length) i15 i17 i18 i19 i22 i23 a1 a2 a4 a5 a6 a10 a11 a12 a14 a16 a20 a21 a24 a25 a26)) (ro_Q (bI (X.any (fun x => tp5 a1 x)))) 0 0 (fun _ => False) := by
  refine met_ro (cc := cX6_isFirstIn) (maxL := 3) (ty := .boolean) (by decide) rfl (Nat.le_of_ble_eq_true rfl) (bI_n _) ?_
  intro p e s m args below meth c Q hx hb hml hown hts hP hK hret ls hl
  obtain ⟨H, hH9⟩ : ∃ H : Heap, H = s.heap := ⟨_, rfl⟩
  have hP : va_P D vwCl (mw cI r i0 i3 i7 i8 i9 (nI X.length) i15 i17 i18 i19 i22 i23 a1 a2 a4 a5 a6 a10 a11 a12 a14 a16 a20 a21 a24 a25 a26) H := by rw [hH9]; exact hP
  have hS : va_S (fun _ => False) s.heap H [] := by rw [hH9]; exact va_S.rf
  rw [← hH9]
  have hown : s.vm.findClass RX6 = some m.cls := hown
  have hin6 : ∀ w ∈ wsX60, w ∈ wsX6_isFirstIn := by decide +kernel
  have fl80 := hts (.fieldLink RX6 80 "CoverRoundsModel" "roundCount" "I") (by decide +kernel)
  have fl7 := hts (.fieldLink RX6 7 "CoverRoundsModel" "first" "[I") (by decide +kernel)
  have fl36 := hts (.fieldLink RX6 36 "CoverRoundsModel" "round" "[I") (by decide +kernel)
  have hl : lv_has ls 3 [(0, .ref (r 0))] := hl
  refine lv_iconst (v := nI 0) hx hb dX6_isFirstIn_0 (by decide) ?_
  refine lv_istore_n (lv' := [(1, .int (nI 0)), (0, .ref (r 0))]) hx hb dX6_isFirstIn_1 rfl hl (by decide) rfl (fun ls hl => ?_)
  refine lv_iconst (v := nI 0) hx hb dX6_isFirstIn_2 (by decide) ?_
  refine lv_istore_n (lv' := [(2, .int (nI 0)), (1, .int (nI 0)), (0, .ref (r 0))]) hx hb dX6_isFirstIn_3 rfl hl (by decide) rfl (fun ls hl => ?_)
  have lp4 : ∀ (n9 : Nat) (k : Nat) (t : Bool), X.length - k < n9 → k ≤ X.length → (t = true ↔ ∃ q, q < k ∧ tpB a1 0 a12 (5 * q) = true) → ∀ (H : Heap) (locs : List Loc) (ls : Array Slot), va_P D vwCl (mw cI r i0 i3 i7 i8 i9 (nI X.length) i15 i17 i18 i19 i22 i23 a1 a2 a4 a5 a6 a10 a11 a12 a14 a16 a20 a21 a24 a25 a26) H → va_S (fun _ => False) s.heap H locs → lv_has ls 3 [(0, .ref (r 0)), (1, .int (bI t)), (2, .int (nI k))] → W p l e ({ frames := 1, cells := 0, slots := 0, locals := 25 } : Room) s m args below meth c H locs 0 0 Q (F0 m 4 ls []) := by
    intro n9
    induction n9 with
    | zero => intro k t hm4; exact absurd hm4 (Nat.not_lt_zero _)
    | succ n9 ih4 =>
      intro k t hm4 hk ht H locs ls hP hS hl
      refine lv_iload_n hx hb dX6_isFirstIn_4 rfl (lv_at hl 2 rfl) ?_
      refine lv_aload_n hx hb dX6_isFirstIn_5 rfl (lv_at hl 0 rfl) ?_
      refine va_get (D := D) (ci := 5) (v := .int (nI X.length)) (C := RX6) (T := TX6) (N := 27) hx hb hts hin6 hown hK hP 0 rfl rfl 13 (by decide) fl80 (fun _ h9 => h9) rfl dX6_isFirstIn_6 ?_
      refine wk_icmp_ge (tgt := 46) hx hb (by omega) (by omega) dX6_isFirstIn_9 (by decide) (fun c9 => ?_) (fun c9 => ?_)
      · skip
        refine lv_iload_n hx hb dX6_isFirstIn_46 rfl (lv_at hl 1 rfl) ?_
        have hkX : k = X.length := by omega
        subst hkX
        refine hret _ _ _ _ _ (congrArg bI (bb_eq ht ?_)) dX6_isFirstIn_47 hS
        have e9 := any_rows (f := a1) (v := a1) hX (fun q hq => by rw [Nat.zero_add])
        simp only [Nat.zero_add] at e9
        exact e9
      · skip
        refine lv_iload_n hx hb dX6_isFirstIn_12 rfl (lv_at hl 1 rfl) ?_
        refine wk_if_neb (tgt := 34) hx hb dX6_isFirstIn_13 (by decide) (fun c13 => ?_) (fun c13 => ?_)
        · skip
          refine lv_iconst (v := nI 1) hx hb dX6_isFirstIn_34 (by decide) ?_
          refine lv_goto (tgt := 39) hx hb dX6_isFirstIn_35 (by decide) ?_
          refine lv_istore_n (lv' := [(1, .int (nI 1)), (0, .ref (r 0)), (2, .int (nI k))]) hx hb dX6_isFirstIn_39 rfl hl (by decide) rfl (fun ls hl => ?_)
          refine lv_iinc (v := (nI (k + 1))) (lv' := [(2, .int (nI (k + 1))), (1, .int (nI 1)), (0, .ref (r 0))]) hx hb dX6_isFirstIn_40 hl (k := 2) rfl (by exact nI_1 _) (by decide) rfl (fun ls hl => ?_)
          refine lv_goto (tgt := 4) hx hb dX6_isFirstIn_43 (by decide) ?_
          exact ih4 (k + 1) true (by omega) (by omega) (ex_t1 ht c13) _ _ _ hP hS (lv_sub hl [2, 1, 0] rfl)
        · skip
          refine lv_aload_n hx hb dX6_isFirstIn_16 rfl (lv_at hl 0 rfl) ?_
          refine va_get (D := D) (ci := 5) (v := .ref (r 1)) (C := RX6) (T := TX6) (N := 27) hx hb hts hin6 hown hK hP 0 rfl rfl 1 (by decide) fl7 (fun _ h9 => h9) rfl dX6_isFirstIn_17 ?_
          refine lv_iconst (v := nI 0) hx hb dX6_isFirstIn_20 (by decide) ?_
          refine lv_aload_n hx hb dX6_isFirstIn_21 rfl (lv_at hl 0 rfl) ?_
          refine va_get (D := D) (ci := 5) (v := .ref (r 12)) (C := RX6) (T := TX6) (N := 27) hx hb hts hin6 hown hK hP 0 rfl rfl 12 (by decide) fl36 (fun _ h9 => h9) rfl dX6_isFirstIn_22 ?_
          refine lv_iconst (v := nI 5) hx hb dX6_isFirstIn_25 (by decide) ?_
          refine lv_iload_n hx hb dX6_isFirstIn_26 rfl (lv_at hl 2 rfl) ?_
          refine wk_imul hx hb dX6_isFirstIn_27 ?_
          refine wk_Si (As := [.ref (r 1), .int (nI 0), .ref (r 12), .int (nI (5 * k))]) (rest := []) ⟨hx, hb, hml, hown, hts⟩ (c_X6_tops l D cI cJ cZ cA (r 1) (r 12) 5 7500 0 (5 * k) a1 a12 (by omega) (by omega) (by omega) (by omega)) (va_cwS 4 hts gX6_isFirstIn_X6_tops rfl rfl rfl (by decide +kernel) ⟨Nat.le_of_ble_eq_true rfl, Nat.le_of_ble_eq_true rfl⟩) hK hP [1, 8] rfl hS rfl hl.1 rfl (Nat.le_of_ble_eq_true rfl) dX6_isFirstIn_28 ⟨Nat.zero_le _, Nat.zero_le _⟩ (fun H locs hP hS => ?_)
          refine wk_if_eqb (tgt := 38) hx hb dX6_isFirstIn_31 (by decide) (fun c31 => ?_) (fun c31 => ?_)
          · skip
            refine lv_iconst (v := nI 0) hx hb dX6_isFirstIn_38 (by decide) ?_
            refine lv_istore_n (lv' := [(1, .int (nI 0)), (0, .ref (r 0)), (2, .int (nI k))]) hx hb dX6_isFirstIn_39 rfl hl (by decide) rfl (fun ls hl => ?_)
            refine lv_iinc (v := (nI (k + 1))) (lv' := [(2, .int (nI (k + 1))), (1, .int (nI 0)), (0, .ref (r 0))]) hx hb dX6_isFirstIn_40 hl (k := 2) rfl (by exact nI_1 _) (by decide) rfl (fun ls hl => ?_)
            refine lv_goto (tgt := 4) hx hb dX6_isFirstIn_43 (by decide) ?_
            exact ih4 (k + 1) false (by omega) (by omega) (ex_f ht c13 (by rw [c31]; exact Bool.false_ne_true)) _ _ _ hP hS (lv_sub hl [2, 1, 0] rfl)
          · skip
            refine lv_iconst (v := nI 1) hx hb dX6_isFirstIn_34 (by decide) ?_
            refine lv_goto (tgt := 39) hx hb dX6_isFirstIn_35 (by decide) ?_
            refine lv_istore_n (lv' := [(1, .int (nI 1)), (0, .ref (r 0)), (2, .int (nI k))]) hx hb dX6_isFirstIn_39 rfl hl (by decide) rfl (fun ls hl => ?_)
            refine lv_iinc (v := (nI (k + 1))) (lv' := [(2, .int (nI (k + 1))), (1, .int (nI 1)), (0, .ref (r 0))]) hx hb dX6_isFirstIn_40 hl (k := 2) rfl (by exact nI_1 _) (by decide) rfl (fun ls hl => ?_)
            refine lv_goto (tgt := 4) hx hb dX6_isFirstIn_43 (by decide) ?_
            exact ih4 (k + 1) true (by omega) (by omega) (ex_t2 c31) _ _ _ hP hS (lv_sub hl [2, 1, 0] rfl)
  exact lp4 _ 0 false (Nat.lt_succ_self _) (by omega) ex_0 _ _ _ hP hS (lv_sub hl [2, 1, 0] rfl)

set_option maxHeartbeats 4000000 in
set_option maxRecDepth 100000 in
theorem c_X6_isInRound (l : Launch) (D : va_G) (cI cJ cZ cA : ClassId) (r : Nat → Nat) (i0 i3 i7 i8 i9 i13 i15 i17 i18 i19 i22 i23 : Int32) (a1 a2 a4 a5 a6 a10 a11 a12 a14 a16 a20 a21 a24 a25 a26 : Nat → Int32) (ma ml y : Nat) (mf : Nat → Int32) (X : List Rw) (hml9 : ml < 2 ^ 31) (hml5 : 5 ≤ ml) (hy : y ≤ 60) (hX : rowsV a11 (1000 * y) X) (hXl : X.length ≤ 200) (hc9 : a10 y = nI X.length) : Met l yX6_isInRound wsX6_isInRound ({ frames := 1, cells := 0, slots := 0, locals := 25 } : Room) (ro_P D (tysC cI cJ cZ cA) [.ref (r 0), .ref ma, .int (nI y)] ((mw cI r i0 i3 i7 i8 i9 i13 i15 i17 i18 i19 i22 i23 a1 a2 a4 a5 a6 a10 a11 a12 a14 a16 a20 a21 a24 a25 a26) ++ [(ma, .inl (cI, ml, .inl mf))])) (ro_Q (bI (X.any (fun x => tp5 mf x)))) 0 0 (fun _ => False) := by
  refine met_ro (cc := cX6_isInRound) (maxL := 5) (ty := .boolean) (by decide) rfl (Nat.le_of_ble_eq_true rfl) (bI_n _) ?_
  intro p e s m args below meth c Q hx hb hml hown hts hP hK hret ls hl
  obtain ⟨H, hH9⟩ : ∃ H : Heap, H = s.heap := ⟨_, rfl⟩
  have hP : va_P D vwCl ((mw cI r i0 i3 i7 i8 i9 i13 i15 i17 i18 i19 i22 i23 a1 a2 a4 a5 a6 a10 a11 a12 a14 a16 a20 a21 a24 a25 a26) ++ [(ma, .inl (cI, ml, .inl mf))]) H := by rw [hH9]; exact hP
  have hS : va_S (fun _ => False) s.heap H [] := by rw [hH9]; exact va_S.rf
  rw [← hH9]
  have hown : s.vm.findClass RX6 = some m.cls := hown
  have hin6 : ∀ w ∈ wsX60, w ∈ wsX6_isInRound := by decide +kernel
  have fl29 := hts (.fieldLink RX6 29 "CoverRoundsModel" "leastCounts" "[I") (by decide +kernel)
  have fl33 := hts (.fieldLink RX6 33 "CoverRoundsModel" "kept" "[I") (by decide +kernel)
  have hl : lv_has ls 5 [(0, .ref (r 0)), (1, .ref ma), (2, .int (nI y))] := hl
  refine lv_iconst (v := nI 0) hx hb dX6_isInRound_0 (by decide) ?_
  refine lv_istore_n (lv' := [(3, .int (nI 0)), (0, .ref (r 0)), (1, .ref ma), (2, .int (nI y))]) hx hb dX6_isInRound_1 rfl hl (by decide) rfl (fun ls hl => ?_)
  refine lv_iconst (v := nI 0) hx hb dX6_isInRound_2 (by decide) ?_
  refine lv_istore (lv' := [(4, .int (nI 0)), (3, .int (nI 0)), (0, .ref (r 0)), (1, .ref ma), (2, .int (nI y))]) hx hb dX6_isInRound_3 hl (by decide) rfl (fun ls hl => ?_)
  have lp5 : ∀ (n9 : Nat) (k : Nat) (t : Bool), X.length - k < n9 → k ≤ X.length → (t = true ↔ ∃ q, q < k ∧ tpB mf 0 a11 (1000 * y + 5 * q) = true) → ∀ (H : Heap) (locs : List Loc) (ls : Array Slot), va_P D vwCl ((mw cI r i0 i3 i7 i8 i9 i13 i15 i17 i18 i19 i22 i23 a1 a2 a4 a5 a6 a10 a11 a12 a14 a16 a20 a21 a24 a25 a26) ++ [(ma, .inl (cI, ml, .inl mf))]) H → va_S (fun _ => False) s.heap H locs → lv_has ls 5 [(0, .ref (r 0)), (1, .ref ma), (2, .int (nI y)), (3, .int (bI t)), (4, .int (nI k))] → W p l e ({ frames := 1, cells := 0, slots := 0, locals := 25 } : Room) s m args below meth c H locs 0 0 Q (F0 m 5 ls []) := by
    intro n9
    induction n9 with
    | zero => intro k t hm5; exact absurd hm5 (Nat.not_lt_zero _)
    | succ n9 ih5 =>
      intro k t hm5 hk ht H locs ls hP hS hl
      refine lv_iload hx hb dX6_isInRound_5 (lv_at hl 4 rfl) ?_
      refine lv_aload_n hx hb dX6_isInRound_7 rfl (lv_at hl 0 rfl) ?_
      refine va_get (D := D) (ci := 5) (v := .ref (r 10)) (C := RX6) (T := TX6) (N := 27) hx hb hts hin6 hown hK hP 0 rfl rfl 10 (by decide) fl29 (fun _ h9 => h9) rfl dX6_isInRound_8 ?_
      refine lv_iload_n hx hb dX6_isInRound_11 rfl (lv_at hl 2 rfl) ?_
      refine wk_iald hx hb hK hP 6 0 rfl rfl (i := y) (by omega) (by omega) dX6_isInRound_12 ?_
      rw [show (a10 y) = (nI X.length) from hc9]
      refine wk_icmp_ge (tgt := 54) hx hb (by omega) (by omega) dX6_isInRound_13 (by decide) (fun c13 => ?_) (fun c13 => ?_)
      · skip
        refine lv_iload_n hx hb dX6_isInRound_54 rfl (lv_at hl 3 rfl) ?_
        have hkX : k = X.length := by omega
        subst hkX
        exact hret _ _ _ _ _ (congrArg bI (bb_eq ht (any_rows hX (fun q hq => by rw [Nat.zero_add])))) dX6_isInRound_55 hS
      · skip
        refine lv_iload_n hx hb dX6_isInRound_16 rfl (lv_at hl 3 rfl) ?_
        refine wk_if_neb (tgt := 42) hx hb dX6_isInRound_17 (by decide) (fun c17 => ?_) (fun c17 => ?_)
        · skip
          refine lv_iconst (v := nI 1) hx hb dX6_isInRound_42 (by decide) ?_
          refine lv_goto (tgt := 47) hx hb dX6_isInRound_43 (by decide) ?_
          refine lv_istore_n (lv' := [(3, .int (nI 1)), (0, .ref (r 0)), (1, .ref ma), (2, .int (nI y)), (4, .int (nI k))]) hx hb dX6_isInRound_47 rfl hl (by decide) rfl (fun ls hl => ?_)
          refine lv_iinc (v := (nI (k + 1))) (lv' := [(4, .int (nI (k + 1))), (3, .int (nI 1)), (0, .ref (r 0)), (1, .ref ma), (2, .int (nI y))]) hx hb dX6_isInRound_48 hl (k := 4) rfl (by exact nI_1 _) (by decide) rfl (fun ls hl => ?_)
          refine lv_goto (tgt := 5) hx hb dX6_isInRound_51 (by decide) ?_
          exact ih5 (k + 1) true (by omega) (by omega) (ex_t1 ht c17) _ _ _ hP hS (lv_sub hl [2, 3, 4, 1, 0] rfl)
        · skip
          refine lv_aload_n hx hb dX6_isInRound_20 rfl (lv_at hl 1 rfl) ?_
          refine lv_iconst (v := nI 0) hx hb dX6_isInRound_21 (by decide) ?_
          refine lv_aload_n hx hb dX6_isInRound_22 rfl (lv_at hl 0 rfl) ?_
          refine va_get (D := D) (ci := 5) (v := .ref (r 11)) (C := RX6) (T := TX6) (N := 27) hx hb hts hin6 hown hK hP 0 rfl rfl 11 (by decide) fl33 (fun _ h9 => h9) rfl dX6_isInRound_23 ?_
          refine lv_sipush (v := nI 1000) hx hb dX6_isInRound_26 (by decide) ?_
          refine lv_iload_n hx hb dX6_isInRound_29 rfl (lv_at hl 2 rfl) ?_
          refine wk_imul hx hb dX6_isInRound_30 ?_
          refine lv_iconst (v := nI 5) hx hb dX6_isInRound_31 (by decide) ?_
          refine lv_iload hx hb dX6_isInRound_32 (lv_at hl 4 rfl) ?_
          refine wk_imul hx hb dX6_isInRound_34 ?_
          refine wk_iadd hx hb dX6_isInRound_35 ?_
          refine wk_Si (As := [.ref ma, .int (nI 0), .ref (r 11), .int (nI ((1000 * y) + (5 * k)))]) (rest := []) ⟨hx, hb, hml, hown, hts⟩ (c_X6_tops l D cI cJ cZ cA ma (r 11) ml 61000 0 ((1000 * y) + (5 * k)) mf a11 (by omega) (by omega) (by omega) (by omega)) (va_cwS 4 hts gX6_isInRound_X6_tops rfl rfl rfl (by decide +kernel) ⟨Nat.le_of_ble_eq_true rfl, Nat.le_of_ble_eq_true rfl⟩) hK hP [16, 7] rfl hS rfl hl.1 rfl (Nat.le_of_ble_eq_true rfl) dX6_isInRound_36 ⟨Nat.zero_le _, Nat.zero_le _⟩ (fun H locs hP hS => ?_)
          refine wk_if_eqb (tgt := 46) hx hb dX6_isInRound_39 (by decide) (fun c39 => ?_) (fun c39 => ?_)
          · skip
            refine lv_iconst (v := nI 0) hx hb dX6_isInRound_46 (by decide) ?_
            refine lv_istore_n (lv' := [(3, .int (nI 0)), (0, .ref (r 0)), (1, .ref ma), (2, .int (nI y)), (4, .int (nI k))]) hx hb dX6_isInRound_47 rfl hl (by decide) rfl (fun ls hl => ?_)
            refine lv_iinc (v := (nI (k + 1))) (lv' := [(4, .int (nI (k + 1))), (3, .int (nI 0)), (0, .ref (r 0)), (1, .ref ma), (2, .int (nI y))]) hx hb dX6_isInRound_48 hl (k := 4) rfl (by exact nI_1 _) (by decide) rfl (fun ls hl => ?_)
            refine lv_goto (tgt := 5) hx hb dX6_isInRound_51 (by decide) ?_
            exact ih5 (k + 1) false (by omega) (by omega) (ex_f ht c17 (by rw [c39]; exact Bool.false_ne_true)) _ _ _ hP hS (lv_sub hl [2, 3, 4, 1, 0] rfl)
          · skip
            refine lv_iconst (v := nI 1) hx hb dX6_isInRound_42 (by decide) ?_
            refine lv_goto (tgt := 47) hx hb dX6_isInRound_43 (by decide) ?_
            refine lv_istore_n (lv' := [(3, .int (nI 1)), (0, .ref (r 0)), (1, .ref ma), (2, .int (nI y)), (4, .int (nI k))]) hx hb dX6_isInRound_47 rfl hl (by decide) rfl (fun ls hl => ?_)
            refine lv_iinc (v := (nI (k + 1))) (lv' := [(4, .int (nI (k + 1))), (3, .int (nI 1)), (0, .ref (r 0)), (1, .ref ma), (2, .int (nI y))]) hx hb dX6_isInRound_48 hl (k := 4) rfl (by exact nI_1 _) (by decide) rfl (fun ls hl => ?_)
            refine lv_goto (tgt := 5) hx hb dX6_isInRound_51 (by decide) ?_
            exact ih5 (k + 1) true (by omega) (by omega) (ex_t2 c39) _ _ _ hP hS (lv_sub hl [2, 3, 4, 1, 0] rfl)
  exact lp5 _ 0 false (Nat.lt_succ_self _) (by omega) ex_0 _ _ _ hP hS (lv_sub hl [2, 3, 4, 1, 0] rfl)
end
section
/-! the step back of the reference, and its row, as lists -/
def preM (f4 f5 : Nat → Int32) (x : Rw) (t : Nat) : Rw := fun q => f4 (5 * t + q) + (if x q - f5 (5 * t + q) ≤ 0 then nI 0 else x q - f5 (5 * t + q))
def preA (f4 f5 f14 : Nat → Int32) (k t : Nat) : Nat → Int32 := fun q => f4 (5 * t + q) + (if f14 (5 * k + q) - f5 (5 * t + q) ≤ 0 then nI 0 else f14 (5 * k + q) - f5 (5 * t + q))
theorem preA_pos {f4 f5 f14 : Nat → Int32} {k t q : Nat} (h : f14 (5 * k + q) - f5 (5 * t + q) ≤ 0) : preA f4 f5 f14 k t q = f4 (5 * t + q) + nI 0 := by unfold preA; rw [if_pos h]
theorem preA_neg {f4 f5 f14 : Nat → Int32} {k t q : Nat} (h : ¬ f14 (5 * k + q) - f5 (5 * t + q) ≤ 0) : preA f4 f5 f14 k t q = f4 (5 * t + q) + (f14 (5 * k + q) - f5 (5 * t + q)) := by unfold preA; rw [if_neg h]
theorem preA_row {f4 f5 f14 : Nat → Int32} {k t q : Nat} {x : Rw} (h : f14 (5 * k + q) = x q) : preA f4 f5 f14 k t q = preM f4 f5 x t q := by unfold preA preM; rw [h]
def inK (f4 f5 : Nat → Int32) (x : Rw) (t : Nat) (X : List Rw) : List Rw := (List.range t).foldl (fun Y u => tkIn Y (preM f4 f5 x u)) X
def stepK (tr : Nat) (f4 f5 : Nat → Int32) (B X : List Rw) : List Rw := B.foldl (fun Y x => inK f4 f5 x tr Y) X
theorem inK_0 (f4 f5 : Nat → Int32) (x : Rw) (X : List Rw) : inK f4 f5 x 0 X = X := rfl
theorem inK_s (f4 f5 : Nat → Int32) (x : Rw) (t : Nat) (X : List Rw) : inK f4 f5 x (t + 1) X = tkIn (inK f4 f5 x t X) (preM f4 f5 x t) := by
  unfold inK
  rw [List.range_succ, List.foldl_append]
  rfl
theorem stepK_s {tr : Nat} {f4 f5 : Nat → Int32} {B X : List Rw} {k : Nat} {x : Rw} (hx : B[k]? = some x) : stepK tr f4 f5 (B.take (k + 1)) X = inK f4 f5 x tr (stepK tr f4 f5 (B.take k) X) := by
  unfold stepK
  rw [take_s hx, List.foldl_append]
  rfl
def sameB (X B : List Rw) : Bool := decide (X.length = B.length) && X.all (fun x => B.any (fun y => tp5 x y))
theorem sm_s {t d : Bool} {k : Nat} {P0 : Prop} {R9 : Nat → Prop} (hs : t = true ↔ (P0 ∧ ∀ q, q < k → R9 q)) (ct : t = true) (hd : d = true ↔ R9 k) : d = true ↔ (P0 ∧ ∀ q, q < k + 1 → R9 q) := by
  obtain ⟨h0, h1⟩ := hs.mp ct
  constructor
  · intro h
    refine ⟨h0, fun q hq => ?_⟩
    rcases Nat.lt_or_eq_of_le (Nat.le_of_lt_succ hq) with h2 | rfl
    · exact h1 q h2
    · exact hd.mp h
  · intro h
    exact hd.mpr (h.2 k (Nat.lt_succ_self k))
theorem sm_end {t : Bool} {k : Nat} {f g : Nat → Int32} {X B : List Rw} (hX : rowsV f 0 X) (hB : rowsV g 0 B) (hs : t = true ↔ (X.length = B.length ∧ ∀ q, q < k → ∃ j, j < B.length ∧ tpB f (5 * q) g (5 * j) = true)) (hk : k ≤ X.length) (hend : X.length ≤ k ∨ t = false) : t = sameB X B := by
  have hrow : ∀ q x, X[q]? = some x → ((∃ j, j < B.length ∧ tpB f (5 * q) g (5 * j) = true) ↔ B.any (fun y => tp5 x y) = true) := by
    intro q x hx
    have h1 : ∀ p, p < 5 → f (5 * q + p) = x p := fun p hp => by have := hX q x hx p hp; rw [Nat.zero_add] at this; exact this
    rw [List.any_eq_true]
    constructor
    · rintro ⟨j, hj, ht⟩
      obtain ⟨y, hy, h2⟩ := rowsV_at0 hB hj
      rw [tpB_row h1 h2] at ht
      exact ⟨y, List.mem_of_getElem? hy, ht⟩
    · rintro ⟨y, hy, ht⟩
      obtain ⟨j, hj⟩ := List.mem_iff_getElem?.mp hy
      obtain ⟨y2, hy2, h2⟩ := rowsV_at0 hB (List.getElem?_eq_some_iff.mp hj).1
      rw [hj] at hy2
      cases hy2
      refine ⟨j, (List.getElem?_eq_some_iff.mp hj).1, ?_⟩
      rw [tpB_row h1 h2]
      exact ht
  refine bb_eq Iff.rfl ?_
  unfold sameB
  rw [Bool.and_eq_true, List.all_eq_true]
  constructor
  · rintro ⟨h1, h2⟩
    refine hs.mpr ⟨of_decide_eq_true h1, fun q hq => ?_⟩
    have hq2 : q < X.length := by omega
    exact (hrow q X[q] (List.getElem?_eq_getElem hq2)).mpr (h2 _ (List.getElem_mem hq2))
  · intro ht
    obtain ⟨h1, h2⟩ := hs.mp ht
    have hkX : X.length ≤ k := by
      rcases hend with h | h
      · exact h
      · rw [h] at ht; cases ht
    refine ⟨decide_eq_true h1, fun x hx => ?_⟩
    obtain ⟨q, hq⟩ := List.mem_iff_getElem?.mp hx
    exact (hrow q x hq).mp (h2 q (by have := (List.getElem?_eq_some_iff.mp hq).1; omega))
def fiW (f4 f5 : Nat → Int32) (f : Rw) (t : Nat) : Rw := fun q => f q + f5 (5 * t + q) - f4 (5 * t + q)
def leadsB (tr : Nat) (f4 f5 : Nat → Int32) (f : Rw) (K : List Rw) (t : Nat) : Bool := canM tr f4 f 0 (nI t) && K.any (fun x => tp5 (fiW f4 f5 f t) x)
theorem tp5_cg {f g : Rw} (h : ∀ q, q < 5 → f q = g q) (x : Rw) : tp5 f x = tp5 g x := by
  refine bb_eq tp5_iff ?_
  rw [tp5_iff]
  exact ⟨fun h2 q hq => by rw [h q hq]; exact h2 q hq, fun h2 q hq => by have := h2 q hq; rw [h q hq] at this; exact this⟩
theorem any_cg {f g : Rw} (h : ∀ q, q < 5 → f q = g q) (K : List Rw) : K.any (fun x => tp5 f x) = K.any (fun x => tp5 g x) := by
  rw [show (fun x => tp5 f x) = (fun x => tp5 g x) from funext (tp5_cg h)]
theorem canM_cg {tr : Nat} {f4 : Nat → Int32} {f g : Rw} (h : ∀ q, q < 5 → f q = g q) (t : Int32) : canM tr f4 f 0 t = canM tr f4 g 0 t := by
  unfold canM
  rw [show tpB f 0 f4 (5 * t.toNatClampNeg) = tpB g 0 f4 (5 * t.toNatClampNeg) from by
    rw [tpB_row (u := g) (v := fun q => f4 (5 * t.toNatClampNeg + q)) (fun q hq => by rw [Nat.zero_add]; exact h q hq) (fun q _ => rfl), tpB_row (f := g) (u := g) (v := fun q => f4 (5 * t.toNatClampNeg + q)) (fun q hq => by rw [Nat.zero_add]) (fun q _ => rfl)]]
theorem leadsB_cg {tr : Nat} {f4 f5 : Nat → Int32} {f g : Rw} (h : ∀ q, q < 5 → f q = g q) (K : List Rw) (t : Nat) : leadsB tr f4 f5 f K t = leadsB tr f4 f5 g K t := by
  unfold leadsB
  rw [canM_cg h, any_cg (f := fiW f4 f5 f t) (g := fiW f4 f5 g t) (fun q hq => by unfold fiW; rw [h q hq])]
def gAt (f4 f5 : Nat → Int32) (f : Rw) (gt : Nat → Nat) : Nat → Rw
  | 0 => f
  | k + 1 => fiM f4 f5 (gAt f4 f5 f gt k) (gt k)
theorem stepK_len (tr : Nat) (f4 f5 : Nat → Int32) (htr : tr ≤ 6) : ∀ (B X : List Rw), (stepK tr f4 f5 B X).length ≤ X.length + 6 * B.length := by
  have h1 : ∀ (x : Rw) (t : Nat) (X : List Rw), (inK f4 f5 x t X).length ≤ X.length + t := by
    intro x t X
    induction t with
    | zero => rw [inK_0]; omega
    | succ t ih => rw [inK_s]; have := tkIn_len (inK f4 f5 x t X) (preM f4 f5 x t); omega
  intro B
  induction B with
  | nil => intro X; exact Nat.le_add_right _ _
  | cons x B ih =>
    intro X
    have := ih (inK f4 f5 x tr X)
    have := h1 x tr X
    show (stepK tr f4 f5 B (inK f4 f5 x tr X)).length ≤ _
    rw [List.length_cons]
    omega
def tgM (pl : Nat) (f2 : Nat → Int32) : Rw := fun q => if q < pl then f2 q else nI 0
theorem tgM_lt {pl : Nat} {f2 : Nat → Int32} {q : Nat} (h : q < pl) : tgM pl f2 q = f2 q := if_pos h
theorem tgM_ge {pl : Nat} {f2 : Nat → Int32} {q : Nat} (h : pl ≤ q) : tgM pl f2 q = nI 0 := if_neg (by omega)
def kpW (f : Nat → Int32) (k : Nat) : Nat → Int32 := fun z => if z < 5 * k then f z else nI 0
theorem kpW_lt {f : Nat → Int32} {k q : Nat} (h : q < 5 * k) : kpW f k q = f q := if_pos h
theorem kpW_ge {f : Nat → Int32} {k q : Nat} (h : 5 * k ≤ q) : kpW f k q = nI 0 := if_neg (by omega)
theorem kp_old {f w : Nat → Int32} {i j : Nat} {X : List Rw} (h : rowsV f (1000 * j) X) (hl : X.length ≤ 200) (hj : j < i) : rowsV (wrN f w (1000 * i) 1000) (1000 * j) X := by
  intro k x hx q hq
  have := (List.getElem?_eq_some_iff.mp hx).1
  rw [← h k x hx q hq]
  exact if_neg (by omega)
theorem kp_new {f g : Nat → Int32} {i : Nat} {X : List Rw} (h : rowsV g 0 X) (hl : X.length ≤ 200) : rowsV (wrN f (kpW g X.length) (1000 * i) 1000) (1000 * i) X := by
  intro k x hx q hq
  have := (List.getElem?_eq_some_iff.mp hx).1
  unfold wrN
  rw [if_pos (by omega), show 1000 * i + 5 * k + q - 1000 * i = 5 * k + q by omega, kpW_lt (by omega)]
  have := h k x hx q hq
  rw [Nat.zero_add] at this
  exact this
theorem cp_rows {f g : Nat → Int32} {X : List Rw} (h : rowsV f 0 X) : rowsV (cpN f g (5 * X.length)) 0 X := by
  intro k x hx q hq
  have := (List.getElem?_eq_some_iff.mp hx).1
  rw [cpN_lt (by omega)]
  exact h k x hx q hq
def endM (Ls : Nat → List Rw) (f1 : Rw) (i : Nat) : Int32 := if (Ls i).any (fun x => tp5 f1 x) = true then nI 1 else if 200 < (Ls i).length then -1 else if 0 < i ∧ sameB (Ls i) (Ls (i - 1)) = true then nI 0 else if i = 60 then -1 else nI 2
theorem endM_1 {Ls : Nat → List Rw} {f1 : Rw} {i : Nat} (h : (Ls i).any (fun x => tp5 f1 x) = true) : endM Ls f1 i = nI 1 := if_pos h
theorem endM_2 {Ls : Nat → List Rw} {f1 : Rw} {i : Nat} (h : (Ls i).any (fun x => tp5 f1 x) = false) (h2 : 200 < (Ls i).length) : endM Ls f1 i = -1 := by
  unfold endM; rw [if_neg (by rw [h]; exact Bool.false_ne_true), if_pos h2]
theorem endM_3 {Ls : Nat → List Rw} {f1 : Rw} {i : Nat} (h : (Ls i).any (fun x => tp5 f1 x) = false) (h2 : (Ls i).length ≤ 200) (h3 : 0 < i) (h4 : sameB (Ls i) (Ls (i - 1)) = true) : endM Ls f1 i = nI 0 := by
  unfold endM; rw [if_neg (by rw [h]; exact Bool.false_ne_true), if_neg (by omega), if_pos ⟨h3, h4⟩]
theorem endM_4 {Ls : Nat → List Rw} {f1 : Rw} {i : Nat} (h : (Ls i).any (fun x => tp5 f1 x) = false) (h2 : (Ls i).length ≤ 200) (h3 : i = 0 ∨ sameB (Ls i) (Ls (i - 1)) = false) (h5 : i = 60) : endM Ls f1 i = -1 := by
  unfold endM; rw [if_neg (by rw [h]; exact Bool.false_ne_true), if_neg (by omega), if_neg (fun q => by rcases h3 with h3 | h3; omega; rw [h3] at q; exact absurd q.2 Bool.false_ne_true), if_pos h5]
theorem endM_5 {Ls : Nat → List Rw} {f1 : Rw} {i : Nat} (h : (Ls i).any (fun x => tp5 f1 x) = false) (h2 : (Ls i).length ≤ 200) (h3 : i = 0 ∨ sameB (Ls i) (Ls (i - 1)) = false) (h5 : i ≠ 60) : endM Ls f1 i = nI 2 := by
  unfold endM; rw [if_neg (by rw [h]; exact Bool.false_ne_true), if_neg (by omega), if_neg (fun q => by rcases h3 with h3 | h3; omega; rw [h3] at q; exact absurd q.2 Bool.false_ne_true), if_neg h5]
end
section
set_option maxHeartbeats 4000000 in
set_option maxRecDepth 100000 in
theorem c_X6_step (l : Launch) (D : va_G) (cI cJ cZ cA : ClassId) (r : Nat → Nat) (i0 i7 i8 i9 i17 i18 i19 i22 i23 : Int32) (a1 a2 a4 a5 a6 a10 a11 a12 a14 a16 a20 a21 a24 a25 a26 : Nat → Int32) (sz tr : Nat) (B X0 : List Rw) (htr : tr ≤ 6) (hB : rowsV a14 0 B) (hBl : B.length ≤ 200) (hX0 : rowsV a12 0 X0) (hX0l : X0.length ≤ 200) : Met l yX6_step wsX6_step ({ frames := 2, cells := 0, slots := 0, locals := 48 } : Room) (wr_P D (tysC cI cJ cZ cA) [.ref (r 0)] (mw cI r i0 (nI tr) i7 i8 i9 (nI X0.length) (nI B.length) i17 i18 i19 i22 i23 a1 a2 a4 a5 a6 a10 a11 a12 a14 a16 a20 a21 a24 a25 a26) sz) (wr_Qv D (S := (Nat → Int32) × (Nat → Int32)) (mw cI r i0 (nI tr) i7 i8 i9 (nI X0.length) (nI B.length) i17 i18 i19 i22 i23 a1 a2 a4 a5 a6 a10 a11 a12 a14 a16 a20 a21 a24 a25 a26) sz (fun u => rowsV u.1 0 (stepK tr a4 a5 B X0)) (fun u => (mw cI r i0 (nI tr) i7 i8 i9 (nI ((stepK tr a4 a5 B X0).length)) (nI B.length) i17 i18 i19 i22 i23 a1 a2 a4 a5 a6 a10 a11 u.1 a14 a16 a20 a21 a24 u.2 a26))) 0 0 (va_A (mw cI r i0 (nI tr) i7 i8 i9 (nI X0.length) (nI B.length) i17 i18 i19 i22 i23 a1 a2 a4 a5 a6 a10 a11 a12 a14 a16 a20 a21 a24 a25 a26) sz) := by
  refine met_wv (cc := cX6_step) (maxL := 5) (by decide) rfl (Nat.le_of_ble_eq_true rfl) ?_
  intro p e s m args below meth c Q A hx hb hml hown hts hP hK hD hA hret ls hl
  obtain ⟨H, hH9⟩ : ∃ H : Heap, H = s.heap := ⟨_, rfl⟩
  have hP : va_P D vwCl (mw cI r i0 (nI tr) i7 i8 i9 (nI X0.length) (nI B.length) i17 i18 i19 i22 i23 a1 a2 a4 a5 a6 a10 a11 a12 a14 a16 a20 a21 a24 a25 a26) H := by rw [hH9]; exact hP
  have hS : va_S A s.heap H [] := by rw [hH9]; exact va_S.rf
  rw [← hH9]
  have hown : s.vm.findClass RX6 = some m.cls := hown
  have hin6 : ∀ w ∈ wsX60, w ∈ wsX6_step := by decide +kernel
  have fl87 := hts (.fieldLink RX6 87 "CoverRoundsModel" "beforeCount" "I") (by decide +kernel)
  have fl63 := hts (.fieldLink RX6 63 "CoverRoundsModel" "transitions" "I") (by decide +kernel)
  have fl39 := hts (.fieldLink RX6 39 "CoverRoundsModel" "before" "[I") (by decide +kernel)
  have fl19 := hts (.fieldLink RX6 19 "CoverRoundsModel" "gives" "[I") (by decide +kernel)
  have fl54 := hts (.fieldLink RX6 54 "CoverRoundsModel" "work" "[I") (by decide +kernel)
  have fl16 := hts (.fieldLink RX6 16 "CoverRoundsModel" "takes" "[I") (by decide +kernel)
  have hl : lv_has ls 5 [(0, .ref (r 0))] := hl
  refine lv_iconst (v := nI 0) hx hb dX6_step_0 (by decide) ?_
  refine lv_istore_n (lv' := [(1, .int (nI 0)), (0, .ref (r 0))]) hx hb dX6_step_1 rfl hl (by decide) rfl (fun ls hl => ?_)
  have lp2 : ∀ (n9 : Nat) (k : Nat) (X : List Rw) (f12 : Nat → Int32) (f25 : Nat → Int32), B.length - k < n9 → k ≤ B.length → rowsV f12 0 X → X = stepK tr a4 a5 (B.take k) X0 → X.length ≤ 200 + 6 * k → ∀ (H : Heap) (locs : List Loc) (ls : Array Slot), va_P D vwCl (mw cI r i0 (nI tr) i7 i8 i9 (nI X.length) (nI B.length) i17 i18 i19 i22 i23 a1 a2 a4 a5 a6 a10 a11 f12 a14 a16 a20 a21 a24 f25 a26) H → va_D A (mw cI r i0 (nI tr) i7 i8 i9 (nI X.length) (nI B.length) i17 i18 i19 i22 i23 a1 a2 a4 a5 a6 a10 a11 f12 a14 a16 a20 a21 a24 f25 a26) → va_S A s.heap H locs → lv_has ls 5 [(0, .ref (r 0)), (1, .int (nI k))] → W p l e ({ frames := 2, cells := 0, slots := 0, locals := 48 } : Room) s m args below meth c H locs 0 0 Q (F0 m 2 ls []) := by
    intro n9
    induction n9 with
    | zero => intro k X f12 f25 hm2; exact absurd hm2 (Nat.not_lt_zero _)
    | succ n9 ih2 =>
      intro k X f12 f25 hm2 hk hX hXe hXl H locs ls hP hD hS hl
      refine lv_iload_n hx hb dX6_step_2 rfl (lv_at hl 1 rfl) ?_
      refine lv_aload_n hx hb dX6_step_3 rfl (lv_at hl 0 rfl) ?_
      refine va_get (D := D) (ci := 5) (v := .int (nI B.length)) (C := RX6) (T := TX6) (N := 27) hx hb hts hin6 hown hK hP 0 rfl rfl 15 (by decide) fl87 (fun _ h9 => h9) rfl dX6_step_4 ?_
      refine wk_icmp_ge (tgt := 100) hx hb (by omega) (by omega) dX6_step_7 (by decide) (fun c7 => ?_) (fun c7 => ?_)
      · skip
        have hkB : k = B.length := by omega
        subst hkB
        rw [List.take_length] at hXe
        subst hXe
        exact hret (f12, f25) _ _ _ _ _ _ hX hP hD dX6_step_100 hS (Nat.zero_le _) (Nat.zero_le _)
      · skip
        obtain ⟨x, hx9, hr9⟩ := rowsV_at0 hB (show k < B.length by omega)
        refine lv_iconst (v := nI 0) hx hb dX6_step_10 (by decide) ?_
        refine lv_istore_n (lv' := [(2, .int (nI 0)), (0, .ref (r 0)), (1, .int (nI k))]) hx hb dX6_step_11 rfl hl (by decide) rfl (fun ls hl => ?_)
        have lp12 : ∀ (n9 : Nat) (t : Nat) (Y : List Rw) (g12 : Nat → Int32) (g25 : Nat → Int32), tr - t < n9 → t ≤ tr → rowsV g12 0 Y → Y = inK a4 a5 x t X → Y.length ≤ 200 + 6 * k + t → ∀ (H : Heap) (locs : List Loc) (ls : Array Slot), va_P D vwCl (mw cI r i0 (nI tr) i7 i8 i9 (nI Y.length) (nI B.length) i17 i18 i19 i22 i23 a1 a2 a4 a5 a6 a10 a11 g12 a14 a16 a20 a21 a24 g25 a26) H → va_D A (mw cI r i0 (nI tr) i7 i8 i9 (nI Y.length) (nI B.length) i17 i18 i19 i22 i23 a1 a2 a4 a5 a6 a10 a11 g12 a14 a16 a20 a21 a24 g25 a26) → va_S A s.heap H locs → lv_has ls 5 [(0, .ref (r 0)), (1, .int (nI k)), (2, .int (nI t))] → W p l e ({ frames := 2, cells := 0, slots := 0, locals := 48 } : Room) s m args below meth c H locs 0 0 Q (F0 m 12 ls []) := by
          intro n9
          induction n9 with
          | zero => intro t Y g12 g25 hm12; exact absurd hm12 (Nat.not_lt_zero _)
          | succ n9 ih12 =>
            intro t Y g12 g25 hm12 ht hY hYe hYl H locs ls hP hD hS hl
            refine lv_iload_n hx hb dX6_step_12 rfl (lv_at hl 2 rfl) ?_
            refine lv_aload_n hx hb dX6_step_13 rfl (lv_at hl 0 rfl) ?_
            refine va_get (D := D) (ci := 5) (v := .int (nI tr)) (C := RX6) (T := TX6) (N := 27) hx hb hts hin6 hown hK hP 0 rfl rfl 3 (by decide) fl63 (fun _ h9 => h9) rfl dX6_step_14 ?_
            refine wk_icmp_ge (tgt := 94) hx hb (by omega) (by omega) dX6_step_17 (by decide) (fun c17 => ?_) (fun c17 => ?_)
            · skip
              refine lv_iinc (v := (nI (k + 1))) (lv' := [(1, .int (nI (k + 1))), (0, .ref (r 0)), (2, .int (nI t))]) hx hb dX6_step_94 hl (k := 1) rfl (by exact nI_1 _) (by decide) rfl (fun ls hl => ?_)
              refine lv_goto (tgt := 2) hx hb dX6_step_97 (by decide) ?_
              have htt : t = tr := by omega
              subst htt
              exact ih2 (k + 1) Y g12 g25 (by omega) (by omega) hY (by rw [stepK_s hx9, ← hXe]; exact hYe) (by omega) _ _ _ hP hD hS (lv_sub hl [1, 0] rfl)
            · skip
              refine lv_iconst (v := nI 0) hx hb dX6_step_20 (by decide) ?_
              refine lv_istore_n (lv' := [(3, .int (nI 0)), (0, .ref (r 0)), (1, .int (nI k)), (2, .int (nI t))]) hx hb dX6_step_21 rfl hl (by decide) rfl (fun ls hl => ?_)
              have lp22 : ∀ (n9 : Nat) (q : Nat), 5 - q < n9 → q ≤ 5 → ∀ (H : Heap) (locs : List Loc) (ls : Array Slot), va_P D vwCl (mw cI r i0 (nI tr) i7 i8 i9 (nI Y.length) (nI B.length) i17 i18 i19 i22 i23 a1 a2 a4 a5 a6 a10 a11 g12 a14 a16 a20 a21 a24 (cpN (preA a4 a5 a14 k t) g25 q) a26) H → va_D A (mw cI r i0 (nI tr) i7 i8 i9 (nI Y.length) (nI B.length) i17 i18 i19 i22 i23 a1 a2 a4 a5 a6 a10 a11 g12 a14 a16 a20 a21 a24 (cpN (preA a4 a5 a14 k t) g25 q) a26) → va_S A s.heap H locs → lv_has ls 5 [(0, .ref (r 0)), (1, .int (nI k)), (2, .int (nI t)), (3, .int (nI q))] → W p l e ({ frames := 2, cells := 0, slots := 0, locals := 48 } : Room) s m args below meth c H locs 0 0 Q (F0 m 22 ls []) := by
                intro n9
                induction n9 with
                | zero => intro q hm22; exact absurd hm22 (Nat.not_lt_zero _)
                | succ n9 ih22 =>
                  intro q hm22 hq H locs ls hP hD hS hl
                  refine lv_iload_n hx hb dX6_step_22 rfl (lv_at hl 3 rfl) ?_
                  refine lv_iconst (v := nI 5) hx hb dX6_step_23 (by decide) ?_
                  refine wk_icmp_ge (tgt := 84) hx hb (by omega) (by omega) dX6_step_24 (by decide) (fun c24 => ?_) (fun c24 => ?_)
                  · skip
                    have hq9 : q = 5 := by omega
                    subst hq9
                    have hw9 : ∀ q, q < 5 → (cpN (preA a4 a5 a14 k t) g25 5) q = preM a4 a5 x t q := fun q hq => by rw [cpN_lt hq]; exact preA_row (hr9 q hq)
                    refine lv_aload_n hx hb dX6_step_84 rfl (lv_at hl 0 rfl) ?_
                    refine wk_VvW (As := []) (rest := []) (wr := []) ⟨hx, hb, hml, hown, hts⟩ (c_X6_takeIn l D cI cJ cZ cA r i0 (nI tr) i7 i8 i9 (nI B.length) i17 i18 i19 i22 i23 a1 a2 a4 a5 a6 a10 a11 g12 a14 a16 a20 a21 a24 (cpN (preA a4 a5 a14 k t) g25 5) a26 H.size Y (preM a4 a5 x t) hY (by omega) hw9) (cwV 0 hts gX6_step_X6_takeIn rfl rfl rfl (by decide +kernel) ⟨Nat.le_of_ble_eq_true rfl, Nat.le_of_ble_eq_true rfl⟩) hK hP hD hA [0, 1, 2, 3, 4, 5, 6, 7, 8, 9, 10, 11, 12, 13, 14, 15] rfl (by decide) [] rfl (by decide) (by decide) 0 5 rfl rfl hS rfl hl.1 rfl (Nat.le_of_ble_eq_true rfl) dX6_step_85 ⟨Nat.le_of_ble_eq_true rfl, Nat.le_of_ble_eq_true rfl⟩ (fun u9 H locs hu hP hD hS => ?_)
                    have hP : va_P D vwCl (mw cI r i0 (nI tr) i7 i8 i9 (nI ((tkIn Y (preM a4 a5 x t)).length)) (nI B.length) i17 i18 i19 i22 i23 a1 a2 a4 a5 a6 a10 a11 u9 a14 a16 a20 a21 a24 (cpN (preA a4 a5 a14 k t) g25 5) a26) H := hP
                    have hD : va_D A (mw cI r i0 (nI tr) i7 i8 i9 (nI ((tkIn Y (preM a4 a5 x t)).length)) (nI B.length) i17 i18 i19 i22 i23 a1 a2 a4 a5 a6 a10 a11 u9 a14 a16 a20 a21 a24 (cpN (preA a4 a5 a14 k t) g25 5) a26) := hD
                    refine lv_iinc (v := (nI (t + 1))) (lv' := [(2, .int (nI (t + 1))), (0, .ref (r 0)), (1, .int (nI k)), (3, .int (nI 5))]) hx hb dX6_step_88 hl (k := 2) rfl (by exact nI_1 _) (by decide) rfl (fun ls hl => ?_)
                    refine lv_goto (tgt := 12) hx hb dX6_step_91 (by decide) ?_
                    exact ih12 (t + 1) (tkIn Y (preM a4 a5 x t)) u9 (cpN (preA a4 a5 a14 k t) g25 5) (by omega) (by omega) hu (by rw [inK_s, ← hYe]) (by have := tkIn_len Y (preM a4 a5 x t); omega) _ _ _ hP hD hS (lv_sub hl [1, 2, 0] rfl)
                  · skip
                    refine lv_aload_n hx hb dX6_step_27 rfl (lv_at hl 0 rfl) ?_
                    refine va_get (D := D) (ci := 5) (v := .ref (r 14)) (C := RX6) (T := TX6) (N := 27) hx hb hts hin6 hown hK hP 0 rfl rfl 14 (by decide) fl39 (fun _ h9 => h9) rfl dX6_step_28 ?_
                    refine lv_iconst (v := nI 5) hx hb dX6_step_31 (by decide) ?_
                    refine lv_iload_n hx hb dX6_step_32 rfl (lv_at hl 1 rfl) ?_
                    refine wk_imul hx hb dX6_step_33 ?_
                    refine lv_iload_n hx hb dX6_step_34 rfl (lv_at hl 3 rfl) ?_
                    refine wk_iadd hx hb dX6_step_35 ?_
                    refine wk_iald hx hb hK hP 9 0 rfl rfl (i := (5 * k) + q) (by omega) (by omega) dX6_step_36 ?_
                    refine lv_aload_n hx hb dX6_step_37 rfl (lv_at hl 0 rfl) ?_
                    refine va_get (D := D) (ci := 5) (v := .ref (r 5)) (C := RX6) (T := TX6) (N := 27) hx hb hts hin6 hown hK hP 0 rfl rfl 5 (by decide) fl19 (fun _ h9 => h9) rfl dX6_step_38 ?_
                    refine lv_iconst (v := nI 5) hx hb dX6_step_41 (by decide) ?_
                    refine lv_iload_n hx hb dX6_step_42 rfl (lv_at hl 2 rfl) ?_
                    refine wk_imul hx hb dX6_step_43 ?_
                    refine lv_iload_n hx hb dX6_step_44 rfl (lv_at hl 3 rfl) ?_
                    refine wk_iadd hx hb dX6_step_45 ?_
                    refine wk_iald hx hb hK hP 4 0 rfl rfl (i := (5 * t) + q) (by omega) (by omega) dX6_step_46 ?_
                    refine lv_isub hx hb dX6_step_47 ?_
                    refine lv_istore (lv' := [(4, .int ((a14 ((5 * k) + q)) - (a5 ((5 * t) + q)))), (0, .ref (r 0)), (1, .int (nI k)), (2, .int (nI t)), (3, .int (nI q))]) hx hb dX6_step_48 hl (by decide) rfl (fun ls hl => ?_)
                    refine lv_aload_n hx hb dX6_step_50 rfl (lv_at hl 1 rfl) ?_
                    refine va_get (D := D) (ci := 5) (v := .ref (r 25)) (C := RX6) (T := TX6) (N := 27) hx hb hts hin6 hown hK hP 0 rfl rfl 25 (by decide) fl54 (fun _ h9 => h9) rfl dX6_step_51 ?_
                    refine lv_iload_n hx hb dX6_step_54 rfl (lv_at hl 4 rfl) ?_
                    refine lv_aload_n hx hb dX6_step_55 rfl (lv_at hl 1 rfl) ?_
                    refine va_get (D := D) (ci := 5) (v := .ref (r 4)) (C := RX6) (T := TX6) (N := 27) hx hb hts hin6 hown hK hP 0 rfl rfl 4 (by decide) fl16 (fun _ h9 => h9) rfl dX6_step_56 ?_
                    refine lv_iconst (v := nI 5) hx hb dX6_step_59 (by decide) ?_
                    refine lv_iload_n hx hb dX6_step_60 rfl (lv_at hl 3 rfl) ?_
                    refine wk_imul hx hb dX6_step_61 ?_
                    refine lv_iload_n hx hb dX6_step_62 rfl (lv_at hl 4 rfl) ?_
                    refine wk_iadd hx hb dX6_step_63 ?_
                    refine wk_iald hx hb hK hP 3 0 rfl rfl (i := (5 * t) + q) (by omega) (by omega) dX6_step_64 ?_
                    refine lv_iload hx hb dX6_step_65 (lv_at hl 0 rfl) ?_
                    refine lv_if_le (tgt := 75) hx hb dX6_step_67 (by decide) (fun c67 => ?_) (fun c67 => ?_)
                    · skip
                      refine lv_iconst (v := nI 0) hx hb dX6_step_75 (by decide) ?_
                      refine lv_iadd hx hb dX6_step_76 ?_
                      refine wk_iast hx hb hK hP hD hS 14 0 rfl rfl (i := q) (by omega) (by omega) dX6_step_77 (fun H locs hP hD hS => ?_)
                      have hP : va_P D vwCl (mw cI r i0 (nI tr) i7 i8 i9 (nI Y.length) (nI B.length) i17 i18 i19 i22 i23 a1 a2 a4 a5 a6 a10 a11 g12 a14 a16 a20 a21 a24 (upd (cpN (preA a4 a5 a14 k t) g25 q) q ((a4 ((5 * t) + q)) + (nI 0))) a26) H := hP
                      have hD : va_D A (mw cI r i0 (nI tr) i7 i8 i9 (nI Y.length) (nI B.length) i17 i18 i19 i22 i23 a1 a2 a4 a5 a6 a10 a11 g12 a14 a16 a20 a21 a24 (upd (cpN (preA a4 a5 a14 k t) g25 q) q ((a4 ((5 * t) + q)) + (nI 0))) a26) := hD
                      refine lv_iinc (v := (nI (q + 1))) (lv' := [(3, .int (nI (q + 1))), (4, .int ((a14 ((5 * k) + q)) - (a5 ((5 * t) + q)))), (0, .ref (r 0)), (1, .int (nI k)), (2, .int (nI t))]) hx hb dX6_step_78 hl (k := 4) rfl (by exact nI_1 _) (by decide) rfl (fun ls hl => ?_)
                      refine lv_goto (tgt := 22) hx hb dX6_step_81 (by decide) ?_
                      have hP : va_P D vwCl (mw cI r i0 (nI tr) i7 i8 i9 (nI Y.length) (nI B.length) i17 i18 i19 i22 i23 a1 a2 a4 a5 a6 a10 a11 g12 a14 a16 a20 a21 a24 (cpN (preA a4 a5 a14 k t) g25 (q + 1)) a26) H := by rw [← cpN_s, preA_pos c67]; exact hP
                      have hD : va_D A (mw cI r i0 (nI tr) i7 i8 i9 (nI Y.length) (nI B.length) i17 i18 i19 i22 i23 a1 a2 a4 a5 a6 a10 a11 g12 a14 a16 a20 a21 a24 (cpN (preA a4 a5 a14 k t) g25 (q + 1)) a26) := by rw [← cpN_s, preA_pos c67]; exact hD
                      exact ih22 (q + 1) (by omega) (by omega) _ _ _ hP hD hS (lv_sub hl [2, 3, 4, 0] rfl)
                    · skip
                      refine lv_iload hx hb dX6_step_70 (lv_at hl 0 rfl) ?_
                      refine lv_goto (tgt := 76) hx hb dX6_step_72 (by decide) ?_
                      refine lv_iadd hx hb dX6_step_76 ?_
                      refine wk_iast hx hb hK hP hD hS 14 0 rfl rfl (i := q) (by omega) (by omega) dX6_step_77 (fun H locs hP hD hS => ?_)
                      have hP : va_P D vwCl (mw cI r i0 (nI tr) i7 i8 i9 (nI Y.length) (nI B.length) i17 i18 i19 i22 i23 a1 a2 a4 a5 a6 a10 a11 g12 a14 a16 a20 a21 a24 (upd (cpN (preA a4 a5 a14 k t) g25 q) q ((a4 ((5 * t) + q)) + ((a14 ((5 * k) + q)) - (a5 ((5 * t) + q))))) a26) H := hP
                      have hD : va_D A (mw cI r i0 (nI tr) i7 i8 i9 (nI Y.length) (nI B.length) i17 i18 i19 i22 i23 a1 a2 a4 a5 a6 a10 a11 g12 a14 a16 a20 a21 a24 (upd (cpN (preA a4 a5 a14 k t) g25 q) q ((a4 ((5 * t) + q)) + ((a14 ((5 * k) + q)) - (a5 ((5 * t) + q))))) a26) := hD
                      refine lv_iinc (v := (nI (q + 1))) (lv' := [(3, .int (nI (q + 1))), (4, .int ((a14 ((5 * k) + q)) - (a5 ((5 * t) + q)))), (0, .ref (r 0)), (1, .int (nI k)), (2, .int (nI t))]) hx hb dX6_step_78 hl (k := 4) rfl (by exact nI_1 _) (by decide) rfl (fun ls hl => ?_)
                      refine lv_goto (tgt := 22) hx hb dX6_step_81 (by decide) ?_
                      have hP : va_P D vwCl (mw cI r i0 (nI tr) i7 i8 i9 (nI Y.length) (nI B.length) i17 i18 i19 i22 i23 a1 a2 a4 a5 a6 a10 a11 g12 a14 a16 a20 a21 a24 (cpN (preA a4 a5 a14 k t) g25 (q + 1)) a26) H := by rw [← cpN_s, preA_neg c67]; exact hP
                      have hD : va_D A (mw cI r i0 (nI tr) i7 i8 i9 (nI Y.length) (nI B.length) i17 i18 i19 i22 i23 a1 a2 a4 a5 a6 a10 a11 g12 a14 a16 a20 a21 a24 (cpN (preA a4 a5 a14 k t) g25 (q + 1)) a26) := by rw [← cpN_s, preA_neg c67]; exact hD
                      exact ih22 (q + 1) (by omega) (by omega) _ _ _ hP hD hS (lv_sub hl [2, 3, 4, 0] rfl)
              have hP : va_P D vwCl (mw cI r i0 (nI tr) i7 i8 i9 (nI Y.length) (nI B.length) i17 i18 i19 i22 i23 a1 a2 a4 a5 a6 a10 a11 g12 a14 a16 a20 a21 a24 (cpN (preA a4 a5 a14 k t) g25 0) a26) H := by rw [cpN_0]; exact hP
              have hD : va_D A (mw cI r i0 (nI tr) i7 i8 i9 (nI Y.length) (nI B.length) i17 i18 i19 i22 i23 a1 a2 a4 a5 a6 a10 a11 g12 a14 a16 a20 a21 a24 (cpN (preA a4 a5 a14 k t) g25 0) a26) := by rw [cpN_0]; exact hD
              exact lp22 _ 0 (Nat.lt_succ_self _) (by omega) _ _ _ hP hD hS (lv_sub hl [1, 2, 3, 0] rfl)
        exact lp12 _ 0 X f12 f25 (Nat.lt_succ_self _) (by omega) hX rfl (by omega) _ _ _ hP hD hS (lv_sub hl [1, 2, 0] rfl)
  exact lp2 _ 0 X0 a12 a25 (Nat.lt_succ_self _) (by omega) hX0 rfl (by omega) _ _ _ hP hD hS (lv_sub hl [1, 0] rfl)

set_option maxHeartbeats 4000000 in
set_option maxRecDepth 100000 in
theorem c_X6_isSame (l : Launch) (D : va_G) (cI cJ cZ cA : ClassId) (r : Nat → Nat) (i0 i3 i7 i8 i9 i17 i18 i19 i22 i23 : Int32) (a1 a2 a4 a5 a6 a10 a11 a12 a14 a16 a20 a21 a24 a25 a26 : Nat → Int32) (X B : List Rw) (hX : rowsV a12 0 X) (hB : rowsV a14 0 B) (hXl : X.length ≤ 1450) (hBl : B.length ≤ 200) : Met l yX6_isSame wsX6_isSame ({ frames := 1, cells := 0, slots := 0, locals := 25 } : Room) (ro_P D (tysC cI cJ cZ cA) [.ref (r 0)] (mw cI r i0 i3 i7 i8 i9 (nI X.length) (nI B.length) i17 i18 i19 i22 i23 a1 a2 a4 a5 a6 a10 a11 a12 a14 a16 a20 a21 a24 a25 a26)) (ro_Q (bI (sameB X B))) 0 0 (fun _ => False) := by
  refine met_ro (cc := cX6_isSame) (maxL := 5) (ty := .boolean) (by decide) rfl (Nat.le_of_ble_eq_true rfl) (bI_n _) ?_
  intro p e s m args below meth c Q hx hb hml hown hts hP hK hret ls hl
  obtain ⟨H, hH9⟩ : ∃ H : Heap, H = s.heap := ⟨_, rfl⟩
  have hP : va_P D vwCl (mw cI r i0 i3 i7 i8 i9 (nI X.length) (nI B.length) i17 i18 i19 i22 i23 a1 a2 a4 a5 a6 a10 a11 a12 a14 a16 a20 a21 a24 a25 a26) H := by rw [hH9]; exact hP
  have hS : va_S (fun _ => False) s.heap H [] := by rw [hH9]; exact va_S.rf
  rw [← hH9]
  have hown : s.vm.findClass RX6 = some m.cls := hown
  have hin6 : ∀ w ∈ wsX60, w ∈ wsX6_isSame := by decide +kernel
  have fl80 := hts (.fieldLink RX6 80 "CoverRoundsModel" "roundCount" "I") (by decide +kernel)
  have fl87 := hts (.fieldLink RX6 87 "CoverRoundsModel" "beforeCount" "I") (by decide +kernel)
  have fl36 := hts (.fieldLink RX6 36 "CoverRoundsModel" "round" "[I") (by decide +kernel)
  have fl39 := hts (.fieldLink RX6 39 "CoverRoundsModel" "before" "[I") (by decide +kernel)
  have hl : lv_has ls 5 [(0, .ref (r 0))] := hl
  refine lv_aload_n hx hb dX6_isSame_0 rfl (lv_at hl 0 rfl) ?_
  refine va_get (D := D) (ci := 5) (v := .int (nI X.length)) (C := RX6) (T := TX6) (N := 27) hx hb hts hin6 hown hK hP 0 rfl rfl 13 (by decide) fl80 (fun _ h9 => h9) rfl dX6_isSame_1 ?_
  refine lv_aload_n hx hb dX6_isSame_4 rfl (lv_at hl 0 rfl) ?_
  refine va_get (D := D) (ci := 5) (v := .int (nI B.length)) (C := RX6) (T := TX6) (N := 27) hx hb hts hin6 hown hK hP 0 rfl rfl 15 (by decide) fl87 (fun _ h9 => h9) rfl dX6_isSame_5 ?_
  refine wk_icmp_ne (tgt := 15) hx hb (by omega) (by omega) dX6_isSame_8 (by decide) (fun c8 => ?_) (fun c8 => ?_)
  · skip
    refine lv_iconst (v := nI 0) hx hb dX6_isSame_15 (by decide) ?_
    refine lv_istore_n (lv' := [(1, .int (nI 0)), (0, .ref (r 0))]) hx hb dX6_isSame_16 rfl hl (by decide) rfl (fun ls hl => ?_)
    refine lv_iconst (v := nI 0) hx hb dX6_isSame_17 (by decide) ?_
    refine lv_istore_n (lv' := [(2, .int (nI 0)), (1, .int (nI 0)), (0, .ref (r 0))]) hx hb dX6_isSame_18 rfl hl (by decide) rfl (fun ls hl => ?_)
    have lp19 : ∀ (n9 : Nat) (k : Nat) (t : Bool), X.length - k < n9 → k ≤ X.length → (t = true ↔ (X.length = B.length ∧ ∀ q, q < k → ∃ j, j < B.length ∧ tpB a12 (5 * q) a14 (5 * j) = true)) → ∀ (H : Heap) (locs : List Loc) (ls : Array Slot), va_P D vwCl (mw cI r i0 i3 i7 i8 i9 (nI X.length) (nI B.length) i17 i18 i19 i22 i23 a1 a2 a4 a5 a6 a10 a11 a12 a14 a16 a20 a21 a24 a25 a26) H → va_S (fun _ => False) s.heap H locs → lv_has ls 5 [(0, .ref (r 0)), (1, .int (bI t)), (2, .int (nI k))] → W p l e ({ frames := 1, cells := 0, slots := 0, locals := 25 } : Room) s m args below meth c H locs 0 0 Q (F0 m 19 ls []) := by
      intro n9
      induction n9 with
      | zero => intro k t hm19; exact absurd hm19 (Nat.not_lt_zero _)
      | succ n9 ih19 =>
        intro k t hm19 hk hs H locs ls hP hS hl
        refine lv_iload_n hx hb dX6_isSame_19 rfl (lv_at hl 2 rfl) ?_
        refine lv_aload_n hx hb dX6_isSame_20 rfl (lv_at hl 0 rfl) ?_
        refine va_get (D := D) (ci := 5) (v := .int (nI X.length)) (C := RX6) (T := TX6) (N := 27) hx hb hts hin6 hown hK hP 0 rfl rfl 13 (by decide) fl80 (fun _ h9 => h9) rfl dX6_isSame_21 ?_
        refine wk_icmp_ge (tgt := 90) hx hb (by omega) (by omega) dX6_isSame_24 (by decide) (fun c24 => ?_) (fun c24 => ?_)
        · skip
          refine lv_iload_n hx hb dX6_isSame_90 rfl (lv_at hl 1 rfl) ?_
          exact hret _ _ _ _ _ (congrArg bI (sm_end hX hB hs hk (Or.inl c24))) dX6_isSame_91 hS
        · skip
          refine lv_iload_n hx hb dX6_isSame_27 rfl (lv_at hl 1 rfl) ?_
          refine wk_if_eqb (tgt := 90) hx hb dX6_isSame_28 (by decide) (fun c28 => ?_) (fun c28 => ?_)
          · skip
            refine lv_iload_n hx hb dX6_isSame_90 rfl (lv_at hl 1 rfl) ?_
            exact hret _ _ _ _ _ (congrArg bI (sm_end hX hB hs hk (Or.inr c28))) dX6_isSame_91 hS
          · skip
            subst c28
            refine lv_iconst (v := nI 0) hx hb dX6_isSame_31 (by decide) ?_
            refine lv_istore_n (lv' := [(3, .int (nI 0)), (0, .ref (r 0)), (1, .int (bI true)), (2, .int (nI k))]) hx hb dX6_isSame_32 rfl hl (by decide) rfl (fun ls hl => ?_)
            refine lv_iconst (v := nI 0) hx hb dX6_isSame_33 (by decide) ?_
            refine lv_istore (lv' := [(4, .int (nI 0)), (3, .int (nI 0)), (0, .ref (r 0)), (1, .int (bI true)), (2, .int (nI k))]) hx hb dX6_isSame_34 hl (by decide) rfl (fun ls hl => ?_)
            have lp36 : ∀ (n9 : Nat) (j : Nat) (d : Bool), B.length - j < n9 → j ≤ B.length → (d = true ↔ ∃ q, q < j ∧ tpB a12 (5 * k) a14 (5 * q) = true) → ∀ (H : Heap) (locs : List Loc) (ls : Array Slot), va_P D vwCl (mw cI r i0 i3 i7 i8 i9 (nI X.length) (nI B.length) i17 i18 i19 i22 i23 a1 a2 a4 a5 a6 a10 a11 a12 a14 a16 a20 a21 a24 a25 a26) H → va_S (fun _ => False) s.heap H locs → lv_has ls 5 [(0, .ref (r 0)), (1, .int (bI true)), (2, .int (nI k)), (3, .int (bI d)), (4, .int (nI j))] → W p l e ({ frames := 1, cells := 0, slots := 0, locals := 25 } : Room) s m args below meth c H locs 0 0 Q (F0 m 36 ls []) := by
              intro n9
              induction n9 with
              | zero => intro j d hm36; exact absurd hm36 (Nat.not_lt_zero _)
              | succ n9 ih36 =>
                intro j d hm36 hj hd H locs ls hP hS hl
                refine lv_iload hx hb dX6_isSame_36 (lv_at hl 4 rfl) ?_
                refine lv_aload_n hx hb dX6_isSame_38 rfl (lv_at hl 0 rfl) ?_
                refine va_get (D := D) (ci := 5) (v := .int (nI B.length)) (C := RX6) (T := TX6) (N := 27) hx hb hts hin6 hown hK hP 0 rfl rfl 15 (by decide) fl87 (fun _ h9 => h9) rfl dX6_isSame_39 ?_
                refine wk_icmp_ge (tgt := 82) hx hb (by omega) (by omega) dX6_isSame_42 (by decide) (fun c42 => ?_) (fun c42 => ?_)
                · skip
                  refine lv_iload_n hx hb dX6_isSame_82 rfl (lv_at hl 3 rfl) ?_
                  refine lv_istore_n (lv' := [(1, .int (bI d)), (0, .ref (r 0)), (2, .int (nI k)), (3, .int (bI d)), (4, .int (nI j))]) hx hb dX6_isSame_83 rfl hl (by decide) rfl (fun ls hl => ?_)
                  refine lv_iinc (v := (nI (k + 1))) (lv' := [(2, .int (nI (k + 1))), (1, .int (bI d)), (0, .ref (r 0)), (3, .int (bI d)), (4, .int (nI j))]) hx hb dX6_isSame_84 hl (k := 2) rfl (by exact nI_1 _) (by decide) rfl (fun ls hl => ?_)
                  refine lv_goto (tgt := 19) hx hb dX6_isSame_87 (by decide) ?_
                  have hjB : j = B.length := by omega
                  subst hjB
                  exact ih19 (k + 1) d (by omega) (by omega) (sm_s hs rfl hd) _ _ _ hP hS (lv_sub hl [2, 1, 0] rfl)
                · skip
                  refine lv_iload_n hx hb dX6_isSame_45 rfl (lv_at hl 3 rfl) ?_
                  refine wk_if_neb (tgt := 70) hx hb dX6_isSame_46 (by decide) (fun c46 => ?_) (fun c46 => ?_)
                  · skip
                    refine lv_iconst (v := nI 1) hx hb dX6_isSame_70 (by decide) ?_
                    refine lv_goto (tgt := 75) hx hb dX6_isSame_71 (by decide) ?_
                    refine lv_istore_n (lv' := [(3, .int (nI 1)), (0, .ref (r 0)), (1, .int (bI true)), (2, .int (nI k)), (4, .int (nI j))]) hx hb dX6_isSame_75 rfl hl (by decide) rfl (fun ls hl => ?_)
                    refine lv_iinc (v := (nI (j + 1))) (lv' := [(4, .int (nI (j + 1))), (3, .int (nI 1)), (0, .ref (r 0)), (1, .int (bI true)), (2, .int (nI k))]) hx hb dX6_isSame_76 hl (k := 4) rfl (by exact nI_1 _) (by decide) rfl (fun ls hl => ?_)
                    refine lv_goto (tgt := 36) hx hb dX6_isSame_79 (by decide) ?_
                    exact ih36 (j + 1) true (by omega) (by omega) (ex_t1 hd c46) _ _ _ hP hS (lv_sub hl [2, 3, 4, 1, 0] rfl)
                  · skip
                    refine lv_aload_n hx hb dX6_isSame_49 rfl (lv_at hl 0 rfl) ?_
                    refine va_get (D := D) (ci := 5) (v := .ref (r 12)) (C := RX6) (T := TX6) (N := 27) hx hb hts hin6 hown hK hP 0 rfl rfl 12 (by decide) fl36 (fun _ h9 => h9) rfl dX6_isSame_50 ?_
                    refine lv_iconst (v := nI 5) hx hb dX6_isSame_53 (by decide) ?_
                    refine lv_iload_n hx hb dX6_isSame_54 rfl (lv_at hl 2 rfl) ?_
                    refine wk_imul hx hb dX6_isSame_55 ?_
                    refine lv_aload_n hx hb dX6_isSame_56 rfl (lv_at hl 0 rfl) ?_
                    refine va_get (D := D) (ci := 5) (v := .ref (r 14)) (C := RX6) (T := TX6) (N := 27) hx hb hts hin6 hown hK hP 0 rfl rfl 14 (by decide) fl39 (fun _ h9 => h9) rfl dX6_isSame_57 ?_
                    refine lv_iconst (v := nI 5) hx hb dX6_isSame_60 (by decide) ?_
                    refine lv_iload hx hb dX6_isSame_61 (lv_at hl 4 rfl) ?_
                    refine wk_imul hx hb dX6_isSame_63 ?_
                    refine wk_Si (As := [.ref (r 12), .int (nI (5 * k)), .ref (r 14), .int (nI (5 * j))]) (rest := []) ⟨hx, hb, hml, hown, hts⟩ (c_X6_tops l D cI cJ cZ cA (r 12) (r 14) 7500 7500 (5 * k) (5 * j) a12 a14 (by omega) (by omega) (by omega) (by omega)) (va_cwS 4 hts gX6_isSame_X6_tops rfl rfl rfl (by decide +kernel) ⟨Nat.le_of_ble_eq_true rfl, Nat.le_of_ble_eq_true rfl⟩) hK hP [8, 9] rfl hS rfl hl.1 rfl (Nat.le_of_ble_eq_true rfl) dX6_isSame_64 ⟨Nat.zero_le _, Nat.zero_le _⟩ (fun H locs hP hS => ?_)
                    refine wk_if_eqb (tgt := 74) hx hb dX6_isSame_67 (by decide) (fun c67 => ?_) (fun c67 => ?_)
                    · skip
                      refine lv_iconst (v := nI 0) hx hb dX6_isSame_74 (by decide) ?_
                      refine lv_istore_n (lv' := [(3, .int (nI 0)), (0, .ref (r 0)), (1, .int (bI true)), (2, .int (nI k)), (4, .int (nI j))]) hx hb dX6_isSame_75 rfl hl (by decide) rfl (fun ls hl => ?_)
                      refine lv_iinc (v := (nI (j + 1))) (lv' := [(4, .int (nI (j + 1))), (3, .int (nI 0)), (0, .ref (r 0)), (1, .int (bI true)), (2, .int (nI k))]) hx hb dX6_isSame_76 hl (k := 4) rfl (by exact nI_1 _) (by decide) rfl (fun ls hl => ?_)
                      refine lv_goto (tgt := 36) hx hb dX6_isSame_79 (by decide) ?_
                      exact ih36 (j + 1) false (by omega) (by omega) (ex_f hd c46 (by rw [c67]; exact Bool.false_ne_true)) _ _ _ hP hS (lv_sub hl [2, 3, 4, 1, 0] rfl)
                    · skip
                      refine lv_iconst (v := nI 1) hx hb dX6_isSame_70 (by decide) ?_
                      refine lv_goto (tgt := 75) hx hb dX6_isSame_71 (by decide) ?_
                      refine lv_istore_n (lv' := [(3, .int (nI 1)), (0, .ref (r 0)), (1, .int (bI true)), (2, .int (nI k)), (4, .int (nI j))]) hx hb dX6_isSame_75 rfl hl (by decide) rfl (fun ls hl => ?_)
                      refine lv_iinc (v := (nI (j + 1))) (lv' := [(4, .int (nI (j + 1))), (3, .int (nI 1)), (0, .ref (r 0)), (1, .int (bI true)), (2, .int (nI k))]) hx hb dX6_isSame_76 hl (k := 4) rfl (by exact nI_1 _) (by decide) rfl (fun ls hl => ?_)
                      refine lv_goto (tgt := 36) hx hb dX6_isSame_79 (by decide) ?_
                      exact ih36 (j + 1) true (by omega) (by omega) (ex_t2 c67) _ _ _ hP hS (lv_sub hl [2, 3, 4, 1, 0] rfl)
            exact lp36 _ 0 false (Nat.lt_succ_self _) (by omega) ex_0 _ _ _ hP hS (lv_sub hl [2, 3, 4, 1, 0] rfl)
    exact lp19 _ 0 false (Nat.lt_succ_self _) (by omega) ⟨fun h => by (cases h), fun h => absurd h.1 c8⟩ _ _ _ hP hS (lv_sub hl [2, 1, 0] rfl)
  · skip
    refine lv_iconst (v := nI 1) hx hb dX6_isSame_11 (by decide) ?_
    refine lv_goto (tgt := 16) hx hb dX6_isSame_12 (by decide) ?_
    refine lv_istore_n (lv' := [(1, .int (nI 1)), (0, .ref (r 0))]) hx hb dX6_isSame_16 rfl hl (by decide) rfl (fun ls hl => ?_)
    refine lv_iconst (v := nI 0) hx hb dX6_isSame_17 (by decide) ?_
    refine lv_istore_n (lv' := [(2, .int (nI 0)), (1, .int (nI 1)), (0, .ref (r 0))]) hx hb dX6_isSame_18 rfl hl (by decide) rfl (fun ls hl => ?_)
    have lp19 : ∀ (n9 : Nat) (k : Nat) (t : Bool), X.length - k < n9 → k ≤ X.length → (t = true ↔ (X.length = B.length ∧ ∀ q, q < k → ∃ j, j < B.length ∧ tpB a12 (5 * q) a14 (5 * j) = true)) → ∀ (H : Heap) (locs : List Loc) (ls : Array Slot), va_P D vwCl (mw cI r i0 i3 i7 i8 i9 (nI X.length) (nI B.length) i17 i18 i19 i22 i23 a1 a2 a4 a5 a6 a10 a11 a12 a14 a16 a20 a21 a24 a25 a26) H → va_S (fun _ => False) s.heap H locs → lv_has ls 5 [(0, .ref (r 0)), (1, .int (bI t)), (2, .int (nI k))] → W p l e ({ frames := 1, cells := 0, slots := 0, locals := 25 } : Room) s m args below meth c H locs 0 0 Q (F0 m 19 ls []) := by
      intro n9
      induction n9 with
      | zero => intro k t hm19; exact absurd hm19 (Nat.not_lt_zero _)
      | succ n9 ih19 =>
        intro k t hm19 hk hs H locs ls hP hS hl
        refine lv_iload_n hx hb dX6_isSame_19 rfl (lv_at hl 2 rfl) ?_
        refine lv_aload_n hx hb dX6_isSame_20 rfl (lv_at hl 0 rfl) ?_
        refine va_get (D := D) (ci := 5) (v := .int (nI X.length)) (C := RX6) (T := TX6) (N := 27) hx hb hts hin6 hown hK hP 0 rfl rfl 13 (by decide) fl80 (fun _ h9 => h9) rfl dX6_isSame_21 ?_
        refine wk_icmp_ge (tgt := 90) hx hb (by omega) (by omega) dX6_isSame_24 (by decide) (fun c24 => ?_) (fun c24 => ?_)
        · skip
          refine lv_iload_n hx hb dX6_isSame_90 rfl (lv_at hl 1 rfl) ?_
          exact hret _ _ _ _ _ (congrArg bI (sm_end hX hB hs hk (Or.inl c24))) dX6_isSame_91 hS
        · skip
          refine lv_iload_n hx hb dX6_isSame_27 rfl (lv_at hl 1 rfl) ?_
          refine wk_if_eqb (tgt := 90) hx hb dX6_isSame_28 (by decide) (fun c28 => ?_) (fun c28 => ?_)
          · skip
            refine lv_iload_n hx hb dX6_isSame_90 rfl (lv_at hl 1 rfl) ?_
            exact hret _ _ _ _ _ (congrArg bI (sm_end hX hB hs hk (Or.inr c28))) dX6_isSame_91 hS
          · skip
            subst c28
            refine lv_iconst (v := nI 0) hx hb dX6_isSame_31 (by decide) ?_
            refine lv_istore_n (lv' := [(3, .int (nI 0)), (0, .ref (r 0)), (1, .int (bI true)), (2, .int (nI k))]) hx hb dX6_isSame_32 rfl hl (by decide) rfl (fun ls hl => ?_)
            refine lv_iconst (v := nI 0) hx hb dX6_isSame_33 (by decide) ?_
            refine lv_istore (lv' := [(4, .int (nI 0)), (3, .int (nI 0)), (0, .ref (r 0)), (1, .int (bI true)), (2, .int (nI k))]) hx hb dX6_isSame_34 hl (by decide) rfl (fun ls hl => ?_)
            have lp36 : ∀ (n9 : Nat) (j : Nat) (d : Bool), B.length - j < n9 → j ≤ B.length → (d = true ↔ ∃ q, q < j ∧ tpB a12 (5 * k) a14 (5 * q) = true) → ∀ (H : Heap) (locs : List Loc) (ls : Array Slot), va_P D vwCl (mw cI r i0 i3 i7 i8 i9 (nI X.length) (nI B.length) i17 i18 i19 i22 i23 a1 a2 a4 a5 a6 a10 a11 a12 a14 a16 a20 a21 a24 a25 a26) H → va_S (fun _ => False) s.heap H locs → lv_has ls 5 [(0, .ref (r 0)), (1, .int (bI true)), (2, .int (nI k)), (3, .int (bI d)), (4, .int (nI j))] → W p l e ({ frames := 1, cells := 0, slots := 0, locals := 25 } : Room) s m args below meth c H locs 0 0 Q (F0 m 36 ls []) := by
              intro n9
              induction n9 with
              | zero => intro j d hm36; exact absurd hm36 (Nat.not_lt_zero _)
              | succ n9 ih36 =>
                intro j d hm36 hj hd H locs ls hP hS hl
                refine lv_iload hx hb dX6_isSame_36 (lv_at hl 4 rfl) ?_
                refine lv_aload_n hx hb dX6_isSame_38 rfl (lv_at hl 0 rfl) ?_
                refine va_get (D := D) (ci := 5) (v := .int (nI B.length)) (C := RX6) (T := TX6) (N := 27) hx hb hts hin6 hown hK hP 0 rfl rfl 15 (by decide) fl87 (fun _ h9 => h9) rfl dX6_isSame_39 ?_
                refine wk_icmp_ge (tgt := 82) hx hb (by omega) (by omega) dX6_isSame_42 (by decide) (fun c42 => ?_) (fun c42 => ?_)
                · skip
                  refine lv_iload_n hx hb dX6_isSame_82 rfl (lv_at hl 3 rfl) ?_
                  refine lv_istore_n (lv' := [(1, .int (bI d)), (0, .ref (r 0)), (2, .int (nI k)), (3, .int (bI d)), (4, .int (nI j))]) hx hb dX6_isSame_83 rfl hl (by decide) rfl (fun ls hl => ?_)
                  refine lv_iinc (v := (nI (k + 1))) (lv' := [(2, .int (nI (k + 1))), (1, .int (bI d)), (0, .ref (r 0)), (3, .int (bI d)), (4, .int (nI j))]) hx hb dX6_isSame_84 hl (k := 2) rfl (by exact nI_1 _) (by decide) rfl (fun ls hl => ?_)
                  refine lv_goto (tgt := 19) hx hb dX6_isSame_87 (by decide) ?_
                  have hjB : j = B.length := by omega
                  subst hjB
                  exact ih19 (k + 1) d (by omega) (by omega) (sm_s hs rfl hd) _ _ _ hP hS (lv_sub hl [2, 1, 0] rfl)
                · skip
                  refine lv_iload_n hx hb dX6_isSame_45 rfl (lv_at hl 3 rfl) ?_
                  refine wk_if_neb (tgt := 70) hx hb dX6_isSame_46 (by decide) (fun c46 => ?_) (fun c46 => ?_)
                  · skip
                    refine lv_iconst (v := nI 1) hx hb dX6_isSame_70 (by decide) ?_
                    refine lv_goto (tgt := 75) hx hb dX6_isSame_71 (by decide) ?_
                    refine lv_istore_n (lv' := [(3, .int (nI 1)), (0, .ref (r 0)), (1, .int (bI true)), (2, .int (nI k)), (4, .int (nI j))]) hx hb dX6_isSame_75 rfl hl (by decide) rfl (fun ls hl => ?_)
                    refine lv_iinc (v := (nI (j + 1))) (lv' := [(4, .int (nI (j + 1))), (3, .int (nI 1)), (0, .ref (r 0)), (1, .int (bI true)), (2, .int (nI k))]) hx hb dX6_isSame_76 hl (k := 4) rfl (by exact nI_1 _) (by decide) rfl (fun ls hl => ?_)
                    refine lv_goto (tgt := 36) hx hb dX6_isSame_79 (by decide) ?_
                    exact ih36 (j + 1) true (by omega) (by omega) (ex_t1 hd c46) _ _ _ hP hS (lv_sub hl [2, 3, 4, 1, 0] rfl)
                  · skip
                    refine lv_aload_n hx hb dX6_isSame_49 rfl (lv_at hl 0 rfl) ?_
                    refine va_get (D := D) (ci := 5) (v := .ref (r 12)) (C := RX6) (T := TX6) (N := 27) hx hb hts hin6 hown hK hP 0 rfl rfl 12 (by decide) fl36 (fun _ h9 => h9) rfl dX6_isSame_50 ?_
                    refine lv_iconst (v := nI 5) hx hb dX6_isSame_53 (by decide) ?_
                    refine lv_iload_n hx hb dX6_isSame_54 rfl (lv_at hl 2 rfl) ?_
                    refine wk_imul hx hb dX6_isSame_55 ?_
                    refine lv_aload_n hx hb dX6_isSame_56 rfl (lv_at hl 0 rfl) ?_
                    refine va_get (D := D) (ci := 5) (v := .ref (r 14)) (C := RX6) (T := TX6) (N := 27) hx hb hts hin6 hown hK hP 0 rfl rfl 14 (by decide) fl39 (fun _ h9 => h9) rfl dX6_isSame_57 ?_
                    refine lv_iconst (v := nI 5) hx hb dX6_isSame_60 (by decide) ?_
                    refine lv_iload hx hb dX6_isSame_61 (lv_at hl 4 rfl) ?_
                    refine wk_imul hx hb dX6_isSame_63 ?_
                    refine wk_Si (As := [.ref (r 12), .int (nI (5 * k)), .ref (r 14), .int (nI (5 * j))]) (rest := []) ⟨hx, hb, hml, hown, hts⟩ (c_X6_tops l D cI cJ cZ cA (r 12) (r 14) 7500 7500 (5 * k) (5 * j) a12 a14 (by omega) (by omega) (by omega) (by omega)) (va_cwS 4 hts gX6_isSame_X6_tops rfl rfl rfl (by decide +kernel) ⟨Nat.le_of_ble_eq_true rfl, Nat.le_of_ble_eq_true rfl⟩) hK hP [8, 9] rfl hS rfl hl.1 rfl (Nat.le_of_ble_eq_true rfl) dX6_isSame_64 ⟨Nat.zero_le _, Nat.zero_le _⟩ (fun H locs hP hS => ?_)
                    refine wk_if_eqb (tgt := 74) hx hb dX6_isSame_67 (by decide) (fun c67 => ?_) (fun c67 => ?_)
                    · skip
                      refine lv_iconst (v := nI 0) hx hb dX6_isSame_74 (by decide) ?_
                      refine lv_istore_n (lv' := [(3, .int (nI 0)), (0, .ref (r 0)), (1, .int (bI true)), (2, .int (nI k)), (4, .int (nI j))]) hx hb dX6_isSame_75 rfl hl (by decide) rfl (fun ls hl => ?_)
                      refine lv_iinc (v := (nI (j + 1))) (lv' := [(4, .int (nI (j + 1))), (3, .int (nI 0)), (0, .ref (r 0)), (1, .int (bI true)), (2, .int (nI k))]) hx hb dX6_isSame_76 hl (k := 4) rfl (by exact nI_1 _) (by decide) rfl (fun ls hl => ?_)
                      refine lv_goto (tgt := 36) hx hb dX6_isSame_79 (by decide) ?_
                      exact ih36 (j + 1) false (by omega) (by omega) (ex_f hd c46 (by rw [c67]; exact Bool.false_ne_true)) _ _ _ hP hS (lv_sub hl [2, 3, 4, 1, 0] rfl)
                    · skip
                      refine lv_iconst (v := nI 1) hx hb dX6_isSame_70 (by decide) ?_
                      refine lv_goto (tgt := 75) hx hb dX6_isSame_71 (by decide) ?_
                      refine lv_istore_n (lv' := [(3, .int (nI 1)), (0, .ref (r 0)), (1, .int (bI true)), (2, .int (nI k)), (4, .int (nI j))]) hx hb dX6_isSame_75 rfl hl (by decide) rfl (fun ls hl => ?_)
                      refine lv_iinc (v := (nI (j + 1))) (lv' := [(4, .int (nI (j + 1))), (3, .int (nI 1)), (0, .ref (r 0)), (1, .int (bI true)), (2, .int (nI k))]) hx hb dX6_isSame_76 hl (k := 4) rfl (by exact nI_1 _) (by decide) rfl (fun ls hl => ?_)
                      refine lv_goto (tgt := 36) hx hb dX6_isSame_79 (by decide) ?_
                      exact ih36 (j + 1) true (by omega) (by omega) (ex_t2 c67) _ _ _ hP hS (lv_sub hl [2, 3, 4, 1, 0] rfl)
            exact lp36 _ 0 false (Nat.lt_succ_self _) (by omega) ex_0 _ _ _ hP hS (lv_sub hl [2, 3, 4, 1, 0] rfl)
    exact lp19 _ 0 true (Nat.lt_succ_self _) (by omega) ⟨fun _ => ⟨c8, fun q hq => absurd hq (Nat.not_lt_zero q)⟩, fun _ => rfl⟩ _ _ _ hP hS (lv_sub hl [2, 1, 0] rfl)

set_option maxHeartbeats 4000000 in
set_option maxRecDepth 100000 in
theorem c_X6_leads (l : Launch) (D : va_G) (cI cJ cZ cA : ClassId) (r : Nat → Nat) (i0 i7 i8 i9 i13 i15 i17 i18 i19 i22 i23 : Int32) (a1 a2 a4 a5 a6 a10 a11 a12 a14 a16 a20 a21 a24 a25 a26 : Nat → Int32) (sz tr t y : Nat) (K : List Rw) (htr : tr ≤ 6) (ht6 : t ≤ 6) (hy : y ≤ 60) (hK9 : rowsV a11 (1000 * y) K) (hKl : K.length ≤ 200) (hc9 : a10 y = nI K.length) : Met l yX6_leads wsX6_leads ({ frames := 2, cells := 0, slots := 0, locals := 49 } : Room) (wr_P D (tysC cI cJ cZ cA) [.ref (r 0), .ref (r 26), .int (nI t), .int (nI y)] (mw cI r i0 (nI tr) i7 i8 i9 i13 i15 i17 i18 i19 i22 i23 a1 a2 a4 a5 a6 a10 a11 a12 a14 a16 a20 a21 a24 a25 a26) sz) (wr_Qi D (S := Nat → Int32) (mw cI r i0 (nI tr) i7 i8 i9 i13 i15 i17 i18 i19 i22 i23 a1 a2 a4 a5 a6 a10 a11 a12 a14 a16 a20 a21 a24 a25 a26) sz (fun r9 u => r9 = bI (leadsB tr a4 a5 a26 K t)) (fun u => (mw cI r i0 (nI tr) i7 i8 i9 i13 i15 i17 i18 i19 i22 i23 a1 a2 a4 a5 a6 a10 a11 a12 a14 a16 a20 a21 a24 u a26))) 0 0 (va_A (mw cI r i0 (nI tr) i7 i8 i9 i13 i15 i17 i18 i19 i22 i23 a1 a2 a4 a5 a6 a10 a11 a12 a14 a16 a20 a21 a24 a25 a26) sz) := by
  refine met_wi (cc := cX6_leads) (maxL := 5) (ty := .boolean) (by decide) rfl (Nat.le_of_ble_eq_true rfl) ?_
  intro p e s m args below meth c Q A hx hb hml hown hts hP hK hD hA hret ls hl
  obtain ⟨H, hH9⟩ : ∃ H : Heap, H = s.heap := ⟨_, rfl⟩
  have hP : va_P D vwCl (mw cI r i0 (nI tr) i7 i8 i9 i13 i15 i17 i18 i19 i22 i23 a1 a2 a4 a5 a6 a10 a11 a12 a14 a16 a20 a21 a24 a25 a26) H := by rw [hH9]; exact hP
  have hS : va_S A s.heap H [] := by rw [hH9]; exact va_S.rf
  rw [← hH9]
  have hown : s.vm.findClass RX6 = some m.cls := hown
  have hin6 : ∀ w ∈ wsX60, w ∈ wsX6_leads := by decide +kernel
  have fl54 := hts (.fieldLink RX6 54 "CoverRoundsModel" "work" "[I") (by decide +kernel)
  have fl19 := hts (.fieldLink RX6 19 "CoverRoundsModel" "gives" "[I") (by decide +kernel)
  have fl16 := hts (.fieldLink RX6 16 "CoverRoundsModel" "takes" "[I") (by decide +kernel)
  have hl : lv_has ls 5 [(0, .ref (r 0)), (1, .ref (r 26)), (2, .int (nI t)), (3, .int (nI y))] := hl
  refine lv_aload_n hx hb dX6_leads_0 rfl (lv_at hl 0 rfl) ?_
  refine lv_aload_n hx hb dX6_leads_1 rfl (lv_at hl 1 rfl) ?_
  refine lv_iconst (v := nI 0) hx hb dX6_leads_2 (by decide) ?_
  refine lv_iload_n hx hb dX6_leads_3 rfl (lv_at hl 2 rfl) ?_
  refine wk_Vi (As := [.ref (r 26), .int (nI 0), .int (nI t)]) (rest := []) ⟨hx, hb, hml, hown, hts⟩ (c_X6_canFire l D cI cJ cZ cA r i0 i7 i8 i9 i13 i15 i17 i18 i19 i22 i23 a1 a2 a4 a5 a6 a10 a11 a12 a14 a16 a20 a21 a24 a25 a26 tr (r 26) 5 0 a26 (nI t) (by omega) (by omega) (by omega)) (cwV 3 hts gX6_leads_X6_canFire rfl rfl rfl (by decide +kernel) ⟨Nat.le_of_ble_eq_true rfl, Nat.le_of_ble_eq_true rfl⟩) hK hP [0, 1, 2, 3, 4, 5, 6, 7, 8, 9, 10, 11, 12, 13, 14, 15, 15] rfl 0 5 rfl rfl hS rfl hl.1 rfl (Nat.le_of_ble_eq_true rfl) dX6_leads_4 ⟨Nat.zero_le _, Nat.zero_le _⟩ (fun H locs hP hS => ?_)
  refine wk_if_neb (tgt := 12) hx hb dX6_leads_7 (by decide) (fun c7 => ?_) (fun c7 => ?_)
  · skip
    have htt : t < tr := by
      have hc9 := c7
      unfold canM at hc9
      rw [Bool.and_eq_true] at hc9
      obtain ⟨j, hj, e⟩ := inB_nI (by omega) hc9.1
      have := (nI_eq (by omega) (by omega)).mp e
      omega
    refine lv_iconst (v := nI 0) hx hb dX6_leads_12 (by decide) ?_
    refine lv_istore (lv' := [(4, .int (nI 0)), (0, .ref (r 0)), (1, .ref (r 26)), (2, .int (nI t)), (3, .int (nI y))]) hx hb dX6_leads_13 hl (by decide) rfl (fun ls hl => ?_)
    have lp15 : ∀ (n9 : Nat) (q : Nat), 5 - q < n9 → q ≤ 5 → ∀ (H : Heap) (locs : List Loc) (ls : Array Slot), va_P D vwCl (mw cI r i0 (nI tr) i7 i8 i9 i13 i15 i17 i18 i19 i22 i23 a1 a2 a4 a5 a6 a10 a11 a12 a14 a16 a20 a21 a24 (cpN (fiW a4 a5 a26 t) a25 q) a26) H → va_D A (mw cI r i0 (nI tr) i7 i8 i9 i13 i15 i17 i18 i19 i22 i23 a1 a2 a4 a5 a6 a10 a11 a12 a14 a16 a20 a21 a24 (cpN (fiW a4 a5 a26 t) a25 q) a26) → va_S A s.heap H locs → lv_has ls 5 [(0, .ref (r 0)), (1, .ref (r 26)), (2, .int (nI t)), (3, .int (nI y)), (4, .int (nI q))] → W p l e ({ frames := 2, cells := 0, slots := 0, locals := 49 } : Room) s m args below meth c H locs 0 0 Q (F0 m 15 ls []) := by
      intro n9
      induction n9 with
      | zero => intro q hm15; exact absurd hm15 (Nat.not_lt_zero _)
      | succ n9 ih15 =>
        intro q hm15 hq H locs ls hP hD hS hl
        refine lv_iload hx hb dX6_leads_15 (lv_at hl 4 rfl) ?_
        refine lv_iconst (v := nI 5) hx hb dX6_leads_17 (by decide) ?_
        refine wk_icmp_ge (tgt := 62) hx hb (by omega) (by omega) dX6_leads_18 (by decide) (fun c18 => ?_) (fun c18 => ?_)
        · skip
          have hq9 : q = 5 := by omega
          subst hq9
          refine lv_aload_n hx hb dX6_leads_62 rfl (lv_at hl 0 rfl) ?_
          refine lv_aload_n hx hb dX6_leads_63 rfl (lv_at hl 0 rfl) ?_
          refine va_get (D := D) (ci := 5) (v := .ref (r 25)) (C := RX6) (T := TX6) (N := 27) hx hb hts hin6 hown hK hP 0 rfl rfl 25 (by decide) fl54 (fun _ h9 => h9) rfl dX6_leads_64 ?_
          refine lv_iload_n hx hb dX6_leads_67 rfl (lv_at hl 3 rfl) ?_
          refine wk_Vi (As := [.ref (r 25), .int (nI y)]) (rest := []) ⟨hx, hb, hml, hown, hts⟩ (c_X6_isInRound l D cI cJ cZ cA r i0 (nI tr) i7 i8 i9 i13 i15 i17 i18 i19 i22 i23 a1 a2 a4 a5 a6 a10 a11 a12 a14 a16 a20 a21 a24 (cpN (fiW a4 a5 a26 t) a25 5) a26 (r 25) 5 y (cpN (fiW a4 a5 a26 t) a25 5) K (by omega) (by omega) (by omega) hK9 hKl hc9) (cwV 2 hts gX6_leads_X6_isInRound rfl rfl rfl (by decide +kernel) ⟨Nat.le_of_ble_eq_true rfl, Nat.le_of_ble_eq_true rfl⟩) hK hP [0, 1, 2, 3, 4, 5, 6, 7, 8, 9, 10, 11, 12, 13, 14, 15, 14] rfl 0 5 rfl rfl hS rfl hl.1 rfl (Nat.le_of_ble_eq_true rfl) dX6_leads_68 ⟨Nat.zero_le _, Nat.zero_le _⟩ (fun H locs hP hS => ?_)
          exact hret _ _ _ _ _ _ _ _ (bI_n _) (congrArg bI (by rw [any_cg (g := fiW a4 a5 a26 t) (fun q hq => cpN_lt hq)]; simp [leadsB, c7])) hP hD dX6_leads_71 hS (Nat.zero_le _) (Nat.zero_le _)
        · skip
          refine lv_aload_n hx hb dX6_leads_21 rfl (lv_at hl 0 rfl) ?_
          refine va_get (D := D) (ci := 5) (v := .ref (r 25)) (C := RX6) (T := TX6) (N := 27) hx hb hts hin6 hown hK hP 0 rfl rfl 25 (by decide) fl54 (fun _ h9 => h9) rfl dX6_leads_22 ?_
          refine lv_iload hx hb dX6_leads_25 (lv_at hl 4 rfl) ?_
          refine lv_aload_n hx hb dX6_leads_27 rfl (lv_at hl 1 rfl) ?_
          refine lv_iload hx hb dX6_leads_28 (lv_at hl 4 rfl) ?_
          refine wk_iald hx hb hK hP 15 0 rfl rfl (i := q) (by omega) (by omega) dX6_leads_30 ?_
          refine lv_aload_n hx hb dX6_leads_31 rfl (lv_at hl 0 rfl) ?_
          refine va_get (D := D) (ci := 5) (v := .ref (r 5)) (C := RX6) (T := TX6) (N := 27) hx hb hts hin6 hown hK hP 0 rfl rfl 5 (by decide) fl19 (fun _ h9 => h9) rfl dX6_leads_32 ?_
          refine lv_iconst (v := nI 5) hx hb dX6_leads_35 (by decide) ?_
          refine lv_iload_n hx hb dX6_leads_36 rfl (lv_at hl 2 rfl) ?_
          refine wk_imul hx hb dX6_leads_37 ?_
          refine lv_iload hx hb dX6_leads_38 (lv_at hl 4 rfl) ?_
          refine wk_iadd hx hb dX6_leads_40 ?_
          refine wk_iald hx hb hK hP 4 0 rfl rfl (i := (5 * t) + q) (by omega) (by omega) dX6_leads_41 ?_
          refine lv_iadd hx hb dX6_leads_42 ?_
          refine lv_aload_n hx hb dX6_leads_43 rfl (lv_at hl 0 rfl) ?_
          refine va_get (D := D) (ci := 5) (v := .ref (r 4)) (C := RX6) (T := TX6) (N := 27) hx hb hts hin6 hown hK hP 0 rfl rfl 4 (by decide) fl16 (fun _ h9 => h9) rfl dX6_leads_44 ?_
          refine lv_iconst (v := nI 5) hx hb dX6_leads_47 (by decide) ?_
          refine lv_iload_n hx hb dX6_leads_48 rfl (lv_at hl 2 rfl) ?_
          refine wk_imul hx hb dX6_leads_49 ?_
          refine lv_iload hx hb dX6_leads_50 (lv_at hl 4 rfl) ?_
          refine wk_iadd hx hb dX6_leads_52 ?_
          refine wk_iald hx hb hK hP 3 0 rfl rfl (i := (5 * t) + q) (by omega) (by omega) dX6_leads_53 ?_
          refine lv_isub hx hb dX6_leads_54 ?_
          refine wk_iast hx hb hK hP hD hS 14 0 rfl rfl (i := q) (by omega) (by omega) dX6_leads_55 (fun H locs hP hD hS => ?_)
          have hP : va_P D vwCl (mw cI r i0 (nI tr) i7 i8 i9 i13 i15 i17 i18 i19 i22 i23 a1 a2 a4 a5 a6 a10 a11 a12 a14 a16 a20 a21 a24 (upd (cpN (fiW a4 a5 a26 t) a25 q) q (((a26 q) + (a5 ((5 * t) + q))) - (a4 ((5 * t) + q)))) a26) H := hP
          have hD : va_D A (mw cI r i0 (nI tr) i7 i8 i9 i13 i15 i17 i18 i19 i22 i23 a1 a2 a4 a5 a6 a10 a11 a12 a14 a16 a20 a21 a24 (upd (cpN (fiW a4 a5 a26 t) a25 q) q (((a26 q) + (a5 ((5 * t) + q))) - (a4 ((5 * t) + q)))) a26) := hD
          refine lv_iinc (v := (nI (q + 1))) (lv' := [(4, .int (nI (q + 1))), (0, .ref (r 0)), (1, .ref (r 26)), (2, .int (nI t)), (3, .int (nI y))]) hx hb dX6_leads_56 hl (k := 4) rfl (by exact nI_1 _) (by decide) rfl (fun ls hl => ?_)
          refine lv_goto (tgt := 15) hx hb dX6_leads_59 (by decide) ?_
          have hP : va_P D vwCl (mw cI r i0 (nI tr) i7 i8 i9 i13 i15 i17 i18 i19 i22 i23 a1 a2 a4 a5 a6 a10 a11 a12 a14 a16 a20 a21 a24 (cpN (fiW a4 a5 a26 t) a25 (q + 1)) a26) H := by rw [← cpN_s]; exact hP
          have hD : va_D A (mw cI r i0 (nI tr) i7 i8 i9 i13 i15 i17 i18 i19 i22 i23 a1 a2 a4 a5 a6 a10 a11 a12 a14 a16 a20 a21 a24 (cpN (fiW a4 a5 a26 t) a25 (q + 1)) a26) := by rw [← cpN_s]; exact hD
          exact ih15 (q + 1) (by omega) (by omega) _ _ _ hP hD hS (lv_sub hl [1, 2, 3, 4, 0] rfl)
    have hP : va_P D vwCl (mw cI r i0 (nI tr) i7 i8 i9 i13 i15 i17 i18 i19 i22 i23 a1 a2 a4 a5 a6 a10 a11 a12 a14 a16 a20 a21 a24 (cpN (fiW a4 a5 a26 t) a25 0) a26) H := by rw [cpN_0]; exact hP
    have hD : va_D A (mw cI r i0 (nI tr) i7 i8 i9 i13 i15 i17 i18 i19 i22 i23 a1 a2 a4 a5 a6 a10 a11 a12 a14 a16 a20 a21 a24 (cpN (fiW a4 a5 a26 t) a25 0) a26) := by rw [cpN_0]; exact hD
    exact lp15 _ 0 (Nat.lt_succ_self _) (by omega) _ _ _ hP hD hS (lv_sub hl [1, 2, 3, 4, 0] rfl)
  · skip
    refine lv_iconst (v := nI 0) hx hb dX6_leads_10 (by decide) ?_
    exact hret _ a25 _ _ _ _ _ _ rfl (bI_F (by simp [leadsB, c7])) hP hD dX6_leads_11 hS (Nat.zero_le _) (Nat.zero_le _)
end
section
set_option maxHeartbeats 4000000 in
set_option maxRecDepth 100000 in
theorem c_X6_tellRow (l : Launch) (D : va_G) (cI cJ cZ cA : ClassId) (r : Nat → Nat) (i0 i7 i9 i13 i15 i17 i18 i19 i22 i23 : Int32) (a1 a2 a4 a5 a6 a10 a11 a12 a14 a16 a20 a21 a24 a25 a26 : Nat → Int32) (sz tr la : Nat) (Ks : Nat → List Rw) (gt : Nat → Nat) (htr : tr ≤ 6) (hla : la ≤ 60) (hKs : ∀ j, j < la → rowsV a11 (1000 * j) (Ks j) ∧ (Ks j).length ≤ 200 ∧ a10 j = nI (Ks j).length) (hg : ∀ k, k < la → gt k < tr ∧ leadsB tr a4 a5 (gAt a4 a5 a1 gt k) (Ks (la - k - 1)) (gt k) = true ∧ ∀ t, t < gt k → leadsB tr a4 a5 (gAt a4 a5 a1 gt k) (Ks (la - k - 1)) t = false) : Met l yX6_tellRow wsX6_tellRow ({ frames := 3, cells := 0, slots := 0, locals := 73 } : Room) (wr_P D (tysC cI cJ cZ cA) [.ref (r 0)] (mw cI r i0 (nI tr) i7 (nI la) i9 i13 i15 i17 i18 i19 i22 i23 a1 a2 a4 a5 a6 a10 a11 a12 a14 a16 a20 a21 a24 a25 a26) sz) (wr_Qv D (S := (Nat → Int32) × (Nat → Int32) × (Nat → Int32)) (mw cI r i0 (nI tr) i7 (nI la) i9 i13 i15 i17 i18 i19 i22 i23 a1 a2 a4 a5 a6 a10 a11 a12 a14 a16 a20 a21 a24 a25 a26) sz (fun u => ∀ j, j < la → u.1 j = nI (gt j)) (fun u => (mw cI r i0 (nI tr) i7 (nI la) i9 i13 i15 i17 i18 i19 i22 i23 a1 a2 a4 a5 a6 a10 a11 a12 a14 u.1 a20 a21 a24 u.2.1 u.2.2))) 0 0 (va_A (mw cI r i0 (nI tr) i7 (nI la) i9 i13 i15 i17 i18 i19 i22 i23 a1 a2 a4 a5 a6 a10 a11 a12 a14 a16 a20 a21 a24 a25 a26) sz) := by
  refine met_wv (cc := cX6_tellRow) (maxL := 5) (by decide) rfl (Nat.le_of_ble_eq_true rfl) ?_
  intro p e s m args below meth c Q A hx hb hml hown hts hP hK hD hA hret ls hl
  obtain ⟨H, hH9⟩ : ∃ H : Heap, H = s.heap := ⟨_, rfl⟩
  have hP : va_P D vwCl (mw cI r i0 (nI tr) i7 (nI la) i9 i13 i15 i17 i18 i19 i22 i23 a1 a2 a4 a5 a6 a10 a11 a12 a14 a16 a20 a21 a24 a25 a26) H := by rw [hH9]; exact hP
  have hS : va_S A s.heap H [] := by rw [hH9]; exact va_S.rf
  rw [← hH9]
  have hown : s.vm.findClass RX6 = some m.cls := hown
  have hin6 : ∀ w ∈ wsX60, w ∈ wsX6_tellRow := by decide +kernel
  have fl57 := hts (.fieldLink RX6 57 "CoverRoundsModel" "trail" "[I") (by decide +kernel)
  have fl7 := hts (.fieldLink RX6 7 "CoverRoundsModel" "first" "[I") (by decide +kernel)
  have fl96 := hts (.fieldLink RX6 96 "CoverRoundsModel" "last" "I") (by decide +kernel)
  have fl42 := hts (.fieldLink RX6 42 "CoverRoundsModel" "rows" "[I") (by decide +kernel)
  have fl19 := hts (.fieldLink RX6 19 "CoverRoundsModel" "gives" "[I") (by decide +kernel)
  have fl16 := hts (.fieldLink RX6 16 "CoverRoundsModel" "takes" "[I") (by decide +kernel)
  have hl : lv_has ls 5 [(0, .ref (r 0))] := hl
  refine lv_aload_n hx hb dX6_tellRow_0 rfl (lv_at hl 0 rfl) ?_
  refine va_get (D := D) (ci := 5) (v := .ref (r 26)) (C := RX6) (T := TX6) (N := 27) hx hb hts hin6 hown hK hP 0 rfl rfl 26 (by decide) fl57 (fun _ h9 => h9) rfl dX6_tellRow_1 ?_
  refine lv_astore_n (lv' := [(1, .ref (r 26)), (0, .ref (r 0))]) hx hb dX6_tellRow_4 rfl hl (by decide) rfl (fun ls hl => ?_)
  refine lv_iconst (v := nI 0) hx hb dX6_tellRow_5 (by decide) ?_
  refine lv_istore_n (lv' := [(2, .int (nI 0)), (1, .ref (r 26)), (0, .ref (r 0))]) hx hb dX6_tellRow_6 rfl hl (by decide) rfl (fun ls hl => ?_)
  have lp7 : ∀ (n9 : Nat) (q : Nat), 5 - q < n9 → q ≤ 5 → ∀ (H : Heap) (locs : List Loc) (ls : Array Slot), va_P D vwCl (mw cI r i0 (nI tr) i7 (nI la) i9 i13 i15 i17 i18 i19 i22 i23 a1 a2 a4 a5 a6 a10 a11 a12 a14 a16 a20 a21 a24 a25 (cpN a1 a26 q)) H → va_D A (mw cI r i0 (nI tr) i7 (nI la) i9 i13 i15 i17 i18 i19 i22 i23 a1 a2 a4 a5 a6 a10 a11 a12 a14 a16 a20 a21 a24 a25 (cpN a1 a26 q)) → va_S A s.heap H locs → lv_has ls 5 [(0, .ref (r 0)), (1, .ref (r 26)), (2, .int (nI q))] → W p l e ({ frames := 3, cells := 0, slots := 0, locals := 73 } : Room) s m args below meth c H locs 0 0 Q (F0 m 7 ls []) := by
    intro n9
    induction n9 with
    | zero => intro q hm7; exact absurd hm7 (Nat.not_lt_zero _)
    | succ n9 ih7 =>
      intro q hm7 hq H locs ls hP hD hS hl
      refine lv_iload_n hx hb dX6_tellRow_7 rfl (lv_at hl 2 rfl) ?_
      refine lv_iconst (v := nI 5) hx hb dX6_tellRow_8 (by decide) ?_
      refine wk_icmp_ge (tgt := 27) hx hb (by omega) (by omega) dX6_tellRow_9 (by decide) (fun c9 => ?_) (fun c9 => ?_)
      · skip
        have hq9 : q = 5 := by omega
        subst hq9
        refine lv_iconst (v := nI 0) hx hb dX6_tellRow_27 (by decide) ?_
        refine lv_istore_n (lv' := [(2, .int (nI 0)), (0, .ref (r 0)), (1, .ref (r 26))]) hx hb dX6_tellRow_28 rfl hl (by decide) rfl (fun ls hl => ?_)
        have lp29 : ∀ (n9 : Nat) (k : Nat) (f16 : Nat → Int32) (f25 : Nat → Int32) (f26 : Nat → Int32), la - k < n9 → k ≤ la → (∀ j, j < k → f16 j = nI (gt j)) → (∀ q, q < 5 → f26 q = gAt a4 a5 a1 gt k q) → ∀ (H : Heap) (locs : List Loc) (ls : Array Slot), va_P D vwCl (mw cI r i0 (nI tr) i7 (nI la) i9 i13 i15 i17 i18 i19 i22 i23 a1 a2 a4 a5 a6 a10 a11 a12 a14 f16 a20 a21 a24 f25 f26) H → va_D A (mw cI r i0 (nI tr) i7 (nI la) i9 i13 i15 i17 i18 i19 i22 i23 a1 a2 a4 a5 a6 a10 a11 a12 a14 f16 a20 a21 a24 f25 f26) → va_S A s.heap H locs → lv_has ls 5 [(0, .ref (r 0)), (1, .ref (r 26)), (2, .int (nI k))] → W p l e ({ frames := 3, cells := 0, slots := 0, locals := 73 } : Room) s m args below meth c H locs 0 0 Q (F0 m 29 ls []) := by
          intro n9
          induction n9 with
          | zero => intro k f16 f25 f26 hm29; exact absurd hm29 (Nat.not_lt_zero _)
          | succ n9 ih29 =>
            intro k f16 f25 f26 hm29 hk h16 h26 H locs ls hP hD hS hl
            refine lv_iload_n hx hb dX6_tellRow_29 rfl (lv_at hl 2 rfl) ?_
            refine lv_aload_n hx hb dX6_tellRow_30 rfl (lv_at hl 0 rfl) ?_
            refine va_get (D := D) (ci := 5) (v := .int (nI la)) (C := RX6) (T := TX6) (N := 27) hx hb hts hin6 hown hK hP 0 rfl rfl 8 (by decide) fl96 (fun _ h9 => h9) rfl dX6_tellRow_31 ?_
            refine wk_icmp_ge (tgt := 120) hx hb (by omega) (by omega) dX6_tellRow_34 (by decide) (fun c34 => ?_) (fun c34 => ?_)
            · skip
              have hkl : k = la := by omega
              subst hkl
              exact hret (f16, f25, f26) _ _ _ _ _ _ h16 hP hD dX6_tellRow_120 hS (Nat.zero_le _) (Nat.zero_le _)
            · skip
              obtain ⟨hg1, hg2, hg3⟩ := hg k (by omega)
              refine lv_iconst (v := nI 0) hx hb dX6_tellRow_37 (by decide) ?_
              refine lv_istore_n (lv' := [(3, .int (nI 0)), (0, .ref (r 0)), (1, .ref (r 26)), (2, .int (nI k))]) hx hb dX6_tellRow_38 rfl hl (by decide) rfl (fun ls hl => ?_)
              have lp39 : ∀ (n9 : Nat) (t : Nat) (g25 : Nat → Int32), gt k - t < n9 → t ≤ gt k → ∀ (H : Heap) (locs : List Loc) (ls : Array Slot), va_P D vwCl (mw cI r i0 (nI tr) i7 (nI la) i9 i13 i15 i17 i18 i19 i22 i23 a1 a2 a4 a5 a6 a10 a11 a12 a14 f16 a20 a21 a24 g25 f26) H → va_D A (mw cI r i0 (nI tr) i7 (nI la) i9 i13 i15 i17 i18 i19 i22 i23 a1 a2 a4 a5 a6 a10 a11 a12 a14 f16 a20 a21 a24 g25 f26) → va_S A s.heap H locs → lv_has ls 5 [(0, .ref (r 0)), (1, .ref (r 26)), (2, .int (nI k)), (3, .int (nI t))] → W p l e ({ frames := 3, cells := 0, slots := 0, locals := 73 } : Room) s m args below meth c H locs 0 0 Q (F0 m 39 ls []) := by
                intro n9
                induction n9 with
                | zero => intro t g25 hm39; exact absurd hm39 (Nat.not_lt_zero _)
                | succ n9 ih39 =>
                  intro t g25 hm39 ht H locs ls hP hD hS hl
                  refine lv_aload_n hx hb dX6_tellRow_39 rfl (lv_at hl 0 rfl) ?_
                  refine lv_aload_n hx hb dX6_tellRow_40 rfl (lv_at hl 1 rfl) ?_
                  refine lv_iload_n hx hb dX6_tellRow_41 rfl (lv_at hl 3 rfl) ?_
                  refine lv_aload_n hx hb dX6_tellRow_42 rfl (lv_at hl 0 rfl) ?_
                  refine va_get (D := D) (ci := 5) (v := .int (nI la)) (C := RX6) (T := TX6) (N := 27) hx hb hts hin6 hown hK hP 0 rfl rfl 8 (by decide) fl96 (fun _ h9 => h9) rfl dX6_tellRow_43 ?_
                  refine lv_iload_n hx hb dX6_tellRow_46 rfl (lv_at hl 2 rfl) ?_
                  refine wk_isub hx hb (by omega) dX6_tellRow_47 ?_
                  refine lv_iconst (v := nI 1) hx hb dX6_tellRow_48 (by decide) ?_
                  refine wk_isub hx hb (by omega) dX6_tellRow_49 ?_
                  refine wk_ViW (As := [.ref (r 26), .int (nI t), .int (nI ((la - k) - 1))]) (rest := []) (wr := []) ⟨hx, hb, hml, hown, hts⟩ (c_X6_leads l D cI cJ cZ cA r i0 i7 (nI la) i9 i13 i15 i17 i18 i19 i22 i23 a1 a2 a4 a5 a6 a10 a11 a12 a14 f16 a20 a21 a24 g25 f26 H.size tr t ((la - k) - 1) (Ks ((la - k) - 1)) htr (by omega) (by omega) (hKs _ (by omega)).1 (hKs _ (by omega)).2.1 (hKs _ (by omega)).2.2) (cwV 3 hts gX6_tellRow_X6_leads rfl rfl rfl (by decide +kernel) ⟨Nat.le_of_ble_eq_true rfl, Nat.le_of_ble_eq_true rfl⟩) hK hP hD hA [0, 1, 2, 3, 4, 5, 6, 7, 8, 9, 10, 11, 12, 13, 14, 15] rfl (by decide) [] rfl (by decide) (by decide) 0 5 rfl rfl hS rfl hl.1 rfl (Nat.le_of_ble_eq_true rfl) dX6_tellRow_50 ⟨Nat.le_of_ble_eq_true rfl, Nat.le_of_ble_eq_true rfl⟩ (fun r9 u9 H locs hu hP hD hS => ?_)
                  subst hu
                  have hP : va_P D vwCl (mw cI r i0 (nI tr) i7 (nI la) i9 i13 i15 i17 i18 i19 i22 i23 a1 a2 a4 a5 a6 a10 a11 a12 a14 f16 a20 a21 a24 u9 f26) H := hP
                  have hD : va_D A (mw cI r i0 (nI tr) i7 (nI la) i9 i13 i15 i17 i18 i19 i22 i23 a1 a2 a4 a5 a6 a10 a11 a12 a14 f16 a20 a21 a24 u9 f26) := hD
                  refine wk_if_neb (tgt := 62) hx hb dX6_tellRow_53 (by decide) (fun c53 => ?_) (fun c53 => ?_)
                  · skip
                    have htg : t = gt k := by
                      rcases Nat.lt_or_eq_of_le ht with h | h
                      · rw [leadsB_cg h26, hg3 t h] at c53
                        cases c53
                      · exact h
                    refine lv_aload_n hx hb dX6_tellRow_62 rfl (lv_at hl 0 rfl) ?_
                    refine va_get (D := D) (ci := 5) (v := .ref (r 16)) (C := RX6) (T := TX6) (N := 27) hx hb hts hin6 hown hK hP 0 rfl rfl 16 (by decide) fl42 (fun _ h9 => h9) rfl dX6_tellRow_63 ?_
                    refine lv_iload_n hx hb dX6_tellRow_66 rfl (lv_at hl 2 rfl) ?_
                    refine lv_iload_n hx hb dX6_tellRow_67 rfl (lv_at hl 3 rfl) ?_
                    refine wk_iast hx hb hK hP hD hS 10 0 rfl rfl (i := k) (by omega) (by omega) dX6_tellRow_68 (fun H locs hP hD hS => ?_)
                    have hP : va_P D vwCl (mw cI r i0 (nI tr) i7 (nI la) i9 i13 i15 i17 i18 i19 i22 i23 a1 a2 a4 a5 a6 a10 a11 a12 a14 (upd f16 k (nI t)) a20 a21 a24 u9 f26) H := hP
                    have hD : va_D A (mw cI r i0 (nI tr) i7 (nI la) i9 i13 i15 i17 i18 i19 i22 i23 a1 a2 a4 a5 a6 a10 a11 a12 a14 (upd f16 k (nI t)) a20 a21 a24 u9 f26) := hD
                    refine lv_iconst (v := nI 0) hx hb dX6_tellRow_69 (by decide) ?_
                    refine lv_istore (lv' := [(4, .int (nI 0)), (0, .ref (r 0)), (1, .ref (r 26)), (2, .int (nI k)), (3, .int (nI t))]) hx hb dX6_tellRow_70 hl (by decide) rfl (fun ls hl => ?_)
                    have lp72 : ∀ (n9 : Nat) (q : Nat) (h25 : Nat → Int32), 5 - q < n9 → q ≤ 5 → ∀ (H : Heap) (locs : List Loc) (ls : Array Slot), va_P D vwCl (mw cI r i0 (nI tr) i7 (nI la) i9 i13 i15 i17 i18 i19 i22 i23 a1 a2 a4 a5 a6 a10 a11 a12 a14 (upd f16 k (nI t)) a20 a21 a24 h25 (cpN (fiM a4 a5 f26 t) f26 q)) H → va_D A (mw cI r i0 (nI tr) i7 (nI la) i9 i13 i15 i17 i18 i19 i22 i23 a1 a2 a4 a5 a6 a10 a11 a12 a14 (upd f16 k (nI t)) a20 a21 a24 h25 (cpN (fiM a4 a5 f26 t) f26 q)) → va_S A s.heap H locs → lv_has ls 5 [(0, .ref (r 0)), (1, .ref (r 26)), (2, .int (nI k)), (3, .int (nI t)), (4, .int (nI q))] → W p l e ({ frames := 3, cells := 0, slots := 0, locals := 73 } : Room) s m args below meth c H locs 0 0 Q (F0 m 72 ls []) := by
                      intro n9
                      induction n9 with
                      | zero => intro q h25 hm72; exact absurd hm72 (Nat.not_lt_zero _)
                      | succ n9 ih72 =>
                        intro q h25 hm72 hq H locs ls hP hD hS hl
                        refine lv_iload hx hb dX6_tellRow_72 (lv_at hl 4 rfl) ?_
                        refine lv_iconst (v := nI 5) hx hb dX6_tellRow_74 (by decide) ?_
                        refine wk_icmp_ge (tgt := 114) hx hb (by omega) (by omega) dX6_tellRow_75 (by decide) (fun c75 => ?_) (fun c75 => ?_)
                        · skip
                          have hq9 : q = 5 := by omega
                          subst hq9
                          refine lv_iinc (v := (nI (k + 1))) (lv' := [(2, .int (nI (k + 1))), (0, .ref (r 0)), (1, .ref (r 26)), (3, .int (nI t)), (4, .int (nI 5))]) hx hb dX6_tellRow_114 hl (k := 2) rfl (by exact nI_1 _) (by decide) rfl (fun ls hl => ?_)
                          refine lv_goto (tgt := 29) hx hb dX6_tellRow_117 (by decide) ?_
                          exact ih29 (k + 1) (upd f16 k (nI t)) h25 (cpN (fiM a4 a5 f26 t) f26 5) (by omega) (by omega) (fun j hj => by rcases Nat.lt_or_eq_of_le (Nat.le_of_lt_succ hj) with h1 | rfl; rw [pk_un (by omega)]; exact h16 j h1; rw [pk_us, htg]) (fun q hq => by rw [cpN_lt hq]; show f26 q + _ = gAt a4 a5 a1 gt k q + _; rw [h26 q hq, htg]) _ _ _ hP hD hS (lv_sub hl [1, 2, 0] rfl)
                        · skip
                          refine lv_aload_n hx hb dX6_tellRow_78 rfl (lv_at hl 1 rfl) ?_
                          refine lv_iload hx hb dX6_tellRow_79 (lv_at hl 4 rfl) ?_
                          refine lv_dup2_11 hx hb dX6_tellRow_81 rfl rfl ?_
                          refine wk_iald hx hb hK hP 15 0 rfl rfl (i := q) (by omega) (by omega) dX6_tellRow_82 ?_
                          rw [show ((cpN (fiM a4 a5 f26 t) f26 q) q) = (f26 q) from cpN_ge (Nat.le_refl _)]
                          refine lv_aload_n hx hb dX6_tellRow_83 rfl (lv_at hl 0 rfl) ?_
                          refine va_get (D := D) (ci := 5) (v := .ref (r 5)) (C := RX6) (T := TX6) (N := 27) hx hb hts hin6 hown hK hP 0 rfl rfl 5 (by decide) fl19 (fun _ h9 => h9) rfl dX6_tellRow_84 ?_
                          refine lv_iconst (v := nI 5) hx hb dX6_tellRow_87 (by decide) ?_
                          refine lv_iload_n hx hb dX6_tellRow_88 rfl (lv_at hl 3 rfl) ?_
                          refine wk_imul hx hb dX6_tellRow_89 ?_
                          refine lv_iload hx hb dX6_tellRow_90 (lv_at hl 4 rfl) ?_
                          refine wk_iadd hx hb dX6_tellRow_92 ?_
                          refine wk_iald hx hb hK hP 4 0 rfl rfl (i := (5 * t) + q) (by omega) (by omega) dX6_tellRow_93 ?_
                          refine lv_aload_n hx hb dX6_tellRow_94 rfl (lv_at hl 0 rfl) ?_
                          refine va_get (D := D) (ci := 5) (v := .ref (r 4)) (C := RX6) (T := TX6) (N := 27) hx hb hts hin6 hown hK hP 0 rfl rfl 4 (by decide) fl16 (fun _ h9 => h9) rfl dX6_tellRow_95 ?_
                          refine lv_iconst (v := nI 5) hx hb dX6_tellRow_98 (by decide) ?_
                          refine lv_iload_n hx hb dX6_tellRow_99 rfl (lv_at hl 3 rfl) ?_
                          refine wk_imul hx hb dX6_tellRow_100 ?_
                          refine lv_iload hx hb dX6_tellRow_101 (lv_at hl 4 rfl) ?_
                          refine wk_iadd hx hb dX6_tellRow_103 ?_
                          refine wk_iald hx hb hK hP 3 0 rfl rfl (i := (5 * t) + q) (by omega) (by omega) dX6_tellRow_104 ?_
                          refine lv_isub hx hb dX6_tellRow_105 ?_
                          refine lv_iadd hx hb dX6_tellRow_106 ?_
                          refine wk_iast hx hb hK hP hD hS 15 0 rfl rfl (i := q) (by omega) (by omega) dX6_tellRow_107 (fun H locs hP hD hS => ?_)
                          have hP : va_P D vwCl (mw cI r i0 (nI tr) i7 (nI la) i9 i13 i15 i17 i18 i19 i22 i23 a1 a2 a4 a5 a6 a10 a11 a12 a14 (upd f16 k (nI t)) a20 a21 a24 h25 (upd (cpN (fiM a4 a5 f26 t) f26 q) q ((f26 q) + ((a5 ((5 * t) + q)) - (a4 ((5 * t) + q)))))) H := hP
                          have hD : va_D A (mw cI r i0 (nI tr) i7 (nI la) i9 i13 i15 i17 i18 i19 i22 i23 a1 a2 a4 a5 a6 a10 a11 a12 a14 (upd f16 k (nI t)) a20 a21 a24 h25 (upd (cpN (fiM a4 a5 f26 t) f26 q) q ((f26 q) + ((a5 ((5 * t) + q)) - (a4 ((5 * t) + q)))))) := hD
                          refine lv_iinc (v := (nI (q + 1))) (lv' := [(4, .int (nI (q + 1))), (0, .ref (r 0)), (1, .ref (r 26)), (2, .int (nI k)), (3, .int (nI t))]) hx hb dX6_tellRow_108 hl (k := 4) rfl (by exact nI_1 _) (by decide) rfl (fun ls hl => ?_)
                          refine lv_goto (tgt := 72) hx hb dX6_tellRow_111 (by decide) ?_
                          have hP : va_P D vwCl (mw cI r i0 (nI tr) i7 (nI la) i9 i13 i15 i17 i18 i19 i22 i23 a1 a2 a4 a5 a6 a10 a11 a12 a14 (upd f16 k (nI t)) a20 a21 a24 h25 (cpN (fiM a4 a5 f26 t) f26 (q + 1))) H := by rw [← cpN_s]; exact hP
                          have hD : va_D A (mw cI r i0 (nI tr) i7 (nI la) i9 i13 i15 i17 i18 i19 i22 i23 a1 a2 a4 a5 a6 a10 a11 a12 a14 (upd f16 k (nI t)) a20 a21 a24 h25 (cpN (fiM a4 a5 f26 t) f26 (q + 1))) := by rw [← cpN_s]; exact hD
                          exact ih72 (q + 1) h25 (by omega) (by omega) _ _ _ hP hD hS (lv_sub hl [1, 2, 3, 4, 0] rfl)
                    have hP : va_P D vwCl (mw cI r i0 (nI tr) i7 (nI la) i9 i13 i15 i17 i18 i19 i22 i23 a1 a2 a4 a5 a6 a10 a11 a12 a14 (upd f16 k (nI t)) a20 a21 a24 u9 (cpN (fiM a4 a5 f26 t) f26 0)) H := by rw [cpN_0]; exact hP
                    have hD : va_D A (mw cI r i0 (nI tr) i7 (nI la) i9 i13 i15 i17 i18 i19 i22 i23 a1 a2 a4 a5 a6 a10 a11 a12 a14 (upd f16 k (nI t)) a20 a21 a24 u9 (cpN (fiM a4 a5 f26 t) f26 0)) := by rw [cpN_0]; exact hD
                    exact lp72 _ 0 u9 (Nat.lt_succ_self _) (by omega) _ _ _ hP hD hS (lv_sub hl [1, 2, 3, 4, 0] rfl)
                  · skip
                    have htl : t + 1 ≤ gt k := by
                      rcases Nat.lt_or_eq_of_le ht with h | h
                      · exact h
                      · rw [leadsB_cg h26, h, hg2] at c53
                        cases c53
                    refine lv_iinc (v := (nI (t + 1))) (lv' := [(3, .int (nI (t + 1))), (0, .ref (r 0)), (1, .ref (r 26)), (2, .int (nI k))]) hx hb dX6_tellRow_56 hl (k := 3) rfl (by exact nI_1 _) (by decide) rfl (fun ls hl => ?_)
                    refine lv_goto (tgt := 39) hx hb dX6_tellRow_59 (by decide) ?_
                    exact ih39 (t + 1) u9 (by omega) htl _ _ _ hP hD hS (lv_sub hl [1, 2, 3, 0] rfl)
              exact lp39 _ 0 f25 (Nat.lt_succ_self _) (Nat.zero_le _) _ _ _ hP hD hS (lv_sub hl [1, 2, 3, 0] rfl)
        exact lp29 _ 0 a16 a25 (cpN a1 a26 5) (Nat.lt_succ_self _) (by omega) (fun j h => absurd h (Nat.not_lt_zero j)) (fun q hq => cpN_lt hq) _ _ _ hP hD hS (lv_sub hl [1, 2, 0] rfl)
      · skip
        refine lv_aload_n hx hb dX6_tellRow_12 rfl (lv_at hl 1 rfl) ?_
        refine lv_iload_n hx hb dX6_tellRow_13 rfl (lv_at hl 2 rfl) ?_
        refine lv_aload_n hx hb dX6_tellRow_14 rfl (lv_at hl 0 rfl) ?_
        refine va_get (D := D) (ci := 5) (v := .ref (r 1)) (C := RX6) (T := TX6) (N := 27) hx hb hts hin6 hown hK hP 0 rfl rfl 1 (by decide) fl7 (fun _ h9 => h9) rfl dX6_tellRow_15 ?_
        refine lv_iload_n hx hb dX6_tellRow_18 rfl (lv_at hl 2 rfl) ?_
        refine wk_iald hx hb hK hP 1 0 rfl rfl (i := q) (by omega) (by omega) dX6_tellRow_19 ?_
        refine wk_iast hx hb hK hP hD hS 15 0 rfl rfl (i := q) (by omega) (by omega) dX6_tellRow_20 (fun H locs hP hD hS => ?_)
        have hP : va_P D vwCl (mw cI r i0 (nI tr) i7 (nI la) i9 i13 i15 i17 i18 i19 i22 i23 a1 a2 a4 a5 a6 a10 a11 a12 a14 a16 a20 a21 a24 a25 (upd (cpN a1 a26 q) q (a1 q))) H := hP
        have hD : va_D A (mw cI r i0 (nI tr) i7 (nI la) i9 i13 i15 i17 i18 i19 i22 i23 a1 a2 a4 a5 a6 a10 a11 a12 a14 a16 a20 a21 a24 a25 (upd (cpN a1 a26 q) q (a1 q))) := hD
        refine lv_iinc (v := (nI (q + 1))) (lv' := [(2, .int (nI (q + 1))), (0, .ref (r 0)), (1, .ref (r 26))]) hx hb dX6_tellRow_21 hl (k := 2) rfl (by exact nI_1 _) (by decide) rfl (fun ls hl => ?_)
        refine lv_goto (tgt := 7) hx hb dX6_tellRow_24 (by decide) ?_
        have hP : va_P D vwCl (mw cI r i0 (nI tr) i7 (nI la) i9 i13 i15 i17 i18 i19 i22 i23 a1 a2 a4 a5 a6 a10 a11 a12 a14 a16 a20 a21 a24 a25 (cpN a1 a26 (q + 1))) H := by rw [← cpN_s]; exact hP
        have hD : va_D A (mw cI r i0 (nI tr) i7 (nI la) i9 i13 i15 i17 i18 i19 i22 i23 a1 a2 a4 a5 a6 a10 a11 a12 a14 a16 a20 a21 a24 a25 (cpN a1 a26 (q + 1))) := by rw [← cpN_s]; exact hD
        exact ih7 (q + 1) (by omega) (by omega) _ _ _ hP hD hS (lv_sub hl [1, 2, 0] rfl)
  have hP : va_P D vwCl (mw cI r i0 (nI tr) i7 (nI la) i9 i13 i15 i17 i18 i19 i22 i23 a1 a2 a4 a5 a6 a10 a11 a12 a14 a16 a20 a21 a24 a25 (cpN a1 a26 0)) H := by rw [cpN_0]; exact hP
  have hD : va_D A (mw cI r i0 (nI tr) i7 (nI la) i9 i13 i15 i17 i18 i19 i22 i23 a1 a2 a4 a5 a6 a10 a11 a12 a14 a16 a20 a21 a24 a25 (cpN a1 a26 0)) := by rw [cpN_0]; exact hD
  exact lp7 _ 0 (Nat.lt_succ_self _) (by omega) _ _ _ hP hD hS (lv_sub hl [2, 1, 0] rfl)

set_option maxHeartbeats 4000000 in
set_option maxRecDepth 100000 in
theorem c_X6_rounds (l : Launch) (D : va_G) (cI cJ cZ cA : ClassId) (r : Nat → Nat) (i7 i8 i9 i13 i15 i17 i18 i19 i22 i23 : Int32) (a1 a2 a4 a5 a6 a10 a11 a12 a14 a16 a20 a21 a24 a25 a26 : Nat → Int32) (sz pl tr la : Nat) (Ls : Nat → List Rw) (gt : Nat → Nat) (hpl : pl ≤ 5) (htr : tr ≤ 6) (hL0 : Ls 0 = tkIn [] (tgM pl a2)) (hLs : ∀ i, Ls (i + 1) = stepK tr a4 a5 (Ls i) (Ls i)) (hla : la ≤ 60) (hend : endM Ls a1 la ≠ nI 2) (hgo : ∀ j, j < la → endM Ls a1 j = nI 2) (hg : endM Ls a1 la = nI 1 → ∀ k, k < la → gt k < tr ∧ leadsB tr a4 a5 (gAt a4 a5 a1 gt k) (Ls (la - k - 1)) (gt k) = true ∧ ∀ t, t < gt k → leadsB tr a4 a5 (gAt a4 a5 a1 gt k) (Ls (la - k - 1)) t = false) : Met l yX6_rounds wsX6_rounds ({ frames := 4, cells := 0, slots := 0, locals := 97 } : Room) (wr_P D (tysC cI cJ cZ cA) [.ref (r 0)] (mw cI r (nI pl) (nI tr) i7 i8 i9 i13 i15 i17 i18 i19 i22 i23 a1 a2 a4 a5 a6 a10 a11 a12 a14 a16 a20 a21 a24 a25 a26) sz) (wr_Qi D (S := Int32 × Int32 × (Nat → Int32) × (Nat → Int32) × (Nat → Int32) × (Nat → Int32) × (Nat → Int32) × (Nat → Int32) × (Nat → Int32)) (mw cI r (nI pl) (nI tr) i7 i8 i9 i13 i15 i17 i18 i19 i22 i23 a1 a2 a4 a5 a6 a10 a11 a12 a14 a16 a20 a21 a24 a25 a26) sz (fun r9 u => r9 = endM Ls a1 la ∧ (∀ j, j ≤ la → u.2.2.1 j = nI (Ls j).length) ∧ (endM Ls a1 la = nI 1 → ∀ j, j < la → u.2.2.2.2.2.2.1 j = nI (gt j))) (fun u => (mw cI r (nI pl) (nI tr) (endM Ls a1 la) (nI la) (nI pl) u.1 u.2.1 i17 i18 i19 i22 i23 a1 a2 a4 a5 a6 u.2.2.1 u.2.2.2.1 u.2.2.2.2.1 u.2.2.2.2.2.1 u.2.2.2.2.2.2.1 a20 a21 a24 u.2.2.2.2.2.2.2.1 u.2.2.2.2.2.2.2.2))) 0 0 (va_A (mw cI r (nI pl) (nI tr) i7 i8 i9 i13 i15 i17 i18 i19 i22 i23 a1 a2 a4 a5 a6 a10 a11 a12 a14 a16 a20 a21 a24 a25 a26) sz) := by
  refine met_wi (cc := cX6_rounds) (maxL := 4) (ty := .int) (by decide) rfl (Nat.le_of_ble_eq_true rfl) ?_
  intro p e s m args below meth c Q A hx hb hml hown hts hP hK hD hA hret ls hl
  obtain ⟨H, hH9⟩ : ∃ H : Heap, H = s.heap := ⟨_, rfl⟩
  have hP : va_P D vwCl (mw cI r (nI pl) (nI tr) i7 i8 i9 i13 i15 i17 i18 i19 i22 i23 a1 a2 a4 a5 a6 a10 a11 a12 a14 a16 a20 a21 a24 a25 a26) H := by rw [hH9]; exact hP
  have hS : va_S A s.heap H [] := by rw [hH9]; exact va_S.rf
  rw [← hH9]
  have hown : s.vm.findClass RX6 = some m.cls := hown
  have hin6 : ∀ w ∈ wsX60, w ∈ wsX6_rounds := by decide +kernel
  have fl60 := hts (.fieldLink RX6 60 "CoverRoundsModel" "places" "I") (by decide +kernel)
  have fl93 := hts (.fieldLink RX6 93 "CoverRoundsModel" "roundPlaces" "I") (by decide +kernel)
  have fl80 := hts (.fieldLink RX6 80 "CoverRoundsModel" "roundCount" "I") (by decide +kernel)
  have fl54 := hts (.fieldLink RX6 54 "CoverRoundsModel" "work" "[I") (by decide +kernel)
  have fl13 := hts (.fieldLink RX6 13 "CoverRoundsModel" "target" "[I") (by decide +kernel)
  have fl29 := hts (.fieldLink RX6 29 "CoverRoundsModel" "leastCounts" "[I") (by decide +kernel)
  have fl33 := hts (.fieldLink RX6 33 "CoverRoundsModel" "kept" "[I") (by decide +kernel)
  have fl36 := hts (.fieldLink RX6 36 "CoverRoundsModel" "round" "[I") (by decide +kernel)
  have fl96 := hts (.fieldLink RX6 96 "CoverRoundsModel" "last" "I") (by decide +kernel)
  have fl39 := hts (.fieldLink RX6 39 "CoverRoundsModel" "before" "[I") (by decide +kernel)
  have fl87 := hts (.fieldLink RX6 87 "CoverRoundsModel" "beforeCount" "I") (by decide +kernel)
  have fl25 := hts (.fieldLink RX6 25 "CoverRoundsModel" "ended" "I") (by decide +kernel)
  have hl : lv_has ls 4 [(0, .ref (r 0))] := hl
  refine lv_aload_n hx hb dX6_rounds_0 rfl (lv_at hl 0 rfl) ?_
  refine lv_aload_n hx hb dX6_rounds_1 rfl (lv_at hl 0 rfl) ?_
  refine va_get (D := D) (ci := 5) (v := .int (nI pl)) (C := RX6) (T := TX6) (N := 27) hx hb hts hin6 hown hK hP 0 rfl rfl 0 (by decide) fl60 (fun _ h9 => h9) rfl dX6_rounds_2 ?_
  refine va_put (D := D) (ci := 5) (v := .int (nI pl)) (ty := .int) (C := RX6) (T := TX6) (N := 27) hx hb hts hin6 tyX6 tyX6_ok nmX6 hown hK hP hD hS 0 rfl rfl 9 (by decide) fl93 (fun _ h9 => h9) rfl (by decide +kernel) rfl rfl (Nat.le_of_ble_eq_true rfl) dX6_rounds_5 (fun H locs hP hD hS => ?_)
  have hP : va_P D vwCl (mw cI r (nI pl) (nI tr) i7 i8 (nI pl) i13 i15 i17 i18 i19 i22 i23 a1 a2 a4 a5 a6 a10 a11 a12 a14 a16 a20 a21 a24 a25 a26) H := hP
  have hD : va_D A (mw cI r (nI pl) (nI tr) i7 i8 (nI pl) i13 i15 i17 i18 i19 i22 i23 a1 a2 a4 a5 a6 a10 a11 a12 a14 a16 a20 a21 a24 a25 a26) := hD
  refine lv_aload_n hx hb dX6_rounds_8 rfl (lv_at hl 0 rfl) ?_
  refine lv_iconst (v := nI 0) hx hb dX6_rounds_9 (by decide) ?_
  refine va_put (D := D) (ci := 5) (v := .int (nI 0)) (ty := .int) (C := RX6) (T := TX6) (N := 27) hx hb hts hin6 tyX6 tyX6_ok nmX6 hown hK hP hD hS 0 rfl rfl 13 (by decide) fl80 (fun _ h9 => h9) rfl (by decide +kernel) rfl rfl (Nat.le_of_ble_eq_true rfl) dX6_rounds_10 (fun H locs hP hD hS => ?_)
  have hP : va_P D vwCl (mw cI r (nI pl) (nI tr) i7 i8 (nI pl) (nI 0) i15 i17 i18 i19 i22 i23 a1 a2 a4 a5 a6 a10 a11 a12 a14 a16 a20 a21 a24 a25 a26) H := hP
  have hD : va_D A (mw cI r (nI pl) (nI tr) i7 i8 (nI pl) (nI 0) i15 i17 i18 i19 i22 i23 a1 a2 a4 a5 a6 a10 a11 a12 a14 a16 a20 a21 a24 a25 a26) := hD
  refine lv_iconst (v := nI 0) hx hb dX6_rounds_13 (by decide) ?_
  refine lv_istore_n (lv' := [(1, .int (nI 0)), (0, .ref (r 0))]) hx hb dX6_rounds_14 rfl hl (by decide) rfl (fun ls hl => ?_)
  have lp15 : ∀ (n9 : Nat) (q : Nat), 5 - q < n9 → q ≤ 5 → ∀ (H : Heap) (locs : List Loc) (ls : Array Slot), va_P D vwCl (mw cI r (nI pl) (nI tr) i7 i8 (nI pl) (nI 0) i15 i17 i18 i19 i22 i23 a1 a2 a4 a5 a6 a10 a11 a12 a14 a16 a20 a21 a24 (cpN (tgM pl a2) a25 q) a26) H → va_D A (mw cI r (nI pl) (nI tr) i7 i8 (nI pl) (nI 0) i15 i17 i18 i19 i22 i23 a1 a2 a4 a5 a6 a10 a11 a12 a14 a16 a20 a21 a24 (cpN (tgM pl a2) a25 q) a26) → va_S A s.heap H locs → lv_has ls 4 [(0, .ref (r 0)), (1, .int (nI q))] → W p l e ({ frames := 4, cells := 0, slots := 0, locals := 97 } : Room) s m args below meth c H locs 0 0 Q (F0 m 15 ls []) := by
    intro n9
    induction n9 with
    | zero => intro q hm15; exact absurd hm15 (Nat.not_lt_zero _)
    | succ n9 ih15 =>
      intro q hm15 hq H locs ls hP hD hS hl
      refine lv_iload_n hx hb dX6_rounds_15 rfl (lv_at hl 1 rfl) ?_
      refine lv_iconst (v := nI 5) hx hb dX6_rounds_16 (by decide) ?_
      refine wk_icmp_ge (tgt := 50) hx hb (by omega) (by omega) dX6_rounds_17 (by decide) (fun c17 => ?_) (fun c17 => ?_)
      · skip
        have hq9 : q = 5 := by omega
        subst hq9
        refine lv_aload_n hx hb dX6_rounds_50 rfl (lv_at hl 0 rfl) ?_
        refine wk_VvW (As := []) (rest := []) (wr := []) ⟨hx, hb, hml, hown, hts⟩ (c_X6_takeIn l D cI cJ cZ cA r (nI pl) (nI tr) i7 i8 (nI pl) i15 i17 i18 i19 i22 i23 a1 a2 a4 a5 a6 a10 a11 a12 a14 a16 a20 a21 a24 (cpN (tgM pl a2) a25 5) a26 H.size ([]) (tgM pl a2) (fun k x hx => by simp at hx) (by simp) (fun q hq => cpN_lt hq)) (cwV 0 hts gX6_rounds_X6_takeIn rfl rfl rfl (by decide +kernel) ⟨Nat.le_of_ble_eq_true rfl, Nat.le_of_ble_eq_true rfl⟩) hK hP hD hA [0, 1, 2, 3, 4, 5, 6, 7, 8, 9, 10, 11, 12, 13, 14, 15] rfl (by decide) [] rfl (by decide) (by decide) 0 5 rfl rfl hS rfl hl.1 rfl (Nat.le_of_ble_eq_true rfl) dX6_rounds_51 ⟨Nat.le_of_ble_eq_true rfl, Nat.le_of_ble_eq_true rfl⟩ (fun v9 H locs hu hP hD hS => ?_)
        have hP : va_P D vwCl (mw cI r (nI pl) (nI tr) i7 i8 (nI pl) (nI ((tkIn ([]) (tgM pl a2)).length)) i15 i17 i18 i19 i22 i23 a1 a2 a4 a5 a6 a10 a11 v9 a14 a16 a20 a21 a24 (cpN (tgM pl a2) a25 5) a26) H := hP
        have hD : va_D A (mw cI r (nI pl) (nI tr) i7 i8 (nI pl) (nI ((tkIn ([]) (tgM pl a2)).length)) i15 i17 i18 i19 i22 i23 a1 a2 a4 a5 a6 a10 a11 v9 a14 a16 a20 a21 a24 (cpN (tgM pl a2) a25 5) a26) := hD
        refine lv_iconst (v := nI 0) hx hb dX6_rounds_54 (by decide) ?_
        refine lv_istore_n (lv' := [(1, .int (nI 0)), (0, .ref (r 0))]) hx hb dX6_rounds_55 rfl hl (by decide) rfl (fun ls hl => ?_)
        refine lv_iconst (v := nI 2) hx hb dX6_rounds_56 (by decide) ?_
        refine lv_istore_n (lv' := [(2, .int (nI 2)), (1, .int (nI 0)), (0, .ref (r 0))]) hx hb dX6_rounds_57 rfl hl (by decide) rfl (fun ls hl => ?_)
        have lp58 : ∀ (n9 : Nat) (i : Nat) (l8 : Int32) (l15 : Int32) (f10 : Nat → Int32) (f11 : Nat → Int32) (f12 : Nat → Int32) (f14 : Nat → Int32) (f25 : Nat → Int32), la - i < n9 → i ≤ la → rowsV f12 0 (Ls i) → (Ls i).length ≤ 1400 → (∀ j, j < i → f10 j = nI (Ls j).length) → (∀ j, j < i → rowsV f11 (1000 * j) (Ls j) ∧ (Ls j).length ≤ 200) → (0 < i → l15 = nI (Ls (i - 1)).length ∧ rowsV f14 0 (Ls (i - 1)) ∧ (Ls (i - 1)).length ≤ 200) → ∀ (H : Heap) (locs : List Loc) (ls : Array Slot), va_P D vwCl (mw cI r (nI pl) (nI tr) i7 l8 (nI pl) (nI ((Ls i).length)) l15 i17 i18 i19 i22 i23 a1 a2 a4 a5 a6 f10 f11 f12 f14 a16 a20 a21 a24 f25 a26) H → va_D A (mw cI r (nI pl) (nI tr) i7 l8 (nI pl) (nI ((Ls i).length)) l15 i17 i18 i19 i22 i23 a1 a2 a4 a5 a6 f10 f11 f12 f14 a16 a20 a21 a24 f25 a26) → va_S A s.heap H locs → lv_has ls 4 [(0, .ref (r 0)), (1, .int (nI i)), (2, .int (nI 2))] → W p l e ({ frames := 4, cells := 0, slots := 0, locals := 97 } : Room) s m args below meth c H locs 0 0 Q (F0 m 58 ls []) := by
          intro n9
          induction n9 with
          | zero => intro i l8 l15 f10 f11 f12 f14 f25 hm58; exact absurd hm58 (Nat.not_lt_zero _)
          | succ n9 ih58 =>
            intro i l8 l15 f10 f11 f12 f14 f25 hm58 hi hX hXl h10 h11 hB H locs ls hP hD hS hl
            refine lv_iload_n hx hb dX6_rounds_58 rfl (lv_at hl 2 rfl) ?_
            refine lv_iconst (v := nI 2) hx hb dX6_rounds_59 (by decide) ?_
            refine lv_icmp_ne (tgt := 227) hx hb dX6_rounds_60 (by decide) (fun c60 => absurd c60 (by decide)) (fun c60 => ?_)
            refine lv_aload_n hx hb dX6_rounds_63 rfl (lv_at hl 0 rfl) ?_
            refine va_get (D := D) (ci := 5) (v := .ref (r 10)) (C := RX6) (T := TX6) (N := 27) hx hb hts hin6 hown hK hP 0 rfl rfl 10 (by decide) fl29 (fun _ h9 => h9) rfl dX6_rounds_64 ?_
            refine lv_iload_n hx hb dX6_rounds_67 rfl (lv_at hl 1 rfl) ?_
            refine lv_aload_n hx hb dX6_rounds_68 rfl (lv_at hl 0 rfl) ?_
            refine va_get (D := D) (ci := 5) (v := .int (nI ((Ls i).length))) (C := RX6) (T := TX6) (N := 27) hx hb hts hin6 hown hK hP 0 rfl rfl 13 (by decide) fl80 (fun _ h9 => h9) rfl dX6_rounds_69 ?_
            refine wk_iast hx hb hK hP hD hS 6 0 rfl rfl (i := i) (by omega) (by omega) dX6_rounds_72 (fun H locs hP hD hS => ?_)
            have hP : va_P D vwCl (mw cI r (nI pl) (nI tr) i7 l8 (nI pl) (nI ((Ls i).length)) l15 i17 i18 i19 i22 i23 a1 a2 a4 a5 a6 (upd f10 i (nI ((Ls i).length))) f11 f12 f14 a16 a20 a21 a24 f25 a26) H := hP
            have hD : va_D A (mw cI r (nI pl) (nI tr) i7 l8 (nI pl) (nI ((Ls i).length)) l15 i17 i18 i19 i22 i23 a1 a2 a4 a5 a6 (upd f10 i (nI ((Ls i).length))) f11 f12 f14 a16 a20 a21 a24 f25 a26) := hD
            refine lv_iconst (v := nI 0) hx hb dX6_rounds_73 (by decide) ?_
            refine lv_istore_n (lv' := [(3, .int (nI 0)), (0, .ref (r 0)), (1, .int (nI i)), (2, .int (nI 2))]) hx hb dX6_rounds_74 rfl hl (by decide) rfl (fun ls hl => ?_)
            have lp75 : ∀ (n9 : Nat) (q : Nat), 1000 - q < n9 → q ≤ 1000 → ∀ (H : Heap) (locs : List Loc) (ls : Array Slot), va_P D vwCl (mw cI r (nI pl) (nI tr) i7 l8 (nI pl) (nI ((Ls i).length)) l15 i17 i18 i19 i22 i23 a1 a2 a4 a5 a6 (upd f10 i (nI (Ls i).length)) (wrN f11 (kpW f12 (Ls i).length) (1000 * i) q) f12 f14 a16 a20 a21 a24 f25 a26) H → va_D A (mw cI r (nI pl) (nI tr) i7 l8 (nI pl) (nI ((Ls i).length)) l15 i17 i18 i19 i22 i23 a1 a2 a4 a5 a6 (upd f10 i (nI (Ls i).length)) (wrN f11 (kpW f12 (Ls i).length) (1000 * i) q) f12 f14 a16 a20 a21 a24 f25 a26) → va_S A s.heap H locs → lv_has ls 4 [(0, .ref (r 0)), (1, .int (nI i)), (2, .int (nI 2)), (3, .int (nI q))] → W p l e ({ frames := 4, cells := 0, slots := 0, locals := 97 } : Room) s m args below meth c H locs 0 0 Q (F0 m 75 ls []) := by
              intro n9
              induction n9 with
              | zero => intro q hm75; exact absurd hm75 (Nat.not_lt_zero _)
              | succ n9 ih75 =>
                intro q hm75 hq H locs ls hP hD hS hl
                refine lv_iload_n hx hb dX6_rounds_75 rfl (lv_at hl 3 rfl) ?_
                refine lv_sipush (v := nI 1000) hx hb dX6_rounds_76 (by decide) ?_
                refine wk_icmp_ge (tgt := 120) hx hb (by omega) (by omega) dX6_rounds_79 (by decide) (fun c79 => ?_) (fun c79 => ?_)
                · skip
                  have hq9 : q = 1000 := by omega
                  subst hq9
                  have h10n : ∀ j, j ≤ i → (upd f10 i (nI (Ls i).length)) j = nI (Ls j).length := fun j hj => by
                    rcases Nat.lt_or_eq_of_le hj with h1 | rfl
                    · rw [pk_un (by omega)]; exact h10 j h1
                    · rw [pk_us]
                  refine lv_aload_n hx hb dX6_rounds_120 rfl (lv_at hl 0 rfl) ?_
                  refine lv_iload_n hx hb dX6_rounds_121 rfl (lv_at hl 1 rfl) ?_
                  refine va_put (D := D) (ci := 5) (v := .int (nI i)) (ty := .int) (C := RX6) (T := TX6) (N := 27) hx hb hts hin6 tyX6 tyX6_ok nmX6 hown hK hP hD hS 0 rfl rfl 8 (by decide) fl96 (fun _ h9 => h9) rfl (by decide +kernel) rfl rfl (Nat.le_of_ble_eq_true rfl) dX6_rounds_122 (fun H locs hP hD hS => ?_)
                  have hP : va_P D vwCl (mw cI r (nI pl) (nI tr) i7 (nI i) (nI pl) (nI ((Ls i).length)) l15 i17 i18 i19 i22 i23 a1 a2 a4 a5 a6 (upd f10 i (nI (Ls i).length)) (wrN f11 (kpW f12 (Ls i).length) (1000 * i) 1000) f12 f14 a16 a20 a21 a24 f25 a26) H := hP
                  have hD : va_D A (mw cI r (nI pl) (nI tr) i7 (nI i) (nI pl) (nI ((Ls i).length)) l15 i17 i18 i19 i22 i23 a1 a2 a4 a5 a6 (upd f10 i (nI (Ls i).length)) (wrN f11 (kpW f12 (Ls i).length) (1000 * i) 1000) f12 f14 a16 a20 a21 a24 f25 a26) := hD
                  refine lv_aload_n hx hb dX6_rounds_125 rfl (lv_at hl 0 rfl) ?_
                  refine wk_Vi (As := []) (rest := []) ⟨hx, hb, hml, hown, hts⟩ (c_X6_isFirstIn l D cI cJ cZ cA r (nI pl) (nI tr) i7 (nI i) (nI pl) l15 i17 i18 i19 i22 i23 a1 a2 a4 a5 a6 (upd f10 i (nI (Ls i).length)) (wrN f11 (kpW f12 (Ls i).length) (1000 * i) 1000) f12 f14 a16 a20 a21 a24 f25 a26 (Ls i) hX (by omega)) (cwV 0 hts gX6_rounds_X6_isFirstIn rfl rfl rfl (by decide +kernel) ⟨Nat.le_of_ble_eq_true rfl, Nat.le_of_ble_eq_true rfl⟩) hK hP [0, 1, 2, 3, 4, 5, 6, 7, 8, 9, 10, 11, 12, 13, 14, 15] rfl 0 5 rfl rfl hS rfl hl.1 rfl (Nat.le_of_ble_eq_true rfl) dX6_rounds_126 ⟨Nat.zero_le _, Nat.zero_le _⟩ (fun H locs hP hS => ?_)
                  refine wk_if_eqb (tgt := 137) hx hb dX6_rounds_129 (by decide) (fun c129 => ?_) (fun c129 => ?_)
                  · skip
                    refine lv_aload_n hx hb dX6_rounds_137 rfl (lv_at hl 0 rfl) ?_
                    refine va_get (D := D) (ci := 5) (v := .int (nI ((Ls i).length))) (C := RX6) (T := TX6) (N := 27) hx hb hts hin6 hown hK hP 0 rfl rfl 13 (by decide) fl80 (fun _ h9 => h9) rfl dX6_rounds_138 ?_
                    refine lv_sipush (v := nI 200) hx hb dX6_rounds_141 (by decide) ?_
                    refine wk_icmp_le (tgt := 152) hx hb (by omega) (by omega) dX6_rounds_144 (by decide) (fun c144 => ?_) (fun c144 => ?_)
                    · skip
                      refine lv_iload_n hx hb dX6_rounds_152 rfl (lv_at hl 1 rfl) ?_
                      refine wk_if_le (tgt := 168) hx hb (by omega) dX6_rounds_153 (by decide) (fun c153 => ?_) (fun c153 => ?_)
                      · skip
                        refine lv_iload_n hx hb dX6_rounds_168 rfl (lv_at hl 1 rfl) ?_
                        refine lv_bipush (v := nI 60) hx hb dX6_rounds_169 (by decide) ?_
                        refine wk_icmp_ne (tgt := 179) hx hb (by omega) (by omega) dX6_rounds_171 (by decide) (fun c171 => ?_) (fun c171 => ?_)
                        · skip
                          have he : endM Ls a1 i = nI 2 := endM_5 c129 c144 (Or.inl c153) c171
                          have hil : i + 1 ≤ la := by
                            rcases Nat.lt_or_eq_of_le hi with h | h
                            · exact h
                            · subst h
                              exact absurd he hend
                          refine lv_iconst (v := nI 0) hx hb dX6_rounds_179 (by decide) ?_
                          refine lv_istore_n (lv' := [(3, .int (nI 0)), (0, .ref (r 0)), (1, .int (nI i)), (2, .int (nI 2))]) hx hb dX6_rounds_180 rfl hl (by decide) rfl (fun ls hl => ?_)
                          have lp181 : ∀ (n9 : Nat) (q : Nat) (m15 : Int32), 5 * (Ls i).length - q < n9 → q ≤ 5 * (Ls i).length → ∀ (H : Heap) (locs : List Loc) (ls : Array Slot), va_P D vwCl (mw cI r (nI pl) (nI tr) i7 (nI i) (nI pl) (nI ((Ls i).length)) m15 i17 i18 i19 i22 i23 a1 a2 a4 a5 a6 (upd f10 i (nI (Ls i).length)) (wrN f11 (kpW f12 (Ls i).length) (1000 * i) 1000) f12 (cpN f12 f14 q) a16 a20 a21 a24 f25 a26) H → va_D A (mw cI r (nI pl) (nI tr) i7 (nI i) (nI pl) (nI ((Ls i).length)) m15 i17 i18 i19 i22 i23 a1 a2 a4 a5 a6 (upd f10 i (nI (Ls i).length)) (wrN f11 (kpW f12 (Ls i).length) (1000 * i) 1000) f12 (cpN f12 f14 q) a16 a20 a21 a24 f25 a26) → va_S A s.heap H locs → lv_has ls 4 [(0, .ref (r 0)), (1, .int (nI i)), (2, .int (nI 2)), (3, .int (nI q))] → W p l e ({ frames := 4, cells := 0, slots := 0, locals := 97 } : Room) s m args below meth c H locs 0 0 Q (F0 m 181 ls []) := by
                            intro n9
                            induction n9 with
                            | zero => intro q m15 hm181; exact absurd hm181 (Nat.not_lt_zero _)
                            | succ n9 ih181 =>
                              intro q m15 hm181 hq H locs ls hP hD hS hl
                              refine lv_iload_n hx hb dX6_rounds_181 rfl (lv_at hl 3 rfl) ?_
                              refine lv_iconst (v := nI 5) hx hb dX6_rounds_182 (by decide) ?_
                              refine lv_aload_n hx hb dX6_rounds_183 rfl (lv_at hl 0 rfl) ?_
                              refine va_get (D := D) (ci := 5) (v := .int (nI ((Ls i).length))) (C := RX6) (T := TX6) (N := 27) hx hb hts hin6 hown hK hP 0 rfl rfl 13 (by decide) fl80 (fun _ h9 => h9) rfl dX6_rounds_184 ?_
                              refine wk_imul hx hb dX6_rounds_187 ?_
                              refine wk_icmp_ge (tgt := 209) hx hb (by omega) (by omega) dX6_rounds_188 (by decide) (fun c188 => ?_) (fun c188 => ?_)
                              · skip
                                have hq9 : q = 5 * (Ls i).length := by omega
                                subst hq9
                                refine lv_aload_n hx hb dX6_rounds_209 rfl (lv_at hl 0 rfl) ?_
                                refine lv_aload_n hx hb dX6_rounds_210 rfl (lv_at hl 0 rfl) ?_
                                refine va_get (D := D) (ci := 5) (v := .int (nI ((Ls i).length))) (C := RX6) (T := TX6) (N := 27) hx hb hts hin6 hown hK hP 0 rfl rfl 13 (by decide) fl80 (fun _ h9 => h9) rfl dX6_rounds_211 ?_
                                refine va_put (D := D) (ci := 5) (v := .int (nI ((Ls i).length))) (ty := .int) (C := RX6) (T := TX6) (N := 27) hx hb hts hin6 tyX6 tyX6_ok nmX6 hown hK hP hD hS 0 rfl rfl 15 (by decide) fl87 (fun _ h9 => h9) rfl (by decide +kernel) rfl rfl (Nat.le_of_ble_eq_true rfl) dX6_rounds_214 (fun H locs hP hD hS => ?_)
                                have hP : va_P D vwCl (mw cI r (nI pl) (nI tr) i7 (nI i) (nI pl) (nI ((Ls i).length)) (nI ((Ls i).length)) i17 i18 i19 i22 i23 a1 a2 a4 a5 a6 (upd f10 i (nI (Ls i).length)) (wrN f11 (kpW f12 (Ls i).length) (1000 * i) 1000) f12 (cpN f12 f14 (5 * (Ls i).length)) a16 a20 a21 a24 f25 a26) H := hP
                                have hD : va_D A (mw cI r (nI pl) (nI tr) i7 (nI i) (nI pl) (nI ((Ls i).length)) (nI ((Ls i).length)) i17 i18 i19 i22 i23 a1 a2 a4 a5 a6 (upd f10 i (nI (Ls i).length)) (wrN f11 (kpW f12 (Ls i).length) (1000 * i) 1000) f12 (cpN f12 f14 (5 * (Ls i).length)) a16 a20 a21 a24 f25 a26) := hD
                                refine lv_aload_n hx hb dX6_rounds_217 rfl (lv_at hl 0 rfl) ?_
                                refine wk_VvW (As := []) (rest := []) (wr := []) ⟨hx, hb, hml, hown, hts⟩ (c_X6_step l D cI cJ cZ cA r (nI pl) i7 (nI i) (nI pl) i17 i18 i19 i22 i23 a1 a2 a4 a5 a6 (upd f10 i (nI (Ls i).length)) (wrN f11 (kpW f12 (Ls i).length) (1000 * i) 1000) f12 (cpN f12 f14 (5 * (Ls i).length)) a16 a20 a21 a24 f25 a26 H.size tr (Ls i) (Ls i) htr (cp_rows hX) (by omega) hX (by omega)) (cwV 0 hts gX6_rounds_X6_step rfl rfl rfl (by decide +kernel) ⟨Nat.le_of_ble_eq_true rfl, Nat.le_of_ble_eq_true rfl⟩) hK hP hD hA [0, 1, 2, 3, 4, 5, 6, 7, 8, 9, 10, 11, 12, 13, 14, 15] rfl (by decide) [] rfl (by decide) (by decide) 0 5 rfl rfl hS rfl hl.1 rfl (Nat.le_of_ble_eq_true rfl) dX6_rounds_218 ⟨Nat.le_of_ble_eq_true rfl, Nat.le_of_ble_eq_true rfl⟩ (fun u9 H locs hu hP hD hS => ?_)
                                have hP : va_P D vwCl (mw cI r (nI pl) (nI tr) i7 (nI i) (nI pl) (nI ((stepK tr a4 a5 (Ls i) (Ls i)).length)) (nI ((Ls i).length)) i17 i18 i19 i22 i23 a1 a2 a4 a5 a6 (upd f10 i (nI (Ls i).length)) (wrN f11 (kpW f12 (Ls i).length) (1000 * i) 1000) u9.1 (cpN f12 f14 (5 * (Ls i).length)) a16 a20 a21 a24 u9.2 a26) H := hP
                                have hD : va_D A (mw cI r (nI pl) (nI tr) i7 (nI i) (nI pl) (nI ((stepK tr a4 a5 (Ls i) (Ls i)).length)) (nI ((Ls i).length)) i17 i18 i19 i22 i23 a1 a2 a4 a5 a6 (upd f10 i (nI (Ls i).length)) (wrN f11 (kpW f12 (Ls i).length) (1000 * i) 1000) u9.1 (cpN f12 f14 (5 * (Ls i).length)) a16 a20 a21 a24 u9.2 a26) := hD
                                refine lv_iinc (v := (nI (i + 1))) (lv' := [(1, .int (nI (i + 1))), (0, .ref (r 0)), (2, .int (nI 2)), (3, .int (nI (5 * (Ls i).length)))]) hx hb dX6_rounds_221 hl (k := 1) rfl (by exact nI_1 _) (by decide) rfl (fun ls hl => ?_)
                                refine lv_goto (tgt := 58) hx hb dX6_rounds_224 (by decide) ?_
                                have hP : va_P D vwCl (mw cI r (nI pl) (nI tr) i7 (nI i) (nI pl) (nI ((Ls (i + 1)).length)) (nI (Ls i).length) i17 i18 i19 i22 i23 a1 a2 a4 a5 a6 (upd f10 i (nI (Ls i).length)) (wrN f11 (kpW f12 (Ls i).length) (1000 * i) 1000) u9.1 (cpN f12 f14 (5 * (Ls i).length)) a16 a20 a21 a24 u9.2 a26) H := by rw [hLs]; exact hP
                                have hD : va_D A (mw cI r (nI pl) (nI tr) i7 (nI i) (nI pl) (nI ((Ls (i + 1)).length)) (nI (Ls i).length) i17 i18 i19 i22 i23 a1 a2 a4 a5 a6 (upd f10 i (nI (Ls i).length)) (wrN f11 (kpW f12 (Ls i).length) (1000 * i) 1000) u9.1 (cpN f12 f14 (5 * (Ls i).length)) a16 a20 a21 a24 u9.2 a26) := by rw [hLs]; exact hD
                                exact ih58 (i + 1) (nI i) (nI (Ls i).length) (upd f10 i (nI (Ls i).length)) (wrN f11 (kpW f12 (Ls i).length) (1000 * i) 1000) u9.1 (cpN f12 f14 (5 * (Ls i).length)) u9.2 (by omega) hil (by rw [hLs]; exact hu) (by rw [hLs]; have := stepK_len tr a4 a5 htr (Ls i) (Ls i); omega) (fun j hj => by rcases Nat.lt_or_eq_of_le (Nat.le_of_lt_succ hj) with h1 | rfl; rw [pk_un (by omega)]; exact h10 j h1; rw [pk_us]) (fun j hj => by rcases Nat.lt_or_eq_of_le (Nat.le_of_lt_succ hj) with h1 | rfl; exact ⟨kp_old (h11 j h1).1 (h11 j h1).2 h1, (h11 j h1).2⟩; exact ⟨kp_new hX (by omega), by omega⟩) (fun _ => ⟨rfl, cp_rows hX, by rw [Nat.add_sub_cancel]; omega⟩) _ _ _ hP hD hS (lv_sub hl [1, 0, 2] rfl)
                              · skip
                                refine lv_aload_n hx hb dX6_rounds_191 rfl (lv_at hl 0 rfl) ?_
                                refine va_get (D := D) (ci := 5) (v := .ref (r 14)) (C := RX6) (T := TX6) (N := 27) hx hb hts hin6 hown hK hP 0 rfl rfl 14 (by decide) fl39 (fun _ h9 => h9) rfl dX6_rounds_192 ?_
                                refine lv_iload_n hx hb dX6_rounds_195 rfl (lv_at hl 3 rfl) ?_
                                refine lv_aload_n hx hb dX6_rounds_196 rfl (lv_at hl 0 rfl) ?_
                                refine va_get (D := D) (ci := 5) (v := .ref (r 12)) (C := RX6) (T := TX6) (N := 27) hx hb hts hin6 hown hK hP 0 rfl rfl 12 (by decide) fl36 (fun _ h9 => h9) rfl dX6_rounds_197 ?_
                                refine lv_iload_n hx hb dX6_rounds_200 rfl (lv_at hl 3 rfl) ?_
                                refine wk_iald hx hb hK hP 8 0 rfl rfl (i := q) (by omega) (by omega) dX6_rounds_201 ?_
                                refine wk_iast hx hb hK hP hD hS 9 0 rfl rfl (i := q) (by omega) (by omega) dX6_rounds_202 (fun H locs hP hD hS => ?_)
                                have hP : va_P D vwCl (mw cI r (nI pl) (nI tr) i7 (nI i) (nI pl) (nI ((Ls i).length)) m15 i17 i18 i19 i22 i23 a1 a2 a4 a5 a6 (upd f10 i (nI (Ls i).length)) (wrN f11 (kpW f12 (Ls i).length) (1000 * i) 1000) f12 (upd (cpN f12 f14 q) q (f12 q)) a16 a20 a21 a24 f25 a26) H := hP
                                have hD : va_D A (mw cI r (nI pl) (nI tr) i7 (nI i) (nI pl) (nI ((Ls i).length)) m15 i17 i18 i19 i22 i23 a1 a2 a4 a5 a6 (upd f10 i (nI (Ls i).length)) (wrN f11 (kpW f12 (Ls i).length) (1000 * i) 1000) f12 (upd (cpN f12 f14 q) q (f12 q)) a16 a20 a21 a24 f25 a26) := hD
                                refine lv_iinc (v := (nI (q + 1))) (lv' := [(3, .int (nI (q + 1))), (0, .ref (r 0)), (1, .int (nI i)), (2, .int (nI 2))]) hx hb dX6_rounds_203 hl (k := 3) rfl (by exact nI_1 _) (by decide) rfl (fun ls hl => ?_)
                                refine lv_goto (tgt := 181) hx hb dX6_rounds_206 (by decide) ?_
                                have hP : va_P D vwCl (mw cI r (nI pl) (nI tr) i7 (nI i) (nI pl) (nI ((Ls i).length)) m15 i17 i18 i19 i22 i23 a1 a2 a4 a5 a6 (upd f10 i (nI (Ls i).length)) (wrN f11 (kpW f12 (Ls i).length) (1000 * i) 1000) f12 (cpN f12 f14 (q + 1)) a16 a20 a21 a24 f25 a26) H := by rw [← cpN_s]; exact hP
                                have hD : va_D A (mw cI r (nI pl) (nI tr) i7 (nI i) (nI pl) (nI ((Ls i).length)) m15 i17 i18 i19 i22 i23 a1 a2 a4 a5 a6 (upd f10 i (nI (Ls i).length)) (wrN f11 (kpW f12 (Ls i).length) (1000 * i) 1000) f12 (cpN f12 f14 (q + 1)) a16 a20 a21 a24 f25 a26) := by rw [← cpN_s]; exact hD
                                exact ih181 (q + 1) m15 (by omega) (by omega) _ _ _ hP hD hS (lv_sub hl [1, 2, 3, 0] rfl)
                          have hP : va_P D vwCl (mw cI r (nI pl) (nI tr) i7 (nI i) (nI pl) (nI ((Ls i).length)) l15 i17 i18 i19 i22 i23 a1 a2 a4 a5 a6 (upd f10 i (nI (Ls i).length)) (wrN f11 (kpW f12 (Ls i).length) (1000 * i) 1000) f12 (cpN f12 f14 0) a16 a20 a21 a24 f25 a26) H := by rw [cpN_0]; exact hP
                          have hD : va_D A (mw cI r (nI pl) (nI tr) i7 (nI i) (nI pl) (nI ((Ls i).length)) l15 i17 i18 i19 i22 i23 a1 a2 a4 a5 a6 (upd f10 i (nI (Ls i).length)) (wrN f11 (kpW f12 (Ls i).length) (1000 * i) 1000) f12 (cpN f12 f14 0) a16 a20 a21 a24 f25 a26) := by rw [cpN_0]; exact hD
                          exact lp181 _ 0 l15 (Nat.lt_succ_self _) (by omega) _ _ _ hP hD hS (lv_sub hl [1, 2, 3, 0] rfl)
                        · skip
                          have he : endM Ls a1 i = (-1) := endM_4 c129 c144 (Or.inl c153) c171
                          have hila : i = la := by
                            rcases Nat.lt_or_eq_of_le hi with h | h
                            · have h9 := hgo i h
                              rw [he] at h9
                              exact absurd h9 (by decide)
                            · exact h
                          subst hila
                          refine lv_iconst (v := -1) hx hb dX6_rounds_174 (by decide) ?_
                          refine lv_istore_n (lv' := [(2, .int (-1)), (0, .ref (r 0)), (1, .int (nI i)), (3, .int (nI 1000))]) hx hb dX6_rounds_175 rfl hl (by decide) rfl (fun ls hl => ?_)
                          refine lv_goto (tgt := 58) hx hb dX6_rounds_176 (by decide) ?_
                          refine lv_iload_n hx hb dX6_rounds_58 rfl (lv_at hl 0 rfl) ?_
                          refine lv_iconst (v := nI 2) hx hb dX6_rounds_59 (by decide) ?_
                          refine lv_icmp_ne (tgt := 227) hx hb dX6_rounds_60 (by decide) (fun c60 => ?_) (fun c60 => absurd c60 (by decide))
                          refine lv_aload_n hx hb dX6_rounds_227 rfl (lv_at hl 1 rfl) ?_
                          refine lv_iload_n hx hb dX6_rounds_228 rfl (lv_at hl 0 rfl) ?_
                          refine va_put (D := D) (ci := 5) (v := .int (-1)) (ty := .int) (C := RX6) (T := TX6) (N := 27) hx hb hts hin6 tyX6 tyX6_ok nmX6 hown hK hP hD hS 0 rfl rfl 7 (by decide) fl25 (fun _ h9 => h9) rfl (by decide +kernel) rfl rfl (Nat.le_of_ble_eq_true rfl) dX6_rounds_229 (fun H locs hP hD hS => ?_)
                          have hP : va_P D vwCl (mw cI r (nI pl) (nI tr) (-1) (nI i) (nI pl) (nI ((Ls i).length)) l15 i17 i18 i19 i22 i23 a1 a2 a4 a5 a6 (upd f10 i (nI (Ls i).length)) (wrN f11 (kpW f12 (Ls i).length) (1000 * i) 1000) f12 f14 a16 a20 a21 a24 f25 a26) H := hP
                          have hD : va_D A (mw cI r (nI pl) (nI tr) (-1) (nI i) (nI pl) (nI ((Ls i).length)) l15 i17 i18 i19 i22 i23 a1 a2 a4 a5 a6 (upd f10 i (nI (Ls i).length)) (wrN f11 (kpW f12 (Ls i).length) (1000 * i) 1000) f12 f14 a16 a20 a21 a24 f25 a26) := hD
                          refine lv_aload_n hx hb dX6_rounds_232 rfl (lv_at hl 1 rfl) ?_
                          refine va_get (D := D) (ci := 5) (v := .int (-1)) (C := RX6) (T := TX6) (N := 27) hx hb hts hin6 hown hK hP 0 rfl rfl 7 (by decide) fl25 (fun _ h9 => h9) rfl dX6_rounds_233 ?_
                          refine lv_iconst (v := nI 1) hx hb dX6_rounds_236 (by decide) ?_
                          refine lv_icmp_ne (tgt := 244) hx hb dX6_rounds_237 (by decide) (fun c237 => ?_) (fun c237 => absurd c237 (by decide))
                          refine lv_aload_n hx hb dX6_rounds_244 rfl (lv_at hl 1 rfl) ?_
                          refine va_get (D := D) (ci := 5) (v := .int (-1)) (C := RX6) (T := TX6) (N := 27) hx hb hts hin6 hown hK hP 0 rfl rfl 7 (by decide) fl25 (fun _ h9 => h9) rfl dX6_rounds_245 ?_
                          exact hret _ ((nI ((Ls i).length)), l15, (upd f10 i (nI (Ls i).length)), (wrN f11 (kpW f12 (Ls i).length) (1000 * i) 1000), f12, f14, a16, f25, a26) _ _ _ _ _ _ rfl ⟨he.symm, h10n, (fun h => absurd h (by rw [he]; decide))⟩ (by rw [he]; exact hP) (by rw [he]; exact hD) dX6_rounds_248 hS (Nat.zero_le _) (Nat.zero_le _)
                      · skip
                        obtain ⟨rfl, hB1, hB2⟩ := hB c153
                        refine lv_aload_n hx hb dX6_rounds_156 rfl (lv_at hl 0 rfl) ?_
                        refine wk_Vi (As := []) (rest := []) ⟨hx, hb, hml, hown, hts⟩ (c_X6_isSame l D cI cJ cZ cA r (nI pl) (nI tr) i7 (nI i) (nI pl) i17 i18 i19 i22 i23 a1 a2 a4 a5 a6 (upd f10 i (nI (Ls i).length)) (wrN f11 (kpW f12 (Ls i).length) (1000 * i) 1000) f12 f14 a16 a20 a21 a24 f25 a26 (Ls i) (Ls (i - 1)) hX hB1 (by omega) hB2) (cwV 0 hts gX6_rounds_X6_isSame rfl rfl rfl (by decide +kernel) ⟨Nat.le_of_ble_eq_true rfl, Nat.le_of_ble_eq_true rfl⟩) hK hP [0, 1, 2, 3, 4, 5, 6, 7, 8, 9, 10, 11, 12, 13, 14, 15] rfl 0 5 rfl rfl hS rfl hl.1 rfl (Nat.le_of_ble_eq_true rfl) dX6_rounds_157 ⟨Nat.zero_le _, Nat.zero_le _⟩ (fun H locs hP hS => ?_)
                        refine wk_if_eqb (tgt := 168) hx hb dX6_rounds_160 (by decide) (fun c160 => ?_) (fun c160 => ?_)
                        · skip
                          refine lv_iload_n hx hb dX6_rounds_168 rfl (lv_at hl 1 rfl) ?_
                          refine lv_bipush (v := nI 60) hx hb dX6_rounds_169 (by decide) ?_
                          refine wk_icmp_ne (tgt := 179) hx hb (by omega) (by omega) dX6_rounds_171 (by decide) (fun c171 => ?_) (fun c171 => ?_)
                          · skip
                            have he : endM Ls a1 i = nI 2 := endM_5 c129 c144 (Or.inr c160) c171
                            have hil : i + 1 ≤ la := by
                              rcases Nat.lt_or_eq_of_le hi with h | h
                              · exact h
                              · subst h
                                exact absurd he hend
                            refine lv_iconst (v := nI 0) hx hb dX6_rounds_179 (by decide) ?_
                            refine lv_istore_n (lv' := [(3, .int (nI 0)), (0, .ref (r 0)), (1, .int (nI i)), (2, .int (nI 2))]) hx hb dX6_rounds_180 rfl hl (by decide) rfl (fun ls hl => ?_)
                            have lp181 : ∀ (n9 : Nat) (q : Nat) (m15 : Int32), 5 * (Ls i).length - q < n9 → q ≤ 5 * (Ls i).length → ∀ (H : Heap) (locs : List Loc) (ls : Array Slot), va_P D vwCl (mw cI r (nI pl) (nI tr) i7 (nI i) (nI pl) (nI ((Ls i).length)) m15 i17 i18 i19 i22 i23 a1 a2 a4 a5 a6 (upd f10 i (nI (Ls i).length)) (wrN f11 (kpW f12 (Ls i).length) (1000 * i) 1000) f12 (cpN f12 f14 q) a16 a20 a21 a24 f25 a26) H → va_D A (mw cI r (nI pl) (nI tr) i7 (nI i) (nI pl) (nI ((Ls i).length)) m15 i17 i18 i19 i22 i23 a1 a2 a4 a5 a6 (upd f10 i (nI (Ls i).length)) (wrN f11 (kpW f12 (Ls i).length) (1000 * i) 1000) f12 (cpN f12 f14 q) a16 a20 a21 a24 f25 a26) → va_S A s.heap H locs → lv_has ls 4 [(0, .ref (r 0)), (1, .int (nI i)), (2, .int (nI 2)), (3, .int (nI q))] → W p l e ({ frames := 4, cells := 0, slots := 0, locals := 97 } : Room) s m args below meth c H locs 0 0 Q (F0 m 181 ls []) := by
                              intro n9
                              induction n9 with
                              | zero => intro q m15 hm181; exact absurd hm181 (Nat.not_lt_zero _)
                              | succ n9 ih181 =>
                                intro q m15 hm181 hq H locs ls hP hD hS hl
                                refine lv_iload_n hx hb dX6_rounds_181 rfl (lv_at hl 3 rfl) ?_
                                refine lv_iconst (v := nI 5) hx hb dX6_rounds_182 (by decide) ?_
                                refine lv_aload_n hx hb dX6_rounds_183 rfl (lv_at hl 0 rfl) ?_
                                refine va_get (D := D) (ci := 5) (v := .int (nI ((Ls i).length))) (C := RX6) (T := TX6) (N := 27) hx hb hts hin6 hown hK hP 0 rfl rfl 13 (by decide) fl80 (fun _ h9 => h9) rfl dX6_rounds_184 ?_
                                refine wk_imul hx hb dX6_rounds_187 ?_
                                refine wk_icmp_ge (tgt := 209) hx hb (by omega) (by omega) dX6_rounds_188 (by decide) (fun c188 => ?_) (fun c188 => ?_)
                                · skip
                                  have hq9 : q = 5 * (Ls i).length := by omega
                                  subst hq9
                                  refine lv_aload_n hx hb dX6_rounds_209 rfl (lv_at hl 0 rfl) ?_
                                  refine lv_aload_n hx hb dX6_rounds_210 rfl (lv_at hl 0 rfl) ?_
                                  refine va_get (D := D) (ci := 5) (v := .int (nI ((Ls i).length))) (C := RX6) (T := TX6) (N := 27) hx hb hts hin6 hown hK hP 0 rfl rfl 13 (by decide) fl80 (fun _ h9 => h9) rfl dX6_rounds_211 ?_
                                  refine va_put (D := D) (ci := 5) (v := .int (nI ((Ls i).length))) (ty := .int) (C := RX6) (T := TX6) (N := 27) hx hb hts hin6 tyX6 tyX6_ok nmX6 hown hK hP hD hS 0 rfl rfl 15 (by decide) fl87 (fun _ h9 => h9) rfl (by decide +kernel) rfl rfl (Nat.le_of_ble_eq_true rfl) dX6_rounds_214 (fun H locs hP hD hS => ?_)
                                  have hP : va_P D vwCl (mw cI r (nI pl) (nI tr) i7 (nI i) (nI pl) (nI ((Ls i).length)) (nI ((Ls i).length)) i17 i18 i19 i22 i23 a1 a2 a4 a5 a6 (upd f10 i (nI (Ls i).length)) (wrN f11 (kpW f12 (Ls i).length) (1000 * i) 1000) f12 (cpN f12 f14 (5 * (Ls i).length)) a16 a20 a21 a24 f25 a26) H := hP
                                  have hD : va_D A (mw cI r (nI pl) (nI tr) i7 (nI i) (nI pl) (nI ((Ls i).length)) (nI ((Ls i).length)) i17 i18 i19 i22 i23 a1 a2 a4 a5 a6 (upd f10 i (nI (Ls i).length)) (wrN f11 (kpW f12 (Ls i).length) (1000 * i) 1000) f12 (cpN f12 f14 (5 * (Ls i).length)) a16 a20 a21 a24 f25 a26) := hD
                                  refine lv_aload_n hx hb dX6_rounds_217 rfl (lv_at hl 0 rfl) ?_
                                  refine wk_VvW (As := []) (rest := []) (wr := []) ⟨hx, hb, hml, hown, hts⟩ (c_X6_step l D cI cJ cZ cA r (nI pl) i7 (nI i) (nI pl) i17 i18 i19 i22 i23 a1 a2 a4 a5 a6 (upd f10 i (nI (Ls i).length)) (wrN f11 (kpW f12 (Ls i).length) (1000 * i) 1000) f12 (cpN f12 f14 (5 * (Ls i).length)) a16 a20 a21 a24 f25 a26 H.size tr (Ls i) (Ls i) htr (cp_rows hX) (by omega) hX (by omega)) (cwV 0 hts gX6_rounds_X6_step rfl rfl rfl (by decide +kernel) ⟨Nat.le_of_ble_eq_true rfl, Nat.le_of_ble_eq_true rfl⟩) hK hP hD hA [0, 1, 2, 3, 4, 5, 6, 7, 8, 9, 10, 11, 12, 13, 14, 15] rfl (by decide) [] rfl (by decide) (by decide) 0 5 rfl rfl hS rfl hl.1 rfl (Nat.le_of_ble_eq_true rfl) dX6_rounds_218 ⟨Nat.le_of_ble_eq_true rfl, Nat.le_of_ble_eq_true rfl⟩ (fun u9 H locs hu hP hD hS => ?_)
                                  have hP : va_P D vwCl (mw cI r (nI pl) (nI tr) i7 (nI i) (nI pl) (nI ((stepK tr a4 a5 (Ls i) (Ls i)).length)) (nI ((Ls i).length)) i17 i18 i19 i22 i23 a1 a2 a4 a5 a6 (upd f10 i (nI (Ls i).length)) (wrN f11 (kpW f12 (Ls i).length) (1000 * i) 1000) u9.1 (cpN f12 f14 (5 * (Ls i).length)) a16 a20 a21 a24 u9.2 a26) H := hP
                                  have hD : va_D A (mw cI r (nI pl) (nI tr) i7 (nI i) (nI pl) (nI ((stepK tr a4 a5 (Ls i) (Ls i)).length)) (nI ((Ls i).length)) i17 i18 i19 i22 i23 a1 a2 a4 a5 a6 (upd f10 i (nI (Ls i).length)) (wrN f11 (kpW f12 (Ls i).length) (1000 * i) 1000) u9.1 (cpN f12 f14 (5 * (Ls i).length)) a16 a20 a21 a24 u9.2 a26) := hD
                                  refine lv_iinc (v := (nI (i + 1))) (lv' := [(1, .int (nI (i + 1))), (0, .ref (r 0)), (2, .int (nI 2)), (3, .int (nI (5 * (Ls i).length)))]) hx hb dX6_rounds_221 hl (k := 1) rfl (by exact nI_1 _) (by decide) rfl (fun ls hl => ?_)
                                  refine lv_goto (tgt := 58) hx hb dX6_rounds_224 (by decide) ?_
                                  have hP : va_P D vwCl (mw cI r (nI pl) (nI tr) i7 (nI i) (nI pl) (nI ((Ls (i + 1)).length)) (nI (Ls i).length) i17 i18 i19 i22 i23 a1 a2 a4 a5 a6 (upd f10 i (nI (Ls i).length)) (wrN f11 (kpW f12 (Ls i).length) (1000 * i) 1000) u9.1 (cpN f12 f14 (5 * (Ls i).length)) a16 a20 a21 a24 u9.2 a26) H := by rw [hLs]; exact hP
                                  have hD : va_D A (mw cI r (nI pl) (nI tr) i7 (nI i) (nI pl) (nI ((Ls (i + 1)).length)) (nI (Ls i).length) i17 i18 i19 i22 i23 a1 a2 a4 a5 a6 (upd f10 i (nI (Ls i).length)) (wrN f11 (kpW f12 (Ls i).length) (1000 * i) 1000) u9.1 (cpN f12 f14 (5 * (Ls i).length)) a16 a20 a21 a24 u9.2 a26) := by rw [hLs]; exact hD
                                  exact ih58 (i + 1) (nI i) (nI (Ls i).length) (upd f10 i (nI (Ls i).length)) (wrN f11 (kpW f12 (Ls i).length) (1000 * i) 1000) u9.1 (cpN f12 f14 (5 * (Ls i).length)) u9.2 (by omega) hil (by rw [hLs]; exact hu) (by rw [hLs]; have := stepK_len tr a4 a5 htr (Ls i) (Ls i); omega) (fun j hj => by rcases Nat.lt_or_eq_of_le (Nat.le_of_lt_succ hj) with h1 | rfl; rw [pk_un (by omega)]; exact h10 j h1; rw [pk_us]) (fun j hj => by rcases Nat.lt_or_eq_of_le (Nat.le_of_lt_succ hj) with h1 | rfl; exact ⟨kp_old (h11 j h1).1 (h11 j h1).2 h1, (h11 j h1).2⟩; exact ⟨kp_new hX (by omega), by omega⟩) (fun _ => ⟨rfl, cp_rows hX, by rw [Nat.add_sub_cancel]; omega⟩) _ _ _ hP hD hS (lv_sub hl [1, 0, 2] rfl)
                                · skip
                                  refine lv_aload_n hx hb dX6_rounds_191 rfl (lv_at hl 0 rfl) ?_
                                  refine va_get (D := D) (ci := 5) (v := .ref (r 14)) (C := RX6) (T := TX6) (N := 27) hx hb hts hin6 hown hK hP 0 rfl rfl 14 (by decide) fl39 (fun _ h9 => h9) rfl dX6_rounds_192 ?_
                                  refine lv_iload_n hx hb dX6_rounds_195 rfl (lv_at hl 3 rfl) ?_
                                  refine lv_aload_n hx hb dX6_rounds_196 rfl (lv_at hl 0 rfl) ?_
                                  refine va_get (D := D) (ci := 5) (v := .ref (r 12)) (C := RX6) (T := TX6) (N := 27) hx hb hts hin6 hown hK hP 0 rfl rfl 12 (by decide) fl36 (fun _ h9 => h9) rfl dX6_rounds_197 ?_
                                  refine lv_iload_n hx hb dX6_rounds_200 rfl (lv_at hl 3 rfl) ?_
                                  refine wk_iald hx hb hK hP 8 0 rfl rfl (i := q) (by omega) (by omega) dX6_rounds_201 ?_
                                  refine wk_iast hx hb hK hP hD hS 9 0 rfl rfl (i := q) (by omega) (by omega) dX6_rounds_202 (fun H locs hP hD hS => ?_)
                                  have hP : va_P D vwCl (mw cI r (nI pl) (nI tr) i7 (nI i) (nI pl) (nI ((Ls i).length)) m15 i17 i18 i19 i22 i23 a1 a2 a4 a5 a6 (upd f10 i (nI (Ls i).length)) (wrN f11 (kpW f12 (Ls i).length) (1000 * i) 1000) f12 (upd (cpN f12 f14 q) q (f12 q)) a16 a20 a21 a24 f25 a26) H := hP
                                  have hD : va_D A (mw cI r (nI pl) (nI tr) i7 (nI i) (nI pl) (nI ((Ls i).length)) m15 i17 i18 i19 i22 i23 a1 a2 a4 a5 a6 (upd f10 i (nI (Ls i).length)) (wrN f11 (kpW f12 (Ls i).length) (1000 * i) 1000) f12 (upd (cpN f12 f14 q) q (f12 q)) a16 a20 a21 a24 f25 a26) := hD
                                  refine lv_iinc (v := (nI (q + 1))) (lv' := [(3, .int (nI (q + 1))), (0, .ref (r 0)), (1, .int (nI i)), (2, .int (nI 2))]) hx hb dX6_rounds_203 hl (k := 3) rfl (by exact nI_1 _) (by decide) rfl (fun ls hl => ?_)
                                  refine lv_goto (tgt := 181) hx hb dX6_rounds_206 (by decide) ?_
                                  have hP : va_P D vwCl (mw cI r (nI pl) (nI tr) i7 (nI i) (nI pl) (nI ((Ls i).length)) m15 i17 i18 i19 i22 i23 a1 a2 a4 a5 a6 (upd f10 i (nI (Ls i).length)) (wrN f11 (kpW f12 (Ls i).length) (1000 * i) 1000) f12 (cpN f12 f14 (q + 1)) a16 a20 a21 a24 f25 a26) H := by rw [← cpN_s]; exact hP
                                  have hD : va_D A (mw cI r (nI pl) (nI tr) i7 (nI i) (nI pl) (nI ((Ls i).length)) m15 i17 i18 i19 i22 i23 a1 a2 a4 a5 a6 (upd f10 i (nI (Ls i).length)) (wrN f11 (kpW f12 (Ls i).length) (1000 * i) 1000) f12 (cpN f12 f14 (q + 1)) a16 a20 a21 a24 f25 a26) := by rw [← cpN_s]; exact hD
                                  exact ih181 (q + 1) m15 (by omega) (by omega) _ _ _ hP hD hS (lv_sub hl [1, 2, 3, 0] rfl)
                            have hP : va_P D vwCl (mw cI r (nI pl) (nI tr) i7 (nI i) (nI pl) (nI ((Ls i).length)) (nI ((Ls (i - 1)).length)) i17 i18 i19 i22 i23 a1 a2 a4 a5 a6 (upd f10 i (nI (Ls i).length)) (wrN f11 (kpW f12 (Ls i).length) (1000 * i) 1000) f12 (cpN f12 f14 0) a16 a20 a21 a24 f25 a26) H := by rw [cpN_0]; exact hP
                            have hD : va_D A (mw cI r (nI pl) (nI tr) i7 (nI i) (nI pl) (nI ((Ls i).length)) (nI ((Ls (i - 1)).length)) i17 i18 i19 i22 i23 a1 a2 a4 a5 a6 (upd f10 i (nI (Ls i).length)) (wrN f11 (kpW f12 (Ls i).length) (1000 * i) 1000) f12 (cpN f12 f14 0) a16 a20 a21 a24 f25 a26) := by rw [cpN_0]; exact hD
                            exact lp181 _ 0 (nI ((Ls (i - 1)).length)) (Nat.lt_succ_self _) (by omega) _ _ _ hP hD hS (lv_sub hl [1, 2, 3, 0] rfl)
                          · skip
                            have he : endM Ls a1 i = (-1) := endM_4 c129 c144 (Or.inr c160) c171
                            have hila : i = la := by
                              rcases Nat.lt_or_eq_of_le hi with h | h
                              · have h9 := hgo i h
                                rw [he] at h9
                                exact absurd h9 (by decide)
                              · exact h
                            subst hila
                            refine lv_iconst (v := -1) hx hb dX6_rounds_174 (by decide) ?_
                            refine lv_istore_n (lv' := [(2, .int (-1)), (0, .ref (r 0)), (1, .int (nI i)), (3, .int (nI 1000))]) hx hb dX6_rounds_175 rfl hl (by decide) rfl (fun ls hl => ?_)
                            refine lv_goto (tgt := 58) hx hb dX6_rounds_176 (by decide) ?_
                            refine lv_iload_n hx hb dX6_rounds_58 rfl (lv_at hl 0 rfl) ?_
                            refine lv_iconst (v := nI 2) hx hb dX6_rounds_59 (by decide) ?_
                            refine lv_icmp_ne (tgt := 227) hx hb dX6_rounds_60 (by decide) (fun c60 => ?_) (fun c60 => absurd c60 (by decide))
                            refine lv_aload_n hx hb dX6_rounds_227 rfl (lv_at hl 1 rfl) ?_
                            refine lv_iload_n hx hb dX6_rounds_228 rfl (lv_at hl 0 rfl) ?_
                            refine va_put (D := D) (ci := 5) (v := .int (-1)) (ty := .int) (C := RX6) (T := TX6) (N := 27) hx hb hts hin6 tyX6 tyX6_ok nmX6 hown hK hP hD hS 0 rfl rfl 7 (by decide) fl25 (fun _ h9 => h9) rfl (by decide +kernel) rfl rfl (Nat.le_of_ble_eq_true rfl) dX6_rounds_229 (fun H locs hP hD hS => ?_)
                            have hP : va_P D vwCl (mw cI r (nI pl) (nI tr) (-1) (nI i) (nI pl) (nI ((Ls i).length)) (nI ((Ls (i - 1)).length)) i17 i18 i19 i22 i23 a1 a2 a4 a5 a6 (upd f10 i (nI (Ls i).length)) (wrN f11 (kpW f12 (Ls i).length) (1000 * i) 1000) f12 f14 a16 a20 a21 a24 f25 a26) H := hP
                            have hD : va_D A (mw cI r (nI pl) (nI tr) (-1) (nI i) (nI pl) (nI ((Ls i).length)) (nI ((Ls (i - 1)).length)) i17 i18 i19 i22 i23 a1 a2 a4 a5 a6 (upd f10 i (nI (Ls i).length)) (wrN f11 (kpW f12 (Ls i).length) (1000 * i) 1000) f12 f14 a16 a20 a21 a24 f25 a26) := hD
                            refine lv_aload_n hx hb dX6_rounds_232 rfl (lv_at hl 1 rfl) ?_
                            refine va_get (D := D) (ci := 5) (v := .int (-1)) (C := RX6) (T := TX6) (N := 27) hx hb hts hin6 hown hK hP 0 rfl rfl 7 (by decide) fl25 (fun _ h9 => h9) rfl dX6_rounds_233 ?_
                            refine lv_iconst (v := nI 1) hx hb dX6_rounds_236 (by decide) ?_
                            refine lv_icmp_ne (tgt := 244) hx hb dX6_rounds_237 (by decide) (fun c237 => ?_) (fun c237 => absurd c237 (by decide))
                            refine lv_aload_n hx hb dX6_rounds_244 rfl (lv_at hl 1 rfl) ?_
                            refine va_get (D := D) (ci := 5) (v := .int (-1)) (C := RX6) (T := TX6) (N := 27) hx hb hts hin6 hown hK hP 0 rfl rfl 7 (by decide) fl25 (fun _ h9 => h9) rfl dX6_rounds_245 ?_
                            exact hret _ ((nI ((Ls i).length)), (nI ((Ls (i - 1)).length)), (upd f10 i (nI (Ls i).length)), (wrN f11 (kpW f12 (Ls i).length) (1000 * i) 1000), f12, f14, a16, f25, a26) _ _ _ _ _ _ rfl ⟨he.symm, h10n, (fun h => absurd h (by rw [he]; decide))⟩ (by rw [he]; exact hP) (by rw [he]; exact hD) dX6_rounds_248 hS (Nat.zero_le _) (Nat.zero_le _)
                        · skip
                          have he : endM Ls a1 i = nI 0 := endM_3 c129 c144 c153 c160
                          have hila : i = la := by
                            rcases Nat.lt_or_eq_of_le hi with h | h
                            · have h9 := hgo i h
                              rw [he] at h9
                              exact absurd h9 (by decide)
                            · exact h
                          subst hila
                          refine lv_iconst (v := nI 0) hx hb dX6_rounds_163 (by decide) ?_
                          refine lv_istore_n (lv' := [(2, .int (nI 0)), (0, .ref (r 0)), (1, .int (nI i)), (3, .int (nI 1000))]) hx hb dX6_rounds_164 rfl hl (by decide) rfl (fun ls hl => ?_)
                          refine lv_goto (tgt := 58) hx hb dX6_rounds_165 (by decide) ?_
                          refine lv_iload_n hx hb dX6_rounds_58 rfl (lv_at hl 0 rfl) ?_
                          refine lv_iconst (v := nI 2) hx hb dX6_rounds_59 (by decide) ?_
                          refine lv_icmp_ne (tgt := 227) hx hb dX6_rounds_60 (by decide) (fun c60 => ?_) (fun c60 => absurd c60 (by decide))
                          refine lv_aload_n hx hb dX6_rounds_227 rfl (lv_at hl 1 rfl) ?_
                          refine lv_iload_n hx hb dX6_rounds_228 rfl (lv_at hl 0 rfl) ?_
                          refine va_put (D := D) (ci := 5) (v := .int (nI 0)) (ty := .int) (C := RX6) (T := TX6) (N := 27) hx hb hts hin6 tyX6 tyX6_ok nmX6 hown hK hP hD hS 0 rfl rfl 7 (by decide) fl25 (fun _ h9 => h9) rfl (by decide +kernel) rfl rfl (Nat.le_of_ble_eq_true rfl) dX6_rounds_229 (fun H locs hP hD hS => ?_)
                          have hP : va_P D vwCl (mw cI r (nI pl) (nI tr) (nI 0) (nI i) (nI pl) (nI ((Ls i).length)) (nI ((Ls (i - 1)).length)) i17 i18 i19 i22 i23 a1 a2 a4 a5 a6 (upd f10 i (nI (Ls i).length)) (wrN f11 (kpW f12 (Ls i).length) (1000 * i) 1000) f12 f14 a16 a20 a21 a24 f25 a26) H := hP
                          have hD : va_D A (mw cI r (nI pl) (nI tr) (nI 0) (nI i) (nI pl) (nI ((Ls i).length)) (nI ((Ls (i - 1)).length)) i17 i18 i19 i22 i23 a1 a2 a4 a5 a6 (upd f10 i (nI (Ls i).length)) (wrN f11 (kpW f12 (Ls i).length) (1000 * i) 1000) f12 f14 a16 a20 a21 a24 f25 a26) := hD
                          refine lv_aload_n hx hb dX6_rounds_232 rfl (lv_at hl 1 rfl) ?_
                          refine va_get (D := D) (ci := 5) (v := .int (nI 0)) (C := RX6) (T := TX6) (N := 27) hx hb hts hin6 hown hK hP 0 rfl rfl 7 (by decide) fl25 (fun _ h9 => h9) rfl dX6_rounds_233 ?_
                          refine lv_iconst (v := nI 1) hx hb dX6_rounds_236 (by decide) ?_
                          refine lv_icmp_ne (tgt := 244) hx hb dX6_rounds_237 (by decide) (fun c237 => ?_) (fun c237 => absurd c237 (by decide))
                          refine lv_aload_n hx hb dX6_rounds_244 rfl (lv_at hl 1 rfl) ?_
                          refine va_get (D := D) (ci := 5) (v := .int (nI 0)) (C := RX6) (T := TX6) (N := 27) hx hb hts hin6 hown hK hP 0 rfl rfl 7 (by decide) fl25 (fun _ h9 => h9) rfl dX6_rounds_245 ?_
                          exact hret _ ((nI ((Ls i).length)), (nI ((Ls (i - 1)).length)), (upd f10 i (nI (Ls i).length)), (wrN f11 (kpW f12 (Ls i).length) (1000 * i) 1000), f12, f14, a16, f25, a26) _ _ _ _ _ _ rfl ⟨he.symm, h10n, (fun h => absurd h (by rw [he]; decide))⟩ (by rw [he]; exact hP) (by rw [he]; exact hD) dX6_rounds_248 hS (Nat.zero_le _) (Nat.zero_le _)
                    · skip
                      have he : endM Ls a1 i = (-1) := endM_2 c129 c144
                      have hila : i = la := by
                        rcases Nat.lt_or_eq_of_le hi with h | h
                        · have h9 := hgo i h
                          rw [he] at h9
                          exact absurd h9 (by decide)
                        · exact h
                      subst hila
                      refine lv_iconst (v := -1) hx hb dX6_rounds_147 (by decide) ?_
                      refine lv_istore_n (lv' := [(2, .int (-1)), (0, .ref (r 0)), (1, .int (nI i)), (3, .int (nI 1000))]) hx hb dX6_rounds_148 rfl hl (by decide) rfl (fun ls hl => ?_)
                      refine lv_goto (tgt := 58) hx hb dX6_rounds_149 (by decide) ?_
                      refine lv_iload_n hx hb dX6_rounds_58 rfl (lv_at hl 0 rfl) ?_
                      refine lv_iconst (v := nI 2) hx hb dX6_rounds_59 (by decide) ?_
                      refine lv_icmp_ne (tgt := 227) hx hb dX6_rounds_60 (by decide) (fun c60 => ?_) (fun c60 => absurd c60 (by decide))
                      refine lv_aload_n hx hb dX6_rounds_227 rfl (lv_at hl 1 rfl) ?_
                      refine lv_iload_n hx hb dX6_rounds_228 rfl (lv_at hl 0 rfl) ?_
                      refine va_put (D := D) (ci := 5) (v := .int (-1)) (ty := .int) (C := RX6) (T := TX6) (N := 27) hx hb hts hin6 tyX6 tyX6_ok nmX6 hown hK hP hD hS 0 rfl rfl 7 (by decide) fl25 (fun _ h9 => h9) rfl (by decide +kernel) rfl rfl (Nat.le_of_ble_eq_true rfl) dX6_rounds_229 (fun H locs hP hD hS => ?_)
                      have hP : va_P D vwCl (mw cI r (nI pl) (nI tr) (-1) (nI i) (nI pl) (nI ((Ls i).length)) l15 i17 i18 i19 i22 i23 a1 a2 a4 a5 a6 (upd f10 i (nI (Ls i).length)) (wrN f11 (kpW f12 (Ls i).length) (1000 * i) 1000) f12 f14 a16 a20 a21 a24 f25 a26) H := hP
                      have hD : va_D A (mw cI r (nI pl) (nI tr) (-1) (nI i) (nI pl) (nI ((Ls i).length)) l15 i17 i18 i19 i22 i23 a1 a2 a4 a5 a6 (upd f10 i (nI (Ls i).length)) (wrN f11 (kpW f12 (Ls i).length) (1000 * i) 1000) f12 f14 a16 a20 a21 a24 f25 a26) := hD
                      refine lv_aload_n hx hb dX6_rounds_232 rfl (lv_at hl 1 rfl) ?_
                      refine va_get (D := D) (ci := 5) (v := .int (-1)) (C := RX6) (T := TX6) (N := 27) hx hb hts hin6 hown hK hP 0 rfl rfl 7 (by decide) fl25 (fun _ h9 => h9) rfl dX6_rounds_233 ?_
                      refine lv_iconst (v := nI 1) hx hb dX6_rounds_236 (by decide) ?_
                      refine lv_icmp_ne (tgt := 244) hx hb dX6_rounds_237 (by decide) (fun c237 => ?_) (fun c237 => absurd c237 (by decide))
                      refine lv_aload_n hx hb dX6_rounds_244 rfl (lv_at hl 1 rfl) ?_
                      refine va_get (D := D) (ci := 5) (v := .int (-1)) (C := RX6) (T := TX6) (N := 27) hx hb hts hin6 hown hK hP 0 rfl rfl 7 (by decide) fl25 (fun _ h9 => h9) rfl dX6_rounds_245 ?_
                      exact hret _ ((nI ((Ls i).length)), l15, (upd f10 i (nI (Ls i).length)), (wrN f11 (kpW f12 (Ls i).length) (1000 * i) 1000), f12, f14, a16, f25, a26) _ _ _ _ _ _ rfl ⟨he.symm, h10n, (fun h => absurd h (by rw [he]; decide))⟩ (by rw [he]; exact hP) (by rw [he]; exact hD) dX6_rounds_248 hS (Nat.zero_le _) (Nat.zero_le _)
                  · skip
                    have he : endM Ls a1 i = nI 1 := endM_1 c129
                    have hila : i = la := by
                      rcases Nat.lt_or_eq_of_le hi with h | h
                      · have h9 := hgo i h
                        rw [he] at h9
                        exact absurd h9 (by decide)
                      · exact h
                    subst hila
                    have hKs9 : ∀ j, j < i → rowsV (wrN f11 (kpW f12 (Ls i).length) (1000 * i) 1000) (1000 * j) (Ls j) ∧ (Ls j).length ≤ 200 ∧ (upd f10 i (nI (Ls i).length)) j = nI (Ls j).length := fun j hj => ⟨kp_old (h11 j hj).1 (h11 j hj).2 hj, (h11 j hj).2, h10n j (Nat.le_of_lt hj)⟩
                    refine lv_iconst (v := nI 1) hx hb dX6_rounds_132 (by decide) ?_
                    refine lv_istore_n (lv' := [(2, .int (nI 1)), (0, .ref (r 0)), (1, .int (nI i)), (3, .int (nI 1000))]) hx hb dX6_rounds_133 rfl hl (by decide) rfl (fun ls hl => ?_)
                    refine lv_goto (tgt := 58) hx hb dX6_rounds_134 (by decide) ?_
                    refine lv_iload_n hx hb dX6_rounds_58 rfl (lv_at hl 0 rfl) ?_
                    refine lv_iconst (v := nI 2) hx hb dX6_rounds_59 (by decide) ?_
                    refine lv_icmp_ne (tgt := 227) hx hb dX6_rounds_60 (by decide) (fun c60 => ?_) (fun c60 => absurd c60 (by decide))
                    refine lv_aload_n hx hb dX6_rounds_227 rfl (lv_at hl 1 rfl) ?_
                    refine lv_iload_n hx hb dX6_rounds_228 rfl (lv_at hl 0 rfl) ?_
                    refine va_put (D := D) (ci := 5) (v := .int (nI 1)) (ty := .int) (C := RX6) (T := TX6) (N := 27) hx hb hts hin6 tyX6 tyX6_ok nmX6 hown hK hP hD hS 0 rfl rfl 7 (by decide) fl25 (fun _ h9 => h9) rfl (by decide +kernel) rfl rfl (Nat.le_of_ble_eq_true rfl) dX6_rounds_229 (fun H locs hP hD hS => ?_)
                    have hP : va_P D vwCl (mw cI r (nI pl) (nI tr) (nI 1) (nI i) (nI pl) (nI ((Ls i).length)) l15 i17 i18 i19 i22 i23 a1 a2 a4 a5 a6 (upd f10 i (nI (Ls i).length)) (wrN f11 (kpW f12 (Ls i).length) (1000 * i) 1000) f12 f14 a16 a20 a21 a24 f25 a26) H := hP
                    have hD : va_D A (mw cI r (nI pl) (nI tr) (nI 1) (nI i) (nI pl) (nI ((Ls i).length)) l15 i17 i18 i19 i22 i23 a1 a2 a4 a5 a6 (upd f10 i (nI (Ls i).length)) (wrN f11 (kpW f12 (Ls i).length) (1000 * i) 1000) f12 f14 a16 a20 a21 a24 f25 a26) := hD
                    refine lv_aload_n hx hb dX6_rounds_232 rfl (lv_at hl 1 rfl) ?_
                    refine va_get (D := D) (ci := 5) (v := .int (nI 1)) (C := RX6) (T := TX6) (N := 27) hx hb hts hin6 hown hK hP 0 rfl rfl 7 (by decide) fl25 (fun _ h9 => h9) rfl dX6_rounds_233 ?_
                    refine lv_iconst (v := nI 1) hx hb dX6_rounds_236 (by decide) ?_
                    refine lv_icmp_ne (tgt := 244) hx hb dX6_rounds_237 (by decide) (fun c237 => absurd c237 (by decide)) (fun c237 => ?_)
                    refine lv_aload_n hx hb dX6_rounds_240 rfl (lv_at hl 1 rfl) ?_
                    refine wk_VvW (As := []) (rest := []) (wr := []) ⟨hx, hb, hml, hown, hts⟩ (c_X6_tellRow l D cI cJ cZ cA r (nI pl) (nI 1) (nI pl) (nI ((Ls i).length)) l15 i17 i18 i19 i22 i23 a1 a2 a4 a5 a6 (upd f10 i (nI (Ls i).length)) (wrN f11 (kpW f12 (Ls i).length) (1000 * i) 1000) f12 f14 a16 a20 a21 a24 f25 a26 H.size tr i Ls gt htr (by omega) hKs9 (hg he)) (cwV 0 hts gX6_rounds_X6_tellRow rfl rfl rfl (by decide +kernel) ⟨Nat.le_of_ble_eq_true rfl, Nat.le_of_ble_eq_true rfl⟩) hK hP hD hA [0, 1, 2, 3, 4, 5, 6, 7, 8, 9, 10, 11, 12, 13, 14, 15] rfl (by decide) [] rfl (by decide) (by decide) 0 5 rfl rfl hS rfl hl.1 rfl (Nat.le_of_ble_eq_true rfl) dX6_rounds_241 ⟨Nat.le_of_ble_eq_true rfl, Nat.le_of_ble_eq_true rfl⟩ (fun u9 H locs hu hP hD hS => ?_)
                    have hP : va_P D vwCl (mw cI r (nI pl) (nI tr) (nI 1) (nI i) (nI pl) (nI ((Ls i).length)) l15 i17 i18 i19 i22 i23 a1 a2 a4 a5 a6 (upd f10 i (nI (Ls i).length)) (wrN f11 (kpW f12 (Ls i).length) (1000 * i) 1000) f12 f14 u9.1 a20 a21 a24 u9.2.1 u9.2.2) H := hP
                    have hD : va_D A (mw cI r (nI pl) (nI tr) (nI 1) (nI i) (nI pl) (nI ((Ls i).length)) l15 i17 i18 i19 i22 i23 a1 a2 a4 a5 a6 (upd f10 i (nI (Ls i).length)) (wrN f11 (kpW f12 (Ls i).length) (1000 * i) 1000) f12 f14 u9.1 a20 a21 a24 u9.2.1 u9.2.2) := hD
                    refine lv_aload_n hx hb dX6_rounds_244 rfl (lv_at hl 1 rfl) ?_
                    refine va_get (D := D) (ci := 5) (v := .int (nI 1)) (C := RX6) (T := TX6) (N := 27) hx hb hts hin6 hown hK hP 0 rfl rfl 7 (by decide) fl25 (fun _ h9 => h9) rfl dX6_rounds_245 ?_
                    exact hret _ ((nI ((Ls i).length)), l15, (upd f10 i (nI (Ls i).length)), (wrN f11 (kpW f12 (Ls i).length) (1000 * i) 1000), f12, f14, u9.1, u9.2.1, u9.2.2) _ _ _ _ _ _ rfl ⟨he.symm, h10n, fun _ => hu⟩ (by rw [he]; exact hP) (by rw [he]; exact hD) dX6_rounds_248 hS (Nat.zero_le _) (Nat.zero_le _)
                · skip
                  refine lv_aload_n hx hb dX6_rounds_82 rfl (lv_at hl 0 rfl) ?_
                  refine va_get (D := D) (ci := 5) (v := .ref (r 11)) (C := RX6) (T := TX6) (N := 27) hx hb hts hin6 hown hK hP 0 rfl rfl 11 (by decide) fl33 (fun _ h9 => h9) rfl dX6_rounds_83 ?_
                  refine lv_sipush (v := nI 1000) hx hb dX6_rounds_86 (by decide) ?_
                  refine lv_iload_n hx hb dX6_rounds_89 rfl (lv_at hl 1 rfl) ?_
                  refine wk_imul hx hb dX6_rounds_90 ?_
                  refine lv_iload_n hx hb dX6_rounds_91 rfl (lv_at hl 3 rfl) ?_
                  refine wk_iadd hx hb dX6_rounds_92 ?_
                  refine lv_iload_n hx hb dX6_rounds_93 rfl (lv_at hl 3 rfl) ?_
                  refine lv_iconst (v := nI 5) hx hb dX6_rounds_94 (by decide) ?_
                  refine lv_aload_n hx hb dX6_rounds_95 rfl (lv_at hl 0 rfl) ?_
                  refine va_get (D := D) (ci := 5) (v := .int (nI ((Ls i).length))) (C := RX6) (T := TX6) (N := 27) hx hb hts hin6 hown hK hP 0 rfl rfl 13 (by decide) fl80 (fun _ h9 => h9) rfl dX6_rounds_96 ?_
                  refine wk_imul hx hb dX6_rounds_99 ?_
                  refine wk_icmp_ge (tgt := 112) hx hb (by omega) (by omega) dX6_rounds_100 (by decide) (fun c100 => ?_) (fun c100 => ?_)
                  · skip
                    refine lv_iconst (v := nI 0) hx hb dX6_rounds_112 (by decide) ?_
                    refine wk_iast hx hb hK hP hD hS 7 0 rfl rfl (i := (1000 * i) + q) (by omega) (by omega) dX6_rounds_113 (fun H locs hP hD hS => ?_)
                    have hP : va_P D vwCl (mw cI r (nI pl) (nI tr) i7 l8 (nI pl) (nI ((Ls i).length)) l15 i17 i18 i19 i22 i23 a1 a2 a4 a5 a6 (upd f10 i (nI (Ls i).length)) (upd (wrN f11 (kpW f12 (Ls i).length) (1000 * i) q) ((1000 * i) + q) (nI 0)) f12 f14 a16 a20 a21 a24 f25 a26) H := hP
                    have hD : va_D A (mw cI r (nI pl) (nI tr) i7 l8 (nI pl) (nI ((Ls i).length)) l15 i17 i18 i19 i22 i23 a1 a2 a4 a5 a6 (upd f10 i (nI (Ls i).length)) (upd (wrN f11 (kpW f12 (Ls i).length) (1000 * i) q) ((1000 * i) + q) (nI 0)) f12 f14 a16 a20 a21 a24 f25 a26) := hD
                    refine lv_iinc (v := (nI (q + 1))) (lv' := [(3, .int (nI (q + 1))), (0, .ref (r 0)), (1, .int (nI i)), (2, .int (nI 2))]) hx hb dX6_rounds_114 hl (k := 3) rfl (by exact nI_1 _) (by decide) rfl (fun ls hl => ?_)
                    refine lv_goto (tgt := 75) hx hb dX6_rounds_117 (by decide) ?_
                    have hP : va_P D vwCl (mw cI r (nI pl) (nI tr) i7 l8 (nI pl) (nI ((Ls i).length)) l15 i17 i18 i19 i22 i23 a1 a2 a4 a5 a6 (upd f10 i (nI (Ls i).length)) (wrN f11 (kpW f12 (Ls i).length) (1000 * i) (q + 1)) f12 f14 a16 a20 a21 a24 f25 a26) H := by rw [← wrN_s, kpW_ge c100]; exact hP
                    have hD : va_D A (mw cI r (nI pl) (nI tr) i7 l8 (nI pl) (nI ((Ls i).length)) l15 i17 i18 i19 i22 i23 a1 a2 a4 a5 a6 (upd f10 i (nI (Ls i).length)) (wrN f11 (kpW f12 (Ls i).length) (1000 * i) (q + 1)) f12 f14 a16 a20 a21 a24 f25 a26) := by rw [← wrN_s, kpW_ge c100]; exact hD
                    exact ih75 (q + 1) (by omega) (by omega) _ _ _ hP hD hS (lv_sub hl [1, 2, 3, 0] rfl)
                  · skip
                    refine lv_aload_n hx hb dX6_rounds_103 rfl (lv_at hl 0 rfl) ?_
                    refine va_get (D := D) (ci := 5) (v := .ref (r 12)) (C := RX6) (T := TX6) (N := 27) hx hb hts hin6 hown hK hP 0 rfl rfl 12 (by decide) fl36 (fun _ h9 => h9) rfl dX6_rounds_104 ?_
                    refine lv_iload_n hx hb dX6_rounds_107 rfl (lv_at hl 3 rfl) ?_
                    refine wk_iald hx hb hK hP 8 0 rfl rfl (i := q) (by omega) (by omega) dX6_rounds_108 ?_
                    refine lv_goto (tgt := 113) hx hb dX6_rounds_109 (by decide) ?_
                    refine wk_iast hx hb hK hP hD hS 7 0 rfl rfl (i := (1000 * i) + q) (by omega) (by omega) dX6_rounds_113 (fun H locs hP hD hS => ?_)
                    have hP : va_P D vwCl (mw cI r (nI pl) (nI tr) i7 l8 (nI pl) (nI ((Ls i).length)) l15 i17 i18 i19 i22 i23 a1 a2 a4 a5 a6 (upd f10 i (nI (Ls i).length)) (upd (wrN f11 (kpW f12 (Ls i).length) (1000 * i) q) ((1000 * i) + q) (f12 q)) f12 f14 a16 a20 a21 a24 f25 a26) H := hP
                    have hD : va_D A (mw cI r (nI pl) (nI tr) i7 l8 (nI pl) (nI ((Ls i).length)) l15 i17 i18 i19 i22 i23 a1 a2 a4 a5 a6 (upd f10 i (nI (Ls i).length)) (upd (wrN f11 (kpW f12 (Ls i).length) (1000 * i) q) ((1000 * i) + q) (f12 q)) f12 f14 a16 a20 a21 a24 f25 a26) := hD
                    refine lv_iinc (v := (nI (q + 1))) (lv' := [(3, .int (nI (q + 1))), (0, .ref (r 0)), (1, .int (nI i)), (2, .int (nI 2))]) hx hb dX6_rounds_114 hl (k := 3) rfl (by exact nI_1 _) (by decide) rfl (fun ls hl => ?_)
                    refine lv_goto (tgt := 75) hx hb dX6_rounds_117 (by decide) ?_
                    have hP : va_P D vwCl (mw cI r (nI pl) (nI tr) i7 l8 (nI pl) (nI ((Ls i).length)) l15 i17 i18 i19 i22 i23 a1 a2 a4 a5 a6 (upd f10 i (nI (Ls i).length)) (wrN f11 (kpW f12 (Ls i).length) (1000 * i) (q + 1)) f12 f14 a16 a20 a21 a24 f25 a26) H := by rw [← wrN_s, kpW_lt c100]; exact hP
                    have hD : va_D A (mw cI r (nI pl) (nI tr) i7 l8 (nI pl) (nI ((Ls i).length)) l15 i17 i18 i19 i22 i23 a1 a2 a4 a5 a6 (upd f10 i (nI (Ls i).length)) (wrN f11 (kpW f12 (Ls i).length) (1000 * i) (q + 1)) f12 f14 a16 a20 a21 a24 f25 a26) := by rw [← wrN_s, kpW_lt c100]; exact hD
                    exact ih75 (q + 1) (by omega) (by omega) _ _ _ hP hD hS (lv_sub hl [1, 2, 3, 0] rfl)
            have hP : va_P D vwCl (mw cI r (nI pl) (nI tr) i7 l8 (nI pl) (nI ((Ls i).length)) l15 i17 i18 i19 i22 i23 a1 a2 a4 a5 a6 (upd f10 i (nI (Ls i).length)) (wrN f11 (kpW f12 (Ls i).length) (1000 * i) 0) f12 f14 a16 a20 a21 a24 f25 a26) H := by rw [wrN_0]; exact hP
            have hD : va_D A (mw cI r (nI pl) (nI tr) i7 l8 (nI pl) (nI ((Ls i).length)) l15 i17 i18 i19 i22 i23 a1 a2 a4 a5 a6 (upd f10 i (nI (Ls i).length)) (wrN f11 (kpW f12 (Ls i).length) (1000 * i) 0) f12 f14 a16 a20 a21 a24 f25 a26) := by rw [wrN_0]; exact hD
            exact lp75 _ 0 (Nat.lt_succ_self _) (by omega) _ _ _ hP hD hS (lv_sub hl [1, 2, 3, 0] rfl)
        have hP : va_P D vwCl (mw cI r (nI pl) (nI tr) i7 i8 (nI pl) (nI ((Ls 0).length)) i15 i17 i18 i19 i22 i23 a1 a2 a4 a5 a6 a10 a11 v9 a14 a16 a20 a21 a24 (cpN (tgM pl a2) a25 5) a26) H := by rw [hL0]; exact hP
        have hD : va_D A (mw cI r (nI pl) (nI tr) i7 i8 (nI pl) (nI ((Ls 0).length)) i15 i17 i18 i19 i22 i23 a1 a2 a4 a5 a6 a10 a11 v9 a14 a16 a20 a21 a24 (cpN (tgM pl a2) a25 5) a26) := by rw [hL0]; exact hD
        exact lp58 _ 0 i8 i15 a10 a11 v9 a14 (cpN (tgM pl a2) a25 5) (Nat.lt_succ_self _) (Nat.zero_le _) (by rw [hL0]; exact hu) (by rw [hL0]; exact Nat.le_trans (tkIn_len [] _) (by decide)) (fun j h => absurd h (Nat.not_lt_zero j)) (fun j h => absurd h (Nat.not_lt_zero j)) (fun h => absurd h (Nat.lt_irrefl 0)) _ _ _ hP hD hS (lv_sub hl [2, 1, 0] rfl)
      · skip
        refine lv_aload_n hx hb dX6_rounds_20 rfl (lv_at hl 0 rfl) ?_
        refine va_get (D := D) (ci := 5) (v := .ref (r 25)) (C := RX6) (T := TX6) (N := 27) hx hb hts hin6 hown hK hP 0 rfl rfl 25 (by decide) fl54 (fun _ h9 => h9) rfl dX6_rounds_21 ?_
        refine lv_iload_n hx hb dX6_rounds_24 rfl (lv_at hl 1 rfl) ?_
        refine lv_iload_n hx hb dX6_rounds_25 rfl (lv_at hl 1 rfl) ?_
        refine lv_aload_n hx hb dX6_rounds_26 rfl (lv_at hl 0 rfl) ?_
        refine va_get (D := D) (ci := 5) (v := .int (nI pl)) (C := RX6) (T := TX6) (N := 27) hx hb hts hin6 hown hK hP 0 rfl rfl 0 (by decide) fl60 (fun _ h9 => h9) rfl dX6_rounds_27 ?_
        refine wk_icmp_ge (tgt := 42) hx hb (by omega) (by omega) dX6_rounds_30 (by decide) (fun c30 => ?_) (fun c30 => ?_)
        · skip
          refine lv_iconst (v := nI 0) hx hb dX6_rounds_42 (by decide) ?_
          refine wk_iast hx hb hK hP hD hS 14 0 rfl rfl (i := q) (by omega) (by omega) dX6_rounds_43 (fun H locs hP hD hS => ?_)
          have hP : va_P D vwCl (mw cI r (nI pl) (nI tr) i7 i8 (nI pl) (nI 0) i15 i17 i18 i19 i22 i23 a1 a2 a4 a5 a6 a10 a11 a12 a14 a16 a20 a21 a24 (upd (cpN (tgM pl a2) a25 q) q (nI 0)) a26) H := hP
          have hD : va_D A (mw cI r (nI pl) (nI tr) i7 i8 (nI pl) (nI 0) i15 i17 i18 i19 i22 i23 a1 a2 a4 a5 a6 a10 a11 a12 a14 a16 a20 a21 a24 (upd (cpN (tgM pl a2) a25 q) q (nI 0)) a26) := hD
          refine lv_iinc (v := (nI (q + 1))) (lv' := [(1, .int (nI (q + 1))), (0, .ref (r 0))]) hx hb dX6_rounds_44 hl (k := 1) rfl (by exact nI_1 _) (by decide) rfl (fun ls hl => ?_)
          refine lv_goto (tgt := 15) hx hb dX6_rounds_47 (by decide) ?_
          have hP : va_P D vwCl (mw cI r (nI pl) (nI tr) i7 i8 (nI pl) (nI 0) i15 i17 i18 i19 i22 i23 a1 a2 a4 a5 a6 a10 a11 a12 a14 a16 a20 a21 a24 (cpN (tgM pl a2) a25 (q + 1)) a26) H := by rw [← cpN_s, tgM_ge c30]; exact hP
          have hD : va_D A (mw cI r (nI pl) (nI tr) i7 i8 (nI pl) (nI 0) i15 i17 i18 i19 i22 i23 a1 a2 a4 a5 a6 a10 a11 a12 a14 a16 a20 a21 a24 (cpN (tgM pl a2) a25 (q + 1)) a26) := by rw [← cpN_s, tgM_ge c30]; exact hD
          exact ih15 (q + 1) (by omega) (by omega) _ _ _ hP hD hS (lv_sub hl [1, 0] rfl)
        · skip
          refine lv_aload_n hx hb dX6_rounds_33 rfl (lv_at hl 0 rfl) ?_
          refine va_get (D := D) (ci := 5) (v := .ref (r 2)) (C := RX6) (T := TX6) (N := 27) hx hb hts hin6 hown hK hP 0 rfl rfl 2 (by decide) fl13 (fun _ h9 => h9) rfl dX6_rounds_34 ?_
          refine lv_iload_n hx hb dX6_rounds_37 rfl (lv_at hl 1 rfl) ?_
          refine wk_iald hx hb hK hP 2 0 rfl rfl (i := q) (by omega) (by omega) dX6_rounds_38 ?_
          refine lv_goto (tgt := 43) hx hb dX6_rounds_39 (by decide) ?_
          refine wk_iast hx hb hK hP hD hS 14 0 rfl rfl (i := q) (by omega) (by omega) dX6_rounds_43 (fun H locs hP hD hS => ?_)
          have hP : va_P D vwCl (mw cI r (nI pl) (nI tr) i7 i8 (nI pl) (nI 0) i15 i17 i18 i19 i22 i23 a1 a2 a4 a5 a6 a10 a11 a12 a14 a16 a20 a21 a24 (upd (cpN (tgM pl a2) a25 q) q (a2 q)) a26) H := hP
          have hD : va_D A (mw cI r (nI pl) (nI tr) i7 i8 (nI pl) (nI 0) i15 i17 i18 i19 i22 i23 a1 a2 a4 a5 a6 a10 a11 a12 a14 a16 a20 a21 a24 (upd (cpN (tgM pl a2) a25 q) q (a2 q)) a26) := hD
          refine lv_iinc (v := (nI (q + 1))) (lv' := [(1, .int (nI (q + 1))), (0, .ref (r 0))]) hx hb dX6_rounds_44 hl (k := 1) rfl (by exact nI_1 _) (by decide) rfl (fun ls hl => ?_)
          refine lv_goto (tgt := 15) hx hb dX6_rounds_47 (by decide) ?_
          have hP : va_P D vwCl (mw cI r (nI pl) (nI tr) i7 i8 (nI pl) (nI 0) i15 i17 i18 i19 i22 i23 a1 a2 a4 a5 a6 a10 a11 a12 a14 a16 a20 a21 a24 (cpN (tgM pl a2) a25 (q + 1)) a26) H := by rw [← cpN_s, tgM_lt c30]; exact hP
          have hD : va_D A (mw cI r (nI pl) (nI tr) i7 i8 (nI pl) (nI 0) i15 i17 i18 i19 i22 i23 a1 a2 a4 a5 a6 a10 a11 a12 a14 a16 a20 a21 a24 (cpN (tgM pl a2) a25 (q + 1)) a26) := by rw [← cpN_s, tgM_lt c30]; exact hD
          exact ih15 (q + 1) (by omega) (by omega) _ _ _ hP hD hS (lv_sub hl [1, 0] rfl)
  have hP : va_P D vwCl (mw cI r (nI pl) (nI tr) i7 i8 (nI pl) (nI 0) i15 i17 i18 i19 i22 i23 a1 a2 a4 a5 a6 a10 a11 a12 a14 a16 a20 a21 a24 (cpN (tgM pl a2) a25 0) a26) H := by rw [cpN_0]; exact hP
  have hD : va_D A (mw cI r (nI pl) (nI tr) i7 i8 (nI pl) (nI 0) i15 i17 i18 i19 i22 i23 a1 a2 a4 a5 a6 a10 a11 a12 a14 a16 a20 a21 a24 (cpN (tgM pl a2) a25 0) a26) := by rw [cpN_0]; exact hD
  exact lp15 _ 0 (Nat.lt_succ_self _) (by omega) _ _ _ hP hD hS (lv_sub hl [1, 0] rfl)
end
section
/-! THE TREE: nodes with their markings and those above them -/
abbrev Nd : Type := Nat × Rw × List Rw
def treeV (f20 f21 : Nat → Int32) (T : List Nd) : Prop := ∀ k nd, T[k]? = some nd → (∀ q, q < 5 → f20 (5 * k + q) = nd.2.1 q) ∧ (k = 0 → f21 0 = -1 ∧ nd.2.2 = []) ∧ (0 < k → nd.1 < k ∧ f21 k = nI nd.1 ∧ ∃ pn, T[nd.1]? = some pn ∧ nd.2.2 = pn.2.1 :: pn.2.2)
def remV (T : List Nd) (up : Int32) (rem : List Rw) : Prop := (up < 0 ∧ rem = []) ∨ ∃ v nv, T[v]? = some nv ∧ up = nI v ∧ rem = nv.2.1 :: nv.2.2
theorem tv_rem {f20 f21 : Nat → Int32} {T : List Nd} (h : treeV f20 f21 T) {v : Nat} {nv : Nd} (hv : T[v]? = some nv) : remV T (f21 v) nv.2.2 := by
  obtain ⟨-, h0, h1⟩ := h v nv hv
  rcases Nat.eq_zero_or_pos v with rfl | hp
  · obtain ⟨e1, e2⟩ := h0 rfl
    exact Or.inl ⟨by rw [e1]; decide, e2⟩
  · obtain ⟨-, e1, pn, hpn, e2⟩ := h1 hp
    exact Or.inr ⟨nv.1, pn, hpn, e1, e2⟩
theorem remV_neg {T : List Nd} {up : Int32} {rem : List Rw} (h : remV T up rem) (hT : T.length < 2 ^ 31) (c : up < 0) : rem = [] := by
  rcases h with h | ⟨v, nv, hv, e, -⟩
  · exact h.2
  · subst e
    have := (List.getElem?_eq_some_iff.mp hv).1
    exact absurd c (nI_pos (by omega))
theorem remV_pos {T : List Nd} {up : Int32} {rem : List Rw} (h : remV T up rem) (c : ¬ up < 0) : ∃ v nv, T[v]? = some nv ∧ up = nI v ∧ rem = nv.2.1 :: nv.2.2 := by
  rcases h with h | h
  · exact absurd h.1 c
  · exact h
theorem lt_of_some {α : Type} {T : List α} {v : Nat} {x : α} (h : T[v]? = some x) : v < T.length := (List.getElem?_eq_some_iff.mp h).1
def eqv (x y : Rw) : Bool := tp5 x y && tp5 y x
def oldG (w : Rw) (up : List Rw) : Bool := up.any (fun x => eqv x w)
theorem io_s {t t2 A9 : Bool} {P : Rw → Bool} {x : Rw} {xs rem : List Rw} (hinv : (t || rem.any P) = A9) (hr : rem = x :: xs) (h : t2 = (t || P x)) : (t2 || xs.any P) = A9 := by
  subst hr
  rw [h, Bool.or_assoc]
  exact hinv
def raM (om : Int32) (x w : Rw) : Rw := fun q => if x q < w q ∧ w q < om then om else w q
def rsM (om : Int32) (x w : Rw) : Bool := (List.range 5).any (fun q => decide (x q < w q ∧ w q < om))
def stM (om : Int32) (s : Rw × Bool) (x : Rw) : Rw × Bool := if tp5 s.1 x then (raM om x s.1, s.2 || rsM om x s.1) else s
def passF (om : Int32) (ch : List Rw) (s : Rw × Bool) : Rw × Bool := ch.foldl (stM om) s
def accM (om : Int32) (ch : List Rw) : Nat → Rw → Rw
  | 0, w => w
  | k + 1, w => if (passF om ch (w, false)).2 then accM om ch k (passF om ch (w, false)).1 else (passF om ch (w, false)).1
def cntF (om : Int32) (w : Rw) : Nat := ((List.range 5).filter (fun q => decide (w q < om))).length
theorem cntF_le5 (om : Int32) (w : Rw) : cntF om w ≤ 5 := Nat.le_trans (List.length_filter_le _ _) (by rw [List.length_range]; exact Nat.le_refl 5)
theorem fl_le {l : List Nat} {P R9 : Nat → Bool} (h : ∀ q, P q = true → R9 q = true) : (l.filter P).length ≤ (l.filter R9).length := by
  induction l with
  | nil => exact Nat.le_refl _
  | cons a l ih =>
    by_cases hp : P a = true
    · rw [List.filter_cons_of_pos hp, List.filter_cons_of_pos (h a hp)]
      exact Nat.succ_le_succ ih
    · rw [List.filter_cons_of_neg hp]
      by_cases hr : R9 a = true
      · rw [List.filter_cons_of_pos hr]; exact Nat.le_succ_of_le ih
      · rw [List.filter_cons_of_neg hr]; exact ih
theorem fl_lt {l : List Nat} {P R9 : Nat → Bool} (h : ∀ q, P q = true → R9 q = true) {a : Nat} (ha : a ∈ l) (h1 : R9 a = true) (h2 : P a = false) : (l.filter P).length < (l.filter R9).length := by
  induction l with
  | nil => cases ha
  | cons b l ih =>
    rcases List.mem_cons.mp ha with rfl | ha
    · rw [List.filter_cons_of_neg (by rw [h2]; exact Bool.false_ne_true), List.filter_cons_of_pos h1]
      exact Nat.lt_succ_of_le (fl_le h)
    · have := ih ha
      by_cases hp : P b = true
      · rw [List.filter_cons_of_pos hp, List.filter_cons_of_pos (h b hp)]
        exact Nat.succ_lt_succ this
      · rw [List.filter_cons_of_neg hp]
        by_cases hr : R9 b = true
        · rw [List.filter_cons_of_pos hr]; exact Nat.lt_succ_of_lt this
        · rw [List.filter_cons_of_neg hr]; exact this
theorem i32_irr (x : Int32) : ¬ x < x := fun h => by have := Int32.lt_iff_toInt_lt.mp h; omega
theorem ra_le (om : Int32) (x w : Rw) : ∀ q, decide (raM om x w q < om) = true → decide (w q < om) = true := by
  intro q h
  have h1 := of_decide_eq_true h
  unfold raM at h1
  split at h1
  · exact absurd h1 (i32_irr om)
  · exact decide_eq_true h1
theorem st_cnt (om : Int32) (s : Rw × Bool) (x : Rw) : cntF om (stM om s x).1 ≤ cntF om s.1 ∧ ((stM om s x).2 = true → s.2 = true ∨ cntF om (stM om s x).1 < cntF om s.1) := by
  unfold stM
  split
  · refine ⟨fl_le (ra_le om x s.1), fun h => ?_⟩
    rcases (Bool.or_eq_true _ _).mp h with h | h
    · exact Or.inl h
    · right
      obtain ⟨q, hq, h2⟩ := List.any_eq_true.mp h
      have h3 := of_decide_eq_true h2
      refine fl_lt (ra_le om x s.1) hq (decide_eq_true h3.2) ?_
      apply decide_eq_false
      show ¬ raM om x s.1 q < om
      unfold raM
      rw [if_pos h3]
      exact i32_irr om
  · exact ⟨Nat.le_refl _, fun h => Or.inl h⟩
theorem pass_cnt (om : Int32) : ∀ (ch : List Rw) (s : Rw × Bool), cntF om (passF om ch s).1 ≤ cntF om s.1 ∧ ((passF om ch s).2 = true → s.2 = true ∨ cntF om (passF om ch s).1 < cntF om s.1) := by
  intro ch
  induction ch with
  | nil => intro s; exact ⟨Nat.le_refl _, fun h => Or.inl h⟩
  | cons x ch ih =>
    intro s
    obtain ⟨h1, h2⟩ := ih (stM om s x)
    obtain ⟨h3, h4⟩ := st_cnt om s x
    refine ⟨Nat.le_trans h1 h3, fun h => ?_⟩
    rcases h2 h with h | h
    · rcases h4 h with h | h
      · exact Or.inl h
      · exact Or.inr (Nat.lt_of_le_of_lt h1 h)
    · exact Or.inr (Nat.lt_of_lt_of_le h h3)
theorem acc_t {om : Int32} {ch : List Rw} {k : Nat} {w w2 v : Rw} (hp : (w2, true) = passF om ch (w, false)) (ha : accM om ch k w = v) (hc : cntF om w < k) : ∃ k2, k = k2 + 1 ∧ accM om ch k2 w2 = v ∧ cntF om w2 < k2 := by
  obtain ⟨k2, rfl⟩ : ∃ k2, k = k2 + 1 := ⟨k - 1, by omega⟩
  refine ⟨k2, rfl, ?_, ?_⟩
  · rw [← ha]
    show _ = if (passF om ch (w, false)).2 then accM om ch k2 (passF om ch (w, false)).1 else (passF om ch (w, false)).1
    rw [← hp]
    rfl
  · have h1 := (pass_cnt om ch (w, false)).2 (by rw [← hp])
    rw [← hp] at h1
    rcases h1 with h | h
    · cases h
    · have h2 : cntF om w2 < cntF om w := h
      omega
theorem acc_f {om : Int32} {ch : List Rw} {k : Nat} {w w2 v : Rw} (hp : (w2, false) = passF om ch (w, false)) (ha : accM om ch k w = v) (hc : cntF om w < k) : w2 = v := by
  obtain ⟨k2, rfl⟩ : ∃ k2, k = k2 + 1 := ⟨k - 1, by omega⟩
  rw [← ha]
  show _ = if (passF om ch (w, false)).2 then accM om ch k2 (passF om ch (w, false)).1 else (passF om ch (w, false)).1
  rw [← hp]
  rfl
def raA (om : Int32) (f20 : Nat → Int32) (v : Nat) (g : Nat → Int32) : Nat → Int32 := fun q => if f20 (5 * v + q) < g q ∧ g q < om then om else g q
theorem raA_row {om : Int32} {f20 g : Nat → Int32} {v q : Nat} {x w : Rw} (h1 : f20 (5 * v + q) = x q) (h2 : g q = w q) : raA om f20 v g q = raM om x w q := by unfold raA raM; rw [h1, h2]
theorem raA_y {om : Int32} {f20 g : Nat → Int32} {v q : Nat} (h1 : ¬ g q ≤ f20 (5 * v + q)) (h2 : ¬ om ≤ g q) : raA om f20 v g q = om := if_pos ⟨Int32.not_le.mp h1, Int32.not_le.mp h2⟩
theorem raA_n1 {om : Int32} {f20 g : Nat → Int32} {v q : Nat} (h1 : g q ≤ f20 (5 * v + q)) : raA om f20 v g q = g q := if_neg (fun h => Int32.not_le.mpr h.1 h1)
theorem raA_n2 {om : Int32} {f20 g : Nat → Int32} {v q : Nat} (h2 : om ≤ g q) : raA om f20 v g q = g q := if_neg (fun h => Int32.not_le.mpr h.2 h2)
def rsA (om : Int32) (f20 : Nat → Int32) (v : Nat) (g : Nat → Int32) (q : Nat) : Prop := f20 (5 * v + q) < g q ∧ g q < om
theorem rs_end {om : Int32} {f20 g : Nat → Int32} {v : Nat} {x w : Rw} {t t2 : Bool} (h1 : ∀ q, q < 5 → f20 (5 * v + q) = x q) (h2 : ∀ q, q < 5 → g q = w q) (ht : t2 = true ↔ (t = true ∨ ∃ q, q < 5 ∧ rsA om f20 v g q)) : t2 = (t || rsM om x w) := by
  refine bb_eq ht ?_
  rw [Bool.or_eq_true]
  unfold rsM
  rw [List.any_eq_true]
  constructor
  · rintro (h | ⟨q, hq, h⟩)
    · exact Or.inl h
    · have hq := List.mem_range.mp hq
      have h := of_decide_eq_true h
      refine Or.inr ⟨q, hq, ?_⟩
      unfold rsA
      rw [h1 q hq, h2 q hq]
      exact h
  · rintro (h | ⟨q, hq, h⟩)
    · exact Or.inl h
    · refine Or.inr ⟨q, List.mem_range.mpr hq, decide_eq_true ?_⟩
      unfold rsA at h
      rw [h1 q hq, h2 q hq] at h
      exact h
theorem rs_t {t t2 : Bool} {q : Nat} {P : Nat → Prop} (ht : t2 = true ↔ (t = true ∨ ∃ j, j < q ∧ P j)) (c : t2 = true) : true = true ↔ (t = true ∨ ∃ j, j < q + 1 ∧ P j) :=
  ⟨fun _ => by rcases ht.mp c with h | ⟨j, hj, h⟩; exact Or.inl h; exact Or.inr ⟨j, Nat.lt_succ_of_lt hj, h⟩, fun _ => rfl⟩
theorem rs_y {t : Bool} {q : Nat} {P : Nat → Prop} (c : P q) : true = true ↔ (t = true ∨ ∃ j, j < q + 1 ∧ P j) := ⟨fun _ => Or.inr ⟨q, Nat.lt_succ_self q, c⟩, fun _ => rfl⟩
theorem rs_n {t t2 : Bool} {q : Nat} {P : Nat → Prop} (ht : t2 = true ↔ (t = true ∨ ∃ j, j < q ∧ P j)) (c : t2 = false) (hn : ¬ P q) : false = true ↔ (t = true ∨ ∃ j, j < q + 1 ∧ P j) :=
  ⟨fun h => by (cases h), fun h => by
    rw [← c]
    refine ht.mpr ?_
    rcases h with h | ⟨j, hj, h⟩
    · exact Or.inl h
    · rcases Nat.lt_or_eq_of_le (Nat.le_of_lt_succ hj) with h1 | rfl
      · exact Or.inr ⟨j, h1, h⟩
      · exact absurd h hn⟩
theorem rs_0 {t : Bool} {P : Nat → Prop} : t = true ↔ (t = true ∨ ∃ j, j < 0 ∧ P j) := ⟨Or.inl, fun h => by rcases h with h | ⟨j, hj, -⟩; exact h; exact absurd hj (Nat.not_lt_zero j)⟩
end
section
set_option maxHeartbeats 4000000 in
set_option maxRecDepth 100000 in
theorem c_X6_steps (l : Launch) (D : va_G) (cI cJ cZ cA : ClassId) (r : Nat → Nat) (i0 i3 i7 i8 i9 i13 i15 i17 i18 i19 i22 i23 : Int32) (a1 a2 a4 a5 a6 a10 a11 a12 a14 a16 a20 a21 a24 a25 a26 : Nat → Int32)  : Met l yX6_steps wsX6_steps ({ frames := 0, cells := 0, slots := 0, locals := 0 } : Room) (ro_P D (tysC cI cJ cZ cA) [.ref (r 0)] (mw cI r i0 i3 i7 i8 i9 i13 i15 i17 i18 i19 i22 i23 a1 a2 a4 a5 a6 a10 a11 a12 a14 a16 a20 a21 a24 a25 a26)) (ro_Q (if i7 = nI 1 then i8 else -1)) 0 0 (fun _ => False) := by
  refine met_ro (cc := cX6_steps) (maxL := 1) (ty := .int) (by decide) rfl (Nat.le_of_ble_eq_true rfl) rfl ?_
  intro p e s m args below meth c Q hx hb hml hown hts hP hK hret ls hl
  obtain ⟨H, hH9⟩ : ∃ H : Heap, H = s.heap := ⟨_, rfl⟩
  have hP : va_P D vwCl (mw cI r i0 i3 i7 i8 i9 i13 i15 i17 i18 i19 i22 i23 a1 a2 a4 a5 a6 a10 a11 a12 a14 a16 a20 a21 a24 a25 a26) H := by rw [hH9]; exact hP
  have hS : va_S (fun _ => False) s.heap H [] := by rw [hH9]; exact va_S.rf
  rw [← hH9]
  have hown : s.vm.findClass RX6 = some m.cls := hown
  have hin6 : ∀ w ∈ wsX60, w ∈ wsX6_steps := by decide +kernel
  have fl25 := hts (.fieldLink RX6 25 "CoverRoundsModel" "ended" "I") (by decide +kernel)
  have fl96 := hts (.fieldLink RX6 96 "CoverRoundsModel" "last" "I") (by decide +kernel)
  have hl : lv_has ls 1 [(0, .ref (r 0))] := hl
  refine lv_aload_n hx hb dX6_steps_0 rfl (lv_at hl 0 rfl) ?_
  refine va_get (D := D) (ci := 5) (v := .int i7) (C := RX6) (T := TX6) (N := 27) hx hb hts hin6 hown hK hP 0 rfl rfl 7 (by decide) fl25 (fun _ h9 => h9) rfl dX6_steps_1 ?_
  refine lv_iconst (v := nI 1) hx hb dX6_steps_4 (by decide) ?_
  refine lv_icmp_ne (tgt := 15) hx hb dX6_steps_5 (by decide) (fun c5 => ?_) (fun c5 => ?_)
  · skip
    refine lv_iconst (v := -1) hx hb dX6_steps_15 (by decide) ?_
    exact hret _ _ _ _ _ (by rw [if_neg c5]) dX6_steps_16 hS
  · skip
    refine lv_aload_n hx hb dX6_steps_8 rfl (lv_at hl 0 rfl) ?_
    refine va_get (D := D) (ci := 5) (v := .int i8) (C := RX6) (T := TX6) (N := 27) hx hb hts hin6 hown hK hP 0 rfl rfl 8 (by decide) fl96 (fun _ h9 => h9) rfl dX6_steps_9 ?_
    refine lv_goto (tgt := 16) hx hb dX6_steps_12 (by decide) ?_
    exact hret _ _ _ _ _ (by rw [if_pos c5]) dX6_steps_16 hS

set_option maxHeartbeats 4000000 in
set_option maxRecDepth 100000 in
theorem c_X6_witness (l : Launch) (D : va_G) (cI cJ cZ cA : ClassId) (r : Nat → Nat) (i0 i3 i7 i9 i13 i15 i17 i18 i19 i22 i23 : Int32) (a1 a2 a4 a5 a6 a10 a11 a12 a14 a16 a20 a21 a24 a25 a26 : Nat → Int32) (la : Nat) (x : Int32) (hla : la ≤ 60) : Met l yX6_witness wsX6_witness ({ frames := 0, cells := 0, slots := 0, locals := 0 } : Room) (ro_P D (tysC cI cJ cZ cA) [.ref (r 0), .int x] (mw cI r i0 i3 i7 (nI la) i9 i13 i15 i17 i18 i19 i22 i23 a1 a2 a4 a5 a6 a10 a11 a12 a14 a16 a20 a21 a24 a25 a26)) (ro_Q (if i7 = nI 1 ∧ inB x (nI la) = true then a16 x.toNatClampNeg else -1)) 0 0 (fun _ => False) := by
  refine met_ro (cc := cX6_witness) (maxL := 2) (ty := .int) (by decide) rfl (Nat.le_of_ble_eq_true rfl) rfl ?_
  intro p e s m args below meth c Q hx hb hml hown hts hP hK hret ls hl
  obtain ⟨H, hH9⟩ : ∃ H : Heap, H = s.heap := ⟨_, rfl⟩
  have hP : va_P D vwCl (mw cI r i0 i3 i7 (nI la) i9 i13 i15 i17 i18 i19 i22 i23 a1 a2 a4 a5 a6 a10 a11 a12 a14 a16 a20 a21 a24 a25 a26) H := by rw [hH9]; exact hP
  have hS : va_S (fun _ => False) s.heap H [] := by rw [hH9]; exact va_S.rf
  rw [← hH9]
  have hown : s.vm.findClass RX6 = some m.cls := hown
  have hin6 : ∀ w ∈ wsX60, w ∈ wsX6_witness := by decide +kernel
  have fl25 := hts (.fieldLink RX6 25 "CoverRoundsModel" "ended" "I") (by decide +kernel)
  have fl96 := hts (.fieldLink RX6 96 "CoverRoundsModel" "last" "I") (by decide +kernel)
  have fl42 := hts (.fieldLink RX6 42 "CoverRoundsModel" "rows" "[I") (by decide +kernel)
  have hl : lv_has ls 2 [(0, .ref (r 0)), (1, .int x)] := hl
  refine lv_aload_n hx hb dX6_witness_0 rfl (lv_at hl 0 rfl) ?_
  refine va_get (D := D) (ci := 5) (v := .int i7) (C := RX6) (T := TX6) (N := 27) hx hb hts hin6 hown hK hP 0 rfl rfl 7 (by decide) fl25 (fun _ h9 => h9) rfl dX6_witness_1 ?_
  refine lv_iconst (v := nI 1) hx hb dX6_witness_4 (by decide) ?_
  refine lv_icmp_ne (tgt := 29) hx hb dX6_witness_5 (by decide) (fun c5 => ?_) (fun c5 => ?_)
  · skip
    refine lv_iconst (v := -1) hx hb dX6_witness_29 (by decide) ?_
    exact hret _ _ _ _ _ (by rw [if_neg (fun h => c5 h.1)]) dX6_witness_30 hS
  · skip
    refine lv_iload_n hx hb dX6_witness_8 rfl (lv_at hl 1 rfl) ?_
    refine lv_if_lt (tgt := 29) hx hb dX6_witness_9 (by decide) (fun c9 => ?_) (fun c9 => ?_)
    · skip
      refine lv_iconst (v := -1) hx hb dX6_witness_29 (by decide) ?_
      exact hret _ _ _ _ _ (by rw [if_neg (fun h => by have h2 := h.2; simp [inB, c9] at h2)]) dX6_witness_30 hS
    · skip
      refine lv_iload_n hx hb dX6_witness_12 rfl (lv_at hl 1 rfl) ?_
      refine lv_aload_n hx hb dX6_witness_13 rfl (lv_at hl 0 rfl) ?_
      refine va_get (D := D) (ci := 5) (v := .int (nI la)) (C := RX6) (T := TX6) (N := 27) hx hb hts hin6 hown hK hP 0 rfl rfl 8 (by decide) fl96 (fun _ h9 => h9) rfl dX6_witness_14 ?_
      refine lv_icmp_ge (tgt := 29) hx hb dX6_witness_17 (by decide) (fun c17 => ?_) (fun c17 => ?_)
      · skip
        refine lv_iconst (v := -1) hx hb dX6_witness_29 (by decide) ?_
        exact hret _ _ _ _ _ (by rw [if_neg (fun h => by have h2 := h.2; simp [inB, c17] at h2)]) dX6_witness_30 hS
      · skip
        obtain ⟨j, hj, rfl, -⟩ := pk_mu c9 c17 (show la < 2 ^ 31 by omega)
        refine lv_aload_n hx hb dX6_witness_20 rfl (lv_at hl 0 rfl) ?_
        refine va_get (D := D) (ci := 5) (v := .ref (r 16)) (C := RX6) (T := TX6) (N := 27) hx hb hts hin6 hown hK hP 0 rfl rfl 16 (by decide) fl42 (fun _ h9 => h9) rfl dX6_witness_21 ?_
        refine lv_iload_n hx hb dX6_witness_24 rfl (lv_at hl 1 rfl) ?_
        refine wk_iald hx hb hK hP 10 0 rfl rfl (i := j) (by omega) (by omega) dX6_witness_25 ?_
        refine lv_goto (tgt := 30) hx hb dX6_witness_26 (by decide) ?_
        exact hret _ _ _ _ _ (by rw [if_pos ⟨c5, inB_is hj (by omega)⟩, nI_clamp (by omega)]) dX6_witness_30 hS

set_option maxHeartbeats 4000000 in
set_option maxRecDepth 100000 in
theorem c_X6_least (l : Launch) (D : va_G) (cI cJ cZ cA : ClassId) (r : Nat → Nat) (i0 i3 i7 i9 i13 i15 i17 i18 i19 i22 i23 : Int32) (a1 a2 a4 a5 a6 a10 a11 a12 a14 a16 a20 a21 a24 a25 a26 : Nat → Int32) (la : Nat) (x : Int32) (hla : la ≤ 60) : Met l yX6_least wsX6_least ({ frames := 0, cells := 0, slots := 0, locals := 0 } : Room) (ro_P D (tysC cI cJ cZ cA) [.ref (r 0), .int x] (mw cI r i0 i3 i7 (nI la) i9 i13 i15 i17 i18 i19 i22 i23 a1 a2 a4 a5 a6 a10 a11 a12 a14 a16 a20 a21 a24 a25 a26)) (ro_Q (if ¬ nI 2 ≤ i7 ∧ inC x (nI la) = true then a10 x.toNatClampNeg else -1)) 0 0 (fun _ => False) := by
  refine met_ro (cc := cX6_least) (maxL := 2) (ty := .int) (by decide) rfl (Nat.le_of_ble_eq_true rfl) rfl ?_
  intro p e s m args below meth c Q hx hb hml hown hts hP hK hret ls hl
  obtain ⟨H, hH9⟩ : ∃ H : Heap, H = s.heap := ⟨_, rfl⟩
  have hP : va_P D vwCl (mw cI r i0 i3 i7 (nI la) i9 i13 i15 i17 i18 i19 i22 i23 a1 a2 a4 a5 a6 a10 a11 a12 a14 a16 a20 a21 a24 a25 a26) H := by rw [hH9]; exact hP
  have hS : va_S (fun _ => False) s.heap H [] := by rw [hH9]; exact va_S.rf
  rw [← hH9]
  have hown : s.vm.findClass RX6 = some m.cls := hown
  have hin6 : ∀ w ∈ wsX60, w ∈ wsX6_least := by decide +kernel
  have fl25 := hts (.fieldLink RX6 25 "CoverRoundsModel" "ended" "I") (by decide +kernel)
  have fl96 := hts (.fieldLink RX6 96 "CoverRoundsModel" "last" "I") (by decide +kernel)
  have fl29 := hts (.fieldLink RX6 29 "CoverRoundsModel" "leastCounts" "[I") (by decide +kernel)
  have hl : lv_has ls 2 [(0, .ref (r 0)), (1, .int x)] := hl
  refine lv_aload_n hx hb dX6_least_0 rfl (lv_at hl 0 rfl) ?_
  refine va_get (D := D) (ci := 5) (v := .int i7) (C := RX6) (T := TX6) (N := 27) hx hb hts hin6 hown hK hP 0 rfl rfl 7 (by decide) fl25 (fun _ h9 => h9) rfl dX6_least_1 ?_
  refine lv_iconst (v := nI 2) hx hb dX6_least_4 (by decide) ?_
  refine lv_icmp_ge (tgt := 29) hx hb dX6_least_5 (by decide) (fun c5 => ?_) (fun c5 => ?_)
  · skip
    refine lv_iconst (v := -1) hx hb dX6_least_29 (by decide) ?_
    exact hret _ _ _ _ _ (by rw [if_neg (fun h => h.1 c5)]) dX6_least_30 hS
  · skip
    refine lv_iload_n hx hb dX6_least_8 rfl (lv_at hl 1 rfl) ?_
    refine lv_if_lt (tgt := 29) hx hb dX6_least_9 (by decide) (fun c9 => ?_) (fun c9 => ?_)
    · skip
      refine lv_iconst (v := -1) hx hb dX6_least_29 (by decide) ?_
      exact hret _ _ _ _ _ (by rw [if_neg (fun h => by have h2 := h.2; simp [inC, c9] at h2)]) dX6_least_30 hS
    · skip
      refine lv_iload_n hx hb dX6_least_12 rfl (lv_at hl 1 rfl) ?_
      refine lv_aload_n hx hb dX6_least_13 rfl (lv_at hl 0 rfl) ?_
      refine va_get (D := D) (ci := 5) (v := .int (nI la)) (C := RX6) (T := TX6) (N := 27) hx hb hts hin6 hown hK hP 0 rfl rfl 8 (by decide) fl96 (fun _ h9 => h9) rfl dX6_least_14 ?_
      refine lv_icmp_gt (tgt := 29) hx hb dX6_least_17 (by decide) (fun c17 => ?_) (fun c17 => ?_)
      · skip
        refine lv_iconst (v := -1) hx hb dX6_least_29 (by decide) ?_
        exact hret _ _ _ _ _ (by rw [if_neg (fun h => by have h2 := h.2; simp [inC, c17] at h2)]) dX6_least_30 hS
      · skip
        have hin9 : inC x (nI la) = true := by simp [inC, c9, c17]
        obtain ⟨j, hj, rfl⟩ := inC_nI (by omega) hin9
        refine lv_aload_n hx hb dX6_least_20 rfl (lv_at hl 0 rfl) ?_
        refine va_get (D := D) (ci := 5) (v := .ref (r 10)) (C := RX6) (T := TX6) (N := 27) hx hb hts hin6 hown hK hP 0 rfl rfl 10 (by decide) fl29 (fun _ h9 => h9) rfl dX6_least_21 ?_
        refine lv_iload_n hx hb dX6_least_24 rfl (lv_at hl 1 rfl) ?_
        refine wk_iald hx hb hK hP 6 0 rfl rfl (i := j) (by omega) (by omega) dX6_least_25 ?_
        refine lv_goto (tgt := 30) hx hb dX6_least_26 (by decide) ?_
        exact hret _ _ _ _ _ (by rw [if_pos ⟨c5, hin9⟩, nI_clamp (by omega)]) dX6_least_30 hS

set_option maxHeartbeats 4000000 in
set_option maxRecDepth 100000 in
theorem c_X6_isOld (l : Launch) (D : va_G) (cI cJ cZ cA : ClassId) (r : Nat → Nat) (i0 i3 i7 i8 i9 i13 i15 i17 i18 i19 i22 i23 : Int32) (a1 a2 a4 a5 a6 a10 a11 a12 a14 a16 a20 a21 a24 a25 a26 : Nat → Int32) (T : List Nd) (k : Nat) (nd : Nd) (hT : treeV a20 a21 T) (hTl : T.length ≤ 1001) (hk : T[k]? = some nd) : Met l yX6_isOld wsX6_isOld ({ frames := 1, cells := 0, slots := 0, locals := 25 } : Room) (ro_P D (tysC cI cJ cZ cA) [.ref (r 0), .int (nI k)] (mw cI r i0 i3 i7 i8 i9 i13 i15 i17 i18 i19 i22 i23 a1 a2 a4 a5 a6 a10 a11 a12 a14 a16 a20 a21 a24 a25 a26)) (ro_Q (bI (oldG nd.2.1 nd.2.2))) 0 0 (fun _ => False) := by
  refine met_ro (cc := cX6_isOld) (maxL := 4) (ty := .boolean) (by decide) rfl (Nat.le_of_ble_eq_true rfl) (bI_n _) ?_
  intro p e s m args below meth c Q hx hb hml hown hts hP hK hret ls hl
  obtain ⟨H, hH9⟩ : ∃ H : Heap, H = s.heap := ⟨_, rfl⟩
  have hP : va_P D vwCl (mw cI r i0 i3 i7 i8 i9 i13 i15 i17 i18 i19 i22 i23 a1 a2 a4 a5 a6 a10 a11 a12 a14 a16 a20 a21 a24 a25 a26) H := by rw [hH9]; exact hP
  have hS : va_S (fun _ => False) s.heap H [] := by rw [hH9]; exact va_S.rf
  rw [← hH9]
  have hown : s.vm.findClass RX6 = some m.cls := hown
  have hin6 : ∀ w ∈ wsX60, w ∈ wsX6_isOld := by decide +kernel
  have fl48 := hts (.fieldLink RX6 48 "CoverRoundsModel" "above" "[I") (by decide +kernel)
  have fl45 := hts (.fieldLink RX6 45 "CoverRoundsModel" "markings" "[I") (by decide +kernel)
  have hl : lv_has ls 4 [(0, .ref (r 0)), (1, .int (nI k))] := hl
  have hkl := lt_of_some hk
  have hkr := (hT k nd hk).1
  refine lv_iconst (v := nI 0) hx hb dX6_isOld_0 (by decide) ?_
  refine lv_istore_n (lv' := [(2, .int (nI 0)), (0, .ref (r 0)), (1, .int (nI k))]) hx hb dX6_isOld_1 rfl hl (by decide) rfl (fun ls hl => ?_)
  refine lv_aload_n hx hb dX6_isOld_2 rfl (lv_at hl 1 rfl) ?_
  refine va_get (D := D) (ci := 5) (v := .ref (r 21)) (C := RX6) (T := TX6) (N := 27) hx hb hts hin6 hown hK hP 0 rfl rfl 21 (by decide) fl48 (fun _ h9 => h9) rfl dX6_isOld_3 ?_
  refine lv_iload_n hx hb dX6_isOld_6 rfl (lv_at hl 2 rfl) ?_
  refine wk_iald hx hb hK hP 12 0 rfl rfl (i := k) (by omega) (by omega) dX6_isOld_7 ?_
  refine lv_istore_n (lv' := [(3, .int (a21 k)), (2, .int (nI 0)), (0, .ref (r 0)), (1, .int (nI k))]) hx hb dX6_isOld_8 rfl hl (by decide) rfl (fun ls hl => ?_)
  have lp9 : ∀ (n9 : Nat) (up9 : Int32) (rem : List Rw) (t : Bool), rem.length < n9 → remV T up9 rem → (t || rem.any (fun x => eqv x nd.2.1)) = oldG nd.2.1 nd.2.2 → ∀ (H : Heap) (locs : List Loc) (ls : Array Slot), va_P D vwCl (mw cI r i0 i3 i7 i8 i9 i13 i15 i17 i18 i19 i22 i23 a1 a2 a4 a5 a6 a10 a11 a12 a14 a16 a20 a21 a24 a25 a26) H → va_S (fun _ => False) s.heap H locs → lv_has ls 4 [(0, .ref (r 0)), (1, .int (nI k)), (2, .int (bI t)), (3, .int up9)] → W p l e ({ frames := 1, cells := 0, slots := 0, locals := 25 } : Room) s m args below meth c H locs 0 0 Q (F0 m 9 ls []) := by
    intro n9
    induction n9 with
    | zero => intro up9 rem t hm9; exact absurd hm9 (Nat.not_lt_zero _)
    | succ n9 ih9 =>
      intro up9 rem t hm9 hrem hinv H locs ls hP hS hl
      refine lv_iload_n hx hb dX6_isOld_9 rfl (lv_at hl 3 rfl) ?_
      refine lv_if_lt (tgt := 73) hx hb dX6_isOld_10 (by decide) (fun c10 => ?_) (fun c10 => ?_)
      · skip
        refine lv_iload_n hx hb dX6_isOld_73 rfl (lv_at hl 2 rfl) ?_
        have he := remV_neg hrem (by omega) c10
        subst he
        exact hret _ _ _ _ _ (congrArg bI (by rw [← hinv]; simp)) dX6_isOld_74 hS
      · skip
        obtain ⟨v, nv, hv, rfl, hrl⟩ := remV_pos hrem c10
        have hvl := lt_of_some hv
        have hvr := (hT v nv hv).1
        refine lv_iload_n hx hb dX6_isOld_13 rfl (lv_at hl 2 rfl) ?_
        refine wk_if_neb (tgt := 57) hx hb dX6_isOld_14 (by decide) (fun c14 => ?_) (fun c14 => ?_)
        · skip
          refine lv_iconst (v := nI 1) hx hb dX6_isOld_57 (by decide) ?_
          refine lv_goto (tgt := 62) hx hb dX6_isOld_58 (by decide) ?_
          refine lv_istore_n (lv' := [(2, .int (nI 1)), (0, .ref (r 0)), (1, .int (nI k)), (3, .int (nI v))]) hx hb dX6_isOld_62 rfl hl (by decide) rfl (fun ls hl => ?_)
          refine lv_aload_n hx hb dX6_isOld_63 rfl (lv_at hl 1 rfl) ?_
          refine va_get (D := D) (ci := 5) (v := .ref (r 21)) (C := RX6) (T := TX6) (N := 27) hx hb hts hin6 hown hK hP 0 rfl rfl 21 (by decide) fl48 (fun _ h9 => h9) rfl dX6_isOld_64 ?_
          refine lv_iload_n hx hb dX6_isOld_67 rfl (lv_at hl 3 rfl) ?_
          refine wk_iald hx hb hK hP 12 0 rfl rfl (i := v) (by omega) (by omega) dX6_isOld_68 ?_
          refine lv_istore_n (lv' := [(3, .int (a21 v)), (2, .int (nI 1)), (0, .ref (r 0)), (1, .int (nI k))]) hx hb dX6_isOld_69 rfl hl (by decide) rfl (fun ls hl => ?_)
          refine lv_goto (tgt := 9) hx hb dX6_isOld_70 (by decide) ?_
          exact ih9 (a21 v) nv.2.2 true (by rw [hrl, List.length_cons] at hm9; omega) (tv_rem hT hv) (io_s hinv hrl (by simp [c14])) _ _ _ hP hS (lv_sub hl [2, 3, 1, 0] rfl)
        · skip
          refine lv_aload_n hx hb dX6_isOld_17 rfl (lv_at hl 0 rfl) ?_
          refine va_get (D := D) (ci := 5) (v := .ref (r 20)) (C := RX6) (T := TX6) (N := 27) hx hb hts hin6 hown hK hP 0 rfl rfl 20 (by decide) fl45 (fun _ h9 => h9) rfl dX6_isOld_18 ?_
          refine lv_iconst (v := nI 5) hx hb dX6_isOld_21 (by decide) ?_
          refine lv_iload_n hx hb dX6_isOld_22 rfl (lv_at hl 3 rfl) ?_
          refine wk_imul hx hb dX6_isOld_23 ?_
          refine lv_aload_n hx hb dX6_isOld_24 rfl (lv_at hl 0 rfl) ?_
          refine va_get (D := D) (ci := 5) (v := .ref (r 20)) (C := RX6) (T := TX6) (N := 27) hx hb hts hin6 hown hK hP 0 rfl rfl 20 (by decide) fl45 (fun _ h9 => h9) rfl dX6_isOld_25 ?_
          refine lv_iconst (v := nI 5) hx hb dX6_isOld_28 (by decide) ?_
          refine lv_iload_n hx hb dX6_isOld_29 rfl (lv_at hl 1 rfl) ?_
          refine wk_imul hx hb dX6_isOld_30 ?_
          refine wk_Si (As := [.ref (r 20), .int (nI (5 * v)), .ref (r 20), .int (nI (5 * k))]) (rest := []) ⟨hx, hb, hml, hown, hts⟩ (c_X6_tops l D cI cJ cZ cA (r 20) (r 20) 5005 5005 (5 * v) (5 * k) a20 a20 (by omega) (by omega) (by omega) (by omega)) (va_cwS 4 hts gX6_isOld_X6_tops rfl rfl rfl (by decide +kernel) ⟨Nat.le_of_ble_eq_true rfl, Nat.le_of_ble_eq_true rfl⟩) hK hP [11, 11] rfl hS rfl hl.1 rfl (Nat.le_of_ble_eq_true rfl) dX6_isOld_31 ⟨Nat.zero_le _, Nat.zero_le _⟩ (fun H locs hP hS => ?_)
          refine wk_if_eqb (tgt := 61) hx hb dX6_isOld_34 (by decide) (fun c34 => ?_) (fun c34 => ?_)
          · skip
            refine lv_iconst (v := nI 0) hx hb dX6_isOld_61 (by decide) ?_
            refine lv_istore_n (lv' := [(2, .int (nI 0)), (0, .ref (r 0)), (1, .int (nI k)), (3, .int (nI v))]) hx hb dX6_isOld_62 rfl hl (by decide) rfl (fun ls hl => ?_)
            refine lv_aload_n hx hb dX6_isOld_63 rfl (lv_at hl 1 rfl) ?_
            refine va_get (D := D) (ci := 5) (v := .ref (r 21)) (C := RX6) (T := TX6) (N := 27) hx hb hts hin6 hown hK hP 0 rfl rfl 21 (by decide) fl48 (fun _ h9 => h9) rfl dX6_isOld_64 ?_
            refine lv_iload_n hx hb dX6_isOld_67 rfl (lv_at hl 3 rfl) ?_
            refine wk_iald hx hb hK hP 12 0 rfl rfl (i := v) (by omega) (by omega) dX6_isOld_68 ?_
            refine lv_istore_n (lv' := [(3, .int (a21 v)), (2, .int (nI 0)), (0, .ref (r 0)), (1, .int (nI k))]) hx hb dX6_isOld_69 rfl hl (by decide) rfl (fun ls hl => ?_)
            refine lv_goto (tgt := 9) hx hb dX6_isOld_70 (by decide) ?_
            exact ih9 (a21 v) nv.2.2 false (by rw [hrl, List.length_cons] at hm9; omega) (tv_rem hT hv) (io_s hinv hrl (by rw [c14]; simp [eqv, (tpB_row hvr hkr).symm.trans c34])) _ _ _ hP hS (lv_sub hl [2, 3, 1, 0] rfl)
          · skip
            refine lv_aload_n hx hb dX6_isOld_37 rfl (lv_at hl 0 rfl) ?_
            refine va_get (D := D) (ci := 5) (v := .ref (r 20)) (C := RX6) (T := TX6) (N := 27) hx hb hts hin6 hown hK hP 0 rfl rfl 20 (by decide) fl45 (fun _ h9 => h9) rfl dX6_isOld_38 ?_
            refine lv_iconst (v := nI 5) hx hb dX6_isOld_41 (by decide) ?_
            refine lv_iload_n hx hb dX6_isOld_42 rfl (lv_at hl 1 rfl) ?_
            refine wk_imul hx hb dX6_isOld_43 ?_
            refine lv_aload_n hx hb dX6_isOld_44 rfl (lv_at hl 0 rfl) ?_
            refine va_get (D := D) (ci := 5) (v := .ref (r 20)) (C := RX6) (T := TX6) (N := 27) hx hb hts hin6 hown hK hP 0 rfl rfl 20 (by decide) fl45 (fun _ h9 => h9) rfl dX6_isOld_45 ?_
            refine lv_iconst (v := nI 5) hx hb dX6_isOld_48 (by decide) ?_
            refine lv_iload_n hx hb dX6_isOld_49 rfl (lv_at hl 3 rfl) ?_
            refine wk_imul hx hb dX6_isOld_50 ?_
            refine wk_Si (As := [.ref (r 20), .int (nI (5 * k)), .ref (r 20), .int (nI (5 * v))]) (rest := []) ⟨hx, hb, hml, hown, hts⟩ (c_X6_tops l D cI cJ cZ cA (r 20) (r 20) 5005 5005 (5 * k) (5 * v) a20 a20 (by omega) (by omega) (by omega) (by omega)) (va_cwS 4 hts gX6_isOld_X6_tops rfl rfl rfl (by decide +kernel) ⟨Nat.le_of_ble_eq_true rfl, Nat.le_of_ble_eq_true rfl⟩) hK hP [11, 11] rfl hS rfl hl.1 rfl (Nat.le_of_ble_eq_true rfl) dX6_isOld_51 ⟨Nat.zero_le _, Nat.zero_le _⟩ (fun H locs hP hS => ?_)
            refine wk_if_eqb (tgt := 61) hx hb dX6_isOld_54 (by decide) (fun c54 => ?_) (fun c54 => ?_)
            · skip
              refine lv_iconst (v := nI 0) hx hb dX6_isOld_61 (by decide) ?_
              refine lv_istore_n (lv' := [(2, .int (nI 0)), (0, .ref (r 0)), (1, .int (nI k)), (3, .int (nI v))]) hx hb dX6_isOld_62 rfl hl (by decide) rfl (fun ls hl => ?_)
              refine lv_aload_n hx hb dX6_isOld_63 rfl (lv_at hl 1 rfl) ?_
              refine va_get (D := D) (ci := 5) (v := .ref (r 21)) (C := RX6) (T := TX6) (N := 27) hx hb hts hin6 hown hK hP 0 rfl rfl 21 (by decide) fl48 (fun _ h9 => h9) rfl dX6_isOld_64 ?_
              refine lv_iload_n hx hb dX6_isOld_67 rfl (lv_at hl 3 rfl) ?_
              refine wk_iald hx hb hK hP 12 0 rfl rfl (i := v) (by omega) (by omega) dX6_isOld_68 ?_
              refine lv_istore_n (lv' := [(3, .int (a21 v)), (2, .int (nI 0)), (0, .ref (r 0)), (1, .int (nI k))]) hx hb dX6_isOld_69 rfl hl (by decide) rfl (fun ls hl => ?_)
              refine lv_goto (tgt := 9) hx hb dX6_isOld_70 (by decide) ?_
              exact ih9 (a21 v) nv.2.2 false (by rw [hrl, List.length_cons] at hm9; omega) (tv_rem hT hv) (io_s hinv hrl (by rw [c14]; simp [eqv, (tpB_row hvr hkr).symm.trans c34, (tpB_row hkr hvr).symm.trans c54])) _ _ _ hP hS (lv_sub hl [2, 3, 1, 0] rfl)
            · skip
              refine lv_iconst (v := nI 1) hx hb dX6_isOld_57 (by decide) ?_
              refine lv_goto (tgt := 62) hx hb dX6_isOld_58 (by decide) ?_
              refine lv_istore_n (lv' := [(2, .int (nI 1)), (0, .ref (r 0)), (1, .int (nI k)), (3, .int (nI v))]) hx hb dX6_isOld_62 rfl hl (by decide) rfl (fun ls hl => ?_)
              refine lv_aload_n hx hb dX6_isOld_63 rfl (lv_at hl 1 rfl) ?_
              refine va_get (D := D) (ci := 5) (v := .ref (r 21)) (C := RX6) (T := TX6) (N := 27) hx hb hts hin6 hown hK hP 0 rfl rfl 21 (by decide) fl48 (fun _ h9 => h9) rfl dX6_isOld_64 ?_
              refine lv_iload_n hx hb dX6_isOld_67 rfl (lv_at hl 3 rfl) ?_
              refine wk_iald hx hb hK hP 12 0 rfl rfl (i := v) (by omega) (by omega) dX6_isOld_68 ?_
              refine lv_istore_n (lv' := [(3, .int (a21 v)), (2, .int (nI 1)), (0, .ref (r 0)), (1, .int (nI k))]) hx hb dX6_isOld_69 rfl hl (by decide) rfl (fun ls hl => ?_)
              refine lv_goto (tgt := 9) hx hb dX6_isOld_70 (by decide) ?_
              exact ih9 (a21 v) nv.2.2 true (by rw [hrl, List.length_cons] at hm9; omega) (tv_rem hT hv) (io_s hinv hrl (by rw [c14]; simp [eqv, (tpB_row hvr hkr).symm.trans c34, (tpB_row hkr hvr).symm.trans c54])) _ _ _ hP hS (lv_sub hl [2, 3, 1, 0] rfl)
  exact lp9 _ (a21 k) nd.2.2 false (Nat.lt_succ_self _) (tv_rem hT hk) rfl _ _ _ hP hS (lv_sub hl [2, 3, 1, 0] rfl)

set_option maxHeartbeats 4000000 in
set_option maxRecDepth 100000 in
theorem c_X6_accelerate (l : Launch) (D : va_G) (cI cJ cZ cA : ClassId) (r : Nat → Nat) (i0 i3 i7 i8 i9 i13 i15 i17 i18 i19 i22 i23 : Int32) (a1 a2 a4 a5 a6 a10 a11 a12 a14 a16 a20 a21 a24 a25 a26 : Nat → Int32) (sz : Nat) (w : Rw) (T : List Nd) (k : Nat) (nd : Nd) (hT : treeV a20 a21 T) (hTl : T.length ≤ 1001) (hk : T[k]? = some nd) (hw : ∀ q, q < 5 → a25 q = w q) : Met l yX6_accelerate wsX6_accelerate ({ frames := 1, cells := 0, slots := 0, locals := 25 } : Room) (wr_P D (tysC cI cJ cZ cA) [.ref (r 0), .int (nI k)] (mw cI r i0 i3 i7 i8 i9 i13 i15 i17 i18 i19 i22 i23 a1 a2 a4 a5 a6 a10 a11 a12 a14 a16 a20 a21 a24 a25 a26) sz) (wr_Qv D (S := Nat → Int32) (mw cI r i0 i3 i7 i8 i9 i13 i15 i17 i18 i19 i22 i23 a1 a2 a4 a5 a6 a10 a11 a12 a14 a16 a20 a21 a24 a25 a26) sz (fun u => ∀ q, q < 5 → u q = accM (nI 1000000) (nd.2.1 :: nd.2.2) 6 w q) (fun u => (mw cI r i0 i3 i7 i8 i9 i13 i15 i17 i18 i19 i22 i23 a1 a2 a4 a5 a6 a10 a11 a12 a14 a16 a20 a21 a24 u a26))) 0 0 (va_A (mw cI r i0 i3 i7 i8 i9 i13 i15 i17 i18 i19 i22 i23 a1 a2 a4 a5 a6 a10 a11 a12 a14 a16 a20 a21 a24 a25 a26) sz) := by
  refine met_wv (cc := cX6_accelerate) (maxL := 6) (by decide) rfl (Nat.le_of_ble_eq_true rfl) ?_
  intro p e s m args below meth c Q A hx hb hml hown hts hP hK hD hA hret ls hl
  obtain ⟨H, hH9⟩ : ∃ H : Heap, H = s.heap := ⟨_, rfl⟩
  have hP : va_P D vwCl (mw cI r i0 i3 i7 i8 i9 i13 i15 i17 i18 i19 i22 i23 a1 a2 a4 a5 a6 a10 a11 a12 a14 a16 a20 a21 a24 a25 a26) H := by rw [hH9]; exact hP
  have hS : va_S A s.heap H [] := by rw [hH9]; exact va_S.rf
  rw [← hH9]
  have hown : s.vm.findClass RX6 = some m.cls := hown
  have hin6 : ∀ w ∈ wsX60, w ∈ wsX6_accelerate := by decide +kernel
  have fl54 := hts (.fieldLink RX6 54 "CoverRoundsModel" "work" "[I") (by decide +kernel)
  have fl45 := hts (.fieldLink RX6 45 "CoverRoundsModel" "markings" "[I") (by decide +kernel)
  have fl48 := hts (.fieldLink RX6 48 "CoverRoundsModel" "above" "[I") (by decide +kernel)
  have hl : lv_has ls 6 [(0, .ref (r 0)), (1, .int (nI k))] := hl
  have hkl := lt_of_some hk
  refine lv_iconst (v := nI 1) hx hb dX6_accelerate_0 (by decide) ?_
  refine lv_istore_n (lv' := [(2, .int (nI 1)), (0, .ref (r 0)), (1, .int (nI k))]) hx hb dX6_accelerate_1 rfl hl (by decide) rfl (fun ls hl => ?_)
  refine lv_iload_n hx hb dX6_accelerate_2 rfl (lv_at hl 0 rfl) ?_
  refine lv_if_eq (tgt := 139) hx hb dX6_accelerate_3 (by decide) (fun c3 => absurd c3 (by decide)) (fun c3 => ?_)
  have lp6 : ∀ (n9 : Nat) (k6 : Nat) (w6 : Rw) (f25 : Nat → Int32), k6 < n9 → (∀ q, q < 5 → f25 q = w6 q) → accM (nI 1000000) (nd.2.1 :: nd.2.2) k6 w6 = accM (nI 1000000) (nd.2.1 :: nd.2.2) 6 w → cntF (nI 1000000) w6 < k6 → ∀ (H : Heap) (locs : List Loc) (ls : Array Slot), va_P D vwCl (mw cI r i0 i3 i7 i8 i9 i13 i15 i17 i18 i19 i22 i23 a1 a2 a4 a5 a6 a10 a11 a12 a14 a16 a20 a21 a24 f25 a26) H → va_D A (mw cI r i0 i3 i7 i8 i9 i13 i15 i17 i18 i19 i22 i23 a1 a2 a4 a5 a6 a10 a11 a12 a14 a16 a20 a21 a24 f25 a26) → va_S A s.heap H locs → lv_has ls 6 [(0, .ref (r 0)), (1, .int (nI k))] → W p l e ({ frames := 1, cells := 0, slots := 0, locals := 25 } : Room) s m args below meth c H locs 0 0 Q (F0 m 6 ls []) := by
    intro n9
    induction n9 with
    | zero => intro k6 w6 f25 hm6; exact absurd hm6 (Nat.not_lt_zero _)
    | succ n9 ih6 =>
      intro k6 w6 f25 hm6 hf hacc hcnt H locs ls hP hD hS hl
      refine lv_iconst (v := nI 0) hx hb dX6_accelerate_6 (by decide) ?_
      refine lv_istore_n (lv' := [(2, .int (nI 0)), (0, .ref (r 0)), (1, .int (nI k))]) hx hb dX6_accelerate_7 rfl hl (by decide) rfl (fun ls hl => ?_)
      refine lv_iload_n hx hb dX6_accelerate_8 rfl (lv_at hl 2 rfl) ?_
      refine lv_istore_n (lv' := [(3, .int (nI k)), (2, .int (nI 0)), (0, .ref (r 0)), (1, .int (nI k))]) hx hb dX6_accelerate_9 rfl hl (by decide) rfl (fun ls hl => ?_)
      have lp10 : ∀ (n9 : Nat) (up9 : Int32) (rem : List Rw) (w2 : Rw) (t : Bool) (g25 : Nat → Int32), rem.length < n9 → remV T up9 rem → (∀ q, q < 5 → g25 q = w2 q) → passF (nI 1000000) rem (w2, t) = passF (nI 1000000) (nd.2.1 :: nd.2.2) (w6, false) → ∀ (H : Heap) (locs : List Loc) (ls : Array Slot), va_P D vwCl (mw cI r i0 i3 i7 i8 i9 i13 i15 i17 i18 i19 i22 i23 a1 a2 a4 a5 a6 a10 a11 a12 a14 a16 a20 a21 a24 g25 a26) H → va_D A (mw cI r i0 i3 i7 i8 i9 i13 i15 i17 i18 i19 i22 i23 a1 a2 a4 a5 a6 a10 a11 a12 a14 a16 a20 a21 a24 g25 a26) → va_S A s.heap H locs → lv_has ls 6 [(0, .ref (r 0)), (1, .int (nI k)), (2, .int (bI t)), (3, .int up9)] → W p l e ({ frames := 1, cells := 0, slots := 0, locals := 25 } : Room) s m args below meth c H locs 0 0 Q (F0 m 10 ls []) := by
        intro n9
        induction n9 with
        | zero => intro up9 rem w2 t g25 hm10; exact absurd hm10 (Nat.not_lt_zero _)
        | succ n9 ih10 =>
          intro up9 rem w2 t g25 hm10 hrem hg hpass H locs ls hP hD hS hl
          refine lv_iload_n hx hb dX6_accelerate_10 rfl (lv_at hl 3 rfl) ?_
          refine lv_if_lt (tgt := 136) hx hb dX6_accelerate_11 (by decide) (fun c11 => ?_) (fun c11 => ?_)
          · skip
            have he := remV_neg hrem (by omega) c11
            subst he
            refine lv_goto (tgt := 2) hx hb dX6_accelerate_136 (by decide) ?_
            refine lv_iload_n hx hb dX6_accelerate_2 rfl (lv_at hl 2 rfl) ?_
            refine wk_if_eqb (tgt := 139) hx hb dX6_accelerate_3 (by decide) (fun c3 => ?_) (fun c3 => ?_)
            · skip
              rw [c3] at hpass
              have he9 := acc_f hpass hacc hcnt
              exact hret _ _ _ _ _ _ _ (fun q hq => by rw [hg q hq, he9]) hP hD dX6_accelerate_139 hS (Nat.zero_le _) (Nat.zero_le _)
            · skip
              rw [c3] at hpass
              obtain ⟨k2, rfl, ha2, hc2⟩ := acc_t hpass hacc hcnt
              exact ih6 k2 w2 g25 (by omega) hg ha2 hc2 _ _ _ hP hD hS (lv_sub hl [0, 1] rfl)
          · skip
            obtain ⟨v, nv, hv, rfl, hrl⟩ := remV_pos hrem c11
            have hvl := lt_of_some hv
            have hvr := (hT v nv hv).1
            have htp : tp5 w2 nv.2.1 = tpB g25 0 a20 (5 * v) := (tpB_row (fun q hq => by rw [Nat.zero_add]; exact hg q hq) hvr).symm
            refine lv_aload_n hx hb dX6_accelerate_14 rfl (lv_at hl 0 rfl) ?_
            refine va_get (D := D) (ci := 5) (v := .ref (r 25)) (C := RX6) (T := TX6) (N := 27) hx hb hts hin6 hown hK hP 0 rfl rfl 25 (by decide) fl54 (fun _ h9 => h9) rfl dX6_accelerate_15 ?_
            refine lv_iconst (v := nI 0) hx hb dX6_accelerate_18 (by decide) ?_
            refine lv_aload_n hx hb dX6_accelerate_19 rfl (lv_at hl 0 rfl) ?_
            refine va_get (D := D) (ci := 5) (v := .ref (r 20)) (C := RX6) (T := TX6) (N := 27) hx hb hts hin6 hown hK hP 0 rfl rfl 20 (by decide) fl45 (fun _ h9 => h9) rfl dX6_accelerate_20 ?_
            refine lv_iconst (v := nI 5) hx hb dX6_accelerate_23 (by decide) ?_
            refine lv_iload_n hx hb dX6_accelerate_24 rfl (lv_at hl 3 rfl) ?_
            refine wk_imul hx hb dX6_accelerate_25 ?_
            refine wk_Si (As := [.ref (r 25), .int (nI 0), .ref (r 20), .int (nI (5 * v))]) (rest := []) ⟨hx, hb, hml, hown, hts⟩ (c_X6_tops l D cI cJ cZ cA (r 25) (r 20) 5 5005 0 (5 * v) g25 a20 (by omega) (by omega) (by omega) (by omega)) (va_cwS 4 hts gX6_accelerate_X6_tops rfl rfl rfl (by decide +kernel) ⟨Nat.le_of_ble_eq_true rfl, Nat.le_of_ble_eq_true rfl⟩) hK hP [14, 11] rfl hS rfl hl.1 rfl (Nat.le_of_ble_eq_true rfl) dX6_accelerate_26 ⟨Nat.zero_le _, Nat.zero_le _⟩ (fun H locs hP hS => ?_)
            refine wk_if_eqb (tgt := 126) hx hb dX6_accelerate_29 (by decide) (fun c29 => ?_) (fun c29 => ?_)
            · skip
              refine lv_aload_n hx hb dX6_accelerate_126 rfl (lv_at hl 0 rfl) ?_
              refine va_get (D := D) (ci := 5) (v := .ref (r 21)) (C := RX6) (T := TX6) (N := 27) hx hb hts hin6 hown hK hP 0 rfl rfl 21 (by decide) fl48 (fun _ h9 => h9) rfl dX6_accelerate_127 ?_
              refine lv_iload_n hx hb dX6_accelerate_130 rfl (lv_at hl 3 rfl) ?_
              refine wk_iald hx hb hK hP 12 0 rfl rfl (i := v) (by omega) (by omega) dX6_accelerate_131 ?_
              refine lv_istore_n (lv' := [(3, .int (a21 v)), (0, .ref (r 0)), (1, .int (nI k)), (2, .int (bI t))]) hx hb dX6_accelerate_132 rfl hl (by decide) rfl (fun ls hl => ?_)
              refine lv_goto (tgt := 10) hx hb dX6_accelerate_133 (by decide) ?_
              exact ih10 (a21 v) nv.2.2 w2 t g25 (by rw [hrl, List.length_cons] at hm10; omega) (tv_rem hT hv) hg (by rw [← hpass, hrl]; show _ = passF _ _ (stM _ _ _); unfold stM; rw [if_neg (by show ¬ tp5 w2 nv.2.1 = true; rw [htp, c29]; exact Bool.false_ne_true)]) _ _ _ hP hD hS (lv_sub hl [1, 2, 3, 0] rfl)
            · skip
              refine lv_iconst (v := nI 0) hx hb dX6_accelerate_32 (by decide) ?_
              refine lv_istore (lv' := [(4, .int (nI 0)), (0, .ref (r 0)), (1, .int (nI k)), (2, .int (bI t)), (3, .int (nI v))]) hx hb dX6_accelerate_33 hl (by decide) rfl (fun ls hl => ?_)
              have lp35 : ∀ (n9 : Nat) (q : Nat) (t2 : Bool), 5 - q < n9 → q ≤ 5 → (t2 = true ↔ (t = true ∨ ∃ j, j < q ∧ rsA (nI 1000000) a20 v g25 j)) → ∀ (H : Heap) (locs : List Loc) (ls : Array Slot), va_P D vwCl (mw cI r i0 i3 i7 i8 i9 i13 i15 i17 i18 i19 i22 i23 a1 a2 a4 a5 a6 a10 a11 a12 a14 a16 a20 a21 a24 (cpN (raA (nI 1000000) a20 v g25) g25 q) a26) H → va_D A (mw cI r i0 i3 i7 i8 i9 i13 i15 i17 i18 i19 i22 i23 a1 a2 a4 a5 a6 a10 a11 a12 a14 a16 a20 a21 a24 (cpN (raA (nI 1000000) a20 v g25) g25 q) a26) → va_S A s.heap H locs → lv_has ls 6 [(0, .ref (r 0)), (1, .int (nI k)), (2, .int (bI t2)), (3, .int (nI v)), (4, .int (nI q))] → W p l e ({ frames := 1, cells := 0, slots := 0, locals := 25 } : Room) s m args below meth c H locs 0 0 Q (F0 m 35 ls []) := by
                intro n9
                induction n9 with
                | zero => intro q t2 hm35; exact absurd hm35 (Nat.not_lt_zero _)
                | succ n9 ih35 =>
                  intro q t2 hm35 hq ht2 H locs ls hP hD hS hl
                  refine lv_iload hx hb dX6_accelerate_35 (lv_at hl 4 rfl) ?_
                  refine lv_iconst (v := nI 5) hx hb dX6_accelerate_37 (by decide) ?_
                  refine wk_icmp_ge (tgt := 126) hx hb (by omega) (by omega) dX6_accelerate_38 (by decide) (fun c38 => ?_) (fun c38 => ?_)
                  · skip
                    have hq9 : q = 5 := by omega
                    subst hq9
                    refine lv_aload_n hx hb dX6_accelerate_126 rfl (lv_at hl 0 rfl) ?_
                    refine va_get (D := D) (ci := 5) (v := .ref (r 21)) (C := RX6) (T := TX6) (N := 27) hx hb hts hin6 hown hK hP 0 rfl rfl 21 (by decide) fl48 (fun _ h9 => h9) rfl dX6_accelerate_127 ?_
                    refine lv_iload_n hx hb dX6_accelerate_130 rfl (lv_at hl 3 rfl) ?_
                    refine wk_iald hx hb hK hP 12 0 rfl rfl (i := v) (by omega) (by omega) dX6_accelerate_131 ?_
                    refine lv_istore_n (lv' := [(3, .int (a21 v)), (0, .ref (r 0)), (1, .int (nI k)), (2, .int (bI t2)), (4, .int (nI 5))]) hx hb dX6_accelerate_132 rfl hl (by decide) rfl (fun ls hl => ?_)
                    refine lv_goto (tgt := 10) hx hb dX6_accelerate_133 (by decide) ?_
                    exact ih10 (a21 v) nv.2.2 (raM (nI 1000000) nv.2.1 w2) t2 (cpN (raA (nI 1000000) a20 v g25) g25 5) (by rw [hrl, List.length_cons] at hm10; omega) (tv_rem hT hv) (fun q hq => by rw [cpN_lt hq]; exact raA_row (hvr q hq) (hg q hq)) (by rw [← hpass, hrl, rs_end hvr hg ht2]; show _ = passF _ _ (stM _ _ _); unfold stM; rw [if_pos (show tp5 w2 nv.2.1 = true from htp.trans c29)]) _ _ _ hP hD hS (lv_sub hl [1, 2, 3, 0] rfl)
                  · skip
                    refine lv_aload_n hx hb dX6_accelerate_41 rfl (lv_at hl 0 rfl) ?_
                    refine va_get (D := D) (ci := 5) (v := .ref (r 25)) (C := RX6) (T := TX6) (N := 27) hx hb hts hin6 hown hK hP 0 rfl rfl 25 (by decide) fl54 (fun _ h9 => h9) rfl dX6_accelerate_42 ?_
                    refine lv_iload hx hb dX6_accelerate_45 (lv_at hl 4 rfl) ?_
                    refine wk_iald hx hb hK hP 14 0 rfl rfl (i := q) (by omega) (by omega) dX6_accelerate_47 ?_
                    rw [show ((cpN (raA (nI 1000000) a20 v g25) g25 q) q) = (g25 q) from cpN_ge (Nat.le_refl _)]
                    refine lv_aload_n hx hb dX6_accelerate_48 rfl (lv_at hl 0 rfl) ?_
                    refine va_get (D := D) (ci := 5) (v := .ref (r 20)) (C := RX6) (T := TX6) (N := 27) hx hb hts hin6 hown hK hP 0 rfl rfl 20 (by decide) fl45 (fun _ h9 => h9) rfl dX6_accelerate_49 ?_
                    refine lv_iconst (v := nI 5) hx hb dX6_accelerate_52 (by decide) ?_
                    refine lv_iload_n hx hb dX6_accelerate_53 rfl (lv_at hl 3 rfl) ?_
                    refine wk_imul hx hb dX6_accelerate_54 ?_
                    refine lv_iload hx hb dX6_accelerate_55 (lv_at hl 4 rfl) ?_
                    refine wk_iadd hx hb dX6_accelerate_57 ?_
                    refine wk_iald hx hb hK hP 11 0 rfl rfl (i := (5 * v) + q) (by omega) (by omega) dX6_accelerate_58 ?_
                    refine lv_icmp_le (tgt := 78) hx hb dX6_accelerate_59 (by decide) (fun c59 => ?_) (fun c59 => ?_)
                    · skip
                      refine lv_iconst (v := nI 0) hx hb dX6_accelerate_78 (by decide) ?_
                      refine lv_istore (lv' := [(5, .int (nI 0)), (0, .ref (r 0)), (1, .int (nI k)), (2, .int (bI t2)), (3, .int (nI v)), (4, .int (nI q))]) hx hb dX6_accelerate_79 hl (by decide) rfl (fun ls hl => ?_)
                      refine lv_aload_n hx hb dX6_accelerate_81 rfl (lv_at hl 1 rfl) ?_
                      refine va_get (D := D) (ci := 5) (v := .ref (r 25)) (C := RX6) (T := TX6) (N := 27) hx hb hts hin6 hown hK hP 0 rfl rfl 25 (by decide) fl54 (fun _ h9 => h9) rfl dX6_accelerate_82 ?_
                      refine lv_iload hx hb dX6_accelerate_85 (lv_at hl 5 rfl) ?_
                      refine lv_iload hx hb dX6_accelerate_87 (lv_at hl 0 rfl) ?_
                      refine lv_if_eq (tgt := 97) hx hb dX6_accelerate_89 (by decide) (fun c89 => ?_) (fun c89 => absurd c89 (by decide))
                      refine lv_aload_n hx hb dX6_accelerate_97 rfl (lv_at hl 1 rfl) ?_
                      refine va_get (D := D) (ci := 5) (v := .ref (r 25)) (C := RX6) (T := TX6) (N := 27) hx hb hts hin6 hown hK hP 0 rfl rfl 25 (by decide) fl54 (fun _ h9 => h9) rfl dX6_accelerate_98 ?_
                      refine lv_iload hx hb dX6_accelerate_101 (lv_at hl 5 rfl) ?_
                      refine wk_iald hx hb hK hP 14 0 rfl rfl (i := q) (by omega) (by omega) dX6_accelerate_103 ?_
                      rw [show ((cpN (raA (nI 1000000) a20 v g25) g25 q) q) = (g25 q) from cpN_ge (Nat.le_refl _)]
                      refine wk_iast hx hb hK hP hD hS 14 0 rfl rfl (i := q) (by omega) (by omega) dX6_accelerate_104 (fun H locs hP hD hS => ?_)
                      have hP : va_P D vwCl (mw cI r i0 i3 i7 i8 i9 i13 i15 i17 i18 i19 i22 i23 a1 a2 a4 a5 a6 a10 a11 a12 a14 a16 a20 a21 a24 (upd (cpN (raA (nI 1000000) a20 v g25) g25 q) q (g25 q)) a26) H := hP
                      have hD : va_D A (mw cI r i0 i3 i7 i8 i9 i13 i15 i17 i18 i19 i22 i23 a1 a2 a4 a5 a6 a10 a11 a12 a14 a16 a20 a21 a24 (upd (cpN (raA (nI 1000000) a20 v g25) g25 q) q (g25 q)) a26) := hD
                      refine lv_iload_n hx hb dX6_accelerate_105 rfl (lv_at hl 3 rfl) ?_
                      refine wk_if_neb (tgt := 114) hx hb dX6_accelerate_106 (by decide) (fun c106 => ?_) (fun c106 => ?_)
                      · skip
                        refine lv_iconst (v := nI 1) hx hb dX6_accelerate_114 (by decide) ?_
                        refine lv_goto (tgt := 119) hx hb dX6_accelerate_115 (by decide) ?_
                        refine lv_istore_n (lv' := [(2, .int (nI 1)), (5, .int (nI 0)), (0, .ref (r 0)), (1, .int (nI k)), (3, .int (nI v)), (4, .int (nI q))]) hx hb dX6_accelerate_119 rfl hl (by decide) rfl (fun ls hl => ?_)
                        refine lv_iinc (v := (nI (q + 1))) (lv' := [(4, .int (nI (q + 1))), (2, .int (nI 1)), (5, .int (nI 0)), (0, .ref (r 0)), (1, .int (nI k)), (3, .int (nI v))]) hx hb dX6_accelerate_120 hl (k := 5) rfl (by exact nI_1 _) (by decide) rfl (fun ls hl => ?_)
                        refine lv_goto (tgt := 35) hx hb dX6_accelerate_123 (by decide) ?_
                        have hP : va_P D vwCl (mw cI r i0 i3 i7 i8 i9 i13 i15 i17 i18 i19 i22 i23 a1 a2 a4 a5 a6 a10 a11 a12 a14 a16 a20 a21 a24 (cpN (raA (nI 1000000) a20 v g25) g25 (q + 1)) a26) H := by rw [← cpN_s, raA_n1 c59]; exact hP
                        have hD : va_D A (mw cI r i0 i3 i7 i8 i9 i13 i15 i17 i18 i19 i22 i23 a1 a2 a4 a5 a6 a10 a11 a12 a14 a16 a20 a21 a24 (cpN (raA (nI 1000000) a20 v g25) g25 (q + 1)) a26) := by rw [← cpN_s, raA_n1 c59]; exact hD
                        exact ih35 (q + 1) true (by omega) (by omega) (rs_t ht2 c106) _ _ _ hP hD hS (lv_sub hl [3, 4, 1, 5, 0] rfl)
                      · skip
                        refine lv_iload hx hb dX6_accelerate_109 (lv_at hl 0 rfl) ?_
                        refine lv_if_eq (tgt := 118) hx hb dX6_accelerate_111 (by decide) (fun c111 => ?_) (fun c111 => absurd c111 (by decide))
                        refine lv_iconst (v := nI 0) hx hb dX6_accelerate_118 (by decide) ?_
                        refine lv_istore_n (lv' := [(2, .int (nI 0)), (5, .int (nI 0)), (0, .ref (r 0)), (1, .int (nI k)), (3, .int (nI v)), (4, .int (nI q))]) hx hb dX6_accelerate_119 rfl hl (by decide) rfl (fun ls hl => ?_)
                        refine lv_iinc (v := (nI (q + 1))) (lv' := [(4, .int (nI (q + 1))), (2, .int (nI 0)), (5, .int (nI 0)), (0, .ref (r 0)), (1, .int (nI k)), (3, .int (nI v))]) hx hb dX6_accelerate_120 hl (k := 5) rfl (by exact nI_1 _) (by decide) rfl (fun ls hl => ?_)
                        refine lv_goto (tgt := 35) hx hb dX6_accelerate_123 (by decide) ?_
                        have hP : va_P D vwCl (mw cI r i0 i3 i7 i8 i9 i13 i15 i17 i18 i19 i22 i23 a1 a2 a4 a5 a6 a10 a11 a12 a14 a16 a20 a21 a24 (cpN (raA (nI 1000000) a20 v g25) g25 (q + 1)) a26) H := by rw [← cpN_s, raA_n1 c59]; exact hP
                        have hD : va_D A (mw cI r i0 i3 i7 i8 i9 i13 i15 i17 i18 i19 i22 i23 a1 a2 a4 a5 a6 a10 a11 a12 a14 a16 a20 a21 a24 (cpN (raA (nI 1000000) a20 v g25) g25 (q + 1)) a26) := by rw [← cpN_s, raA_n1 c59]; exact hD
                        exact ih35 (q + 1) false (by omega) (by omega) (rs_n ht2 c106 (fun h => Int32.not_le.mpr h.1 c59)) _ _ _ hP hD hS (lv_sub hl [3, 4, 1, 5, 0] rfl)
                    · skip
                      refine lv_aload_n hx hb dX6_accelerate_62 rfl (lv_at hl 0 rfl) ?_
                      refine va_get (D := D) (ci := 5) (v := .ref (r 25)) (C := RX6) (T := TX6) (N := 27) hx hb hts hin6 hown hK hP 0 rfl rfl 25 (by decide) fl54 (fun _ h9 => h9) rfl dX6_accelerate_63 ?_
                      refine lv_iload hx hb dX6_accelerate_66 (lv_at hl 4 rfl) ?_
                      refine wk_iald hx hb hK hP 14 0 rfl rfl (i := q) (by omega) (by omega) dX6_accelerate_68 ?_
                      rw [show ((cpN (raA (nI 1000000) a20 v g25) g25 q) q) = (g25 q) from cpN_ge (Nat.le_refl _)]
                      refine wk_ldc (v := nI 1000000) hx hb hown (hts (.constant RX6 123 (nI 1000000)) (by decide +kernel)) dX6_accelerate_69 ?_
                      refine lv_icmp_ge (tgt := 78) hx hb dX6_accelerate_71 (by decide) (fun c71 => ?_) (fun c71 => ?_)
                      · skip
                        refine lv_iconst (v := nI 0) hx hb dX6_accelerate_78 (by decide) ?_
                        refine lv_istore (lv' := [(5, .int (nI 0)), (0, .ref (r 0)), (1, .int (nI k)), (2, .int (bI t2)), (3, .int (nI v)), (4, .int (nI q))]) hx hb dX6_accelerate_79 hl (by decide) rfl (fun ls hl => ?_)
                        refine lv_aload_n hx hb dX6_accelerate_81 rfl (lv_at hl 1 rfl) ?_
                        refine va_get (D := D) (ci := 5) (v := .ref (r 25)) (C := RX6) (T := TX6) (N := 27) hx hb hts hin6 hown hK hP 0 rfl rfl 25 (by decide) fl54 (fun _ h9 => h9) rfl dX6_accelerate_82 ?_
                        refine lv_iload hx hb dX6_accelerate_85 (lv_at hl 5 rfl) ?_
                        refine lv_iload hx hb dX6_accelerate_87 (lv_at hl 0 rfl) ?_
                        refine lv_if_eq (tgt := 97) hx hb dX6_accelerate_89 (by decide) (fun c89 => ?_) (fun c89 => absurd c89 (by decide))
                        refine lv_aload_n hx hb dX6_accelerate_97 rfl (lv_at hl 1 rfl) ?_
                        refine va_get (D := D) (ci := 5) (v := .ref (r 25)) (C := RX6) (T := TX6) (N := 27) hx hb hts hin6 hown hK hP 0 rfl rfl 25 (by decide) fl54 (fun _ h9 => h9) rfl dX6_accelerate_98 ?_
                        refine lv_iload hx hb dX6_accelerate_101 (lv_at hl 5 rfl) ?_
                        refine wk_iald hx hb hK hP 14 0 rfl rfl (i := q) (by omega) (by omega) dX6_accelerate_103 ?_
                        rw [show ((cpN (raA (nI 1000000) a20 v g25) g25 q) q) = (g25 q) from cpN_ge (Nat.le_refl _)]
                        refine wk_iast hx hb hK hP hD hS 14 0 rfl rfl (i := q) (by omega) (by omega) dX6_accelerate_104 (fun H locs hP hD hS => ?_)
                        have hP : va_P D vwCl (mw cI r i0 i3 i7 i8 i9 i13 i15 i17 i18 i19 i22 i23 a1 a2 a4 a5 a6 a10 a11 a12 a14 a16 a20 a21 a24 (upd (cpN (raA (nI 1000000) a20 v g25) g25 q) q (g25 q)) a26) H := hP
                        have hD : va_D A (mw cI r i0 i3 i7 i8 i9 i13 i15 i17 i18 i19 i22 i23 a1 a2 a4 a5 a6 a10 a11 a12 a14 a16 a20 a21 a24 (upd (cpN (raA (nI 1000000) a20 v g25) g25 q) q (g25 q)) a26) := hD
                        refine lv_iload_n hx hb dX6_accelerate_105 rfl (lv_at hl 3 rfl) ?_
                        refine wk_if_neb (tgt := 114) hx hb dX6_accelerate_106 (by decide) (fun c106 => ?_) (fun c106 => ?_)
                        · skip
                          refine lv_iconst (v := nI 1) hx hb dX6_accelerate_114 (by decide) ?_
                          refine lv_goto (tgt := 119) hx hb dX6_accelerate_115 (by decide) ?_
                          refine lv_istore_n (lv' := [(2, .int (nI 1)), (5, .int (nI 0)), (0, .ref (r 0)), (1, .int (nI k)), (3, .int (nI v)), (4, .int (nI q))]) hx hb dX6_accelerate_119 rfl hl (by decide) rfl (fun ls hl => ?_)
                          refine lv_iinc (v := (nI (q + 1))) (lv' := [(4, .int (nI (q + 1))), (2, .int (nI 1)), (5, .int (nI 0)), (0, .ref (r 0)), (1, .int (nI k)), (3, .int (nI v))]) hx hb dX6_accelerate_120 hl (k := 5) rfl (by exact nI_1 _) (by decide) rfl (fun ls hl => ?_)
                          refine lv_goto (tgt := 35) hx hb dX6_accelerate_123 (by decide) ?_
                          have hP : va_P D vwCl (mw cI r i0 i3 i7 i8 i9 i13 i15 i17 i18 i19 i22 i23 a1 a2 a4 a5 a6 a10 a11 a12 a14 a16 a20 a21 a24 (cpN (raA (nI 1000000) a20 v g25) g25 (q + 1)) a26) H := by rw [← cpN_s, raA_n2 c71]; exact hP
                          have hD : va_D A (mw cI r i0 i3 i7 i8 i9 i13 i15 i17 i18 i19 i22 i23 a1 a2 a4 a5 a6 a10 a11 a12 a14 a16 a20 a21 a24 (cpN (raA (nI 1000000) a20 v g25) g25 (q + 1)) a26) := by rw [← cpN_s, raA_n2 c71]; exact hD
                          exact ih35 (q + 1) true (by omega) (by omega) (rs_t ht2 c106) _ _ _ hP hD hS (lv_sub hl [3, 4, 1, 5, 0] rfl)
                        · skip
                          refine lv_iload hx hb dX6_accelerate_109 (lv_at hl 0 rfl) ?_
                          refine lv_if_eq (tgt := 118) hx hb dX6_accelerate_111 (by decide) (fun c111 => ?_) (fun c111 => absurd c111 (by decide))
                          refine lv_iconst (v := nI 0) hx hb dX6_accelerate_118 (by decide) ?_
                          refine lv_istore_n (lv' := [(2, .int (nI 0)), (5, .int (nI 0)), (0, .ref (r 0)), (1, .int (nI k)), (3, .int (nI v)), (4, .int (nI q))]) hx hb dX6_accelerate_119 rfl hl (by decide) rfl (fun ls hl => ?_)
                          refine lv_iinc (v := (nI (q + 1))) (lv' := [(4, .int (nI (q + 1))), (2, .int (nI 0)), (5, .int (nI 0)), (0, .ref (r 0)), (1, .int (nI k)), (3, .int (nI v))]) hx hb dX6_accelerate_120 hl (k := 5) rfl (by exact nI_1 _) (by decide) rfl (fun ls hl => ?_)
                          refine lv_goto (tgt := 35) hx hb dX6_accelerate_123 (by decide) ?_
                          have hP : va_P D vwCl (mw cI r i0 i3 i7 i8 i9 i13 i15 i17 i18 i19 i22 i23 a1 a2 a4 a5 a6 a10 a11 a12 a14 a16 a20 a21 a24 (cpN (raA (nI 1000000) a20 v g25) g25 (q + 1)) a26) H := by rw [← cpN_s, raA_n2 c71]; exact hP
                          have hD : va_D A (mw cI r i0 i3 i7 i8 i9 i13 i15 i17 i18 i19 i22 i23 a1 a2 a4 a5 a6 a10 a11 a12 a14 a16 a20 a21 a24 (cpN (raA (nI 1000000) a20 v g25) g25 (q + 1)) a26) := by rw [← cpN_s, raA_n2 c71]; exact hD
                          exact ih35 (q + 1) false (by omega) (by omega) (rs_n ht2 c106 (fun h => Int32.not_le.mpr h.2 c71)) _ _ _ hP hD hS (lv_sub hl [3, 4, 1, 5, 0] rfl)
                      · skip
                        refine lv_iconst (v := nI 1) hx hb dX6_accelerate_74 (by decide) ?_
                        refine lv_goto (tgt := 79) hx hb dX6_accelerate_75 (by decide) ?_
                        refine lv_istore (lv' := [(5, .int (nI 1)), (0, .ref (r 0)), (1, .int (nI k)), (2, .int (bI t2)), (3, .int (nI v)), (4, .int (nI q))]) hx hb dX6_accelerate_79 hl (by decide) rfl (fun ls hl => ?_)
                        refine lv_aload_n hx hb dX6_accelerate_81 rfl (lv_at hl 1 rfl) ?_
                        refine va_get (D := D) (ci := 5) (v := .ref (r 25)) (C := RX6) (T := TX6) (N := 27) hx hb hts hin6 hown hK hP 0 rfl rfl 25 (by decide) fl54 (fun _ h9 => h9) rfl dX6_accelerate_82 ?_
                        refine lv_iload hx hb dX6_accelerate_85 (lv_at hl 5 rfl) ?_
                        refine lv_iload hx hb dX6_accelerate_87 (lv_at hl 0 rfl) ?_
                        refine lv_if_eq (tgt := 97) hx hb dX6_accelerate_89 (by decide) (fun c89 => absurd c89 (by decide)) (fun c89 => ?_)
                        refine wk_ldc (v := nI 1000000) hx hb hown (hts (.constant RX6 123 (nI 1000000)) (by decide +kernel)) dX6_accelerate_92 ?_
                        refine lv_goto (tgt := 104) hx hb dX6_accelerate_94 (by decide) ?_
                        refine wk_iast hx hb hK hP hD hS 14 0 rfl rfl (i := q) (by omega) (by omega) dX6_accelerate_104 (fun H locs hP hD hS => ?_)
                        have hP : va_P D vwCl (mw cI r i0 i3 i7 i8 i9 i13 i15 i17 i18 i19 i22 i23 a1 a2 a4 a5 a6 a10 a11 a12 a14 a16 a20 a21 a24 (upd (cpN (raA (nI 1000000) a20 v g25) g25 q) q (nI 1000000)) a26) H := hP
                        have hD : va_D A (mw cI r i0 i3 i7 i8 i9 i13 i15 i17 i18 i19 i22 i23 a1 a2 a4 a5 a6 a10 a11 a12 a14 a16 a20 a21 a24 (upd (cpN (raA (nI 1000000) a20 v g25) g25 q) q (nI 1000000)) a26) := hD
                        refine lv_iload_n hx hb dX6_accelerate_105 rfl (lv_at hl 3 rfl) ?_
                        refine wk_if_neb (tgt := 114) hx hb dX6_accelerate_106 (by decide) (fun c106 => ?_) (fun c106 => ?_)
                        · skip
                          refine lv_iconst (v := nI 1) hx hb dX6_accelerate_114 (by decide) ?_
                          refine lv_goto (tgt := 119) hx hb dX6_accelerate_115 (by decide) ?_
                          refine lv_istore_n (lv' := [(2, .int (nI 1)), (5, .int (nI 1)), (0, .ref (r 0)), (1, .int (nI k)), (3, .int (nI v)), (4, .int (nI q))]) hx hb dX6_accelerate_119 rfl hl (by decide) rfl (fun ls hl => ?_)
                          refine lv_iinc (v := (nI (q + 1))) (lv' := [(4, .int (nI (q + 1))), (2, .int (nI 1)), (5, .int (nI 1)), (0, .ref (r 0)), (1, .int (nI k)), (3, .int (nI v))]) hx hb dX6_accelerate_120 hl (k := 5) rfl (by exact nI_1 _) (by decide) rfl (fun ls hl => ?_)
                          refine lv_goto (tgt := 35) hx hb dX6_accelerate_123 (by decide) ?_
                          have hP : va_P D vwCl (mw cI r i0 i3 i7 i8 i9 i13 i15 i17 i18 i19 i22 i23 a1 a2 a4 a5 a6 a10 a11 a12 a14 a16 a20 a21 a24 (cpN (raA (nI 1000000) a20 v g25) g25 (q + 1)) a26) H := by rw [← cpN_s, raA_y c59 c71]; exact hP
                          have hD : va_D A (mw cI r i0 i3 i7 i8 i9 i13 i15 i17 i18 i19 i22 i23 a1 a2 a4 a5 a6 a10 a11 a12 a14 a16 a20 a21 a24 (cpN (raA (nI 1000000) a20 v g25) g25 (q + 1)) a26) := by rw [← cpN_s, raA_y c59 c71]; exact hD
                          exact ih35 (q + 1) true (by omega) (by omega) (rs_t ht2 c106) _ _ _ hP hD hS (lv_sub hl [3, 4, 1, 5, 0] rfl)
                        · skip
                          refine lv_iload hx hb dX6_accelerate_109 (lv_at hl 0 rfl) ?_
                          refine lv_if_eq (tgt := 118) hx hb dX6_accelerate_111 (by decide) (fun c111 => absurd c111 (by decide)) (fun c111 => ?_)
                          refine lv_iconst (v := nI 1) hx hb dX6_accelerate_114 (by decide) ?_
                          refine lv_goto (tgt := 119) hx hb dX6_accelerate_115 (by decide) ?_
                          refine lv_istore_n (lv' := [(2, .int (nI 1)), (5, .int (nI 1)), (0, .ref (r 0)), (1, .int (nI k)), (3, .int (nI v)), (4, .int (nI q))]) hx hb dX6_accelerate_119 rfl hl (by decide) rfl (fun ls hl => ?_)
                          refine lv_iinc (v := (nI (q + 1))) (lv' := [(4, .int (nI (q + 1))), (2, .int (nI 1)), (5, .int (nI 1)), (0, .ref (r 0)), (1, .int (nI k)), (3, .int (nI v))]) hx hb dX6_accelerate_120 hl (k := 5) rfl (by exact nI_1 _) (by decide) rfl (fun ls hl => ?_)
                          refine lv_goto (tgt := 35) hx hb dX6_accelerate_123 (by decide) ?_
                          have hP : va_P D vwCl (mw cI r i0 i3 i7 i8 i9 i13 i15 i17 i18 i19 i22 i23 a1 a2 a4 a5 a6 a10 a11 a12 a14 a16 a20 a21 a24 (cpN (raA (nI 1000000) a20 v g25) g25 (q + 1)) a26) H := by rw [← cpN_s, raA_y c59 c71]; exact hP
                          have hD : va_D A (mw cI r i0 i3 i7 i8 i9 i13 i15 i17 i18 i19 i22 i23 a1 a2 a4 a5 a6 a10 a11 a12 a14 a16 a20 a21 a24 (cpN (raA (nI 1000000) a20 v g25) g25 (q + 1)) a26) := by rw [← cpN_s, raA_y c59 c71]; exact hD
                          exact ih35 (q + 1) true (by omega) (by omega) (rs_y ⟨Int32.not_le.mp c59, Int32.not_le.mp c71⟩) _ _ _ hP hD hS (lv_sub hl [3, 4, 1, 5, 0] rfl)
              have hP : va_P D vwCl (mw cI r i0 i3 i7 i8 i9 i13 i15 i17 i18 i19 i22 i23 a1 a2 a4 a5 a6 a10 a11 a12 a14 a16 a20 a21 a24 (cpN (raA (nI 1000000) a20 v g25) g25 0) a26) H := by rw [cpN_0]; exact hP
              have hD : va_D A (mw cI r i0 i3 i7 i8 i9 i13 i15 i17 i18 i19 i22 i23 a1 a2 a4 a5 a6 a10 a11 a12 a14 a16 a20 a21 a24 (cpN (raA (nI 1000000) a20 v g25) g25 0) a26) := by rw [cpN_0]; exact hD
              exact lp35 _ 0 t (Nat.lt_succ_self _) (by omega) rs_0 _ _ _ hP hD hS (lv_sub hl [1, 2, 3, 4, 0] rfl)
      exact lp10 _ (nI k) (nd.2.1 :: nd.2.2) w6 false f25 (Nat.lt_succ_self _) (Or.inr ⟨k, nd, hk, rfl, rfl⟩) hf rfl _ _ _ hP hD hS (lv_sub hl [2, 3, 1, 0] rfl)
  exact lp6 _ 6 w a25 (Nat.lt_succ_self _) hw rfl (Nat.lt_succ_of_le (cntF_le5 _ _)) _ _ _ hP hD hS (lv_sub hl [1, 2] rfl)
end
section
/-! what is told of the tree: lives, limits, their order -/
def zR : Rw := fun _ => 0
def canR (f4 : Nat → Int32) (x : Rw) (t : Nat) : Bool := tp5 x (fun q => f4 (5 * t + q))
theorem canM_row {tr : Nat} {f4 f : Nat → Int32} {y t : Nat} {x : Rw} (htr : tr ≤ 6) (ht : t < tr) (h : ∀ q, q < 5 → f (y + q) = x q) : canM tr f4 f y (nI t) = canR f4 x t := by
  unfold canM canR
  rw [inB_is ht (by omega), Bool.true_and, nI_clamp (by omega), tpB_row h (fun q _ => rfl)]
def livI (f4 : Nat → Int32) (x : Rw) : Nat → Int32 → Int32
  | 0, a => a
  | t + 1, a => livI f4 x t a ||| (if canR f4 x t = true then nI 1 <<< (nI t &&& 31) else nI 0)
def livL (tr : Nat) (f4 : Nat → Int32) (Ms : List Rw) (a : Int32) : Int32 := Ms.foldl (fun a x => livI f4 x tr a) a
theorem livL_s {tr : Nat} {f4 : Nat → Int32} {Ms : List Rw} {a : Int32} {k : Nat} {x : Rw} (hx : Ms[k]? = some x) : livL tr f4 (Ms.take (k + 1)) a = livI f4 x tr (livL tr f4 (Ms.take k) a) := by
  unfold livL
  rw [take_s hx, List.foldl_append]
  rfl
def befM (x y : Rw) : Bool := match (List.range 5).find? (fun q => decide (¬ x q - y q = 0)) with
  | some q => decide (x q - y q < 0)
  | none => false
theorem bef_hit {x y : Rw} {q : Nat} (hq : q < 5) (h0 : ∀ j, j < q → x j - y j = 0) (h1 : ¬ x q - y q = 0) : befM x y = decide (x q - y q < 0) := by
  unfold befM
  have : (List.range 5).find? (fun q => decide (¬ x q - y q = 0)) = some q := by
    rw [List.find?_range_eq_some]
    exact ⟨decide_eq_true h1, List.mem_range.mpr hq, fun j hj => by rw [h0 j hj]; rfl⟩
  rw [this]
theorem bef_none {x y : Rw} (h0 : ∀ j, j < 5 → x j - y j = 0) : befM x y = false := by
  unfold befM
  have : (List.range 5).find? (fun q => decide (¬ x q - y q = 0)) = none := by
    rw [List.find?_eq_none]
    intro j hj
    rw [h0 j (List.mem_range.mp hj)]
    decide
  rw [this]
def limOK (Ms : List Rw) (k o : Nat) : Bool := !(tp5 (Ms.getD o zR) (Ms.getD k zR)) || (tp5 (Ms.getD k zR) (Ms.getD o zR) && decide (k ≤ o))
def limB (Ms : List Rw) (k : Nat) : Bool := (List.range Ms.length).all (fun o => limOK Ms k o)
def posI (bf : Nat → Bool) (C : List Nat) : Nat → Nat
  | 0 => 0
  | a + 1 => if bf (C.getD a 0) = true then posI bf C a else a + 1
def insM (bf : Nat → Bool) (k : Nat) (C : List Nat) : List Nat := C.take (posI bf C C.length) ++ k :: C.drop (posI bf C C.length)
def limS (Ms : List Rw) (C : List Nat) (k : Nat) : List Nat := if limB Ms k = true then insM (fun j => befM (Ms.getD k zR) (Ms.getD j zR)) k C else C
def limL (Ms : List Rw) (k : Nat) : List Nat := (List.range k).foldl (limS Ms) []
theorem limL_s (Ms : List Rw) (k : Nat) : limL Ms (k + 1) = limS Ms (limL Ms k) k := by
  unfold limL
  rw [List.range_succ, List.foldl_append]
  rfl
theorem posI_le (bf : Nat → Bool) (C : List Nat) : ∀ a, posI bf C a ≤ a := by
  intro a
  induction a with
  | zero => exact Nat.le_refl 0
  | succ a ih =>
    show (if bf (C.getD a 0) = true then posI bf C a else a + 1) ≤ a + 1
    split
    · omega
    · omega
theorem insM_len (bf : Nat → Bool) (k : Nat) (C : List Nat) : (insM bf k C).length = C.length + 1 := by
  unfold insM
  have := posI_le bf C C.length
  rw [List.length_append, List.length_cons, List.length_take, List.length_drop]
  omega
def idxV (f : Nat → Int32) (C : List Nat) : Prop := ∀ j v, C[j]? = some v → f j = nI v
/-- while a place is made free: the first a stand, the others stand one further -/
def insV (f : Nat → Int32) (C : List Nat) (a : Nat) : Prop := (∀ j v, j < a → C[j]? = some v → f j = nI v) ∧ ∀ j v, a ≤ j → C[j]? = some v → f (j + 1) = nI v
theorem insV_0 {f : Nat → Int32} {C : List Nat} (h : idxV f C) : insV f C C.length := ⟨fun j v _ hv => h j v hv, fun j v hj hv => by have := lt_of_some hv; omega⟩
theorem insV_s {f : Nat → Int32} {C : List Nat} {a v : Nat} (h : insV f C (a + 1)) (hv : C[a]? = some v) : insV (upd f (a + 1) (nI v)) C a := by
  refine ⟨fun j w hj hw => ?_, fun j w hj hw => ?_⟩
  · rw [pk_un (by omega)]; exact h.1 j w (by omega) hw
  · rcases Nat.lt_or_eq_of_le hj with h1 | rfl
    · rw [pk_un (by omega)]; exact h.2 j w h1 hw
    · rw [pk_us]; rw [hv] at hw; cases hw; rfl
theorem insV_end {f : Nat → Int32} {C : List Nat} {bf : Nat → Bool} {k : Nat} (h : insV f C (posI bf C C.length)) : idxV (upd f (posI bf C C.length) (nI k)) (insM bf k C) := by
  have hle := posI_le bf C C.length
  unfold insM
  generalize posI bf C C.length = a at h hle ⊢
  intro j v hv
  by_cases h1 : j < a
  · rw [List.getElem?_append_left (by rw [List.length_take]; omega), List.getElem?_take_of_lt h1] at hv
    rw [pk_un (by omega)]
    exact h.1 j v h1 hv
  · rw [List.getElem?_append_right (by rw [List.length_take]; omega), List.length_take, show min a C.length = a by omega] at hv
    rcases Nat.lt_or_eq_of_le (Nat.le_of_not_lt h1) with h2 | rfl
    · obtain ⟨i, rfl⟩ : ∃ i, j = i + 1 := ⟨j - 1, by omega⟩
      rw [show i + 1 - a = (i - a) + 1 by omega, List.getElem?_cons_succ, List.getElem?_drop, show a + (i - a) = i by omega] at hv
      rw [pk_un (by omega)]
      exact h.2 i v (by omega) hv
    · rw [Nat.sub_self] at hv
      cases hv
      exact pk_us
theorem posI_y {bf : Nat → Bool} {C : List Nat} {a : Nat} (h : bf (C.getD a 0) = true) : posI bf C (a + 1) = posI bf C a := if_pos h
theorem posI_n {bf : Nat → Bool} {C : List Nat} {a : Nat} (h : bf (C.getD a 0) = false) : posI bf C (a + 1) = a + 1 := if_neg (by rw [h]; exact Bool.false_ne_true)
theorem getD_of {α : Type} {X : List α} {k : Nat} {x d : α} (h : X[k]? = some x) : X.getD k d = x := by rw [List.getD_eq_getElem?_getD, h]; rfl
theorem limB_end {f : Nat → Int32} {Ms : List Rw} (hX : rowsV f 0 Ms) {k : Nat} (hk : k < Ms.length) {t : Bool} (ht : t = true ↔ ∀ o, o < Ms.length → (tpB f (5 * o) f (5 * k) = true → (tpB f (5 * k) f (5 * o) = true ∧ k ≤ o))) : t = limB Ms k := by
  refine bb_eq ht ?_
  unfold limB
  rw [List.all_eq_true]
  obtain ⟨x, hx, hxr⟩ := rowsV_at0 hX hk
  have key : ∀ o, o < Ms.length → (limOK Ms k o = true ↔ (tpB f (5 * o) f (5 * k) = true → (tpB f (5 * k) f (5 * o) = true ∧ k ≤ o))) := by
    intro o ho
    obtain ⟨y, hy, hyr⟩ := rowsV_at0 hX ho
    rw [tpB_row hyr hxr, tpB_row hxr hyr]
    unfold limOK
    rw [getD_of hx, getD_of hy]
    cases tp5 y x <;> cases tp5 x y <;> simp
  exact ⟨fun h o ho => (key o ho).mp (h o (List.mem_range.mpr ho)), fun h o ho => (key o (List.mem_range.mp ho)).mpr (h o (List.mem_range.mp ho))⟩
theorem limL_in (Ms : List Rw) : ∀ (k : Nat) (v : Nat), v ∈ limL Ms k → v < k := by
  intro k
  induction k with
  | zero => intro v h; cases h
  | succ k ih =>
    intro v h
    rw [limL_s] at h
    unfold limS at h
    split at h
    · unfold insM at h
      rcases List.mem_append.mp h with h | h
      · have := ih v (List.mem_of_mem_take h); omega
      · rcases List.mem_cons.mp h with rfl | h
        · omega
        · have := ih v (List.mem_of_mem_drop h); omega
    · have := ih v h; omega
theorem limL_len (Ms : List Rw) : ∀ (k : Nat), (limL Ms k).length ≤ k := by
  intro k
  induction k with
  | zero => exact Nat.le_refl 0
  | succ k ih =>
    rw [limL_s]
    unfold limS
    split
    · rw [insM_len]; omega
    · omega
end
section
set_option maxHeartbeats 4000000 in
set_option maxRecDepth 100000 in
theorem c_X6_isBefore (l : Launch) (D : va_G) (cI cJ cZ cA : ClassId) (r : Nat → Nat) (i0 i3 i7 i8 i9 i13 i15 i17 i18 i19 i22 i23 : Int32) (a1 a2 a4 a5 a6 a10 a11 a12 a14 a16 a20 a21 a24 a25 a26 : Nat → Int32) (k o : Nat) (x y : Rw) (hk : k ≤ 1000) (ho : o ≤ 1000) (hxr : ∀ q, q < 5 → a20 (5 * k + q) = x q) (hyr : ∀ q, q < 5 → a20 (5 * o + q) = y q) : Met l yX6_isBefore wsX6_isBefore ({ frames := 0, cells := 0, slots := 0, locals := 0 } : Room) (ro_P D (tysC cI cJ cZ cA) [.ref (r 0), .int (nI k), .int (nI o)] (mw cI r i0 i3 i7 i8 i9 i13 i15 i17 i18 i19 i22 i23 a1 a2 a4 a5 a6 a10 a11 a12 a14 a16 a20 a21 a24 a25 a26)) (ro_Q (bI (befM x y))) 0 0 (fun _ => False) := by
  refine met_ro (cc := cX6_isBefore) (maxL := 5) (ty := .boolean) (by decide) rfl (Nat.le_of_ble_eq_true rfl) (bI_n _) ?_
  intro p e s m args below meth c Q hx hb hml hown hts hP hK hret ls hl
  obtain ⟨H, hH9⟩ : ∃ H : Heap, H = s.heap := ⟨_, rfl⟩
  have hP : va_P D vwCl (mw cI r i0 i3 i7 i8 i9 i13 i15 i17 i18 i19 i22 i23 a1 a2 a4 a5 a6 a10 a11 a12 a14 a16 a20 a21 a24 a25 a26) H := by rw [hH9]; exact hP
  have hS : va_S (fun _ => False) s.heap H [] := by rw [hH9]; exact va_S.rf
  rw [← hH9]
  have hown : s.vm.findClass RX6 = some m.cls := hown
  have hin6 : ∀ w ∈ wsX60, w ∈ wsX6_isBefore := by decide +kernel
  have fl45 := hts (.fieldLink RX6 45 "CoverRoundsModel" "markings" "[I") (by decide +kernel)
  have hl : lv_has ls 5 [(0, .ref (r 0)), (1, .int (nI k)), (2, .int (nI o))] := hl
  refine lv_iconst (v := nI 0) hx hb dX6_isBefore_0 (by decide) ?_
  refine lv_istore_n (lv' := [(3, .int (nI 0)), (0, .ref (r 0)), (1, .int (nI k)), (2, .int (nI o))]) hx hb dX6_isBefore_1 rfl hl (by decide) rfl (fun ls hl => ?_)
  have lp2 : ∀ (n9 : Nat) (q : Nat), 5 - q < n9 → q ≤ 5 → (∀ j, j < q → x j - y j = 0) → ∀ (H : Heap) (locs : List Loc) (ls : Array Slot), va_P D vwCl (mw cI r i0 i3 i7 i8 i9 i13 i15 i17 i18 i19 i22 i23 a1 a2 a4 a5 a6 a10 a11 a12 a14 a16 a20 a21 a24 a25 a26) H → va_S (fun _ => False) s.heap H locs → lv_has ls 5 [(0, .ref (r 0)), (1, .int (nI k)), (2, .int (nI o)), (3, .int (nI q))] → W p l e ({ frames := 0, cells := 0, slots := 0, locals := 0 } : Room) s m args below meth c H locs 0 0 Q (F0 m 2 ls []) := by
    intro n9
    induction n9 with
    | zero => intro q hm2; exact absurd hm2 (Nat.not_lt_zero _)
    | succ n9 ih2 =>
      intro q hm2 hq h0 H locs ls hP hS hl
      refine lv_iload_n hx hb dX6_isBefore_2 rfl (lv_at hl 3 rfl) ?_
      refine lv_iconst (v := nI 5) hx hb dX6_isBefore_3 (by decide) ?_
      refine wk_icmp_ge (tgt := 52) hx hb (by omega) (by omega) dX6_isBefore_4 (by decide) (fun c4 => ?_) (fun c4 => ?_)
      · skip
        refine lv_iconst (v := nI 0) hx hb dX6_isBefore_52 (by decide) ?_
        have hq5 : q = 5 := by omega
        subst hq5
        exact hret _ _ _ _ _ (bI_F (bef_none h0)) dX6_isBefore_53 hS
      · skip
        refine lv_aload_n hx hb dX6_isBefore_7 rfl (lv_at hl 0 rfl) ?_
        refine va_get (D := D) (ci := 5) (v := .ref (r 20)) (C := RX6) (T := TX6) (N := 27) hx hb hts hin6 hown hK hP 0 rfl rfl 20 (by decide) fl45 (fun _ h9 => h9) rfl dX6_isBefore_8 ?_
        refine lv_iconst (v := nI 5) hx hb dX6_isBefore_11 (by decide) ?_
        refine lv_iload_n hx hb dX6_isBefore_12 rfl (lv_at hl 1 rfl) ?_
        refine wk_imul hx hb dX6_isBefore_13 ?_
        refine lv_iload_n hx hb dX6_isBefore_14 rfl (lv_at hl 3 rfl) ?_
        refine wk_iadd hx hb dX6_isBefore_15 ?_
        refine wk_iald hx hb hK hP 11 0 rfl rfl (i := (5 * k) + q) (by omega) (by omega) dX6_isBefore_16 ?_
        rw [show (a20 ((5 * k) + q)) = (x q) from (hxr q (by omega))]
        refine lv_aload_n hx hb dX6_isBefore_17 rfl (lv_at hl 0 rfl) ?_
        refine va_get (D := D) (ci := 5) (v := .ref (r 20)) (C := RX6) (T := TX6) (N := 27) hx hb hts hin6 hown hK hP 0 rfl rfl 20 (by decide) fl45 (fun _ h9 => h9) rfl dX6_isBefore_18 ?_
        refine lv_iconst (v := nI 5) hx hb dX6_isBefore_21 (by decide) ?_
        refine lv_iload_n hx hb dX6_isBefore_22 rfl (lv_at hl 2 rfl) ?_
        refine wk_imul hx hb dX6_isBefore_23 ?_
        refine lv_iload_n hx hb dX6_isBefore_24 rfl (lv_at hl 3 rfl) ?_
        refine wk_iadd hx hb dX6_isBefore_25 ?_
        refine wk_iald hx hb hK hP 11 0 rfl rfl (i := (5 * o) + q) (by omega) (by omega) dX6_isBefore_26 ?_
        rw [show (a20 ((5 * o) + q)) = (y q) from (hyr q (by omega))]
        refine lv_isub hx hb dX6_isBefore_27 ?_
        refine lv_istore (lv' := [(4, .int ((x q) - (y q))), (0, .ref (r 0)), (1, .int (nI k)), (2, .int (nI o)), (3, .int (nI q))]) hx hb dX6_isBefore_28 hl (by decide) rfl (fun ls hl => ?_)
        refine lv_iload hx hb dX6_isBefore_30 (lv_at hl 0 rfl) ?_
        refine lv_if_eq (tgt := 46) hx hb dX6_isBefore_32 (by decide) (fun c32 => ?_) (fun c32 => ?_)
        · skip
          refine lv_iinc (v := (nI (q + 1))) (lv' := [(3, .int (nI (q + 1))), (4, .int ((x q) - (y q))), (0, .ref (r 0)), (1, .int (nI k)), (2, .int (nI o))]) hx hb dX6_isBefore_46 hl (k := 4) rfl (by exact nI_1 _) (by decide) rfl (fun ls hl => ?_)
          refine lv_goto (tgt := 2) hx hb dX6_isBefore_49 (by decide) ?_
          exact ih2 (q + 1) (by omega) (by omega) (fun j hj => by rcases Nat.lt_or_eq_of_le (Nat.le_of_lt_succ hj) with h1 | rfl; exact h0 j h1; exact c32) _ _ _ hP hS (lv_sub hl [2, 3, 4, 0] rfl)
        · skip
          refine lv_iload hx hb dX6_isBefore_35 (lv_at hl 0 rfl) ?_
          refine lv_if_ge (tgt := 44) hx hb dX6_isBefore_37 (by decide) (fun c37 => ?_) (fun c37 => ?_)
          · skip
            refine lv_iconst (v := nI 0) hx hb dX6_isBefore_44 (by decide) ?_
            exact hret _ _ _ _ _ (bI_F (by rw [bef_hit (by omega) h0 c32]; exact decide_eq_false (Int32.not_lt.mpr c37))) dX6_isBefore_45 hS
          · skip
            refine lv_iconst (v := nI 1) hx hb dX6_isBefore_40 (by decide) ?_
            refine lv_goto (tgt := 45) hx hb dX6_isBefore_41 (by decide) ?_
            exact hret _ _ _ _ _ (bI_T (by rw [bef_hit (by omega) h0 c32]; exact decide_eq_true (Int32.not_le.mp c37))) dX6_isBefore_45 hS
  exact lp2 _ 0 (Nat.lt_succ_self _) (by omega) (fun j h => absurd h (Nat.not_lt_zero j)) _ _ _ hP hS (lv_sub hl [1, 2, 3, 0] rfl)

set_option maxHeartbeats 4000000 in
set_option maxRecDepth 100000 in
theorem c_X6_tellTree (l : Launch) (D : va_G) (cI cJ cZ cA : ClassId) (r : Nat → Nat) (i0 i7 i8 i9 i13 i15 i17 i18 i22 i23 : Int32) (a1 a2 a4 a5 a6 a10 a11 a12 a14 a16 a20 a21 a24 a25 a26 : Nat → Int32) (sz tr : Nat) (htr : tr ≤ 6) (Ms : List Rw) (hX : rowsV a20 0 Ms) (hXl : Ms.length ≤ 1000)  : Met l yX6_tellTree wsX6_tellTree ({ frames := 2, cells := 0, slots := 0, locals := 48 } : Room) (wr_P D (tysC cI cJ cZ cA) [.ref (r 0)] (mw cI r i0 (nI tr) i7 i8 i9 i13 i15 i17 i18 (nI Ms.length) i22 i23 a1 a2 a4 a5 a6 a10 a11 a12 a14 a16 a20 a21 a24 a25 a26) sz) (wr_Qv D (S := Nat → Int32) (mw cI r i0 (nI tr) i7 i8 i9 i13 i15 i17 i18 (nI Ms.length) i22 i23 a1 a2 a4 a5 a6 a10 a11 a12 a14 a16 a20 a21 a24 a25 a26) sz (fun u => idxV u (limL Ms Ms.length)) (fun u => (mw cI r i0 (nI tr) i7 i8 i9 i13 i15 i17 i18 (nI Ms.length) (livL tr a4 Ms (nI 0)) (nI ((limL Ms Ms.length).length)) a1 a2 a4 a5 a6 a10 a11 a12 a14 a16 a20 a21 u a25 a26))) 0 0 (va_A (mw cI r i0 (nI tr) i7 i8 i9 i13 i15 i17 i18 (nI Ms.length) i22 i23 a1 a2 a4 a5 a6 a10 a11 a12 a14 a16 a20 a21 a24 a25 a26) sz) := by
  refine met_wv (cc := cX6_tellTree) (maxL := 6) (by decide) rfl (Nat.le_of_ble_eq_true rfl) ?_
  intro p e s m args below meth c Q A hx hb hml hown hts hP hK hD hA hret ls hl
  obtain ⟨H, hH9⟩ : ∃ H : Heap, H = s.heap := ⟨_, rfl⟩
  have hP : va_P D vwCl (mw cI r i0 (nI tr) i7 i8 i9 i13 i15 i17 i18 (nI Ms.length) i22 i23 a1 a2 a4 a5 a6 a10 a11 a12 a14 a16 a20 a21 a24 a25 a26) H := by rw [hH9]; exact hP
  have hS : va_S A s.heap H [] := by rw [hH9]; exact va_S.rf
  rw [← hH9]
  have hown : s.vm.findClass RX6 = some m.cls := hown
  have hin6 : ∀ w ∈ wsX60, w ∈ wsX6_tellTree := by decide +kernel
  have fl144 := hts (.fieldLink RX6 144 "CoverRoundsModel" "lives" "I") (by decide +kernel)
  have fl128 := hts (.fieldLink RX6 128 "CoverRoundsModel" "nodes" "I") (by decide +kernel)
  have fl63 := hts (.fieldLink RX6 63 "CoverRoundsModel" "transitions" "I") (by decide +kernel)
  have fl45 := hts (.fieldLink RX6 45 "CoverRoundsModel" "markings" "[I") (by decide +kernel)
  have fl147 := hts (.fieldLink RX6 147 "CoverRoundsModel" "limitCount" "I") (by decide +kernel)
  have fl51 := hts (.fieldLink RX6 51 "CoverRoundsModel" "limitNodes" "[I") (by decide +kernel)
  have hl : lv_has ls 6 [(0, .ref (r 0))] := hl
  refine lv_aload_n hx hb dX6_tellTree_0 rfl (lv_at hl 0 rfl) ?_
  refine lv_iconst (v := nI 0) hx hb dX6_tellTree_1 (by decide) ?_
  refine va_put (D := D) (ci := 5) (v := .int (nI 0)) (ty := .int) (C := RX6) (T := TX6) (N := 27) hx hb hts hin6 tyX6 tyX6_ok nmX6 hown hK hP hD hS 0 rfl rfl 22 (by decide) fl144 (fun _ h9 => h9) rfl (by decide +kernel) rfl rfl (Nat.le_of_ble_eq_true rfl) dX6_tellTree_2 (fun H locs hP hD hS => ?_)
  have hP : va_P D vwCl (mw cI r i0 (nI tr) i7 i8 i9 i13 i15 i17 i18 (nI Ms.length) (nI 0) i23 a1 a2 a4 a5 a6 a10 a11 a12 a14 a16 a20 a21 a24 a25 a26) H := hP
  have hD : va_D A (mw cI r i0 (nI tr) i7 i8 i9 i13 i15 i17 i18 (nI Ms.length) (nI 0) i23 a1 a2 a4 a5 a6 a10 a11 a12 a14 a16 a20 a21 a24 a25 a26) := hD
  refine lv_iconst (v := nI 0) hx hb dX6_tellTree_5 (by decide) ?_
  refine lv_istore_n (lv' := [(1, .int (nI 0)), (0, .ref (r 0))]) hx hb dX6_tellTree_6 rfl hl (by decide) rfl (fun ls hl => ?_)
  have lp7 : ∀ (n9 : Nat) (k : Nat) (v22 : Int32), Ms.length - k < n9 → k ≤ Ms.length → v22 = livL tr a4 (Ms.take k) (nI 0) → ∀ (H : Heap) (locs : List Loc) (ls : Array Slot), va_P D vwCl (mw cI r i0 (nI tr) i7 i8 i9 i13 i15 i17 i18 (nI Ms.length) v22 i23 a1 a2 a4 a5 a6 a10 a11 a12 a14 a16 a20 a21 a24 a25 a26) H → va_D A (mw cI r i0 (nI tr) i7 i8 i9 i13 i15 i17 i18 (nI Ms.length) v22 i23 a1 a2 a4 a5 a6 a10 a11 a12 a14 a16 a20 a21 a24 a25 a26) → va_S A s.heap H locs → lv_has ls 6 [(0, .ref (r 0)), (1, .int (nI k))] → W p l e ({ frames := 2, cells := 0, slots := 0, locals := 48 } : Room) s m args below meth c H locs 0 0 Q (F0 m 7 ls []) := by
    intro n9
    induction n9 with
    | zero => intro k v22 hm7; exact absurd hm7 (Nat.not_lt_zero _)
    | succ n9 ih7 =>
      intro k v22 hm7 hk hv H locs ls hP hD hS hl
      refine lv_iload_n hx hb dX6_tellTree_7 rfl (lv_at hl 1 rfl) ?_
      refine lv_aload_n hx hb dX6_tellTree_8 rfl (lv_at hl 0 rfl) ?_
      refine va_get (D := D) (ci := 5) (v := .int (nI Ms.length)) (C := RX6) (T := TX6) (N := 27) hx hb hts hin6 hown hK hP 0 rfl rfl 19 (by decide) fl128 (fun _ h9 => h9) rfl dX6_tellTree_9 ?_
      refine wk_icmp_ge (tgt := 68) hx hb (by omega) (by omega) dX6_tellTree_12 (by decide) (fun c12 => ?_) (fun c12 => ?_)
      · skip
        refine lv_aload_n hx hb dX6_tellTree_68 rfl (lv_at hl 0 rfl) ?_
        refine lv_iconst (v := nI 0) hx hb dX6_tellTree_69 (by decide) ?_
        refine va_put (D := D) (ci := 5) (v := .int (nI 0)) (ty := .int) (C := RX6) (T := TX6) (N := 27) hx hb hts hin6 tyX6 tyX6_ok nmX6 hown hK hP hD hS 0 rfl rfl 23 (by decide) fl147 (fun _ h9 => h9) rfl (by decide +kernel) rfl rfl (Nat.le_of_ble_eq_true rfl) dX6_tellTree_70 (fun H locs hP hD hS => ?_)
        have hP : va_P D vwCl (mw cI r i0 (nI tr) i7 i8 i9 i13 i15 i17 i18 (nI Ms.length) v22 (nI 0) a1 a2 a4 a5 a6 a10 a11 a12 a14 a16 a20 a21 a24 a25 a26) H := hP
        have hD : va_D A (mw cI r i0 (nI tr) i7 i8 i9 i13 i15 i17 i18 (nI Ms.length) v22 (nI 0) a1 a2 a4 a5 a6 a10 a11 a12 a14 a16 a20 a21 a24 a25 a26) := hD
        refine lv_iconst (v := nI 0) hx hb dX6_tellTree_73 (by decide) ?_
        refine lv_istore_n (lv' := [(1, .int (nI 0)), (0, .ref (r 0))]) hx hb dX6_tellTree_74 rfl hl (by decide) rfl (fun ls hl => ?_)
        have lp75 : ∀ (n9 : Nat) (k : Nat) (g24 : Nat → Int32), Ms.length - k < n9 → k ≤ Ms.length → idxV g24 (limL Ms k) → ∀ (H : Heap) (locs : List Loc) (ls : Array Slot), va_P D vwCl (mw cI r i0 (nI tr) i7 i8 i9 i13 i15 i17 i18 (nI Ms.length) (livL tr a4 Ms (nI 0)) (nI ((limL Ms k).length)) a1 a2 a4 a5 a6 a10 a11 a12 a14 a16 a20 a21 g24 a25 a26) H → va_D A (mw cI r i0 (nI tr) i7 i8 i9 i13 i15 i17 i18 (nI Ms.length) (livL tr a4 Ms (nI 0)) (nI ((limL Ms k).length)) a1 a2 a4 a5 a6 a10 a11 a12 a14 a16 a20 a21 g24 a25 a26) → va_S A s.heap H locs → lv_has ls 6 [(0, .ref (r 0)), (1, .int (nI k))] → W p l e ({ frames := 2, cells := 0, slots := 0, locals := 48 } : Room) s m args below meth c H locs 0 0 Q (F0 m 75 ls []) := by
          intro n9
          induction n9 with
          | zero => intro k g24 hm75; exact absurd hm75 (Nat.not_lt_zero _)
          | succ n9 ih75 =>
            intro k g24 hm75 hk hC H locs ls hP hD hS hl
            refine lv_iload_n hx hb dX6_tellTree_75 rfl (lv_at hl 1 rfl) ?_
            refine lv_aload_n hx hb dX6_tellTree_76 rfl (lv_at hl 0 rfl) ?_
            refine va_get (D := D) (ci := 5) (v := .int (nI Ms.length)) (C := RX6) (T := TX6) (N := 27) hx hb hts hin6 hown hK hP 0 rfl rfl 19 (by decide) fl128 (fun _ h9 => h9) rfl dX6_tellTree_77 ?_
            refine wk_icmp_ge (tgt := 249) hx hb (by omega) (by omega) dX6_tellTree_80 (by decide) (fun c80 => ?_) (fun c80 => ?_)
            · skip
              have hkM : k = Ms.length := by omega
              subst hkM
              exact hret g24 _ _ _ _ _ _ hC hP hD dX6_tellTree_249 hS (Nat.zero_le _) (Nat.zero_le _)
            · skip
              obtain ⟨x, hx9, hr9⟩ := rowsV_at0 hX (show k < Ms.length by omega)
              have hCl := limL_len Ms k
              refine lv_iconst (v := nI 1) hx hb dX6_tellTree_83 (by decide) ?_
              refine lv_istore_n (lv' := [(2, .int (nI 1)), (0, .ref (r 0)), (1, .int (nI k))]) hx hb dX6_tellTree_84 rfl hl (by decide) rfl (fun ls hl => ?_)
              refine lv_iconst (v := nI 0) hx hb dX6_tellTree_85 (by decide) ?_
              refine lv_istore_n (lv' := [(3, .int (nI 0)), (2, .int (nI 1)), (0, .ref (r 0)), (1, .int (nI k))]) hx hb dX6_tellTree_86 rfl hl (by decide) rfl (fun ls hl => ?_)
              have lp87 : ∀ (n9 : Nat) (o : Nat) (t : Bool), Ms.length - o < n9 → o ≤ Ms.length → (t = true ↔ ∀ j, j < o → (tpB a20 (5 * j) a20 (5 * k) = true → (tpB a20 (5 * k) a20 (5 * j) = true ∧ k ≤ j))) → ∀ (H : Heap) (locs : List Loc) (ls : Array Slot), va_P D vwCl (mw cI r i0 (nI tr) i7 i8 i9 i13 i15 i17 i18 (nI Ms.length) (livL tr a4 Ms (nI 0)) (nI ((limL Ms k).length)) a1 a2 a4 a5 a6 a10 a11 a12 a14 a16 a20 a21 g24 a25 a26) H → va_D A (mw cI r i0 (nI tr) i7 i8 i9 i13 i15 i17 i18 (nI Ms.length) (livL tr a4 Ms (nI 0)) (nI ((limL Ms k).length)) a1 a2 a4 a5 a6 a10 a11 a12 a14 a16 a20 a21 g24 a25 a26) → va_S A s.heap H locs → lv_has ls 6 [(0, .ref (r 0)), (1, .int (nI k)), (2, .int (bI t)), (3, .int (nI o))] → W p l e ({ frames := 2, cells := 0, slots := 0, locals := 48 } : Room) s m args below meth c H locs 0 0 Q (F0 m 87 ls []) := by
                intro n9
                induction n9 with
                | zero => intro o t hm87; exact absurd hm87 (Nat.not_lt_zero _)
                | succ n9 ih87 =>
                  intro o t hm87 ho ht H locs ls hP hD hS hl
                  refine lv_iload_n hx hb dX6_tellTree_87 rfl (lv_at hl 3 rfl) ?_
                  refine lv_aload_n hx hb dX6_tellTree_88 rfl (lv_at hl 0 rfl) ?_
                  refine va_get (D := D) (ci := 5) (v := .int (nI Ms.length)) (C := RX6) (T := TX6) (N := 27) hx hb hts hin6 hown hK hP 0 rfl rfl 19 (by decide) fl128 (fun _ h9 => h9) rfl dX6_tellTree_89 ?_
                  refine wk_icmp_ge (tgt := 177) hx hb (by omega) (by omega) dX6_tellTree_92 (by decide) (fun c92 => ?_) (fun c92 => ?_)
                  · skip
                    have hoM : o = Ms.length := by omega
                    rw [hoM] at ht
                    have hlim := limB_end hX (show k < Ms.length by omega) ht
                    refine lv_iload_n hx hb dX6_tellTree_177 rfl (lv_at hl 2 rfl) ?_
                    refine wk_if_eqb (tgt := 243) hx hb dX6_tellTree_178 (by decide) (fun c178 => ?_) (fun c178 => ?_)
                    · skip
                      refine lv_iinc (v := (nI (k + 1))) (lv' := [(1, .int (nI (k + 1))), (0, .ref (r 0)), (2, .int (bI t)), (3, .int (nI o))]) hx hb dX6_tellTree_243 hl (k := 1) rfl (by exact nI_1 _) (by decide) rfl (fun ls hl => ?_)
                      refine lv_goto (tgt := 75) hx hb dX6_tellTree_246 (by decide) ?_
                      have hP : va_P D vwCl (mw cI r i0 (nI tr) i7 i8 i9 i13 i15 i17 i18 (nI Ms.length) (livL tr a4 Ms (nI 0)) (nI ((limL Ms (k + 1)).length)) a1 a2 a4 a5 a6 a10 a11 a12 a14 a16 a20 a21 g24 a25 a26) H := by rw [limL_s, limS, if_neg (by rw [← hlim, c178]; exact Bool.false_ne_true)]; exact hP
                      have hD : va_D A (mw cI r i0 (nI tr) i7 i8 i9 i13 i15 i17 i18 (nI Ms.length) (livL tr a4 Ms (nI 0)) (nI ((limL Ms (k + 1)).length)) a1 a2 a4 a5 a6 a10 a11 a12 a14 a16 a20 a21 g24 a25 a26) := by rw [limL_s, limS, if_neg (by rw [← hlim, c178]; exact Bool.false_ne_true)]; exact hD
                      exact ih75 (k + 1) g24 (by omega) (by omega) (by rw [limL_s, limS, if_neg (by rw [← hlim, c178]; exact Bool.false_ne_true)]; exact hC) _ _ _ hP hD hS (lv_sub hl [1, 0] rfl)
                    · skip
                      refine lv_aload_n hx hb dX6_tellTree_181 rfl (lv_at hl 0 rfl) ?_
                      refine va_get (D := D) (ci := 5) (v := .int (nI ((limL Ms k).length))) (C := RX6) (T := TX6) (N := 27) hx hb hts hin6 hown hK hP 0 rfl rfl 23 (by decide) fl147 (fun _ h9 => h9) rfl dX6_tellTree_182 ?_
                      refine lv_istore_n (lv' := [(3, .int (nI ((limL Ms k).length))), (0, .ref (r 0)), (1, .int (nI k)), (2, .int (bI t))]) hx hb dX6_tellTree_185 rfl hl (by decide) rfl (fun ls hl => ?_)
                      have lp186 : ∀ (n9 : Nat) (at9 : Nat) (h24 : Nat → Int32), at9 < n9 → at9 ≤ (limL Ms k).length → insV h24 (limL Ms k) at9 → posI (fun j => befM (Ms.getD k zR) (Ms.getD j zR)) (limL Ms k) at9 = posI (fun j => befM (Ms.getD k zR) (Ms.getD j zR)) (limL Ms k) (limL Ms k).length → ∀ (H : Heap) (locs : List Loc) (ls : Array Slot), va_P D vwCl (mw cI r i0 (nI tr) i7 i8 i9 i13 i15 i17 i18 (nI Ms.length) (livL tr a4 Ms (nI 0)) (nI ((limL Ms k).length)) a1 a2 a4 a5 a6 a10 a11 a12 a14 a16 a20 a21 h24 a25 a26) H → va_D A (mw cI r i0 (nI tr) i7 i8 i9 i13 i15 i17 i18 (nI Ms.length) (livL tr a4 Ms (nI 0)) (nI ((limL Ms k).length)) a1 a2 a4 a5 a6 a10 a11 a12 a14 a16 a20 a21 h24 a25 a26) → va_S A s.heap H locs → lv_has ls 6 [(0, .ref (r 0)), (1, .int (nI k)), (3, .int (nI at9))] → W p l e ({ frames := 2, cells := 0, slots := 0, locals := 48 } : Room) s m args below meth c H locs 0 0 Q (F0 m 186 ls []) := by
                        intro n9
                        induction n9 with
                        | zero => intro at9 h24 hm186; exact absurd hm186 (Nat.not_lt_zero _)
                        | succ n9 ih186 =>
                          intro at9 h24 hm186 ha hi hp H locs ls hP hD hS hl
                          refine lv_iload_n hx hb dX6_tellTree_186 rfl (lv_at hl 2 rfl) ?_
                          refine wk_if_le (tgt := 226) hx hb (by omega) dX6_tellTree_187 (by decide) (fun c187 => ?_) (fun c187 => ?_)
                          · skip
                            subst c187
                            have hpz : 0 = posI (fun j => befM (Ms.getD k zR) (Ms.getD j zR)) (limL Ms k) (limL Ms k).length := hp
                            refine lv_aload_n hx hb dX6_tellTree_226 rfl (lv_at hl 0 rfl) ?_
                            refine va_get (D := D) (ci := 5) (v := .ref (r 24)) (C := RX6) (T := TX6) (N := 27) hx hb hts hin6 hown hK hP 0 rfl rfl 24 (by decide) fl51 (fun _ h9 => h9) rfl dX6_tellTree_227 ?_
                            refine lv_iload_n hx hb dX6_tellTree_230 rfl (lv_at hl 2 rfl) ?_
                            refine lv_iload_n hx hb dX6_tellTree_231 rfl (lv_at hl 1 rfl) ?_
                            refine wk_iast hx hb hK hP hD hS 13 0 rfl rfl (i := 0) (by omega) (by omega) dX6_tellTree_232 (fun H locs hP hD hS => ?_)
                            have hP : va_P D vwCl (mw cI r i0 (nI tr) i7 i8 i9 i13 i15 i17 i18 (nI Ms.length) (livL tr a4 Ms (nI 0)) (nI ((limL Ms k).length)) a1 a2 a4 a5 a6 a10 a11 a12 a14 a16 a20 a21 (upd h24 0 (nI k)) a25 a26) H := hP
                            have hD : va_D A (mw cI r i0 (nI tr) i7 i8 i9 i13 i15 i17 i18 (nI Ms.length) (livL tr a4 Ms (nI 0)) (nI ((limL Ms k).length)) a1 a2 a4 a5 a6 a10 a11 a12 a14 a16 a20 a21 (upd h24 0 (nI k)) a25 a26) := hD
                            refine lv_aload_n hx hb dX6_tellTree_233 rfl (lv_at hl 0 rfl) ?_
                            refine lv_dup hx hb dX6_tellTree_234 rfl ?_
                            refine va_get (D := D) (ci := 5) (v := .int (nI ((limL Ms k).length))) (C := RX6) (T := TX6) (N := 27) hx hb hts hin6 hown hK hP 0 rfl rfl 23 (by decide) fl147 (fun _ h9 => h9) rfl dX6_tellTree_235 ?_
                            refine lv_iconst (v := nI 1) hx hb dX6_tellTree_238 (by decide) ?_
                            refine wk_iadd hx hb dX6_tellTree_239 ?_
                            refine va_put (D := D) (ci := 5) (v := .int (nI (((limL Ms k).length) + 1))) (ty := .int) (C := RX6) (T := TX6) (N := 27) hx hb hts hin6 tyX6 tyX6_ok nmX6 hown hK hP hD hS 0 rfl rfl 23 (by decide) fl147 (fun _ h9 => h9) rfl (by decide +kernel) rfl rfl (Nat.le_of_ble_eq_true rfl) dX6_tellTree_240 (fun H locs hP hD hS => ?_)
                            have hP : va_P D vwCl (mw cI r i0 (nI tr) i7 i8 i9 i13 i15 i17 i18 (nI Ms.length) (livL tr a4 Ms (nI 0)) (nI (((limL Ms k).length) + 1)) a1 a2 a4 a5 a6 a10 a11 a12 a14 a16 a20 a21 (upd h24 0 (nI k)) a25 a26) H := hP
                            have hD : va_D A (mw cI r i0 (nI tr) i7 i8 i9 i13 i15 i17 i18 (nI Ms.length) (livL tr a4 Ms (nI 0)) (nI (((limL Ms k).length) + 1)) a1 a2 a4 a5 a6 a10 a11 a12 a14 a16 a20 a21 (upd h24 0 (nI k)) a25 a26) := hD
                            refine lv_iinc (v := (nI (k + 1))) (lv' := [(1, .int (nI (k + 1))), (0, .ref (r 0)), (3, .int (nI 0))]) hx hb dX6_tellTree_243 hl (k := 1) rfl (by exact nI_1 _) (by decide) rfl (fun ls hl => ?_)
                            refine lv_goto (tgt := 75) hx hb dX6_tellTree_246 (by decide) ?_
                            have hpe : 0 = posI (fun j => befM (Ms.getD k zR) (Ms.getD j zR)) (limL Ms k) (limL Ms k).length := hpz
                            have hls : limL Ms (k + 1) = insM (fun j => befM (Ms.getD k zR) (Ms.getD j zR)) k (limL Ms k) := by rw [limL_s, limS, if_pos (hlim.symm.trans c178)]
                            have hP : va_P D vwCl (mw cI r i0 (nI tr) i7 i8 i9 i13 i15 i17 i18 (nI Ms.length) (livL tr a4 Ms (nI 0)) (nI ((limL Ms (k + 1)).length)) a1 a2 a4 a5 a6 a10 a11 a12 a14 a16 a20 a21 (upd h24 0 (nI k)) a25 a26) H := by rw [hls, insM_len]; exact hP
                            have hD : va_D A (mw cI r i0 (nI tr) i7 i8 i9 i13 i15 i17 i18 (nI Ms.length) (livL tr a4 Ms (nI 0)) (nI ((limL Ms (k + 1)).length)) a1 a2 a4 a5 a6 a10 a11 a12 a14 a16 a20 a21 (upd h24 0 (nI k)) a25 a26) := by rw [hls, insM_len]; exact hD
                            exact ih75 (k + 1) (upd h24 0 (nI k)) (by omega) (by omega) (by rw [hls]; rw [hpe] at hi; rw [hpe]; exact insV_end hi) _ _ _ hP hD hS (lv_sub hl [1, 0] rfl)
                          · skip
                            obtain ⟨a9, rfl⟩ : ∃ a9, at9 = a9 + 1 := ⟨at9 - 1, by omega⟩
                            obtain ⟨v, hv9⟩ : ∃ v, (limL Ms k)[a9]? = some v := ⟨_, List.getElem?_eq_getElem (by omega)⟩
                            have hvk := limL_in Ms k v (List.mem_of_getElem? hv9)
                            obtain ⟨y, hy9, hs9⟩ := rowsV_at0 hX (show v < Ms.length by omega)
                            refine lv_aload_n hx hb dX6_tellTree_190 rfl (lv_at hl 0 rfl) ?_
                            refine lv_iload_n hx hb dX6_tellTree_191 rfl (lv_at hl 1 rfl) ?_
                            refine lv_aload_n hx hb dX6_tellTree_192 rfl (lv_at hl 0 rfl) ?_
                            refine va_get (D := D) (ci := 5) (v := .ref (r 24)) (C := RX6) (T := TX6) (N := 27) hx hb hts hin6 hown hK hP 0 rfl rfl 24 (by decide) fl51 (fun _ h9 => h9) rfl dX6_tellTree_193 ?_
                            refine lv_iload_n hx hb dX6_tellTree_196 rfl (lv_at hl 2 rfl) ?_
                            refine lv_iconst (v := nI 1) hx hb dX6_tellTree_197 (by decide) ?_
                            refine wk_isub hx hb (by omega) dX6_tellTree_198 ?_
                            refine wk_iald hx hb hK hP 13 0 rfl rfl (i := (a9 + 1) - 1) (by omega) (by omega) dX6_tellTree_199 ?_
                            rw [show (h24 ((a9 + 1) - 1)) = (nI v) from (hi.1 a9 v (by omega) hv9)]
                            refine wk_Vi (As := [.int (nI k), .int (nI v)]) (rest := []) ⟨hx, hb, hml, hown, hts⟩ (c_X6_isBefore l D cI cJ cZ cA r i0 (nI tr) i7 i8 i9 i13 i15 i17 i18 (nI Ms.length) (livL tr a4 Ms (nI 0)) (nI ((limL Ms k).length)) a1 a2 a4 a5 a6 a10 a11 a12 a14 a16 a20 a21 h24 a25 a26 k v (Ms.getD k zR) (Ms.getD v zR) (by omega) (by omega) (by rw [getD_of hx9]; exact hr9) (by rw [getD_of hy9]; exact hs9)) (cwV 2 hts gX6_tellTree_X6_isBefore rfl rfl rfl (by decide +kernel) ⟨Nat.le_of_ble_eq_true rfl, Nat.le_of_ble_eq_true rfl⟩) hK hP [0, 1, 2, 3, 4, 5, 6, 7, 8, 9, 10, 11, 12, 13, 14, 15] rfl 0 5 rfl rfl hS rfl hl.1 rfl (Nat.le_of_ble_eq_true rfl) dX6_tellTree_200 ⟨Nat.zero_le _, Nat.zero_le _⟩ (fun H locs hP hS => ?_)
                            refine wk_if_eqb (tgt := 226) hx hb dX6_tellTree_203 (by decide) (fun c203 => ?_) (fun c203 => ?_)
                            · skip
                              have hpz : a9 + 1 = posI (fun j => befM (Ms.getD k zR) (Ms.getD j zR)) (limL Ms k) (limL Ms k).length := by rw [← hp, posI_n (bf := (fun j => befM (Ms.getD k zR) (Ms.getD j zR))) (C := limL Ms k) (a := a9) (by rw [getD_of hv9]; exact c203)]
                              refine lv_aload_n hx hb dX6_tellTree_226 rfl (lv_at hl 0 rfl) ?_
                              refine va_get (D := D) (ci := 5) (v := .ref (r 24)) (C := RX6) (T := TX6) (N := 27) hx hb hts hin6 hown hK hP 0 rfl rfl 24 (by decide) fl51 (fun _ h9 => h9) rfl dX6_tellTree_227 ?_
                              refine lv_iload_n hx hb dX6_tellTree_230 rfl (lv_at hl 2 rfl) ?_
                              refine lv_iload_n hx hb dX6_tellTree_231 rfl (lv_at hl 1 rfl) ?_
                              refine wk_iast hx hb hK hP hD hS 13 0 rfl rfl (i := (a9 + 1)) (by omega) (by omega) dX6_tellTree_232 (fun H locs hP hD hS => ?_)
                              have hP : va_P D vwCl (mw cI r i0 (nI tr) i7 i8 i9 i13 i15 i17 i18 (nI Ms.length) (livL tr a4 Ms (nI 0)) (nI ((limL Ms k).length)) a1 a2 a4 a5 a6 a10 a11 a12 a14 a16 a20 a21 (upd h24 (a9 + 1) (nI k)) a25 a26) H := hP
                              have hD : va_D A (mw cI r i0 (nI tr) i7 i8 i9 i13 i15 i17 i18 (nI Ms.length) (livL tr a4 Ms (nI 0)) (nI ((limL Ms k).length)) a1 a2 a4 a5 a6 a10 a11 a12 a14 a16 a20 a21 (upd h24 (a9 + 1) (nI k)) a25 a26) := hD
                              refine lv_aload_n hx hb dX6_tellTree_233 rfl (lv_at hl 0 rfl) ?_
                              refine lv_dup hx hb dX6_tellTree_234 rfl ?_
                              refine va_get (D := D) (ci := 5) (v := .int (nI ((limL Ms k).length))) (C := RX6) (T := TX6) (N := 27) hx hb hts hin6 hown hK hP 0 rfl rfl 23 (by decide) fl147 (fun _ h9 => h9) rfl dX6_tellTree_235 ?_
                              refine lv_iconst (v := nI 1) hx hb dX6_tellTree_238 (by decide) ?_
                              refine wk_iadd hx hb dX6_tellTree_239 ?_
                              refine va_put (D := D) (ci := 5) (v := .int (nI (((limL Ms k).length) + 1))) (ty := .int) (C := RX6) (T := TX6) (N := 27) hx hb hts hin6 tyX6 tyX6_ok nmX6 hown hK hP hD hS 0 rfl rfl 23 (by decide) fl147 (fun _ h9 => h9) rfl (by decide +kernel) rfl rfl (Nat.le_of_ble_eq_true rfl) dX6_tellTree_240 (fun H locs hP hD hS => ?_)
                              have hP : va_P D vwCl (mw cI r i0 (nI tr) i7 i8 i9 i13 i15 i17 i18 (nI Ms.length) (livL tr a4 Ms (nI 0)) (nI (((limL Ms k).length) + 1)) a1 a2 a4 a5 a6 a10 a11 a12 a14 a16 a20 a21 (upd h24 (a9 + 1) (nI k)) a25 a26) H := hP
                              have hD : va_D A (mw cI r i0 (nI tr) i7 i8 i9 i13 i15 i17 i18 (nI Ms.length) (livL tr a4 Ms (nI 0)) (nI (((limL Ms k).length) + 1)) a1 a2 a4 a5 a6 a10 a11 a12 a14 a16 a20 a21 (upd h24 (a9 + 1) (nI k)) a25 a26) := hD
                              refine lv_iinc (v := (nI (k + 1))) (lv' := [(1, .int (nI (k + 1))), (0, .ref (r 0)), (3, .int (nI (a9 + 1)))]) hx hb dX6_tellTree_243 hl (k := 1) rfl (by exact nI_1 _) (by decide) rfl (fun ls hl => ?_)
                              refine lv_goto (tgt := 75) hx hb dX6_tellTree_246 (by decide) ?_
                              have hpe : (a9 + 1) = posI (fun j => befM (Ms.getD k zR) (Ms.getD j zR)) (limL Ms k) (limL Ms k).length := hpz
                              have hls : limL Ms (k + 1) = insM (fun j => befM (Ms.getD k zR) (Ms.getD j zR)) k (limL Ms k) := by rw [limL_s, limS, if_pos (hlim.symm.trans c178)]
                              have hP : va_P D vwCl (mw cI r i0 (nI tr) i7 i8 i9 i13 i15 i17 i18 (nI Ms.length) (livL tr a4 Ms (nI 0)) (nI ((limL Ms (k + 1)).length)) a1 a2 a4 a5 a6 a10 a11 a12 a14 a16 a20 a21 (upd h24 (a9 + 1) (nI k)) a25 a26) H := by rw [hls, insM_len]; exact hP
                              have hD : va_D A (mw cI r i0 (nI tr) i7 i8 i9 i13 i15 i17 i18 (nI Ms.length) (livL tr a4 Ms (nI 0)) (nI ((limL Ms (k + 1)).length)) a1 a2 a4 a5 a6 a10 a11 a12 a14 a16 a20 a21 (upd h24 (a9 + 1) (nI k)) a25 a26) := by rw [hls, insM_len]; exact hD
                              exact ih75 (k + 1) (upd h24 (a9 + 1) (nI k)) (by omega) (by omega) (by rw [hls]; rw [hpe] at hi; rw [hpe]; exact insV_end hi) _ _ _ hP hD hS (lv_sub hl [1, 0] rfl)
                            · skip
                              refine lv_aload_n hx hb dX6_tellTree_206 rfl (lv_at hl 0 rfl) ?_
                              refine va_get (D := D) (ci := 5) (v := .ref (r 24)) (C := RX6) (T := TX6) (N := 27) hx hb hts hin6 hown hK hP 0 rfl rfl 24 (by decide) fl51 (fun _ h9 => h9) rfl dX6_tellTree_207 ?_
                              refine lv_iload_n hx hb dX6_tellTree_210 rfl (lv_at hl 2 rfl) ?_
                              refine lv_aload_n hx hb dX6_tellTree_211 rfl (lv_at hl 0 rfl) ?_
                              refine va_get (D := D) (ci := 5) (v := .ref (r 24)) (C := RX6) (T := TX6) (N := 27) hx hb hts hin6 hown hK hP 0 rfl rfl 24 (by decide) fl51 (fun _ h9 => h9) rfl dX6_tellTree_212 ?_
                              refine lv_iload_n hx hb dX6_tellTree_215 rfl (lv_at hl 2 rfl) ?_
                              refine lv_iconst (v := nI 1) hx hb dX6_tellTree_216 (by decide) ?_
                              refine wk_isub hx hb (by omega) dX6_tellTree_217 ?_
                              refine wk_iald hx hb hK hP 13 0 rfl rfl (i := (a9 + 1) - 1) (by omega) (by omega) dX6_tellTree_218 ?_
                              rw [show (h24 ((a9 + 1) - 1)) = (nI v) from (hi.1 a9 v (by omega) hv9)]
                              refine wk_iast hx hb hK hP hD hS 13 0 rfl rfl (i := (a9 + 1)) (by omega) (by omega) dX6_tellTree_219 (fun H locs hP hD hS => ?_)
                              have hP : va_P D vwCl (mw cI r i0 (nI tr) i7 i8 i9 i13 i15 i17 i18 (nI Ms.length) (livL tr a4 Ms (nI 0)) (nI ((limL Ms k).length)) a1 a2 a4 a5 a6 a10 a11 a12 a14 a16 a20 a21 (upd h24 (a9 + 1) (nI v)) a25 a26) H := hP
                              have hD : va_D A (mw cI r i0 (nI tr) i7 i8 i9 i13 i15 i17 i18 (nI Ms.length) (livL tr a4 Ms (nI 0)) (nI ((limL Ms k).length)) a1 a2 a4 a5 a6 a10 a11 a12 a14 a16 a20 a21 (upd h24 (a9 + 1) (nI v)) a25 a26) := hD
                              refine lv_iinc (v := (nI ((a9 + 1) - 1))) (lv' := [(3, .int (nI ((a9 + 1) - 1))), (0, .ref (r 0)), (1, .int (nI k))]) hx hb dX6_tellTree_220 hl (k := 2) rfl (by exact wk_dec (by omega)) (by decide) rfl (fun ls hl => ?_)
                              refine lv_goto (tgt := 186) hx hb dX6_tellTree_223 (by decide) ?_
                              exact ih186 a9 (upd h24 (a9 + 1) (nI v)) (by omega) (by omega) (insV_s hi hv9) (by rw [← hp, posI_y (bf := (fun j => befM (Ms.getD k zR) (Ms.getD j zR))) (C := limL Ms k) (a := a9) (by rw [getD_of hv9]; exact c203)]) _ _ _ hP hD hS (lv_sub hl [1, 2, 0] rfl)
                      exact lp186 _ ((limL Ms k).length) g24 (Nat.lt_succ_self _) (Nat.le_refl _) (insV_0 hC) rfl _ _ _ hP hD hS (lv_sub hl [1, 2, 0] rfl)
                  · skip
                    refine lv_aload_n hx hb dX6_tellTree_95 rfl (lv_at hl 0 rfl) ?_
                    refine va_get (D := D) (ci := 5) (v := .ref (r 20)) (C := RX6) (T := TX6) (N := 27) hx hb hts hin6 hown hK hP 0 rfl rfl 20 (by decide) fl45 (fun _ h9 => h9) rfl dX6_tellTree_96 ?_
                    refine lv_iconst (v := nI 5) hx hb dX6_tellTree_99 (by decide) ?_
                    refine lv_iload_n hx hb dX6_tellTree_100 rfl (lv_at hl 3 rfl) ?_
                    refine wk_imul hx hb dX6_tellTree_101 ?_
                    refine lv_aload_n hx hb dX6_tellTree_102 rfl (lv_at hl 0 rfl) ?_
                    refine va_get (D := D) (ci := 5) (v := .ref (r 20)) (C := RX6) (T := TX6) (N := 27) hx hb hts hin6 hown hK hP 0 rfl rfl 20 (by decide) fl45 (fun _ h9 => h9) rfl dX6_tellTree_103 ?_
                    refine lv_iconst (v := nI 5) hx hb dX6_tellTree_106 (by decide) ?_
                    refine lv_iload_n hx hb dX6_tellTree_107 rfl (lv_at hl 1 rfl) ?_
                    refine wk_imul hx hb dX6_tellTree_108 ?_
                    refine wk_Si (As := [.ref (r 20), .int (nI (5 * o)), .ref (r 20), .int (nI (5 * k))]) (rest := []) ⟨hx, hb, hml, hown, hts⟩ (c_X6_tops l D cI cJ cZ cA (r 20) (r 20) 5005 5005 (5 * o) (5 * k) a20 a20 (by omega) (by omega) (by omega) (by omega)) (va_cwS 4 hts gX6_tellTree_X6_tops rfl rfl rfl (by decide +kernel) ⟨Nat.le_of_ble_eq_true rfl, Nat.le_of_ble_eq_true rfl⟩) hK hP [11, 11] rfl hS rfl hl.1 rfl (Nat.le_of_ble_eq_true rfl) dX6_tellTree_109 ⟨Nat.zero_le _, Nat.zero_le _⟩ (fun H locs hP hS => ?_)
                    refine lv_istore (lv' := [(4, .int (bI (tpB a20 (5 * o) a20 (5 * k)))), (0, .ref (r 0)), (1, .int (nI k)), (2, .int (bI t)), (3, .int (nI o))]) hx hb dX6_tellTree_112 hl (by decide) rfl (fun ls hl => ?_)
                    refine lv_iload hx hb dX6_tellTree_114 (lv_at hl 0 rfl) ?_
                    refine wk_if_eqb (tgt := 143) hx hb dX6_tellTree_116 (by decide) (fun c116 => ?_) (fun c116 => ?_)
                    · skip
                      refine lv_iconst (v := nI 0) hx hb dX6_tellTree_143 (by decide) ?_
                      refine lv_istore (lv' := [(5, .int (nI 0)), (4, .int (bI (tpB a20 (5 * o) a20 (5 * k)))), (0, .ref (r 0)), (1, .int (nI k)), (2, .int (bI t)), (3, .int (nI o))]) hx hb dX6_tellTree_144 hl (by decide) rfl (fun ls hl => ?_)
                      refine lv_iload_n hx hb dX6_tellTree_146 rfl (lv_at hl 4 rfl) ?_
                      refine wk_if_eqb (tgt := 169) hx hb dX6_tellTree_147 (by decide) (fun c147 => ?_) (fun c147 => ?_)
                      · skip
                        refine lv_iconst (v := nI 0) hx hb dX6_tellTree_169 (by decide) ?_
                        refine lv_istore_n (lv' := [(2, .int (nI 0)), (5, .int (nI 0)), (4, .int (bI (tpB a20 (5 * o) a20 (5 * k)))), (0, .ref (r 0)), (1, .int (nI k)), (3, .int (nI o))]) hx hb dX6_tellTree_170 rfl hl (by decide) rfl (fun ls hl => ?_)
                        refine lv_iinc (v := (nI (o + 1))) (lv' := [(3, .int (nI (o + 1))), (2, .int (nI 0)), (5, .int (nI 0)), (4, .int (bI (tpB a20 (5 * o) a20 (5 * k)))), (0, .ref (r 0)), (1, .int (nI k))]) hx hb dX6_tellTree_171 hl (k := 5) rfl (by exact nI_1 _) (by decide) rfl (fun ls hl => ?_)
                        refine lv_goto (tgt := 87) hx hb dX6_tellTree_174 (by decide) ?_
                        exact ih87 (o + 1) false (by omega) (by omega) (al_f1 ht c147) _ _ _ hP hD hS (lv_sub hl [4, 5, 1, 0] rfl)
                      · skip
                        refine lv_iload hx hb dX6_tellTree_150 (lv_at hl 1 rfl) ?_
                        refine wk_if_eqb (tgt := 165) hx hb dX6_tellTree_152 (by decide) (fun c152 => ?_) (fun c152 => absurd (c152.symm.trans c116) (by decide))
                        refine lv_iconst (v := nI 1) hx hb dX6_tellTree_165 (by decide) ?_
                        refine lv_goto (tgt := 170) hx hb dX6_tellTree_166 (by decide) ?_
                        refine lv_istore_n (lv' := [(2, .int (nI 1)), (5, .int (nI 0)), (4, .int (bI (tpB a20 (5 * o) a20 (5 * k)))), (0, .ref (r 0)), (1, .int (nI k)), (3, .int (nI o))]) hx hb dX6_tellTree_170 rfl hl (by decide) rfl (fun ls hl => ?_)
                        refine lv_iinc (v := (nI (o + 1))) (lv' := [(3, .int (nI (o + 1))), (2, .int (nI 1)), (5, .int (nI 0)), (4, .int (bI (tpB a20 (5 * o) a20 (5 * k)))), (0, .ref (r 0)), (1, .int (nI k))]) hx hb dX6_tellTree_171 hl (k := 5) rfl (by exact nI_1 _) (by decide) rfl (fun ls hl => ?_)
                        refine lv_goto (tgt := 87) hx hb dX6_tellTree_174 (by decide) ?_
                        exact ih87 (o + 1) true (by omega) (by omega) (al_t ht c147 (fun h => by rw [c116] at h; cases h)) _ _ _ hP hD hS (lv_sub hl [4, 5, 1, 0] rfl)
                    · skip
                      refine lv_aload_n hx hb dX6_tellTree_119 rfl (lv_at hl 1 rfl) ?_
                      refine va_get (D := D) (ci := 5) (v := .ref (r 20)) (C := RX6) (T := TX6) (N := 27) hx hb hts hin6 hown hK hP 0 rfl rfl 20 (by decide) fl45 (fun _ h9 => h9) rfl dX6_tellTree_120 ?_
                      refine lv_iconst (v := nI 5) hx hb dX6_tellTree_123 (by decide) ?_
                      refine lv_iload_n hx hb dX6_tellTree_124 rfl (lv_at hl 2 rfl) ?_
                      refine wk_imul hx hb dX6_tellTree_125 ?_
                      refine lv_aload_n hx hb dX6_tellTree_126 rfl (lv_at hl 1 rfl) ?_
                      refine va_get (D := D) (ci := 5) (v := .ref (r 20)) (C := RX6) (T := TX6) (N := 27) hx hb hts hin6 hown hK hP 0 rfl rfl 20 (by decide) fl45 (fun _ h9 => h9) rfl dX6_tellTree_127 ?_
                      refine lv_iconst (v := nI 5) hx hb dX6_tellTree_130 (by decide) ?_
                      refine lv_iload_n hx hb dX6_tellTree_131 rfl (lv_at hl 4 rfl) ?_
                      refine wk_imul hx hb dX6_tellTree_132 ?_
                      refine wk_Si (As := [.ref (r 20), .int (nI (5 * k)), .ref (r 20), .int (nI (5 * o))]) (rest := []) ⟨hx, hb, hml, hown, hts⟩ (c_X6_tops l D cI cJ cZ cA (r 20) (r 20) 5005 5005 (5 * k) (5 * o) a20 a20 (by omega) (by omega) (by omega) (by omega)) (va_cwS 4 hts gX6_tellTree_X6_tops rfl rfl rfl (by decide +kernel) ⟨Nat.le_of_ble_eq_true rfl, Nat.le_of_ble_eq_true rfl⟩) hK hP [11, 11] rfl hS rfl hl.1 rfl (Nat.le_of_ble_eq_true rfl) dX6_tellTree_133 ⟨Nat.zero_le _, Nat.zero_le _⟩ (fun H locs hP hS => ?_)
                      refine wk_if_eqb (tgt := 143) hx hb dX6_tellTree_136 (by decide) (fun c136 => ?_) (fun c136 => ?_)
                      · skip
                        refine lv_iconst (v := nI 0) hx hb dX6_tellTree_143 (by decide) ?_
                        refine lv_istore (lv' := [(5, .int (nI 0)), (4, .int (bI (tpB a20 (5 * o) a20 (5 * k)))), (0, .ref (r 0)), (1, .int (nI k)), (2, .int (bI t)), (3, .int (nI o))]) hx hb dX6_tellTree_144 hl (by decide) rfl (fun ls hl => ?_)
                        refine lv_iload_n hx hb dX6_tellTree_146 rfl (lv_at hl 4 rfl) ?_
                        refine wk_if_eqb (tgt := 169) hx hb dX6_tellTree_147 (by decide) (fun c147 => ?_) (fun c147 => ?_)
                        · skip
                          refine lv_iconst (v := nI 0) hx hb dX6_tellTree_169 (by decide) ?_
                          refine lv_istore_n (lv' := [(2, .int (nI 0)), (5, .int (nI 0)), (4, .int (bI (tpB a20 (5 * o) a20 (5 * k)))), (0, .ref (r 0)), (1, .int (nI k)), (3, .int (nI o))]) hx hb dX6_tellTree_170 rfl hl (by decide) rfl (fun ls hl => ?_)
                          refine lv_iinc (v := (nI (o + 1))) (lv' := [(3, .int (nI (o + 1))), (2, .int (nI 0)), (5, .int (nI 0)), (4, .int (bI (tpB a20 (5 * o) a20 (5 * k)))), (0, .ref (r 0)), (1, .int (nI k))]) hx hb dX6_tellTree_171 hl (k := 5) rfl (by exact nI_1 _) (by decide) rfl (fun ls hl => ?_)
                          refine lv_goto (tgt := 87) hx hb dX6_tellTree_174 (by decide) ?_
                          exact ih87 (o + 1) false (by omega) (by omega) (al_f1 ht c147) _ _ _ hP hD hS (lv_sub hl [4, 5, 1, 0] rfl)
                        · skip
                          refine lv_iload hx hb dX6_tellTree_150 (lv_at hl 1 rfl) ?_
                          refine wk_if_eqb (tgt := 165) hx hb dX6_tellTree_152 (by decide) (fun c152 => absurd (c152.symm.trans c116) (by decide)) (fun c152 => ?_)
                          refine lv_iload hx hb dX6_tellTree_155 (lv_at hl 0 rfl) ?_
                          refine lv_if_eq (tgt := 169) hx hb dX6_tellTree_157 (by decide) (fun c157 => ?_) (fun c157 => absurd c157 (by decide))
                          refine lv_iconst (v := nI 0) hx hb dX6_tellTree_169 (by decide) ?_
                          refine lv_istore_n (lv' := [(2, .int (nI 0)), (5, .int (nI 0)), (4, .int (bI (tpB a20 (5 * o) a20 (5 * k)))), (0, .ref (r 0)), (1, .int (nI k)), (3, .int (nI o))]) hx hb dX6_tellTree_170 rfl hl (by decide) rfl (fun ls hl => ?_)
                          refine lv_iinc (v := (nI (o + 1))) (lv' := [(3, .int (nI (o + 1))), (2, .int (nI 0)), (5, .int (nI 0)), (4, .int (bI (tpB a20 (5 * o) a20 (5 * k)))), (0, .ref (r 0)), (1, .int (nI k))]) hx hb dX6_tellTree_171 hl (k := 5) rfl (by exact nI_1 _) (by decide) rfl (fun ls hl => ?_)
                          refine lv_goto (tgt := 87) hx hb dX6_tellTree_174 (by decide) ?_
                          exact ih87 (o + 1) false (by omega) (by omega) (al_f2 (fun h => by have h2 := (h c116).1; rw [c136] at h2; cases h2)) _ _ _ hP hD hS (lv_sub hl [4, 5, 1, 0] rfl)
                      · skip
                        refine lv_iconst (v := nI 1) hx hb dX6_tellTree_139 (by decide) ?_
                        refine lv_goto (tgt := 144) hx hb dX6_tellTree_140 (by decide) ?_
                        refine lv_istore (lv' := [(5, .int (nI 1)), (4, .int (bI (tpB a20 (5 * o) a20 (5 * k)))), (0, .ref (r 0)), (1, .int (nI k)), (2, .int (bI t)), (3, .int (nI o))]) hx hb dX6_tellTree_144 hl (by decide) rfl (fun ls hl => ?_)
                        refine lv_iload_n hx hb dX6_tellTree_146 rfl (lv_at hl 4 rfl) ?_
                        refine wk_if_eqb (tgt := 169) hx hb dX6_tellTree_147 (by decide) (fun c147 => ?_) (fun c147 => ?_)
                        · skip
                          refine lv_iconst (v := nI 0) hx hb dX6_tellTree_169 (by decide) ?_
                          refine lv_istore_n (lv' := [(2, .int (nI 0)), (5, .int (nI 1)), (4, .int (bI (tpB a20 (5 * o) a20 (5 * k)))), (0, .ref (r 0)), (1, .int (nI k)), (3, .int (nI o))]) hx hb dX6_tellTree_170 rfl hl (by decide) rfl (fun ls hl => ?_)
                          refine lv_iinc (v := (nI (o + 1))) (lv' := [(3, .int (nI (o + 1))), (2, .int (nI 0)), (5, .int (nI 1)), (4, .int (bI (tpB a20 (5 * o) a20 (5 * k)))), (0, .ref (r 0)), (1, .int (nI k))]) hx hb dX6_tellTree_171 hl (k := 5) rfl (by exact nI_1 _) (by decide) rfl (fun ls hl => ?_)
                          refine lv_goto (tgt := 87) hx hb dX6_tellTree_174 (by decide) ?_
                          exact ih87 (o + 1) false (by omega) (by omega) (al_f1 ht c147) _ _ _ hP hD hS (lv_sub hl [4, 5, 1, 0] rfl)
                        · skip
                          refine lv_iload hx hb dX6_tellTree_150 (lv_at hl 1 rfl) ?_
                          refine wk_if_eqb (tgt := 165) hx hb dX6_tellTree_152 (by decide) (fun c152 => absurd (c152.symm.trans c116) (by decide)) (fun c152 => ?_)
                          refine lv_iload hx hb dX6_tellTree_155 (lv_at hl 0 rfl) ?_
                          refine lv_if_eq (tgt := 169) hx hb dX6_tellTree_157 (by decide) (fun c157 => absurd c157 (by decide)) (fun c157 => ?_)
                          refine lv_iload_n hx hb dX6_tellTree_160 rfl (lv_at hl 5 rfl) ?_
                          refine lv_iload_n hx hb dX6_tellTree_161 rfl (lv_at hl 3 rfl) ?_
                          refine wk_icmp_lt (tgt := 169) hx hb (by omega) (by omega) dX6_tellTree_162 (by decide) (fun c162 => ?_) (fun c162 => ?_)
                          · skip
                            refine lv_iconst (v := nI 0) hx hb dX6_tellTree_169 (by decide) ?_
                            refine lv_istore_n (lv' := [(2, .int (nI 0)), (5, .int (nI 1)), (4, .int (bI (tpB a20 (5 * o) a20 (5 * k)))), (0, .ref (r 0)), (1, .int (nI k)), (3, .int (nI o))]) hx hb dX6_tellTree_170 rfl hl (by decide) rfl (fun ls hl => ?_)
                            refine lv_iinc (v := (nI (o + 1))) (lv' := [(3, .int (nI (o + 1))), (2, .int (nI 0)), (5, .int (nI 1)), (4, .int (bI (tpB a20 (5 * o) a20 (5 * k)))), (0, .ref (r 0)), (1, .int (nI k))]) hx hb dX6_tellTree_171 hl (k := 5) rfl (by exact nI_1 _) (by decide) rfl (fun ls hl => ?_)
                            refine lv_goto (tgt := 87) hx hb dX6_tellTree_174 (by decide) ?_
                            exact ih87 (o + 1) false (by omega) (by omega) (al_f2 (fun h => by have h2 := (h c116).2; omega)) _ _ _ hP hD hS (lv_sub hl [4, 5, 1, 0] rfl)
                          · skip
                            refine lv_iconst (v := nI 1) hx hb dX6_tellTree_165 (by decide) ?_
                            refine lv_goto (tgt := 170) hx hb dX6_tellTree_166 (by decide) ?_
                            refine lv_istore_n (lv' := [(2, .int (nI 1)), (5, .int (nI 1)), (4, .int (bI (tpB a20 (5 * o) a20 (5 * k)))), (0, .ref (r 0)), (1, .int (nI k)), (3, .int (nI o))]) hx hb dX6_tellTree_170 rfl hl (by decide) rfl (fun ls hl => ?_)
                            refine lv_iinc (v := (nI (o + 1))) (lv' := [(3, .int (nI (o + 1))), (2, .int (nI 1)), (5, .int (nI 1)), (4, .int (bI (tpB a20 (5 * o) a20 (5 * k)))), (0, .ref (r 0)), (1, .int (nI k))]) hx hb dX6_tellTree_171 hl (k := 5) rfl (by exact nI_1 _) (by decide) rfl (fun ls hl => ?_)
                            refine lv_goto (tgt := 87) hx hb dX6_tellTree_174 (by decide) ?_
                            exact ih87 (o + 1) true (by omega) (by omega) (al_t ht c147 (fun _ => ⟨c136, c162⟩)) _ _ _ hP hD hS (lv_sub hl [4, 5, 1, 0] rfl)
              exact lp87 _ 0 true (Nat.lt_succ_self _) (by omega) al_0 _ _ _ hP hD hS (lv_sub hl [2, 3, 1, 0] rfl)
        have hkM : k = Ms.length := by omega
        rw [hkM, List.take_length] at hv
        subst hv
        have hP : va_P D vwCl (mw cI r i0 (nI tr) i7 i8 i9 i13 i15 i17 i18 (nI Ms.length) (livL tr a4 Ms (nI 0)) (nI ((limL Ms 0).length)) a1 a2 a4 a5 a6 a10 a11 a12 a14 a16 a20 a21 a24 a25 a26) H := by skip; exact hP
        have hD : va_D A (mw cI r i0 (nI tr) i7 i8 i9 i13 i15 i17 i18 (nI Ms.length) (livL tr a4 Ms (nI 0)) (nI ((limL Ms 0).length)) a1 a2 a4 a5 a6 a10 a11 a12 a14 a16 a20 a21 a24 a25 a26) := by skip; exact hD
        exact lp75 _ 0 a24 (Nat.lt_succ_self _) (by omega) (fun j v h => by cases h) _ _ _ hP hD hS (lv_sub hl [1, 0] rfl)
      · skip
        obtain ⟨x, hx9, hr9⟩ := rowsV_at0 hX (show k < Ms.length by omega)
        refine lv_iconst (v := nI 0) hx hb dX6_tellTree_15 (by decide) ?_
        refine lv_istore_n (lv' := [(2, .int (nI 0)), (0, .ref (r 0)), (1, .int (nI k))]) hx hb dX6_tellTree_16 rfl hl (by decide) rfl (fun ls hl => ?_)
        have lp17 : ∀ (n9 : Nat) (t : Nat) (z22 : Int32), tr - t < n9 → t ≤ tr → z22 = livI a4 x t v22 → ∀ (H : Heap) (locs : List Loc) (ls : Array Slot), va_P D vwCl (mw cI r i0 (nI tr) i7 i8 i9 i13 i15 i17 i18 (nI Ms.length) z22 i23 a1 a2 a4 a5 a6 a10 a11 a12 a14 a16 a20 a21 a24 a25 a26) H → va_D A (mw cI r i0 (nI tr) i7 i8 i9 i13 i15 i17 i18 (nI Ms.length) z22 i23 a1 a2 a4 a5 a6 a10 a11 a12 a14 a16 a20 a21 a24 a25 a26) → va_S A s.heap H locs → lv_has ls 6 [(0, .ref (r 0)), (1, .int (nI k)), (2, .int (nI t))] → W p l e ({ frames := 2, cells := 0, slots := 0, locals := 48 } : Room) s m args below meth c H locs 0 0 Q (F0 m 17 ls []) := by
          intro n9
          induction n9 with
          | zero => intro t z22 hm17; exact absurd hm17 (Nat.not_lt_zero _)
          | succ n9 ih17 =>
            intro t z22 hm17 ht hz H locs ls hP hD hS hl
            refine lv_iload_n hx hb dX6_tellTree_17 rfl (lv_at hl 2 rfl) ?_
            refine lv_aload_n hx hb dX6_tellTree_18 rfl (lv_at hl 0 rfl) ?_
            refine va_get (D := D) (ci := 5) (v := .int (nI tr)) (C := RX6) (T := TX6) (N := 27) hx hb hts hin6 hown hK hP 0 rfl rfl 3 (by decide) fl63 (fun _ h9 => h9) rfl dX6_tellTree_19 ?_
            refine wk_icmp_ge (tgt := 62) hx hb (by omega) (by omega) dX6_tellTree_22 (by decide) (fun c22 => ?_) (fun c22 => ?_)
            · skip
              refine lv_iinc (v := (nI (k + 1))) (lv' := [(1, .int (nI (k + 1))), (0, .ref (r 0)), (2, .int (nI t))]) hx hb dX6_tellTree_62 hl (k := 1) rfl (by exact nI_1 _) (by decide) rfl (fun ls hl => ?_)
              refine lv_goto (tgt := 7) hx hb dX6_tellTree_65 (by decide) ?_
              have htt : t = tr := by omega
              rw [htt] at hz
              exact ih7 (k + 1) z22 (by omega) (by omega) (by rw [livL_s hx9, ← hv]; exact hz) _ _ _ hP hD hS (lv_sub hl [1, 0] rfl)
            · skip
              refine lv_aload_n hx hb dX6_tellTree_25 rfl (lv_at hl 0 rfl) ?_
              refine lv_dup hx hb dX6_tellTree_26 rfl ?_
              refine va_get (D := D) (ci := 5) (v := .int z22) (C := RX6) (T := TX6) (N := 27) hx hb hts hin6 hown hK hP 0 rfl rfl 22 (by decide) fl144 (fun _ h9 => h9) rfl dX6_tellTree_27 ?_
              refine lv_aload_n hx hb dX6_tellTree_30 rfl (lv_at hl 0 rfl) ?_
              refine lv_aload_n hx hb dX6_tellTree_31 rfl (lv_at hl 0 rfl) ?_
              refine va_get (D := D) (ci := 5) (v := .ref (r 20)) (C := RX6) (T := TX6) (N := 27) hx hb hts hin6 hown hK hP 0 rfl rfl 20 (by decide) fl45 (fun _ h9 => h9) rfl dX6_tellTree_32 ?_
              refine lv_iconst (v := nI 5) hx hb dX6_tellTree_35 (by decide) ?_
              refine lv_iload_n hx hb dX6_tellTree_36 rfl (lv_at hl 1 rfl) ?_
              refine wk_imul hx hb dX6_tellTree_37 ?_
              refine lv_iload_n hx hb dX6_tellTree_38 rfl (lv_at hl 2 rfl) ?_
              refine wk_Vi (As := [.ref (r 20), .int (nI (5 * k)), .int (nI t)]) (rest := [.int z22, .ref (r 0)]) ⟨hx, hb, hml, hown, hts⟩ (c_X6_canFire l D cI cJ cZ cA r i0 i7 i8 i9 i13 i15 i17 i18 (nI Ms.length) z22 i23 a1 a2 a4 a5 a6 a10 a11 a12 a14 a16 a20 a21 a24 a25 a26 tr (r 20) 5005 (5 * k) a20 (nI t) (by omega) (by omega) (by omega)) (cwV 3 hts gX6_tellTree_X6_canFire rfl rfl rfl (by decide +kernel) ⟨Nat.le_of_ble_eq_true rfl, Nat.le_of_ble_eq_true rfl⟩) hK hP [0, 1, 2, 3, 4, 5, 6, 7, 8, 9, 10, 11, 12, 13, 14, 15, 11] rfl 0 5 rfl rfl hS rfl hl.1 rfl (Nat.le_of_ble_eq_true rfl) dX6_tellTree_39 ⟨Nat.zero_le _, Nat.zero_le _⟩ (fun H locs hP hS => ?_)
              refine wk_if_eqb (tgt := 51) hx hb dX6_tellTree_42 (by decide) (fun c42 => ?_) (fun c42 => ?_)
              · skip
                refine lv_iconst (v := nI 0) hx hb dX6_tellTree_51 (by decide) ?_
                refine lv_ior hx hb dX6_tellTree_52 ?_
                refine va_put (D := D) (ci := 5) (v := .int (z22 ||| (nI 0))) (ty := .int) (C := RX6) (T := TX6) (N := 27) hx hb hts hin6 tyX6 tyX6_ok nmX6 hown hK hP hD hS 0 rfl rfl 22 (by decide) fl144 (fun _ h9 => h9) rfl (by decide +kernel) rfl rfl (Nat.le_of_ble_eq_true rfl) dX6_tellTree_53 (fun H locs hP hD hS => ?_)
                have hP : va_P D vwCl (mw cI r i0 (nI tr) i7 i8 i9 i13 i15 i17 i18 (nI Ms.length) (z22 ||| (nI 0)) i23 a1 a2 a4 a5 a6 a10 a11 a12 a14 a16 a20 a21 a24 a25 a26) H := hP
                have hD : va_D A (mw cI r i0 (nI tr) i7 i8 i9 i13 i15 i17 i18 (nI Ms.length) (z22 ||| (nI 0)) i23 a1 a2 a4 a5 a6 a10 a11 a12 a14 a16 a20 a21 a24 a25 a26) := hD
                refine lv_iinc (v := (nI (t + 1))) (lv' := [(2, .int (nI (t + 1))), (0, .ref (r 0)), (1, .int (nI k))]) hx hb dX6_tellTree_56 hl (k := 2) rfl (by exact nI_1 _) (by decide) rfl (fun ls hl => ?_)
                refine lv_goto (tgt := 17) hx hb dX6_tellTree_59 (by decide) ?_
                exact ih17 (t + 1) (z22 ||| (nI 0)) (by omega) (by omega) (by rw [hz]; show _ = livI a4 x t v22 ||| (if canR a4 x t = true then _ else _); rw [if_neg (by rw [← canM_row htr (by omega) hr9, c42]; exact Bool.false_ne_true)]) _ _ _ hP hD hS (lv_sub hl [1, 2, 0] rfl)
              · skip
                refine lv_iconst (v := nI 1) hx hb dX6_tellTree_45 (by decide) ?_
                refine lv_iload_n hx hb dX6_tellTree_46 rfl (lv_at hl 2 rfl) ?_
                refine lv_ishl hx hb dX6_tellTree_47 ?_
                refine lv_goto (tgt := 52) hx hb dX6_tellTree_48 (by decide) ?_
                refine lv_ior hx hb dX6_tellTree_52 ?_
                refine va_put (D := D) (ci := 5) (v := .int (z22 ||| ((nI 1) <<< ((nI t) &&& 31)))) (ty := .int) (C := RX6) (T := TX6) (N := 27) hx hb hts hin6 tyX6 tyX6_ok nmX6 hown hK hP hD hS 0 rfl rfl 22 (by decide) fl144 (fun _ h9 => h9) rfl (by decide +kernel) rfl rfl (Nat.le_of_ble_eq_true rfl) dX6_tellTree_53 (fun H locs hP hD hS => ?_)
                have hP : va_P D vwCl (mw cI r i0 (nI tr) i7 i8 i9 i13 i15 i17 i18 (nI Ms.length) (z22 ||| ((nI 1) <<< ((nI t) &&& 31))) i23 a1 a2 a4 a5 a6 a10 a11 a12 a14 a16 a20 a21 a24 a25 a26) H := hP
                have hD : va_D A (mw cI r i0 (nI tr) i7 i8 i9 i13 i15 i17 i18 (nI Ms.length) (z22 ||| ((nI 1) <<< ((nI t) &&& 31))) i23 a1 a2 a4 a5 a6 a10 a11 a12 a14 a16 a20 a21 a24 a25 a26) := hD
                refine lv_iinc (v := (nI (t + 1))) (lv' := [(2, .int (nI (t + 1))), (0, .ref (r 0)), (1, .int (nI k))]) hx hb dX6_tellTree_56 hl (k := 2) rfl (by exact nI_1 _) (by decide) rfl (fun ls hl => ?_)
                refine lv_goto (tgt := 17) hx hb dX6_tellTree_59 (by decide) ?_
                exact ih17 (t + 1) (z22 ||| ((nI 1) <<< ((nI t) &&& 31))) (by omega) (by omega) (by rw [hz]; show _ = livI a4 x t v22 ||| (if canR a4 x t = true then _ else _); rw [if_pos ((canM_row htr (by omega) hr9).symm.trans c42)]) _ _ _ hP hD hS (lv_sub hl [1, 2, 0] rfl)
        exact lp17 _ 0 v22 (Nat.lt_succ_self _) (by omega) rfl _ _ _ hP hD hS (lv_sub hl [1, 2, 0] rfl)
  exact lp7 _ 0 (nI 0) (Nat.lt_succ_self _) (by omega) rfl _ _ _ hP hD hS (lv_sub hl [1, 0] rfl)
end
section
/-! the tree as it grows -/
def fwM (om : Int32) (f4 f5 : Nat → Int32) (x : Rw) (t : Nat) : Rw := fun q => if x q = om then om else x q + f5 (5 * t + q) - f4 (5 * t + q)
def fwA (om : Int32) (f4 f5 f20 : Nat → Int32) (k t : Nat) : Nat → Int32 := fun q => if f20 (5 * k + q) = om then om else f20 (5 * k + q) + f5 (5 * t + q) - f4 (5 * t + q)
theorem fwA_y {om : Int32} {f4 f5 f20 : Nat → Int32} {k t q : Nat} (h : f20 (5 * k + q) = om) : fwA om f4 f5 f20 k t q = om := if_pos h
theorem fwA_n {om : Int32} {f4 f5 f20 : Nat → Int32} {k t q : Nat} (h : ¬ f20 (5 * k + q) = om) : fwA om f4 f5 f20 k t q = f20 (5 * k + q) + f5 (5 * t + q) - f4 (5 * t + q) := if_neg h
theorem fwA_row {om : Int32} {f4 f5 f20 : Nat → Int32} {k t q : Nat} {x : Rw} (h : f20 (5 * k + q) = x q) : fwA om f4 f5 f20 k t q = fwM om f4 f5 x t q := by unfold fwA fwM; rw [h]
def kidsG (can : Nat → Bool) (kid : Nat → Rw) (k : Nat) (ch : List Rw) : Nat → List Nd → List Nd
  | 0, T => T
  | t + 1, T => if (kidsG can kid k ch t T).length ≤ 1000 ∧ can t = true then kidsG can kid k ch t T ++ [(k, kid t, ch)] else kidsG can kid k ch t T
def stepG (can : Rw → Nat → Bool) (kid : List Rw → Nat → Rw) (tr : Nat) (T : List Nd) (k : Nat) : List Nd := match T[k]? with
  | none => T
  | some nd => if oldG nd.2.1 nd.2.2 = true then T else kidsG (can nd.2.1) (kid (nd.2.1 :: nd.2.2)) k (nd.2.1 :: nd.2.2) tr T
def growG (can : Rw → Nat → Bool) (kid : List Rw → Nat → Rw) (tr : Nat) (x : Rw) : Nat → List Nd
  | 0 => [(0, x, [])]
  | k + 1 => if (growG can kid tr x k).length ≤ 1000 then stepG can kid tr (growG can kid tr x k) k else growG can kid tr x k
def kidR (om : Int32) (f4 f5 : Nat → Int32) (ch : List Rw) (t : Nat) : Rw := accM om ch 6 (fwM om f4 f5 (ch.headD zR) t)
theorem kids_pre (can : Nat → Bool) (kid : Nat → Rw) (k : Nat) (ch : List Rw) : ∀ (t : Nat) (T : List Nd) (j : Nat) (nd : Nd), T[j]? = some nd → (kidsG can kid k ch t T)[j]? = some nd := by
  intro t
  induction t with
  | zero => intro T j nd h; exact h
  | succ t ih =>
    intro T j nd h
    show (if _ then _ else _)[j]? = some nd
    split
    · rw [List.getElem?_append_left (lt_of_some (ih T j nd h))]; exact ih T j nd h
    · exact ih T j nd h
theorem kids_len (can : Nat → Bool) (kid : Nat → Rw) (k : Nat) (ch : List Rw) : ∀ (t : Nat) (T : List Nd), T.length ≤ (kidsG can kid k ch t T).length ∧ (T.length ≤ 1001 → (kidsG can kid k ch t T).length ≤ 1001) := by
  intro t
  induction t with
  | zero => intro T; exact ⟨Nat.le_refl _, id⟩
  | succ t ih =>
    intro T
    obtain ⟨h1, h2⟩ := ih T
    show T.length ≤ (if _ then _ else _ : List Nd).length ∧ (_ → (if _ then _ else _ : List Nd).length ≤ 1001)
    split
    · rw [List.length_append, List.length_singleton]
      exact ⟨by omega, fun h => by omega⟩
    · exact ⟨h1, h2⟩
theorem kids_y {can : Nat → Bool} {kid : Nat → Rw} {k : Nat} {ch : List Rw} {t : Nat} {T : List Nd} (h1 : (kidsG can kid k ch t T).length ≤ 1000) (h2 : can t = true) : kidsG can kid k ch (t + 1) T = kidsG can kid k ch t T ++ [(k, kid t, ch)] := if_pos ⟨h1, h2⟩
theorem kids_n {can : Nat → Bool} {kid : Nat → Rw} {k : Nat} {ch : List Rw} {t : Nat} {T : List Nd} (h2 : can t = false) : kidsG can kid k ch (t + 1) T = kidsG can kid k ch t T := if_neg (fun h => by rw [h2] at h; exact absurd h.2 Bool.false_ne_true)
theorem kids_stop {can : Nat → Bool} {kid : Nat → Rw} {k : Nat} {ch : List Rw} {t : Nat} {T : List Nd} (h1 : 1000 < (kidsG can kid k ch t T).length) : ∀ j, kidsG can kid k ch (t + j) T = kidsG can kid k ch t T := by
  intro j
  induction j with
  | zero => rfl
  | succ j ih =>
    show (if (kidsG can kid k ch (t + j) T).length ≤ 1000 ∧ _ then _ else _) = _
    rw [if_neg (fun h => by rw [ih] at h; omega)]
    exact ih
theorem step_old {can : Rw → Nat → Bool} {kid : List Rw → Nat → Rw} {tr : Nat} {T : List Nd} {k : Nat} {nd : Nd} (hk : T[k]? = some nd) (ho : oldG nd.2.1 nd.2.2 = true) : stepG can kid tr T k = T := by
  unfold stepG; rw [hk]; exact if_pos ho
theorem step_new {can : Rw → Nat → Bool} {kid : List Rw → Nat → Rw} {tr : Nat} {T : List Nd} {k : Nat} {nd : Nd} (hk : T[k]? = some nd) (ho : oldG nd.2.1 nd.2.2 = false) : stepG can kid tr T k = kidsG (can nd.2.1) (kid (nd.2.1 :: nd.2.2)) k (nd.2.1 :: nd.2.2) tr T := by
  unfold stepG; rw [hk]; exact if_neg (by rw [ho]; exact Bool.false_ne_true)
theorem step_none {can : Rw → Nat → Bool} {kid : List Rw → Nat → Rw} {tr : Nat} {T : List Nd} {k : Nat} (hk : T.length ≤ k) : stepG can kid tr T k = T := by
  unfold stepG; rw [List.getElem?_eq_none hk]
theorem step_len (can : Rw → Nat → Bool) (kid : List Rw → Nat → Rw) (tr : Nat) (T : List Nd) (k : Nat) : T.length ≤ (stepG can kid tr T k).length ∧ (T.length ≤ 1001 → (stepG can kid tr T k).length ≤ 1001) := by
  unfold stepG
  split
  · exact ⟨Nat.le_refl _, id⟩
  · split
    · exact ⟨Nat.le_refl _, id⟩
    · exact kids_len _ _ _ _ _ _
theorem grow_s {can : Rw → Nat → Bool} {kid : List Rw → Nat → Rw} {tr : Nat} {x : Rw} {k : Nat} (h : (growG can kid tr x k).length ≤ 1000) : growG can kid tr x (k + 1) = stepG can kid tr (growG can kid tr x k) k := if_pos h
theorem grow_len (can : Rw → Nat → Bool) (kid : List Rw → Nat → Rw) (tr : Nat) (x : Rw) : ∀ k, 1 ≤ (growG can kid tr x k).length ∧ (growG can kid tr x k).length ≤ 1001 := by
  intro k
  induction k with
  | zero => exact ⟨Nat.le_refl 1, by show 1 ≤ 1001; omega⟩
  | succ k ih =>
    show 1 ≤ (if _ then _ else _ : List Nd).length ∧ (if _ then _ else _ : List Nd).length ≤ 1001
    split
    · have := step_len can kid tr (growG can kid tr x k) k
      exact ⟨by omega, this.2 ih.2⟩
    · exact ih
theorem grow_stop {can : Rw → Nat → Bool} {kid : List Rw → Nat → Rw} {tr : Nat} {x : Rw} {k : Nat} (h : (growG can kid tr x k).length ≤ k ∨ 1000 < (growG can kid tr x k).length) : ∀ j, growG can kid tr x (k + j) = growG can kid tr x k := by
  intro j
  induction j with
  | zero => rfl
  | succ j ih =>
    show (if (growG can kid tr x (k + j)).length ≤ 1000 then stepG can kid tr (growG can kid tr x (k + j)) (k + j) else growG can kid tr x (k + j)) = _
    rw [ih]
    split
    · rw [step_none (by omega)]
    · rfl
theorem tv_push {f20 f21 u : Nat → Int32} {T : List Nd} {k : Nat} {nd : Nd} {w : Rw} (h : treeV f20 f21 T) (hk : T[k]? = some nd) (hw : ∀ q, q < 5 → u q = w q) : treeV (wrN f20 u (5 * T.length) 5) (upd f21 T.length (nI k)) (T ++ [(k, w, nd.2.1 :: nd.2.2)]) := by
  have hkl := lt_of_some hk
  intro j x hx
  by_cases hj : j < T.length
  · rw [List.getElem?_append_left hj] at hx
    obtain ⟨h1, h2, h3⟩ := h j x hx
    refine ⟨fun q hq => ?_, fun e => ?_, fun e => ?_⟩
    · rw [← h1 q hq]; exact if_neg (by omega)
    · obtain ⟨a, b⟩ := h2 e
      exact ⟨by rw [pk_un (by omega)]; exact a, b⟩
    · obtain ⟨a, b, pn, c, d⟩ := h3 e
      exact ⟨a, by rw [pk_un (by omega)]; exact b, pn, by rw [List.getElem?_append_left (lt_of_some c)]; exact c, d⟩
  · rw [List.getElem?_append_right (by omega)] at hx
    have h0 : j - T.length < 1 := lt_of_some hx
    rw [show j - T.length = 0 by omega] at hx
    cases hx
    have hjT : j = T.length := by omega
    subst hjT
    refine ⟨fun q hq => ?_, fun e => absurd e (by omega), fun e => ?_⟩
    · unfold wrN
      rw [if_pos (by omega), show 5 * T.length + q - 5 * T.length = q by omega]
      exact hw q hq
    · exact ⟨hkl, pk_us, nd, by rw [List.getElem?_append_left hkl]; exact hk, rfl⟩
def mks (T : List Nd) : List Rw := T.map (fun nd => nd.2.1)
theorem mks_len (T : List Nd) : (mks T).length = T.length := List.length_map _
theorem tv_rows {f20 f21 : Nat → Int32} {T : List Nd} (h : treeV f20 f21 T) : rowsV f20 0 (mks T) := by
  intro k x hx q hq
  unfold mks at hx
  rw [List.getElem?_map] at hx
  cases hT : T[k]? with
  | none => rw [hT] at hx; cases hx
  | some nd =>
    rw [hT] at hx
    cases hx
    rw [Nat.zero_add]
    exact (h k nd hT).1 q hq
theorem tv_root {f20 f21 : Nat → Int32} {x : Rw} (h1 : ∀ q, q < 5 → f20 q = x q) (h2 : f21 0 = -1) : treeV f20 f21 [(0, x, [])] := by
  intro k nd hk
  have h0 : k < 1 := lt_of_some hk
  have hk0 : k = 0 := by omega
  subst hk0
  cases hk
  refine ⟨fun q hq => by rw [Nat.mul_zero, Nat.zero_add]; exact h1 q hq, fun _ => ⟨h2, rfl⟩, fun e => absurd e (Nat.lt_irrefl 0)⟩
end
section
set_option maxHeartbeats 4000000 in
set_option maxRecDepth 100000 in
theorem c_X6_grow (l : Launch) (D : va_G) (cI cJ cZ cA : ClassId) (r : Nat → Nat) (i7 i8 i9 i13 i15 i17 i18 i19 i22 i23 : Int32) (a1 a2 a4 a5 a6 a10 a11 a12 a14 a16 a20 a21 a24 a25 a26 : Nat → Int32) (sz pl tr : Nat) (hpl : pl ≤ 5) (htr : tr ≤ 6) : Met l yX6_grow wsX6_grow ({ frames := 3, cells := 0, slots := 0, locals := 73 } : Room) (wr_P D (tysC cI cJ cZ cA) [.ref (r 0)] (mw cI r (nI pl) (nI tr) i7 i8 i9 i13 i15 i17 i18 i19 i22 i23 a1 a2 a4 a5 a6 a10 a11 a12 a14 a16 a20 a21 a24 a25 a26) sz) (wr_Qi D (S := Bool × Int32 × Int32 × Int32 × Int32 × (Nat → Int32) × (Nat → Int32) × (Nat → Int32) × (Nat → Int32)) (mw cI r (nI pl) (nI tr) i7 i8 i9 i13 i15 i17 i18 i19 i22 i23 a1 a2 a4 a5 a6 a10 a11 a12 a14 a16 a20 a21 a24 a25 a26) sz (fun r9 u => ((growG (canR a4) (kidR (nI 1000000) a4 a5) tr a1 1001).length ≤ 1000 → r9 = nI (growG (canR a4) (kidR (nI 1000000) a4 a5) tr a1 1001).length ∧ u.1 = true ∧ u.2.1 = nI (growG (canR a4) (kidR (nI 1000000) a4 a5) tr a1 1001).length ∧ u.2.2.1 = nI pl ∧ u.2.2.2.1 = livL tr a4 (mks (growG (canR a4) (kidR (nI 1000000) a4 a5) tr a1 1001)) (nI 0) ∧ u.2.2.2.2.1 = nI (limL (mks (growG (canR a4) (kidR (nI 1000000) a4 a5) tr a1 1001)) (mks (growG (canR a4) (kidR (nI 1000000) a4 a5) tr a1 1001)).length).length ∧ rowsV u.2.2.2.2.2.1 0 (mks (growG (canR a4) (kidR (nI 1000000) a4 a5) tr a1 1001)) ∧ idxV u.2.2.2.2.2.2.2.1 (limL (mks (growG (canR a4) (kidR (nI 1000000) a4 a5) tr a1 1001)) (mks (growG (canR a4) (kidR (nI 1000000) a4 a5) tr a1 1001)).length)) ∧ (¬ (growG (canR a4) (kidR (nI 1000000) a4 a5) tr a1 1001).length ≤ 1000 → r9 = -1 ∧ u.1 = false)) (fun u => (mw cI r (nI pl) (nI tr) i7 i8 i9 i13 i15 (bI u.1) u.2.2.1 u.2.1 u.2.2.2.1 u.2.2.2.2.1 a1 a2 a4 a5 a6 a10 a11 a12 a14 a16 u.2.2.2.2.2.1 u.2.2.2.2.2.2.1 u.2.2.2.2.2.2.2.1 u.2.2.2.2.2.2.2.2 a26))) 0 0 (va_A (mw cI r (nI pl) (nI tr) i7 i8 i9 i13 i15 i17 i18 i19 i22 i23 a1 a2 a4 a5 a6 a10 a11 a12 a14 a16 a20 a21 a24 a25 a26) sz) := by
  refine met_wi (cc := cX6_grow) (maxL := 5) (ty := .int) (by decide) rfl (Nat.le_of_ble_eq_true rfl) ?_
  intro p e s m args below meth c Q A hx hb hml hown hts hP hK hD hA hret ls hl
  obtain ⟨H, hH9⟩ : ∃ H : Heap, H = s.heap := ⟨_, rfl⟩
  have hP : va_P D vwCl (mw cI r (nI pl) (nI tr) i7 i8 i9 i13 i15 i17 i18 i19 i22 i23 a1 a2 a4 a5 a6 a10 a11 a12 a14 a16 a20 a21 a24 a25 a26) H := by rw [hH9]; exact hP
  have hS : va_S A s.heap H [] := by rw [hH9]; exact va_S.rf
  rw [← hH9]
  have hown : s.vm.findClass RX6 = some m.cls := hown
  have hin6 : ∀ w ∈ wsX60, w ∈ wsX6_grow := by decide +kernel
  have fl124 := hts (.fieldLink RX6 124 "CoverRoundsModel" "isGrown" "Z") (by decide +kernel)
  have fl128 := hts (.fieldLink RX6 128 "CoverRoundsModel" "nodes" "I") (by decide +kernel)
  have fl48 := hts (.fieldLink RX6 48 "CoverRoundsModel" "above" "[I") (by decide +kernel)
  have fl45 := hts (.fieldLink RX6 45 "CoverRoundsModel" "markings" "[I") (by decide +kernel)
  have fl7 := hts (.fieldLink RX6 7 "CoverRoundsModel" "first" "[I") (by decide +kernel)
  have fl63 := hts (.fieldLink RX6 63 "CoverRoundsModel" "transitions" "I") (by decide +kernel)
  have fl54 := hts (.fieldLink RX6 54 "CoverRoundsModel" "work" "[I") (by decide +kernel)
  have fl19 := hts (.fieldLink RX6 19 "CoverRoundsModel" "gives" "[I") (by decide +kernel)
  have fl16 := hts (.fieldLink RX6 16 "CoverRoundsModel" "takes" "[I") (by decide +kernel)
  have fl60 := hts (.fieldLink RX6 60 "CoverRoundsModel" "places" "I") (by decide +kernel)
  have fl138 := hts (.fieldLink RX6 138 "CoverRoundsModel" "grownPlaces" "I") (by decide +kernel)
  have hl : lv_has ls 5 [(0, .ref (r 0))] := hl
  refine lv_aload_n hx hb dX6_grow_0 rfl (lv_at hl 0 rfl) ?_
  refine lv_iconst (v := nI 0) hx hb dX6_grow_1 (by decide) ?_
  refine va_put (D := D) (ci := 5) (v := .int (bI false)) (ty := .boolean) (C := RX6) (T := TX6) (N := 27) hx hb hts hin6 tyX6 tyX6_ok nmX6 hown hK hP hD hS 0 rfl rfl 17 (by decide) fl124 (fun _ h9 => h9) rfl (by decide +kernel) (bI_n _) (wk_fz _) (Nat.le_of_ble_eq_true rfl) dX6_grow_2 (fun H locs hP hD hS => ?_)
  have hP : va_P D vwCl (mw cI r (nI pl) (nI tr) i7 i8 i9 i13 i15 (bI false) i18 i19 i22 i23 a1 a2 a4 a5 a6 a10 a11 a12 a14 a16 a20 a21 a24 a25 a26) H := hP
  have hD : va_D A (mw cI r (nI pl) (nI tr) i7 i8 i9 i13 i15 (bI false) i18 i19 i22 i23 a1 a2 a4 a5 a6 a10 a11 a12 a14 a16 a20 a21 a24 a25 a26) := hD
  refine lv_aload_n hx hb dX6_grow_5 rfl (lv_at hl 0 rfl) ?_
  refine lv_iconst (v := nI 1) hx hb dX6_grow_6 (by decide) ?_
  refine va_put (D := D) (ci := 5) (v := .int (nI 1)) (ty := .int) (C := RX6) (T := TX6) (N := 27) hx hb hts hin6 tyX6 tyX6_ok nmX6 hown hK hP hD hS 0 rfl rfl 19 (by decide) fl128 (fun _ h9 => h9) rfl (by decide +kernel) rfl rfl (Nat.le_of_ble_eq_true rfl) dX6_grow_7 (fun H locs hP hD hS => ?_)
  have hP : va_P D vwCl (mw cI r (nI pl) (nI tr) i7 i8 i9 i13 i15 (bI false) i18 (nI 1) i22 i23 a1 a2 a4 a5 a6 a10 a11 a12 a14 a16 a20 a21 a24 a25 a26) H := hP
  have hD : va_D A (mw cI r (nI pl) (nI tr) i7 i8 i9 i13 i15 (bI false) i18 (nI 1) i22 i23 a1 a2 a4 a5 a6 a10 a11 a12 a14 a16 a20 a21 a24 a25 a26) := hD
  refine lv_aload_n hx hb dX6_grow_10 rfl (lv_at hl 0 rfl) ?_
  refine va_get (D := D) (ci := 5) (v := .ref (r 21)) (C := RX6) (T := TX6) (N := 27) hx hb hts hin6 hown hK hP 0 rfl rfl 21 (by decide) fl48 (fun _ h9 => h9) rfl dX6_grow_11 ?_
  refine lv_iconst (v := nI 0) hx hb dX6_grow_14 (by decide) ?_
  refine lv_iconst (v := -1) hx hb dX6_grow_15 (by decide) ?_
  refine wk_iast hx hb hK hP hD hS 12 0 rfl rfl (i := 0) (by omega) (by omega) dX6_grow_16 (fun H locs hP hD hS => ?_)
  have hP : va_P D vwCl (mw cI r (nI pl) (nI tr) i7 i8 i9 i13 i15 (bI false) i18 (nI 1) i22 i23 a1 a2 a4 a5 a6 a10 a11 a12 a14 a16 a20 (upd a21 0 (-1)) a24 a25 a26) H := hP
  have hD : va_D A (mw cI r (nI pl) (nI tr) i7 i8 i9 i13 i15 (bI false) i18 (nI 1) i22 i23 a1 a2 a4 a5 a6 a10 a11 a12 a14 a16 a20 (upd a21 0 (-1)) a24 a25 a26) := hD
  refine lv_iconst (v := nI 0) hx hb dX6_grow_17 (by decide) ?_
  refine lv_istore_n (lv' := [(1, .int (nI 0)), (0, .ref (r 0))]) hx hb dX6_grow_18 rfl hl (by decide) rfl (fun ls hl => ?_)
  have lp19 : ∀ (n9 : Nat) (q : Nat), 5 - q < n9 → q ≤ 5 → ∀ (H : Heap) (locs : List Loc) (ls : Array Slot), va_P D vwCl (mw cI r (nI pl) (nI tr) i7 i8 i9 i13 i15 (bI false) i18 (nI 1) i22 i23 a1 a2 a4 a5 a6 a10 a11 a12 a14 a16 (cpN a1 a20 q) (upd a21 0 (-1)) a24 a25 a26) H → va_D A (mw cI r (nI pl) (nI tr) i7 i8 i9 i13 i15 (bI false) i18 (nI 1) i22 i23 a1 a2 a4 a5 a6 a10 a11 a12 a14 a16 (cpN a1 a20 q) (upd a21 0 (-1)) a24 a25 a26) → va_S A s.heap H locs → lv_has ls 5 [(0, .ref (r 0)), (1, .int (nI q))] → W p l e ({ frames := 3, cells := 0, slots := 0, locals := 73 } : Room) s m args below meth c H locs 0 0 Q (F0 m 19 ls []) := by
    intro n9
    induction n9 with
    | zero => intro q hm19; exact absurd hm19 (Nat.not_lt_zero _)
    | succ n9 ih19 =>
      intro q hm19 hq H locs ls hP hD hS hl
      refine lv_iload_n hx hb dX6_grow_19 rfl (lv_at hl 1 rfl) ?_
      refine lv_iconst (v := nI 5) hx hb dX6_grow_20 (by decide) ?_
      refine wk_icmp_ge (tgt := 42) hx hb (by omega) (by omega) dX6_grow_21 (by decide) (fun c21 => ?_) (fun c21 => ?_)
      · skip
        have hq9 : q = 5 := by omega
        subst hq9
        refine lv_iconst (v := nI 0) hx hb dX6_grow_42 (by decide) ?_
        refine lv_istore_n (lv' := [(1, .int (nI 0)), (0, .ref (r 0))]) hx hb dX6_grow_43 rfl hl (by decide) rfl (fun ls hl => ?_)
        have lp44 : ∀ (n9 : Nat) (k : Nat) (f20 : Nat → Int32) (f21 : Nat → Int32) (f25 : Nat → Int32), 1001 - k < n9 → k ≤ (growG (canR a4) (kidR (nI 1000000) a4 a5) tr a1 k).length → treeV f20 f21 (growG (canR a4) (kidR (nI 1000000) a4 a5) tr a1 k) → ∀ (H : Heap) (locs : List Loc) (ls : Array Slot), va_P D vwCl (mw cI r (nI pl) (nI tr) i7 i8 i9 i13 i15 (bI false) i18 (nI ((growG (canR a4) (kidR (nI 1000000) a4 a5) tr a1 k).length)) i22 i23 a1 a2 a4 a5 a6 a10 a11 a12 a14 a16 f20 f21 a24 f25 a26) H → va_D A (mw cI r (nI pl) (nI tr) i7 i8 i9 i13 i15 (bI false) i18 (nI ((growG (canR a4) (kidR (nI 1000000) a4 a5) tr a1 k).length)) i22 i23 a1 a2 a4 a5 a6 a10 a11 a12 a14 a16 f20 f21 a24 f25 a26) → va_S A s.heap H locs → lv_has ls 5 [(0, .ref (r 0)), (1, .int (nI k))] → W p l e ({ frames := 3, cells := 0, slots := 0, locals := 73 } : Room) s m args below meth c H locs 0 0 Q (F0 m 44 ls []) := by
          intro n9
          induction n9 with
          | zero => intro k f20 f21 f25 hm44; exact absurd hm44 (Nat.not_lt_zero _)
          | succ n9 ih44 =>
            intro k f20 f21 f25 hm44 hk hG H locs ls hP hD hS hl
            have hGl := grow_len (canR a4) (kidR (nI 1000000) a4 a5) tr a1 k
            refine lv_iload_n hx hb dX6_grow_44 rfl (lv_at hl 1 rfl) ?_
            refine lv_aload_n hx hb dX6_grow_45 rfl (lv_at hl 0 rfl) ?_
            refine va_get (D := D) (ci := 5) (v := .int (nI ((growG (canR a4) (kidR (nI 1000000) a4 a5) tr a1 k).length))) (C := RX6) (T := TX6) (N := 27) hx hb hts hin6 hown hK hP 0 rfl rfl 19 (by decide) fl128 (fun _ h9 => h9) rfl dX6_grow_46 ?_
            refine wk_icmp_ge (tgt := 241) hx hb (by omega) (by omega) dX6_grow_49 (by decide) (fun c49 => ?_) (fun c49 => ?_)
            · skip
              have hfin : growG (canR a4) (kidR (nI 1000000) a4 a5) tr a1 1001 = (growG (canR a4) (kidR (nI 1000000) a4 a5) tr a1 k) := by
                have h9 := grow_stop (can := canR a4) (kid := kidR (nI 1000000) a4 a5) (tr := tr) (x := a1) (k := k) (Or.inl (by omega)) (1001 - k)
                rw [show k + (1001 - k) = 1001 by omega] at h9
                exact h9
              refine lv_aload_n hx hb dX6_grow_241 rfl (lv_at hl 0 rfl) ?_
              refine va_get (D := D) (ci := 5) (v := .int (nI ((growG (canR a4) (kidR (nI 1000000) a4 a5) tr a1 k).length))) (C := RX6) (T := TX6) (N := 27) hx hb hts hin6 hown hK hP 0 rfl rfl 19 (by decide) fl128 (fun _ h9 => h9) rfl dX6_grow_242 ?_
              refine lv_sipush (v := nI 1000) hx hb dX6_grow_245 (by decide) ?_
              refine wk_icmp_le (tgt := 253) hx hb (by omega) (by omega) dX6_grow_248 (by decide) (fun c248 => ?_) (fun c248 => ?_)
              · skip
                refine lv_aload_n hx hb dX6_grow_253 rfl (lv_at hl 0 rfl) ?_
                refine lv_iconst (v := nI 1) hx hb dX6_grow_254 (by decide) ?_
                refine va_put (D := D) (ci := 5) (v := .int (bI true)) (ty := .boolean) (C := RX6) (T := TX6) (N := 27) hx hb hts hin6 tyX6 tyX6_ok nmX6 hown hK hP hD hS 0 rfl rfl 17 (by decide) fl124 (fun _ h9 => h9) rfl (by decide +kernel) (bI_n _) (wk_fz _) (Nat.le_of_ble_eq_true rfl) dX6_grow_255 (fun H locs hP hD hS => ?_)
                have hP : va_P D vwCl (mw cI r (nI pl) (nI tr) i7 i8 i9 i13 i15 (bI true) i18 (nI ((growG (canR a4) (kidR (nI 1000000) a4 a5) tr a1 k).length)) i22 i23 a1 a2 a4 a5 a6 a10 a11 a12 a14 a16 f20 f21 a24 f25 a26) H := hP
                have hD : va_D A (mw cI r (nI pl) (nI tr) i7 i8 i9 i13 i15 (bI true) i18 (nI ((growG (canR a4) (kidR (nI 1000000) a4 a5) tr a1 k).length)) i22 i23 a1 a2 a4 a5 a6 a10 a11 a12 a14 a16 f20 f21 a24 f25 a26) := hD
                refine lv_aload_n hx hb dX6_grow_258 rfl (lv_at hl 0 rfl) ?_
                refine lv_aload_n hx hb dX6_grow_259 rfl (lv_at hl 0 rfl) ?_
                refine va_get (D := D) (ci := 5) (v := .int (nI pl)) (C := RX6) (T := TX6) (N := 27) hx hb hts hin6 hown hK hP 0 rfl rfl 0 (by decide) fl60 (fun _ h9 => h9) rfl dX6_grow_260 ?_
                refine va_put (D := D) (ci := 5) (v := .int (nI pl)) (ty := .int) (C := RX6) (T := TX6) (N := 27) hx hb hts hin6 tyX6 tyX6_ok nmX6 hown hK hP hD hS 0 rfl rfl 18 (by decide) fl138 (fun _ h9 => h9) rfl (by decide +kernel) rfl rfl (Nat.le_of_ble_eq_true rfl) dX6_grow_263 (fun H locs hP hD hS => ?_)
                have hP : va_P D vwCl (mw cI r (nI pl) (nI tr) i7 i8 i9 i13 i15 (bI true) (nI pl) (nI ((growG (canR a4) (kidR (nI 1000000) a4 a5) tr a1 k).length)) i22 i23 a1 a2 a4 a5 a6 a10 a11 a12 a14 a16 f20 f21 a24 f25 a26) H := hP
                have hD : va_D A (mw cI r (nI pl) (nI tr) i7 i8 i9 i13 i15 (bI true) (nI pl) (nI ((growG (canR a4) (kidR (nI 1000000) a4 a5) tr a1 k).length)) i22 i23 a1 a2 a4 a5 a6 a10 a11 a12 a14 a16 f20 f21 a24 f25 a26) := hD
                refine lv_aload_n hx hb dX6_grow_266 rfl (lv_at hl 0 rfl) ?_
                rw [show (growG (canR a4) (kidR (nI 1000000) a4 a5) tr a1 k).length = (mks (growG (canR a4) (kidR (nI 1000000) a4 a5) tr a1 k)).length from (mks_len _).symm] at hP hD
                refine wk_VvW (As := []) (rest := []) (wr := []) ⟨hx, hb, hml, hown, hts⟩ (c_X6_tellTree l D cI cJ cZ cA r (nI pl) i7 i8 i9 i13 i15 (bI true) (nI pl) i22 i23 a1 a2 a4 a5 a6 a10 a11 a12 a14 a16 f20 f21 a24 f25 a26 H.size tr htr (mks (growG (canR a4) (kidR (nI 1000000) a4 a5) tr a1 k)) (tv_rows hG) (by rw [mks_len]; omega)) (cwV 0 hts gX6_grow_X6_tellTree rfl rfl rfl (by decide +kernel) ⟨Nat.le_of_ble_eq_true rfl, Nat.le_of_ble_eq_true rfl⟩) hK hP hD hA [0, 1, 2, 3, 4, 5, 6, 7, 8, 9, 10, 11, 12, 13, 14, 15] rfl (by decide) [] rfl (by decide) (by decide) 0 5 rfl rfl hS rfl hl.1 rfl (Nat.le_of_ble_eq_true rfl) dX6_grow_267 ⟨Nat.le_of_ble_eq_true rfl, Nat.le_of_ble_eq_true rfl⟩ (fun u9 H locs hu hP hD hS => ?_)
                have hP : va_P D vwCl (mw cI r (nI pl) (nI tr) i7 i8 i9 i13 i15 (bI true) (nI pl) (nI ((mks (growG (canR a4) (kidR (nI 1000000) a4 a5) tr a1 k)).length)) (livL tr a4 (mks (growG (canR a4) (kidR (nI 1000000) a4 a5) tr a1 k)) (nI 0)) (nI ((limL (mks (growG (canR a4) (kidR (nI 1000000) a4 a5) tr a1 k)) (mks (growG (canR a4) (kidR (nI 1000000) a4 a5) tr a1 k)).length).length)) a1 a2 a4 a5 a6 a10 a11 a12 a14 a16 f20 f21 u9 f25 a26) H := hP
                have hD : va_D A (mw cI r (nI pl) (nI tr) i7 i8 i9 i13 i15 (bI true) (nI pl) (nI ((mks (growG (canR a4) (kidR (nI 1000000) a4 a5) tr a1 k)).length)) (livL tr a4 (mks (growG (canR a4) (kidR (nI 1000000) a4 a5) tr a1 k)) (nI 0)) (nI ((limL (mks (growG (canR a4) (kidR (nI 1000000) a4 a5) tr a1 k)) (mks (growG (canR a4) (kidR (nI 1000000) a4 a5) tr a1 k)).length).length)) a1 a2 a4 a5 a6 a10 a11 a12 a14 a16 f20 f21 u9 f25 a26) := hD
                refine lv_aload_n hx hb dX6_grow_270 rfl (lv_at hl 0 rfl) ?_
                refine va_get (D := D) (ci := 5) (v := .int (nI ((mks (growG (canR a4) (kidR (nI 1000000) a4 a5) tr a1 k)).length))) (C := RX6) (T := TX6) (N := 27) hx hb hts hin6 hown hK hP 0 rfl rfl 19 (by decide) fl128 (fun _ h9 => h9) rfl dX6_grow_271 ?_
                have hl9 := mks_len (growG (canR a4) (kidR (nI 1000000) a4 a5) tr a1 k)
                exact hret _ (true, (nI ((mks (growG (canR a4) (kidR (nI 1000000) a4 a5) tr a1 k)).length)), nI pl, (livL tr a4 (mks (growG (canR a4) (kidR (nI 1000000) a4 a5) tr a1 k)) (nI 0)), (nI ((limL (mks (growG (canR a4) (kidR (nI 1000000) a4 a5) tr a1 k)) (mks (growG (canR a4) (kidR (nI 1000000) a4 a5) tr a1 k)).length).length)), f20, f21, u9, f25) _ _ _ _ _ _ rfl ⟨fun h9 => by rw [hfin]; exact ⟨by rw [hl9], rfl, by rw [hl9], rfl, rfl, rfl, tv_rows hG, hu⟩, fun h9 => by rw [hfin] at h9; omega⟩ hP hD dX6_grow_274 hS (Nat.zero_le _) (Nat.zero_le _)
              · skip
                refine lv_iconst (v := -1) hx hb dX6_grow_251 (by decide) ?_
                exact hret _ (false, (nI ((growG (canR a4) (kidR (nI 1000000) a4 a5) tr a1 k).length)), i18, i22, i23, f20, f21, a24, f25) _ _ _ _ _ _ rfl ⟨fun h9 => by rw [hfin] at h9; omega, fun h9 => ⟨rfl, rfl⟩⟩ hP hD dX6_grow_252 hS (Nat.zero_le _) (Nat.zero_le _)
            · skip
              obtain ⟨nd, hkG⟩ : ∃ nd, (growG (canR a4) (kidR (nI 1000000) a4 a5) tr a1 k)[k]? = some nd := ⟨_, List.getElem?_eq_getElem (by omega)⟩
              refine lv_aload_n hx hb dX6_grow_52 rfl (lv_at hl 0 rfl) ?_
              refine va_get (D := D) (ci := 5) (v := .int (nI ((growG (canR a4) (kidR (nI 1000000) a4 a5) tr a1 k).length))) (C := RX6) (T := TX6) (N := 27) hx hb hts hin6 hown hK hP 0 rfl rfl 19 (by decide) fl128 (fun _ h9 => h9) rfl dX6_grow_53 ?_
              refine lv_sipush (v := nI 1000) hx hb dX6_grow_56 (by decide) ?_
              refine wk_icmp_gt (tgt := 241) hx hb (by omega) (by omega) dX6_grow_59 (by decide) (fun c59 => ?_) (fun c59 => ?_)
              · skip
                have hfin : growG (canR a4) (kidR (nI 1000000) a4 a5) tr a1 1001 = (growG (canR a4) (kidR (nI 1000000) a4 a5) tr a1 k) := by
                  have h9 := grow_stop (can := canR a4) (kid := kidR (nI 1000000) a4 a5) (tr := tr) (x := a1) (k := k) (Or.inr (by omega)) (1001 - k)
                  rw [show k + (1001 - k) = 1001 by omega] at h9
                  exact h9
                refine lv_aload_n hx hb dX6_grow_241 rfl (lv_at hl 0 rfl) ?_
                refine va_get (D := D) (ci := 5) (v := .int (nI ((growG (canR a4) (kidR (nI 1000000) a4 a5) tr a1 k).length))) (C := RX6) (T := TX6) (N := 27) hx hb hts hin6 hown hK hP 0 rfl rfl 19 (by decide) fl128 (fun _ h9 => h9) rfl dX6_grow_242 ?_
                refine lv_sipush (v := nI 1000) hx hb dX6_grow_245 (by decide) ?_
                refine wk_icmp_le (tgt := 253) hx hb (by omega) (by omega) dX6_grow_248 (by decide) (fun c248 => ?_) (fun c248 => ?_)
                · skip
                  refine lv_aload_n hx hb dX6_grow_253 rfl (lv_at hl 0 rfl) ?_
                  refine lv_iconst (v := nI 1) hx hb dX6_grow_254 (by decide) ?_
                  refine va_put (D := D) (ci := 5) (v := .int (bI true)) (ty := .boolean) (C := RX6) (T := TX6) (N := 27) hx hb hts hin6 tyX6 tyX6_ok nmX6 hown hK hP hD hS 0 rfl rfl 17 (by decide) fl124 (fun _ h9 => h9) rfl (by decide +kernel) (bI_n _) (wk_fz _) (Nat.le_of_ble_eq_true rfl) dX6_grow_255 (fun H locs hP hD hS => ?_)
                  have hP : va_P D vwCl (mw cI r (nI pl) (nI tr) i7 i8 i9 i13 i15 (bI true) i18 (nI ((growG (canR a4) (kidR (nI 1000000) a4 a5) tr a1 k).length)) i22 i23 a1 a2 a4 a5 a6 a10 a11 a12 a14 a16 f20 f21 a24 f25 a26) H := hP
                  have hD : va_D A (mw cI r (nI pl) (nI tr) i7 i8 i9 i13 i15 (bI true) i18 (nI ((growG (canR a4) (kidR (nI 1000000) a4 a5) tr a1 k).length)) i22 i23 a1 a2 a4 a5 a6 a10 a11 a12 a14 a16 f20 f21 a24 f25 a26) := hD
                  refine lv_aload_n hx hb dX6_grow_258 rfl (lv_at hl 0 rfl) ?_
                  refine lv_aload_n hx hb dX6_grow_259 rfl (lv_at hl 0 rfl) ?_
                  refine va_get (D := D) (ci := 5) (v := .int (nI pl)) (C := RX6) (T := TX6) (N := 27) hx hb hts hin6 hown hK hP 0 rfl rfl 0 (by decide) fl60 (fun _ h9 => h9) rfl dX6_grow_260 ?_
                  refine va_put (D := D) (ci := 5) (v := .int (nI pl)) (ty := .int) (C := RX6) (T := TX6) (N := 27) hx hb hts hin6 tyX6 tyX6_ok nmX6 hown hK hP hD hS 0 rfl rfl 18 (by decide) fl138 (fun _ h9 => h9) rfl (by decide +kernel) rfl rfl (Nat.le_of_ble_eq_true rfl) dX6_grow_263 (fun H locs hP hD hS => ?_)
                  have hP : va_P D vwCl (mw cI r (nI pl) (nI tr) i7 i8 i9 i13 i15 (bI true) (nI pl) (nI ((growG (canR a4) (kidR (nI 1000000) a4 a5) tr a1 k).length)) i22 i23 a1 a2 a4 a5 a6 a10 a11 a12 a14 a16 f20 f21 a24 f25 a26) H := hP
                  have hD : va_D A (mw cI r (nI pl) (nI tr) i7 i8 i9 i13 i15 (bI true) (nI pl) (nI ((growG (canR a4) (kidR (nI 1000000) a4 a5) tr a1 k).length)) i22 i23 a1 a2 a4 a5 a6 a10 a11 a12 a14 a16 f20 f21 a24 f25 a26) := hD
                  refine lv_aload_n hx hb dX6_grow_266 rfl (lv_at hl 0 rfl) ?_
                  rw [show (growG (canR a4) (kidR (nI 1000000) a4 a5) tr a1 k).length = (mks (growG (canR a4) (kidR (nI 1000000) a4 a5) tr a1 k)).length from (mks_len _).symm] at hP hD
                  refine wk_VvW (As := []) (rest := []) (wr := []) ⟨hx, hb, hml, hown, hts⟩ (c_X6_tellTree l D cI cJ cZ cA r (nI pl) i7 i8 i9 i13 i15 (bI true) (nI pl) i22 i23 a1 a2 a4 a5 a6 a10 a11 a12 a14 a16 f20 f21 a24 f25 a26 H.size tr htr (mks (growG (canR a4) (kidR (nI 1000000) a4 a5) tr a1 k)) (tv_rows hG) (by rw [mks_len]; omega)) (cwV 0 hts gX6_grow_X6_tellTree rfl rfl rfl (by decide +kernel) ⟨Nat.le_of_ble_eq_true rfl, Nat.le_of_ble_eq_true rfl⟩) hK hP hD hA [0, 1, 2, 3, 4, 5, 6, 7, 8, 9, 10, 11, 12, 13, 14, 15] rfl (by decide) [] rfl (by decide) (by decide) 0 5 rfl rfl hS rfl hl.1 rfl (Nat.le_of_ble_eq_true rfl) dX6_grow_267 ⟨Nat.le_of_ble_eq_true rfl, Nat.le_of_ble_eq_true rfl⟩ (fun u9 H locs hu hP hD hS => ?_)
                  have hP : va_P D vwCl (mw cI r (nI pl) (nI tr) i7 i8 i9 i13 i15 (bI true) (nI pl) (nI ((mks (growG (canR a4) (kidR (nI 1000000) a4 a5) tr a1 k)).length)) (livL tr a4 (mks (growG (canR a4) (kidR (nI 1000000) a4 a5) tr a1 k)) (nI 0)) (nI ((limL (mks (growG (canR a4) (kidR (nI 1000000) a4 a5) tr a1 k)) (mks (growG (canR a4) (kidR (nI 1000000) a4 a5) tr a1 k)).length).length)) a1 a2 a4 a5 a6 a10 a11 a12 a14 a16 f20 f21 u9 f25 a26) H := hP
                  have hD : va_D A (mw cI r (nI pl) (nI tr) i7 i8 i9 i13 i15 (bI true) (nI pl) (nI ((mks (growG (canR a4) (kidR (nI 1000000) a4 a5) tr a1 k)).length)) (livL tr a4 (mks (growG (canR a4) (kidR (nI 1000000) a4 a5) tr a1 k)) (nI 0)) (nI ((limL (mks (growG (canR a4) (kidR (nI 1000000) a4 a5) tr a1 k)) (mks (growG (canR a4) (kidR (nI 1000000) a4 a5) tr a1 k)).length).length)) a1 a2 a4 a5 a6 a10 a11 a12 a14 a16 f20 f21 u9 f25 a26) := hD
                  refine lv_aload_n hx hb dX6_grow_270 rfl (lv_at hl 0 rfl) ?_
                  refine va_get (D := D) (ci := 5) (v := .int (nI ((mks (growG (canR a4) (kidR (nI 1000000) a4 a5) tr a1 k)).length))) (C := RX6) (T := TX6) (N := 27) hx hb hts hin6 hown hK hP 0 rfl rfl 19 (by decide) fl128 (fun _ h9 => h9) rfl dX6_grow_271 ?_
                  have hl9 := mks_len (growG (canR a4) (kidR (nI 1000000) a4 a5) tr a1 k)
                  exact hret _ (true, (nI ((mks (growG (canR a4) (kidR (nI 1000000) a4 a5) tr a1 k)).length)), nI pl, (livL tr a4 (mks (growG (canR a4) (kidR (nI 1000000) a4 a5) tr a1 k)) (nI 0)), (nI ((limL (mks (growG (canR a4) (kidR (nI 1000000) a4 a5) tr a1 k)) (mks (growG (canR a4) (kidR (nI 1000000) a4 a5) tr a1 k)).length).length)), f20, f21, u9, f25) _ _ _ _ _ _ rfl ⟨fun h9 => by rw [hfin]; exact ⟨by rw [hl9], rfl, by rw [hl9], rfl, rfl, rfl, tv_rows hG, hu⟩, fun h9 => by rw [hfin] at h9; omega⟩ hP hD dX6_grow_274 hS (Nat.zero_le _) (Nat.zero_le _)
                · skip
                  refine lv_iconst (v := -1) hx hb dX6_grow_251 (by decide) ?_
                  exact hret _ (false, (nI ((growG (canR a4) (kidR (nI 1000000) a4 a5) tr a1 k).length)), i18, i22, i23, f20, f21, a24, f25) _ _ _ _ _ _ rfl ⟨fun h9 => by rw [hfin] at h9; omega, fun h9 => ⟨rfl, rfl⟩⟩ hP hD dX6_grow_252 hS (Nat.zero_le _) (Nat.zero_le _)
              · skip
                refine lv_iconst (v := nI 0) hx hb dX6_grow_62 (by decide) ?_
                refine lv_istore_n (lv' := [(2, .int (nI 0)), (0, .ref (r 0)), (1, .int (nI k))]) hx hb dX6_grow_63 rfl hl (by decide) rfl (fun ls hl => ?_)
                have lp64 : ∀ (n9 : Nat) (t : Nat) (T : List Nd) (g20 : Nat → Int32) (g21 : Nat → Int32) (g25 : Nat → Int32), tr - t < n9 → t ≤ tr → treeV g20 g21 T → T = kidsG (canR a4 nd.2.1) (kidR (nI 1000000) a4 a5 (nd.2.1 :: nd.2.2)) k (nd.2.1 :: nd.2.2) t (growG (canR a4) (kidR (nI 1000000) a4 a5) tr a1 k) → (0 < t → oldG nd.2.1 nd.2.2 = false) → ∀ (H : Heap) (locs : List Loc) (ls : Array Slot), va_P D vwCl (mw cI r (nI pl) (nI tr) i7 i8 i9 i13 i15 (bI false) i18 (nI T.length) i22 i23 a1 a2 a4 a5 a6 a10 a11 a12 a14 a16 g20 g21 a24 g25 a26) H → va_D A (mw cI r (nI pl) (nI tr) i7 i8 i9 i13 i15 (bI false) i18 (nI T.length) i22 i23 a1 a2 a4 a5 a6 a10 a11 a12 a14 a16 g20 g21 a24 g25 a26) → va_S A s.heap H locs → lv_has ls 5 [(0, .ref (r 0)), (1, .int (nI k)), (2, .int (nI t))] → W p l e ({ frames := 3, cells := 0, slots := 0, locals := 73 } : Room) s m args below meth c H locs 0 0 Q (F0 m 64 ls []) := by
                  intro n9
                  induction n9 with
                  | zero => intro t T g20 g21 g25 hm64; exact absurd hm64 (Nat.not_lt_zero _)
                  | succ n9 ih64 =>
                    intro t T g20 g21 g25 hm64 ht hT hTe hno H locs ls hP hD hS hl
                    have hTl : T.length ≤ 1001 := by rw [hTe]; exact (kids_len _ _ _ _ _ _).2 hGl.2
                    refine lv_iload_n hx hb dX6_grow_64 rfl (lv_at hl 2 rfl) ?_
                    refine lv_aload_n hx hb dX6_grow_65 rfl (lv_at hl 0 rfl) ?_
                    refine va_get (D := D) (ci := 5) (v := .int (nI tr)) (C := RX6) (T := TX6) (N := 27) hx hb hts hin6 hown hK hP 0 rfl rfl 3 (by decide) fl63 (fun _ h9 => h9) rfl dX6_grow_66 ?_
                    refine wk_icmp_ge (tgt := 235) hx hb (by omega) (by omega) dX6_grow_69 (by decide) (fun c69 => ?_) (fun c69 => ?_)
                    · skip
                      have hst : T = stepG (canR a4) (kidR (nI 1000000) a4 a5) tr (growG (canR a4) (kidR (nI 1000000) a4 a5) tr a1 k) k := by
                        rcases Nat.eq_zero_or_pos t with h0 | h0
                        · have htr0 : 0 = tr := by omega
                          subst h0
                          cases ho9 : oldG nd.2.1 nd.2.2 with
                          | true => rw [step_old hkG ho9]; exact hTe
                          | false => rw [step_new hkG ho9]; exact hTe.trans (congrArg (fun z => kidsG (canR a4 nd.2.1) (kidR (nI 1000000) a4 a5 (nd.2.1 :: nd.2.2)) k (nd.2.1 :: nd.2.2) z (growG (canR a4) (kidR (nI 1000000) a4 a5) tr a1 k)) (htr0))
                        · rw [step_new hkG (hno h0)]; exact hTe.trans (congrArg (fun z => kidsG (canR a4 nd.2.1) (kidR (nI 1000000) a4 a5 (nd.2.1 :: nd.2.2)) k (nd.2.1 :: nd.2.2) z (growG (canR a4) (kidR (nI 1000000) a4 a5) tr a1 k)) (show t = tr by omega))
                      refine lv_iinc (v := (nI (k + 1))) (lv' := [(1, .int (nI (k + 1))), (0, .ref (r 0)), (2, .int (nI t))]) hx hb dX6_grow_235 hl (k := 1) rfl (by exact nI_1 _) (by decide) rfl (fun ls hl => ?_)
                      refine lv_goto (tgt := 44) hx hb dX6_grow_238 (by decide) ?_
                      have hP : va_P D vwCl (mw cI r (nI pl) (nI tr) i7 i8 i9 i13 i15 (bI false) i18 (nI ((growG (canR a4) (kidR (nI 1000000) a4 a5) tr a1 (k + 1)).length)) i22 i23 a1 a2 a4 a5 a6 a10 a11 a12 a14 a16 g20 g21 a24 g25 a26) H := by rw [grow_s (by omega), ← hst]; exact hP
                      have hD : va_D A (mw cI r (nI pl) (nI tr) i7 i8 i9 i13 i15 (bI false) i18 (nI ((growG (canR a4) (kidR (nI 1000000) a4 a5) tr a1 (k + 1)).length)) i22 i23 a1 a2 a4 a5 a6 a10 a11 a12 a14 a16 g20 g21 a24 g25 a26) := by rw [grow_s (by omega), ← hst]; exact hD
                      exact ih44 (k + 1) g20 g21 g25 (by omega) (by rw [grow_s (by omega)]; have := step_len (canR a4) (kidR (nI 1000000) a4 a5) tr (growG (canR a4) (kidR (nI 1000000) a4 a5) tr a1 k) k; omega) (by rw [grow_s (by omega), ← hst]; exact hT) _ _ _ hP hD hS (lv_sub hl [1, 0] rfl)
                    · skip
                      have hkT : T[k]? = some nd := by rw [hTe]; exact kids_pre _ _ _ _ _ _ _ _ hkG
                      have hkl := lt_of_some hkT
                      have hkr := (hT k nd hkT).1
                      refine lv_aload_n hx hb dX6_grow_72 rfl (lv_at hl 0 rfl) ?_
                      refine lv_iload_n hx hb dX6_grow_73 rfl (lv_at hl 1 rfl) ?_
                      refine wk_Vi (As := [.int (nI k)]) (rest := []) ⟨hx, hb, hml, hown, hts⟩ (c_X6_isOld l D cI cJ cZ cA r (nI pl) (nI tr) i7 i8 i9 i13 i15 (bI false) i18 (nI T.length) i22 i23 a1 a2 a4 a5 a6 a10 a11 a12 a14 a16 g20 g21 a24 g25 a26 T k nd hT (by omega) hkT) (cwV 1 hts gX6_grow_X6_isOld rfl rfl rfl (by decide +kernel) ⟨Nat.le_of_ble_eq_true rfl, Nat.le_of_ble_eq_true rfl⟩) hK hP [0, 1, 2, 3, 4, 5, 6, 7, 8, 9, 10, 11, 12, 13, 14, 15] rfl 0 5 rfl rfl hS rfl hl.1 rfl (Nat.le_of_ble_eq_true rfl) dX6_grow_74 ⟨Nat.zero_le _, Nat.zero_le _⟩ (fun H locs hP hS => ?_)
                      refine wk_if_neb (tgt := 235) hx hb dX6_grow_77 (by decide) (fun c77 => ?_) (fun c77 => ?_)
                      · skip
                        have hst : T = stepG (canR a4) (kidR (nI 1000000) a4 a5) tr (growG (canR a4) (kidR (nI 1000000) a4 a5) tr a1 k) k := by
                          rcases Nat.eq_zero_or_pos t with h0 | h0
                          · subst h0
                            rw [step_old hkG c77]; exact hTe
                          · rw [hno h0] at c77; cases c77
                        refine lv_iinc (v := (nI (k + 1))) (lv' := [(1, .int (nI (k + 1))), (0, .ref (r 0)), (2, .int (nI t))]) hx hb dX6_grow_235 hl (k := 1) rfl (by exact nI_1 _) (by decide) rfl (fun ls hl => ?_)
                        refine lv_goto (tgt := 44) hx hb dX6_grow_238 (by decide) ?_
                        have hP : va_P D vwCl (mw cI r (nI pl) (nI tr) i7 i8 i9 i13 i15 (bI false) i18 (nI ((growG (canR a4) (kidR (nI 1000000) a4 a5) tr a1 (k + 1)).length)) i22 i23 a1 a2 a4 a5 a6 a10 a11 a12 a14 a16 g20 g21 a24 g25 a26) H := by rw [grow_s (by omega), ← hst]; exact hP
                        have hD : va_D A (mw cI r (nI pl) (nI tr) i7 i8 i9 i13 i15 (bI false) i18 (nI ((growG (canR a4) (kidR (nI 1000000) a4 a5) tr a1 (k + 1)).length)) i22 i23 a1 a2 a4 a5 a6 a10 a11 a12 a14 a16 g20 g21 a24 g25 a26) := by rw [grow_s (by omega), ← hst]; exact hD
                        exact ih44 (k + 1) g20 g21 g25 (by omega) (by rw [grow_s (by omega)]; have := step_len (canR a4) (kidR (nI 1000000) a4 a5) tr (growG (canR a4) (kidR (nI 1000000) a4 a5) tr a1 k) k; omega) (by rw [grow_s (by omega), ← hst]; exact hT) _ _ _ hP hD hS (lv_sub hl [1, 0] rfl)
                      · skip
                        refine lv_aload_n hx hb dX6_grow_80 rfl (lv_at hl 0 rfl) ?_
                        refine va_get (D := D) (ci := 5) (v := .int (nI T.length)) (C := RX6) (T := TX6) (N := 27) hx hb hts hin6 hown hK hP 0 rfl rfl 19 (by decide) fl128 (fun _ h9 => h9) rfl dX6_grow_81 ?_
                        refine lv_sipush (v := nI 1000) hx hb dX6_grow_84 (by decide) ?_
                        refine wk_icmp_gt (tgt := 235) hx hb (by omega) (by omega) dX6_grow_87 (by decide) (fun c87 => ?_) (fun c87 => ?_)
                        · skip
                          have hst : T = stepG (canR a4) (kidR (nI 1000000) a4 a5) tr (growG (canR a4) (kidR (nI 1000000) a4 a5) tr a1 k) k := by
                            rw [step_new hkG c77]
                            have h9 := kids_stop (can := canR a4 nd.2.1) (kid := kidR (nI 1000000) a4 a5 (nd.2.1 :: nd.2.2)) (k := k) (ch := nd.2.1 :: nd.2.2) (t := t) (T := (growG (canR a4) (kidR (nI 1000000) a4 a5) tr a1 k)) (by rw [← hTe]; omega) (tr - t)
                            exact hTe.trans (h9.symm.trans (congrArg (fun z => kidsG (canR a4 nd.2.1) (kidR (nI 1000000) a4 a5 (nd.2.1 :: nd.2.2)) k (nd.2.1 :: nd.2.2) z (growG (canR a4) (kidR (nI 1000000) a4 a5) tr a1 k)) (show t + (tr - t) = tr by omega)))
                          refine lv_iinc (v := (nI (k + 1))) (lv' := [(1, .int (nI (k + 1))), (0, .ref (r 0)), (2, .int (nI t))]) hx hb dX6_grow_235 hl (k := 1) rfl (by exact nI_1 _) (by decide) rfl (fun ls hl => ?_)
                          refine lv_goto (tgt := 44) hx hb dX6_grow_238 (by decide) ?_
                          have hP : va_P D vwCl (mw cI r (nI pl) (nI tr) i7 i8 i9 i13 i15 (bI false) i18 (nI ((growG (canR a4) (kidR (nI 1000000) a4 a5) tr a1 (k + 1)).length)) i22 i23 a1 a2 a4 a5 a6 a10 a11 a12 a14 a16 g20 g21 a24 g25 a26) H := by rw [grow_s (by omega), ← hst]; exact hP
                          have hD : va_D A (mw cI r (nI pl) (nI tr) i7 i8 i9 i13 i15 (bI false) i18 (nI ((growG (canR a4) (kidR (nI 1000000) a4 a5) tr a1 (k + 1)).length)) i22 i23 a1 a2 a4 a5 a6 a10 a11 a12 a14 a16 g20 g21 a24 g25 a26) := by rw [grow_s (by omega), ← hst]; exact hD
                          exact ih44 (k + 1) g20 g21 g25 (by omega) (by rw [grow_s (by omega)]; have := step_len (canR a4) (kidR (nI 1000000) a4 a5) tr (growG (canR a4) (kidR (nI 1000000) a4 a5) tr a1 k) k; omega) (by rw [grow_s (by omega), ← hst]; exact hT) _ _ _ hP hD hS (lv_sub hl [1, 0] rfl)
                        · skip
                          refine lv_aload_n hx hb dX6_grow_90 rfl (lv_at hl 0 rfl) ?_
                          refine lv_aload_n hx hb dX6_grow_91 rfl (lv_at hl 0 rfl) ?_
                          refine va_get (D := D) (ci := 5) (v := .ref (r 20)) (C := RX6) (T := TX6) (N := 27) hx hb hts hin6 hown hK hP 0 rfl rfl 20 (by decide) fl45 (fun _ h9 => h9) rfl dX6_grow_92 ?_
                          refine lv_iconst (v := nI 5) hx hb dX6_grow_95 (by decide) ?_
                          refine lv_iload_n hx hb dX6_grow_96 rfl (lv_at hl 1 rfl) ?_
                          refine wk_imul hx hb dX6_grow_97 ?_
                          refine lv_iload_n hx hb dX6_grow_98 rfl (lv_at hl 2 rfl) ?_
                          refine wk_Vi (As := [.ref (r 20), .int (nI (5 * k)), .int (nI t)]) (rest := []) ⟨hx, hb, hml, hown, hts⟩ (c_X6_canFire l D cI cJ cZ cA r (nI pl) i7 i8 i9 i13 i15 (bI false) i18 (nI T.length) i22 i23 a1 a2 a4 a5 a6 a10 a11 a12 a14 a16 g20 g21 a24 g25 a26 tr (r 20) 5005 (5 * k) g20 (nI t) (by omega) (by omega) (by omega)) (cwV 3 hts gX6_grow_X6_canFire rfl rfl rfl (by decide +kernel) ⟨Nat.le_of_ble_eq_true rfl, Nat.le_of_ble_eq_true rfl⟩) hK hP [0, 1, 2, 3, 4, 5, 6, 7, 8, 9, 10, 11, 12, 13, 14, 15, 11] rfl 0 5 rfl rfl hS rfl hl.1 rfl (Nat.le_of_ble_eq_true rfl) dX6_grow_99 ⟨Nat.zero_le _, Nat.zero_le _⟩ (fun H locs hP hS => ?_)
                          refine wk_if_eqb (tgt := 229) hx hb dX6_grow_102 (by decide) (fun c102 => ?_) (fun c102 => ?_)
                          · skip
                            refine lv_iinc (v := (nI (t + 1))) (lv' := [(2, .int (nI (t + 1))), (0, .ref (r 0)), (1, .int (nI k))]) hx hb dX6_grow_229 hl (k := 2) rfl (by exact nI_1 _) (by decide) rfl (fun ls hl => ?_)
                            refine lv_goto (tgt := 64) hx hb dX6_grow_232 (by decide) ?_
                            exact ih64 (t + 1) T g20 g21 g25 (by omega) (by omega) hT (by rw [kids_n (by rw [← canM_row htr (by omega) hkr]; exact c102)]; exact hTe) (fun _ => c77) _ _ _ hP hD hS (lv_sub hl [1, 2, 0] rfl)
                          · skip
                            refine lv_iconst (v := nI 0) hx hb dX6_grow_105 (by decide) ?_
                            refine lv_istore_n (lv' := [(3, .int (nI 0)), (0, .ref (r 0)), (1, .int (nI k)), (2, .int (nI t))]) hx hb dX6_grow_106 rfl hl (by decide) rfl (fun ls hl => ?_)
                            have lp107 : ∀ (n9 : Nat) (q : Nat), 5 - q < n9 → q ≤ 5 → ∀ (H : Heap) (locs : List Loc) (ls : Array Slot), va_P D vwCl (mw cI r (nI pl) (nI tr) i7 i8 i9 i13 i15 (bI false) i18 (nI T.length) i22 i23 a1 a2 a4 a5 a6 a10 a11 a12 a14 a16 g20 g21 a24 (cpN (fwA (nI 1000000) a4 a5 g20 k t) g25 q) a26) H → va_D A (mw cI r (nI pl) (nI tr) i7 i8 i9 i13 i15 (bI false) i18 (nI T.length) i22 i23 a1 a2 a4 a5 a6 a10 a11 a12 a14 a16 g20 g21 a24 (cpN (fwA (nI 1000000) a4 a5 g20 k t) g25 q) a26) → va_S A s.heap H locs → lv_has ls 5 [(0, .ref (r 0)), (1, .int (nI k)), (2, .int (nI t)), (3, .int (nI q))] → W p l e ({ frames := 3, cells := 0, slots := 0, locals := 73 } : Room) s m args below meth c H locs 0 0 Q (F0 m 107 ls []) := by
                              intro n9
                              induction n9 with
                              | zero => intro q hm107; exact absurd hm107 (Nat.not_lt_zero _)
                              | succ n9 ih107 =>
                                intro q hm107 hq H locs ls hP hD hS hl
                                refine lv_iload_n hx hb dX6_grow_107 rfl (lv_at hl 3 rfl) ?_
                                refine lv_iconst (v := nI 5) hx hb dX6_grow_108 (by decide) ?_
                                refine wk_icmp_ge (tgt := 172) hx hb (by omega) (by omega) dX6_grow_109 (by decide) (fun c109 => ?_) (fun c109 => ?_)
                                · skip
                                  have hq9 : q = 5 := by omega
                                  subst hq9
                                  refine lv_aload_n hx hb dX6_grow_172 rfl (lv_at hl 0 rfl) ?_
                                  refine lv_iload_n hx hb dX6_grow_173 rfl (lv_at hl 1 rfl) ?_
                                  refine wk_VvW (As := [.int (nI k)]) (rest := []) (wr := []) ⟨hx, hb, hml, hown, hts⟩ (c_X6_accelerate l D cI cJ cZ cA r (nI pl) (nI tr) i7 i8 i9 i13 i15 (bI false) i18 (nI T.length) i22 i23 a1 a2 a4 a5 a6 a10 a11 a12 a14 a16 g20 g21 a24 (cpN (fwA (nI 1000000) a4 a5 g20 k t) g25 5) a26 H.size (fwM (nI 1000000) a4 a5 nd.2.1 t) T k nd hT (by omega) hkT (fun q hq => by rw [cpN_lt hq]; exact fwA_row (hkr q hq))) (cwV 1 hts gX6_grow_X6_accelerate rfl rfl rfl (by decide +kernel) ⟨Nat.le_of_ble_eq_true rfl, Nat.le_of_ble_eq_true rfl⟩) hK hP hD hA [0, 1, 2, 3, 4, 5, 6, 7, 8, 9, 10, 11, 12, 13, 14, 15] rfl (by decide) [] rfl (by decide) (by decide) 0 5 rfl rfl hS rfl hl.1 rfl (Nat.le_of_ble_eq_true rfl) dX6_grow_174 ⟨Nat.le_of_ble_eq_true rfl, Nat.le_of_ble_eq_true rfl⟩ (fun u9 H locs hu hP hD hS => ?_)
                                  have hP : va_P D vwCl (mw cI r (nI pl) (nI tr) i7 i8 i9 i13 i15 (bI false) i18 (nI T.length) i22 i23 a1 a2 a4 a5 a6 a10 a11 a12 a14 a16 g20 g21 a24 u9 a26) H := hP
                                  have hD : va_D A (mw cI r (nI pl) (nI tr) i7 i8 i9 i13 i15 (bI false) i18 (nI T.length) i22 i23 a1 a2 a4 a5 a6 a10 a11 a12 a14 a16 g20 g21 a24 u9 a26) := hD
                                  refine lv_iconst (v := nI 0) hx hb dX6_grow_177 (by decide) ?_
                                  refine lv_istore_n (lv' := [(3, .int (nI 0)), (0, .ref (r 0)), (1, .int (nI k)), (2, .int (nI t))]) hx hb dX6_grow_178 rfl hl (by decide) rfl (fun ls hl => ?_)
                                  have lp179 : ∀ (n9 : Nat) (q : Nat), 5 - q < n9 → q ≤ 5 → ∀ (H : Heap) (locs : List Loc) (ls : Array Slot), va_P D vwCl (mw cI r (nI pl) (nI tr) i7 i8 i9 i13 i15 (bI false) i18 (nI T.length) i22 i23 a1 a2 a4 a5 a6 a10 a11 a12 a14 a16 (wrN g20 u9 (5 * T.length) q) g21 a24 u9 a26) H → va_D A (mw cI r (nI pl) (nI tr) i7 i8 i9 i13 i15 (bI false) i18 (nI T.length) i22 i23 a1 a2 a4 a5 a6 a10 a11 a12 a14 a16 (wrN g20 u9 (5 * T.length) q) g21 a24 u9 a26) → va_S A s.heap H locs → lv_has ls 5 [(0, .ref (r 0)), (1, .int (nI k)), (2, .int (nI t)), (3, .int (nI q))] → W p l e ({ frames := 3, cells := 0, slots := 0, locals := 73 } : Room) s m args below meth c H locs 0 0 Q (F0 m 179 ls []) := by
                                    intro n9
                                    induction n9 with
                                    | zero => intro q hm179; exact absurd hm179 (Nat.not_lt_zero _)
                                    | succ n9 ih179 =>
                                      intro q hm179 hq H locs ls hP hD hS hl
                                      refine lv_iload_n hx hb dX6_grow_179 rfl (lv_at hl 3 rfl) ?_
                                      refine lv_iconst (v := nI 5) hx hb dX6_grow_180 (by decide) ?_
                                      refine wk_icmp_ge (tgt := 209) hx hb (by omega) (by omega) dX6_grow_181 (by decide) (fun c181 => ?_) (fun c181 => ?_)
                                      · skip
                                        have hq9 : q = 5 := by omega
                                        subst hq9
                                        refine lv_aload_n hx hb dX6_grow_209 rfl (lv_at hl 0 rfl) ?_
                                        refine va_get (D := D) (ci := 5) (v := .ref (r 21)) (C := RX6) (T := TX6) (N := 27) hx hb hts hin6 hown hK hP 0 rfl rfl 21 (by decide) fl48 (fun _ h9 => h9) rfl dX6_grow_210 ?_
                                        refine lv_aload_n hx hb dX6_grow_213 rfl (lv_at hl 0 rfl) ?_
                                        refine va_get (D := D) (ci := 5) (v := .int (nI T.length)) (C := RX6) (T := TX6) (N := 27) hx hb hts hin6 hown hK hP 0 rfl rfl 19 (by decide) fl128 (fun _ h9 => h9) rfl dX6_grow_214 ?_
                                        refine lv_iload_n hx hb dX6_grow_217 rfl (lv_at hl 1 rfl) ?_
                                        refine wk_iast hx hb hK hP hD hS 12 0 rfl rfl (i := T.length) (by omega) (by omega) dX6_grow_218 (fun H locs hP hD hS => ?_)
                                        have hP : va_P D vwCl (mw cI r (nI pl) (nI tr) i7 i8 i9 i13 i15 (bI false) i18 (nI T.length) i22 i23 a1 a2 a4 a5 a6 a10 a11 a12 a14 a16 (wrN g20 u9 (5 * T.length) 5) (upd g21 T.length (nI k)) a24 u9 a26) H := hP
                                        have hD : va_D A (mw cI r (nI pl) (nI tr) i7 i8 i9 i13 i15 (bI false) i18 (nI T.length) i22 i23 a1 a2 a4 a5 a6 a10 a11 a12 a14 a16 (wrN g20 u9 (5 * T.length) 5) (upd g21 T.length (nI k)) a24 u9 a26) := hD
                                        refine lv_aload_n hx hb dX6_grow_219 rfl (lv_at hl 0 rfl) ?_
                                        refine lv_dup hx hb dX6_grow_220 rfl ?_
                                        refine va_get (D := D) (ci := 5) (v := .int (nI T.length)) (C := RX6) (T := TX6) (N := 27) hx hb hts hin6 hown hK hP 0 rfl rfl 19 (by decide) fl128 (fun _ h9 => h9) rfl dX6_grow_221 ?_
                                        refine lv_iconst (v := nI 1) hx hb dX6_grow_224 (by decide) ?_
                                        refine wk_iadd hx hb dX6_grow_225 ?_
                                        refine va_put (D := D) (ci := 5) (v := .int (nI (T.length + 1))) (ty := .int) (C := RX6) (T := TX6) (N := 27) hx hb hts hin6 tyX6 tyX6_ok nmX6 hown hK hP hD hS 0 rfl rfl 19 (by decide) fl128 (fun _ h9 => h9) rfl (by decide +kernel) rfl rfl (Nat.le_of_ble_eq_true rfl) dX6_grow_226 (fun H locs hP hD hS => ?_)
                                        have hP : va_P D vwCl (mw cI r (nI pl) (nI tr) i7 i8 i9 i13 i15 (bI false) i18 (nI (T.length + 1)) i22 i23 a1 a2 a4 a5 a6 a10 a11 a12 a14 a16 (wrN g20 u9 (5 * T.length) 5) (upd g21 T.length (nI k)) a24 u9 a26) H := hP
                                        have hD : va_D A (mw cI r (nI pl) (nI tr) i7 i8 i9 i13 i15 (bI false) i18 (nI (T.length + 1)) i22 i23 a1 a2 a4 a5 a6 a10 a11 a12 a14 a16 (wrN g20 u9 (5 * T.length) 5) (upd g21 T.length (nI k)) a24 u9 a26) := hD
                                        refine lv_iinc (v := (nI (t + 1))) (lv' := [(2, .int (nI (t + 1))), (0, .ref (r 0)), (1, .int (nI k)), (3, .int (nI 5))]) hx hb dX6_grow_229 hl (k := 2) rfl (by exact nI_1 _) (by decide) rfl (fun ls hl => ?_)
                                        refine lv_goto (tgt := 64) hx hb dX6_grow_232 (by decide) ?_
                                        have hP : va_P D vwCl (mw cI r (nI pl) (nI tr) i7 i8 i9 i13 i15 (bI false) i18 (nI (T ++ [(k, kidR (nI 1000000) a4 a5 (nd.2.1 :: nd.2.2) t, nd.2.1 :: nd.2.2)]).length) i22 i23 a1 a2 a4 a5 a6 a10 a11 a12 a14 a16 (wrN g20 u9 (5 * T.length) 5) (upd g21 T.length (nI k)) a24 u9 a26) H := by rw [List.length_append]; exact hP
                                        have hD : va_D A (mw cI r (nI pl) (nI tr) i7 i8 i9 i13 i15 (bI false) i18 (nI (T ++ [(k, kidR (nI 1000000) a4 a5 (nd.2.1 :: nd.2.2) t, nd.2.1 :: nd.2.2)]).length) i22 i23 a1 a2 a4 a5 a6 a10 a11 a12 a14 a16 (wrN g20 u9 (5 * T.length) 5) (upd g21 T.length (nI k)) a24 u9 a26) := by rw [List.length_append]; exact hD
                                        exact ih64 (t + 1) (T ++ [(k, kidR (nI 1000000) a4 a5 (nd.2.1 :: nd.2.2) t, nd.2.1 :: nd.2.2)]) (wrN g20 u9 (5 * T.length) 5) (upd g21 T.length (nI k)) u9 (by omega) (by omega) (tv_push hT hkT hu) (by rw [kids_y (by rw [← hTe]; omega) (by rw [← canM_row htr (by omega) hkr]; exact c102), ← hTe]) (fun _ => c77) _ _ _ hP hD hS (lv_sub hl [1, 2, 0] rfl)
                                      · skip
                                        refine lv_aload_n hx hb dX6_grow_184 rfl (lv_at hl 0 rfl) ?_
                                        refine va_get (D := D) (ci := 5) (v := .ref (r 20)) (C := RX6) (T := TX6) (N := 27) hx hb hts hin6 hown hK hP 0 rfl rfl 20 (by decide) fl45 (fun _ h9 => h9) rfl dX6_grow_185 ?_
                                        refine lv_iconst (v := nI 5) hx hb dX6_grow_188 (by decide) ?_
                                        refine lv_aload_n hx hb dX6_grow_189 rfl (lv_at hl 0 rfl) ?_
                                        refine va_get (D := D) (ci := 5) (v := .int (nI T.length)) (C := RX6) (T := TX6) (N := 27) hx hb hts hin6 hown hK hP 0 rfl rfl 19 (by decide) fl128 (fun _ h9 => h9) rfl dX6_grow_190 ?_
                                        refine wk_imul hx hb dX6_grow_193 ?_
                                        refine lv_iload_n hx hb dX6_grow_194 rfl (lv_at hl 3 rfl) ?_
                                        refine wk_iadd hx hb dX6_grow_195 ?_
                                        refine lv_aload_n hx hb dX6_grow_196 rfl (lv_at hl 0 rfl) ?_
                                        refine va_get (D := D) (ci := 5) (v := .ref (r 25)) (C := RX6) (T := TX6) (N := 27) hx hb hts hin6 hown hK hP 0 rfl rfl 25 (by decide) fl54 (fun _ h9 => h9) rfl dX6_grow_197 ?_
                                        refine lv_iload_n hx hb dX6_grow_200 rfl (lv_at hl 3 rfl) ?_
                                        refine wk_iald hx hb hK hP 14 0 rfl rfl (i := q) (by omega) (by omega) dX6_grow_201 ?_
                                        refine wk_iast hx hb hK hP hD hS 11 0 rfl rfl (i := (5 * T.length) + q) (by omega) (by omega) dX6_grow_202 (fun H locs hP hD hS => ?_)
                                        have hP : va_P D vwCl (mw cI r (nI pl) (nI tr) i7 i8 i9 i13 i15 (bI false) i18 (nI T.length) i22 i23 a1 a2 a4 a5 a6 a10 a11 a12 a14 a16 (upd (wrN g20 u9 (5 * T.length) q) ((5 * T.length) + q) (u9 q)) g21 a24 u9 a26) H := hP
                                        have hD : va_D A (mw cI r (nI pl) (nI tr) i7 i8 i9 i13 i15 (bI false) i18 (nI T.length) i22 i23 a1 a2 a4 a5 a6 a10 a11 a12 a14 a16 (upd (wrN g20 u9 (5 * T.length) q) ((5 * T.length) + q) (u9 q)) g21 a24 u9 a26) := hD
                                        refine lv_iinc (v := (nI (q + 1))) (lv' := [(3, .int (nI (q + 1))), (0, .ref (r 0)), (1, .int (nI k)), (2, .int (nI t))]) hx hb dX6_grow_203 hl (k := 3) rfl (by exact nI_1 _) (by decide) rfl (fun ls hl => ?_)
                                        refine lv_goto (tgt := 179) hx hb dX6_grow_206 (by decide) ?_
                                        have hP : va_P D vwCl (mw cI r (nI pl) (nI tr) i7 i8 i9 i13 i15 (bI false) i18 (nI T.length) i22 i23 a1 a2 a4 a5 a6 a10 a11 a12 a14 a16 (wrN g20 u9 (5 * T.length) (q + 1)) g21 a24 u9 a26) H := by rw [← wrN_s]; exact hP
                                        have hD : va_D A (mw cI r (nI pl) (nI tr) i7 i8 i9 i13 i15 (bI false) i18 (nI T.length) i22 i23 a1 a2 a4 a5 a6 a10 a11 a12 a14 a16 (wrN g20 u9 (5 * T.length) (q + 1)) g21 a24 u9 a26) := by rw [← wrN_s]; exact hD
                                        exact ih179 (q + 1) (by omega) (by omega) _ _ _ hP hD hS (lv_sub hl [1, 2, 3, 0] rfl)
                                  have hP : va_P D vwCl (mw cI r (nI pl) (nI tr) i7 i8 i9 i13 i15 (bI false) i18 (nI T.length) i22 i23 a1 a2 a4 a5 a6 a10 a11 a12 a14 a16 (wrN g20 u9 (5 * T.length) 0) g21 a24 u9 a26) H := by rw [wrN_0]; exact hP
                                  have hD : va_D A (mw cI r (nI pl) (nI tr) i7 i8 i9 i13 i15 (bI false) i18 (nI T.length) i22 i23 a1 a2 a4 a5 a6 a10 a11 a12 a14 a16 (wrN g20 u9 (5 * T.length) 0) g21 a24 u9 a26) := by rw [wrN_0]; exact hD
                                  exact lp179 _ 0 (Nat.lt_succ_self _) (by omega) _ _ _ hP hD hS (lv_sub hl [1, 2, 3, 0] rfl)
                                · skip
                                  refine lv_aload_n hx hb dX6_grow_112 rfl (lv_at hl 0 rfl) ?_
                                  refine va_get (D := D) (ci := 5) (v := .ref (r 20)) (C := RX6) (T := TX6) (N := 27) hx hb hts hin6 hown hK hP 0 rfl rfl 20 (by decide) fl45 (fun _ h9 => h9) rfl dX6_grow_113 ?_
                                  refine lv_iconst (v := nI 5) hx hb dX6_grow_116 (by decide) ?_
                                  refine lv_iload_n hx hb dX6_grow_117 rfl (lv_at hl 1 rfl) ?_
                                  refine wk_imul hx hb dX6_grow_118 ?_
                                  refine lv_iload_n hx hb dX6_grow_119 rfl (lv_at hl 3 rfl) ?_
                                  refine wk_iadd hx hb dX6_grow_120 ?_
                                  refine wk_iald hx hb hK hP 11 0 rfl rfl (i := (5 * k) + q) (by omega) (by omega) dX6_grow_121 ?_
                                  refine lv_istore (lv' := [(4, .int (g20 ((5 * k) + q))), (0, .ref (r 0)), (1, .int (nI k)), (2, .int (nI t)), (3, .int (nI q))]) hx hb dX6_grow_122 hl (by decide) rfl (fun ls hl => ?_)
                                  refine lv_aload_n hx hb dX6_grow_124 rfl (lv_at hl 1 rfl) ?_
                                  refine va_get (D := D) (ci := 5) (v := .ref (r 25)) (C := RX6) (T := TX6) (N := 27) hx hb hts hin6 hown hK hP 0 rfl rfl 25 (by decide) fl54 (fun _ h9 => h9) rfl dX6_grow_125 ?_
                                  refine lv_iload_n hx hb dX6_grow_128 rfl (lv_at hl 4 rfl) ?_
                                  refine lv_iload hx hb dX6_grow_129 (lv_at hl 0 rfl) ?_
                                  refine wk_ldc (v := nI 1000000) hx hb hown (hts (.constant RX6 123 (nI 1000000)) (by decide +kernel)) dX6_grow_131 ?_
                                  refine lv_icmp_ne (tgt := 141) hx hb dX6_grow_133 (by decide) (fun c133 => ?_) (fun c133 => ?_)
                                  · skip
                                    refine lv_iload hx hb dX6_grow_141 (lv_at hl 0 rfl) ?_
                                    refine lv_aload_n hx hb dX6_grow_143 rfl (lv_at hl 1 rfl) ?_
                                    refine va_get (D := D) (ci := 5) (v := .ref (r 5)) (C := RX6) (T := TX6) (N := 27) hx hb hts hin6 hown hK hP 0 rfl rfl 5 (by decide) fl19 (fun _ h9 => h9) rfl dX6_grow_144 ?_
                                    refine lv_iconst (v := nI 5) hx hb dX6_grow_147 (by decide) ?_
                                    refine lv_iload_n hx hb dX6_grow_148 rfl (lv_at hl 3 rfl) ?_
                                    refine wk_imul hx hb dX6_grow_149 ?_
                                    refine lv_iload_n hx hb dX6_grow_150 rfl (lv_at hl 4 rfl) ?_
                                    refine wk_iadd hx hb dX6_grow_151 ?_
                                    refine wk_iald hx hb hK hP 4 0 rfl rfl (i := (5 * t) + q) (by omega) (by omega) dX6_grow_152 ?_
                                    refine lv_iadd hx hb dX6_grow_153 ?_
                                    refine lv_aload_n hx hb dX6_grow_154 rfl (lv_at hl 1 rfl) ?_
                                    refine va_get (D := D) (ci := 5) (v := .ref (r 4)) (C := RX6) (T := TX6) (N := 27) hx hb hts hin6 hown hK hP 0 rfl rfl 4 (by decide) fl16 (fun _ h9 => h9) rfl dX6_grow_155 ?_
                                    refine lv_iconst (v := nI 5) hx hb dX6_grow_158 (by decide) ?_
                                    refine lv_iload_n hx hb dX6_grow_159 rfl (lv_at hl 3 rfl) ?_
                                    refine wk_imul hx hb dX6_grow_160 ?_
                                    refine lv_iload_n hx hb dX6_grow_161 rfl (lv_at hl 4 rfl) ?_
                                    refine wk_iadd hx hb dX6_grow_162 ?_
                                    refine wk_iald hx hb hK hP 3 0 rfl rfl (i := (5 * t) + q) (by omega) (by omega) dX6_grow_163 ?_
                                    refine lv_isub hx hb dX6_grow_164 ?_
                                    refine wk_iast hx hb hK hP hD hS 14 0 rfl rfl (i := q) (by omega) (by omega) dX6_grow_165 (fun H locs hP hD hS => ?_)
                                    have hP : va_P D vwCl (mw cI r (nI pl) (nI tr) i7 i8 i9 i13 i15 (bI false) i18 (nI T.length) i22 i23 a1 a2 a4 a5 a6 a10 a11 a12 a14 a16 g20 g21 a24 (upd (cpN (fwA (nI 1000000) a4 a5 g20 k t) g25 q) q (((g20 ((5 * k) + q)) + (a5 ((5 * t) + q))) - (a4 ((5 * t) + q)))) a26) H := hP
                                    have hD : va_D A (mw cI r (nI pl) (nI tr) i7 i8 i9 i13 i15 (bI false) i18 (nI T.length) i22 i23 a1 a2 a4 a5 a6 a10 a11 a12 a14 a16 g20 g21 a24 (upd (cpN (fwA (nI 1000000) a4 a5 g20 k t) g25 q) q (((g20 ((5 * k) + q)) + (a5 ((5 * t) + q))) - (a4 ((5 * t) + q)))) a26) := hD
                                    refine lv_iinc (v := (nI (q + 1))) (lv' := [(3, .int (nI (q + 1))), (4, .int (g20 ((5 * k) + q))), (0, .ref (r 0)), (1, .int (nI k)), (2, .int (nI t))]) hx hb dX6_grow_166 hl (k := 4) rfl (by exact nI_1 _) (by decide) rfl (fun ls hl => ?_)
                                    refine lv_goto (tgt := 107) hx hb dX6_grow_169 (by decide) ?_
                                    have hP : va_P D vwCl (mw cI r (nI pl) (nI tr) i7 i8 i9 i13 i15 (bI false) i18 (nI T.length) i22 i23 a1 a2 a4 a5 a6 a10 a11 a12 a14 a16 g20 g21 a24 (cpN (fwA (nI 1000000) a4 a5 g20 k t) g25 (q + 1)) a26) H := by rw [← cpN_s, fwA_n c133]; exact hP
                                    have hD : va_D A (mw cI r (nI pl) (nI tr) i7 i8 i9 i13 i15 (bI false) i18 (nI T.length) i22 i23 a1 a2 a4 a5 a6 a10 a11 a12 a14 a16 g20 g21 a24 (cpN (fwA (nI 1000000) a4 a5 g20 k t) g25 (q + 1)) a26) := by rw [← cpN_s, fwA_n c133]; exact hD
                                    exact ih107 (q + 1) (by omega) (by omega) _ _ _ hP hD hS (lv_sub hl [2, 3, 4, 0] rfl)
                                  · skip
                                    refine wk_ldc (v := nI 1000000) hx hb hown (hts (.constant RX6 123 (nI 1000000)) (by decide +kernel)) dX6_grow_136 ?_
                                    refine lv_goto (tgt := 165) hx hb dX6_grow_138 (by decide) ?_
                                    refine wk_iast hx hb hK hP hD hS 14 0 rfl rfl (i := q) (by omega) (by omega) dX6_grow_165 (fun H locs hP hD hS => ?_)
                                    have hP : va_P D vwCl (mw cI r (nI pl) (nI tr) i7 i8 i9 i13 i15 (bI false) i18 (nI T.length) i22 i23 a1 a2 a4 a5 a6 a10 a11 a12 a14 a16 g20 g21 a24 (upd (cpN (fwA (nI 1000000) a4 a5 g20 k t) g25 q) q (nI 1000000)) a26) H := hP
                                    have hD : va_D A (mw cI r (nI pl) (nI tr) i7 i8 i9 i13 i15 (bI false) i18 (nI T.length) i22 i23 a1 a2 a4 a5 a6 a10 a11 a12 a14 a16 g20 g21 a24 (upd (cpN (fwA (nI 1000000) a4 a5 g20 k t) g25 q) q (nI 1000000)) a26) := hD
                                    refine lv_iinc (v := (nI (q + 1))) (lv' := [(3, .int (nI (q + 1))), (4, .int (g20 ((5 * k) + q))), (0, .ref (r 0)), (1, .int (nI k)), (2, .int (nI t))]) hx hb dX6_grow_166 hl (k := 4) rfl (by exact nI_1 _) (by decide) rfl (fun ls hl => ?_)
                                    refine lv_goto (tgt := 107) hx hb dX6_grow_169 (by decide) ?_
                                    have hP : va_P D vwCl (mw cI r (nI pl) (nI tr) i7 i8 i9 i13 i15 (bI false) i18 (nI T.length) i22 i23 a1 a2 a4 a5 a6 a10 a11 a12 a14 a16 g20 g21 a24 (cpN (fwA (nI 1000000) a4 a5 g20 k t) g25 (q + 1)) a26) H := by rw [← cpN_s, fwA_y c133]; exact hP
                                    have hD : va_D A (mw cI r (nI pl) (nI tr) i7 i8 i9 i13 i15 (bI false) i18 (nI T.length) i22 i23 a1 a2 a4 a5 a6 a10 a11 a12 a14 a16 g20 g21 a24 (cpN (fwA (nI 1000000) a4 a5 g20 k t) g25 (q + 1)) a26) := by rw [← cpN_s, fwA_y c133]; exact hD
                                    exact ih107 (q + 1) (by omega) (by omega) _ _ _ hP hD hS (lv_sub hl [2, 3, 4, 0] rfl)
                            have hP : va_P D vwCl (mw cI r (nI pl) (nI tr) i7 i8 i9 i13 i15 (bI false) i18 (nI T.length) i22 i23 a1 a2 a4 a5 a6 a10 a11 a12 a14 a16 g20 g21 a24 (cpN (fwA (nI 1000000) a4 a5 g20 k t) g25 0) a26) H := by rw [cpN_0]; exact hP
                            have hD : va_D A (mw cI r (nI pl) (nI tr) i7 i8 i9 i13 i15 (bI false) i18 (nI T.length) i22 i23 a1 a2 a4 a5 a6 a10 a11 a12 a14 a16 g20 g21 a24 (cpN (fwA (nI 1000000) a4 a5 g20 k t) g25 0) a26) := by rw [cpN_0]; exact hD
                            exact lp107 _ 0 (Nat.lt_succ_self _) (by omega) _ _ _ hP hD hS (lv_sub hl [1, 2, 3, 0] rfl)
                exact lp64 _ 0 (growG (canR a4) (kidR (nI 1000000) a4 a5) tr a1 k) f20 f21 f25 (Nat.lt_succ_self _) (by omega) hG rfl (fun h => absurd h (Nat.lt_irrefl 0)) _ _ _ hP hD hS (lv_sub hl [1, 2, 0] rfl)
        have hP : va_P D vwCl (mw cI r (nI pl) (nI tr) i7 i8 i9 i13 i15 (bI false) i18 (nI ((growG (canR a4) (kidR (nI 1000000) a4 a5) tr a1 0).length)) i22 i23 a1 a2 a4 a5 a6 a10 a11 a12 a14 a16 (cpN a1 a20 5) (upd a21 0 (-1)) a24 a25 a26) H := by skip; exact hP
        have hD : va_D A (mw cI r (nI pl) (nI tr) i7 i8 i9 i13 i15 (bI false) i18 (nI ((growG (canR a4) (kidR (nI 1000000) a4 a5) tr a1 0).length)) i22 i23 a1 a2 a4 a5 a6 a10 a11 a12 a14 a16 (cpN a1 a20 5) (upd a21 0 (-1)) a24 a25 a26) := by skip; exact hD
        exact lp44 _ 0 (cpN a1 a20 5) (upd a21 0 (-1)) a25 (Nat.lt_succ_self _) (Nat.zero_le _) (tv_root (fun q hq => cpN_lt hq) pk_us) _ _ _ hP hD hS (lv_sub hl [1, 0] rfl)
      · skip
        refine lv_aload_n hx hb dX6_grow_24 rfl (lv_at hl 0 rfl) ?_
        refine va_get (D := D) (ci := 5) (v := .ref (r 20)) (C := RX6) (T := TX6) (N := 27) hx hb hts hin6 hown hK hP 0 rfl rfl 20 (by decide) fl45 (fun _ h9 => h9) rfl dX6_grow_25 ?_
        refine lv_iload_n hx hb dX6_grow_28 rfl (lv_at hl 1 rfl) ?_
        refine lv_aload_n hx hb dX6_grow_29 rfl (lv_at hl 0 rfl) ?_
        refine va_get (D := D) (ci := 5) (v := .ref (r 1)) (C := RX6) (T := TX6) (N := 27) hx hb hts hin6 hown hK hP 0 rfl rfl 1 (by decide) fl7 (fun _ h9 => h9) rfl dX6_grow_30 ?_
        refine lv_iload_n hx hb dX6_grow_33 rfl (lv_at hl 1 rfl) ?_
        refine wk_iald hx hb hK hP 1 0 rfl rfl (i := q) (by omega) (by omega) dX6_grow_34 ?_
        refine wk_iast hx hb hK hP hD hS 11 0 rfl rfl (i := q) (by omega) (by omega) dX6_grow_35 (fun H locs hP hD hS => ?_)
        have hP : va_P D vwCl (mw cI r (nI pl) (nI tr) i7 i8 i9 i13 i15 (bI false) i18 (nI 1) i22 i23 a1 a2 a4 a5 a6 a10 a11 a12 a14 a16 (upd (cpN a1 a20 q) q (a1 q)) (upd a21 0 (-1)) a24 a25 a26) H := hP
        have hD : va_D A (mw cI r (nI pl) (nI tr) i7 i8 i9 i13 i15 (bI false) i18 (nI 1) i22 i23 a1 a2 a4 a5 a6 a10 a11 a12 a14 a16 (upd (cpN a1 a20 q) q (a1 q)) (upd a21 0 (-1)) a24 a25 a26) := hD
        refine lv_iinc (v := (nI (q + 1))) (lv' := [(1, .int (nI (q + 1))), (0, .ref (r 0))]) hx hb dX6_grow_36 hl (k := 1) rfl (by exact nI_1 _) (by decide) rfl (fun ls hl => ?_)
        refine lv_goto (tgt := 19) hx hb dX6_grow_39 (by decide) ?_
        have hP : va_P D vwCl (mw cI r (nI pl) (nI tr) i7 i8 i9 i13 i15 (bI false) i18 (nI 1) i22 i23 a1 a2 a4 a5 a6 a10 a11 a12 a14 a16 (cpN a1 a20 (q + 1)) (upd a21 0 (-1)) a24 a25 a26) H := by rw [← cpN_s]; exact hP
        have hD : va_D A (mw cI r (nI pl) (nI tr) i7 i8 i9 i13 i15 (bI false) i18 (nI 1) i22 i23 a1 a2 a4 a5 a6 a10 a11 a12 a14 a16 (cpN a1 a20 (q + 1)) (upd a21 0 (-1)) a24 a25 a26) := by rw [← cpN_s]; exact hD
        exact ih19 (q + 1) (by omega) (by omega) _ _ _ hP hD hS (lv_sub hl [1, 0] rfl)
  have hP : va_P D vwCl (mw cI r (nI pl) (nI tr) i7 i8 i9 i13 i15 (bI false) i18 (nI 1) i22 i23 a1 a2 a4 a5 a6 a10 a11 a12 a14 a16 (cpN a1 a20 0) (upd a21 0 (-1)) a24 a25 a26) H := by rw [cpN_0]; exact hP
  have hD : va_D A (mw cI r (nI pl) (nI tr) i7 i8 i9 i13 i15 (bI false) i18 (nI 1) i22 i23 a1 a2 a4 a5 a6 a10 a11 a12 a14 a16 (cpN a1 a20 0) (upd a21 0 (-1)) a24 a25 a26) := by rw [cpN_0]; exact hD
  exact lp19 _ 0 (Nat.lt_succ_self _) (by omega) _ _ _ hP hD hS (lv_sub hl [1, 0] rfl)
end
