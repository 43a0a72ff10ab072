section
-- ===== PART A: goes FIRST, ahead of the names: the tables' words, and 'selects' of the private methods out of them =====
/-- a private method of a class that the tables say can be made, by its rows of tables_1 -/
def lw_okq (q : MethodName × Nat) : Prop := (q.1.cls ≠ "java/lang/invoke/MethodHandle" ∧ q.1.cls ≠ "java/lang/invoke/VarHandle") ∧ Cond.instantiable q.1.cls q.2 ∈ tables_1 ∧ Cond.privateMethod q.1 ∈ tables_1 ∧ Cond.instanceMethod q.1 ∈ tables_1
theorem lw_p0 : lw_okq (⟨"BinderParcels$Binder", "start", "(I)I"⟩, 2) := ⟨⟨by decide +kernel, by decide +kernel⟩, List.mem_of_getElem? (i := 25) (by decide +kernel), List.mem_of_getElem? (i := 187) (by decide +kernel), List.mem_of_getElem? (i := 188) (by decide +kernel)⟩
theorem lw_p1 : lw_okq (⟨"BinderParcels$Binder", "placeOf", "(I)I"⟩, 2) := ⟨⟨by decide +kernel, by decide +kernel⟩, List.mem_of_getElem? (i := 25) (by decide +kernel), List.mem_of_getElem? (i := 194) (by decide +kernel), List.mem_of_getElem? (i := 195) (by decide +kernel)⟩
theorem lw_p2 : lw_okq (⟨"BinderParcels$Binder", "end", "(II)I"⟩, 2) := ⟨⟨by decide +kernel, by decide +kernel⟩, List.mem_of_getElem? (i := 25) (by decide +kernel), List.mem_of_getElem? (i := 198) (by decide +kernel), List.mem_of_getElem? (i := 199) (by decide +kernel)⟩
theorem lw_p3 : lw_okq (⟨"BinderParcels$Binder", "removeRange", "(II)V"⟩, 2) := ⟨⟨by decide +kernel, by decide +kernel⟩, List.mem_of_getElem? (i := 25) (by decide +kernel), List.mem_of_getElem? (i := 205) (by decide +kernel), List.mem_of_getElem? (i := 206) (by decide +kernel)⟩
theorem lw_p4 : lw_okq (⟨"BinderParcels", "tried", "(II)LBinderParcels$Binder;"⟩, 6) := ⟨⟨by decide +kernel, by decide +kernel⟩, List.mem_of_getElem? (i := 11) (by decide +kernel), List.mem_of_getElem? (i := 369) (by decide +kernel), List.mem_of_getElem? (i := 370) (by decide +kernel)⟩
theorem lw_p5 : lw_okq (⟨"BinderParcelsModel", "findFault", "()I"⟩, 13) := ⟨⟨by decide +kernel, by decide +kernel⟩, List.mem_of_getElem? (i := 437) (by decide +kernel), List.mem_of_getElem? (i := 487) (by decide +kernel), List.mem_of_getElem? (i := 488) (by decide +kernel)⟩
theorem lw_p6 : lw_okq (⟨"BinderParcelsModel", "comesTwice", "()Z"⟩, 13) := ⟨⟨by decide +kernel, by decide +kernel⟩, List.mem_of_getElem? (i := 437) (by decide +kernel), List.mem_of_getElem? (i := 497) (by decide +kernel), List.mem_of_getElem? (i := 498) (by decide +kernel)⟩
theorem lw_p7 : lw_okq (⟨"BinderParcelsModel", "record", "()V"⟩, 13) := ⟨⟨by decide +kernel, by decide +kernel⟩, List.mem_of_getElem? (i := 437) (by decide +kernel), List.mem_of_getElem? (i := 501) (by decide +kernel), List.mem_of_getElem? (i := 502) (by decide +kernel)⟩
theorem lw_p8 : lw_okq (⟨"BinderParcelsModel", "doParcel", "(IIZ)V"⟩, 13) := ⟨⟨by decide +kernel, by decide +kernel⟩, List.mem_of_getElem? (i := 437) (by decide +kernel), List.mem_of_getElem? (i := 508) (by decide +kernel), List.mem_of_getElem? (i := 509) (by decide +kernel)⟩
theorem lw_p9 : lw_okq (⟨"BinderParcelsModel", "orderOf", "(II)I"⟩, 13) := ⟨⟨by decide +kernel, by decide +kernel⟩, List.mem_of_getElem? (i := 437) (by decide +kernel), List.mem_of_getElem? (i := 512) (by decide +kernel), List.mem_of_getElem? (i := 513) (by decide +kernel)⟩
theorem lw_p10 : lw_okq (⟨"BinderParcelsModel", "earliest", "(II)I"⟩, 13) := ⟨⟨by decide +kernel, by decide +kernel⟩, List.mem_of_getElem? (i := 437) (by decide +kernel), List.mem_of_getElem? (i := 516) (by decide +kernel), List.mem_of_getElem? (i := 517) (by decide +kernel)⟩
theorem lw_p11 : lw_okq (⟨"BinderParcelsModel", "part", "(II)I"⟩, 13) := ⟨⟨by decide +kernel, by decide +kernel⟩, List.mem_of_getElem? (i := 437) (by decide +kernel), List.mem_of_getElem? (i := 520) (by decide +kernel), List.mem_of_getElem? (i := 521) (by decide +kernel)⟩
theorem lw_p12 : lw_okq (⟨"BinderParcelsModel", "numberOf", "(II)I"⟩, 13) := ⟨⟨by decide +kernel, by decide +kernel⟩, List.mem_of_getElem? (i := 437) (by decide +kernel), List.mem_of_getElem? (i := 524) (by decide +kernel), List.mem_of_getElem? (i := 525) (by decide +kernel)⟩
theorem lw_p13 : lw_okq (⟨"BinderParcelsModel", "issueOf", "(II)I"⟩, 13) := ⟨⟨by decide +kernel, by decide +kernel⟩, List.mem_of_getElem? (i := 437) (by decide +kernel), List.mem_of_getElem? (i := 528) (by decide +kernel), List.mem_of_getElem? (i := 529) (by decide +kernel)⟩
theorem lw_p14 : lw_okq (⟨"BinderParcelsModel", "removeAll", "(II)V"⟩, 13) := ⟨⟨by decide +kernel, by decide +kernel⟩, List.mem_of_getElem? (i := 437) (by decide +kernel), List.mem_of_getElem? (i := 532) (by decide +kernel), List.mem_of_getElem? (i := 533) (by decide +kernel)⟩
theorem lw_p15 : lw_okq (⟨"BinderParcelsModel", "remove", "(II)V"⟩, 13) := ⟨⟨by decide +kernel, by decide +kernel⟩, List.mem_of_getElem? (i := 437) (by decide +kernel), List.mem_of_getElem? (i := 536) (by decide +kernel), List.mem_of_getElem? (i := 537) (by decide +kernel)⟩
def lw_privs_1 : List (MethodName × Nat) := [(⟨"BinderParcels$Binder", "start", "(I)I"⟩, 2), (⟨"BinderParcels$Binder", "placeOf", "(I)I"⟩, 2), (⟨"BinderParcels$Binder", "end", "(II)I"⟩, 2), (⟨"BinderParcels$Binder", "removeRange", "(II)V"⟩, 2), (⟨"BinderParcels", "tried", "(II)LBinderParcels$Binder;"⟩, 6), (⟨"BinderParcelsModel", "findFault", "()I"⟩, 13), (⟨"BinderParcelsModel", "comesTwice", "()Z"⟩, 13), (⟨"BinderParcelsModel", "record", "()V"⟩, 13), (⟨"BinderParcelsModel", "doParcel", "(IIZ)V"⟩, 13), (⟨"BinderParcelsModel", "orderOf", "(II)I"⟩, 13), (⟨"BinderParcelsModel", "earliest", "(II)I"⟩, 13), (⟨"BinderParcelsModel", "part", "(II)I"⟩, 13), (⟨"BinderParcelsModel", "numberOf", "(II)I"⟩, 13), (⟨"BinderParcelsModel", "issueOf", "(II)I"⟩, 13), (⟨"BinderParcelsModel", "removeAll", "(II)V"⟩, 13), (⟨"BinderParcelsModel", "remove", "(II)V"⟩, 13)]
theorem lw_r1 : ∀ q ∈ lw_privs_1, lw_okq q := List.forall_mem_cons.mpr ⟨lw_p0, List.forall_mem_cons.mpr ⟨lw_p1, List.forall_mem_cons.mpr ⟨lw_p2, List.forall_mem_cons.mpr ⟨lw_p3, List.forall_mem_cons.mpr ⟨lw_p4, List.forall_mem_cons.mpr ⟨lw_p5, List.forall_mem_cons.mpr ⟨lw_p6, List.forall_mem_cons.mpr ⟨lw_p7, List.forall_mem_cons.mpr ⟨lw_p8, List.forall_mem_cons.mpr ⟨lw_p9, List.forall_mem_cons.mpr ⟨lw_p10, List.forall_mem_cons.mpr ⟨lw_p11, List.forall_mem_cons.mpr ⟨lw_p12, List.forall_mem_cons.mpr ⟨lw_p13, List.forall_mem_cons.mpr ⟨lw_p14, List.forall_mem_cons.mpr ⟨lw_p15, fun _ h => absurd h List.not_mem_nil⟩⟩⟩⟩⟩⟩⟩⟩⟩⟩⟩⟩⟩⟩⟩⟩
theorem lw_p16 : lw_okq (⟨"BinderParcelsModel", "setPart", "(III)V"⟩, 13) := ⟨⟨by decide +kernel, by decide +kernel⟩, List.mem_of_getElem? (i := 437) (by decide +kernel), List.mem_of_getElem? (i := 540) (by decide +kernel), List.mem_of_getElem? (i := 541) (by decide +kernel)⟩
theorem lw_p17 : lw_okq (⟨"BinderParcelsModel", "comes", "(III)V"⟩, 13) := ⟨⟨by decide +kernel, by decide +kernel⟩, List.mem_of_getElem? (i := 437) (by decide +kernel), List.mem_of_getElem? (i := 544) (by decide +kernel), List.mem_of_getElem? (i := 545) (by decide +kernel)⟩
theorem lw_p18 : lw_okq (⟨"BinderParcelsModel", "isOwner", "(I)Z"⟩, 13) := ⟨⟨by decide +kernel, by decide +kernel⟩, List.mem_of_getElem? (i := 437) (by decide +kernel), List.mem_of_getElem? (i := 556) (by decide +kernel), List.mem_of_getElem? (i := 557) (by decide +kernel)⟩
theorem lw_p19 : lw_okq (⟨"BinderParcelsModel", "isParcel", "(I)Z"⟩, 13) := ⟨⟨by decide +kernel, by decide +kernel⟩, List.mem_of_getElem? (i := 437) (by decide +kernel), List.mem_of_getElem? (i := 560) (by decide +kernel), List.mem_of_getElem? (i := 561) (by decide +kernel)⟩
theorem lw_p20 : lw_okq (⟨"BinderParcelsModel", "waits", "(II)Z"⟩, 13) := ⟨⟨by decide +kernel, by decide +kernel⟩, List.mem_of_getElem? (i := 437) (by decide +kernel), List.mem_of_getElem? (i := 564) (by decide +kernel), List.mem_of_getElem? (i := 565) (by decide +kernel)⟩
theorem lw_p21 : lw_okq (⟨"BinderParcelsModel", "doSet", "(II)V"⟩, 13) := ⟨⟨by decide +kernel, by decide +kernel⟩, List.mem_of_getElem? (i := 437) (by decide +kernel), List.mem_of_getElem? (i := 572) (by decide +kernel), List.mem_of_getElem? (i := 573) (by decide +kernel)⟩
theorem lw_p22 : lw_okq (⟨"BinderParcelsModel", "leafWith", "(III)I"⟩, 13) := ⟨⟨by decide +kernel, by decide +kernel⟩, List.mem_of_getElem? (i := 437) (by decide +kernel), List.mem_of_getElem? (i := 594) (by decide +kernel), List.mem_of_getElem? (i := 595) (by decide +kernel)⟩
theorem lw_p23 : lw_okq (⟨"BinderParcelsModel", "ownersWith", "(II)I"⟩, 13) := ⟨⟨by decide +kernel, by decide +kernel⟩, List.mem_of_getElem? (i := 437) (by decide +kernel), List.mem_of_getElem? (i := 602) (by decide +kernel), List.mem_of_getElem? (i := 603) (by decide +kernel)⟩
theorem lw_p24 : lw_okq (⟨"BinderParcelsModel", "findIssues", "()V"⟩, 13) := ⟨⟨by decide +kernel, by decide +kernel⟩, List.mem_of_getElem? (i := 437) (by decide +kernel), List.mem_of_getElem? (i := 610) (by decide +kernel), List.mem_of_getElem? (i := 611) (by decide +kernel)⟩
theorem lw_p25 : lw_okq (⟨"BinderParcelsModel", "findLeaves", "(I)V"⟩, 13) := ⟨⟨by decide +kernel, by decide +kernel⟩, List.mem_of_getElem? (i := 437) (by decide +kernel), List.mem_of_getElem? (i := 618) (by decide +kernel), List.mem_of_getElem? (i := 619) (by decide +kernel)⟩
theorem lw_p26 : lw_okq (⟨"BinderParcelsModel", "issueIn", "(IIZ)I"⟩, 13) := ⟨⟨by decide +kernel, by decide +kernel⟩, List.mem_of_getElem? (i := 437) (by decide +kernel), List.mem_of_getElem? (i := 622) (by decide +kernel), List.mem_of_getElem? (i := 623) (by decide +kernel)⟩
theorem lw_p27 : lw_okq (⟨"BinderParcelsModel", "surplusOf", "(I)I"⟩, 13) := ⟨⟨by decide +kernel, by decide +kernel⟩, List.mem_of_getElem? (i := 437) (by decide +kernel), List.mem_of_getElem? (i := 626) (by decide +kernel), List.mem_of_getElem? (i := 627) (by decide +kernel)⟩
theorem lw_p28 : lw_okq (⟨"BinderParcelsModel", "oldOf", "(I)I"⟩, 13) := ⟨⟨by decide +kernel, by decide +kernel⟩, List.mem_of_getElem? (i := 437) (by decide +kernel), List.mem_of_getElem? (i := 630) (by decide +kernel), List.mem_of_getElem? (i := 631) (by decide +kernel)⟩
theorem lw_p29 : lw_okq (⟨"BinderParcelsModel", "missingOf", "(I)I"⟩, 13) := ⟨⟨by decide +kernel, by decide +kernel⟩, List.mem_of_getElem? (i := 437) (by decide +kernel), List.mem_of_getElem? (i := 634) (by decide +kernel), List.mem_of_getElem? (i := 635) (by decide +kernel)⟩
theorem lw_p30 : lw_okq (⟨"BinderParcelsModel", "wrong", "(II)I"⟩, 13) := ⟨⟨by decide +kernel, by decide +kernel⟩, List.mem_of_getElem? (i := 437) (by decide +kernel), List.mem_of_getElem? (i := 642) (by decide +kernel), List.mem_of_getElem? (i := 643) (by decide +kernel)⟩
theorem lw_p31 : lw_okq (⟨"BinderParcelsModel", "isRight", "(I)Z"⟩, 13) := ⟨⟨by decide +kernel, by decide +kernel⟩, List.mem_of_getElem? (i := 437) (by decide +kernel), List.mem_of_getElem? (i := 646) (by decide +kernel), List.mem_of_getElem? (i := 647) (by decide +kernel)⟩
def lw_privs_2 : List (MethodName × Nat) := [(⟨"BinderParcelsModel", "setPart", "(III)V"⟩, 13), (⟨"BinderParcelsModel", "comes", "(III)V"⟩, 13), (⟨"BinderParcelsModel", "isOwner", "(I)Z"⟩, 13), (⟨"BinderParcelsModel", "isParcel", "(I)Z"⟩, 13), (⟨"BinderParcelsModel", "waits", "(II)Z"⟩, 13), (⟨"BinderParcelsModel", "doSet", "(II)V"⟩, 13), (⟨"BinderParcelsModel", "leafWith", "(III)I"⟩, 13), (⟨"BinderParcelsModel", "ownersWith", "(II)I"⟩, 13), (⟨"BinderParcelsModel", "findIssues", "()V"⟩, 13), (⟨"BinderParcelsModel", "findLeaves", "(I)V"⟩, 13), (⟨"BinderParcelsModel", "issueIn", "(IIZ)I"⟩, 13), (⟨"BinderParcelsModel", "surplusOf", "(I)I"⟩, 13), (⟨"BinderParcelsModel", "oldOf", "(I)I"⟩, 13), (⟨"BinderParcelsModel", "missingOf", "(I)I"⟩, 13), (⟨"BinderParcelsModel", "wrong", "(II)I"⟩, 13), (⟨"BinderParcelsModel", "isRight", "(I)Z"⟩, 13)]
theorem lw_r2 : ∀ q ∈ lw_privs_2, lw_okq q := List.forall_mem_cons.mpr ⟨lw_p16, List.forall_mem_cons.mpr ⟨lw_p17, List.forall_mem_cons.mpr ⟨lw_p18, List.forall_mem_cons.mpr ⟨lw_p19, List.forall_mem_cons.mpr ⟨lw_p20, List.forall_mem_cons.mpr ⟨lw_p21, List.forall_mem_cons.mpr ⟨lw_p22, List.forall_mem_cons.mpr ⟨lw_p23, List.forall_mem_cons.mpr ⟨lw_p24, List.forall_mem_cons.mpr ⟨lw_p25, List.forall_mem_cons.mpr ⟨lw_p26, List.forall_mem_cons.mpr ⟨lw_p27, List.forall_mem_cons.mpr ⟨lw_p28, List.forall_mem_cons.mpr ⟨lw_p29, List.forall_mem_cons.mpr ⟨lw_p30, List.forall_mem_cons.mpr ⟨lw_p31, fun _ h => absurd h List.not_mem_nil⟩⟩⟩⟩⟩⟩⟩⟩⟩⟩⟩⟩⟩⟩⟩⟩
theorem lw_p32 : lw_okq (⟨"BinderParcelsModel", "checkOf", "(I)I"⟩, 13) := ⟨⟨by decide +kernel, by decide +kernel⟩, List.mem_of_getElem? (i := 437) (by decide +kernel), List.mem_of_getElem? (i := 650) (by decide +kernel), List.mem_of_getElem? (i := 651) (by decide +kernel)⟩
theorem lw_p33 : lw_okq (⟨"BinderParcelsModel", "rightOwners", "()I"⟩, 13) := ⟨⟨by decide +kernel, by decide +kernel⟩, List.mem_of_getElem? (i := 437) (by decide +kernel), List.mem_of_getElem? (i := 658) (by decide +kernel), List.mem_of_getElem? (i := 659) (by decide +kernel)⟩
theorem lw_p34 : lw_okq (⟨"BinderParcelsModel", "inText", "(I)I"⟩, 13) := ⟨⟨by decide +kernel, by decide +kernel⟩, List.mem_of_getElem? (i := 437) (by decide +kernel), List.mem_of_getElem? (i := 662) (by decide +kernel), List.mem_of_getElem? (i := 663) (by decide +kernel)⟩
theorem lw_p35 : lw_okq (⟨"BinderParcelsModel", "mostInText", "()I"⟩, 13) := ⟨⟨by decide +kernel, by decide +kernel⟩, List.mem_of_getElem? (i := 437) (by decide +kernel), List.mem_of_getElem? (i := 666) (by decide +kernel), List.mem_of_getElem? (i := 667) (by decide +kernel)⟩
theorem lw_p36 : lw_okq (⟨"BinderParcelsModel", "wrongWith", "(II)I"⟩, 13) := ⟨⟨by decide +kernel, by decide +kernel⟩, List.mem_of_getElem? (i := 437) (by decide +kernel), List.mem_of_getElem? (i := 674) (by decide +kernel), List.mem_of_getElem? (i := 675) (by decide +kernel)⟩
theorem lw_p37 : lw_okq (⟨"BinderParcelsModel", "mendingOf", "(II)I"⟩, 13) := ⟨⟨by decide +kernel, by decide +kernel⟩, List.mem_of_getElem? (i := 437) (by decide +kernel), List.mem_of_getElem? (i := 686) (by decide +kernel), List.mem_of_getElem? (i := 687) (by decide +kernel)⟩
def lw_privs_3 : List (MethodName × Nat) := [(⟨"BinderParcelsModel", "checkOf", "(I)I"⟩, 13), (⟨"BinderParcelsModel", "rightOwners", "()I"⟩, 13), (⟨"BinderParcelsModel", "inText", "(I)I"⟩, 13), (⟨"BinderParcelsModel", "mostInText", "()I"⟩, 13), (⟨"BinderParcelsModel", "wrongWith", "(II)I"⟩, 13), (⟨"BinderParcelsModel", "mendingOf", "(II)I"⟩, 13)]
theorem lw_r3 : ∀ q ∈ lw_privs_3, lw_okq q := List.forall_mem_cons.mpr ⟨lw_p32, List.forall_mem_cons.mpr ⟨lw_p33, List.forall_mem_cons.mpr ⟨lw_p34, List.forall_mem_cons.mpr ⟨lw_p35, List.forall_mem_cons.mpr ⟨lw_p36, List.forall_mem_cons.mpr ⟨lw_p37, fun _ h => absurd h List.not_mem_nil⟩⟩⟩⟩⟩⟩
def lw_privs : List (MethodName × Nat) := lw_privs_1 ++ (lw_privs_2 ++ (lw_privs_3))
def lw_tbl : List Cond := k2_sels lw_privs ++ tables_1
theorem lw_privs_ok : ∀ q ∈ lw_privs, lw_okq q := by
  show ∀ q ∈ lw_privs_1 ++ (lw_privs_2 ++ (lw_privs_3)), lw_okq q
  exact List.forall_mem_append.mpr ⟨lw_r1, List.forall_mem_append.mpr ⟨lw_r2, lw_r3⟩⟩
end
section
/-! ===== BEGIN words of one list among another's, by their places ===== -/
theorem goodIn_r {big : List Cond} (ws : List Cond) (ps : List Nat) (hp : ws = ps.filterMap (fun i => big[i]?)) (h : ws.all goodWord = true) : GoodIn big ws := by
  intro w hw
  have h1 := List.all_eq_true.mp h w hw
  rw [hp] at hw
  obtain ⟨i, -, hi⟩ := List.mem_filterMap.mp hw
  have hm : w ∈ big := by first | exact List.mem_of_getElem? hi | exact List.getElem?_mem hi
  exact ⟨hm, good_of_word h1⟩
theorem goodIn_app {big a b : List Cond} (ha : GoodIn big a) (hb : GoodIn big b) : GoodIn big (a ++ b) := fun w h => (List.mem_append.mp h).elim (ha w) (hb w)
theorem goodIn_ca {big a b : List Cond} {c : Cond} (ha : GoodIn big (c :: a)) (hb : GoodIn big b) : GoodIn big (c :: (a ++ b)) := fun w h => (List.mem_cons.mp h).elim (fun e => ha w (List.mem_cons.mpr (Or.inl e))) (fun h => (List.mem_append.mp h).elim (fun h => ha w (List.mem_cons.mpr (Or.inr h))) (hb w))
theorem goodIn_sub {big ws : List Cond} (hm : ∀ w ∈ ws, w ∈ big) (h : ws.all goodWord = true) : GoodIn big ws := fun w hw => ⟨hm w hw, good_of_word (List.all_eq_true.mp h w hw)⟩
/-! ===== END ===== -/

/-! ===== BEGIN printed: names, fields, word lists, decode rows ===== -/
def RX0 : String := "BinderParcels$Binder"
def TX0 : u_T := fun k => match k with
  | 0 => ("BinderParcels$Binder", "leaves", "[I", true)
  | _ => ("BinderParcels$Binder", "size", "I", false)
def tyX0 : Nat → FieldType := fun k => match k with
  | 0 => .array .int
  | _ => .int
abbrev wsX00 : List Cond := u_ws RX0 TX0 2
theorem nmX0 : ∀ a, a < 2 → ∀ b, b < 2 → a ≠ b → (TX0 a).2.1 ≠ (TX0 b).2.1 := by decide +kernel
theorem tyX0_ok : ∀ k, k < 2 → parseFieldDescriptor (TX0 k).2.2.1 = some (tyX0 k) := by decide +kernel
abbrev cX0_init : ByteArray := prog_2_method_1_code
def yX0_init : MethodName := ⟨RX0, "<init>", "()V"⟩
abbrev cX0_leafWith : ByteArray := prog_2_method_2_code
def yX0_leafWith : MethodName := ⟨RX0, "leafWith", "(II)I"⟩
abbrev cX0_numberOf : ByteArray := prog_2_method_3_code
def yX0_numberOf : MethodName := ⟨RX0, "numberOf", "(I)I"⟩
abbrev cX0_issueOf : ByteArray := prog_2_method_4_code
def yX0_issueOf : MethodName := ⟨RX0, "issueOf", "(I)I"⟩
abbrev cX0_copy : ByteArray := prog_2_method_5_code
def yX0_copy : MethodName := ⟨RX0, "copy", "(LBinderParcels$Binder;)V"⟩
abbrev cX0_placeOf : ByteArray := prog_2_method_6_code
def yX0_placeOf : MethodName := ⟨RX0, "placeOf", "(I)I"⟩
abbrev cX0_start : ByteArray := prog_2_method_7_code
def yX0_start : MethodName := ⟨RX0, "start", "(I)I"⟩
abbrev cX0_end : ByteArray := prog_2_method_8_code
def yX0_end : MethodName := ⟨RX0, "end", "(II)I"⟩
abbrev cX0_removeRange : ByteArray := prog_2_method_9_code
def yX0_removeRange : MethodName := ⟨RX0, "removeRange", "(II)V"⟩
abbrev cX0_insert : ByteArray := prog_2_method_10_code
def yX0_insert : MethodName := ⟨RX0, "insert", "(II)V"⟩
abbrev cX0_removeAll : ByteArray := prog_2_method_11_code
def yX0_removeAll : MethodName := ⟨RX0, "removeAll", "(I)V"⟩
abbrev cX0_removeEarliest : ByteArray := prog_2_method_12_code
def yX0_removeEarliest : MethodName := ⟨RX0, "removeEarliest", "(I)V"⟩
abbrev cX0_remove : ByteArray := prog_2_method_13_code
def yX0_remove : MethodName := ⟨RX0, "remove", "(II)V"⟩
abbrev cX0_holds : ByteArray := prog_2_method_14_code
def yX0_holds : MethodName := ⟨RX0, "holds", "(II)Z"⟩
abbrev cX0_held : ByteArray := prog_2_method_15_code
def yX0_held : MethodName := ⟨RX0, "held", "(I)I"⟩
abbrev cX0_earliestIssue : ByteArray := prog_2_method_16_code
def yX0_earliestIssue : MethodName := ⟨RX0, "earliestIssue", "(I)I"⟩
abbrev cX0_latestIssue : ByteArray := prog_2_method_17_code
def yX0_latestIssue : MethodName := ⟨RX0, "latestIssue", "(I)I"⟩
abbrev cX0_leavesOf : ByteArray := prog_2_method_18_code
def yX0_leavesOf : MethodName := ⟨RX0, "leavesOf", "(I)I"⟩
abbrev cX0_checkNumber : ByteArray := prog_2_method_19_code
def yX0_checkNumber : MethodName := ⟨RX0, "checkNumber", "()I"⟩
abbrev cX0_isSameAs : ByteArray := prog_2_method_20_code
def yX0_isSameAs : MethodName := ⟨RX0, "isSameAs", "(LBinderParcels$Binder;)Z"⟩
abbrev cX0_difference : ByteArray := prog_2_method_21_code
def yX0_difference : MethodName := ⟨RX0, "difference", "(LBinderParcels$Binder;II)I"⟩
abbrev cX0_differences : ByteArray := prog_2_method_22_code
def yX0_differences : MethodName := ⟨RX0, "differences", "(LBinderParcels$Binder;I)I"⟩
abbrev cX0_wrong : ByteArray := prog_2_method_23_code
def yX0_wrong : MethodName := ⟨RX0, "wrong", "(LBinderParcels$Binder;)I"⟩
def RX1 : String := "BinderParcels$History"
def TX1 : u_T := fun k => match k with
  | 0 => ("BinderParcels$History", "states", "[LBinderParcels$State;", true)
  | 1 => ("BinderParcels$History", "oldest", "I", false)
  | _ => ("BinderParcels$History", "size", "I", false)
def tyX1 : Nat → FieldType := fun k => match k with
  | 0 => .array (.object "BinderParcels$State")
  | 1 => .int
  | _ => .int
abbrev wsX10 : List Cond := u_ws RX1 TX1 3
theorem nmX1 : ∀ a, a < 3 → ∀ b, b < 3 → a ≠ b → (TX1 a).2.1 ≠ (TX1 b).2.1 := by decide +kernel
theorem tyX1_ok : ∀ k, k < 3 → parseFieldDescriptor (TX1 k).2.2.1 = some (tyX1 k) := by decide +kernel
abbrev cX1_init : ByteArray := prog_3_method_1_code
def yX1_init : MethodName := ⟨RX1, "<init>", "()V"⟩
abbrev cX1_record : ByteArray := prog_3_method_2_code
def yX1_record : MethodName := ⟨RX1, "record", "(LBinderParcels$State;)V"⟩
abbrev cX1_takeBack : ByteArray := prog_3_method_3_code
def yX1_takeBack : MethodName := ⟨RX1, "takeBack", "(LBinderParcels$State;)V"⟩
def RX2 : String := "BinderParcels$Pad"
def TX2 : u_T := fun k => match k with
  | 0 => ("BinderParcels$Pad", "characters", "[C", true)
  | _ => ("BinderParcels$Pad", "length", "I", false)
def tyX2 : Nat → FieldType := fun k => match k with
  | 0 => .array .char
  | _ => .int
abbrev wsX20 : List Cond := u_ws RX2 TX2 2
theorem nmX2 : ∀ a, a < 2 → ∀ b, b < 2 → a ≠ b → (TX2 a).2.1 ≠ (TX2 b).2.1 := by decide +kernel
theorem tyX2_ok : ∀ k, k < 2 → parseFieldDescriptor (TX2 k).2.2.1 = some (tyX2 k) := by decide +kernel
abbrev cX2_init : ByteArray := prog_4_method_1_code
def yX2_init : MethodName := ⟨RX2, "<init>", "()V"⟩
abbrev cX2_charactersIn : ByteArray := prog_4_method_2_code
def yX2_charactersIn : MethodName := ⟨RX2, "charactersIn", "(J)I"⟩
abbrev cX2_append : ByteArray := prog_4_method_3_code
def yX2_append : MethodName := ⟨RX2, "append", "(JI)V"⟩
abbrev cX2_empty : ByteArray := prog_4_method_4_code
def yX2_empty : MethodName := ⟨RX2, "empty", "()V"⟩
abbrev cX2_firstFault : ByteArray := prog_4_method_5_code
def yX2_firstFault : MethodName := ⟨RX2, "firstFault", "()I"⟩
abbrev cX2_canStand : ByteArray := prog_4_method_6_code
def yX2_canStand : MethodName := ⟨RX2, "canStand", "(CI)Z"⟩
abbrev cX2_orders : ByteArray := prog_4_method_7_code
def yX2_orders : MethodName := ⟨RX2, "orders", "()I"⟩
abbrev cX2_order : ByteArray := prog_4_method_8_code
def yX2_order : MethodName := ⟨RX2, "order", "(I)I"⟩
abbrev cX2_hasNumberTwice : ByteArray := prog_4_method_9_code
def yX2_hasNumberTwice : MethodName := ⟨RX2, "hasNumberTwice", "()Z"⟩
def RX3 : String := "BinderParcels$State"
def TX3 : u_T := fun k => match k with
  | 0 => ("BinderParcels$State", "orders", "[I", true)
  | 1 => ("BinderParcels$State", "orderCounts", "[I", true)
  | 2 => ("BinderParcels$State", "parcels", "I", false)
  | 3 => ("BinderParcels$State", "text", "LBinderParcels$Binder;", true)
  | 4 => ("BinderParcels$State", "binders", "[LBinderParcels$Binder;", true)
  | 5 => ("BinderParcels$State", "waiting", "[I", true)
  | 6 => ("BinderParcels$State", "lost", "[I", true)
  | _ => ("BinderParcels$State", "owners", "I", false)
def tyX3 : Nat → FieldType := fun k => match k with
  | 0 => .array .int
  | 1 => .array .int
  | 2 => .int
  | 3 => .object "BinderParcels$Binder"
  | 4 => .array (.object "BinderParcels$Binder")
  | 5 => .array .int
  | 6 => .array .int
  | _ => .int
abbrev wsX30 : List Cond := u_ws RX3 TX3 8
theorem nmX3 : ∀ a, a < 8 → ∀ b, b < 8 → a ≠ b → (TX3 a).2.1 ≠ (TX3 b).2.1 := by decide +kernel
theorem tyX3_ok : ∀ k, k < 8 → parseFieldDescriptor (TX3 k).2.2.1 = some (tyX3 k) := by decide +kernel
abbrev cX3_init : ByteArray := prog_5_method_1_code
def yX3_init : MethodName := ⟨RX3, "<init>", "()V"⟩
abbrev cX3_copy : ByteArray := prog_5_method_2_code
def yX3_copy : MethodName := ⟨RX3, "copy", "(LBinderParcels$State;)V"⟩
abbrev cX3_hasOwner : ByteArray := prog_5_method_3_code
def yX3_hasOwner : MethodName := ⟨RX3, "hasOwner", "(I)Z"⟩
abbrev cX3_hasParcel : ByteArray := prog_5_method_4_code
def yX3_hasParcel : MethodName := ⟨RX3, "hasParcel", "(I)Z"⟩
abbrev cX3_isWaiting : ByteArray := prog_5_method_5_code
def yX3_isWaiting : MethodName := ⟨RX3, "isWaiting", "(II)Z"⟩
abbrev cX3_order : ByteArray := prog_5_method_6_code
def yX3_order : MethodName := ⟨RX3, "order", "(II)I"⟩
abbrev cX3_addParcel : ByteArray := prog_5_method_7_code
def yX3_addParcel : MethodName := ⟨RX3, "addParcel", "(LBinderParcels$Pad;)I"⟩
abbrev cX3_addOwner : ByteArray := prog_5_method_8_code
def yX3_addOwner : MethodName := ⟨RX3, "addOwner", "()I"⟩
abbrev cX3_doWithCare : ByteArray := prog_5_method_9_code
def yX3_doWithCare : MethodName := ⟨RX3, "doWithCare", "(LBinderParcels$Binder;I)V"⟩
abbrev cX3_doCarelessly : ByteArray := prog_5_method_10_code
def yX3_doCarelessly : MethodName := ⟨RX3, "doCarelessly", "(LBinderParcels$Binder;I)V"⟩
abbrev cX3_doSetWithCare : ByteArray := prog_5_method_11_code
def yX3_doSetWithCare : MethodName := ⟨RX3, "doSetWithCare", "(LBinderParcels$Binder;I)V"⟩
abbrev cX3_ownersOf : ByteArray := prog_5_method_12_code
def yX3_ownersOf : MethodName := ⟨RX3, "ownersOf", "([II)I"⟩
abbrev cX3_ownersWithRightBinders : ByteArray := prog_5_method_13_code
def yX3_ownersWithRightBinders : MethodName := ⟨RX3, "ownersWithRightBinders", "()I"⟩
abbrev cX3_parcelWithMostLeaves : ByteArray := prog_5_method_14_code
def yX3_parcelWithMostLeaves : MethodName := ⟨RX3, "parcelWithMostLeaves", "()I"⟩
def RX4 : String := "BinderParcels"
def TX4 : u_T := fun k => match k with
  | 0 => ("BinderParcels", "now", "LBinderParcels$State;", true)
  | 1 => ("BinderParcels", "history", "LBinderParcels$History;", true)
  | 2 => ("BinderParcels", "slots", "[LBinderParcels$State;", true)
  | 3 => ("BinderParcels", "isSaved", "[Z", true)
  | 4 => ("BinderParcels", "pad", "LBinderParcels$Pad;", true)
  | _ => ("BinderParcels", "trials", "[LBinderParcels$Binder;", true)
def tyX4 : Nat → FieldType := fun k => match k with
  | 0 => .object "BinderParcels$State"
  | 1 => .object "BinderParcels$History"
  | 2 => .array (.object "BinderParcels$State")
  | 3 => .array .boolean
  | 4 => .object "BinderParcels$Pad"
  | _ => .array (.object "BinderParcels$Binder")
abbrev wsX40 : List Cond := u_ws RX4 TX4 6
theorem nmX4 : ∀ a, a < 6 → ∀ b, b < 6 → a ≠ b → (TX4 a).2.1 ≠ (TX4 b).2.1 := by decide +kernel
theorem tyX4_ok : ∀ k, k < 6 → parseFieldDescriptor (TX4 k).2.2.1 = some (tyX4 k) := by decide +kernel
abbrev cX4_init : ByteArray := prog_1_method_1_code
def yX4_init : MethodName := ⟨RX4, "<init>", "()V"⟩
abbrev cX4_issue : ByteArray := prog_1_method_2_code
def yX4_issue : MethodName := ⟨RX4, "issue", "()I"⟩
abbrev cX4_own : ByteArray := prog_1_method_3_code
def yX4_own : MethodName := ⟨RX4, "own", "()I"⟩
abbrev cX4_done : ByteArray := prog_1_method_4_code
def yX4_done : MethodName := ⟨RX4, "done", "(IIZ)I"⟩
abbrev cX4_doAll : ByteArray := prog_1_method_5_code
def yX4_doAll : MethodName := ⟨RX4, "doAll", "(I)I"⟩
abbrev cX4_lose : ByteArray := prog_1_method_6_code
def yX4_lose : MethodName := ⟨RX4, "lose", "(II)I"⟩
abbrev cX4_again : ByteArray := prog_1_method_7_code
def yX4_again : MethodName := ⟨RX4, "again", "(II)I"⟩
abbrev cX4_hand : ByteArray := prog_1_method_8_code
def yX4_hand : MethodName := ⟨RX4, "hand", "(IIIZ)I"⟩
abbrev cX4_parcel : ByteArray := prog_1_method_9_code
def yX4_parcel : MethodName := ⟨RX4, "parcel", "(II)I"⟩
abbrev cX4_text : ByteArray := prog_1_method_10_code
def yX4_text : MethodName := ⟨RX4, "text", "(I)I"⟩
abbrev cX4_leaf : ByteArray := prog_1_method_11_code
def yX4_leaf : MethodName := ⟨RX4, "leaf", "(III)I"⟩
abbrev cX4_of : ByteArray := prog_1_method_12_code
def yX4_of : MethodName := ⟨RX4, "of", "(II)I"⟩
abbrev cX4_count : ByteArray := prog_1_method_13_code
def yX4_count : MethodName := ⟨RX4, "count", "(I)I"⟩
abbrev cX4_ifDone : ByteArray := prog_1_method_14_code
def yX4_ifDone : MethodName := ⟨RX4, "ifDone", "(II)I"⟩
abbrev cX4_ifAllDone : ByteArray := prog_1_method_15_code
def yX4_ifAllDone : MethodName := ⟨RX4, "ifAllDone", "(I)I"⟩
abbrev cX4_mending : ByteArray := prog_1_method_16_code
def yX4_mending : MethodName := ⟨RX4, "mending", "(I)I"⟩
abbrev cX4_rightFrom : ByteArray := prog_1_method_17_code
def yX4_rightFrom : MethodName := ⟨RX4, "rightFrom", "(I)I"⟩
abbrev cX4_put : ByteArray := prog_1_method_18_code
def yX4_put : MethodName := ⟨RX4, "put", "(J)I"⟩
abbrev cX4_wipe : ByteArray := prog_1_method_19_code
def yX4_wipe : MethodName := ⟨RX4, "wipe", "()I"⟩
abbrev cX4_fault : ByteArray := prog_1_method_20_code
def yX4_fault : MethodName := ⟨RX4, "fault", "()I"⟩
abbrev cX4_undo : ByteArray := prog_1_method_21_code
def yX4_undo : MethodName := ⟨RX4, "undo", "()I"⟩
abbrev cX4_save : ByteArray := prog_1_method_22_code
def yX4_save : MethodName := ⟨RX4, "save", "(I)I"⟩
abbrev cX4_restore : ByteArray := prog_1_method_23_code
def yX4_restore : MethodName := ⟨RX4, "restore", "(I)I"⟩
abbrev cX4_isNumber : ByteArray := prog_1_method_24_code
def yX4_isNumber : MethodName := ⟨RX4, "isNumber", "(I)Z"⟩
abbrev cX4_isSlot : ByteArray := prog_1_method_25_code
def yX4_isSlot : MethodName := ⟨RX4, "isSlot", "(I)Z"⟩
abbrev cX4_tried : ByteArray := prog_1_method_26_code
def yX4_tried : MethodName := ⟨RX4, "tried", "(II)LBinderParcels$Binder;"⟩
abbrev cX4_lowestMending : ByteArray := prog_1_method_27_code
def yX4_lowestMending : MethodName := ⟨RX4, "lowestMending", "(LBinderParcels$State;[LBinderParcels$Binder;III)I"⟩
def RX5 : String := "BinderParcelsModel"
def TX5 : u_T := fun k => match k with
  | 0 => ("BinderParcelsModel", "state", "[I", true)
  | 1 => ("BinderParcelsModel", "kept", "[I", true)
  | 2 => ("BinderParcelsModel", "history", "[I", true)
  | 3 => ("BinderParcelsModel", "recorded", "I", false)
  | 4 => ("BinderParcelsModel", "slots", "[I", true)
  | 5 => ("BinderParcelsModel", "isSaved", "[I", true)
  | 6 => ("BinderParcelsModel", "pad", "[I", true)
  | 7 => ("BinderParcelsModel", "padLength", "I", false)
  | 8 => ("BinderParcelsModel", "orders", "[I", true)
  | 9 => ("BinderParcelsModel", "ordersMany", "I", false)
  | 10 => ("BinderParcelsModel", "leaves", "[I", true)
  | 11 => ("BinderParcelsModel", "rightOnes", "[I", true)
  | _ => ("BinderParcelsModel", "issues", "[I", true)
def tyX5 : Nat → FieldType := fun k => match k with
  | 0 => .array .int
  | 1 => .array .int
  | 2 => .array .int
  | 3 => .int
  | 4 => .array .int
  | 5 => .array .int
  | 6 => .array .int
  | 7 => .int
  | 8 => .array .int
  | 9 => .int
  | 10 => .array .int
  | 11 => .array .int
  | _ => .array .int
abbrev wsX50 : List Cond := u_ws RX5 TX5 13
theorem nmX5 : ∀ a, a < 13 → ∀ b, b < 13 → a ≠ b → (TX5 a).2.1 ≠ (TX5 b).2.1 := by decide +kernel
theorem tyX5_ok : ∀ k, k < 13 → parseFieldDescriptor (TX5 k).2.2.1 = some (tyX5 k) := by decide +kernel
abbrev cX5_init : ByteArray := prog_7_method_1_code
def yX5_init : MethodName := ⟨RX5, "<init>", "()V"⟩
abbrev cX5_moves : ByteArray := prog_7_method_3_code
def yX5_moves : MethodName := ⟨RX5, "moves", "([II[II)V"⟩
abbrev cX5_within : ByteArray := prog_7_method_4_code
def yX5_within : MethodName := ⟨RX5, "within", "(III)Z"⟩
abbrev cX5_record : ByteArray := prog_7_method_5_code
def yX5_record : MethodName := ⟨RX5, "record", "()V"⟩
abbrev cX5_isOwner : ByteArray := prog_7_method_6_code
def yX5_isOwner : MethodName := ⟨RX5, "isOwner", "(I)Z"⟩
abbrev cX5_isParcel : ByteArray := prog_7_method_7_code
def yX5_isParcel : MethodName := ⟨RX5, "isParcel", "(I)Z"⟩
abbrev cX5_part : ByteArray := prog_7_method_8_code
def yX5_part : MethodName := ⟨RX5, "part", "(II)I"⟩
abbrev cX5_setPart : ByteArray := prog_7_method_9_code
def yX5_setPart : MethodName := ⟨RX5, "setPart", "(III)V"⟩
abbrev cX5_numberOf : ByteArray := prog_7_method_10_code
def yX5_numberOf : MethodName := ⟨RX5, "numberOf", "(II)I"⟩
abbrev cX5_issueOf : ByteArray := prog_7_method_11_code
def yX5_issueOf : MethodName := ⟨RX5, "issueOf", "(II)I"⟩
abbrev cX5_orderOf : ByteArray := prog_7_method_12_code
def yX5_orderOf : MethodName := ⟨RX5, "orderOf", "(II)I"⟩
abbrev cX5_bits : ByteArray := prog_7_method_13_code
def yX5_bits : MethodName := ⟨RX5, "bits", "(I)I"⟩
abbrev cX5_remove : ByteArray := prog_7_method_14_code
def yX5_remove : MethodName := ⟨RX5, "remove", "(II)V"⟩
abbrev cX5_comes : ByteArray := prog_7_method_15_code
def yX5_comes : MethodName := ⟨RX5, "comes", "(III)V"⟩
abbrev cX5_removeAll : ByteArray := prog_7_method_16_code
def yX5_removeAll : MethodName := ⟨RX5, "removeAll", "(II)V"⟩
abbrev cX5_earliest : ByteArray := prog_7_method_17_code
def yX5_earliest : MethodName := ⟨RX5, "earliest", "(II)I"⟩
abbrev cX5_doParcel : ByteArray := prog_7_method_18_code
def yX5_doParcel : MethodName := ⟨RX5, "doParcel", "(IIZ)V"⟩
abbrev cX5_doSet : ByteArray := prog_7_method_19_code
def yX5_doSet : MethodName := ⟨RX5, "doSet", "(II)V"⟩
abbrev cX5_findIssues : ByteArray := prog_7_method_20_code
def yX5_findIssues : MethodName := ⟨RX5, "findIssues", "()V"⟩
abbrev cX5_findLeaves : ByteArray := prog_7_method_21_code
def yX5_findLeaves : MethodName := ⟨RX5, "findLeaves", "(I)V"⟩
abbrev cX5_surplusOf : ByteArray := prog_7_method_22_code
def yX5_surplusOf : MethodName := ⟨RX5, "surplusOf", "(I)I"⟩
abbrev cX5_oldOf : ByteArray := prog_7_method_23_code
def yX5_oldOf : MethodName := ⟨RX5, "oldOf", "(I)I"⟩
abbrev cX5_missingOf : ByteArray := prog_7_method_24_code
def yX5_missingOf : MethodName := ⟨RX5, "missingOf", "(I)I"⟩
abbrev cX5_wrong : ByteArray := prog_7_method_25_code
def yX5_wrong : MethodName := ⟨RX5, "wrong", "(II)I"⟩
abbrev cX5_isRight : ByteArray := prog_7_method_26_code
def yX5_isRight : MethodName := ⟨RX5, "isRight", "(I)Z"⟩
abbrev cX5_checkOf : ByteArray := prog_7_method_27_code
def yX5_checkOf : MethodName := ⟨RX5, "checkOf", "(I)I"⟩
abbrev cX5_comesTwice : ByteArray := prog_7_method_28_code
def yX5_comesTwice : MethodName := ⟨RX5, "comesTwice", "()Z"⟩
abbrev cX5_issue : ByteArray := prog_7_method_29_code
def yX5_issue : MethodName := ⟨RX5, "issue", "()I"⟩
abbrev cX5_own : ByteArray := prog_7_method_30_code
def yX5_own : MethodName := ⟨RX5, "own", "()I"⟩
abbrev cX5_waits : ByteArray := prog_7_method_31_code
def yX5_waits : MethodName := ⟨RX5, "waits", "(II)Z"⟩
abbrev cX5_done : ByteArray := prog_7_method_32_code
def yX5_done : MethodName := ⟨RX5, "done", "(IIZ)I"⟩
abbrev cX5_doAll : ByteArray := prog_7_method_33_code
def yX5_doAll : MethodName := ⟨RX5, "doAll", "(I)I"⟩
abbrev cX5_lose : ByteArray := prog_7_method_34_code
def yX5_lose : MethodName := ⟨RX5, "lose", "(II)I"⟩
abbrev cX5_again : ByteArray := prog_7_method_35_code
def yX5_again : MethodName := ⟨RX5, "again", "(II)I"⟩
abbrev cX5_leafWith : ByteArray := prog_7_method_36_code
def yX5_leafWith : MethodName := ⟨RX5, "leafWith", "(III)I"⟩
abbrev cX5_isNumber : ByteArray := prog_7_method_37_code
def yX5_isNumber : MethodName := ⟨RX5, "isNumber", "(I)Z"⟩
abbrev cX5_hand : ByteArray := prog_7_method_38_code
def yX5_hand : MethodName := ⟨RX5, "hand", "(IIIZ)I"⟩
abbrev cX5_ownersWith : ByteArray := prog_7_method_39_code
def yX5_ownersWith : MethodName := ⟨RX5, "ownersWith", "(II)I"⟩
abbrev cX5_parcel : ByteArray := prog_7_method_40_code
def yX5_parcel : MethodName := ⟨RX5, "parcel", "(II)I"⟩
abbrev cX5_text : ByteArray := prog_7_method_41_code
def yX5_text : MethodName := ⟨RX5, "text", "(I)I"⟩
abbrev cX5_issueIn : ByteArray := prog_7_method_42_code
def yX5_issueIn : MethodName := ⟨RX5, "issueIn", "(IIZ)I"⟩
abbrev cX5_leaf : ByteArray := prog_7_method_43_code
def yX5_leaf : MethodName := ⟨RX5, "leaf", "(III)I"⟩
abbrev cX5_of : ByteArray := prog_7_method_44_code
def yX5_of : MethodName := ⟨RX5, "of", "(II)I"⟩
abbrev cX5_rightOwners : ByteArray := prog_7_method_45_code
def yX5_rightOwners : MethodName := ⟨RX5, "rightOwners", "()I"⟩
abbrev cX5_inText : ByteArray := prog_7_method_46_code
def yX5_inText : MethodName := ⟨RX5, "inText", "(I)I"⟩
abbrev cX5_mostInText : ByteArray := prog_7_method_47_code
def yX5_mostInText : MethodName := ⟨RX5, "mostInText", "()I"⟩
abbrev cX5_count : ByteArray := prog_7_method_48_code
def yX5_count : MethodName := ⟨RX5, "count", "(I)I"⟩
abbrev cX5_wrongWith : ByteArray := prog_7_method_49_code
def yX5_wrongWith : MethodName := ⟨RX5, "wrongWith", "(II)I"⟩
abbrev cX5_ifDone : ByteArray := prog_7_method_50_code
def yX5_ifDone : MethodName := ⟨RX5, "ifDone", "(II)I"⟩
abbrev cX5_ifAllDone : ByteArray := prog_7_method_51_code
def yX5_ifAllDone : MethodName := ⟨RX5, "ifAllDone", "(I)I"⟩
abbrev cX5_mendingOf : ByteArray := prog_7_method_52_code
def yX5_mendingOf : MethodName := ⟨RX5, "mendingOf", "(II)I"⟩
abbrev cX5_mending : ByteArray := prog_7_method_53_code
def yX5_mending : MethodName := ⟨RX5, "mending", "(I)I"⟩
abbrev cX5_rightFrom : ByteArray := prog_7_method_54_code
def yX5_rightFrom : MethodName := ⟨RX5, "rightFrom", "(I)I"⟩
abbrev cX5_put : ByteArray := prog_7_method_55_code
def yX5_put : MethodName := ⟨RX5, "put", "(J)I"⟩
abbrev cX5_wipe : ByteArray := prog_7_method_56_code
def yX5_wipe : MethodName := ⟨RX5, "wipe", "()I"⟩
abbrev cX5_canStand : ByteArray := prog_7_method_57_code
def yX5_canStand : MethodName := ⟨RX5, "canStand", "(II)Z"⟩
abbrev cX5_findFault : ByteArray := prog_7_method_58_code
def yX5_findFault : MethodName := ⟨RX5, "findFault", "()I"⟩
abbrev cX5_fault : ByteArray := prog_7_method_59_code
def yX5_fault : MethodName := ⟨RX5, "fault", "()I"⟩
abbrev cX5_undo : ByteArray := prog_7_method_60_code
def yX5_undo : MethodName := ⟨RX5, "undo", "()I"⟩
abbrev cX5_save : ByteArray := prog_7_method_61_code
def yX5_save : MethodName := ⟨RX5, "save", "(I)I"⟩
abbrev cX5_restore : ByteArray := prog_7_method_62_code
def yX5_restore : MethodName := ⟨RX5, "restore", "(I)I"⟩
def RJ6 : String := "java/lang/Integer"
def TJ6 : u_T := fun k => match k with
  | _ => ("", "", "", false)
def tyJ6 : Nat → FieldType := fun k => match k with
  | _ => .int
abbrev wsJ60 : List Cond := u_ws RJ6 TJ6 0
theorem nmJ6 : ∀ a, a < 0 → ∀ b, b < 0 → a ≠ b → (TJ6 a).2.1 ≠ (TJ6 b).2.1 := by decide +kernel
theorem tyJ6_ok : ∀ k, k < 0 → parseFieldDescriptor (TJ6 k).2.2.1 = some (tyJ6 k) := by decide +kernel
abbrev cJ6_bitCount_0f7a4 : ByteArray := prog_8_method_49_code
def yJ6_bitCount_0f7a4 : MethodName := ⟨RJ6, "bitCount", "(I)I"⟩
def RJ9 : String := "java/lang/Math"
def TJ9 : u_T := fun k => match k with
  | _ => ("", "", "", false)
def tyJ9 : Nat → FieldType := fun k => match k with
  | _ => .int
abbrev wsJ90 : List Cond := u_ws RJ9 TJ9 0
theorem nmJ9 : ∀ a, a < 0 → ∀ b, b < 0 → a ≠ b → (TJ9 a).2.1 ≠ (TJ9 b).2.1 := by decide +kernel
theorem tyJ9_ok : ∀ k, k < 0 → parseFieldDescriptor (TJ9 k).2.2.1 = some (tyJ9 k) := by decide +kernel
abbrev cJ9_min_7cf53 : ByteArray := prog_9_method_69_code
def yJ9_min_7cf53 : MethodName := ⟨RJ9, "min", "(II)I"⟩
def RJ10 : String := "java/lang/System"
def TJ10 : u_T := fun k => match k with
  | _ => ("", "", "", false)
def tyJ10 : Nat → FieldType := fun k => match k with
  | _ => .int
abbrev wsJ100 : List Cond := u_ws RJ10 TJ10 0
theorem nmJ10 : ∀ a, a < 0 → ∀ b, b < 0 → a ≠ b → (TJ10 a).2.1 ≠ (TJ10 b).2.1 := by decide +kernel
theorem tyJ10_ok : ∀ k, k < 0 → parseFieldDescriptor (TJ10 k).2.2.1 = some (tyJ10 k) := by decide +kernel
def RL : String := "BinderParcelsLaw"
abbrev cL_law : ByteArray := code
def yL_law : MethodName := ⟨RL, "law", "([I)Z"⟩
def wsX0_init : List Cond := .code yX0_init cX0_init 1 none :: ([.methodLink RX0 3 objectInit, .instanceMethod objectInit, .code objectInit ⟨#[0xb1]⟩ 1 none, .arrayClass .int, .fieldLink RX0 9 "BinderParcels$Binder" "leaves" "[I"] ++ wsX00)
def wsX0_leafWith : List Cond := .code yX0_leafWith cX0_leafWith 2 (some .int) :: ([])
def wsX0_numberOf : List Cond := .code yX0_numberOf cX0_numberOf 1 (some .int) :: ([])
def wsX0_issueOf : List Cond := .code yX0_issueOf cX0_issueOf 1 (some .int) :: ([])
def wsX0_copy : List Cond := .code yX0_copy cX0_copy 2 none :: ([.fieldLink RX0 9 "BinderParcels$Binder" "leaves" "[I", .fieldLink RX0 15 "BinderParcels$Binder" "size" "I", .methodLink RX0 19 arraycopyName, .native arraycopyName, .static arraycopyName, .initialized "java/lang/System"] ++ wsX00)
def wsX0_placeOf : List Cond := .code yX0_placeOf cX0_placeOf 3 (some .int) :: ([.fieldLink RX0 15 "BinderParcels$Binder" "size" "I", .fieldLink RX0 9 "BinderParcels$Binder" "leaves" "[I"] ++ wsX00)
def wsX0_start : List Cond := .code yX0_start cX0_start 2 (some .int) :: ([.methodLink RX0 25 yX0_leafWith, .static yX0_leafWith, .initialized RX0, .code yX0_leafWith cX0_leafWith 2 (some .int), .methodLink RX0 29 yX0_placeOf, .instanceMethod yX0_placeOf, .selects RX0 yX0_placeOf yX0_placeOf, .code yX0_placeOf cX0_placeOf 3 (some .int), .fieldLink RX0 15 "BinderParcels$Binder" "size" "I", .fieldLink RX0 9 "BinderParcels$Binder" "leaves" "[I"] ++ wsX00)
def wsX0_end : List Cond := .code yX0_end cX0_end 4 (some .int) :: ([.fieldLink RX0 15 "BinderParcels$Binder" "size" "I", .fieldLink RX0 9 "BinderParcels$Binder" "leaves" "[I", .methodLink RX0 33 yX0_numberOf, .static yX0_numberOf, .initialized RX0, .code yX0_numberOf cX0_numberOf 1 (some .int)] ++ wsX00)
def wsX0_removeRange : List Cond := .code yX0_removeRange cX0_removeRange 3 none :: ([.fieldLink RX0 9 "BinderParcels$Binder" "leaves" "[I", .fieldLink RX0 15 "BinderParcels$Binder" "size" "I", .methodLink RX0 19 arraycopyName, .native arraycopyName, .static arraycopyName, .initialized "java/lang/System"] ++ wsX00)
def wsX0_insert : List Cond := .code yX0_insert cX0_insert 5 none :: ([.fieldLink RX0 15 "BinderParcels$Binder" "size" "I", .fieldLink RX0 9 "BinderParcels$Binder" "leaves" "[I", .methodLink RX0 19 arraycopyName, .native arraycopyName, .static arraycopyName, .initialized "java/lang/System", .methodLink RX0 25 yX0_leafWith, .static yX0_leafWith, .initialized RX0, .code yX0_leafWith cX0_leafWith 2 (some .int), .methodLink RX0 29 yX0_placeOf, .instanceMethod yX0_placeOf, .selects RX0 yX0_placeOf yX0_placeOf, .code yX0_placeOf cX0_placeOf 3 (some .int)] ++ wsX00)
def wsX0_removeAll_r1 : List Cond := [Cond.methodLink RX0 36 yX0_start, Cond.instanceMethod yX0_start, Cond.selects RX0 yX0_start yX0_start, Cond.initialized RX0, Cond.code yX0_start cX0_start 2 (some .int), Cond.methodLink RX0 25 yX0_leafWith, Cond.static yX0_leafWith, Cond.code yX0_leafWith cX0_leafWith 2 (some .int), Cond.methodLink RX0 29 yX0_placeOf, Cond.instanceMethod yX0_placeOf, Cond.selects RX0 yX0_placeOf yX0_placeOf, Cond.code yX0_placeOf cX0_placeOf 3 (some .int), Cond.fieldLink RX0 15 "BinderParcels$Binder" "size" "I", Cond.fieldLink RX0 9 "BinderParcels$Binder" "leaves" "[I", Cond.methodLink RX0 39 yX0_end, Cond.instanceMethod yX0_end, Cond.selects RX0 yX0_end yX0_end, Cond.code yX0_end cX0_end 4 (some .int), Cond.methodLink RX0 33 yX0_numberOf, Cond.static yX0_numberOf, Cond.code yX0_numberOf cX0_numberOf 1 (some .int), Cond.methodLink RX0 42 yX0_removeRange, Cond.instanceMethod yX0_removeRange, Cond.selects RX0 yX0_removeRange yX0_removeRange]
def wsX0_removeAll_r2 : List Cond := [Cond.code yX0_removeRange cX0_removeRange 3 none, Cond.methodLink RX0 19 arraycopyName, Cond.native arraycopyName, Cond.static arraycopyName, Cond.initialized "java/lang/System"]
def wsX0_removeAll : List Cond := .code yX0_removeAll cX0_removeAll 3 none :: ((wsX0_removeAll_r1 ++ wsX0_removeAll_r2) ++ wsX00)
def wsX0_removeEarliest_r1 : List Cond := [Cond.methodLink RX0 46 Lib.Math.min.name, Cond.static Lib.Math.min.name, Cond.initialized "java/lang/Math", Cond.code Lib.Math.min.name Lib.Math.min.code 2 (some .int), Cond.methodLink RX0 36 yX0_start, Cond.instanceMethod yX0_start, Cond.selects RX0 yX0_start yX0_start, Cond.initialized RX0, Cond.code yX0_start cX0_start 2 (some .int), Cond.methodLink RX0 25 yX0_leafWith, Cond.static yX0_leafWith, Cond.code yX0_leafWith cX0_leafWith 2 (some .int), Cond.methodLink RX0 29 yX0_placeOf, Cond.instanceMethod yX0_placeOf, Cond.selects RX0 yX0_placeOf yX0_placeOf, Cond.code yX0_placeOf cX0_placeOf 3 (some .int), Cond.fieldLink RX0 15 "BinderParcels$Binder" "size" "I", Cond.fieldLink RX0 9 "BinderParcels$Binder" "leaves" "[I", Cond.methodLink RX0 39 yX0_end, Cond.instanceMethod yX0_end, Cond.selects RX0 yX0_end yX0_end, Cond.code yX0_end cX0_end 4 (some .int), Cond.methodLink RX0 33 yX0_numberOf, Cond.static yX0_numberOf]
def wsX0_removeEarliest_r2 : List Cond := [Cond.code yX0_numberOf cX0_numberOf 1 (some .int), Cond.methodLink RX0 42 yX0_removeRange, Cond.instanceMethod yX0_removeRange, Cond.selects RX0 yX0_removeRange yX0_removeRange, Cond.code yX0_removeRange cX0_removeRange 3 none, Cond.methodLink RX0 19 arraycopyName, Cond.native arraycopyName, Cond.static arraycopyName, Cond.initialized "java/lang/System"]
def wsX0_removeEarliest : List Cond := .code yX0_removeEarliest cX0_removeEarliest 3 none :: ((wsX0_removeEarliest_r1 ++ wsX0_removeEarliest_r2) ++ wsX00)
def wsX0_holds : List Cond := .code yX0_holds cX0_holds 5 (some .boolean) :: ([.fieldLink RX0 15 "BinderParcels$Binder" "size" "I", .fieldLink RX0 9 "BinderParcels$Binder" "leaves" "[I", .methodLink RX0 25 yX0_leafWith, .static yX0_leafWith, .initialized RX0, .code yX0_leafWith cX0_leafWith 2 (some .int), .methodLink RX0 29 yX0_placeOf, .instanceMethod yX0_placeOf, .selects RX0 yX0_placeOf yX0_placeOf, .code yX0_placeOf cX0_placeOf 3 (some .int)] ++ wsX00)
def wsX0_remove : List Cond := .code yX0_remove cX0_remove 4 none :: ([.methodLink RX0 51 yX0_holds, .instanceMethod yX0_holds, .selects RX0 yX0_holds yX0_holds, .initialized RX0, .code yX0_holds cX0_holds 5 (some .boolean), .fieldLink RX0 15 "BinderParcels$Binder" "size" "I", .fieldLink RX0 9 "BinderParcels$Binder" "leaves" "[I", .methodLink RX0 25 yX0_leafWith, .static yX0_leafWith, .code yX0_leafWith cX0_leafWith 2 (some .int), .methodLink RX0 29 yX0_placeOf, .instanceMethod yX0_placeOf, .selects RX0 yX0_placeOf yX0_placeOf, .code yX0_placeOf cX0_placeOf 3 (some .int), .methodLink RX0 42 yX0_removeRange, .instanceMethod yX0_removeRange, .selects RX0 yX0_removeRange yX0_removeRange, .code yX0_removeRange cX0_removeRange 3 none, .methodLink RX0 19 arraycopyName, .native arraycopyName, .static arraycopyName, .initialized "java/lang/System"] ++ wsX00)
def wsX0_held : List Cond := .code yX0_held cX0_held 3 (some .int) :: ([.methodLink RX0 36 yX0_start, .instanceMethod yX0_start, .selects RX0 yX0_start yX0_start, .initialized RX0, .code yX0_start cX0_start 2 (some .int), .methodLink RX0 25 yX0_leafWith, .static yX0_leafWith, .code yX0_leafWith cX0_leafWith 2 (some .int), .methodLink RX0 29 yX0_placeOf, .instanceMethod yX0_placeOf, .selects RX0 yX0_placeOf yX0_placeOf, .code yX0_placeOf cX0_placeOf 3 (some .int), .fieldLink RX0 15 "BinderParcels$Binder" "size" "I", .fieldLink RX0 9 "BinderParcels$Binder" "leaves" "[I", .methodLink RX0 39 yX0_end, .instanceMethod yX0_end, .selects RX0 yX0_end yX0_end, .code yX0_end cX0_end 4 (some .int), .methodLink RX0 33 yX0_numberOf, .static yX0_numberOf, .code yX0_numberOf cX0_numberOf 1 (some .int)] ++ wsX00)
def wsX0_earliestIssue : List Cond := .code yX0_earliestIssue cX0_earliestIssue 3 (some .int) :: ([.fieldLink RX0 9 "BinderParcels$Binder" "leaves" "[I", .methodLink RX0 36 yX0_start, .instanceMethod yX0_start, .selects RX0 yX0_start yX0_start, .initialized RX0, .code yX0_start cX0_start 2 (some .int), .methodLink RX0 25 yX0_leafWith, .static yX0_leafWith, .code yX0_leafWith cX0_leafWith 2 (some .int), .methodLink RX0 29 yX0_placeOf, .instanceMethod yX0_placeOf, .selects RX0 yX0_placeOf yX0_placeOf, .code yX0_placeOf cX0_placeOf 3 (some .int), .fieldLink RX0 15 "BinderParcels$Binder" "size" "I", .methodLink RX0 39 yX0_end, .instanceMethod yX0_end, .selects RX0 yX0_end yX0_end, .code yX0_end cX0_end 4 (some .int), .methodLink RX0 33 yX0_numberOf, .static yX0_numberOf, .code yX0_numberOf cX0_numberOf 1 (some .int), .methodLink RX0 55 yX0_issueOf, .static yX0_issueOf, .code yX0_issueOf cX0_issueOf 1 (some .int)] ++ wsX00)
def wsX0_latestIssue : List Cond := .code yX0_latestIssue cX0_latestIssue 4 (some .int) :: ([.fieldLink RX0 9 "BinderParcels$Binder" "leaves" "[I", .methodLink RX0 36 yX0_start, .instanceMethod yX0_start, .selects RX0 yX0_start yX0_start, .initialized RX0, .code yX0_start cX0_start 2 (some .int), .methodLink RX0 25 yX0_leafWith, .static yX0_leafWith, .code yX0_leafWith cX0_leafWith 2 (some .int), .methodLink RX0 29 yX0_placeOf, .instanceMethod yX0_placeOf, .selects RX0 yX0_placeOf yX0_placeOf, .code yX0_placeOf cX0_placeOf 3 (some .int), .fieldLink RX0 15 "BinderParcels$Binder" "size" "I", .methodLink RX0 39 yX0_end, .instanceMethod yX0_end, .selects RX0 yX0_end yX0_end, .code yX0_end cX0_end 4 (some .int), .methodLink RX0 33 yX0_numberOf, .static yX0_numberOf, .code yX0_numberOf cX0_numberOf 1 (some .int), .methodLink RX0 55 yX0_issueOf, .static yX0_issueOf, .code yX0_issueOf cX0_issueOf 1 (some .int)] ++ wsX00)
def wsX0_leavesOf : List Cond := .code yX0_leavesOf cX0_leavesOf 4 (some .int) :: ([.fieldLink RX0 15 "BinderParcels$Binder" "size" "I", .fieldLink RX0 9 "BinderParcels$Binder" "leaves" "[I", .methodLink RX0 55 yX0_issueOf, .static yX0_issueOf, .initialized RX0, .code yX0_issueOf cX0_issueOf 1 (some .int)] ++ wsX00)
def wsX0_checkNumber : List Cond := .code yX0_checkNumber cX0_checkNumber 3 (some .int) :: ([.fieldLink RX0 15 "BinderParcels$Binder" "size" "I", .fieldLink RX0 9 "BinderParcels$Binder" "leaves" "[I", .methodLink RX0 33 yX0_numberOf, .static yX0_numberOf, .initialized RX0, .code yX0_numberOf cX0_numberOf 1 (some .int), .methodLink RX0 55 yX0_issueOf, .static yX0_issueOf, .code yX0_issueOf cX0_issueOf 1 (some .int)] ++ wsX00)
def wsX0_isSameAs : List Cond := .code yX0_isSameAs cX0_isSameAs 3 (some .boolean) :: ([.fieldLink RX0 15 "BinderParcels$Binder" "size" "I", .fieldLink RX0 9 "BinderParcels$Binder" "leaves" "[I"] ++ wsX00)
def wsX0_difference_r1 : List Cond := [Cond.methodLink RX0 58 yX0_held, Cond.instanceMethod yX0_held, Cond.selects RX0 yX0_held yX0_held, Cond.initialized RX0, Cond.code yX0_held cX0_held 3 (some .int), Cond.methodLink RX0 36 yX0_start, Cond.instanceMethod yX0_start, Cond.selects RX0 yX0_start yX0_start, Cond.code yX0_start cX0_start 2 (some .int), Cond.methodLink RX0 25 yX0_leafWith, Cond.static yX0_leafWith, Cond.code yX0_leafWith cX0_leafWith 2 (some .int), Cond.methodLink RX0 29 yX0_placeOf, Cond.instanceMethod yX0_placeOf, Cond.selects RX0 yX0_placeOf yX0_placeOf, Cond.code yX0_placeOf cX0_placeOf 3 (some .int), Cond.fieldLink RX0 15 "BinderParcels$Binder" "size" "I", Cond.fieldLink RX0 9 "BinderParcels$Binder" "leaves" "[I", Cond.methodLink RX0 39 yX0_end, Cond.instanceMethod yX0_end, Cond.selects RX0 yX0_end yX0_end, Cond.code yX0_end cX0_end 4 (some .int), Cond.methodLink RX0 33 yX0_numberOf, Cond.static yX0_numberOf]
def wsX0_difference_r2 : List Cond := [Cond.code yX0_numberOf cX0_numberOf 1 (some .int), Cond.methodLink RX0 61 yX0_earliestIssue, Cond.instanceMethod yX0_earliestIssue, Cond.selects RX0 yX0_earliestIssue yX0_earliestIssue, Cond.code yX0_earliestIssue cX0_earliestIssue 3 (some .int), Cond.methodLink RX0 55 yX0_issueOf, Cond.static yX0_issueOf, Cond.code yX0_issueOf cX0_issueOf 1 (some .int), Cond.methodLink RX0 51 yX0_holds, Cond.instanceMethod yX0_holds, Cond.selects RX0 yX0_holds yX0_holds, Cond.code yX0_holds cX0_holds 5 (some .boolean)]
def wsX0_difference : List Cond := .code yX0_difference cX0_difference 6 (some .int) :: ((wsX0_difference_r1 ++ wsX0_difference_r2) ++ wsX00)
def wsX0_differences_r1 : List Cond := [Cond.methodLink RX0 64 yX0_difference, Cond.instanceMethod yX0_difference, Cond.selects RX0 yX0_difference yX0_difference, Cond.initialized RX0, Cond.code yX0_difference cX0_difference 6 (some .int), Cond.methodLink RX0 58 yX0_held, Cond.instanceMethod yX0_held, Cond.selects RX0 yX0_held yX0_held, Cond.code yX0_held cX0_held 3 (some .int), Cond.methodLink RX0 36 yX0_start, Cond.instanceMethod yX0_start, Cond.selects RX0 yX0_start yX0_start, Cond.code yX0_start cX0_start 2 (some .int), Cond.methodLink RX0 25 yX0_leafWith, Cond.static yX0_leafWith, Cond.code yX0_leafWith cX0_leafWith 2 (some .int), Cond.methodLink RX0 29 yX0_placeOf, Cond.instanceMethod yX0_placeOf, Cond.selects RX0 yX0_placeOf yX0_placeOf, Cond.code yX0_placeOf cX0_placeOf 3 (some .int), Cond.fieldLink RX0 15 "BinderParcels$Binder" "size" "I", Cond.fieldLink RX0 9 "BinderParcels$Binder" "leaves" "[I", Cond.methodLink RX0 39 yX0_end, Cond.instanceMethod yX0_end]
def wsX0_differences_r2 : List Cond := [Cond.selects RX0 yX0_end yX0_end, Cond.code yX0_end cX0_end 4 (some .int), Cond.methodLink RX0 33 yX0_numberOf, Cond.static yX0_numberOf, Cond.code yX0_numberOf cX0_numberOf 1 (some .int), Cond.methodLink RX0 61 yX0_earliestIssue, Cond.instanceMethod yX0_earliestIssue, Cond.selects RX0 yX0_earliestIssue yX0_earliestIssue, Cond.code yX0_earliestIssue cX0_earliestIssue 3 (some .int), Cond.methodLink RX0 55 yX0_issueOf, Cond.static yX0_issueOf, Cond.code yX0_issueOf cX0_issueOf 1 (some .int), Cond.methodLink RX0 51 yX0_holds, Cond.instanceMethod yX0_holds, Cond.selects RX0 yX0_holds yX0_holds, Cond.code yX0_holds cX0_holds 5 (some .boolean)]
def wsX0_differences : List Cond := .code yX0_differences cX0_differences 5 (some .int) :: ((wsX0_differences_r1 ++ wsX0_differences_r2) ++ wsX00)
def wsX0_wrong_r1 : List Cond := [Cond.methodLink RX0 68 yX0_differences, Cond.instanceMethod yX0_differences, Cond.selects RX0 yX0_differences yX0_differences, Cond.initialized RX0, Cond.code yX0_differences cX0_differences 5 (some .int), Cond.methodLink RX0 64 yX0_difference, Cond.instanceMethod yX0_difference, Cond.selects RX0 yX0_difference yX0_difference, Cond.code yX0_difference cX0_difference 6 (some .int), Cond.methodLink RX0 58 yX0_held, Cond.instanceMethod yX0_held, Cond.selects RX0 yX0_held yX0_held, Cond.code yX0_held cX0_held 3 (some .int), Cond.methodLink RX0 36 yX0_start, Cond.instanceMethod yX0_start, Cond.selects RX0 yX0_start yX0_start, Cond.code yX0_start cX0_start 2 (some .int), Cond.methodLink RX0 25 yX0_leafWith, Cond.static yX0_leafWith, Cond.code yX0_leafWith cX0_leafWith 2 (some .int), Cond.methodLink RX0 29 yX0_placeOf, Cond.instanceMethod yX0_placeOf, Cond.selects RX0 yX0_placeOf yX0_placeOf, Cond.code yX0_placeOf cX0_placeOf 3 (some .int)]
def wsX0_wrong_r2 : List Cond := [Cond.fieldLink RX0 15 "BinderParcels$Binder" "size" "I", Cond.fieldLink RX0 9 "BinderParcels$Binder" "leaves" "[I", Cond.methodLink RX0 39 yX0_end, Cond.instanceMethod yX0_end, Cond.selects RX0 yX0_end yX0_end, Cond.code yX0_end cX0_end 4 (some .int), Cond.methodLink RX0 33 yX0_numberOf, Cond.static yX0_numberOf, Cond.code yX0_numberOf cX0_numberOf 1 (some .int), Cond.methodLink RX0 61 yX0_earliestIssue, Cond.instanceMethod yX0_earliestIssue, Cond.selects RX0 yX0_earliestIssue yX0_earliestIssue, Cond.code yX0_earliestIssue cX0_earliestIssue 3 (some .int), Cond.methodLink RX0 55 yX0_issueOf, Cond.static yX0_issueOf, Cond.code yX0_issueOf cX0_issueOf 1 (some .int), Cond.methodLink RX0 51 yX0_holds, Cond.instanceMethod yX0_holds, Cond.selects RX0 yX0_holds yX0_holds, Cond.code yX0_holds cX0_holds 5 (some .boolean)]
def wsX0_wrong : List Cond := .code yX0_wrong cX0_wrong 2 (some .int) :: ((wsX0_wrong_r1 ++ wsX0_wrong_r2) ++ wsX00)
def wsX3_init : List Cond := .code yX3_init cX3_init 2 none :: ([.methodLink RX3 3 objectInit, .instanceMethod objectInit, .code objectInit ⟨#[0xb1]⟩ 1 none, .arrayClass .int, .fieldLink RX3 9 "BinderParcels$State" "orders" "[I", .fieldLink RX3 15 "BinderParcels$State" "orderCounts" "[I", .classLink RX3 18 RX0, .instantiable RX0 2, .initialized RX0, .fieldLink RX3 21 "BinderParcels$State" "text" "LBinderParcels$Binder;", .fieldLink RX3 25 "BinderParcels$State" "binders" "[LBinderParcels$Binder;", .fieldLink RX3 29 "BinderParcels$State" "waiting" "[I", .fieldLink RX3 32 "BinderParcels$State" "lost" "[I", .instanceMethod yX0_init, .code yX0_init cX0_init 1 none, .methodLink RX0 3 objectInit, .fieldLink RX0 9 "BinderParcels$Binder" "leaves" "[I"] ++ wsX30 ++ wsX00)
def wsX1_init_r1 : List Cond := [Cond.methodLink RX1 3 objectInit, Cond.instanceMethod objectInit, Cond.code objectInit ⟨#[0xb1]⟩ 1 none, Cond.classLink RX1 9 RX3, Cond.fieldLink RX1 11 "BinderParcels$History" "states" "[LBinderParcels$State;", Cond.instantiable RX3 8, Cond.initialized RX3, Cond.methodLink RX1 17 yX3_init, Cond.instanceMethod yX3_init, Cond.code yX3_init cX3_init 2 none, Cond.methodLink RX3 3 objectInit, Cond.arrayClass .int, Cond.fieldLink RX3 9 "BinderParcels$State" "orders" "[I", Cond.fieldLink RX3 15 "BinderParcels$State" "orderCounts" "[I", Cond.classLink RX3 18 RX0, Cond.instantiable RX0 2, Cond.initialized RX0, Cond.fieldLink RX3 21 "BinderParcels$State" "text" "LBinderParcels$Binder;", Cond.fieldLink RX3 25 "BinderParcels$State" "binders" "[LBinderParcels$Binder;", Cond.fieldLink RX3 29 "BinderParcels$State" "waiting" "[I", Cond.fieldLink RX3 32 "BinderParcels$State" "lost" "[I", Cond.instanceMethod yX0_init, Cond.code yX0_init cX0_init 1 none, Cond.methodLink RX0 3 objectInit]
def wsX1_init_r2 : List Cond := [Cond.fieldLink RX0 9 "BinderParcels$Binder" "leaves" "[I"]
def wsX1_init : List Cond := .code yX1_init cX1_init 2 none :: ((wsX1_init_r1 ++ wsX1_init_r2) ++ wsX10 ++ wsX30 ++ wsX00)
def wsX3_copy : List Cond := .code yX3_copy cX3_copy 3 none :: ([.fieldLink RX3 9 "BinderParcels$State" "orders" "[I", .methodLink RX3 35 arraycopyName, .native arraycopyName, .static arraycopyName, .initialized "java/lang/System", .fieldLink RX3 15 "BinderParcels$State" "orderCounts" "[I", .fieldLink RX3 41 "BinderParcels$State" "parcels" "I", .fieldLink RX3 21 "BinderParcels$State" "text" "LBinderParcels$Binder;", .fieldLink RX3 25 "BinderParcels$State" "binders" "[LBinderParcels$Binder;", .fieldLink RX3 29 "BinderParcels$State" "waiting" "[I", .fieldLink RX3 32 "BinderParcels$State" "lost" "[I", .fieldLink RX3 49 "BinderParcels$State" "owners" "I", .methodLink RX3 45 yX0_copy, .instanceMethod yX0_copy, .selects RX0 yX0_copy yX0_copy, .initialized RX0, .code yX0_copy cX0_copy 2 none, .fieldLink RX0 9 "BinderParcels$Binder" "leaves" "[I", .fieldLink RX0 15 "BinderParcels$Binder" "size" "I", .methodLink RX0 19 arraycopyName] ++ wsX30 ++ wsX00)
def wsX1_record_r1 : List Cond := [Cond.fieldLink RX1 11 "BinderParcels$History" "states" "[LBinderParcels$State;", Cond.fieldLink RX1 18 "BinderParcels$History" "oldest" "I", Cond.fieldLink RX1 22 "BinderParcels$History" "size" "I", Cond.methodLink RX1 25 yX3_copy, Cond.instanceMethod yX3_copy, Cond.selects RX3 yX3_copy yX3_copy, Cond.initialized RX3, Cond.code yX3_copy cX3_copy 3 none, Cond.fieldLink RX3 9 "BinderParcels$State" "orders" "[I", Cond.methodLink RX3 35 arraycopyName, Cond.native arraycopyName, Cond.static arraycopyName, Cond.initialized "java/lang/System", Cond.fieldLink RX3 15 "BinderParcels$State" "orderCounts" "[I", Cond.fieldLink RX3 41 "BinderParcels$State" "parcels" "I", Cond.fieldLink RX3 21 "BinderParcels$State" "text" "LBinderParcels$Binder;", Cond.fieldLink RX3 25 "BinderParcels$State" "binders" "[LBinderParcels$Binder;", Cond.fieldLink RX3 29 "BinderParcels$State" "waiting" "[I", Cond.fieldLink RX3 32 "BinderParcels$State" "lost" "[I", Cond.fieldLink RX3 49 "BinderParcels$State" "owners" "I", Cond.methodLink RX3 45 yX0_copy, Cond.instanceMethod yX0_copy, Cond.selects RX0 yX0_copy yX0_copy, Cond.initialized RX0]
def wsX1_record_r2 : List Cond := [Cond.code yX0_copy cX0_copy 2 none, Cond.fieldLink RX0 9 "BinderParcels$Binder" "leaves" "[I", Cond.fieldLink RX0 15 "BinderParcels$Binder" "size" "I", Cond.methodLink RX0 19 arraycopyName]
def wsX1_record : List Cond := .code yX1_record cX1_record 2 none :: ((wsX1_record_r1 ++ wsX1_record_r2) ++ wsX10 ++ wsX30 ++ wsX00)
def wsX1_takeBack_r1 : List Cond := [Cond.fieldLink RX1 22 "BinderParcels$History" "size" "I", Cond.fieldLink RX1 11 "BinderParcels$History" "states" "[LBinderParcels$State;", Cond.fieldLink RX1 18 "BinderParcels$History" "oldest" "I", Cond.methodLink RX1 25 yX3_copy, Cond.instanceMethod yX3_copy, Cond.selects RX3 yX3_copy yX3_copy, Cond.initialized RX3, Cond.code yX3_copy cX3_copy 3 none, Cond.fieldLink RX3 9 "BinderParcels$State" "orders" "[I", Cond.methodLink RX3 35 arraycopyName, Cond.native arraycopyName, Cond.static arraycopyName, Cond.initialized "java/lang/System", Cond.fieldLink RX3 15 "BinderParcels$State" "orderCounts" "[I", Cond.fieldLink RX3 41 "BinderParcels$State" "parcels" "I", Cond.fieldLink RX3 21 "BinderParcels$State" "text" "LBinderParcels$Binder;", Cond.fieldLink RX3 25 "BinderParcels$State" "binders" "[LBinderParcels$Binder;", Cond.fieldLink RX3 29 "BinderParcels$State" "waiting" "[I", Cond.fieldLink RX3 32 "BinderParcels$State" "lost" "[I", Cond.fieldLink RX3 49 "BinderParcels$State" "owners" "I", Cond.methodLink RX3 45 yX0_copy, Cond.instanceMethod yX0_copy, Cond.selects RX0 yX0_copy yX0_copy, Cond.initialized RX0]
def wsX1_takeBack_r2 : List Cond := [Cond.code yX0_copy cX0_copy 2 none, Cond.fieldLink RX0 9 "BinderParcels$Binder" "leaves" "[I", Cond.fieldLink RX0 15 "BinderParcels$Binder" "size" "I", Cond.methodLink RX0 19 arraycopyName]
def wsX1_takeBack : List Cond := .code yX1_takeBack cX1_takeBack 2 none :: ((wsX1_takeBack_r1 ++ wsX1_takeBack_r2) ++ wsX10 ++ wsX30 ++ wsX00)
def wsX2_init : List Cond := .code yX2_init cX2_init 1 none :: ([.methodLink RX2 5 objectInit, .instanceMethod objectInit, .code objectInit ⟨#[0xb1]⟩ 1 none, .arrayClass .char, .fieldLink RX2 11 "BinderParcels$Pad" "characters" "[C"] ++ wsX20)
def wsX2_charactersIn : List Cond := .code yX2_charactersIn cX2_charactersIn 7 (some .int) :: ([.constantLong RX2 15 (255), .constantLong RX2 17 (33), .constantLong RX2 19 (126)])
def wsX2_append : List Cond := .code yX2_append cX2_append 7 none :: ([.fieldLink RX2 21 "BinderParcels$Pad" "length" "I", .fieldLink RX2 11 "BinderParcels$Pad" "characters" "[C", .constantLong RX2 15 (255)] ++ wsX20)
def wsX2_empty : List Cond := .code yX2_empty cX2_empty 1 none :: ([.fieldLink RX2 21 "BinderParcels$Pad" "length" "I"] ++ wsX20)
def wsX2_canStand : List Cond := .code yX2_canStand cX2_canStand 2 (some .boolean) :: ([])
def wsX2_firstFault : List Cond := .code yX2_firstFault cX2_firstFault 2 (some .int) :: ([.fieldLink RX2 21 "BinderParcels$Pad" "length" "I", .fieldLink RX2 11 "BinderParcels$Pad" "characters" "[C", .methodLink RX2 25 yX2_canStand, .static yX2_canStand, .initialized RX2, .code yX2_canStand cX2_canStand 2 (some .boolean)] ++ wsX20)
def wsX2_orders : List Cond := .code yX2_orders cX2_orders 1 (some .int) :: ([.fieldLink RX2 21 "BinderParcels$Pad" "length" "I"] ++ wsX20)
def wsX2_order : List Cond := .code yX2_order cX2_order 4 (some .int) :: ([.fieldLink RX2 11 "BinderParcels$Pad" "characters" "[C"] ++ wsX20)
def wsX2_hasNumberTwice : List Cond := .code yX2_hasNumberTwice cX2_hasNumberTwice 3 (some .boolean) :: ([.methodLink RX2 29 yX2_orders, .instanceMethod yX2_orders, .selects RX2 yX2_orders yX2_orders, .initialized RX2, .code yX2_orders cX2_orders 1 (some .int), .fieldLink RX2 21 "BinderParcels$Pad" "length" "I", .methodLink RX2 33 yX2_order, .instanceMethod yX2_order, .selects RX2 yX2_order yX2_order, .code yX2_order cX2_order 4 (some .int), .fieldLink RX2 11 "BinderParcels$Pad" "characters" "[C"] ++ wsX20)
def wsX3_hasOwner : List Cond := .code yX3_hasOwner cX3_hasOwner 2 (some .boolean) :: ([.fieldLink RX3 49 "BinderParcels$State" "owners" "I"] ++ wsX30)
def wsX3_hasParcel : List Cond := .code yX3_hasParcel cX3_hasParcel 2 (some .boolean) :: ([.fieldLink RX3 41 "BinderParcels$State" "parcels" "I"] ++ wsX30)
def wsX3_isWaiting : List Cond := .code yX3_isWaiting cX3_isWaiting 3 (some .boolean) :: ([.fieldLink RX3 29 "BinderParcels$State" "waiting" "[I"] ++ wsX30)
def wsX3_order : List Cond := .code yX3_order cX3_order 3 (some .int) :: ([.fieldLink RX3 9 "BinderParcels$State" "orders" "[I"] ++ wsX30)
def wsX3_doWithCare_r1 : List Cond := [Cond.fieldLink RX3 15 "BinderParcels$State" "orderCounts" "[I", Cond.methodLink RX3 65 yX3_order, Cond.instanceMethod yX3_order, Cond.selects RX3 yX3_order yX3_order, Cond.initialized RX3, Cond.code yX3_order cX3_order 3 (some .int), Cond.fieldLink RX3 9 "BinderParcels$State" "orders" "[I", Cond.methodLink RX3 68 yX0_removeAll, Cond.instanceMethod yX0_removeAll, Cond.selects RX0 yX0_removeAll yX0_removeAll, Cond.initialized RX0, Cond.code yX0_removeAll cX0_removeAll 3 none, Cond.methodLink RX0 36 yX0_start, Cond.instanceMethod yX0_start, Cond.selects RX0 yX0_start yX0_start, Cond.code yX0_start cX0_start 2 (some .int), Cond.methodLink RX0 25 yX0_leafWith, Cond.static yX0_leafWith, Cond.code yX0_leafWith cX0_leafWith 2 (some .int), Cond.methodLink RX0 29 yX0_placeOf, Cond.instanceMethod yX0_placeOf, Cond.selects RX0 yX0_placeOf yX0_placeOf, Cond.code yX0_placeOf cX0_placeOf 3 (some .int), Cond.fieldLink RX0 15 "BinderParcels$Binder" "size" "I"]
def wsX3_doWithCare_r2 : List Cond := [Cond.fieldLink RX0 9 "BinderParcels$Binder" "leaves" "[I", Cond.methodLink RX0 39 yX0_end, Cond.instanceMethod yX0_end, Cond.selects RX0 yX0_end yX0_end, Cond.code yX0_end cX0_end 4 (some .int), Cond.methodLink RX0 33 yX0_numberOf, Cond.static yX0_numberOf, Cond.code yX0_numberOf cX0_numberOf 1 (some .int), Cond.methodLink RX0 42 yX0_removeRange, Cond.instanceMethod yX0_removeRange, Cond.selects RX0 yX0_removeRange yX0_removeRange, Cond.code yX0_removeRange cX0_removeRange 3 none, Cond.methodLink RX0 19 arraycopyName, Cond.native arraycopyName, Cond.static arraycopyName, Cond.initialized "java/lang/System", Cond.methodLink RX3 72 yX0_insert, Cond.instanceMethod yX0_insert, Cond.selects RX0 yX0_insert yX0_insert, Cond.code yX0_insert cX0_insert 5 none]
def wsX3_doWithCare : List Cond := .code yX3_doWithCare cX3_doWithCare 5 none :: ((wsX3_doWithCare_r1 ++ wsX3_doWithCare_r2) ++ wsX30 ++ wsX00)
def wsX3_addParcel_r1 : List Cond := [Cond.fieldLink RX3 41 "BinderParcels$State" "parcels" "I", Cond.fieldLink RX3 15 "BinderParcels$State" "orderCounts" "[I", Cond.fieldLink RX3 9 "BinderParcels$State" "orders" "[I", Cond.fieldLink RX3 21 "BinderParcels$State" "text" "LBinderParcels$Binder;", Cond.fieldLink RX3 49 "BinderParcels$State" "owners" "I", Cond.fieldLink RX3 29 "BinderParcels$State" "waiting" "[I", Cond.methodLink RX3 52 yX2_orders, Cond.instanceMethod yX2_orders, Cond.selects RX2 yX2_orders yX2_orders, Cond.initialized RX2, Cond.code yX2_orders cX2_orders 1 (some .int), Cond.fieldLink RX2 21 "BinderParcels$Pad" "length" "I", Cond.methodLink RX3 57 yX2_order, Cond.instanceMethod yX2_order, Cond.selects RX2 yX2_order yX2_order, Cond.code yX2_order cX2_order 4 (some .int), Cond.fieldLink RX2 11 "BinderParcels$Pad" "characters" "[C", Cond.methodLink RX3 61 yX3_doWithCare, Cond.instanceMethod yX3_doWithCare, Cond.selects RX3 yX3_doWithCare yX3_doWithCare, Cond.initialized RX3, Cond.code yX3_doWithCare cX3_doWithCare 5 none, Cond.methodLink RX3 65 yX3_order, Cond.instanceMethod yX3_order]
def wsX3_addParcel_r2 : List Cond := [Cond.selects RX3 yX3_order yX3_order, Cond.code yX3_order cX3_order 3 (some .int), Cond.methodLink RX3 68 yX0_removeAll, Cond.instanceMethod yX0_removeAll, Cond.selects RX0 yX0_removeAll yX0_removeAll, Cond.initialized RX0, Cond.code yX0_removeAll cX0_removeAll 3 none, Cond.methodLink RX0 36 yX0_start, Cond.instanceMethod yX0_start, Cond.selects RX0 yX0_start yX0_start, Cond.code yX0_start cX0_start 2 (some .int), Cond.methodLink RX0 25 yX0_leafWith, Cond.static yX0_leafWith, Cond.code yX0_leafWith cX0_leafWith 2 (some .int), Cond.methodLink RX0 29 yX0_placeOf, Cond.instanceMethod yX0_placeOf, Cond.selects RX0 yX0_placeOf yX0_placeOf, Cond.code yX0_placeOf cX0_placeOf 3 (some .int), Cond.fieldLink RX0 15 "BinderParcels$Binder" "size" "I", Cond.fieldLink RX0 9 "BinderParcels$Binder" "leaves" "[I", Cond.methodLink RX0 39 yX0_end, Cond.instanceMethod yX0_end, Cond.selects RX0 yX0_end yX0_end, Cond.code yX0_end cX0_end 4 (some .int)]
def wsX3_addParcel_r3 : List Cond := [Cond.methodLink RX0 33 yX0_numberOf, Cond.static yX0_numberOf, Cond.code yX0_numberOf cX0_numberOf 1 (some .int), Cond.methodLink RX0 42 yX0_removeRange, Cond.instanceMethod yX0_removeRange, Cond.selects RX0 yX0_removeRange yX0_removeRange, Cond.code yX0_removeRange cX0_removeRange 3 none, Cond.methodLink RX0 19 arraycopyName, Cond.native arraycopyName, Cond.static arraycopyName, Cond.initialized "java/lang/System", Cond.methodLink RX3 72 yX0_insert, Cond.instanceMethod yX0_insert, Cond.selects RX0 yX0_insert yX0_insert, Cond.code yX0_insert cX0_insert 5 none]
def wsX3_addParcel : List Cond := .code yX3_addParcel cX3_addParcel 4 (some .int) :: ((wsX3_addParcel_r1 ++ (wsX3_addParcel_r2 ++ wsX3_addParcel_r3)) ++ wsX30 ++ wsX20 ++ wsX00)
def wsX3_addOwner : List Cond := .code yX3_addOwner cX3_addOwner 2 (some .int) :: ([.fieldLink RX3 49 "BinderParcels$State" "owners" "I", .fieldLink RX3 25 "BinderParcels$State" "binders" "[LBinderParcels$Binder;", .fieldLink RX3 21 "BinderParcels$State" "text" "LBinderParcels$Binder;", .fieldLink RX3 29 "BinderParcels$State" "waiting" "[I", .fieldLink RX3 32 "BinderParcels$State" "lost" "[I", .methodLink RX3 45 yX0_copy, .instanceMethod yX0_copy, .selects RX0 yX0_copy yX0_copy, .initialized RX0, .code yX0_copy cX0_copy 2 none, .fieldLink RX0 9 "BinderParcels$Binder" "leaves" "[I", .fieldLink RX0 15 "BinderParcels$Binder" "size" "I", .methodLink RX0 19 arraycopyName, .native arraycopyName, .static arraycopyName, .initialized "java/lang/System"] ++ wsX30 ++ wsX00)
def wsX3_doCarelessly_r1 : List Cond := [Cond.fieldLink RX3 15 "BinderParcels$State" "orderCounts" "[I", Cond.methodLink RX3 65 yX3_order, Cond.instanceMethod yX3_order, Cond.selects RX3 yX3_order yX3_order, Cond.initialized RX3, Cond.code yX3_order cX3_order 3 (some .int), Cond.fieldLink RX3 9 "BinderParcels$State" "orders" "[I", Cond.methodLink RX3 72 yX0_insert, Cond.instanceMethod yX0_insert, Cond.selects RX0 yX0_insert yX0_insert, Cond.initialized RX0, Cond.code yX0_insert cX0_insert 5 none, Cond.fieldLink RX0 15 "BinderParcels$Binder" "size" "I", Cond.fieldLink RX0 9 "BinderParcels$Binder" "leaves" "[I", Cond.methodLink RX0 19 arraycopyName, Cond.native arraycopyName, Cond.static arraycopyName, Cond.initialized "java/lang/System", Cond.methodLink RX0 25 yX0_leafWith, Cond.static yX0_leafWith, Cond.code yX0_leafWith cX0_leafWith 2 (some .int), Cond.methodLink RX0 29 yX0_placeOf, Cond.instanceMethod yX0_placeOf, Cond.selects RX0 yX0_placeOf yX0_placeOf]
def wsX3_doCarelessly_r2 : List Cond := [Cond.code yX0_placeOf cX0_placeOf 3 (some .int), Cond.methodLink RX3 76 yX0_removeEarliest, Cond.instanceMethod yX0_removeEarliest, Cond.selects RX0 yX0_removeEarliest yX0_removeEarliest, Cond.code yX0_removeEarliest cX0_removeEarliest 3 none, Cond.methodLink RX0 46 Lib.Math.min.name, Cond.static Lib.Math.min.name, Cond.initialized "java/lang/Math", Cond.code Lib.Math.min.name Lib.Math.min.code 2 (some .int), Cond.methodLink RX0 36 yX0_start, Cond.instanceMethod yX0_start, Cond.selects RX0 yX0_start yX0_start, Cond.code yX0_start cX0_start 2 (some .int), Cond.methodLink RX0 39 yX0_end, Cond.instanceMethod yX0_end, Cond.selects RX0 yX0_end yX0_end, Cond.code yX0_end cX0_end 4 (some .int), Cond.methodLink RX0 33 yX0_numberOf, Cond.static yX0_numberOf, Cond.code yX0_numberOf cX0_numberOf 1 (some .int), Cond.methodLink RX0 42 yX0_removeRange, Cond.instanceMethod yX0_removeRange, Cond.selects RX0 yX0_removeRange yX0_removeRange, Cond.code yX0_removeRange cX0_removeRange 3 none]
def wsX3_doCarelessly : List Cond := .code yX3_doCarelessly cX3_doCarelessly 5 none :: ((wsX3_doCarelessly_r1 ++ wsX3_doCarelessly_r2) ++ wsX30 ++ wsX00)
def wsX3_doSetWithCare_r1 : List Cond := [Cond.fieldLink RX3 41 "BinderParcels$State" "parcels" "I", Cond.methodLink RX3 61 yX3_doWithCare, Cond.instanceMethod yX3_doWithCare, Cond.selects RX3 yX3_doWithCare yX3_doWithCare, Cond.initialized RX3, Cond.code yX3_doWithCare cX3_doWithCare 5 none, Cond.fieldLink RX3 15 "BinderParcels$State" "orderCounts" "[I", Cond.methodLink RX3 65 yX3_order, Cond.instanceMethod yX3_order, Cond.selects RX3 yX3_order yX3_order, Cond.code yX3_order cX3_order 3 (some .int), Cond.fieldLink RX3 9 "BinderParcels$State" "orders" "[I", Cond.methodLink RX3 68 yX0_removeAll, Cond.instanceMethod yX0_removeAll, Cond.selects RX0 yX0_removeAll yX0_removeAll, Cond.initialized RX0, Cond.code yX0_removeAll cX0_removeAll 3 none, Cond.methodLink RX0 36 yX0_start, Cond.instanceMethod yX0_start, Cond.selects RX0 yX0_start yX0_start, Cond.code yX0_start cX0_start 2 (some .int), Cond.methodLink RX0 25 yX0_leafWith, Cond.static yX0_leafWith, Cond.code yX0_leafWith cX0_leafWith 2 (some .int)]
def wsX3_doSetWithCare_r2 : List Cond := [Cond.methodLink RX0 29 yX0_placeOf, Cond.instanceMethod yX0_placeOf, Cond.selects RX0 yX0_placeOf yX0_placeOf, Cond.code yX0_placeOf cX0_placeOf 3 (some .int), Cond.fieldLink RX0 15 "BinderParcels$Binder" "size" "I", Cond.fieldLink RX0 9 "BinderParcels$Binder" "leaves" "[I", Cond.methodLink RX0 39 yX0_end, Cond.instanceMethod yX0_end, Cond.selects RX0 yX0_end yX0_end, Cond.code yX0_end cX0_end 4 (some .int), Cond.methodLink RX0 33 yX0_numberOf, Cond.static yX0_numberOf, Cond.code yX0_numberOf cX0_numberOf 1 (some .int), Cond.methodLink RX0 42 yX0_removeRange, Cond.instanceMethod yX0_removeRange, Cond.selects RX0 yX0_removeRange yX0_removeRange, Cond.code yX0_removeRange cX0_removeRange 3 none, Cond.methodLink RX0 19 arraycopyName, Cond.native arraycopyName, Cond.static arraycopyName, Cond.initialized "java/lang/System", Cond.methodLink RX3 72 yX0_insert, Cond.instanceMethod yX0_insert, Cond.selects RX0 yX0_insert yX0_insert]
def wsX3_doSetWithCare_r3 : List Cond := [Cond.code yX0_insert cX0_insert 5 none]
def wsX3_doSetWithCare : List Cond := .code yX3_doSetWithCare cX3_doSetWithCare 4 none :: ((wsX3_doSetWithCare_r1 ++ (wsX3_doSetWithCare_r2 ++ wsX3_doSetWithCare_r3)) ++ wsX30 ++ wsX00)
def wsX3_ownersOf : List Cond := .code yX3_ownersOf cX3_ownersOf 5 (some .int) :: ([.fieldLink RX3 49 "BinderParcels$State" "owners" "I"] ++ wsX30)
def wsX3_ownersWithRightBinders : List Cond := .code yX3_ownersWithRightBinders cX3_ownersWithRightBinders 3 (some .int) :: ([.fieldLink RX3 49 "BinderParcels$State" "owners" "I", .fieldLink RX3 25 "BinderParcels$State" "binders" "[LBinderParcels$Binder;", .fieldLink RX3 21 "BinderParcels$State" "text" "LBinderParcels$Binder;", .methodLink RX3 79 yX0_isSameAs, .instanceMethod yX0_isSameAs, .selects RX0 yX0_isSameAs yX0_isSameAs, .initialized RX0, .code yX0_isSameAs cX0_isSameAs 3 (some .boolean), .fieldLink RX0 15 "BinderParcels$Binder" "size" "I", .fieldLink RX0 9 "BinderParcels$Binder" "leaves" "[I"] ++ wsX30 ++ wsX00)
def wsX3_parcelWithMostLeaves : List Cond := .code yX3_parcelWithMostLeaves cX3_parcelWithMostLeaves 5 (some .int) :: ([.fieldLink RX3 41 "BinderParcels$State" "parcels" "I", .fieldLink RX3 21 "BinderParcels$State" "text" "LBinderParcels$Binder;", .methodLink RX3 83 yX0_leavesOf, .instanceMethod yX0_leavesOf, .selects RX0 yX0_leavesOf yX0_leavesOf, .initialized RX0, .code yX0_leavesOf cX0_leavesOf 4 (some .int), .fieldLink RX0 15 "BinderParcels$Binder" "size" "I", .fieldLink RX0 9 "BinderParcels$Binder" "leaves" "[I", .methodLink RX0 55 yX0_issueOf, .static yX0_issueOf, .code yX0_issueOf cX0_issueOf 1 (some .int)] ++ wsX30 ++ wsX00)
def wsX4_init_r1 : List Cond := [Cond.methodLink RX4 1 objectInit, Cond.instanceMethod objectInit, Cond.code objectInit ⟨#[0xb1]⟩ 1 none, Cond.classLink RX4 7 RX3, Cond.instantiable RX3 8, Cond.initialized RX3, Cond.fieldLink RX4 10 "BinderParcels" "now" "LBinderParcels$State;", Cond.classLink RX4 16 RX1, Cond.instantiable RX1 3, Cond.initialized RX1, Cond.fieldLink RX4 19 "BinderParcels" "history" "LBinderParcels$History;", Cond.fieldLink RX4 23 "BinderParcels" "slots" "[LBinderParcels$State;", Cond.arrayClass .boolean, Cond.fieldLink RX4 27 "BinderParcels" "isSaved" "[Z", Cond.classLink RX4 31 RX2, Cond.instantiable RX2 2, Cond.initialized RX2, Cond.fieldLink RX4 34 "BinderParcels" "pad" "LBinderParcels$Pad;", Cond.classLink RX4 38 RX0, Cond.fieldLink RX4 40 "BinderParcels" "trials" "[LBinderParcels$Binder;", Cond.instantiable RX0 2, Cond.initialized RX0, Cond.methodLink RX4 9 yX3_init, Cond.instanceMethod yX3_init]
def wsX4_init_r2 : List Cond := [Cond.code yX3_init cX3_init 2 none, Cond.methodLink RX3 3 objectInit, Cond.arrayClass .int, Cond.fieldLink RX3 9 "BinderParcels$State" "orders" "[I", Cond.fieldLink RX3 15 "BinderParcels$State" "orderCounts" "[I", Cond.classLink RX3 18 RX0, Cond.fieldLink RX3 21 "BinderParcels$State" "text" "LBinderParcels$Binder;", Cond.fieldLink RX3 25 "BinderParcels$State" "binders" "[LBinderParcels$Binder;", Cond.fieldLink RX3 29 "BinderParcels$State" "waiting" "[I", Cond.fieldLink RX3 32 "BinderParcels$State" "lost" "[I", Cond.instanceMethod yX0_init, Cond.code yX0_init cX0_init 1 none, Cond.methodLink RX0 3 objectInit, Cond.fieldLink RX0 9 "BinderParcels$Binder" "leaves" "[I", Cond.methodLink RX4 18 yX1_init, Cond.instanceMethod yX1_init, Cond.code yX1_init cX1_init 2 none, Cond.methodLink RX1 3 objectInit, Cond.classLink RX1 9 RX3, Cond.fieldLink RX1 11 "BinderParcels$History" "states" "[LBinderParcels$State;", Cond.methodLink RX1 17 yX3_init, Cond.instanceMethod yX2_init, Cond.code yX2_init cX2_init 1 none, Cond.methodLink RX2 5 objectInit]
def wsX4_init_r3 : List Cond := [Cond.arrayClass .char, Cond.fieldLink RX2 11 "BinderParcels$Pad" "characters" "[C"]
def wsX4_init : List Cond := .code yX4_init cX4_init 2 none :: ((wsX4_init_r1 ++ (wsX4_init_r2 ++ wsX4_init_r3)) ++ wsX30 ++ wsX40 ++ wsX10 ++ wsX20 ++ wsX00)
def wsX4_issue_r1 : List Cond := [Cond.fieldLink RX4 34 "BinderParcels" "pad" "LBinderParcels$Pad;", Cond.fieldLink RX4 10 "BinderParcels" "now" "LBinderParcels$State;", Cond.fieldLink RX4 19 "BinderParcels" "history" "LBinderParcels$History;", Cond.methodLink RX4 45 yX2_firstFault, Cond.instanceMethod yX2_firstFault, Cond.selects RX2 yX2_firstFault yX2_firstFault, Cond.initialized RX2, Cond.code yX2_firstFault cX2_firstFault 2 (some .int), Cond.fieldLink RX2 21 "BinderParcels$Pad" "length" "I", Cond.fieldLink RX2 11 "BinderParcels$Pad" "characters" "[C", Cond.methodLink RX2 25 yX2_canStand, Cond.static yX2_canStand, Cond.code yX2_canStand cX2_canStand 2 (some .boolean), Cond.methodLink RX4 49 yX2_hasNumberTwice, Cond.instanceMethod yX2_hasNumberTwice, Cond.selects RX2 yX2_hasNumberTwice yX2_hasNumberTwice, Cond.code yX2_hasNumberTwice cX2_hasNumberTwice 3 (some .boolean), Cond.methodLink RX2 29 yX2_orders, Cond.instanceMethod yX2_orders, Cond.selects RX2 yX2_orders yX2_orders, Cond.code yX2_orders cX2_orders 1 (some .int), Cond.methodLink RX2 33 yX2_order, Cond.instanceMethod yX2_order, Cond.selects RX2 yX2_order yX2_order]
def wsX4_issue_r2 : List Cond := [Cond.code yX2_order cX2_order 4 (some .int), Cond.methodLink RX4 57 yX1_record, Cond.instanceMethod yX1_record, Cond.selects RX1 yX1_record yX1_record, Cond.initialized RX1, Cond.code yX1_record cX1_record 2 none, Cond.fieldLink RX1 11 "BinderParcels$History" "states" "[LBinderParcels$State;", Cond.fieldLink RX1 18 "BinderParcels$History" "oldest" "I", Cond.fieldLink RX1 22 "BinderParcels$History" "size" "I", Cond.methodLink RX1 25 yX3_copy, Cond.instanceMethod yX3_copy, Cond.selects RX3 yX3_copy yX3_copy, Cond.initialized RX3, Cond.code yX3_copy cX3_copy 3 none, Cond.fieldLink RX3 9 "BinderParcels$State" "orders" "[I", Cond.methodLink RX3 35 arraycopyName, Cond.native arraycopyName, Cond.static arraycopyName, Cond.initialized "java/lang/System", Cond.fieldLink RX3 15 "BinderParcels$State" "orderCounts" "[I", Cond.fieldLink RX3 41 "BinderParcels$State" "parcels" "I", Cond.fieldLink RX3 21 "BinderParcels$State" "text" "LBinderParcels$Binder;", Cond.fieldLink RX3 25 "BinderParcels$State" "binders" "[LBinderParcels$Binder;", Cond.fieldLink RX3 29 "BinderParcels$State" "waiting" "[I"]
def wsX4_issue_r3 : List Cond := [Cond.fieldLink RX3 32 "BinderParcels$State" "lost" "[I", Cond.fieldLink RX3 49 "BinderParcels$State" "owners" "I", Cond.methodLink RX3 45 yX0_copy, Cond.instanceMethod yX0_copy, Cond.selects RX0 yX0_copy yX0_copy, Cond.initialized RX0, Cond.code yX0_copy cX0_copy 2 none, Cond.fieldLink RX0 9 "BinderParcels$Binder" "leaves" "[I", Cond.fieldLink RX0 15 "BinderParcels$Binder" "size" "I", Cond.methodLink RX0 19 arraycopyName, Cond.methodLink RX4 61 yX3_addParcel, Cond.instanceMethod yX3_addParcel, Cond.selects RX3 yX3_addParcel yX3_addParcel, Cond.code yX3_addParcel cX3_addParcel 4 (some .int), Cond.methodLink RX3 52 yX2_orders, Cond.methodLink RX3 57 yX2_order, Cond.methodLink RX3 61 yX3_doWithCare, Cond.instanceMethod yX3_doWithCare, Cond.selects RX3 yX3_doWithCare yX3_doWithCare, Cond.code yX3_doWithCare cX3_doWithCare 5 none, Cond.methodLink RX3 65 yX3_order, Cond.instanceMethod yX3_order, Cond.selects RX3 yX3_order yX3_order, Cond.code yX3_order cX3_order 3 (some .int)]
def wsX4_issue_r4 : List Cond := [Cond.methodLink RX3 68 yX0_removeAll, Cond.instanceMethod yX0_removeAll, Cond.selects RX0 yX0_removeAll yX0_removeAll, Cond.code yX0_removeAll cX0_removeAll 3 none, Cond.methodLink RX0 36 yX0_start, Cond.instanceMethod yX0_start, Cond.selects RX0 yX0_start yX0_start, Cond.code yX0_start cX0_start 2 (some .int), Cond.methodLink RX0 25 yX0_leafWith, Cond.static yX0_leafWith, Cond.code yX0_leafWith cX0_leafWith 2 (some .int), Cond.methodLink RX0 29 yX0_placeOf, Cond.instanceMethod yX0_placeOf, Cond.selects RX0 yX0_placeOf yX0_placeOf, Cond.code yX0_placeOf cX0_placeOf 3 (some .int), Cond.methodLink RX0 39 yX0_end, Cond.instanceMethod yX0_end, Cond.selects RX0 yX0_end yX0_end, Cond.code yX0_end cX0_end 4 (some .int), Cond.methodLink RX0 33 yX0_numberOf, Cond.static yX0_numberOf, Cond.code yX0_numberOf cX0_numberOf 1 (some .int), Cond.methodLink RX0 42 yX0_removeRange, Cond.instanceMethod yX0_removeRange]
def wsX4_issue_r5 : List Cond := [Cond.selects RX0 yX0_removeRange yX0_removeRange, Cond.code yX0_removeRange cX0_removeRange 3 none, Cond.methodLink RX3 72 yX0_insert, Cond.instanceMethod yX0_insert, Cond.selects RX0 yX0_insert yX0_insert, Cond.code yX0_insert cX0_insert 5 none, Cond.methodLink RX4 65 yX2_empty, Cond.instanceMethod yX2_empty, Cond.selects RX2 yX2_empty yX2_empty, Cond.code yX2_empty cX2_empty 1 none]
def wsX4_issue : List Cond := .code yX4_issue cX4_issue 2 (some .int) :: ((wsX4_issue_r1 ++ (wsX4_issue_r2 ++ (wsX4_issue_r3 ++ (wsX4_issue_r4 ++ wsX4_issue_r5)))) ++ wsX40 ++ wsX30 ++ wsX20 ++ wsX10 ++ wsX00)
def wsX4_own_r1 : List Cond := [Cond.fieldLink RX4 10 "BinderParcels" "now" "LBinderParcels$State;", Cond.fieldLink RX4 19 "BinderParcels" "history" "LBinderParcels$History;", Cond.methodLink RX4 57 yX1_record, Cond.instanceMethod yX1_record, Cond.selects RX1 yX1_record yX1_record, Cond.initialized RX1, Cond.code yX1_record cX1_record 2 none, Cond.fieldLink RX1 11 "BinderParcels$History" "states" "[LBinderParcels$State;", Cond.fieldLink RX1 18 "BinderParcels$History" "oldest" "I", Cond.fieldLink RX1 22 "BinderParcels$History" "size" "I", Cond.methodLink RX1 25 yX3_copy, Cond.instanceMethod yX3_copy, Cond.selects RX3 yX3_copy yX3_copy, Cond.initialized RX3, Cond.code yX3_copy cX3_copy 3 none, Cond.fieldLink RX3 9 "BinderParcels$State" "orders" "[I", Cond.methodLink RX3 35 arraycopyName, Cond.native arraycopyName, Cond.static arraycopyName, Cond.initialized "java/lang/System", Cond.fieldLink RX3 15 "BinderParcels$State" "orderCounts" "[I", Cond.fieldLink RX3 41 "BinderParcels$State" "parcels" "I", Cond.fieldLink RX3 21 "BinderParcels$State" "text" "LBinderParcels$Binder;", Cond.fieldLink RX3 25 "BinderParcels$State" "binders" "[LBinderParcels$Binder;"]
def wsX4_own_r2 : List Cond := [Cond.fieldLink RX3 29 "BinderParcels$State" "waiting" "[I", Cond.fieldLink RX3 32 "BinderParcels$State" "lost" "[I", Cond.fieldLink RX3 49 "BinderParcels$State" "owners" "I", Cond.methodLink RX3 45 yX0_copy, Cond.instanceMethod yX0_copy, Cond.selects RX0 yX0_copy yX0_copy, Cond.initialized RX0, Cond.code yX0_copy cX0_copy 2 none, Cond.fieldLink RX0 9 "BinderParcels$Binder" "leaves" "[I", Cond.fieldLink RX0 15 "BinderParcels$Binder" "size" "I", Cond.methodLink RX0 19 arraycopyName, Cond.methodLink RX4 71 yX3_addOwner, Cond.instanceMethod yX3_addOwner, Cond.selects RX3 yX3_addOwner yX3_addOwner, Cond.code yX3_addOwner cX3_addOwner 2 (some .int)]
def wsX4_own : List Cond := .code yX4_own cX4_own 1 (some .int) :: ((wsX4_own_r1 ++ wsX4_own_r2) ++ wsX40 ++ wsX30 ++ wsX10 ++ wsX00)
def wsX4_done_r1 : List Cond := [Cond.fieldLink RX4 10 "BinderParcels" "now" "LBinderParcels$State;", Cond.fieldLink RX4 19 "BinderParcels" "history" "LBinderParcels$History;", Cond.methodLink RX4 74 yX3_hasOwner, Cond.instanceMethod yX3_hasOwner, Cond.selects RX3 yX3_hasOwner yX3_hasOwner, Cond.initialized RX3, Cond.code yX3_hasOwner cX3_hasOwner 2 (some .boolean), Cond.fieldLink RX3 49 "BinderParcels$State" "owners" "I", Cond.methodLink RX4 78 yX3_hasParcel, Cond.instanceMethod yX3_hasParcel, Cond.selects RX3 yX3_hasParcel yX3_hasParcel, Cond.code yX3_hasParcel cX3_hasParcel 2 (some .boolean), Cond.fieldLink RX3 41 "BinderParcels$State" "parcels" "I", Cond.methodLink RX4 81 yX3_isWaiting, Cond.instanceMethod yX3_isWaiting, Cond.selects RX3 yX3_isWaiting yX3_isWaiting, Cond.code yX3_isWaiting cX3_isWaiting 3 (some .boolean), Cond.fieldLink RX3 29 "BinderParcels$State" "waiting" "[I", Cond.methodLink RX4 57 yX1_record, Cond.instanceMethod yX1_record, Cond.selects RX1 yX1_record yX1_record, Cond.initialized RX1, Cond.code yX1_record cX1_record 2 none, Cond.fieldLink RX1 11 "BinderParcels$History" "states" "[LBinderParcels$State;"]
def wsX4_done_r2 : List Cond := [Cond.fieldLink RX1 18 "BinderParcels$History" "oldest" "I", Cond.fieldLink RX1 22 "BinderParcels$History" "size" "I", Cond.methodLink RX1 25 yX3_copy, Cond.instanceMethod yX3_copy, Cond.selects RX3 yX3_copy yX3_copy, Cond.code yX3_copy cX3_copy 3 none, Cond.fieldLink RX3 9 "BinderParcels$State" "orders" "[I", Cond.methodLink RX3 35 arraycopyName, Cond.native arraycopyName, Cond.static arraycopyName, Cond.initialized "java/lang/System", Cond.fieldLink RX3 15 "BinderParcels$State" "orderCounts" "[I", Cond.fieldLink RX3 21 "BinderParcels$State" "text" "LBinderParcels$Binder;", Cond.fieldLink RX3 25 "BinderParcels$State" "binders" "[LBinderParcels$Binder;", Cond.fieldLink RX3 32 "BinderParcels$State" "lost" "[I", Cond.methodLink RX3 45 yX0_copy, Cond.instanceMethod yX0_copy, Cond.selects RX0 yX0_copy yX0_copy, Cond.initialized RX0, Cond.code yX0_copy cX0_copy 2 none, Cond.fieldLink RX0 9 "BinderParcels$Binder" "leaves" "[I", Cond.fieldLink RX0 15 "BinderParcels$Binder" "size" "I", Cond.methodLink RX0 19 arraycopyName, Cond.methodLink RX4 92 yX3_doWithCare]
def wsX4_done_r3 : List Cond := [Cond.instanceMethod yX3_doWithCare, Cond.selects RX3 yX3_doWithCare yX3_doWithCare, Cond.code yX3_doWithCare cX3_doWithCare 5 none, Cond.methodLink RX3 65 yX3_order, Cond.instanceMethod yX3_order, Cond.selects RX3 yX3_order yX3_order, Cond.code yX3_order cX3_order 3 (some .int), Cond.methodLink RX3 68 yX0_removeAll, Cond.instanceMethod yX0_removeAll, Cond.selects RX0 yX0_removeAll yX0_removeAll, Cond.code yX0_removeAll cX0_removeAll 3 none, Cond.methodLink RX0 36 yX0_start, Cond.instanceMethod yX0_start, Cond.selects RX0 yX0_start yX0_start, Cond.code yX0_start cX0_start 2 (some .int), Cond.methodLink RX0 25 yX0_leafWith, Cond.static yX0_leafWith, Cond.code yX0_leafWith cX0_leafWith 2 (some .int), Cond.methodLink RX0 29 yX0_placeOf, Cond.instanceMethod yX0_placeOf, Cond.selects RX0 yX0_placeOf yX0_placeOf, Cond.code yX0_placeOf cX0_placeOf 3 (some .int), Cond.methodLink RX0 39 yX0_end, Cond.instanceMethod yX0_end]
def wsX4_done_r4 : List Cond := [Cond.selects RX0 yX0_end yX0_end, Cond.code yX0_end cX0_end 4 (some .int), Cond.methodLink RX0 33 yX0_numberOf, Cond.static yX0_numberOf, Cond.code yX0_numberOf cX0_numberOf 1 (some .int), Cond.methodLink RX0 42 yX0_removeRange, Cond.instanceMethod yX0_removeRange, Cond.selects RX0 yX0_removeRange yX0_removeRange, Cond.code yX0_removeRange cX0_removeRange 3 none, Cond.methodLink RX3 72 yX0_insert, Cond.instanceMethod yX0_insert, Cond.selects RX0 yX0_insert yX0_insert, Cond.code yX0_insert cX0_insert 5 none, Cond.methodLink RX4 96 yX3_doCarelessly, Cond.instanceMethod yX3_doCarelessly, Cond.selects RX3 yX3_doCarelessly yX3_doCarelessly, Cond.code yX3_doCarelessly cX3_doCarelessly 5 none, Cond.methodLink RX3 76 yX0_removeEarliest, Cond.instanceMethod yX0_removeEarliest, Cond.selects RX0 yX0_removeEarliest yX0_removeEarliest, Cond.code yX0_removeEarliest cX0_removeEarliest 3 none, Cond.methodLink RX0 46 Lib.Math.min.name, Cond.static Lib.Math.min.name, Cond.initialized "java/lang/Math"]
def wsX4_done_r5 : List Cond := [Cond.code Lib.Math.min.name Lib.Math.min.code 2 (some .int)]
def wsX4_done : List Cond := .code yX4_done cX4_done 5 (some .int) :: ((wsX4_done_r1 ++ (wsX4_done_r2 ++ (wsX4_done_r3 ++ (wsX4_done_r4 ++ wsX4_done_r5)))) ++ wsX40 ++ wsX30 ++ wsX00 ++ wsX10)
def wsJ6_bitCount_0f7a4 : List Cond := .code yJ6_bitCount_0f7a4 cJ6_bitCount_0f7a4 1 (some .int) :: ([.constant RJ6 265 (1431655765), .constant RJ6 266 (858993459), .constant RJ6 267 (252645135)])
def wsX4_doAll_r1 : List Cond := [Cond.fieldLink RX4 10 "BinderParcels" "now" "LBinderParcels$State;", Cond.fieldLink RX4 19 "BinderParcels" "history" "LBinderParcels$History;", Cond.methodLink RX4 74 yX3_hasOwner, Cond.instanceMethod yX3_hasOwner, Cond.selects RX3 yX3_hasOwner yX3_hasOwner, Cond.initialized RX3, Cond.code yX3_hasOwner cX3_hasOwner 2 (some .boolean), Cond.fieldLink RX3 49 "BinderParcels$State" "owners" "I", Cond.methodLink RX4 57 yX1_record, Cond.instanceMethod yX1_record, Cond.selects RX1 yX1_record yX1_record, Cond.initialized RX1, Cond.code yX1_record cX1_record 2 none, Cond.fieldLink RX1 11 "BinderParcels$History" "states" "[LBinderParcels$State;", Cond.fieldLink RX1 18 "BinderParcels$History" "oldest" "I", Cond.fieldLink RX1 22 "BinderParcels$History" "size" "I", Cond.methodLink RX1 25 yX3_copy, Cond.instanceMethod yX3_copy, Cond.selects RX3 yX3_copy yX3_copy, Cond.code yX3_copy cX3_copy 3 none, Cond.fieldLink RX3 9 "BinderParcels$State" "orders" "[I", Cond.methodLink RX3 35 arraycopyName, Cond.native arraycopyName, Cond.static arraycopyName]
def wsX4_doAll_r2 : List Cond := [Cond.initialized "java/lang/System", Cond.fieldLink RX3 15 "BinderParcels$State" "orderCounts" "[I", Cond.fieldLink RX3 41 "BinderParcels$State" "parcels" "I", Cond.fieldLink RX3 21 "BinderParcels$State" "text" "LBinderParcels$Binder;", Cond.fieldLink RX3 25 "BinderParcels$State" "binders" "[LBinderParcels$Binder;", Cond.fieldLink RX3 29 "BinderParcels$State" "waiting" "[I", Cond.fieldLink RX3 32 "BinderParcels$State" "lost" "[I", Cond.methodLink RX3 45 yX0_copy, Cond.instanceMethod yX0_copy, Cond.selects RX0 yX0_copy yX0_copy, Cond.initialized RX0, Cond.code yX0_copy cX0_copy 2 none, Cond.fieldLink RX0 9 "BinderParcels$Binder" "leaves" "[I", Cond.fieldLink RX0 15 "BinderParcels$Binder" "size" "I", Cond.methodLink RX0 19 arraycopyName, Cond.methodLink RX4 102 yX3_doSetWithCare, Cond.instanceMethod yX3_doSetWithCare, Cond.selects RX3 yX3_doSetWithCare yX3_doSetWithCare, Cond.code yX3_doSetWithCare cX3_doSetWithCare 4 none, Cond.methodLink RX3 61 yX3_doWithCare, Cond.instanceMethod yX3_doWithCare, Cond.selects RX3 yX3_doWithCare yX3_doWithCare, Cond.code yX3_doWithCare cX3_doWithCare 5 none, Cond.methodLink RX3 65 yX3_order]
def wsX4_doAll_r3 : List Cond := [Cond.instanceMethod yX3_order, Cond.selects RX3 yX3_order yX3_order, Cond.code yX3_order cX3_order 3 (some .int), Cond.methodLink RX3 68 yX0_removeAll, Cond.instanceMethod yX0_removeAll, Cond.selects RX0 yX0_removeAll yX0_removeAll, Cond.code yX0_removeAll cX0_removeAll 3 none, Cond.methodLink RX0 36 yX0_start, Cond.instanceMethod yX0_start, Cond.selects RX0 yX0_start yX0_start, Cond.code yX0_start cX0_start 2 (some .int), Cond.methodLink RX0 25 yX0_leafWith, Cond.static yX0_leafWith, Cond.code yX0_leafWith cX0_leafWith 2 (some .int), Cond.methodLink RX0 29 yX0_placeOf, Cond.instanceMethod yX0_placeOf, Cond.selects RX0 yX0_placeOf yX0_placeOf, Cond.code yX0_placeOf cX0_placeOf 3 (some .int), Cond.methodLink RX0 39 yX0_end, Cond.instanceMethod yX0_end, Cond.selects RX0 yX0_end yX0_end, Cond.code yX0_end cX0_end 4 (some .int), Cond.methodLink RX0 33 yX0_numberOf, Cond.static yX0_numberOf]
def wsX4_doAll_r4 : List Cond := [Cond.code yX0_numberOf cX0_numberOf 1 (some .int), Cond.methodLink RX0 42 yX0_removeRange, Cond.instanceMethod yX0_removeRange, Cond.selects RX0 yX0_removeRange yX0_removeRange, Cond.code yX0_removeRange cX0_removeRange 3 none, Cond.methodLink RX3 72 yX0_insert, Cond.instanceMethod yX0_insert, Cond.selects RX0 yX0_insert yX0_insert, Cond.code yX0_insert cX0_insert 5 none, Cond.methodLink RX4 105 yJ6_bitCount_0f7a4, Cond.static yJ6_bitCount_0f7a4, Cond.initialized RJ6, Cond.code yJ6_bitCount_0f7a4 cJ6_bitCount_0f7a4 1 (some .int), Cond.constant RJ6 265 (1431655765), Cond.constant RJ6 266 (858993459), Cond.constant RJ6 267 (252645135)]
def wsX4_doAll : List Cond := .code yX4_doAll cX4_doAll 3 (some .int) :: ((wsX4_doAll_r1 ++ (wsX4_doAll_r2 ++ (wsX4_doAll_r3 ++ wsX4_doAll_r4))) ++ wsX40 ++ wsX30 ++ wsX10 ++ wsX00)
def wsX4_lose_r1 : List Cond := [Cond.fieldLink RX4 10 "BinderParcels" "now" "LBinderParcels$State;", Cond.fieldLink RX4 19 "BinderParcels" "history" "LBinderParcels$History;", Cond.methodLink RX4 74 yX3_hasOwner, Cond.instanceMethod yX3_hasOwner, Cond.selects RX3 yX3_hasOwner yX3_hasOwner, Cond.initialized RX3, Cond.code yX3_hasOwner cX3_hasOwner 2 (some .boolean), Cond.fieldLink RX3 49 "BinderParcels$State" "owners" "I", Cond.methodLink RX4 78 yX3_hasParcel, Cond.instanceMethod yX3_hasParcel, Cond.selects RX3 yX3_hasParcel yX3_hasParcel, Cond.code yX3_hasParcel cX3_hasParcel 2 (some .boolean), Cond.fieldLink RX3 41 "BinderParcels$State" "parcels" "I", Cond.methodLink RX4 81 yX3_isWaiting, Cond.instanceMethod yX3_isWaiting, Cond.selects RX3 yX3_isWaiting yX3_isWaiting, Cond.code yX3_isWaiting cX3_isWaiting 3 (some .boolean), Cond.fieldLink RX3 29 "BinderParcels$State" "waiting" "[I", Cond.methodLink RX4 57 yX1_record, Cond.instanceMethod yX1_record, Cond.selects RX1 yX1_record yX1_record, Cond.initialized RX1, Cond.code yX1_record cX1_record 2 none, Cond.fieldLink RX1 11 "BinderParcels$History" "states" "[LBinderParcels$State;"]
def wsX4_lose_r2 : List Cond := [Cond.fieldLink RX1 18 "BinderParcels$History" "oldest" "I", Cond.fieldLink RX1 22 "BinderParcels$History" "size" "I", Cond.methodLink RX1 25 yX3_copy, Cond.instanceMethod yX3_copy, Cond.selects RX3 yX3_copy yX3_copy, Cond.code yX3_copy cX3_copy 3 none, Cond.fieldLink RX3 9 "BinderParcels$State" "orders" "[I", Cond.methodLink RX3 35 arraycopyName, Cond.native arraycopyName, Cond.static arraycopyName, Cond.initialized "java/lang/System", Cond.fieldLink RX3 15 "BinderParcels$State" "orderCounts" "[I", Cond.fieldLink RX3 21 "BinderParcels$State" "text" "LBinderParcels$Binder;", Cond.fieldLink RX3 25 "BinderParcels$State" "binders" "[LBinderParcels$Binder;", Cond.fieldLink RX3 32 "BinderParcels$State" "lost" "[I", Cond.methodLink RX3 45 yX0_copy, Cond.instanceMethod yX0_copy, Cond.selects RX0 yX0_copy yX0_copy, Cond.initialized RX0, Cond.code yX0_copy cX0_copy 2 none, Cond.fieldLink RX0 9 "BinderParcels$Binder" "leaves" "[I", Cond.fieldLink RX0 15 "BinderParcels$Binder" "size" "I", Cond.methodLink RX0 19 arraycopyName, Cond.methodLink RX4 105 yJ6_bitCount_0f7a4]
def wsX4_lose_r3 : List Cond := [Cond.static yJ6_bitCount_0f7a4, Cond.initialized RJ6, Cond.code yJ6_bitCount_0f7a4 cJ6_bitCount_0f7a4 1 (some .int), Cond.constant RJ6 265 (1431655765), Cond.constant RJ6 266 (858993459), Cond.constant RJ6 267 (252645135)]
def wsX4_lose : List Cond := .code yX4_lose cX4_lose 3 (some .int) :: ((wsX4_lose_r1 ++ (wsX4_lose_r2 ++ wsX4_lose_r3)) ++ wsX40 ++ wsX30 ++ wsX10 ++ wsX00)
def wsX4_again_r1 : List Cond := [Cond.fieldLink RX4 10 "BinderParcels" "now" "LBinderParcels$State;", Cond.fieldLink RX4 19 "BinderParcels" "history" "LBinderParcels$History;", Cond.methodLink RX4 74 yX3_hasOwner, Cond.instanceMethod yX3_hasOwner, Cond.selects RX3 yX3_hasOwner yX3_hasOwner, Cond.initialized RX3, Cond.code yX3_hasOwner cX3_hasOwner 2 (some .boolean), Cond.fieldLink RX3 49 "BinderParcels$State" "owners" "I", Cond.methodLink RX4 78 yX3_hasParcel, Cond.instanceMethod yX3_hasParcel, Cond.selects RX3 yX3_hasParcel yX3_hasParcel, Cond.code yX3_hasParcel cX3_hasParcel 2 (some .boolean), Cond.fieldLink RX3 41 "BinderParcels$State" "parcels" "I", Cond.methodLink RX4 81 yX3_isWaiting, Cond.instanceMethod yX3_isWaiting, Cond.selects RX3 yX3_isWaiting yX3_isWaiting, Cond.code yX3_isWaiting cX3_isWaiting 3 (some .boolean), Cond.fieldLink RX3 29 "BinderParcels$State" "waiting" "[I", Cond.methodLink RX4 57 yX1_record, Cond.instanceMethod yX1_record, Cond.selects RX1 yX1_record yX1_record, Cond.initialized RX1, Cond.code yX1_record cX1_record 2 none, Cond.fieldLink RX1 11 "BinderParcels$History" "states" "[LBinderParcels$State;"]
def wsX4_again_r2 : List Cond := [Cond.fieldLink RX1 18 "BinderParcels$History" "oldest" "I", Cond.fieldLink RX1 22 "BinderParcels$History" "size" "I", Cond.methodLink RX1 25 yX3_copy, Cond.instanceMethod yX3_copy, Cond.selects RX3 yX3_copy yX3_copy, Cond.code yX3_copy cX3_copy 3 none, Cond.fieldLink RX3 9 "BinderParcels$State" "orders" "[I", Cond.methodLink RX3 35 arraycopyName, Cond.native arraycopyName, Cond.static arraycopyName, Cond.initialized "java/lang/System", Cond.fieldLink RX3 15 "BinderParcels$State" "orderCounts" "[I", Cond.fieldLink RX3 21 "BinderParcels$State" "text" "LBinderParcels$Binder;", Cond.fieldLink RX3 25 "BinderParcels$State" "binders" "[LBinderParcels$Binder;", Cond.fieldLink RX3 32 "BinderParcels$State" "lost" "[I", Cond.methodLink RX3 45 yX0_copy, Cond.instanceMethod yX0_copy, Cond.selects RX0 yX0_copy yX0_copy, Cond.initialized RX0, Cond.code yX0_copy cX0_copy 2 none, Cond.fieldLink RX0 9 "BinderParcels$Binder" "leaves" "[I", Cond.fieldLink RX0 15 "BinderParcels$Binder" "size" "I", Cond.methodLink RX0 19 arraycopyName, Cond.methodLink RX4 105 yJ6_bitCount_0f7a4]
def wsX4_again_r3 : List Cond := [Cond.static yJ6_bitCount_0f7a4, Cond.initialized RJ6, Cond.code yJ6_bitCount_0f7a4 cJ6_bitCount_0f7a4 1 (some .int), Cond.constant RJ6 265 (1431655765), Cond.constant RJ6 266 (858993459), Cond.constant RJ6 267 (252645135)]
def wsX4_again : List Cond := .code yX4_again cX4_again 3 (some .int) :: ((wsX4_again_r1 ++ (wsX4_again_r2 ++ wsX4_again_r3)) ++ wsX40 ++ wsX30 ++ wsX10 ++ wsX00)
def wsX4_isNumber : List Cond := .code yX4_isNumber cX4_isNumber 1 (some .boolean) :: ([])
def wsX4_hand_r1 : List Cond := [Cond.fieldLink RX4 10 "BinderParcels" "now" "LBinderParcels$State;", Cond.fieldLink RX4 19 "BinderParcels" "history" "LBinderParcels$History;", Cond.methodLink RX4 74 yX3_hasOwner, Cond.instanceMethod yX3_hasOwner, Cond.selects RX3 yX3_hasOwner yX3_hasOwner, Cond.initialized RX3, Cond.code yX3_hasOwner cX3_hasOwner 2 (some .boolean), Cond.fieldLink RX3 49 "BinderParcels$State" "owners" "I", Cond.methodLink RX4 78 yX3_hasParcel, Cond.instanceMethod yX3_hasParcel, Cond.selects RX3 yX3_hasParcel yX3_hasParcel, Cond.code yX3_hasParcel cX3_hasParcel 2 (some .boolean), Cond.fieldLink RX3 41 "BinderParcels$State" "parcels" "I", Cond.methodLink RX4 114 yX4_isNumber, Cond.static yX4_isNumber, Cond.initialized RX4, Cond.code yX4_isNumber cX4_isNumber 1 (some .boolean), Cond.methodLink RX4 117 yX0_holds, Cond.instanceMethod yX0_holds, Cond.selects RX0 yX0_holds yX0_holds, Cond.initialized RX0, Cond.code yX0_holds cX0_holds 5 (some .boolean), Cond.fieldLink RX0 15 "BinderParcels$Binder" "size" "I", Cond.fieldLink RX0 9 "BinderParcels$Binder" "leaves" "[I"]
def wsX4_hand_r2 : List Cond := [Cond.methodLink RX0 25 yX0_leafWith, Cond.static yX0_leafWith, Cond.code yX0_leafWith cX0_leafWith 2 (some .int), Cond.methodLink RX0 29 yX0_placeOf, Cond.instanceMethod yX0_placeOf, Cond.selects RX0 yX0_placeOf yX0_placeOf, Cond.code yX0_placeOf cX0_placeOf 3 (some .int), Cond.methodLink RX4 57 yX1_record, Cond.instanceMethod yX1_record, Cond.selects RX1 yX1_record yX1_record, Cond.initialized RX1, Cond.code yX1_record cX1_record 2 none, Cond.fieldLink RX1 11 "BinderParcels$History" "states" "[LBinderParcels$State;", Cond.fieldLink RX1 18 "BinderParcels$History" "oldest" "I", Cond.fieldLink RX1 22 "BinderParcels$History" "size" "I", Cond.methodLink RX1 25 yX3_copy, Cond.instanceMethod yX3_copy, Cond.selects RX3 yX3_copy yX3_copy, Cond.code yX3_copy cX3_copy 3 none, Cond.fieldLink RX3 9 "BinderParcels$State" "orders" "[I", Cond.methodLink RX3 35 arraycopyName, Cond.native arraycopyName, Cond.static arraycopyName, Cond.initialized "java/lang/System"]
def wsX4_hand_r3 : List Cond := [Cond.fieldLink RX3 15 "BinderParcels$State" "orderCounts" "[I", Cond.fieldLink RX3 21 "BinderParcels$State" "text" "LBinderParcels$Binder;", Cond.fieldLink RX3 25 "BinderParcels$State" "binders" "[LBinderParcels$Binder;", Cond.fieldLink RX3 29 "BinderParcels$State" "waiting" "[I", Cond.fieldLink RX3 32 "BinderParcels$State" "lost" "[I", Cond.methodLink RX3 45 yX0_copy, Cond.instanceMethod yX0_copy, Cond.selects RX0 yX0_copy yX0_copy, Cond.code yX0_copy cX0_copy 2 none, Cond.methodLink RX0 19 arraycopyName, Cond.methodLink RX4 120 yX0_insert, Cond.instanceMethod yX0_insert, Cond.selects RX0 yX0_insert yX0_insert, Cond.code yX0_insert cX0_insert 5 none, Cond.methodLink RX4 124 yX0_remove, Cond.instanceMethod yX0_remove, Cond.selects RX0 yX0_remove yX0_remove, Cond.code yX0_remove cX0_remove 4 none, Cond.methodLink RX0 51 yX0_holds, Cond.methodLink RX0 42 yX0_removeRange, Cond.instanceMethod yX0_removeRange, Cond.selects RX0 yX0_removeRange yX0_removeRange, Cond.code yX0_removeRange cX0_removeRange 3 none]
def wsX4_hand : List Cond := .code yX4_hand cX4_hand 7 (some .int) :: ((wsX4_hand_r1 ++ (wsX4_hand_r2 ++ wsX4_hand_r3)) ++ wsX40 ++ wsX30 ++ wsX00 ++ wsX10)
def wsX4_parcel : List Cond := .code yX4_parcel cX4_parcel 3 (some .int) :: ([.fieldLink RX4 10 "BinderParcels" "now" "LBinderParcels$State;", .methodLink RX4 78 yX3_hasParcel, .instanceMethod yX3_hasParcel, .selects RX3 yX3_hasParcel yX3_hasParcel, .initialized RX3, .code yX3_hasParcel cX3_hasParcel 2 (some .boolean), .fieldLink RX3 41 "BinderParcels$State" "parcels" "I", .methodLink RX4 130 yX3_order, .instanceMethod yX3_order, .selects RX3 yX3_order yX3_order, .code yX3_order cX3_order 3 (some .int), .fieldLink RX3 9 "BinderParcels$State" "orders" "[I", .methodLink RX4 134 yX3_ownersOf, .instanceMethod yX3_ownersOf, .selects RX3 yX3_ownersOf yX3_ownersOf, .code yX3_ownersOf cX3_ownersOf 5 (some .int), .fieldLink RX3 49 "BinderParcels$State" "owners" "I"] ++ wsX40 ++ wsX30)
def wsX4_text_r1 : List Cond := [Cond.fieldLink RX4 10 "BinderParcels" "now" "LBinderParcels$State;", Cond.methodLink RX4 114 yX4_isNumber, Cond.static yX4_isNumber, Cond.initialized RX4, Cond.code yX4_isNumber cX4_isNumber 1 (some .boolean), Cond.methodLink RX4 142 yX0_earliestIssue, Cond.instanceMethod yX0_earliestIssue, Cond.selects RX0 yX0_earliestIssue yX0_earliestIssue, Cond.initialized RX0, Cond.code yX0_earliestIssue cX0_earliestIssue 3 (some .int), Cond.fieldLink RX0 9 "BinderParcels$Binder" "leaves" "[I", Cond.methodLink RX0 36 yX0_start, Cond.instanceMethod yX0_start, Cond.selects RX0 yX0_start yX0_start, Cond.code yX0_start cX0_start 2 (some .int), Cond.methodLink RX0 25 yX0_leafWith, Cond.static yX0_leafWith, Cond.code yX0_leafWith cX0_leafWith 2 (some .int), Cond.methodLink RX0 29 yX0_placeOf, Cond.instanceMethod yX0_placeOf, Cond.selects RX0 yX0_placeOf yX0_placeOf, Cond.code yX0_placeOf cX0_placeOf 3 (some .int), Cond.fieldLink RX0 15 "BinderParcels$Binder" "size" "I", Cond.methodLink RX0 39 yX0_end]
def wsX4_text_r2 : List Cond := [Cond.instanceMethod yX0_end, Cond.selects RX0 yX0_end yX0_end, Cond.code yX0_end cX0_end 4 (some .int), Cond.methodLink RX0 33 yX0_numberOf, Cond.static yX0_numberOf, Cond.code yX0_numberOf cX0_numberOf 1 (some .int), Cond.methodLink RX0 55 yX0_issueOf, Cond.static yX0_issueOf, Cond.code yX0_issueOf cX0_issueOf 1 (some .int)]
def wsX4_text : List Cond := .code yX4_text cX4_text 2 (some .int) :: ((wsX4_text_r1 ++ wsX4_text_r2) ++ wsX40 ++ wsX30 ++ wsX00)
def wsX4_leaf_r1 : List Cond := [Cond.fieldLink RX4 10 "BinderParcels" "now" "LBinderParcels$State;", Cond.methodLink RX4 74 yX3_hasOwner, Cond.instanceMethod yX3_hasOwner, Cond.selects RX3 yX3_hasOwner yX3_hasOwner, Cond.initialized RX3, Cond.code yX3_hasOwner cX3_hasOwner 2 (some .boolean), Cond.fieldLink RX3 49 "BinderParcels$State" "owners" "I", Cond.methodLink RX4 114 yX4_isNumber, Cond.static yX4_isNumber, Cond.initialized RX4, Cond.code yX4_isNumber cX4_isNumber 1 (some .boolean), Cond.methodLink RX4 145 yX0_held, Cond.instanceMethod yX0_held, Cond.selects RX0 yX0_held yX0_held, Cond.initialized RX0, Cond.code yX0_held cX0_held 3 (some .int), Cond.methodLink RX0 36 yX0_start, Cond.instanceMethod yX0_start, Cond.selects RX0 yX0_start yX0_start, Cond.code yX0_start cX0_start 2 (some .int), Cond.methodLink RX0 25 yX0_leafWith, Cond.static yX0_leafWith, Cond.code yX0_leafWith cX0_leafWith 2 (some .int), Cond.methodLink RX0 29 yX0_placeOf]
def wsX4_leaf_r2 : List Cond := [Cond.instanceMethod yX0_placeOf, Cond.selects RX0 yX0_placeOf yX0_placeOf, Cond.code yX0_placeOf cX0_placeOf 3 (some .int), Cond.fieldLink RX0 15 "BinderParcels$Binder" "size" "I", Cond.fieldLink RX0 9 "BinderParcels$Binder" "leaves" "[I", Cond.methodLink RX0 39 yX0_end, Cond.instanceMethod yX0_end, Cond.selects RX0 yX0_end yX0_end, Cond.code yX0_end cX0_end 4 (some .int), Cond.methodLink RX0 33 yX0_numberOf, Cond.static yX0_numberOf, Cond.code yX0_numberOf cX0_numberOf 1 (some .int), Cond.methodLink RX4 142 yX0_earliestIssue, Cond.instanceMethod yX0_earliestIssue, Cond.selects RX0 yX0_earliestIssue yX0_earliestIssue, Cond.code yX0_earliestIssue cX0_earliestIssue 3 (some .int), Cond.methodLink RX0 55 yX0_issueOf, Cond.static yX0_issueOf, Cond.code yX0_issueOf cX0_issueOf 1 (some .int), Cond.methodLink RX4 148 yX0_latestIssue, Cond.instanceMethod yX0_latestIssue, Cond.selects RX0 yX0_latestIssue yX0_latestIssue, Cond.code yX0_latestIssue cX0_latestIssue 4 (some .int), Cond.methodLink RX4 151 yX0_difference]
def wsX4_leaf_r3 : List Cond := [Cond.instanceMethod yX0_difference, Cond.selects RX0 yX0_difference yX0_difference, Cond.code yX0_difference cX0_difference 6 (some .int), Cond.methodLink RX0 58 yX0_held, Cond.methodLink RX0 61 yX0_earliestIssue, Cond.methodLink RX0 51 yX0_holds, Cond.instanceMethod yX0_holds, Cond.selects RX0 yX0_holds yX0_holds, Cond.code yX0_holds cX0_holds 5 (some .boolean)]
def wsX4_leaf : List Cond := .code yX4_leaf cX4_leaf 5 (some .int) :: ((wsX4_leaf_r1 ++ (wsX4_leaf_r2 ++ wsX4_leaf_r3)) ++ wsX40 ++ wsX30 ++ wsX00)
def wsX4_of_r1 : List Cond := [Cond.fieldLink RX4 10 "BinderParcels" "now" "LBinderParcels$State;", Cond.methodLink RX4 74 yX3_hasOwner, Cond.instanceMethod yX3_hasOwner, Cond.selects RX3 yX3_hasOwner yX3_hasOwner, Cond.initialized RX3, Cond.code yX3_hasOwner cX3_hasOwner 2 (some .boolean), Cond.fieldLink RX3 49 "BinderParcels$State" "owners" "I", Cond.methodLink RX4 155 yX0_differences, Cond.instanceMethod yX0_differences, Cond.selects RX0 yX0_differences yX0_differences, Cond.initialized RX0, Cond.code yX0_differences cX0_differences 5 (some .int), Cond.methodLink RX0 64 yX0_difference, Cond.instanceMethod yX0_difference, Cond.selects RX0 yX0_difference yX0_difference, Cond.code yX0_difference cX0_difference 6 (some .int), Cond.methodLink RX0 58 yX0_held, Cond.instanceMethod yX0_held, Cond.selects RX0 yX0_held yX0_held, Cond.code yX0_held cX0_held 3 (some .int), Cond.methodLink RX0 36 yX0_start, Cond.instanceMethod yX0_start, Cond.selects RX0 yX0_start yX0_start, Cond.code yX0_start cX0_start 2 (some .int)]
def wsX4_of_r2 : List Cond := [Cond.methodLink RX0 25 yX0_leafWith, Cond.static yX0_leafWith, Cond.code yX0_leafWith cX0_leafWith 2 (some .int), Cond.methodLink RX0 29 yX0_placeOf, Cond.instanceMethod yX0_placeOf, Cond.selects RX0 yX0_placeOf yX0_placeOf, Cond.code yX0_placeOf cX0_placeOf 3 (some .int), Cond.fieldLink RX0 15 "BinderParcels$Binder" "size" "I", Cond.fieldLink RX0 9 "BinderParcels$Binder" "leaves" "[I", Cond.methodLink RX0 39 yX0_end, Cond.instanceMethod yX0_end, Cond.selects RX0 yX0_end yX0_end, Cond.code yX0_end cX0_end 4 (some .int), Cond.methodLink RX0 33 yX0_numberOf, Cond.static yX0_numberOf, Cond.code yX0_numberOf cX0_numberOf 1 (some .int), Cond.methodLink RX0 61 yX0_earliestIssue, Cond.instanceMethod yX0_earliestIssue, Cond.selects RX0 yX0_earliestIssue yX0_earliestIssue, Cond.code yX0_earliestIssue cX0_earliestIssue 3 (some .int), Cond.methodLink RX0 55 yX0_issueOf, Cond.static yX0_issueOf, Cond.code yX0_issueOf cX0_issueOf 1 (some .int), Cond.methodLink RX0 51 yX0_holds]
def wsX4_of_r3 : List Cond := [Cond.instanceMethod yX0_holds, Cond.selects RX0 yX0_holds yX0_holds, Cond.code yX0_holds cX0_holds 5 (some .boolean), Cond.methodLink RX4 159 yX0_isSameAs, Cond.instanceMethod yX0_isSameAs, Cond.selects RX0 yX0_isSameAs yX0_isSameAs, Cond.code yX0_isSameAs cX0_isSameAs 3 (some .boolean), Cond.methodLink RX4 163 yX0_checkNumber, Cond.instanceMethod yX0_checkNumber, Cond.selects RX0 yX0_checkNumber yX0_checkNumber, Cond.code yX0_checkNumber cX0_checkNumber 3 (some .int)]
def wsX4_of : List Cond := .code yX4_of cX4_of 4 (some .int) :: ((wsX4_of_r1 ++ (wsX4_of_r2 ++ wsX4_of_r3)) ++ wsX40 ++ wsX30 ++ wsX00)
def wsX4_count_r1 : List Cond := [Cond.fieldLink RX4 10 "BinderParcels" "now" "LBinderParcels$State;", Cond.fieldLink RX4 34 "BinderParcels" "pad" "LBinderParcels$Pad;", Cond.fieldLink RX4 19 "BinderParcels" "history" "LBinderParcels$History;", Cond.methodLink RX4 163 yX0_checkNumber, Cond.instanceMethod yX0_checkNumber, Cond.selects RX0 yX0_checkNumber yX0_checkNumber, Cond.initialized RX0, Cond.code yX0_checkNumber cX0_checkNumber 3 (some .int), Cond.fieldLink RX0 15 "BinderParcels$Binder" "size" "I", Cond.fieldLink RX0 9 "BinderParcels$Binder" "leaves" "[I", Cond.methodLink RX0 33 yX0_numberOf, Cond.static yX0_numberOf, Cond.code yX0_numberOf cX0_numberOf 1 (some .int), Cond.methodLink RX0 55 yX0_issueOf, Cond.static yX0_issueOf, Cond.code yX0_issueOf cX0_issueOf 1 (some .int), Cond.methodLink RX4 166 yX3_ownersWithRightBinders, Cond.instanceMethod yX3_ownersWithRightBinders, Cond.selects RX3 yX3_ownersWithRightBinders yX3_ownersWithRightBinders, Cond.initialized RX3, Cond.code yX3_ownersWithRightBinders cX3_ownersWithRightBinders 3 (some .int), Cond.fieldLink RX3 49 "BinderParcels$State" "owners" "I", Cond.fieldLink RX3 25 "BinderParcels$State" "binders" "[LBinderParcels$Binder;", Cond.fieldLink RX3 21 "BinderParcels$State" "text" "LBinderParcels$Binder;"]
def wsX4_count_r2 : List Cond := [Cond.methodLink RX3 79 yX0_isSameAs, Cond.instanceMethod yX0_isSameAs, Cond.selects RX0 yX0_isSameAs yX0_isSameAs, Cond.code yX0_isSameAs cX0_isSameAs 3 (some .boolean), Cond.methodLink RX4 169 yX0_leavesOf, Cond.instanceMethod yX0_leavesOf, Cond.selects RX0 yX0_leavesOf yX0_leavesOf, Cond.code yX0_leavesOf cX0_leavesOf 4 (some .int), Cond.methodLink RX4 172 yX3_parcelWithMostLeaves, Cond.instanceMethod yX3_parcelWithMostLeaves, Cond.selects RX3 yX3_parcelWithMostLeaves yX3_parcelWithMostLeaves, Cond.code yX3_parcelWithMostLeaves cX3_parcelWithMostLeaves 5 (some .int), Cond.fieldLink RX3 41 "BinderParcels$State" "parcels" "I", Cond.methodLink RX3 83 yX0_leavesOf]
def wsX4_count : List Cond := .code yX4_count cX4_count 2 (some .int) :: ((wsX4_count_r1 ++ wsX4_count_r2) ++ wsX40 ++ wsX30 ++ wsX00 ++ wsX20 ++ wsX10)
def wsX4_tried_r1 : List Cond := [Cond.fieldLink RX4 40 "BinderParcels" "trials" "[LBinderParcels$Binder;", Cond.fieldLink RX4 10 "BinderParcels" "now" "LBinderParcels$State;", Cond.methodLink RX4 187 yX0_copy, Cond.instanceMethod yX0_copy, Cond.selects RX0 yX0_copy yX0_copy, Cond.initialized RX0, Cond.code yX0_copy cX0_copy 2 none, Cond.fieldLink RX0 9 "BinderParcels$Binder" "leaves" "[I", Cond.fieldLink RX0 15 "BinderParcels$Binder" "size" "I", Cond.methodLink RX0 19 arraycopyName, Cond.native arraycopyName, Cond.static arraycopyName, Cond.initialized "java/lang/System", Cond.methodLink RX4 102 yX3_doSetWithCare, Cond.instanceMethod yX3_doSetWithCare, Cond.selects RX3 yX3_doSetWithCare yX3_doSetWithCare, Cond.initialized RX3, Cond.code yX3_doSetWithCare cX3_doSetWithCare 4 none, Cond.fieldLink RX3 41 "BinderParcels$State" "parcels" "I", Cond.methodLink RX3 61 yX3_doWithCare, Cond.instanceMethod yX3_doWithCare, Cond.selects RX3 yX3_doWithCare yX3_doWithCare, Cond.code yX3_doWithCare cX3_doWithCare 5 none, Cond.fieldLink RX3 15 "BinderParcels$State" "orderCounts" "[I"]
def wsX4_tried_r2 : List Cond := [Cond.methodLink RX3 65 yX3_order, Cond.instanceMethod yX3_order, Cond.selects RX3 yX3_order yX3_order, Cond.code yX3_order cX3_order 3 (some .int), Cond.fieldLink RX3 9 "BinderParcels$State" "orders" "[I", Cond.methodLink RX3 68 yX0_removeAll, Cond.instanceMethod yX0_removeAll, Cond.selects RX0 yX0_removeAll yX0_removeAll, Cond.code yX0_removeAll cX0_removeAll 3 none, Cond.methodLink RX0 36 yX0_start, Cond.instanceMethod yX0_start, Cond.selects RX0 yX0_start yX0_start, Cond.code yX0_start cX0_start 2 (some .int), Cond.methodLink RX0 25 yX0_leafWith, Cond.static yX0_leafWith, Cond.code yX0_leafWith cX0_leafWith 2 (some .int), Cond.methodLink RX0 29 yX0_placeOf, Cond.instanceMethod yX0_placeOf, Cond.selects RX0 yX0_placeOf yX0_placeOf, Cond.code yX0_placeOf cX0_placeOf 3 (some .int), Cond.methodLink RX0 39 yX0_end, Cond.instanceMethod yX0_end, Cond.selects RX0 yX0_end yX0_end, Cond.code yX0_end cX0_end 4 (some .int)]
def wsX4_tried_r3 : List Cond := [Cond.methodLink RX0 33 yX0_numberOf, Cond.static yX0_numberOf, Cond.code yX0_numberOf cX0_numberOf 1 (some .int), Cond.methodLink RX0 42 yX0_removeRange, Cond.instanceMethod yX0_removeRange, Cond.selects RX0 yX0_removeRange yX0_removeRange, Cond.code yX0_removeRange cX0_removeRange 3 none, Cond.methodLink RX3 72 yX0_insert, Cond.instanceMethod yX0_insert, Cond.selects RX0 yX0_insert yX0_insert, Cond.code yX0_insert cX0_insert 5 none]
def wsX4_tried : List Cond := .code yX4_tried cX4_tried 4 (some (.object "BinderParcels$Binder")) :: ((wsX4_tried_r1 ++ (wsX4_tried_r2 ++ wsX4_tried_r3)) ++ wsX40 ++ wsX30 ++ wsX00)
def wsX4_ifDone_r1 : List Cond := [Cond.fieldLink RX4 10 "BinderParcels" "now" "LBinderParcels$State;", Cond.methodLink RX4 74 yX3_hasOwner, Cond.instanceMethod yX3_hasOwner, Cond.selects RX3 yX3_hasOwner yX3_hasOwner, Cond.initialized RX3, Cond.code yX3_hasOwner cX3_hasOwner 2 (some .boolean), Cond.fieldLink RX3 49 "BinderParcels$State" "owners" "I", Cond.methodLink RX4 78 yX3_hasParcel, Cond.instanceMethod yX3_hasParcel, Cond.selects RX3 yX3_hasParcel yX3_hasParcel, Cond.code yX3_hasParcel cX3_hasParcel 2 (some .boolean), Cond.fieldLink RX3 41 "BinderParcels$State" "parcels" "I", Cond.methodLink RX4 179 yX4_tried, Cond.instanceMethod yX4_tried, Cond.selects RX4 yX4_tried yX4_tried, Cond.initialized RX4, Cond.code yX4_tried cX4_tried 4 (some (.object "BinderParcels$Binder")), Cond.fieldLink RX4 40 "BinderParcels" "trials" "[LBinderParcels$Binder;", Cond.methodLink RX4 187 yX0_copy, Cond.instanceMethod yX0_copy, Cond.selects RX0 yX0_copy yX0_copy, Cond.initialized RX0, Cond.code yX0_copy cX0_copy 2 none, Cond.fieldLink RX0 9 "BinderParcels$Binder" "leaves" "[I"]
def wsX4_ifDone_r2 : List Cond := [Cond.fieldLink RX0 15 "BinderParcels$Binder" "size" "I", Cond.methodLink RX0 19 arraycopyName, Cond.native arraycopyName, Cond.static arraycopyName, Cond.initialized "java/lang/System", Cond.methodLink RX4 102 yX3_doSetWithCare, Cond.instanceMethod yX3_doSetWithCare, Cond.selects RX3 yX3_doSetWithCare yX3_doSetWithCare, Cond.code yX3_doSetWithCare cX3_doSetWithCare 4 none, Cond.methodLink RX3 61 yX3_doWithCare, Cond.instanceMethod yX3_doWithCare, Cond.selects RX3 yX3_doWithCare yX3_doWithCare, Cond.code yX3_doWithCare cX3_doWithCare 5 none, Cond.fieldLink RX3 15 "BinderParcels$State" "orderCounts" "[I", Cond.methodLink RX3 65 yX3_order, Cond.instanceMethod yX3_order, Cond.selects RX3 yX3_order yX3_order, Cond.code yX3_order cX3_order 3 (some .int), Cond.fieldLink RX3 9 "BinderParcels$State" "orders" "[I", Cond.methodLink RX3 68 yX0_removeAll, Cond.instanceMethod yX0_removeAll, Cond.selects RX0 yX0_removeAll yX0_removeAll, Cond.code yX0_removeAll cX0_removeAll 3 none, Cond.methodLink RX0 36 yX0_start]
def wsX4_ifDone_r3 : List Cond := [Cond.instanceMethod yX0_start, Cond.selects RX0 yX0_start yX0_start, Cond.code yX0_start cX0_start 2 (some .int), Cond.methodLink RX0 25 yX0_leafWith, Cond.static yX0_leafWith, Cond.code yX0_leafWith cX0_leafWith 2 (some .int), Cond.methodLink RX0 29 yX0_placeOf, Cond.instanceMethod yX0_placeOf, Cond.selects RX0 yX0_placeOf yX0_placeOf, Cond.code yX0_placeOf cX0_placeOf 3 (some .int), Cond.methodLink RX0 39 yX0_end, Cond.instanceMethod yX0_end, Cond.selects RX0 yX0_end yX0_end, Cond.code yX0_end cX0_end 4 (some .int), Cond.methodLink RX0 33 yX0_numberOf, Cond.static yX0_numberOf, Cond.code yX0_numberOf cX0_numberOf 1 (some .int), Cond.methodLink RX0 42 yX0_removeRange, Cond.instanceMethod yX0_removeRange, Cond.selects RX0 yX0_removeRange yX0_removeRange, Cond.code yX0_removeRange cX0_removeRange 3 none, Cond.methodLink RX3 72 yX0_insert, Cond.instanceMethod yX0_insert, Cond.selects RX0 yX0_insert yX0_insert]
def wsX4_ifDone_r4 : List Cond := [Cond.code yX0_insert cX0_insert 5 none, Cond.methodLink RX4 183 yX0_wrong, Cond.instanceMethod yX0_wrong, Cond.selects RX0 yX0_wrong yX0_wrong, Cond.code yX0_wrong cX0_wrong 2 (some .int), Cond.methodLink RX0 68 yX0_differences, Cond.instanceMethod yX0_differences, Cond.selects RX0 yX0_differences yX0_differences, Cond.code yX0_differences cX0_differences 5 (some .int), Cond.methodLink RX0 64 yX0_difference, Cond.instanceMethod yX0_difference, Cond.selects RX0 yX0_difference yX0_difference, Cond.code yX0_difference cX0_difference 6 (some .int), Cond.methodLink RX0 58 yX0_held, Cond.instanceMethod yX0_held, Cond.selects RX0 yX0_held yX0_held, Cond.code yX0_held cX0_held 3 (some .int), Cond.methodLink RX0 61 yX0_earliestIssue, Cond.instanceMethod yX0_earliestIssue, Cond.selects RX0 yX0_earliestIssue yX0_earliestIssue, Cond.code yX0_earliestIssue cX0_earliestIssue 3 (some .int), Cond.methodLink RX0 55 yX0_issueOf, Cond.static yX0_issueOf, Cond.code yX0_issueOf cX0_issueOf 1 (some .int)]
def wsX4_ifDone_r5 : List Cond := [Cond.methodLink RX0 51 yX0_holds, Cond.instanceMethod yX0_holds, Cond.selects RX0 yX0_holds yX0_holds, Cond.code yX0_holds cX0_holds 5 (some .boolean)]
def wsX4_ifDone : List Cond := .code yX4_ifDone cX4_ifDone 3 (some .int) :: ((wsX4_ifDone_r1 ++ (wsX4_ifDone_r2 ++ (wsX4_ifDone_r3 ++ (wsX4_ifDone_r4 ++ wsX4_ifDone_r5)))) ++ wsX40 ++ wsX30 ++ wsX00)
def wsX4_ifAllDone_r1 : List Cond := [Cond.fieldLink RX4 10 "BinderParcels" "now" "LBinderParcels$State;", Cond.methodLink RX4 74 yX3_hasOwner, Cond.instanceMethod yX3_hasOwner, Cond.selects RX3 yX3_hasOwner yX3_hasOwner, Cond.initialized RX3, Cond.code yX3_hasOwner cX3_hasOwner 2 (some .boolean), Cond.fieldLink RX3 49 "BinderParcels$State" "owners" "I", Cond.methodLink RX4 179 yX4_tried, Cond.instanceMethod yX4_tried, Cond.selects RX4 yX4_tried yX4_tried, Cond.initialized RX4, Cond.code yX4_tried cX4_tried 4 (some (.object "BinderParcels$Binder")), Cond.fieldLink RX4 40 "BinderParcels" "trials" "[LBinderParcels$Binder;", Cond.methodLink RX4 187 yX0_copy, Cond.instanceMethod yX0_copy, Cond.selects RX0 yX0_copy yX0_copy, Cond.initialized RX0, Cond.code yX0_copy cX0_copy 2 none, Cond.fieldLink RX0 9 "BinderParcels$Binder" "leaves" "[I", Cond.fieldLink RX0 15 "BinderParcels$Binder" "size" "I", Cond.methodLink RX0 19 arraycopyName, Cond.native arraycopyName, Cond.static arraycopyName, Cond.initialized "java/lang/System"]
def wsX4_ifAllDone_r2 : List Cond := [Cond.methodLink RX4 102 yX3_doSetWithCare, Cond.instanceMethod yX3_doSetWithCare, Cond.selects RX3 yX3_doSetWithCare yX3_doSetWithCare, Cond.code yX3_doSetWithCare cX3_doSetWithCare 4 none, Cond.fieldLink RX3 41 "BinderParcels$State" "parcels" "I", Cond.methodLink RX3 61 yX3_doWithCare, Cond.instanceMethod yX3_doWithCare, Cond.selects RX3 yX3_doWithCare yX3_doWithCare, Cond.code yX3_doWithCare cX3_doWithCare 5 none, Cond.fieldLink RX3 15 "BinderParcels$State" "orderCounts" "[I", Cond.methodLink RX3 65 yX3_order, Cond.instanceMethod yX3_order, Cond.selects RX3 yX3_order yX3_order, Cond.code yX3_order cX3_order 3 (some .int), Cond.fieldLink RX3 9 "BinderParcels$State" "orders" "[I", Cond.methodLink RX3 68 yX0_removeAll, Cond.instanceMethod yX0_removeAll, Cond.selects RX0 yX0_removeAll yX0_removeAll, Cond.code yX0_removeAll cX0_removeAll 3 none, Cond.methodLink RX0 36 yX0_start, Cond.instanceMethod yX0_start, Cond.selects RX0 yX0_start yX0_start, Cond.code yX0_start cX0_start 2 (some .int), Cond.methodLink RX0 25 yX0_leafWith]
def wsX4_ifAllDone_r3 : List Cond := [Cond.static yX0_leafWith, Cond.code yX0_leafWith cX0_leafWith 2 (some .int), Cond.methodLink RX0 29 yX0_placeOf, Cond.instanceMethod yX0_placeOf, Cond.selects RX0 yX0_placeOf yX0_placeOf, Cond.code yX0_placeOf cX0_placeOf 3 (some .int), Cond.methodLink RX0 39 yX0_end, Cond.instanceMethod yX0_end, Cond.selects RX0 yX0_end yX0_end, Cond.code yX0_end cX0_end 4 (some .int), Cond.methodLink RX0 33 yX0_numberOf, Cond.static yX0_numberOf, Cond.code yX0_numberOf cX0_numberOf 1 (some .int), Cond.methodLink RX0 42 yX0_removeRange, Cond.instanceMethod yX0_removeRange, Cond.selects RX0 yX0_removeRange yX0_removeRange, Cond.code yX0_removeRange cX0_removeRange 3 none, Cond.methodLink RX3 72 yX0_insert, Cond.instanceMethod yX0_insert, Cond.selects RX0 yX0_insert yX0_insert, Cond.code yX0_insert cX0_insert 5 none, Cond.methodLink RX4 183 yX0_wrong, Cond.instanceMethod yX0_wrong, Cond.selects RX0 yX0_wrong yX0_wrong]
def wsX4_ifAllDone_r4 : List Cond := [Cond.code yX0_wrong cX0_wrong 2 (some .int), Cond.methodLink RX0 68 yX0_differences, Cond.instanceMethod yX0_differences, Cond.selects RX0 yX0_differences yX0_differences, Cond.code yX0_differences cX0_differences 5 (some .int), Cond.methodLink RX0 64 yX0_difference, Cond.instanceMethod yX0_difference, Cond.selects RX0 yX0_difference yX0_difference, Cond.code yX0_difference cX0_difference 6 (some .int), Cond.methodLink RX0 58 yX0_held, Cond.instanceMethod yX0_held, Cond.selects RX0 yX0_held yX0_held, Cond.code yX0_held cX0_held 3 (some .int), Cond.methodLink RX0 61 yX0_earliestIssue, Cond.instanceMethod yX0_earliestIssue, Cond.selects RX0 yX0_earliestIssue yX0_earliestIssue, Cond.code yX0_earliestIssue cX0_earliestIssue 3 (some .int), Cond.methodLink RX0 55 yX0_issueOf, Cond.static yX0_issueOf, Cond.code yX0_issueOf cX0_issueOf 1 (some .int), Cond.methodLink RX0 51 yX0_holds, Cond.instanceMethod yX0_holds, Cond.selects RX0 yX0_holds yX0_holds, Cond.code yX0_holds cX0_holds 5 (some .boolean)]
def wsX4_ifAllDone : List Cond := .code yX4_ifAllDone cX4_ifAllDone 2 (some .int) :: ((wsX4_ifAllDone_r1 ++ (wsX4_ifAllDone_r2 ++ (wsX4_ifAllDone_r3 ++ wsX4_ifAllDone_r4))) ++ wsX40 ++ wsX30 ++ wsX00)
def wsX4_lowestMending_r1 : List Cond := [Cond.methodLink RX4 211 Lib.Math.min.name, Cond.static Lib.Math.min.name, Cond.initialized "java/lang/Math", Cond.code Lib.Math.min.name Lib.Math.min.code 2 (some .int), Cond.methodLink RX4 159 yX0_isSameAs, Cond.instanceMethod yX0_isSameAs, Cond.selects RX0 yX0_isSameAs yX0_isSameAs, Cond.initialized RX0, Cond.code yX0_isSameAs cX0_isSameAs 3 (some .boolean), Cond.fieldLink RX0 15 "BinderParcels$Binder" "size" "I", Cond.fieldLink RX0 9 "BinderParcels$Binder" "leaves" "[I", Cond.methodLink RX4 187 yX0_copy, Cond.instanceMethod yX0_copy, Cond.selects RX0 yX0_copy yX0_copy, Cond.code yX0_copy cX0_copy 2 none, Cond.methodLink RX0 19 arraycopyName, Cond.native arraycopyName, Cond.static arraycopyName, Cond.initialized "java/lang/System", Cond.methodLink RX4 92 yX3_doWithCare, Cond.instanceMethod yX3_doWithCare, Cond.selects RX3 yX3_doWithCare yX3_doWithCare, Cond.initialized RX3, Cond.code yX3_doWithCare cX3_doWithCare 5 none]
def wsX4_lowestMending_r2 : List Cond := [Cond.fieldLink RX3 15 "BinderParcels$State" "orderCounts" "[I", Cond.methodLink RX3 65 yX3_order, Cond.instanceMethod yX3_order, Cond.selects RX3 yX3_order yX3_order, Cond.code yX3_order cX3_order 3 (some .int), Cond.fieldLink RX3 9 "BinderParcels$State" "orders" "[I", Cond.methodLink RX3 68 yX0_removeAll, Cond.instanceMethod yX0_removeAll, Cond.selects RX0 yX0_removeAll yX0_removeAll, Cond.code yX0_removeAll cX0_removeAll 3 none, Cond.methodLink RX0 36 yX0_start, Cond.instanceMethod yX0_start, Cond.selects RX0 yX0_start yX0_start, Cond.code yX0_start cX0_start 2 (some .int), Cond.methodLink RX0 25 yX0_leafWith, Cond.static yX0_leafWith, Cond.code yX0_leafWith cX0_leafWith 2 (some .int), Cond.methodLink RX0 29 yX0_placeOf, Cond.instanceMethod yX0_placeOf, Cond.selects RX0 yX0_placeOf yX0_placeOf, Cond.code yX0_placeOf cX0_placeOf 3 (some .int), Cond.methodLink RX0 39 yX0_end, Cond.instanceMethod yX0_end, Cond.selects RX0 yX0_end yX0_end]
def wsX4_lowestMending_r3 : List Cond := [Cond.code yX0_end cX0_end 4 (some .int), Cond.methodLink RX0 33 yX0_numberOf, Cond.static yX0_numberOf, Cond.code yX0_numberOf cX0_numberOf 1 (some .int), Cond.methodLink RX0 42 yX0_removeRange, Cond.instanceMethod yX0_removeRange, Cond.selects RX0 yX0_removeRange yX0_removeRange, Cond.code yX0_removeRange cX0_removeRange 3 none, Cond.methodLink RX3 72 yX0_insert, Cond.instanceMethod yX0_insert, Cond.selects RX0 yX0_insert yX0_insert, Cond.code yX0_insert cX0_insert 5 none, Cond.methodLink RX4 191 yX4_lowestMending, Cond.static yX4_lowestMending, Cond.initialized RX4]
def wsX4_lowestMending : List Cond := .code yX4_lowestMending cX4_lowestMending 9 (some .int) :: ((wsX4_lowestMending_r1 ++ (wsX4_lowestMending_r2 ++ wsX4_lowestMending_r3)) ++ wsX30 ++ wsX00)
def wsX4_mending_r1 : List Cond := [Cond.fieldLink RX4 10 "BinderParcels" "now" "LBinderParcels$State;", Cond.fieldLink RX4 40 "BinderParcels" "trials" "[LBinderParcels$Binder;", Cond.methodLink RX4 74 yX3_hasOwner, Cond.instanceMethod yX3_hasOwner, Cond.selects RX3 yX3_hasOwner yX3_hasOwner, Cond.initialized RX3, Cond.code yX3_hasOwner cX3_hasOwner 2 (some .boolean), Cond.fieldLink RX3 49 "BinderParcels$State" "owners" "I", Cond.methodLink RX4 187 yX0_copy, Cond.instanceMethod yX0_copy, Cond.selects RX0 yX0_copy yX0_copy, Cond.initialized RX0, Cond.code yX0_copy cX0_copy 2 none, Cond.fieldLink RX0 9 "BinderParcels$Binder" "leaves" "[I", Cond.fieldLink RX0 15 "BinderParcels$Binder" "size" "I", Cond.methodLink RX0 19 arraycopyName, Cond.native arraycopyName, Cond.static arraycopyName, Cond.initialized "java/lang/System", Cond.methodLink RX4 191 yX4_lowestMending, Cond.static yX4_lowestMending, Cond.initialized RX4, Cond.code yX4_lowestMending cX4_lowestMending 9 (some .int), Cond.methodLink RX4 211 Lib.Math.min.name]
def wsX4_mending_r2 : List Cond := [Cond.static Lib.Math.min.name, Cond.initialized "java/lang/Math", Cond.code Lib.Math.min.name Lib.Math.min.code 2 (some .int), Cond.methodLink RX4 159 yX0_isSameAs, Cond.instanceMethod yX0_isSameAs, Cond.selects RX0 yX0_isSameAs yX0_isSameAs, Cond.code yX0_isSameAs cX0_isSameAs 3 (some .boolean), Cond.methodLink RX4 92 yX3_doWithCare, Cond.instanceMethod yX3_doWithCare, Cond.selects RX3 yX3_doWithCare yX3_doWithCare, Cond.code yX3_doWithCare cX3_doWithCare 5 none, Cond.fieldLink RX3 15 "BinderParcels$State" "orderCounts" "[I", Cond.methodLink RX3 65 yX3_order, Cond.instanceMethod yX3_order, Cond.selects RX3 yX3_order yX3_order, Cond.code yX3_order cX3_order 3 (some .int), Cond.fieldLink RX3 9 "BinderParcels$State" "orders" "[I", Cond.methodLink RX3 68 yX0_removeAll, Cond.instanceMethod yX0_removeAll, Cond.selects RX0 yX0_removeAll yX0_removeAll, Cond.code yX0_removeAll cX0_removeAll 3 none, Cond.methodLink RX0 36 yX0_start, Cond.instanceMethod yX0_start, Cond.selects RX0 yX0_start yX0_start]
def wsX4_mending_r3 : List Cond := [Cond.code yX0_start cX0_start 2 (some .int), Cond.methodLink RX0 25 yX0_leafWith, Cond.static yX0_leafWith, Cond.code yX0_leafWith cX0_leafWith 2 (some .int), Cond.methodLink RX0 29 yX0_placeOf, Cond.instanceMethod yX0_placeOf, Cond.selects RX0 yX0_placeOf yX0_placeOf, Cond.code yX0_placeOf cX0_placeOf 3 (some .int), Cond.methodLink RX0 39 yX0_end, Cond.instanceMethod yX0_end, Cond.selects RX0 yX0_end yX0_end, Cond.code yX0_end cX0_end 4 (some .int), Cond.methodLink RX0 33 yX0_numberOf, Cond.static yX0_numberOf, Cond.code yX0_numberOf cX0_numberOf 1 (some .int), Cond.methodLink RX0 42 yX0_removeRange, Cond.instanceMethod yX0_removeRange, Cond.selects RX0 yX0_removeRange yX0_removeRange, Cond.code yX0_removeRange cX0_removeRange 3 none, Cond.methodLink RX3 72 yX0_insert, Cond.instanceMethod yX0_insert, Cond.selects RX0 yX0_insert yX0_insert, Cond.code yX0_insert cX0_insert 5 none]
def wsX4_mending : List Cond := .code yX4_mending cX4_mending 4 (some .int) :: ((wsX4_mending_r1 ++ (wsX4_mending_r2 ++ wsX4_mending_r3)) ++ wsX40 ++ wsX30 ++ wsX00)
def wsX4_rightFrom_r1 : List Cond := [Cond.fieldLink RX4 10 "BinderParcels" "now" "LBinderParcels$State;", Cond.methodLink RX4 74 yX3_hasOwner, Cond.instanceMethod yX3_hasOwner, Cond.selects RX3 yX3_hasOwner yX3_hasOwner, Cond.initialized RX3, Cond.code yX3_hasOwner cX3_hasOwner 2 (some .boolean), Cond.fieldLink RX3 49 "BinderParcels$State" "owners" "I", Cond.methodLink RX4 179 yX4_tried, Cond.instanceMethod yX4_tried, Cond.selects RX4 yX4_tried yX4_tried, Cond.initialized RX4, Cond.code yX4_tried cX4_tried 4 (some (.object "BinderParcels$Binder")), Cond.fieldLink RX4 40 "BinderParcels" "trials" "[LBinderParcels$Binder;", Cond.methodLink RX4 187 yX0_copy, Cond.instanceMethod yX0_copy, Cond.selects RX0 yX0_copy yX0_copy, Cond.initialized RX0, Cond.code yX0_copy cX0_copy 2 none, Cond.fieldLink RX0 9 "BinderParcels$Binder" "leaves" "[I", Cond.fieldLink RX0 15 "BinderParcels$Binder" "size" "I", Cond.methodLink RX0 19 arraycopyName, Cond.native arraycopyName, Cond.static arraycopyName, Cond.initialized "java/lang/System"]
def wsX4_rightFrom_r2 : List Cond := [Cond.methodLink RX4 102 yX3_doSetWithCare, Cond.instanceMethod yX3_doSetWithCare, Cond.selects RX3 yX3_doSetWithCare yX3_doSetWithCare, Cond.code yX3_doSetWithCare cX3_doSetWithCare 4 none, Cond.fieldLink RX3 41 "BinderParcels$State" "parcels" "I", Cond.methodLink RX3 61 yX3_doWithCare, Cond.instanceMethod yX3_doWithCare, Cond.selects RX3 yX3_doWithCare yX3_doWithCare, Cond.code yX3_doWithCare cX3_doWithCare 5 none, Cond.fieldLink RX3 15 "BinderParcels$State" "orderCounts" "[I", Cond.methodLink RX3 65 yX3_order, Cond.instanceMethod yX3_order, Cond.selects RX3 yX3_order yX3_order, Cond.code yX3_order cX3_order 3 (some .int), Cond.fieldLink RX3 9 "BinderParcels$State" "orders" "[I", Cond.methodLink RX3 68 yX0_removeAll, Cond.instanceMethod yX0_removeAll, Cond.selects RX0 yX0_removeAll yX0_removeAll, Cond.code yX0_removeAll cX0_removeAll 3 none, Cond.methodLink RX0 36 yX0_start, Cond.instanceMethod yX0_start, Cond.selects RX0 yX0_start yX0_start, Cond.code yX0_start cX0_start 2 (some .int), Cond.methodLink RX0 25 yX0_leafWith]
def wsX4_rightFrom_r3 : List Cond := [Cond.static yX0_leafWith, Cond.code yX0_leafWith cX0_leafWith 2 (some .int), Cond.methodLink RX0 29 yX0_placeOf, Cond.instanceMethod yX0_placeOf, Cond.selects RX0 yX0_placeOf yX0_placeOf, Cond.code yX0_placeOf cX0_placeOf 3 (some .int), Cond.methodLink RX0 39 yX0_end, Cond.instanceMethod yX0_end, Cond.selects RX0 yX0_end yX0_end, Cond.code yX0_end cX0_end 4 (some .int), Cond.methodLink RX0 33 yX0_numberOf, Cond.static yX0_numberOf, Cond.code yX0_numberOf cX0_numberOf 1 (some .int), Cond.methodLink RX0 42 yX0_removeRange, Cond.instanceMethod yX0_removeRange, Cond.selects RX0 yX0_removeRange yX0_removeRange, Cond.code yX0_removeRange cX0_removeRange 3 none, Cond.methodLink RX3 72 yX0_insert, Cond.instanceMethod yX0_insert, Cond.selects RX0 yX0_insert yX0_insert, Cond.code yX0_insert cX0_insert 5 none, Cond.methodLink RX4 159 yX0_isSameAs, Cond.instanceMethod yX0_isSameAs, Cond.selects RX0 yX0_isSameAs yX0_isSameAs]
def wsX4_rightFrom_r4 : List Cond := [Cond.code yX0_isSameAs cX0_isSameAs 3 (some .boolean)]
def wsX4_rightFrom : List Cond := .code yX4_rightFrom cX4_rightFrom 4 (some .int) :: ((wsX4_rightFrom_r1 ++ (wsX4_rightFrom_r2 ++ (wsX4_rightFrom_r3 ++ wsX4_rightFrom_r4))) ++ wsX40 ++ wsX30 ++ wsX00)
def wsX4_put : List Cond := .code yX4_put cX4_put 4 (some .int) :: ([.fieldLink RX4 34 "BinderParcels" "pad" "LBinderParcels$Pad;", .methodLink RX4 195 yX2_charactersIn, .static yX2_charactersIn, .initialized RX2, .code yX2_charactersIn cX2_charactersIn 7 (some .int), .constantLong RX2 15 (255), .constantLong RX2 17 (33), .constantLong RX2 19 (126), .methodLink RX4 199 yX2_append, .instanceMethod yX2_append, .selects RX2 yX2_append yX2_append, .code yX2_append cX2_append 7 none, .fieldLink RX2 21 "BinderParcels$Pad" "length" "I", .fieldLink RX2 11 "BinderParcels$Pad" "characters" "[C"] ++ wsX40 ++ wsX20)
def wsX4_wipe : List Cond := .code yX4_wipe cX4_wipe 2 (some .int) :: ([.fieldLink RX4 34 "BinderParcels" "pad" "LBinderParcels$Pad;", .methodLink RX4 65 yX2_empty, .instanceMethod yX2_empty, .selects RX2 yX2_empty yX2_empty, .initialized RX2, .code yX2_empty cX2_empty 1 none, .fieldLink RX2 21 "BinderParcels$Pad" "length" "I"] ++ wsX40 ++ wsX20)
def wsX4_fault : List Cond := .code yX4_fault cX4_fault 1 (some .int) :: ([.fieldLink RX4 34 "BinderParcels" "pad" "LBinderParcels$Pad;", .methodLink RX4 45 yX2_firstFault, .instanceMethod yX2_firstFault, .selects RX2 yX2_firstFault yX2_firstFault, .initialized RX2, .code yX2_firstFault cX2_firstFault 2 (some .int), .fieldLink RX2 21 "BinderParcels$Pad" "length" "I", .fieldLink RX2 11 "BinderParcels$Pad" "characters" "[C", .methodLink RX2 25 yX2_canStand, .static yX2_canStand, .code yX2_canStand cX2_canStand 2 (some .boolean)] ++ wsX40 ++ wsX20)
def wsX4_undo_r1 : List Cond := [Cond.fieldLink RX4 19 "BinderParcels" "history" "LBinderParcels$History;", Cond.fieldLink RX4 10 "BinderParcels" "now" "LBinderParcels$State;", Cond.methodLink RX4 203 yX1_takeBack, Cond.instanceMethod yX1_takeBack, Cond.selects RX1 yX1_takeBack yX1_takeBack, Cond.initialized RX1, Cond.code yX1_takeBack cX1_takeBack 2 none, Cond.fieldLink RX1 22 "BinderParcels$History" "size" "I", Cond.fieldLink RX1 11 "BinderParcels$History" "states" "[LBinderParcels$State;", Cond.fieldLink RX1 18 "BinderParcels$History" "oldest" "I", Cond.methodLink RX1 25 yX3_copy, Cond.instanceMethod yX3_copy, Cond.selects RX3 yX3_copy yX3_copy, Cond.initialized RX3, Cond.code yX3_copy cX3_copy 3 none, Cond.fieldLink RX3 9 "BinderParcels$State" "orders" "[I", Cond.methodLink RX3 35 arraycopyName, Cond.native arraycopyName, Cond.static arraycopyName, Cond.initialized "java/lang/System", Cond.fieldLink RX3 15 "BinderParcels$State" "orderCounts" "[I", Cond.fieldLink RX3 41 "BinderParcels$State" "parcels" "I", Cond.fieldLink RX3 21 "BinderParcels$State" "text" "LBinderParcels$Binder;", Cond.fieldLink RX3 25 "BinderParcels$State" "binders" "[LBinderParcels$Binder;"]
def wsX4_undo_r2 : List Cond := [Cond.fieldLink RX3 29 "BinderParcels$State" "waiting" "[I", Cond.fieldLink RX3 32 "BinderParcels$State" "lost" "[I", Cond.fieldLink RX3 49 "BinderParcels$State" "owners" "I", Cond.methodLink RX3 45 yX0_copy, Cond.instanceMethod yX0_copy, Cond.selects RX0 yX0_copy yX0_copy, Cond.initialized RX0, Cond.code yX0_copy cX0_copy 2 none, Cond.fieldLink RX0 9 "BinderParcels$Binder" "leaves" "[I", Cond.fieldLink RX0 15 "BinderParcels$Binder" "size" "I", Cond.methodLink RX0 19 arraycopyName]
def wsX4_undo : List Cond := .code yX4_undo cX4_undo 1 (some .int) :: ((wsX4_undo_r1 ++ wsX4_undo_r2) ++ wsX40 ++ wsX10 ++ wsX30 ++ wsX00)
def wsX4_isSlot : List Cond := .code yX4_isSlot cX4_isSlot 1 (some .boolean) :: ([])
def wsX4_save_r1 : List Cond := [Cond.fieldLink RX4 23 "BinderParcels" "slots" "[LBinderParcels$State;", Cond.fieldLink RX4 10 "BinderParcels" "now" "LBinderParcels$State;", Cond.fieldLink RX4 27 "BinderParcels" "isSaved" "[Z", Cond.methodLink RX4 206 yX4_isSlot, Cond.static yX4_isSlot, Cond.initialized RX4, Cond.code yX4_isSlot cX4_isSlot 1 (some .boolean), Cond.methodLink RX4 209 yX3_copy, Cond.instanceMethod yX3_copy, Cond.selects RX3 yX3_copy yX3_copy, Cond.initialized RX3, Cond.code yX3_copy cX3_copy 3 none, Cond.fieldLink RX3 9 "BinderParcels$State" "orders" "[I", Cond.methodLink RX3 35 arraycopyName, Cond.native arraycopyName, Cond.static arraycopyName, Cond.initialized "java/lang/System", Cond.fieldLink RX3 15 "BinderParcels$State" "orderCounts" "[I", Cond.fieldLink RX3 41 "BinderParcels$State" "parcels" "I", Cond.fieldLink RX3 21 "BinderParcels$State" "text" "LBinderParcels$Binder;", Cond.fieldLink RX3 25 "BinderParcels$State" "binders" "[LBinderParcels$Binder;", Cond.fieldLink RX3 29 "BinderParcels$State" "waiting" "[I", Cond.fieldLink RX3 32 "BinderParcels$State" "lost" "[I", Cond.fieldLink RX3 49 "BinderParcels$State" "owners" "I"]
def wsX4_save_r2 : List Cond := [Cond.methodLink RX3 45 yX0_copy, Cond.instanceMethod yX0_copy, Cond.selects RX0 yX0_copy yX0_copy, Cond.initialized RX0, Cond.code yX0_copy cX0_copy 2 none, Cond.fieldLink RX0 9 "BinderParcels$Binder" "leaves" "[I", Cond.fieldLink RX0 15 "BinderParcels$Binder" "size" "I", Cond.methodLink RX0 19 arraycopyName]
def wsX4_save : List Cond := .code yX4_save cX4_save 2 (some .int) :: ((wsX4_save_r1 ++ wsX4_save_r2) ++ wsX40 ++ wsX30 ++ wsX00)
def wsX4_restore_r1 : List Cond := [Cond.fieldLink RX4 27 "BinderParcels" "isSaved" "[Z", Cond.fieldLink RX4 19 "BinderParcels" "history" "LBinderParcels$History;", Cond.fieldLink RX4 10 "BinderParcels" "now" "LBinderParcels$State;", Cond.fieldLink RX4 23 "BinderParcels" "slots" "[LBinderParcels$State;", Cond.methodLink RX4 206 yX4_isSlot, Cond.static yX4_isSlot, Cond.initialized RX4, Cond.code yX4_isSlot cX4_isSlot 1 (some .boolean), Cond.methodLink RX4 57 yX1_record, Cond.instanceMethod yX1_record, Cond.selects RX1 yX1_record yX1_record, Cond.initialized RX1, Cond.code yX1_record cX1_record 2 none, Cond.fieldLink RX1 11 "BinderParcels$History" "states" "[LBinderParcels$State;", Cond.fieldLink RX1 18 "BinderParcels$History" "oldest" "I", Cond.fieldLink RX1 22 "BinderParcels$History" "size" "I", Cond.methodLink RX1 25 yX3_copy, Cond.instanceMethod yX3_copy, Cond.selects RX3 yX3_copy yX3_copy, Cond.initialized RX3, Cond.code yX3_copy cX3_copy 3 none, Cond.fieldLink RX3 9 "BinderParcels$State" "orders" "[I", Cond.methodLink RX3 35 arraycopyName, Cond.native arraycopyName]
def wsX4_restore_r2 : List Cond := [Cond.static arraycopyName, Cond.initialized "java/lang/System", Cond.fieldLink RX3 15 "BinderParcels$State" "orderCounts" "[I", Cond.fieldLink RX3 41 "BinderParcels$State" "parcels" "I", Cond.fieldLink RX3 21 "BinderParcels$State" "text" "LBinderParcels$Binder;", Cond.fieldLink RX3 25 "BinderParcels$State" "binders" "[LBinderParcels$Binder;", Cond.fieldLink RX3 29 "BinderParcels$State" "waiting" "[I", Cond.fieldLink RX3 32 "BinderParcels$State" "lost" "[I", Cond.fieldLink RX3 49 "BinderParcels$State" "owners" "I", Cond.methodLink RX3 45 yX0_copy, Cond.instanceMethod yX0_copy, Cond.selects RX0 yX0_copy yX0_copy, Cond.initialized RX0, Cond.code yX0_copy cX0_copy 2 none, Cond.fieldLink RX0 9 "BinderParcels$Binder" "leaves" "[I", Cond.fieldLink RX0 15 "BinderParcels$Binder" "size" "I", Cond.methodLink RX0 19 arraycopyName, Cond.methodLink RX4 209 yX3_copy]
def wsX4_restore : List Cond := .code yX4_restore cX4_restore 2 (some .int) :: ((wsX4_restore_r1 ++ wsX4_restore_r2) ++ wsX40 ++ wsX30 ++ wsX10 ++ wsX00)
def wsX5_init : List Cond := .code yX5_init cX5_init 1 none :: ([.methodLink RX5 1 objectInit, .instanceMethod objectInit, .code objectInit ⟨#[0xb1]⟩ 1 none, .arrayClass .int, .fieldLink RX5 7 "BinderParcelsModel" "state" "[I", .fieldLink RX5 13 "BinderParcelsModel" "kept" "[I", .fieldLink RX5 16 "BinderParcelsModel" "history" "[I", .fieldLink RX5 19 "BinderParcelsModel" "slots" "[I", .fieldLink RX5 22 "BinderParcelsModel" "isSaved" "[I", .fieldLink RX5 25 "BinderParcelsModel" "pad" "[I", .fieldLink RX5 28 "BinderParcelsModel" "orders" "[I", .fieldLink RX5 31 "BinderParcelsModel" "leaves" "[I", .fieldLink RX5 34 "BinderParcelsModel" "rightOnes" "[I", .fieldLink RX5 37 "BinderParcelsModel" "issues" "[I"] ++ wsX50)
def wsX5_moves : List Cond := .code yX5_moves cX5_moves 5 none :: ([])
def wsX5_within : List Cond := .code yX5_within cX5_within 3 (some .boolean) :: ([])
def wsX5_record : List Cond := .code yX5_record cX5_record 2 none :: ([.fieldLink RX5 40 "BinderParcelsModel" "recorded" "I", .fieldLink RX5 16 "BinderParcelsModel" "history" "[I", .fieldLink RX5 7 "BinderParcelsModel" "state" "[I", .methodLink RX5 44 yX5_moves, .static yX5_moves, .initialized RX5, .code yX5_moves cX5_moves 5 none] ++ wsX50)
def wsX5_isOwner : List Cond := .code yX5_isOwner cX5_isOwner 2 (some .boolean) :: ([.fieldLink RX5 7 "BinderParcelsModel" "state" "[I", .methodLink RX5 48 yX5_within, .static yX5_within, .initialized RX5, .code yX5_within cX5_within 3 (some .boolean)] ++ wsX50)
def wsX5_isParcel : List Cond := .code yX5_isParcel cX5_isParcel 2 (some .boolean) :: ([.fieldLink RX5 7 "BinderParcelsModel" "state" "[I", .methodLink RX5 48 yX5_within, .static yX5_within, .initialized RX5, .code yX5_within cX5_within 3 (some .boolean)] ++ wsX50)
def wsX5_part : List Cond := .code yX5_part cX5_part 3 (some .int) :: ([.fieldLink RX5 7 "BinderParcelsModel" "state" "[I"] ++ wsX50)
def wsX5_setPart : List Cond := .code yX5_setPart cX5_setPart 4 none :: ([.fieldLink RX5 7 "BinderParcelsModel" "state" "[I"] ++ wsX50)
def wsX5_numberOf : List Cond := .code yX5_numberOf cX5_numberOf 3 (some .int) :: ([.methodLink RX5 52 yX5_part, .instanceMethod yX5_part, .selects RX5 yX5_part yX5_part, .initialized RX5, .code yX5_part cX5_part 3 (some .int), .fieldLink RX5 7 "BinderParcelsModel" "state" "[I"] ++ wsX50)
def wsX5_issueOf : List Cond := .code yX5_issueOf cX5_issueOf 3 (some .int) :: ([.methodLink RX5 52 yX5_part, .instanceMethod yX5_part, .selects RX5 yX5_part yX5_part, .initialized RX5, .code yX5_part cX5_part 3 (some .int), .fieldLink RX5 7 "BinderParcelsModel" "state" "[I"] ++ wsX50)
def wsX5_orderOf : List Cond := .code yX5_orderOf cX5_orderOf 3 (some .int) :: ([.fieldLink RX5 7 "BinderParcelsModel" "state" "[I"] ++ wsX50)
def wsX5_bits : List Cond := .code yX5_bits cX5_bits 3 (some .int) :: ([])
def wsX5_remove : List Cond := .code yX5_remove cX5_remove 4 none :: ([.methodLink RX5 52 yX5_part, .instanceMethod yX5_part, .selects RX5 yX5_part yX5_part, .initialized RX5, .code yX5_part cX5_part 3 (some .int), .fieldLink RX5 7 "BinderParcelsModel" "state" "[I", .methodLink RX5 56 yX5_setPart, .instanceMethod yX5_setPart, .selects RX5 yX5_setPart yX5_setPart, .code yX5_setPart cX5_setPart 4 none] ++ wsX50)
def wsX5_comes : List Cond := .code yX5_comes cX5_comes 4 none :: ([.methodLink RX5 52 yX5_part, .instanceMethod yX5_part, .selects RX5 yX5_part yX5_part, .initialized RX5, .code yX5_part cX5_part 3 (some .int), .fieldLink RX5 7 "BinderParcelsModel" "state" "[I", .methodLink RX5 56 yX5_setPart, .instanceMethod yX5_setPart, .selects RX5 yX5_setPart yX5_setPart, .code yX5_setPart cX5_setPart 4 none] ++ wsX50)
def wsX5_removeAll : List Cond := .code yX5_removeAll cX5_removeAll 4 none :: ([.methodLink RX5 52 yX5_part, .instanceMethod yX5_part, .selects RX5 yX5_part yX5_part, .initialized RX5, .code yX5_part cX5_part 3 (some .int), .fieldLink RX5 7 "BinderParcelsModel" "state" "[I", .methodLink RX5 60 yX5_numberOf, .instanceMethod yX5_numberOf, .selects RX5 yX5_numberOf yX5_numberOf, .code yX5_numberOf cX5_numberOf 3 (some .int), .methodLink RX5 63 yX5_remove, .instanceMethod yX5_remove, .selects RX5 yX5_remove yX5_remove, .code yX5_remove cX5_remove 4 none, .methodLink RX5 56 yX5_setPart, .instanceMethod yX5_setPart, .selects RX5 yX5_setPart yX5_setPart, .code yX5_setPart cX5_setPart 4 none] ++ wsX50)
def wsX5_earliest : List Cond := .code yX5_earliest cX5_earliest 5 (some .int) :: ([.methodLink RX5 52 yX5_part, .instanceMethod yX5_part, .selects RX5 yX5_part yX5_part, .initialized RX5, .code yX5_part cX5_part 3 (some .int), .fieldLink RX5 7 "BinderParcelsModel" "state" "[I", .methodLink RX5 60 yX5_numberOf, .instanceMethod yX5_numberOf, .selects RX5 yX5_numberOf yX5_numberOf, .code yX5_numberOf cX5_numberOf 3 (some .int), .methodLink RX5 67 yX5_issueOf, .instanceMethod yX5_issueOf, .selects RX5 yX5_issueOf yX5_issueOf, .code yX5_issueOf cX5_issueOf 3 (some .int)] ++ wsX50)
def wsX5_doParcel_r1 : List Cond := [Cond.fieldLink RX5 7 "BinderParcelsModel" "state" "[I", Cond.methodLink RX5 70 yX5_orderOf, Cond.instanceMethod yX5_orderOf, Cond.selects RX5 yX5_orderOf yX5_orderOf, Cond.initialized RX5, Cond.code yX5_orderOf cX5_orderOf 3 (some .int), Cond.methodLink RX5 73 yX5_earliest, Cond.instanceMethod yX5_earliest, Cond.selects RX5 yX5_earliest yX5_earliest, Cond.code yX5_earliest cX5_earliest 5 (some .int), Cond.methodLink RX5 52 yX5_part, Cond.instanceMethod yX5_part, Cond.selects RX5 yX5_part yX5_part, Cond.code yX5_part cX5_part 3 (some .int), Cond.methodLink RX5 60 yX5_numberOf, Cond.instanceMethod yX5_numberOf, Cond.selects RX5 yX5_numberOf yX5_numberOf, Cond.code yX5_numberOf cX5_numberOf 3 (some .int), Cond.methodLink RX5 67 yX5_issueOf, Cond.instanceMethod yX5_issueOf, Cond.selects RX5 yX5_issueOf yX5_issueOf, Cond.code yX5_issueOf cX5_issueOf 3 (some .int), Cond.methodLink RX5 76 yX5_removeAll, Cond.instanceMethod yX5_removeAll]
def wsX5_doParcel_r2 : List Cond := [Cond.selects RX5 yX5_removeAll yX5_removeAll, Cond.code yX5_removeAll cX5_removeAll 4 none, Cond.methodLink RX5 63 yX5_remove, Cond.instanceMethod yX5_remove, Cond.selects RX5 yX5_remove yX5_remove, Cond.code yX5_remove cX5_remove 4 none, Cond.methodLink RX5 56 yX5_setPart, Cond.instanceMethod yX5_setPart, Cond.selects RX5 yX5_setPart yX5_setPart, Cond.code yX5_setPart cX5_setPart 4 none, Cond.methodLink RX5 79 yX5_comes, Cond.instanceMethod yX5_comes, Cond.selects RX5 yX5_comes yX5_comes, Cond.code yX5_comes cX5_comes 4 none]
def wsX5_doParcel : List Cond := .code yX5_doParcel cX5_doParcel 8 none :: ((wsX5_doParcel_r1 ++ wsX5_doParcel_r2) ++ wsX50)
def wsX5_doSet_r1 : List Cond := [Cond.fieldLink RX5 7 "BinderParcelsModel" "state" "[I", Cond.methodLink RX5 82 yX5_doParcel, Cond.instanceMethod yX5_doParcel, Cond.selects RX5 yX5_doParcel yX5_doParcel, Cond.initialized RX5, Cond.code yX5_doParcel cX5_doParcel 8 none, Cond.methodLink RX5 70 yX5_orderOf, Cond.instanceMethod yX5_orderOf, Cond.selects RX5 yX5_orderOf yX5_orderOf, Cond.code yX5_orderOf cX5_orderOf 3 (some .int), Cond.methodLink RX5 73 yX5_earliest, Cond.instanceMethod yX5_earliest, Cond.selects RX5 yX5_earliest yX5_earliest, Cond.code yX5_earliest cX5_earliest 5 (some .int), Cond.methodLink RX5 52 yX5_part, Cond.instanceMethod yX5_part, Cond.selects RX5 yX5_part yX5_part, Cond.code yX5_part cX5_part 3 (some .int), Cond.methodLink RX5 60 yX5_numberOf, Cond.instanceMethod yX5_numberOf, Cond.selects RX5 yX5_numberOf yX5_numberOf, Cond.code yX5_numberOf cX5_numberOf 3 (some .int), Cond.methodLink RX5 67 yX5_issueOf, Cond.instanceMethod yX5_issueOf]
def wsX5_doSet_r2 : List Cond := [Cond.selects RX5 yX5_issueOf yX5_issueOf, Cond.code yX5_issueOf cX5_issueOf 3 (some .int), Cond.methodLink RX5 76 yX5_removeAll, Cond.instanceMethod yX5_removeAll, Cond.selects RX5 yX5_removeAll yX5_removeAll, Cond.code yX5_removeAll cX5_removeAll 4 none, Cond.methodLink RX5 63 yX5_remove, Cond.instanceMethod yX5_remove, Cond.selects RX5 yX5_remove yX5_remove, Cond.code yX5_remove cX5_remove 4 none, Cond.methodLink RX5 56 yX5_setPart, Cond.instanceMethod yX5_setPart, Cond.selects RX5 yX5_setPart yX5_setPart, Cond.code yX5_setPart cX5_setPart 4 none, Cond.methodLink RX5 79 yX5_comes, Cond.instanceMethod yX5_comes, Cond.selects RX5 yX5_comes yX5_comes, Cond.code yX5_comes cX5_comes 4 none]
def wsX5_doSet : List Cond := .code yX5_doSet cX5_doSet 4 none :: ((wsX5_doSet_r1 ++ wsX5_doSet_r2) ++ wsX50)
def wsX5_findIssues : List Cond := .code yX5_findIssues cX5_findIssues 2 none :: ([.fieldLink RX5 37 "BinderParcelsModel" "issues" "[I", .methodLink RX5 52 yX5_part, .instanceMethod yX5_part, .selects RX5 yX5_part yX5_part, .initialized RX5, .code yX5_part cX5_part 3 (some .int), .fieldLink RX5 7 "BinderParcelsModel" "state" "[I", .methodLink RX5 60 yX5_numberOf, .instanceMethod yX5_numberOf, .selects RX5 yX5_numberOf yX5_numberOf, .code yX5_numberOf cX5_numberOf 3 (some .int), .methodLink RX5 67 yX5_issueOf, .instanceMethod yX5_issueOf, .selects RX5 yX5_issueOf yX5_issueOf, .code yX5_issueOf cX5_issueOf 3 (some .int)] ++ wsX50)
def wsX5_findLeaves : List Cond := .code yX5_findLeaves cX5_findLeaves 4 none :: ([.fieldLink RX5 31 "BinderParcelsModel" "leaves" "[I", .fieldLink RX5 34 "BinderParcelsModel" "rightOnes" "[I", .fieldLink RX5 37 "BinderParcelsModel" "issues" "[I", .methodLink RX5 86 yX5_findIssues, .instanceMethod yX5_findIssues, .selects RX5 yX5_findIssues yX5_findIssues, .initialized RX5, .code yX5_findIssues cX5_findIssues 2 none, .methodLink RX5 52 yX5_part, .instanceMethod yX5_part, .selects RX5 yX5_part yX5_part, .code yX5_part cX5_part 3 (some .int), .fieldLink RX5 7 "BinderParcelsModel" "state" "[I", .methodLink RX5 60 yX5_numberOf, .instanceMethod yX5_numberOf, .selects RX5 yX5_numberOf yX5_numberOf, .code yX5_numberOf cX5_numberOf 3 (some .int), .methodLink RX5 67 yX5_issueOf, .instanceMethod yX5_issueOf, .selects RX5 yX5_issueOf yX5_issueOf, .code yX5_issueOf cX5_issueOf 3 (some .int)] ++ wsX50)
def wsX5_surplusOf : List Cond := .code yX5_surplusOf cX5_surplusOf 2 (some .int) :: ([.fieldLink RX5 37 "BinderParcelsModel" "issues" "[I", .fieldLink RX5 31 "BinderParcelsModel" "leaves" "[I"] ++ wsX50)
def wsX5_oldOf : List Cond := .code yX5_oldOf cX5_oldOf 2 (some .int) :: ([.fieldLink RX5 37 "BinderParcelsModel" "issues" "[I", .fieldLink RX5 31 "BinderParcelsModel" "leaves" "[I", .fieldLink RX5 34 "BinderParcelsModel" "rightOnes" "[I"] ++ wsX50)
def wsX5_missingOf : List Cond := .code yX5_missingOf cX5_missingOf 2 (some .int) :: ([.fieldLink RX5 37 "BinderParcelsModel" "issues" "[I", .fieldLink RX5 31 "BinderParcelsModel" "leaves" "[I"] ++ wsX50)
def wsX5_wrong_r1 : List Cond := [Cond.methodLink RX5 89 yX5_findLeaves, Cond.instanceMethod yX5_findLeaves, Cond.selects RX5 yX5_findLeaves yX5_findLeaves, Cond.initialized RX5, Cond.code yX5_findLeaves cX5_findLeaves 4 none, Cond.fieldLink RX5 31 "BinderParcelsModel" "leaves" "[I", Cond.fieldLink RX5 34 "BinderParcelsModel" "rightOnes" "[I", Cond.fieldLink RX5 37 "BinderParcelsModel" "issues" "[I", Cond.methodLink RX5 86 yX5_findIssues, Cond.instanceMethod yX5_findIssues, Cond.selects RX5 yX5_findIssues yX5_findIssues, Cond.code yX5_findIssues cX5_findIssues 2 none, Cond.methodLink RX5 52 yX5_part, Cond.instanceMethod yX5_part, Cond.selects RX5 yX5_part yX5_part, Cond.code yX5_part cX5_part 3 (some .int), Cond.fieldLink RX5 7 "BinderParcelsModel" "state" "[I", Cond.methodLink RX5 60 yX5_numberOf, Cond.instanceMethod yX5_numberOf, Cond.selects RX5 yX5_numberOf yX5_numberOf, Cond.code yX5_numberOf cX5_numberOf 3 (some .int), Cond.methodLink RX5 67 yX5_issueOf, Cond.instanceMethod yX5_issueOf, Cond.selects RX5 yX5_issueOf yX5_issueOf]
def wsX5_wrong_r2 : List Cond := [Cond.code yX5_issueOf cX5_issueOf 3 (some .int), Cond.methodLink RX5 93 yX5_surplusOf, Cond.instanceMethod yX5_surplusOf, Cond.selects RX5 yX5_surplusOf yX5_surplusOf, Cond.code yX5_surplusOf cX5_surplusOf 2 (some .int), Cond.methodLink RX5 97 yX5_oldOf, Cond.instanceMethod yX5_oldOf, Cond.selects RX5 yX5_oldOf yX5_oldOf, Cond.code yX5_oldOf cX5_oldOf 2 (some .int), Cond.methodLink RX5 100 yX5_missingOf, Cond.instanceMethod yX5_missingOf, Cond.selects RX5 yX5_missingOf yX5_missingOf, Cond.code yX5_missingOf cX5_missingOf 2 (some .int)]
def wsX5_wrong : List Cond := .code yX5_wrong cX5_wrong 7 (some .int) :: ((wsX5_wrong_r1 ++ wsX5_wrong_r2) ++ wsX50)
def wsX5_isRight_r1 : List Cond := [Cond.methodLink RX5 103 yX5_wrong, Cond.instanceMethod yX5_wrong, Cond.selects RX5 yX5_wrong yX5_wrong, Cond.initialized RX5, Cond.code yX5_wrong cX5_wrong 7 (some .int), Cond.methodLink RX5 89 yX5_findLeaves, Cond.instanceMethod yX5_findLeaves, Cond.selects RX5 yX5_findLeaves yX5_findLeaves, Cond.code yX5_findLeaves cX5_findLeaves 4 none, Cond.fieldLink RX5 31 "BinderParcelsModel" "leaves" "[I", Cond.fieldLink RX5 34 "BinderParcelsModel" "rightOnes" "[I", Cond.fieldLink RX5 37 "BinderParcelsModel" "issues" "[I", Cond.methodLink RX5 86 yX5_findIssues, Cond.instanceMethod yX5_findIssues, Cond.selects RX5 yX5_findIssues yX5_findIssues, Cond.code yX5_findIssues cX5_findIssues 2 none, Cond.methodLink RX5 52 yX5_part, Cond.instanceMethod yX5_part, Cond.selects RX5 yX5_part yX5_part, Cond.code yX5_part cX5_part 3 (some .int), Cond.fieldLink RX5 7 "BinderParcelsModel" "state" "[I", Cond.methodLink RX5 60 yX5_numberOf, Cond.instanceMethod yX5_numberOf, Cond.selects RX5 yX5_numberOf yX5_numberOf]
def wsX5_isRight_r2 : List Cond := [Cond.code yX5_numberOf cX5_numberOf 3 (some .int), Cond.methodLink RX5 67 yX5_issueOf, Cond.instanceMethod yX5_issueOf, Cond.selects RX5 yX5_issueOf yX5_issueOf, Cond.code yX5_issueOf cX5_issueOf 3 (some .int), Cond.methodLink RX5 93 yX5_surplusOf, Cond.instanceMethod yX5_surplusOf, Cond.selects RX5 yX5_surplusOf yX5_surplusOf, Cond.code yX5_surplusOf cX5_surplusOf 2 (some .int), Cond.methodLink RX5 97 yX5_oldOf, Cond.instanceMethod yX5_oldOf, Cond.selects RX5 yX5_oldOf yX5_oldOf, Cond.code yX5_oldOf cX5_oldOf 2 (some .int), Cond.methodLink RX5 100 yX5_missingOf, Cond.instanceMethod yX5_missingOf, Cond.selects RX5 yX5_missingOf yX5_missingOf, Cond.code yX5_missingOf cX5_missingOf 2 (some .int)]
def wsX5_isRight : List Cond := .code yX5_isRight cX5_isRight 2 (some .boolean) :: ((wsX5_isRight_r1 ++ wsX5_isRight_r2) ++ wsX50)
def wsX5_checkOf : List Cond := .code yX5_checkOf cX5_checkOf 4 (some .int) :: ([.methodLink RX5 52 yX5_part, .instanceMethod yX5_part, .selects RX5 yX5_part yX5_part, .initialized RX5, .code yX5_part cX5_part 3 (some .int), .fieldLink RX5 7 "BinderParcelsModel" "state" "[I", .methodLink RX5 60 yX5_numberOf, .instanceMethod yX5_numberOf, .selects RX5 yX5_numberOf yX5_numberOf, .code yX5_numberOf cX5_numberOf 3 (some .int), .methodLink RX5 67 yX5_issueOf, .instanceMethod yX5_issueOf, .selects RX5 yX5_issueOf yX5_issueOf, .code yX5_issueOf cX5_issueOf 3 (some .int)] ++ wsX50)
def wsX5_comesTwice : List Cond := .code yX5_comesTwice cX5_comesTwice 4 (some .boolean) :: ([.fieldLink RX5 106 "BinderParcelsModel" "ordersMany" "I", .fieldLink RX5 28 "BinderParcelsModel" "orders" "[I"] ++ wsX50)
def wsX5_canStand : List Cond := .code yX5_canStand cX5_canStand 2 (some .boolean) :: ([.methodLink RX5 48 yX5_within, .static yX5_within, .initialized RX5, .code yX5_within cX5_within 3 (some .boolean)])
def wsX5_findFault : List Cond := .code yX5_findFault cX5_findFault 2 (some .int) :: ([.fieldLink RX5 106 "BinderParcelsModel" "ordersMany" "I", .fieldLink RX5 120 "BinderParcelsModel" "padLength" "I", .fieldLink RX5 25 "BinderParcelsModel" "pad" "[I", .fieldLink RX5 28 "BinderParcelsModel" "orders" "[I", .methodLink RX5 177 yX5_canStand, .static yX5_canStand, .initialized RX5, .code yX5_canStand cX5_canStand 2 (some .boolean), .methodLink RX5 48 yX5_within, .static yX5_within, .code yX5_within cX5_within 3 (some .boolean)] ++ wsX50)
def wsX5_issue_r1 : List Cond := [Cond.fieldLink RX5 7 "BinderParcelsModel" "state" "[I", Cond.fieldLink RX5 106 "BinderParcelsModel" "ordersMany" "I", Cond.fieldLink RX5 28 "BinderParcelsModel" "orders" "[I", Cond.fieldLink RX5 120 "BinderParcelsModel" "padLength" "I", Cond.methodLink RX5 109 yX5_findFault, Cond.instanceMethod yX5_findFault, Cond.selects RX5 yX5_findFault yX5_findFault, Cond.initialized RX5, Cond.code yX5_findFault cX5_findFault 2 (some .int), Cond.fieldLink RX5 25 "BinderParcelsModel" "pad" "[I", Cond.methodLink RX5 177 yX5_canStand, Cond.static yX5_canStand, Cond.code yX5_canStand cX5_canStand 2 (some .boolean), Cond.methodLink RX5 48 yX5_within, Cond.static yX5_within, Cond.code yX5_within cX5_within 3 (some .boolean), Cond.methodLink RX5 113 yX5_comesTwice, Cond.instanceMethod yX5_comesTwice, Cond.selects RX5 yX5_comesTwice yX5_comesTwice, Cond.code yX5_comesTwice cX5_comesTwice 4 (some .boolean), Cond.methodLink RX5 117 yX5_record, Cond.instanceMethod yX5_record, Cond.selects RX5 yX5_record yX5_record, Cond.code yX5_record cX5_record 2 none]
def wsX5_issue_r2 : List Cond := [Cond.fieldLink RX5 40 "BinderParcelsModel" "recorded" "I", Cond.fieldLink RX5 16 "BinderParcelsModel" "history" "[I", Cond.methodLink RX5 44 yX5_moves, Cond.static yX5_moves, Cond.code yX5_moves cX5_moves 5 none, Cond.methodLink RX5 82 yX5_doParcel, Cond.instanceMethod yX5_doParcel, Cond.selects RX5 yX5_doParcel yX5_doParcel, Cond.code yX5_doParcel cX5_doParcel 8 none, Cond.methodLink RX5 70 yX5_orderOf, Cond.instanceMethod yX5_orderOf, Cond.selects RX5 yX5_orderOf yX5_orderOf, Cond.code yX5_orderOf cX5_orderOf 3 (some .int), Cond.methodLink RX5 73 yX5_earliest, Cond.instanceMethod yX5_earliest, Cond.selects RX5 yX5_earliest yX5_earliest, Cond.code yX5_earliest cX5_earliest 5 (some .int), Cond.methodLink RX5 52 yX5_part, Cond.instanceMethod yX5_part, Cond.selects RX5 yX5_part yX5_part, Cond.code yX5_part cX5_part 3 (some .int), Cond.methodLink RX5 60 yX5_numberOf, Cond.instanceMethod yX5_numberOf, Cond.selects RX5 yX5_numberOf yX5_numberOf]
def wsX5_issue_r3 : List Cond := [Cond.code yX5_numberOf cX5_numberOf 3 (some .int), Cond.methodLink RX5 67 yX5_issueOf, Cond.instanceMethod yX5_issueOf, Cond.selects RX5 yX5_issueOf yX5_issueOf, Cond.code yX5_issueOf cX5_issueOf 3 (some .int), Cond.methodLink RX5 76 yX5_removeAll, Cond.instanceMethod yX5_removeAll, Cond.selects RX5 yX5_removeAll yX5_removeAll, Cond.code yX5_removeAll cX5_removeAll 4 none, Cond.methodLink RX5 63 yX5_remove, Cond.instanceMethod yX5_remove, Cond.selects RX5 yX5_remove yX5_remove, Cond.code yX5_remove cX5_remove 4 none, Cond.methodLink RX5 56 yX5_setPart, Cond.instanceMethod yX5_setPart, Cond.selects RX5 yX5_setPart yX5_setPart, Cond.code yX5_setPart cX5_setPart 4 none, Cond.methodLink RX5 79 yX5_comes, Cond.instanceMethod yX5_comes, Cond.selects RX5 yX5_comes yX5_comes, Cond.code yX5_comes cX5_comes 4 none]
def wsX5_issue : List Cond := .code yX5_issue cX5_issue 3 (some .int) :: ((wsX5_issue_r1 ++ (wsX5_issue_r2 ++ wsX5_issue_r3)) ++ wsX50)
def wsX5_own : List Cond := .code yX5_own cX5_own 3 (some .int) :: ([.fieldLink RX5 7 "BinderParcelsModel" "state" "[I", .methodLink RX5 117 yX5_record, .instanceMethod yX5_record, .selects RX5 yX5_record yX5_record, .initialized RX5, .code yX5_record cX5_record 2 none, .fieldLink RX5 40 "BinderParcelsModel" "recorded" "I", .fieldLink RX5 16 "BinderParcelsModel" "history" "[I", .methodLink RX5 44 yX5_moves, .static yX5_moves, .code yX5_moves cX5_moves 5 none, .methodLink RX5 52 yX5_part, .instanceMethod yX5_part, .selects RX5 yX5_part yX5_part, .code yX5_part cX5_part 3 (some .int), .methodLink RX5 56 yX5_setPart, .instanceMethod yX5_setPart, .selects RX5 yX5_setPart yX5_setPart, .code yX5_setPart cX5_setPart 4 none] ++ wsX50)
def wsX5_waits : List Cond := .code yX5_waits cX5_waits 3 (some .boolean) :: ([.methodLink RX5 52 yX5_part, .instanceMethod yX5_part, .selects RX5 yX5_part yX5_part, .initialized RX5, .code yX5_part cX5_part 3 (some .int), .fieldLink RX5 7 "BinderParcelsModel" "state" "[I"] ++ wsX50)
def wsX5_done_r1 : List Cond := [Cond.methodLink RX5 123 yX5_isOwner, Cond.instanceMethod yX5_isOwner, Cond.selects RX5 yX5_isOwner yX5_isOwner, Cond.initialized RX5, Cond.code yX5_isOwner cX5_isOwner 2 (some .boolean), Cond.fieldLink RX5 7 "BinderParcelsModel" "state" "[I", Cond.methodLink RX5 48 yX5_within, Cond.static yX5_within, Cond.code yX5_within cX5_within 3 (some .boolean), Cond.methodLink RX5 127 yX5_isParcel, Cond.instanceMethod yX5_isParcel, Cond.selects RX5 yX5_isParcel yX5_isParcel, Cond.code yX5_isParcel cX5_isParcel 2 (some .boolean), Cond.methodLink RX5 130 yX5_waits, Cond.instanceMethod yX5_waits, Cond.selects RX5 yX5_waits yX5_waits, Cond.code yX5_waits cX5_waits 3 (some .boolean), Cond.methodLink RX5 52 yX5_part, Cond.instanceMethod yX5_part, Cond.selects RX5 yX5_part yX5_part, Cond.code yX5_part cX5_part 3 (some .int), Cond.methodLink RX5 117 yX5_record, Cond.instanceMethod yX5_record, Cond.selects RX5 yX5_record yX5_record]
def wsX5_done_r2 : List Cond := [Cond.code yX5_record cX5_record 2 none, Cond.fieldLink RX5 40 "BinderParcelsModel" "recorded" "I", Cond.fieldLink RX5 16 "BinderParcelsModel" "history" "[I", Cond.methodLink RX5 44 yX5_moves, Cond.static yX5_moves, Cond.code yX5_moves cX5_moves 5 none, Cond.methodLink RX5 82 yX5_doParcel, Cond.instanceMethod yX5_doParcel, Cond.selects RX5 yX5_doParcel yX5_doParcel, Cond.code yX5_doParcel cX5_doParcel 8 none, Cond.methodLink RX5 70 yX5_orderOf, Cond.instanceMethod yX5_orderOf, Cond.selects RX5 yX5_orderOf yX5_orderOf, Cond.code yX5_orderOf cX5_orderOf 3 (some .int), Cond.methodLink RX5 73 yX5_earliest, Cond.instanceMethod yX5_earliest, Cond.selects RX5 yX5_earliest yX5_earliest, Cond.code yX5_earliest cX5_earliest 5 (some .int), Cond.methodLink RX5 60 yX5_numberOf, Cond.instanceMethod yX5_numberOf, Cond.selects RX5 yX5_numberOf yX5_numberOf, Cond.code yX5_numberOf cX5_numberOf 3 (some .int), Cond.methodLink RX5 67 yX5_issueOf, Cond.instanceMethod yX5_issueOf]
def wsX5_done_r3 : List Cond := [Cond.selects RX5 yX5_issueOf yX5_issueOf, Cond.code yX5_issueOf cX5_issueOf 3 (some .int), Cond.methodLink RX5 76 yX5_removeAll, Cond.instanceMethod yX5_removeAll, Cond.selects RX5 yX5_removeAll yX5_removeAll, Cond.code yX5_removeAll cX5_removeAll 4 none, Cond.methodLink RX5 63 yX5_remove, Cond.instanceMethod yX5_remove, Cond.selects RX5 yX5_remove yX5_remove, Cond.code yX5_remove cX5_remove 4 none, Cond.methodLink RX5 56 yX5_setPart, Cond.instanceMethod yX5_setPart, Cond.selects RX5 yX5_setPart yX5_setPart, Cond.code yX5_setPart cX5_setPart 4 none, Cond.methodLink RX5 79 yX5_comes, Cond.instanceMethod yX5_comes, Cond.selects RX5 yX5_comes yX5_comes, Cond.code yX5_comes cX5_comes 4 none]
def wsX5_done : List Cond := .code yX5_done cX5_done 4 (some .int) :: ((wsX5_done_r1 ++ (wsX5_done_r2 ++ wsX5_done_r3)) ++ wsX50)
def wsX5_doAll_r1 : List Cond := [Cond.methodLink RX5 123 yX5_isOwner, Cond.instanceMethod yX5_isOwner, Cond.selects RX5 yX5_isOwner yX5_isOwner, Cond.initialized RX5, Cond.code yX5_isOwner cX5_isOwner 2 (some .boolean), Cond.fieldLink RX5 7 "BinderParcelsModel" "state" "[I", Cond.methodLink RX5 48 yX5_within, Cond.static yX5_within, Cond.code yX5_within cX5_within 3 (some .boolean), Cond.methodLink RX5 117 yX5_record, Cond.instanceMethod yX5_record, Cond.selects RX5 yX5_record yX5_record, Cond.code yX5_record cX5_record 2 none, Cond.fieldLink RX5 40 "BinderParcelsModel" "recorded" "I", Cond.fieldLink RX5 16 "BinderParcelsModel" "history" "[I", Cond.methodLink RX5 44 yX5_moves, Cond.static yX5_moves, Cond.code yX5_moves cX5_moves 5 none, Cond.methodLink RX5 52 yX5_part, Cond.instanceMethod yX5_part, Cond.selects RX5 yX5_part yX5_part, Cond.code yX5_part cX5_part 3 (some .int), Cond.methodLink RX5 134 yX5_doSet, Cond.instanceMethod yX5_doSet]
def wsX5_doAll_r2 : List Cond := [Cond.selects RX5 yX5_doSet yX5_doSet, Cond.code yX5_doSet cX5_doSet 4 none, Cond.methodLink RX5 82 yX5_doParcel, Cond.instanceMethod yX5_doParcel, Cond.selects RX5 yX5_doParcel yX5_doParcel, Cond.code yX5_doParcel cX5_doParcel 8 none, Cond.methodLink RX5 70 yX5_orderOf, Cond.instanceMethod yX5_orderOf, Cond.selects RX5 yX5_orderOf yX5_orderOf, Cond.code yX5_orderOf cX5_orderOf 3 (some .int), Cond.methodLink RX5 73 yX5_earliest, Cond.instanceMethod yX5_earliest, Cond.selects RX5 yX5_earliest yX5_earliest, Cond.code yX5_earliest cX5_earliest 5 (some .int), Cond.methodLink RX5 60 yX5_numberOf, Cond.instanceMethod yX5_numberOf, Cond.selects RX5 yX5_numberOf yX5_numberOf, Cond.code yX5_numberOf cX5_numberOf 3 (some .int), Cond.methodLink RX5 67 yX5_issueOf, Cond.instanceMethod yX5_issueOf, Cond.selects RX5 yX5_issueOf yX5_issueOf, Cond.code yX5_issueOf cX5_issueOf 3 (some .int), Cond.methodLink RX5 76 yX5_removeAll, Cond.instanceMethod yX5_removeAll]
def wsX5_doAll_r3 : List Cond := [Cond.selects RX5 yX5_removeAll yX5_removeAll, Cond.code yX5_removeAll cX5_removeAll 4 none, Cond.methodLink RX5 63 yX5_remove, Cond.instanceMethod yX5_remove, Cond.selects RX5 yX5_remove yX5_remove, Cond.code yX5_remove cX5_remove 4 none, Cond.methodLink RX5 56 yX5_setPart, Cond.instanceMethod yX5_setPart, Cond.selects RX5 yX5_setPart yX5_setPart, Cond.code yX5_setPart cX5_setPart 4 none, Cond.methodLink RX5 79 yX5_comes, Cond.instanceMethod yX5_comes, Cond.selects RX5 yX5_comes yX5_comes, Cond.code yX5_comes cX5_comes 4 none, Cond.methodLink RX5 137 yX5_bits, Cond.static yX5_bits, Cond.code yX5_bits cX5_bits 3 (some .int)]
def wsX5_doAll : List Cond := .code yX5_doAll cX5_doAll 3 (some .int) :: ((wsX5_doAll_r1 ++ (wsX5_doAll_r2 ++ wsX5_doAll_r3)) ++ wsX50)
def wsX5_lose_r1 : List Cond := [Cond.methodLink RX5 123 yX5_isOwner, Cond.instanceMethod yX5_isOwner, Cond.selects RX5 yX5_isOwner yX5_isOwner, Cond.initialized RX5, Cond.code yX5_isOwner cX5_isOwner 2 (some .boolean), Cond.fieldLink RX5 7 "BinderParcelsModel" "state" "[I", Cond.methodLink RX5 48 yX5_within, Cond.static yX5_within, Cond.code yX5_within cX5_within 3 (some .boolean), Cond.methodLink RX5 127 yX5_isParcel, Cond.instanceMethod yX5_isParcel, Cond.selects RX5 yX5_isParcel yX5_isParcel, Cond.code yX5_isParcel cX5_isParcel 2 (some .boolean), Cond.methodLink RX5 130 yX5_waits, Cond.instanceMethod yX5_waits, Cond.selects RX5 yX5_waits yX5_waits, Cond.code yX5_waits cX5_waits 3 (some .boolean), Cond.methodLink RX5 52 yX5_part, Cond.instanceMethod yX5_part, Cond.selects RX5 yX5_part yX5_part, Cond.code yX5_part cX5_part 3 (some .int), Cond.methodLink RX5 117 yX5_record, Cond.instanceMethod yX5_record, Cond.selects RX5 yX5_record yX5_record]
def wsX5_lose_r2 : List Cond := [Cond.code yX5_record cX5_record 2 none, Cond.fieldLink RX5 40 "BinderParcelsModel" "recorded" "I", Cond.fieldLink RX5 16 "BinderParcelsModel" "history" "[I", Cond.methodLink RX5 44 yX5_moves, Cond.static yX5_moves, Cond.code yX5_moves cX5_moves 5 none, Cond.methodLink RX5 56 yX5_setPart, Cond.instanceMethod yX5_setPart, Cond.selects RX5 yX5_setPart yX5_setPart, Cond.code yX5_setPart cX5_setPart 4 none, Cond.methodLink RX5 137 yX5_bits, Cond.static yX5_bits, Cond.code yX5_bits cX5_bits 3 (some .int)]
def wsX5_lose : List Cond := .code yX5_lose cX5_lose 3 (some .int) :: ((wsX5_lose_r1 ++ wsX5_lose_r2) ++ wsX50)
def wsX5_again_r1 : List Cond := [Cond.methodLink RX5 123 yX5_isOwner, Cond.instanceMethod yX5_isOwner, Cond.selects RX5 yX5_isOwner yX5_isOwner, Cond.initialized RX5, Cond.code yX5_isOwner cX5_isOwner 2 (some .boolean), Cond.fieldLink RX5 7 "BinderParcelsModel" "state" "[I", Cond.methodLink RX5 48 yX5_within, Cond.static yX5_within, Cond.code yX5_within cX5_within 3 (some .boolean), Cond.methodLink RX5 127 yX5_isParcel, Cond.instanceMethod yX5_isParcel, Cond.selects RX5 yX5_isParcel yX5_isParcel, Cond.code yX5_isParcel cX5_isParcel 2 (some .boolean), Cond.methodLink RX5 130 yX5_waits, Cond.instanceMethod yX5_waits, Cond.selects RX5 yX5_waits yX5_waits, Cond.code yX5_waits cX5_waits 3 (some .boolean), Cond.methodLink RX5 52 yX5_part, Cond.instanceMethod yX5_part, Cond.selects RX5 yX5_part yX5_part, Cond.code yX5_part cX5_part 3 (some .int), Cond.methodLink RX5 117 yX5_record, Cond.instanceMethod yX5_record, Cond.selects RX5 yX5_record yX5_record]
def wsX5_again_r2 : List Cond := [Cond.code yX5_record cX5_record 2 none, Cond.fieldLink RX5 40 "BinderParcelsModel" "recorded" "I", Cond.fieldLink RX5 16 "BinderParcelsModel" "history" "[I", Cond.methodLink RX5 44 yX5_moves, Cond.static yX5_moves, Cond.code yX5_moves cX5_moves 5 none, Cond.methodLink RX5 56 yX5_setPart, Cond.instanceMethod yX5_setPart, Cond.selects RX5 yX5_setPart yX5_setPart, Cond.code yX5_setPart cX5_setPart 4 none, Cond.methodLink RX5 137 yX5_bits, Cond.static yX5_bits, Cond.code yX5_bits cX5_bits 3 (some .int)]
def wsX5_again : List Cond := .code yX5_again cX5_again 3 (some .int) :: ((wsX5_again_r1 ++ wsX5_again_r2) ++ wsX50)
def wsX5_leafWith : List Cond := .code yX5_leafWith cX5_leafWith 6 (some .int) :: ([.methodLink RX5 52 yX5_part, .instanceMethod yX5_part, .selects RX5 yX5_part yX5_part, .initialized RX5, .code yX5_part cX5_part 3 (some .int), .fieldLink RX5 7 "BinderParcelsModel" "state" "[I", .methodLink RX5 60 yX5_numberOf, .instanceMethod yX5_numberOf, .selects RX5 yX5_numberOf yX5_numberOf, .code yX5_numberOf cX5_numberOf 3 (some .int), .methodLink RX5 67 yX5_issueOf, .instanceMethod yX5_issueOf, .selects RX5 yX5_issueOf yX5_issueOf, .code yX5_issueOf cX5_issueOf 3 (some .int)] ++ wsX50)
def wsX5_isNumber : List Cond := .code yX5_isNumber cX5_isNumber 1 (some .boolean) :: ([.methodLink RX5 48 yX5_within, .static yX5_within, .initialized RX5, .code yX5_within cX5_within 3 (some .boolean)])
def wsX5_hand_r1 : List Cond := [Cond.methodLink RX5 123 yX5_isOwner, Cond.instanceMethod yX5_isOwner, Cond.selects RX5 yX5_isOwner yX5_isOwner, Cond.initialized RX5, Cond.code yX5_isOwner cX5_isOwner 2 (some .boolean), Cond.fieldLink RX5 7 "BinderParcelsModel" "state" "[I", Cond.methodLink RX5 48 yX5_within, Cond.static yX5_within, Cond.code yX5_within cX5_within 3 (some .boolean), Cond.methodLink RX5 127 yX5_isParcel, Cond.instanceMethod yX5_isParcel, Cond.selects RX5 yX5_isParcel yX5_isParcel, Cond.code yX5_isParcel cX5_isParcel 2 (some .boolean), Cond.methodLink RX5 140 yX5_isNumber, Cond.static yX5_isNumber, Cond.code yX5_isNumber cX5_isNumber 1 (some .boolean), Cond.methodLink RX5 143 yX5_leafWith, Cond.instanceMethod yX5_leafWith, Cond.selects RX5 yX5_leafWith yX5_leafWith, Cond.code yX5_leafWith cX5_leafWith 6 (some .int), Cond.methodLink RX5 52 yX5_part, Cond.instanceMethod yX5_part, Cond.selects RX5 yX5_part yX5_part, Cond.code yX5_part cX5_part 3 (some .int)]
def wsX5_hand_r2 : List Cond := [Cond.methodLink RX5 60 yX5_numberOf, Cond.instanceMethod yX5_numberOf, Cond.selects RX5 yX5_numberOf yX5_numberOf, Cond.code yX5_numberOf cX5_numberOf 3 (some .int), Cond.methodLink RX5 67 yX5_issueOf, Cond.instanceMethod yX5_issueOf, Cond.selects RX5 yX5_issueOf yX5_issueOf, Cond.code yX5_issueOf cX5_issueOf 3 (some .int), Cond.methodLink RX5 117 yX5_record, Cond.instanceMethod yX5_record, Cond.selects RX5 yX5_record yX5_record, Cond.code yX5_record cX5_record 2 none, Cond.fieldLink RX5 40 "BinderParcelsModel" "recorded" "I", Cond.fieldLink RX5 16 "BinderParcelsModel" "history" "[I", Cond.methodLink RX5 44 yX5_moves, Cond.static yX5_moves, Cond.code yX5_moves cX5_moves 5 none, Cond.methodLink RX5 79 yX5_comes, Cond.instanceMethod yX5_comes, Cond.selects RX5 yX5_comes yX5_comes, Cond.code yX5_comes cX5_comes 4 none, Cond.methodLink RX5 56 yX5_setPart, Cond.instanceMethod yX5_setPart, Cond.selects RX5 yX5_setPart yX5_setPart]
def wsX5_hand_r3 : List Cond := [Cond.code yX5_setPart cX5_setPart 4 none, Cond.methodLink RX5 63 yX5_remove, Cond.instanceMethod yX5_remove, Cond.selects RX5 yX5_remove yX5_remove, Cond.code yX5_remove cX5_remove 4 none]
def wsX5_hand : List Cond := .code yX5_hand cX5_hand 6 (some .int) :: ((wsX5_hand_r1 ++ (wsX5_hand_r2 ++ wsX5_hand_r3)) ++ wsX50)
def wsX5_ownersWith : List Cond := .code yX5_ownersWith cX5_ownersWith 5 (some .int) :: ([.fieldLink RX5 7 "BinderParcelsModel" "state" "[I", .methodLink RX5 52 yX5_part, .instanceMethod yX5_part, .selects RX5 yX5_part yX5_part, .initialized RX5, .code yX5_part cX5_part 3 (some .int)] ++ wsX50)
def wsX5_parcel : List Cond := .code yX5_parcel cX5_parcel 4 (some .int) :: ([.fieldLink RX5 7 "BinderParcelsModel" "state" "[I", .methodLink RX5 127 yX5_isParcel, .instanceMethod yX5_isParcel, .selects RX5 yX5_isParcel yX5_isParcel, .initialized RX5, .code yX5_isParcel cX5_isParcel 2 (some .boolean), .methodLink RX5 48 yX5_within, .static yX5_within, .code yX5_within cX5_within 3 (some .boolean), .methodLink RX5 147 yX5_ownersWith, .instanceMethod yX5_ownersWith, .selects RX5 yX5_ownersWith yX5_ownersWith, .code yX5_ownersWith cX5_ownersWith 5 (some .int), .methodLink RX5 52 yX5_part, .instanceMethod yX5_part, .selects RX5 yX5_part yX5_part, .code yX5_part cX5_part 3 (some .int), .methodLink RX5 70 yX5_orderOf, .instanceMethod yX5_orderOf, .selects RX5 yX5_orderOf yX5_orderOf, .code yX5_orderOf cX5_orderOf 3 (some .int)] ++ wsX50)
def wsX5_text_r1 : List Cond := [Cond.fieldLink RX5 37 "BinderParcelsModel" "issues" "[I", Cond.methodLink RX5 140 yX5_isNumber, Cond.static yX5_isNumber, Cond.initialized RX5, Cond.code yX5_isNumber cX5_isNumber 1 (some .boolean), Cond.methodLink RX5 48 yX5_within, Cond.static yX5_within, Cond.code yX5_within cX5_within 3 (some .boolean), Cond.methodLink RX5 86 yX5_findIssues, Cond.instanceMethod yX5_findIssues, Cond.selects RX5 yX5_findIssues yX5_findIssues, Cond.code yX5_findIssues cX5_findIssues 2 none, Cond.methodLink RX5 52 yX5_part, Cond.instanceMethod yX5_part, Cond.selects RX5 yX5_part yX5_part, Cond.code yX5_part cX5_part 3 (some .int), Cond.fieldLink RX5 7 "BinderParcelsModel" "state" "[I", Cond.methodLink RX5 60 yX5_numberOf, Cond.instanceMethod yX5_numberOf, Cond.selects RX5 yX5_numberOf yX5_numberOf, Cond.code yX5_numberOf cX5_numberOf 3 (some .int), Cond.methodLink RX5 67 yX5_issueOf, Cond.instanceMethod yX5_issueOf, Cond.selects RX5 yX5_issueOf yX5_issueOf]
def wsX5_text_r2 : List Cond := [Cond.code yX5_issueOf cX5_issueOf 3 (some .int)]
def wsX5_text : List Cond := .code yX5_text cX5_text 2 (some .int) :: ((wsX5_text_r1 ++ wsX5_text_r2) ++ wsX50)
def wsX5_issueIn : List Cond := .code yX5_issueIn cX5_issueIn 8 (some .int) :: ([.methodLink RX5 52 yX5_part, .instanceMethod yX5_part, .selects RX5 yX5_part yX5_part, .initialized RX5, .code yX5_part cX5_part 3 (some .int), .fieldLink RX5 7 "BinderParcelsModel" "state" "[I", .methodLink RX5 67 yX5_issueOf, .instanceMethod yX5_issueOf, .selects RX5 yX5_issueOf yX5_issueOf, .code yX5_issueOf cX5_issueOf 3 (some .int), .methodLink RX5 60 yX5_numberOf, .instanceMethod yX5_numberOf, .selects RX5 yX5_numberOf yX5_numberOf, .code yX5_numberOf cX5_numberOf 3 (some .int)] ++ wsX50)
def wsX5_leaf_r1 : List Cond := [Cond.fieldLink RX5 31 "BinderParcelsModel" "leaves" "[I", Cond.methodLink RX5 123 yX5_isOwner, Cond.instanceMethod yX5_isOwner, Cond.selects RX5 yX5_isOwner yX5_isOwner, Cond.initialized RX5, Cond.code yX5_isOwner cX5_isOwner 2 (some .boolean), Cond.fieldLink RX5 7 "BinderParcelsModel" "state" "[I", Cond.methodLink RX5 48 yX5_within, Cond.static yX5_within, Cond.code yX5_within cX5_within 3 (some .boolean), Cond.methodLink RX5 140 yX5_isNumber, Cond.static yX5_isNumber, Cond.code yX5_isNumber cX5_isNumber 1 (some .boolean), Cond.methodLink RX5 89 yX5_findLeaves, Cond.instanceMethod yX5_findLeaves, Cond.selects RX5 yX5_findLeaves yX5_findLeaves, Cond.code yX5_findLeaves cX5_findLeaves 4 none, Cond.fieldLink RX5 34 "BinderParcelsModel" "rightOnes" "[I", Cond.fieldLink RX5 37 "BinderParcelsModel" "issues" "[I", Cond.methodLink RX5 86 yX5_findIssues, Cond.instanceMethod yX5_findIssues, Cond.selects RX5 yX5_findIssues yX5_findIssues, Cond.code yX5_findIssues cX5_findIssues 2 none, Cond.methodLink RX5 52 yX5_part]
def wsX5_leaf_r2 : List Cond := [Cond.instanceMethod yX5_part, Cond.selects RX5 yX5_part yX5_part, Cond.code yX5_part cX5_part 3 (some .int), Cond.methodLink RX5 60 yX5_numberOf, Cond.instanceMethod yX5_numberOf, Cond.selects RX5 yX5_numberOf yX5_numberOf, Cond.code yX5_numberOf cX5_numberOf 3 (some .int), Cond.methodLink RX5 67 yX5_issueOf, Cond.instanceMethod yX5_issueOf, Cond.selects RX5 yX5_issueOf yX5_issueOf, Cond.code yX5_issueOf cX5_issueOf 3 (some .int), Cond.methodLink RX5 150 yX5_issueIn, Cond.instanceMethod yX5_issueIn, Cond.selects RX5 yX5_issueIn yX5_issueIn, Cond.code yX5_issueIn cX5_issueIn 8 (some .int), Cond.methodLink RX5 93 yX5_surplusOf, Cond.instanceMethod yX5_surplusOf, Cond.selects RX5 yX5_surplusOf yX5_surplusOf, Cond.code yX5_surplusOf cX5_surplusOf 2 (some .int), Cond.methodLink RX5 97 yX5_oldOf, Cond.instanceMethod yX5_oldOf, Cond.selects RX5 yX5_oldOf yX5_oldOf, Cond.code yX5_oldOf cX5_oldOf 2 (some .int), Cond.methodLink RX5 100 yX5_missingOf]
def wsX5_leaf_r3 : List Cond := [Cond.instanceMethod yX5_missingOf, Cond.selects RX5 yX5_missingOf yX5_missingOf, Cond.code yX5_missingOf cX5_missingOf 2 (some .int)]
def wsX5_leaf : List Cond := .code yX5_leaf cX5_leaf 4 (some .int) :: ((wsX5_leaf_r1 ++ (wsX5_leaf_r2 ++ wsX5_leaf_r3)) ++ wsX50)
def wsX5_of_r1 : List Cond := [Cond.methodLink RX5 123 yX5_isOwner, Cond.instanceMethod yX5_isOwner, Cond.selects RX5 yX5_isOwner yX5_isOwner, Cond.initialized RX5, Cond.code yX5_isOwner cX5_isOwner 2 (some .boolean), Cond.fieldLink RX5 7 "BinderParcelsModel" "state" "[I", Cond.methodLink RX5 48 yX5_within, Cond.static yX5_within, Cond.code yX5_within cX5_within 3 (some .boolean), Cond.methodLink RX5 52 yX5_part, Cond.instanceMethod yX5_part, Cond.selects RX5 yX5_part yX5_part, Cond.code yX5_part cX5_part 3 (some .int), Cond.methodLink RX5 103 yX5_wrong, Cond.instanceMethod yX5_wrong, Cond.selects RX5 yX5_wrong yX5_wrong, Cond.code yX5_wrong cX5_wrong 7 (some .int), Cond.methodLink RX5 89 yX5_findLeaves, Cond.instanceMethod yX5_findLeaves, Cond.selects RX5 yX5_findLeaves yX5_findLeaves, Cond.code yX5_findLeaves cX5_findLeaves 4 none, Cond.fieldLink RX5 31 "BinderParcelsModel" "leaves" "[I", Cond.fieldLink RX5 34 "BinderParcelsModel" "rightOnes" "[I", Cond.fieldLink RX5 37 "BinderParcelsModel" "issues" "[I"]
def wsX5_of_r2 : List Cond := [Cond.methodLink RX5 86 yX5_findIssues, Cond.instanceMethod yX5_findIssues, Cond.selects RX5 yX5_findIssues yX5_findIssues, Cond.code yX5_findIssues cX5_findIssues 2 none, Cond.methodLink RX5 60 yX5_numberOf, Cond.instanceMethod yX5_numberOf, Cond.selects RX5 yX5_numberOf yX5_numberOf, Cond.code yX5_numberOf cX5_numberOf 3 (some .int), Cond.methodLink RX5 67 yX5_issueOf, Cond.instanceMethod yX5_issueOf, Cond.selects RX5 yX5_issueOf yX5_issueOf, Cond.code yX5_issueOf cX5_issueOf 3 (some .int), Cond.methodLink RX5 93 yX5_surplusOf, Cond.instanceMethod yX5_surplusOf, Cond.selects RX5 yX5_surplusOf yX5_surplusOf, Cond.code yX5_surplusOf cX5_surplusOf 2 (some .int), Cond.methodLink RX5 97 yX5_oldOf, Cond.instanceMethod yX5_oldOf, Cond.selects RX5 yX5_oldOf yX5_oldOf, Cond.code yX5_oldOf cX5_oldOf 2 (some .int), Cond.methodLink RX5 100 yX5_missingOf, Cond.instanceMethod yX5_missingOf, Cond.selects RX5 yX5_missingOf yX5_missingOf, Cond.code yX5_missingOf cX5_missingOf 2 (some .int)]
def wsX5_of_r3 : List Cond := [Cond.methodLink RX5 154 yX5_isRight, Cond.instanceMethod yX5_isRight, Cond.selects RX5 yX5_isRight yX5_isRight, Cond.code yX5_isRight cX5_isRight 2 (some .boolean), Cond.methodLink RX5 157 yX5_checkOf, Cond.instanceMethod yX5_checkOf, Cond.selects RX5 yX5_checkOf yX5_checkOf, Cond.code yX5_checkOf cX5_checkOf 4 (some .int)]
def wsX5_of : List Cond := .code yX5_of cX5_of 3 (some .int) :: ((wsX5_of_r1 ++ (wsX5_of_r2 ++ wsX5_of_r3)) ++ wsX50)
def wsX5_rightOwners_r1 : List Cond := [Cond.fieldLink RX5 7 "BinderParcelsModel" "state" "[I", Cond.methodLink RX5 154 yX5_isRight, Cond.instanceMethod yX5_isRight, Cond.selects RX5 yX5_isRight yX5_isRight, Cond.initialized RX5, Cond.code yX5_isRight cX5_isRight 2 (some .boolean), Cond.methodLink RX5 103 yX5_wrong, Cond.instanceMethod yX5_wrong, Cond.selects RX5 yX5_wrong yX5_wrong, Cond.code yX5_wrong cX5_wrong 7 (some .int), Cond.methodLink RX5 89 yX5_findLeaves, Cond.instanceMethod yX5_findLeaves, Cond.selects RX5 yX5_findLeaves yX5_findLeaves, Cond.code yX5_findLeaves cX5_findLeaves 4 none, Cond.fieldLink RX5 31 "BinderParcelsModel" "leaves" "[I", Cond.fieldLink RX5 34 "BinderParcelsModel" "rightOnes" "[I", Cond.fieldLink RX5 37 "BinderParcelsModel" "issues" "[I", Cond.methodLink RX5 86 yX5_findIssues, Cond.instanceMethod yX5_findIssues, Cond.selects RX5 yX5_findIssues yX5_findIssues, Cond.code yX5_findIssues cX5_findIssues 2 none, Cond.methodLink RX5 52 yX5_part, Cond.instanceMethod yX5_part, Cond.selects RX5 yX5_part yX5_part]
def wsX5_rightOwners_r2 : List Cond := [Cond.code yX5_part cX5_part 3 (some .int), Cond.methodLink RX5 60 yX5_numberOf, Cond.instanceMethod yX5_numberOf, Cond.selects RX5 yX5_numberOf yX5_numberOf, Cond.code yX5_numberOf cX5_numberOf 3 (some .int), Cond.methodLink RX5 67 yX5_issueOf, Cond.instanceMethod yX5_issueOf, Cond.selects RX5 yX5_issueOf yX5_issueOf, Cond.code yX5_issueOf cX5_issueOf 3 (some .int), Cond.methodLink RX5 93 yX5_surplusOf, Cond.instanceMethod yX5_surplusOf, Cond.selects RX5 yX5_surplusOf yX5_surplusOf, Cond.code yX5_surplusOf cX5_surplusOf 2 (some .int), Cond.methodLink RX5 97 yX5_oldOf, Cond.instanceMethod yX5_oldOf, Cond.selects RX5 yX5_oldOf yX5_oldOf, Cond.code yX5_oldOf cX5_oldOf 2 (some .int), Cond.methodLink RX5 100 yX5_missingOf, Cond.instanceMethod yX5_missingOf, Cond.selects RX5 yX5_missingOf yX5_missingOf, Cond.code yX5_missingOf cX5_missingOf 2 (some .int)]
def wsX5_rightOwners : List Cond := .code yX5_rightOwners cX5_rightOwners 3 (some .int) :: ((wsX5_rightOwners_r1 ++ wsX5_rightOwners_r2) ++ wsX50)
def wsX5_inText : List Cond := .code yX5_inText cX5_inText 4 (some .int) :: ([.methodLink RX5 52 yX5_part, .instanceMethod yX5_part, .selects RX5 yX5_part yX5_part, .initialized RX5, .code yX5_part cX5_part 3 (some .int), .fieldLink RX5 7 "BinderParcelsModel" "state" "[I", .methodLink RX5 67 yX5_issueOf, .instanceMethod yX5_issueOf, .selects RX5 yX5_issueOf yX5_issueOf, .code yX5_issueOf cX5_issueOf 3 (some .int)] ++ wsX50)
def wsX5_mostInText : List Cond := .code yX5_mostInText cX5_mostInText 4 (some .int) :: ([.fieldLink RX5 7 "BinderParcelsModel" "state" "[I", .methodLink RX5 160 yX5_inText, .instanceMethod yX5_inText, .selects RX5 yX5_inText yX5_inText, .initialized RX5, .code yX5_inText cX5_inText 4 (some .int), .methodLink RX5 52 yX5_part, .instanceMethod yX5_part, .selects RX5 yX5_part yX5_part, .code yX5_part cX5_part 3 (some .int), .methodLink RX5 67 yX5_issueOf, .instanceMethod yX5_issueOf, .selects RX5 yX5_issueOf yX5_issueOf, .code yX5_issueOf cX5_issueOf 3 (some .int)] ++ wsX50)
def wsX5_count_r1 : List Cond := [Cond.fieldLink RX5 7 "BinderParcelsModel" "state" "[I", Cond.fieldLink RX5 120 "BinderParcelsModel" "padLength" "I", Cond.fieldLink RX5 40 "BinderParcelsModel" "recorded" "I", Cond.methodLink RX5 52 yX5_part, Cond.instanceMethod yX5_part, Cond.selects RX5 yX5_part yX5_part, Cond.initialized RX5, Cond.code yX5_part cX5_part 3 (some .int), Cond.methodLink RX5 157 yX5_checkOf, Cond.instanceMethod yX5_checkOf, Cond.selects RX5 yX5_checkOf yX5_checkOf, Cond.code yX5_checkOf cX5_checkOf 4 (some .int), Cond.methodLink RX5 60 yX5_numberOf, Cond.instanceMethod yX5_numberOf, Cond.selects RX5 yX5_numberOf yX5_numberOf, Cond.code yX5_numberOf cX5_numberOf 3 (some .int), Cond.methodLink RX5 67 yX5_issueOf, Cond.instanceMethod yX5_issueOf, Cond.selects RX5 yX5_issueOf yX5_issueOf, Cond.code yX5_issueOf cX5_issueOf 3 (some .int), Cond.methodLink RX5 163 yX5_rightOwners, Cond.instanceMethod yX5_rightOwners, Cond.selects RX5 yX5_rightOwners yX5_rightOwners, Cond.code yX5_rightOwners cX5_rightOwners 3 (some .int)]
def wsX5_count_r2 : List Cond := [Cond.methodLink RX5 154 yX5_isRight, Cond.instanceMethod yX5_isRight, Cond.selects RX5 yX5_isRight yX5_isRight, Cond.code yX5_isRight cX5_isRight 2 (some .boolean), Cond.methodLink RX5 103 yX5_wrong, Cond.instanceMethod yX5_wrong, Cond.selects RX5 yX5_wrong yX5_wrong, Cond.code yX5_wrong cX5_wrong 7 (some .int), Cond.methodLink RX5 89 yX5_findLeaves, Cond.instanceMethod yX5_findLeaves, Cond.selects RX5 yX5_findLeaves yX5_findLeaves, Cond.code yX5_findLeaves cX5_findLeaves 4 none, Cond.fieldLink RX5 31 "BinderParcelsModel" "leaves" "[I", Cond.fieldLink RX5 34 "BinderParcelsModel" "rightOnes" "[I", Cond.fieldLink RX5 37 "BinderParcelsModel" "issues" "[I", Cond.methodLink RX5 86 yX5_findIssues, Cond.instanceMethod yX5_findIssues, Cond.selects RX5 yX5_findIssues yX5_findIssues, Cond.code yX5_findIssues cX5_findIssues 2 none, Cond.methodLink RX5 93 yX5_surplusOf, Cond.instanceMethod yX5_surplusOf, Cond.selects RX5 yX5_surplusOf yX5_surplusOf, Cond.code yX5_surplusOf cX5_surplusOf 2 (some .int), Cond.methodLink RX5 97 yX5_oldOf]
def wsX5_count_r3 : List Cond := [Cond.instanceMethod yX5_oldOf, Cond.selects RX5 yX5_oldOf yX5_oldOf, Cond.code yX5_oldOf cX5_oldOf 2 (some .int), Cond.methodLink RX5 100 yX5_missingOf, Cond.instanceMethod yX5_missingOf, Cond.selects RX5 yX5_missingOf yX5_missingOf, Cond.code yX5_missingOf cX5_missingOf 2 (some .int), Cond.methodLink RX5 160 yX5_inText, Cond.instanceMethod yX5_inText, Cond.selects RX5 yX5_inText yX5_inText, Cond.code yX5_inText cX5_inText 4 (some .int), Cond.methodLink RX5 166 yX5_mostInText, Cond.instanceMethod yX5_mostInText, Cond.selects RX5 yX5_mostInText yX5_mostInText, Cond.code yX5_mostInText cX5_mostInText 4 (some .int)]
def wsX5_count : List Cond := .code yX5_count cX5_count 2 (some .int) :: ((wsX5_count_r1 ++ (wsX5_count_r2 ++ wsX5_count_r3)) ++ wsX50)
def wsX5_wrongWith_r1 : List Cond := [Cond.fieldLink RX5 7 "BinderParcelsModel" "state" "[I", Cond.fieldLink RX5 13 "BinderParcelsModel" "kept" "[I", Cond.methodLink RX5 44 yX5_moves, Cond.static yX5_moves, Cond.initialized RX5, Cond.code yX5_moves cX5_moves 5 none, Cond.methodLink RX5 134 yX5_doSet, Cond.instanceMethod yX5_doSet, Cond.selects RX5 yX5_doSet yX5_doSet, Cond.code yX5_doSet cX5_doSet 4 none, Cond.methodLink RX5 82 yX5_doParcel, Cond.instanceMethod yX5_doParcel, Cond.selects RX5 yX5_doParcel yX5_doParcel, Cond.code yX5_doParcel cX5_doParcel 8 none, Cond.methodLink RX5 70 yX5_orderOf, Cond.instanceMethod yX5_orderOf, Cond.selects RX5 yX5_orderOf yX5_orderOf, Cond.code yX5_orderOf cX5_orderOf 3 (some .int), Cond.methodLink RX5 73 yX5_earliest, Cond.instanceMethod yX5_earliest, Cond.selects RX5 yX5_earliest yX5_earliest, Cond.code yX5_earliest cX5_earliest 5 (some .int), Cond.methodLink RX5 52 yX5_part, Cond.instanceMethod yX5_part]
def wsX5_wrongWith_r2 : List Cond := [Cond.selects RX5 yX5_part yX5_part, Cond.code yX5_part cX5_part 3 (some .int), Cond.methodLink RX5 60 yX5_numberOf, Cond.instanceMethod yX5_numberOf, Cond.selects RX5 yX5_numberOf yX5_numberOf, Cond.code yX5_numberOf cX5_numberOf 3 (some .int), Cond.methodLink RX5 67 yX5_issueOf, Cond.instanceMethod yX5_issueOf, Cond.selects RX5 yX5_issueOf yX5_issueOf, Cond.code yX5_issueOf cX5_issueOf 3 (some .int), Cond.methodLink RX5 76 yX5_removeAll, Cond.instanceMethod yX5_removeAll, Cond.selects RX5 yX5_removeAll yX5_removeAll, Cond.code yX5_removeAll cX5_removeAll 4 none, Cond.methodLink RX5 63 yX5_remove, Cond.instanceMethod yX5_remove, Cond.selects RX5 yX5_remove yX5_remove, Cond.code yX5_remove cX5_remove 4 none, Cond.methodLink RX5 56 yX5_setPart, Cond.instanceMethod yX5_setPart, Cond.selects RX5 yX5_setPart yX5_setPart, Cond.code yX5_setPart cX5_setPart 4 none, Cond.methodLink RX5 79 yX5_comes, Cond.instanceMethod yX5_comes]
def wsX5_wrongWith_r3 : List Cond := [Cond.selects RX5 yX5_comes yX5_comes, Cond.code yX5_comes cX5_comes 4 none, Cond.methodLink RX5 103 yX5_wrong, Cond.instanceMethod yX5_wrong, Cond.selects RX5 yX5_wrong yX5_wrong, Cond.code yX5_wrong cX5_wrong 7 (some .int), Cond.methodLink RX5 89 yX5_findLeaves, Cond.instanceMethod yX5_findLeaves, Cond.selects RX5 yX5_findLeaves yX5_findLeaves, Cond.code yX5_findLeaves cX5_findLeaves 4 none, Cond.fieldLink RX5 31 "BinderParcelsModel" "leaves" "[I", Cond.fieldLink RX5 34 "BinderParcelsModel" "rightOnes" "[I", Cond.fieldLink RX5 37 "BinderParcelsModel" "issues" "[I", Cond.methodLink RX5 86 yX5_findIssues, Cond.instanceMethod yX5_findIssues, Cond.selects RX5 yX5_findIssues yX5_findIssues, Cond.code yX5_findIssues cX5_findIssues 2 none, Cond.methodLink RX5 93 yX5_surplusOf, Cond.instanceMethod yX5_surplusOf, Cond.selects RX5 yX5_surplusOf yX5_surplusOf, Cond.code yX5_surplusOf cX5_surplusOf 2 (some .int), Cond.methodLink RX5 97 yX5_oldOf, Cond.instanceMethod yX5_oldOf, Cond.selects RX5 yX5_oldOf yX5_oldOf]
def wsX5_wrongWith_r4 : List Cond := [Cond.code yX5_oldOf cX5_oldOf 2 (some .int), Cond.methodLink RX5 100 yX5_missingOf, Cond.instanceMethod yX5_missingOf, Cond.selects RX5 yX5_missingOf yX5_missingOf, Cond.code yX5_missingOf cX5_missingOf 2 (some .int)]
def wsX5_wrongWith : List Cond := .code yX5_wrongWith cX5_wrongWith 4 (some .int) :: ((wsX5_wrongWith_r1 ++ (wsX5_wrongWith_r2 ++ (wsX5_wrongWith_r3 ++ wsX5_wrongWith_r4))) ++ wsX50)
def wsX5_ifDone_r1 : List Cond := [Cond.methodLink RX5 123 yX5_isOwner, Cond.instanceMethod yX5_isOwner, Cond.selects RX5 yX5_isOwner yX5_isOwner, Cond.initialized RX5, Cond.code yX5_isOwner cX5_isOwner 2 (some .boolean), Cond.fieldLink RX5 7 "BinderParcelsModel" "state" "[I", Cond.methodLink RX5 48 yX5_within, Cond.static yX5_within, Cond.code yX5_within cX5_within 3 (some .boolean), Cond.methodLink RX5 127 yX5_isParcel, Cond.instanceMethod yX5_isParcel, Cond.selects RX5 yX5_isParcel yX5_isParcel, Cond.code yX5_isParcel cX5_isParcel 2 (some .boolean), Cond.methodLink RX5 169 yX5_wrongWith, Cond.instanceMethod yX5_wrongWith, Cond.selects RX5 yX5_wrongWith yX5_wrongWith, Cond.code yX5_wrongWith cX5_wrongWith 4 (some .int), Cond.fieldLink RX5 13 "BinderParcelsModel" "kept" "[I", Cond.methodLink RX5 44 yX5_moves, Cond.static yX5_moves, Cond.code yX5_moves cX5_moves 5 none, Cond.methodLink RX5 134 yX5_doSet, Cond.instanceMethod yX5_doSet, Cond.selects RX5 yX5_doSet yX5_doSet]
def wsX5_ifDone_r2 : List Cond := [Cond.code yX5_doSet cX5_doSet 4 none, Cond.methodLink RX5 82 yX5_doParcel, Cond.instanceMethod yX5_doParcel, Cond.selects RX5 yX5_doParcel yX5_doParcel, Cond.code yX5_doParcel cX5_doParcel 8 none, Cond.methodLink RX5 70 yX5_orderOf, Cond.instanceMethod yX5_orderOf, Cond.selects RX5 yX5_orderOf yX5_orderOf, Cond.code yX5_orderOf cX5_orderOf 3 (some .int), Cond.methodLink RX5 73 yX5_earliest, Cond.instanceMethod yX5_earliest, Cond.selects RX5 yX5_earliest yX5_earliest, Cond.code yX5_earliest cX5_earliest 5 (some .int), Cond.methodLink RX5 52 yX5_part, Cond.instanceMethod yX5_part, Cond.selects RX5 yX5_part yX5_part, Cond.code yX5_part cX5_part 3 (some .int), Cond.methodLink RX5 60 yX5_numberOf, Cond.instanceMethod yX5_numberOf, Cond.selects RX5 yX5_numberOf yX5_numberOf, Cond.code yX5_numberOf cX5_numberOf 3 (some .int), Cond.methodLink RX5 67 yX5_issueOf, Cond.instanceMethod yX5_issueOf, Cond.selects RX5 yX5_issueOf yX5_issueOf]
def wsX5_ifDone_r3 : List Cond := [Cond.code yX5_issueOf cX5_issueOf 3 (some .int), Cond.methodLink RX5 76 yX5_removeAll, Cond.instanceMethod yX5_removeAll, Cond.selects RX5 yX5_removeAll yX5_removeAll, Cond.code yX5_removeAll cX5_removeAll 4 none, Cond.methodLink RX5 63 yX5_remove, Cond.instanceMethod yX5_remove, Cond.selects RX5 yX5_remove yX5_remove, Cond.code yX5_remove cX5_remove 4 none, Cond.methodLink RX5 56 yX5_setPart, Cond.instanceMethod yX5_setPart, Cond.selects RX5 yX5_setPart yX5_setPart, Cond.code yX5_setPart cX5_setPart 4 none, Cond.methodLink RX5 79 yX5_comes, Cond.instanceMethod yX5_comes, Cond.selects RX5 yX5_comes yX5_comes, Cond.code yX5_comes cX5_comes 4 none, Cond.methodLink RX5 103 yX5_wrong, Cond.instanceMethod yX5_wrong, Cond.selects RX5 yX5_wrong yX5_wrong, Cond.code yX5_wrong cX5_wrong 7 (some .int), Cond.methodLink RX5 89 yX5_findLeaves, Cond.instanceMethod yX5_findLeaves, Cond.selects RX5 yX5_findLeaves yX5_findLeaves]
def wsX5_ifDone_r4 : List Cond := [Cond.code yX5_findLeaves cX5_findLeaves 4 none, Cond.fieldLink RX5 31 "BinderParcelsModel" "leaves" "[I", Cond.fieldLink RX5 34 "BinderParcelsModel" "rightOnes" "[I", Cond.fieldLink RX5 37 "BinderParcelsModel" "issues" "[I", Cond.methodLink RX5 86 yX5_findIssues, Cond.instanceMethod yX5_findIssues, Cond.selects RX5 yX5_findIssues yX5_findIssues, Cond.code yX5_findIssues cX5_findIssues 2 none, Cond.methodLink RX5 93 yX5_surplusOf, Cond.instanceMethod yX5_surplusOf, Cond.selects RX5 yX5_surplusOf yX5_surplusOf, Cond.code yX5_surplusOf cX5_surplusOf 2 (some .int), Cond.methodLink RX5 97 yX5_oldOf, Cond.instanceMethod yX5_oldOf, Cond.selects RX5 yX5_oldOf yX5_oldOf, Cond.code yX5_oldOf cX5_oldOf 2 (some .int), Cond.methodLink RX5 100 yX5_missingOf, Cond.instanceMethod yX5_missingOf, Cond.selects RX5 yX5_missingOf yX5_missingOf, Cond.code yX5_missingOf cX5_missingOf 2 (some .int)]
def wsX5_ifDone : List Cond := .code yX5_ifDone cX5_ifDone 3 (some .int) :: ((wsX5_ifDone_r1 ++ (wsX5_ifDone_r2 ++ (wsX5_ifDone_r3 ++ wsX5_ifDone_r4))) ++ wsX50)
def wsX5_ifAllDone_r1 : List Cond := [Cond.methodLink RX5 123 yX5_isOwner, Cond.instanceMethod yX5_isOwner, Cond.selects RX5 yX5_isOwner yX5_isOwner, Cond.initialized RX5, Cond.code yX5_isOwner cX5_isOwner 2 (some .boolean), Cond.fieldLink RX5 7 "BinderParcelsModel" "state" "[I", Cond.methodLink RX5 48 yX5_within, Cond.static yX5_within, Cond.code yX5_within cX5_within 3 (some .boolean), Cond.methodLink RX5 52 yX5_part, Cond.instanceMethod yX5_part, Cond.selects RX5 yX5_part yX5_part, Cond.code yX5_part cX5_part 3 (some .int), Cond.methodLink RX5 169 yX5_wrongWith, Cond.instanceMethod yX5_wrongWith, Cond.selects RX5 yX5_wrongWith yX5_wrongWith, Cond.code yX5_wrongWith cX5_wrongWith 4 (some .int), Cond.fieldLink RX5 13 "BinderParcelsModel" "kept" "[I", Cond.methodLink RX5 44 yX5_moves, Cond.static yX5_moves, Cond.code yX5_moves cX5_moves 5 none, Cond.methodLink RX5 134 yX5_doSet, Cond.instanceMethod yX5_doSet, Cond.selects RX5 yX5_doSet yX5_doSet]
def wsX5_ifAllDone_r2 : List Cond := [Cond.code yX5_doSet cX5_doSet 4 none, Cond.methodLink RX5 82 yX5_doParcel, Cond.instanceMethod yX5_doParcel, Cond.selects RX5 yX5_doParcel yX5_doParcel, Cond.code yX5_doParcel cX5_doParcel 8 none, Cond.methodLink RX5 70 yX5_orderOf, Cond.instanceMethod yX5_orderOf, Cond.selects RX5 yX5_orderOf yX5_orderOf, Cond.code yX5_orderOf cX5_orderOf 3 (some .int), Cond.methodLink RX5 73 yX5_earliest, Cond.instanceMethod yX5_earliest, Cond.selects RX5 yX5_earliest yX5_earliest, Cond.code yX5_earliest cX5_earliest 5 (some .int), Cond.methodLink RX5 60 yX5_numberOf, Cond.instanceMethod yX5_numberOf, Cond.selects RX5 yX5_numberOf yX5_numberOf, Cond.code yX5_numberOf cX5_numberOf 3 (some .int), Cond.methodLink RX5 67 yX5_issueOf, Cond.instanceMethod yX5_issueOf, Cond.selects RX5 yX5_issueOf yX5_issueOf, Cond.code yX5_issueOf cX5_issueOf 3 (some .int), Cond.methodLink RX5 76 yX5_removeAll, Cond.instanceMethod yX5_removeAll, Cond.selects RX5 yX5_removeAll yX5_removeAll]
def wsX5_ifAllDone_r3 : List Cond := [Cond.code yX5_removeAll cX5_removeAll 4 none, Cond.methodLink RX5 63 yX5_remove, Cond.instanceMethod yX5_remove, Cond.selects RX5 yX5_remove yX5_remove, Cond.code yX5_remove cX5_remove 4 none, Cond.methodLink RX5 56 yX5_setPart, Cond.instanceMethod yX5_setPart, Cond.selects RX5 yX5_setPart yX5_setPart, Cond.code yX5_setPart cX5_setPart 4 none, Cond.methodLink RX5 79 yX5_comes, Cond.instanceMethod yX5_comes, Cond.selects RX5 yX5_comes yX5_comes, Cond.code yX5_comes cX5_comes 4 none, Cond.methodLink RX5 103 yX5_wrong, Cond.instanceMethod yX5_wrong, Cond.selects RX5 yX5_wrong yX5_wrong, Cond.code yX5_wrong cX5_wrong 7 (some .int), Cond.methodLink RX5 89 yX5_findLeaves, Cond.instanceMethod yX5_findLeaves, Cond.selects RX5 yX5_findLeaves yX5_findLeaves, Cond.code yX5_findLeaves cX5_findLeaves 4 none, Cond.fieldLink RX5 31 "BinderParcelsModel" "leaves" "[I", Cond.fieldLink RX5 34 "BinderParcelsModel" "rightOnes" "[I", Cond.fieldLink RX5 37 "BinderParcelsModel" "issues" "[I"]
def wsX5_ifAllDone_r4 : List Cond := [Cond.methodLink RX5 86 yX5_findIssues, Cond.instanceMethod yX5_findIssues, Cond.selects RX5 yX5_findIssues yX5_findIssues, Cond.code yX5_findIssues cX5_findIssues 2 none, Cond.methodLink RX5 93 yX5_surplusOf, Cond.instanceMethod yX5_surplusOf, Cond.selects RX5 yX5_surplusOf yX5_surplusOf, Cond.code yX5_surplusOf cX5_surplusOf 2 (some .int), Cond.methodLink RX5 97 yX5_oldOf, Cond.instanceMethod yX5_oldOf, Cond.selects RX5 yX5_oldOf yX5_oldOf, Cond.code yX5_oldOf cX5_oldOf 2 (some .int), Cond.methodLink RX5 100 yX5_missingOf, Cond.instanceMethod yX5_missingOf, Cond.selects RX5 yX5_missingOf yX5_missingOf, Cond.code yX5_missingOf cX5_missingOf 2 (some .int)]
def wsX5_ifAllDone : List Cond := .code yX5_ifAllDone cX5_ifAllDone 2 (some .int) :: ((wsX5_ifAllDone_r1 ++ (wsX5_ifAllDone_r2 ++ (wsX5_ifAllDone_r3 ++ wsX5_ifAllDone_r4))) ++ wsX50)
def wsX5_mendingOf_r1 : List Cond := [Cond.fieldLink RX5 7 "BinderParcelsModel" "state" "[I", Cond.methodLink RX5 137 yX5_bits, Cond.static yX5_bits, Cond.initialized RX5, Cond.code yX5_bits cX5_bits 3 (some .int), Cond.methodLink RX5 169 yX5_wrongWith, Cond.instanceMethod yX5_wrongWith, Cond.selects RX5 yX5_wrongWith yX5_wrongWith, Cond.code yX5_wrongWith cX5_wrongWith 4 (some .int), Cond.fieldLink RX5 13 "BinderParcelsModel" "kept" "[I", Cond.methodLink RX5 44 yX5_moves, Cond.static yX5_moves, Cond.code yX5_moves cX5_moves 5 none, Cond.methodLink RX5 134 yX5_doSet, Cond.instanceMethod yX5_doSet, Cond.selects RX5 yX5_doSet yX5_doSet, Cond.code yX5_doSet cX5_doSet 4 none, Cond.methodLink RX5 82 yX5_doParcel, Cond.instanceMethod yX5_doParcel, Cond.selects RX5 yX5_doParcel yX5_doParcel, Cond.code yX5_doParcel cX5_doParcel 8 none, Cond.methodLink RX5 70 yX5_orderOf, Cond.instanceMethod yX5_orderOf, Cond.selects RX5 yX5_orderOf yX5_orderOf]
def wsX5_mendingOf_r2 : List Cond := [Cond.code yX5_orderOf cX5_orderOf 3 (some .int), Cond.methodLink RX5 73 yX5_earliest, Cond.instanceMethod yX5_earliest, Cond.selects RX5 yX5_earliest yX5_earliest, Cond.code yX5_earliest cX5_earliest 5 (some .int), Cond.methodLink RX5 52 yX5_part, Cond.instanceMethod yX5_part, Cond.selects RX5 yX5_part yX5_part, Cond.code yX5_part cX5_part 3 (some .int), Cond.methodLink RX5 60 yX5_numberOf, Cond.instanceMethod yX5_numberOf, Cond.selects RX5 yX5_numberOf yX5_numberOf, Cond.code yX5_numberOf cX5_numberOf 3 (some .int), Cond.methodLink RX5 67 yX5_issueOf, Cond.instanceMethod yX5_issueOf, Cond.selects RX5 yX5_issueOf yX5_issueOf, Cond.code yX5_issueOf cX5_issueOf 3 (some .int), Cond.methodLink RX5 76 yX5_removeAll, Cond.instanceMethod yX5_removeAll, Cond.selects RX5 yX5_removeAll yX5_removeAll, Cond.code yX5_removeAll cX5_removeAll 4 none, Cond.methodLink RX5 63 yX5_remove, Cond.instanceMethod yX5_remove, Cond.selects RX5 yX5_remove yX5_remove]
def wsX5_mendingOf_r3 : List Cond := [Cond.code yX5_remove cX5_remove 4 none, Cond.methodLink RX5 56 yX5_setPart, Cond.instanceMethod yX5_setPart, Cond.selects RX5 yX5_setPart yX5_setPart, Cond.code yX5_setPart cX5_setPart 4 none, Cond.methodLink RX5 79 yX5_comes, Cond.instanceMethod yX5_comes, Cond.selects RX5 yX5_comes yX5_comes, Cond.code yX5_comes cX5_comes 4 none, Cond.methodLink RX5 103 yX5_wrong, Cond.instanceMethod yX5_wrong, Cond.selects RX5 yX5_wrong yX5_wrong, Cond.code yX5_wrong cX5_wrong 7 (some .int), Cond.methodLink RX5 89 yX5_findLeaves, Cond.instanceMethod yX5_findLeaves, Cond.selects RX5 yX5_findLeaves yX5_findLeaves, Cond.code yX5_findLeaves cX5_findLeaves 4 none, Cond.fieldLink RX5 31 "BinderParcelsModel" "leaves" "[I", Cond.fieldLink RX5 34 "BinderParcelsModel" "rightOnes" "[I", Cond.fieldLink RX5 37 "BinderParcelsModel" "issues" "[I", Cond.methodLink RX5 86 yX5_findIssues, Cond.instanceMethod yX5_findIssues, Cond.selects RX5 yX5_findIssues yX5_findIssues, Cond.code yX5_findIssues cX5_findIssues 2 none]
def wsX5_mendingOf_r4 : List Cond := [Cond.methodLink RX5 93 yX5_surplusOf, Cond.instanceMethod yX5_surplusOf, Cond.selects RX5 yX5_surplusOf yX5_surplusOf, Cond.code yX5_surplusOf cX5_surplusOf 2 (some .int), Cond.methodLink RX5 97 yX5_oldOf, Cond.instanceMethod yX5_oldOf, Cond.selects RX5 yX5_oldOf yX5_oldOf, Cond.code yX5_oldOf cX5_oldOf 2 (some .int), Cond.methodLink RX5 100 yX5_missingOf, Cond.instanceMethod yX5_missingOf, Cond.selects RX5 yX5_missingOf yX5_missingOf, Cond.code yX5_missingOf cX5_missingOf 2 (some .int)]
def wsX5_mendingOf : List Cond := .code yX5_mendingOf cX5_mendingOf 4 (some .int) :: ((wsX5_mendingOf_r1 ++ (wsX5_mendingOf_r2 ++ (wsX5_mendingOf_r3 ++ wsX5_mendingOf_r4))) ++ wsX50)
def wsX5_mending_r1 : List Cond := [Cond.methodLink RX5 123 yX5_isOwner, Cond.instanceMethod yX5_isOwner, Cond.selects RX5 yX5_isOwner yX5_isOwner, Cond.initialized RX5, Cond.code yX5_isOwner cX5_isOwner 2 (some .boolean), Cond.fieldLink RX5 7 "BinderParcelsModel" "state" "[I", Cond.methodLink RX5 48 yX5_within, Cond.static yX5_within, Cond.code yX5_within cX5_within 3 (some .boolean), Cond.methodLink RX5 172 yX5_mendingOf, Cond.instanceMethod yX5_mendingOf, Cond.selects RX5 yX5_mendingOf yX5_mendingOf, Cond.code yX5_mendingOf cX5_mendingOf 4 (some .int), Cond.methodLink RX5 137 yX5_bits, Cond.static yX5_bits, Cond.code yX5_bits cX5_bits 3 (some .int), Cond.methodLink RX5 169 yX5_wrongWith, Cond.instanceMethod yX5_wrongWith, Cond.selects RX5 yX5_wrongWith yX5_wrongWith, Cond.code yX5_wrongWith cX5_wrongWith 4 (some .int), Cond.fieldLink RX5 13 "BinderParcelsModel" "kept" "[I", Cond.methodLink RX5 44 yX5_moves, Cond.static yX5_moves, Cond.code yX5_moves cX5_moves 5 none]
def wsX5_mending_r2 : List Cond := [Cond.methodLink RX5 134 yX5_doSet, Cond.instanceMethod yX5_doSet, Cond.selects RX5 yX5_doSet yX5_doSet, Cond.code yX5_doSet cX5_doSet 4 none, Cond.methodLink RX5 82 yX5_doParcel, Cond.instanceMethod yX5_doParcel, Cond.selects RX5 yX5_doParcel yX5_doParcel, Cond.code yX5_doParcel cX5_doParcel 8 none, Cond.methodLink RX5 70 yX5_orderOf, Cond.instanceMethod yX5_orderOf, Cond.selects RX5 yX5_orderOf yX5_orderOf, Cond.code yX5_orderOf cX5_orderOf 3 (some .int), Cond.methodLink RX5 73 yX5_earliest, Cond.instanceMethod yX5_earliest, Cond.selects RX5 yX5_earliest yX5_earliest, Cond.code yX5_earliest cX5_earliest 5 (some .int), Cond.methodLink RX5 52 yX5_part, Cond.instanceMethod yX5_part, Cond.selects RX5 yX5_part yX5_part, Cond.code yX5_part cX5_part 3 (some .int), Cond.methodLink RX5 60 yX5_numberOf, Cond.instanceMethod yX5_numberOf, Cond.selects RX5 yX5_numberOf yX5_numberOf, Cond.code yX5_numberOf cX5_numberOf 3 (some .int)]
def wsX5_mending_r3 : List Cond := [Cond.methodLink RX5 67 yX5_issueOf, Cond.instanceMethod yX5_issueOf, Cond.selects RX5 yX5_issueOf yX5_issueOf, Cond.code yX5_issueOf cX5_issueOf 3 (some .int), Cond.methodLink RX5 76 yX5_removeAll, Cond.instanceMethod yX5_removeAll, Cond.selects RX5 yX5_removeAll yX5_removeAll, Cond.code yX5_removeAll cX5_removeAll 4 none, Cond.methodLink RX5 63 yX5_remove, Cond.instanceMethod yX5_remove, Cond.selects RX5 yX5_remove yX5_remove, Cond.code yX5_remove cX5_remove 4 none, Cond.methodLink RX5 56 yX5_setPart, Cond.instanceMethod yX5_setPart, Cond.selects RX5 yX5_setPart yX5_setPart, Cond.code yX5_setPart cX5_setPart 4 none, Cond.methodLink RX5 79 yX5_comes, Cond.instanceMethod yX5_comes, Cond.selects RX5 yX5_comes yX5_comes, Cond.code yX5_comes cX5_comes 4 none, Cond.methodLink RX5 103 yX5_wrong, Cond.instanceMethod yX5_wrong, Cond.selects RX5 yX5_wrong yX5_wrong, Cond.code yX5_wrong cX5_wrong 7 (some .int)]
def wsX5_mending_r4 : List Cond := [Cond.methodLink RX5 89 yX5_findLeaves, Cond.instanceMethod yX5_findLeaves, Cond.selects RX5 yX5_findLeaves yX5_findLeaves, Cond.code yX5_findLeaves cX5_findLeaves 4 none, Cond.fieldLink RX5 31 "BinderParcelsModel" "leaves" "[I", Cond.fieldLink RX5 34 "BinderParcelsModel" "rightOnes" "[I", Cond.fieldLink RX5 37 "BinderParcelsModel" "issues" "[I", Cond.methodLink RX5 86 yX5_findIssues, Cond.instanceMethod yX5_findIssues, Cond.selects RX5 yX5_findIssues yX5_findIssues, Cond.code yX5_findIssues cX5_findIssues 2 none, Cond.methodLink RX5 93 yX5_surplusOf, Cond.instanceMethod yX5_surplusOf, Cond.selects RX5 yX5_surplusOf yX5_surplusOf, Cond.code yX5_surplusOf cX5_surplusOf 2 (some .int), Cond.methodLink RX5 97 yX5_oldOf, Cond.instanceMethod yX5_oldOf, Cond.selects RX5 yX5_oldOf yX5_oldOf, Cond.code yX5_oldOf cX5_oldOf 2 (some .int), Cond.methodLink RX5 100 yX5_missingOf, Cond.instanceMethod yX5_missingOf, Cond.selects RX5 yX5_missingOf yX5_missingOf, Cond.code yX5_missingOf cX5_missingOf 2 (some .int)]
def wsX5_mending : List Cond := .code yX5_mending cX5_mending 4 (some .int) :: ((wsX5_mending_r1 ++ (wsX5_mending_r2 ++ (wsX5_mending_r3 ++ wsX5_mending_r4))) ++ wsX50)
def wsX5_rightFrom_r1 : List Cond := [Cond.fieldLink RX5 7 "BinderParcelsModel" "state" "[I", Cond.methodLink RX5 123 yX5_isOwner, Cond.instanceMethod yX5_isOwner, Cond.selects RX5 yX5_isOwner yX5_isOwner, Cond.initialized RX5, Cond.code yX5_isOwner cX5_isOwner 2 (some .boolean), Cond.methodLink RX5 48 yX5_within, Cond.static yX5_within, Cond.code yX5_within cX5_within 3 (some .boolean), Cond.methodLink RX5 169 yX5_wrongWith, Cond.instanceMethod yX5_wrongWith, Cond.selects RX5 yX5_wrongWith yX5_wrongWith, Cond.code yX5_wrongWith cX5_wrongWith 4 (some .int), Cond.fieldLink RX5 13 "BinderParcelsModel" "kept" "[I", Cond.methodLink RX5 44 yX5_moves, Cond.static yX5_moves, Cond.code yX5_moves cX5_moves 5 none, Cond.methodLink RX5 134 yX5_doSet, Cond.instanceMethod yX5_doSet, Cond.selects RX5 yX5_doSet yX5_doSet, Cond.code yX5_doSet cX5_doSet 4 none, Cond.methodLink RX5 82 yX5_doParcel, Cond.instanceMethod yX5_doParcel, Cond.selects RX5 yX5_doParcel yX5_doParcel]
def wsX5_rightFrom_r2 : List Cond := [Cond.code yX5_doParcel cX5_doParcel 8 none, Cond.methodLink RX5 70 yX5_orderOf, Cond.instanceMethod yX5_orderOf, Cond.selects RX5 yX5_orderOf yX5_orderOf, Cond.code yX5_orderOf cX5_orderOf 3 (some .int), Cond.methodLink RX5 73 yX5_earliest, Cond.instanceMethod yX5_earliest, Cond.selects RX5 yX5_earliest yX5_earliest, Cond.code yX5_earliest cX5_earliest 5 (some .int), Cond.methodLink RX5 52 yX5_part, Cond.instanceMethod yX5_part, Cond.selects RX5 yX5_part yX5_part, Cond.code yX5_part cX5_part 3 (some .int), Cond.methodLink RX5 60 yX5_numberOf, Cond.instanceMethod yX5_numberOf, Cond.selects RX5 yX5_numberOf yX5_numberOf, Cond.code yX5_numberOf cX5_numberOf 3 (some .int), Cond.methodLink RX5 67 yX5_issueOf, Cond.instanceMethod yX5_issueOf, Cond.selects RX5 yX5_issueOf yX5_issueOf, Cond.code yX5_issueOf cX5_issueOf 3 (some .int), Cond.methodLink RX5 76 yX5_removeAll, Cond.instanceMethod yX5_removeAll, Cond.selects RX5 yX5_removeAll yX5_removeAll]
def wsX5_rightFrom_r3 : List Cond := [Cond.code yX5_removeAll cX5_removeAll 4 none, Cond.methodLink RX5 63 yX5_remove, Cond.instanceMethod yX5_remove, Cond.selects RX5 yX5_remove yX5_remove, Cond.code yX5_remove cX5_remove 4 none, Cond.methodLink RX5 56 yX5_setPart, Cond.instanceMethod yX5_setPart, Cond.selects RX5 yX5_setPart yX5_setPart, Cond.code yX5_setPart cX5_setPart 4 none, Cond.methodLink RX5 79 yX5_comes, Cond.instanceMethod yX5_comes, Cond.selects RX5 yX5_comes yX5_comes, Cond.code yX5_comes cX5_comes 4 none, Cond.methodLink RX5 103 yX5_wrong, Cond.instanceMethod yX5_wrong, Cond.selects RX5 yX5_wrong yX5_wrong, Cond.code yX5_wrong cX5_wrong 7 (some .int), Cond.methodLink RX5 89 yX5_findLeaves, Cond.instanceMethod yX5_findLeaves, Cond.selects RX5 yX5_findLeaves yX5_findLeaves, Cond.code yX5_findLeaves cX5_findLeaves 4 none, Cond.fieldLink RX5 31 "BinderParcelsModel" "leaves" "[I", Cond.fieldLink RX5 34 "BinderParcelsModel" "rightOnes" "[I", Cond.fieldLink RX5 37 "BinderParcelsModel" "issues" "[I"]
def wsX5_rightFrom_r4 : List Cond := [Cond.methodLink RX5 86 yX5_findIssues, Cond.instanceMethod yX5_findIssues, Cond.selects RX5 yX5_findIssues yX5_findIssues, Cond.code yX5_findIssues cX5_findIssues 2 none, Cond.methodLink RX5 93 yX5_surplusOf, Cond.instanceMethod yX5_surplusOf, Cond.selects RX5 yX5_surplusOf yX5_surplusOf, Cond.code yX5_surplusOf cX5_surplusOf 2 (some .int), Cond.methodLink RX5 97 yX5_oldOf, Cond.instanceMethod yX5_oldOf, Cond.selects RX5 yX5_oldOf yX5_oldOf, Cond.code yX5_oldOf cX5_oldOf 2 (some .int), Cond.methodLink RX5 100 yX5_missingOf, Cond.instanceMethod yX5_missingOf, Cond.selects RX5 yX5_missingOf yX5_missingOf, Cond.code yX5_missingOf cX5_missingOf 2 (some .int)]
def wsX5_rightFrom : List Cond := .code yX5_rightFrom cX5_rightFrom 4 (some .int) :: ((wsX5_rightFrom_r1 ++ (wsX5_rightFrom_r2 ++ (wsX5_rightFrom_r3 ++ wsX5_rightFrom_r4))) ++ wsX50)
def wsX5_put : List Cond := .code yX5_put cX5_put 8 (some .int) :: ([.constantLong RX5 175 (255), .fieldLink RX5 120 "BinderParcelsModel" "padLength" "I", .fieldLink RX5 25 "BinderParcelsModel" "pad" "[I", .methodLink RX5 48 yX5_within, .static yX5_within, .initialized RX5, .code yX5_within cX5_within 3 (some .boolean)] ++ wsX50)
def wsX5_wipe : List Cond := .code yX5_wipe cX5_wipe 2 (some .int) :: ([.fieldLink RX5 120 "BinderParcelsModel" "padLength" "I"] ++ wsX50)
def wsX5_fault : List Cond := .code yX5_fault cX5_fault 1 (some .int) :: ([.methodLink RX5 109 yX5_findFault, .instanceMethod yX5_findFault, .selects RX5 yX5_findFault yX5_findFault, .initialized RX5, .code yX5_findFault cX5_findFault 2 (some .int), .fieldLink RX5 106 "BinderParcelsModel" "ordersMany" "I", .fieldLink RX5 120 "BinderParcelsModel" "padLength" "I", .fieldLink RX5 25 "BinderParcelsModel" "pad" "[I", .fieldLink RX5 28 "BinderParcelsModel" "orders" "[I", .methodLink RX5 177 yX5_canStand, .static yX5_canStand, .code yX5_canStand cX5_canStand 2 (some .boolean), .methodLink RX5 48 yX5_within, .static yX5_within, .code yX5_within cX5_within 3 (some .boolean)] ++ wsX50)
def wsX5_undo : List Cond := .code yX5_undo cX5_undo 1 (some .int) :: ([.fieldLink RX5 40 "BinderParcelsModel" "recorded" "I", .fieldLink RX5 16 "BinderParcelsModel" "history" "[I", .fieldLink RX5 7 "BinderParcelsModel" "state" "[I", .methodLink RX5 44 yX5_moves, .static yX5_moves, .initialized RX5, .code yX5_moves cX5_moves 5 none] ++ wsX50)
def wsX5_save : List Cond := .code yX5_save cX5_save 2 (some .int) :: ([.fieldLink RX5 7 "BinderParcelsModel" "state" "[I", .fieldLink RX5 19 "BinderParcelsModel" "slots" "[I", .fieldLink RX5 22 "BinderParcelsModel" "isSaved" "[I", .methodLink RX5 48 yX5_within, .static yX5_within, .initialized RX5, .code yX5_within cX5_within 3 (some .boolean), .methodLink RX5 44 yX5_moves, .static yX5_moves, .code yX5_moves cX5_moves 5 none] ++ wsX50)
def wsX5_restore : List Cond := .code yX5_restore cX5_restore 2 (some .int) :: ([.fieldLink RX5 22 "BinderParcelsModel" "isSaved" "[I", .fieldLink RX5 19 "BinderParcelsModel" "slots" "[I", .fieldLink RX5 7 "BinderParcelsModel" "state" "[I", .methodLink RX5 48 yX5_within, .static yX5_within, .initialized RX5, .code yX5_within cX5_within 3 (some .boolean), .methodLink RX5 117 yX5_record, .instanceMethod yX5_record, .selects RX5 yX5_record yX5_record, .code yX5_record cX5_record 2 none, .fieldLink RX5 40 "BinderParcelsModel" "recorded" "I", .fieldLink RX5 16 "BinderParcelsModel" "history" "[I", .methodLink RX5 44 yX5_moves, .static yX5_moves, .code yX5_moves cX5_moves 5 none] ++ wsX50)
def wsJ9_min_7cf53 : List Cond := .code yJ9_min_7cf53 cJ9_min_7cf53 2 (some .int) :: ([])
def wsL_law_r1 : List Cond := [Cond.classLink RL 7 RX4, Cond.instantiable RX4 6, Cond.initialized RX4, Cond.classLink RL 10 RX5, Cond.instantiable RX5 13, Cond.initialized RX5, Cond.constantLong RL 83 (4294967295), Cond.methodLink RL 9 yX4_init, Cond.instanceMethod yX4_init, Cond.code yX4_init cX4_init 2 none, Cond.methodLink RX4 1 objectInit, Cond.instanceMethod objectInit, Cond.code objectInit ⟨#[0xb1]⟩ 1 none, Cond.classLink RX4 7 RX3, Cond.instantiable RX3 8, Cond.initialized RX3, Cond.fieldLink RX4 10 "BinderParcels" "now" "LBinderParcels$State;", Cond.classLink RX4 16 RX1, Cond.instantiable RX1 3, Cond.initialized RX1, Cond.fieldLink RX4 19 "BinderParcels" "history" "LBinderParcels$History;", Cond.fieldLink RX4 23 "BinderParcels" "slots" "[LBinderParcels$State;", Cond.arrayClass .boolean, Cond.fieldLink RX4 27 "BinderParcels" "isSaved" "[Z"]
def wsL_law_r2 : List Cond := [Cond.classLink RX4 31 RX2, Cond.instantiable RX2 2, Cond.initialized RX2, Cond.fieldLink RX4 34 "BinderParcels" "pad" "LBinderParcels$Pad;", Cond.classLink RX4 38 RX0, Cond.fieldLink RX4 40 "BinderParcels" "trials" "[LBinderParcels$Binder;", Cond.instantiable RX0 2, Cond.initialized RX0, Cond.methodLink RX4 9 yX3_init, Cond.instanceMethod yX3_init, Cond.code yX3_init cX3_init 2 none, Cond.methodLink RX3 3 objectInit, Cond.arrayClass .int, Cond.fieldLink RX3 9 "BinderParcels$State" "orders" "[I", Cond.fieldLink RX3 15 "BinderParcels$State" "orderCounts" "[I", Cond.classLink RX3 18 RX0, Cond.fieldLink RX3 21 "BinderParcels$State" "text" "LBinderParcels$Binder;", Cond.fieldLink RX3 25 "BinderParcels$State" "binders" "[LBinderParcels$Binder;", Cond.fieldLink RX3 29 "BinderParcels$State" "waiting" "[I", Cond.fieldLink RX3 32 "BinderParcels$State" "lost" "[I", Cond.instanceMethod yX0_init, Cond.code yX0_init cX0_init 1 none, Cond.methodLink RX0 3 objectInit, Cond.fieldLink RX0 9 "BinderParcels$Binder" "leaves" "[I"]
def wsL_law_r3 : List Cond := [Cond.methodLink RX4 18 yX1_init, Cond.instanceMethod yX1_init, Cond.code yX1_init cX1_init 2 none, Cond.methodLink RX1 3 objectInit, Cond.classLink RX1 9 RX3, Cond.fieldLink RX1 11 "BinderParcels$History" "states" "[LBinderParcels$State;", Cond.methodLink RX1 17 yX3_init, Cond.instanceMethod yX2_init, Cond.code yX2_init cX2_init 1 none, Cond.methodLink RX2 5 objectInit, Cond.arrayClass .char, Cond.fieldLink RX2 11 "BinderParcels$Pad" "characters" "[C", Cond.methodLink RL 12 yX5_init, Cond.instanceMethod yX5_init, Cond.code yX5_init cX5_init 1 none, Cond.methodLink RX5 1 objectInit, Cond.fieldLink RX5 7 "BinderParcelsModel" "state" "[I", Cond.fieldLink RX5 13 "BinderParcelsModel" "kept" "[I", Cond.fieldLink RX5 16 "BinderParcelsModel" "history" "[I", Cond.fieldLink RX5 19 "BinderParcelsModel" "slots" "[I", Cond.fieldLink RX5 22 "BinderParcelsModel" "isSaved" "[I", Cond.fieldLink RX5 25 "BinderParcelsModel" "pad" "[I", Cond.fieldLink RX5 28 "BinderParcelsModel" "orders" "[I", Cond.fieldLink RX5 31 "BinderParcelsModel" "leaves" "[I"]
def wsL_law_r4 : List Cond := [Cond.fieldLink RX5 34 "BinderParcelsModel" "rightOnes" "[I", Cond.fieldLink RX5 37 "BinderParcelsModel" "issues" "[I", Cond.methodLink RL 13 yX4_issue, Cond.instanceMethod yX4_issue, Cond.selects RX4 yX4_issue yX4_issue, Cond.code yX4_issue cX4_issue 2 (some .int), Cond.methodLink RX4 45 yX2_firstFault, Cond.instanceMethod yX2_firstFault, Cond.selects RX2 yX2_firstFault yX2_firstFault, Cond.code yX2_firstFault cX2_firstFault 2 (some .int), Cond.fieldLink RX2 21 "BinderParcels$Pad" "length" "I", Cond.methodLink RX2 25 yX2_canStand, Cond.static yX2_canStand, Cond.code yX2_canStand cX2_canStand 2 (some .boolean), Cond.methodLink RX4 49 yX2_hasNumberTwice, Cond.instanceMethod yX2_hasNumberTwice, Cond.selects RX2 yX2_hasNumberTwice yX2_hasNumberTwice, Cond.code yX2_hasNumberTwice cX2_hasNumberTwice 3 (some .boolean), Cond.methodLink RX2 29 yX2_orders, Cond.instanceMethod yX2_orders, Cond.selects RX2 yX2_orders yX2_orders, Cond.code yX2_orders cX2_orders 1 (some .int), Cond.methodLink RX2 33 yX2_order, Cond.instanceMethod yX2_order]
def wsL_law_r5 : List Cond := [Cond.selects RX2 yX2_order yX2_order, Cond.code yX2_order cX2_order 4 (some .int), Cond.methodLink RX4 57 yX1_record, Cond.instanceMethod yX1_record, Cond.selects RX1 yX1_record yX1_record, Cond.code yX1_record cX1_record 2 none, Cond.fieldLink RX1 18 "BinderParcels$History" "oldest" "I", Cond.fieldLink RX1 22 "BinderParcels$History" "size" "I", Cond.methodLink RX1 25 yX3_copy, Cond.instanceMethod yX3_copy, Cond.selects RX3 yX3_copy yX3_copy, Cond.code yX3_copy cX3_copy 3 none, Cond.methodLink RX3 35 arraycopyName, Cond.native arraycopyName, Cond.static arraycopyName, Cond.initialized "java/lang/System", Cond.fieldLink RX3 41 "BinderParcels$State" "parcels" "I", Cond.fieldLink RX3 49 "BinderParcels$State" "owners" "I", Cond.methodLink RX3 45 yX0_copy, Cond.instanceMethod yX0_copy, Cond.selects RX0 yX0_copy yX0_copy, Cond.code yX0_copy cX0_copy 2 none, Cond.fieldLink RX0 15 "BinderParcels$Binder" "size" "I", Cond.methodLink RX0 19 arraycopyName]
def wsL_law_r6 : List Cond := [Cond.methodLink RX4 61 yX3_addParcel, Cond.instanceMethod yX3_addParcel, Cond.selects RX3 yX3_addParcel yX3_addParcel, Cond.code yX3_addParcel cX3_addParcel 4 (some .int), Cond.methodLink RX3 52 yX2_orders, Cond.methodLink RX3 57 yX2_order, Cond.methodLink RX3 61 yX3_doWithCare, Cond.instanceMethod yX3_doWithCare, Cond.selects RX3 yX3_doWithCare yX3_doWithCare, Cond.code yX3_doWithCare cX3_doWithCare 5 none, Cond.methodLink RX3 65 yX3_order, Cond.instanceMethod yX3_order, Cond.selects RX3 yX3_order yX3_order, Cond.code yX3_order cX3_order 3 (some .int), Cond.methodLink RX3 68 yX0_removeAll, Cond.instanceMethod yX0_removeAll, Cond.selects RX0 yX0_removeAll yX0_removeAll, Cond.code yX0_removeAll cX0_removeAll 3 none, Cond.methodLink RX0 36 yX0_start, Cond.instanceMethod yX0_start, Cond.selects RX0 yX0_start yX0_start, Cond.code yX0_start cX0_start 2 (some .int), Cond.methodLink RX0 25 yX0_leafWith, Cond.static yX0_leafWith]
def wsL_law_r7 : List Cond := [Cond.code yX0_leafWith cX0_leafWith 2 (some .int), Cond.methodLink RX0 29 yX0_placeOf, Cond.instanceMethod yX0_placeOf, Cond.selects RX0 yX0_placeOf yX0_placeOf, Cond.code yX0_placeOf cX0_placeOf 3 (some .int), Cond.methodLink RX0 39 yX0_end, Cond.instanceMethod yX0_end, Cond.selects RX0 yX0_end yX0_end, Cond.code yX0_end cX0_end 4 (some .int), Cond.methodLink RX0 33 yX0_numberOf, Cond.static yX0_numberOf, Cond.code yX0_numberOf cX0_numberOf 1 (some .int), Cond.methodLink RX0 42 yX0_removeRange, Cond.instanceMethod yX0_removeRange, Cond.selects RX0 yX0_removeRange yX0_removeRange, Cond.code yX0_removeRange cX0_removeRange 3 none, Cond.methodLink RX3 72 yX0_insert, Cond.instanceMethod yX0_insert, Cond.selects RX0 yX0_insert yX0_insert, Cond.code yX0_insert cX0_insert 5 none, Cond.methodLink RX4 65 yX2_empty, Cond.instanceMethod yX2_empty, Cond.selects RX2 yX2_empty yX2_empty, Cond.code yX2_empty cX2_empty 1 none]
def wsL_law_r8 : List Cond := [Cond.methodLink RL 17 yX5_issue, Cond.instanceMethod yX5_issue, Cond.selects RX5 yX5_issue yX5_issue, Cond.code yX5_issue cX5_issue 3 (some .int), Cond.fieldLink RX5 106 "BinderParcelsModel" "ordersMany" "I", Cond.fieldLink RX5 120 "BinderParcelsModel" "padLength" "I", Cond.methodLink RX5 109 yX5_findFault, Cond.instanceMethod yX5_findFault, Cond.selects RX5 yX5_findFault yX5_findFault, Cond.code yX5_findFault cX5_findFault 2 (some .int), Cond.methodLink RX5 177 yX5_canStand, Cond.static yX5_canStand, Cond.code yX5_canStand cX5_canStand 2 (some .boolean), Cond.methodLink RX5 48 yX5_within, Cond.static yX5_within, Cond.code yX5_within cX5_within 3 (some .boolean), Cond.methodLink RX5 113 yX5_comesTwice, Cond.instanceMethod yX5_comesTwice, Cond.selects RX5 yX5_comesTwice yX5_comesTwice, Cond.code yX5_comesTwice cX5_comesTwice 4 (some .boolean), Cond.methodLink RX5 117 yX5_record, Cond.instanceMethod yX5_record, Cond.selects RX5 yX5_record yX5_record, Cond.code yX5_record cX5_record 2 none]
def wsL_law_r9 : List Cond := [Cond.fieldLink RX5 40 "BinderParcelsModel" "recorded" "I", Cond.methodLink RX5 44 yX5_moves, Cond.static yX5_moves, Cond.code yX5_moves cX5_moves 5 none, Cond.methodLink RX5 82 yX5_doParcel, Cond.instanceMethod yX5_doParcel, Cond.selects RX5 yX5_doParcel yX5_doParcel, Cond.code yX5_doParcel cX5_doParcel 8 none, Cond.methodLink RX5 70 yX5_orderOf, Cond.instanceMethod yX5_orderOf, Cond.selects RX5 yX5_orderOf yX5_orderOf, Cond.code yX5_orderOf cX5_orderOf 3 (some .int), Cond.methodLink RX5 73 yX5_earliest, Cond.instanceMethod yX5_earliest, Cond.selects RX5 yX5_earliest yX5_earliest, Cond.code yX5_earliest cX5_earliest 5 (some .int), Cond.methodLink RX5 52 yX5_part, Cond.instanceMethod yX5_part, Cond.selects RX5 yX5_part yX5_part, Cond.code yX5_part cX5_part 3 (some .int), Cond.methodLink RX5 60 yX5_numberOf, Cond.instanceMethod yX5_numberOf, Cond.selects RX5 yX5_numberOf yX5_numberOf, Cond.code yX5_numberOf cX5_numberOf 3 (some .int)]
def wsL_law_r10 : List Cond := [Cond.methodLink RX5 67 yX5_issueOf, Cond.instanceMethod yX5_issueOf, Cond.selects RX5 yX5_issueOf yX5_issueOf, Cond.code yX5_issueOf cX5_issueOf 3 (some .int), Cond.methodLink RX5 76 yX5_removeAll, Cond.instanceMethod yX5_removeAll, Cond.selects RX5 yX5_removeAll yX5_removeAll, Cond.code yX5_removeAll cX5_removeAll 4 none, Cond.methodLink RX5 63 yX5_remove, Cond.instanceMethod yX5_remove, Cond.selects RX5 yX5_remove yX5_remove, Cond.code yX5_remove cX5_remove 4 none, Cond.methodLink RX5 56 yX5_setPart, Cond.instanceMethod yX5_setPart, Cond.selects RX5 yX5_setPart yX5_setPart, Cond.code yX5_setPart cX5_setPart 4 none, Cond.methodLink RX5 79 yX5_comes, Cond.instanceMethod yX5_comes, Cond.selects RX5 yX5_comes yX5_comes, Cond.code yX5_comes cX5_comes 4 none, Cond.methodLink RL 18 yX4_own, Cond.instanceMethod yX4_own, Cond.selects RX4 yX4_own yX4_own, Cond.code yX4_own cX4_own 1 (some .int)]
def wsL_law_r11 : List Cond := [Cond.methodLink RX4 71 yX3_addOwner, Cond.instanceMethod yX3_addOwner, Cond.selects RX3 yX3_addOwner yX3_addOwner, Cond.code yX3_addOwner cX3_addOwner 2 (some .int), Cond.methodLink RL 21 yX5_own, Cond.instanceMethod yX5_own, Cond.selects RX5 yX5_own yX5_own, Cond.code yX5_own cX5_own 3 (some .int), Cond.methodLink RL 22 yX4_done, Cond.instanceMethod yX4_done, Cond.selects RX4 yX4_done yX4_done, Cond.code yX4_done cX4_done 5 (some .int), Cond.methodLink RX4 74 yX3_hasOwner, Cond.instanceMethod yX3_hasOwner, Cond.selects RX3 yX3_hasOwner yX3_hasOwner, Cond.code yX3_hasOwner cX3_hasOwner 2 (some .boolean), Cond.methodLink RX4 78 yX3_hasParcel, Cond.instanceMethod yX3_hasParcel, Cond.selects RX3 yX3_hasParcel yX3_hasParcel, Cond.code yX3_hasParcel cX3_hasParcel 2 (some .boolean), Cond.methodLink RX4 81 yX3_isWaiting, Cond.instanceMethod yX3_isWaiting, Cond.selects RX3 yX3_isWaiting yX3_isWaiting, Cond.code yX3_isWaiting cX3_isWaiting 3 (some .boolean)]
def wsL_law_r12 : List Cond := [Cond.methodLink RX4 92 yX3_doWithCare, Cond.methodLink RX4 96 yX3_doCarelessly, Cond.instanceMethod yX3_doCarelessly, Cond.selects RX3 yX3_doCarelessly yX3_doCarelessly, Cond.code yX3_doCarelessly cX3_doCarelessly 5 none, Cond.methodLink RX3 76 yX0_removeEarliest, Cond.instanceMethod yX0_removeEarliest, Cond.selects RX0 yX0_removeEarliest yX0_removeEarliest, Cond.code yX0_removeEarliest cX0_removeEarliest 3 none, Cond.methodLink RX0 46 Lib.Math.min.name, Cond.static Lib.Math.min.name, Cond.initialized "java/lang/Math", Cond.code Lib.Math.min.name Lib.Math.min.code 2 (some .int), Cond.methodLink RL 26 yX5_done, Cond.instanceMethod yX5_done, Cond.selects RX5 yX5_done yX5_done, Cond.code yX5_done cX5_done 4 (some .int), Cond.methodLink RX5 123 yX5_isOwner, Cond.instanceMethod yX5_isOwner, Cond.selects RX5 yX5_isOwner yX5_isOwner, Cond.code yX5_isOwner cX5_isOwner 2 (some .boolean), Cond.methodLink RX5 127 yX5_isParcel, Cond.instanceMethod yX5_isParcel, Cond.selects RX5 yX5_isParcel yX5_isParcel]
def wsL_law_r13 : List Cond := [Cond.code yX5_isParcel cX5_isParcel 2 (some .boolean), Cond.methodLink RX5 130 yX5_waits, Cond.instanceMethod yX5_waits, Cond.selects RX5 yX5_waits yX5_waits, Cond.code yX5_waits cX5_waits 3 (some .boolean), Cond.methodLink RL 27 yX4_doAll, Cond.instanceMethod yX4_doAll, Cond.selects RX4 yX4_doAll yX4_doAll, Cond.code yX4_doAll cX4_doAll 3 (some .int), Cond.methodLink RX4 102 yX3_doSetWithCare, Cond.instanceMethod yX3_doSetWithCare, Cond.selects RX3 yX3_doSetWithCare yX3_doSetWithCare, Cond.code yX3_doSetWithCare cX3_doSetWithCare 4 none, Cond.methodLink RX4 105 yJ6_bitCount_0f7a4, Cond.static yJ6_bitCount_0f7a4, Cond.initialized RJ6, Cond.code yJ6_bitCount_0f7a4 cJ6_bitCount_0f7a4 1 (some .int), Cond.constant RJ6 265 (1431655765), Cond.constant RJ6 266 (858993459), Cond.constant RJ6 267 (252645135), Cond.methodLink RL 31 yX5_doAll, Cond.instanceMethod yX5_doAll, Cond.selects RX5 yX5_doAll yX5_doAll, Cond.code yX5_doAll cX5_doAll 3 (some .int)]
def wsL_law_r14 : List Cond := [Cond.methodLink RX5 134 yX5_doSet, Cond.instanceMethod yX5_doSet, Cond.selects RX5 yX5_doSet yX5_doSet, Cond.code yX5_doSet cX5_doSet 4 none, Cond.methodLink RX5 137 yX5_bits, Cond.static yX5_bits, Cond.code yX5_bits cX5_bits 3 (some .int), Cond.methodLink RL 32 yX4_lose, Cond.instanceMethod yX4_lose, Cond.selects RX4 yX4_lose yX4_lose, Cond.code yX4_lose cX4_lose 3 (some .int), Cond.methodLink RL 36 yX5_lose, Cond.instanceMethod yX5_lose, Cond.selects RX5 yX5_lose yX5_lose, Cond.code yX5_lose cX5_lose 3 (some .int), Cond.methodLink RL 37 yX4_again, Cond.instanceMethod yX4_again, Cond.selects RX4 yX4_again yX4_again, Cond.code yX4_again cX4_again 3 (some .int), Cond.methodLink RL 40 yX5_again, Cond.instanceMethod yX5_again, Cond.selects RX5 yX5_again yX5_again, Cond.code yX5_again cX5_again 3 (some .int), Cond.methodLink RL 41 yX4_hand]
def wsL_law_r15 : List Cond := [Cond.instanceMethod yX4_hand, Cond.selects RX4 yX4_hand yX4_hand, Cond.code yX4_hand cX4_hand 7 (some .int), Cond.methodLink RX4 114 yX4_isNumber, Cond.static yX4_isNumber, Cond.code yX4_isNumber cX4_isNumber 1 (some .boolean), Cond.methodLink RX4 117 yX0_holds, Cond.instanceMethod yX0_holds, Cond.selects RX0 yX0_holds yX0_holds, Cond.code yX0_holds cX0_holds 5 (some .boolean), Cond.methodLink RX4 120 yX0_insert, Cond.methodLink RX4 124 yX0_remove, Cond.instanceMethod yX0_remove, Cond.selects RX0 yX0_remove yX0_remove, Cond.code yX0_remove cX0_remove 4 none, Cond.methodLink RX0 51 yX0_holds, Cond.methodLink RL 45 yX5_hand, Cond.instanceMethod yX5_hand, Cond.selects RX5 yX5_hand yX5_hand, Cond.code yX5_hand cX5_hand 6 (some .int), Cond.methodLink RX5 140 yX5_isNumber, Cond.static yX5_isNumber, Cond.code yX5_isNumber cX5_isNumber 1 (some .boolean), Cond.methodLink RX5 143 yX5_leafWith]
def wsL_law_r16 : List Cond := [Cond.instanceMethod yX5_leafWith, Cond.selects RX5 yX5_leafWith yX5_leafWith, Cond.code yX5_leafWith cX5_leafWith 6 (some .int), Cond.methodLink RL 46 yX4_parcel, Cond.instanceMethod yX4_parcel, Cond.selects RX4 yX4_parcel yX4_parcel, Cond.code yX4_parcel cX4_parcel 3 (some .int), Cond.methodLink RX4 130 yX3_order, Cond.methodLink RX4 134 yX3_ownersOf, Cond.instanceMethod yX3_ownersOf, Cond.selects RX3 yX3_ownersOf yX3_ownersOf, Cond.code yX3_ownersOf cX3_ownersOf 5 (some .int), Cond.methodLink RL 49 yX5_parcel, Cond.instanceMethod yX5_parcel, Cond.selects RX5 yX5_parcel yX5_parcel, Cond.code yX5_parcel cX5_parcel 4 (some .int), Cond.methodLink RX5 147 yX5_ownersWith, Cond.instanceMethod yX5_ownersWith, Cond.selects RX5 yX5_ownersWith yX5_ownersWith, Cond.code yX5_ownersWith cX5_ownersWith 5 (some .int), Cond.methodLink RL 50 yX4_text, Cond.instanceMethod yX4_text, Cond.selects RX4 yX4_text yX4_text, Cond.code yX4_text cX4_text 2 (some .int)]
def wsL_law_r17 : List Cond := [Cond.methodLink RX4 142 yX0_earliestIssue, Cond.instanceMethod yX0_earliestIssue, Cond.selects RX0 yX0_earliestIssue yX0_earliestIssue, Cond.code yX0_earliestIssue cX0_earliestIssue 3 (some .int), Cond.methodLink RX0 55 yX0_issueOf, Cond.static yX0_issueOf, Cond.code yX0_issueOf cX0_issueOf 1 (some .int), Cond.methodLink RL 53 yX5_text, Cond.instanceMethod yX5_text, Cond.selects RX5 yX5_text yX5_text, Cond.code yX5_text cX5_text 2 (some .int), Cond.methodLink RX5 86 yX5_findIssues, Cond.instanceMethod yX5_findIssues, Cond.selects RX5 yX5_findIssues yX5_findIssues, Cond.code yX5_findIssues cX5_findIssues 2 none, Cond.methodLink RL 54 yX4_leaf, Cond.instanceMethod yX4_leaf, Cond.selects RX4 yX4_leaf yX4_leaf, Cond.code yX4_leaf cX4_leaf 5 (some .int), Cond.methodLink RX4 145 yX0_held, Cond.instanceMethod yX0_held, Cond.selects RX0 yX0_held yX0_held, Cond.code yX0_held cX0_held 3 (some .int), Cond.methodLink RX4 148 yX0_latestIssue]
def wsL_law_r18 : List Cond := [Cond.instanceMethod yX0_latestIssue, Cond.selects RX0 yX0_latestIssue yX0_latestIssue, Cond.code yX0_latestIssue cX0_latestIssue 4 (some .int), Cond.methodLink RX4 151 yX0_difference, Cond.instanceMethod yX0_difference, Cond.selects RX0 yX0_difference yX0_difference, Cond.code yX0_difference cX0_difference 6 (some .int), Cond.methodLink RX0 58 yX0_held, Cond.methodLink RX0 61 yX0_earliestIssue, Cond.methodLink RL 58 yX5_leaf, Cond.instanceMethod yX5_leaf, Cond.selects RX5 yX5_leaf yX5_leaf, Cond.code yX5_leaf cX5_leaf 4 (some .int), Cond.methodLink RX5 89 yX5_findLeaves, Cond.instanceMethod yX5_findLeaves, Cond.selects RX5 yX5_findLeaves yX5_findLeaves, Cond.code yX5_findLeaves cX5_findLeaves 4 none, Cond.methodLink RX5 150 yX5_issueIn, Cond.instanceMethod yX5_issueIn, Cond.selects RX5 yX5_issueIn yX5_issueIn, Cond.code yX5_issueIn cX5_issueIn 8 (some .int), Cond.methodLink RX5 93 yX5_surplusOf, Cond.instanceMethod yX5_surplusOf, Cond.selects RX5 yX5_surplusOf yX5_surplusOf]
def wsL_law_r19 : List Cond := [Cond.code yX5_surplusOf cX5_surplusOf 2 (some .int), Cond.methodLink RX5 97 yX5_oldOf, Cond.instanceMethod yX5_oldOf, Cond.selects RX5 yX5_oldOf yX5_oldOf, Cond.code yX5_oldOf cX5_oldOf 2 (some .int), Cond.methodLink RX5 100 yX5_missingOf, Cond.instanceMethod yX5_missingOf, Cond.selects RX5 yX5_missingOf yX5_missingOf, Cond.code yX5_missingOf cX5_missingOf 2 (some .int), Cond.methodLink RL 59 yX4_of, Cond.instanceMethod yX4_of, Cond.selects RX4 yX4_of yX4_of, Cond.code yX4_of cX4_of 4 (some .int), Cond.methodLink RX4 155 yX0_differences, Cond.instanceMethod yX0_differences, Cond.selects RX0 yX0_differences yX0_differences, Cond.code yX0_differences cX0_differences 5 (some .int), Cond.methodLink RX0 64 yX0_difference, Cond.methodLink RX4 159 yX0_isSameAs, Cond.instanceMethod yX0_isSameAs, Cond.selects RX0 yX0_isSameAs yX0_isSameAs, Cond.code yX0_isSameAs cX0_isSameAs 3 (some .boolean), Cond.methodLink RX4 163 yX0_checkNumber, Cond.instanceMethod yX0_checkNumber]
def wsL_law_r20 : List Cond := [Cond.selects RX0 yX0_checkNumber yX0_checkNumber, Cond.code yX0_checkNumber cX0_checkNumber 3 (some .int), Cond.methodLink RL 62 yX5_of, Cond.instanceMethod yX5_of, Cond.selects RX5 yX5_of yX5_of, Cond.code yX5_of cX5_of 3 (some .int), Cond.methodLink RX5 103 yX5_wrong, Cond.instanceMethod yX5_wrong, Cond.selects RX5 yX5_wrong yX5_wrong, Cond.code yX5_wrong cX5_wrong 7 (some .int), Cond.methodLink RX5 154 yX5_isRight, Cond.instanceMethod yX5_isRight, Cond.selects RX5 yX5_isRight yX5_isRight, Cond.code yX5_isRight cX5_isRight 2 (some .boolean), Cond.methodLink RX5 157 yX5_checkOf, Cond.instanceMethod yX5_checkOf, Cond.selects RX5 yX5_checkOf yX5_checkOf, Cond.code yX5_checkOf cX5_checkOf 4 (some .int), Cond.methodLink RL 63 yX4_count, Cond.instanceMethod yX4_count, Cond.selects RX4 yX4_count yX4_count, Cond.code yX4_count cX4_count 2 (some .int), Cond.methodLink RX4 166 yX3_ownersWithRightBinders, Cond.instanceMethod yX3_ownersWithRightBinders]
def wsL_law_r21 : List Cond := [Cond.selects RX3 yX3_ownersWithRightBinders yX3_ownersWithRightBinders, Cond.code yX3_ownersWithRightBinders cX3_ownersWithRightBinders 3 (some .int), Cond.methodLink RX3 79 yX0_isSameAs, Cond.methodLink RX4 169 yX0_leavesOf, Cond.instanceMethod yX0_leavesOf, Cond.selects RX0 yX0_leavesOf yX0_leavesOf, Cond.code yX0_leavesOf cX0_leavesOf 4 (some .int), Cond.methodLink RX4 172 yX3_parcelWithMostLeaves, Cond.instanceMethod yX3_parcelWithMostLeaves, Cond.selects RX3 yX3_parcelWithMostLeaves yX3_parcelWithMostLeaves, Cond.code yX3_parcelWithMostLeaves cX3_parcelWithMostLeaves 5 (some .int), Cond.methodLink RX3 83 yX0_leavesOf, Cond.methodLink RL 66 yX5_count, Cond.instanceMethod yX5_count, Cond.selects RX5 yX5_count yX5_count, Cond.code yX5_count cX5_count 2 (some .int), Cond.methodLink RX5 163 yX5_rightOwners, Cond.instanceMethod yX5_rightOwners, Cond.selects RX5 yX5_rightOwners yX5_rightOwners, Cond.code yX5_rightOwners cX5_rightOwners 3 (some .int), Cond.methodLink RX5 160 yX5_inText, Cond.instanceMethod yX5_inText, Cond.selects RX5 yX5_inText yX5_inText, Cond.code yX5_inText cX5_inText 4 (some .int)]
def wsL_law_r22 : List Cond := [Cond.methodLink RX5 166 yX5_mostInText, Cond.instanceMethod yX5_mostInText, Cond.selects RX5 yX5_mostInText yX5_mostInText, Cond.code yX5_mostInText cX5_mostInText 4 (some .int), Cond.methodLink RL 67 yX4_ifDone, Cond.instanceMethod yX4_ifDone, Cond.selects RX4 yX4_ifDone yX4_ifDone, Cond.code yX4_ifDone cX4_ifDone 3 (some .int), Cond.methodLink RX4 179 yX4_tried, Cond.instanceMethod yX4_tried, Cond.selects RX4 yX4_tried yX4_tried, Cond.code yX4_tried cX4_tried 4 (some (.object "BinderParcels$Binder")), Cond.methodLink RX4 187 yX0_copy, Cond.methodLink RX4 183 yX0_wrong, Cond.instanceMethod yX0_wrong, Cond.selects RX0 yX0_wrong yX0_wrong, Cond.code yX0_wrong cX0_wrong 2 (some .int), Cond.methodLink RX0 68 yX0_differences, Cond.methodLink RL 70 yX5_ifDone, Cond.instanceMethod yX5_ifDone, Cond.selects RX5 yX5_ifDone yX5_ifDone, Cond.code yX5_ifDone cX5_ifDone 3 (some .int), Cond.methodLink RX5 169 yX5_wrongWith, Cond.instanceMethod yX5_wrongWith]
def wsL_law_r23 : List Cond := [Cond.selects RX5 yX5_wrongWith yX5_wrongWith, Cond.code yX5_wrongWith cX5_wrongWith 4 (some .int), Cond.methodLink RL 71 yX4_ifAllDone, Cond.instanceMethod yX4_ifAllDone, Cond.selects RX4 yX4_ifAllDone yX4_ifAllDone, Cond.code yX4_ifAllDone cX4_ifAllDone 2 (some .int), Cond.methodLink RL 74 yX5_ifAllDone, Cond.instanceMethod yX5_ifAllDone, Cond.selects RX5 yX5_ifAllDone yX5_ifAllDone, Cond.code yX5_ifAllDone cX5_ifAllDone 2 (some .int), Cond.methodLink RL 75 yX4_mending, Cond.instanceMethod yX4_mending, Cond.selects RX4 yX4_mending yX4_mending, Cond.code yX4_mending cX4_mending 4 (some .int), Cond.methodLink RX4 191 yX4_lowestMending, Cond.static yX4_lowestMending, Cond.code yX4_lowestMending cX4_lowestMending 9 (some .int), Cond.methodLink RX4 211 Lib.Math.min.name, Cond.methodLink RL 78 yX5_mending, Cond.instanceMethod yX5_mending, Cond.selects RX5 yX5_mending yX5_mending, Cond.code yX5_mending cX5_mending 4 (some .int), Cond.methodLink RX5 172 yX5_mendingOf, Cond.instanceMethod yX5_mendingOf]
def wsL_law_r24 : List Cond := [Cond.selects RX5 yX5_mendingOf yX5_mendingOf, Cond.code yX5_mendingOf cX5_mendingOf 4 (some .int), Cond.methodLink RL 79 yX4_rightFrom, Cond.instanceMethod yX4_rightFrom, Cond.selects RX4 yX4_rightFrom yX4_rightFrom, Cond.code yX4_rightFrom cX4_rightFrom 4 (some .int), Cond.methodLink RL 82 yX5_rightFrom, Cond.instanceMethod yX5_rightFrom, Cond.selects RX5 yX5_rightFrom yX5_rightFrom, Cond.code yX5_rightFrom cX5_rightFrom 4 (some .int), Cond.methodLink RL 85 yX4_put, Cond.instanceMethod yX4_put, Cond.selects RX4 yX4_put yX4_put, Cond.code yX4_put cX4_put 4 (some .int), Cond.methodLink RX4 195 yX2_charactersIn, Cond.static yX2_charactersIn, Cond.code yX2_charactersIn cX2_charactersIn 7 (some .int), Cond.constantLong RX2 15 (255), Cond.constantLong RX2 17 (33), Cond.constantLong RX2 19 (126), Cond.methodLink RX4 199 yX2_append, Cond.instanceMethod yX2_append, Cond.selects RX2 yX2_append yX2_append, Cond.code yX2_append cX2_append 7 none]
def wsL_law_r25 : List Cond := [Cond.methodLink RL 89 yX5_put, Cond.instanceMethod yX5_put, Cond.selects RX5 yX5_put yX5_put, Cond.code yX5_put cX5_put 8 (some .int), Cond.constantLong RX5 175 (255), Cond.methodLink RL 90 yX4_wipe, Cond.instanceMethod yX4_wipe, Cond.selects RX4 yX4_wipe yX4_wipe, Cond.code yX4_wipe cX4_wipe 2 (some .int), Cond.methodLink RL 93 yX5_wipe, Cond.instanceMethod yX5_wipe, Cond.selects RX5 yX5_wipe yX5_wipe, Cond.code yX5_wipe cX5_wipe 2 (some .int), Cond.methodLink RL 94 yX4_fault, Cond.instanceMethod yX4_fault, Cond.selects RX4 yX4_fault yX4_fault, Cond.code yX4_fault cX4_fault 1 (some .int), Cond.methodLink RL 97 yX5_fault, Cond.instanceMethod yX5_fault, Cond.selects RX5 yX5_fault yX5_fault, Cond.code yX5_fault cX5_fault 1 (some .int), Cond.methodLink RL 98 yX4_undo, Cond.instanceMethod yX4_undo, Cond.selects RX4 yX4_undo yX4_undo]
def wsL_law_r26 : List Cond := [Cond.code yX4_undo cX4_undo 1 (some .int), Cond.methodLink RX4 203 yX1_takeBack, Cond.instanceMethod yX1_takeBack, Cond.selects RX1 yX1_takeBack yX1_takeBack, Cond.code yX1_takeBack cX1_takeBack 2 none, Cond.methodLink RL 101 yX5_undo, Cond.instanceMethod yX5_undo, Cond.selects RX5 yX5_undo yX5_undo, Cond.code yX5_undo cX5_undo 1 (some .int), Cond.methodLink RL 102 yX4_save, Cond.instanceMethod yX4_save, Cond.selects RX4 yX4_save yX4_save, Cond.code yX4_save cX4_save 2 (some .int), Cond.methodLink RX4 206 yX4_isSlot, Cond.static yX4_isSlot, Cond.code yX4_isSlot cX4_isSlot 1 (some .boolean), Cond.methodLink RX4 209 yX3_copy, Cond.methodLink RL 105 yX5_save, Cond.instanceMethod yX5_save, Cond.selects RX5 yX5_save yX5_save, Cond.code yX5_save cX5_save 2 (some .int), Cond.methodLink RL 106 yX4_restore, Cond.instanceMethod yX4_restore, Cond.selects RX4 yX4_restore yX4_restore]
def wsL_law_r27 : List Cond := [Cond.code yX4_restore cX4_restore 2 (some .int), Cond.methodLink RL 109 yX5_restore, Cond.instanceMethod yX5_restore, Cond.selects RX5 yX5_restore yX5_restore, Cond.code yX5_restore cX5_restore 2 (some .int)]
def wsL_law : List Cond := (wsL_law_r1 ++ (wsL_law_r2 ++ (wsL_law_r3 ++ (wsL_law_r4 ++ (wsL_law_r5 ++ (wsL_law_r6 ++ (wsL_law_r7 ++ (wsL_law_r8 ++ (wsL_law_r9 ++ (wsL_law_r10 ++ (wsL_law_r11 ++ (wsL_law_r12 ++ (wsL_law_r13 ++ (wsL_law_r14 ++ (wsL_law_r15 ++ (wsL_law_r16 ++ (wsL_law_r17 ++ (wsL_law_r18 ++ (wsL_law_r19 ++ (wsL_law_r20 ++ (wsL_law_r21 ++ (wsL_law_r22 ++ (wsL_law_r23 ++ (wsL_law_r24 ++ (wsL_law_r25 ++ (wsL_law_r26 ++ wsL_law_r27)))))))))))))))))))))))))) ++ wsX40 ++ wsX50 ++ wsX30 ++ wsX10 ++ wsX20 ++ wsX00 ++ ([] : List Cond)
abbrev vwCl : List vw_C := [(RX0, TX0, 2), (RX1, TX1, 3), (RX2, TX2, 2), (RX3, TX3, 8), (RX4, TX4, 6), (RX5, TX5, 13)]
end
section
/-! ===== the layer J: ints by their values, one memory for all cells, locals by their places ===== -/
def I (z : Int) : Int32 := Int32.ofInt z
theorem I_toInt {z : Int} (h : -2147483648 ≤ z ∧ z ≤ 2147483647) : (I z).toInt = z := Int32.toInt_ofInt_of_le (by omega) (by omega)
theorem I_of (x : Int32) : ∃ z : Int, (-2147483648 ≤ z ∧ z ≤ 2147483647) ∧ x = I z := ⟨x.toInt, ⟨by have := x.le_toInt; omega, by have := x.toInt_lt; omega⟩, (Int32.ofInt_toInt x).symm⟩
theorem I_nat (k : Nat) : I (k : Int) = nI k := Int32.ofInt_eq_ofNat
theorem I_add (a b : Int) : I a + I b = I (a + b) := (Int32.ofInt_add a b).symm
theorem I_sub (a b : Int) : I a - I b = I (a - b) := (Int32.ofInt_sub a b).symm
theorem I_mul (a b : Int) : I a * I b = I (a * b) := (Int32.ofInt_mul a b).symm
theorem I_lt {a b : Int} (ha : -2147483648 ≤ a ∧ a ≤ 2147483647) (hb : -2147483648 ≤ b ∧ b ≤ 2147483647) : I a < I b ↔ a < b := by rw [Int32.lt_iff_toInt_lt, I_toInt ha, I_toInt hb]
theorem I_le {a b : Int} (ha : -2147483648 ≤ a ∧ a ≤ 2147483647) (hb : -2147483648 ≤ b ∧ b ≤ 2147483647) : I a ≤ I b ↔ a ≤ b := by rw [Int32.le_iff_toInt_le, I_toInt ha, I_toInt hb]
theorem I_eq {a b : Int} (ha : -2147483648 ≤ a ∧ a ≤ 2147483647) (hb : -2147483648 ≤ b ∧ b ≤ 2147483647) : I a = I b ↔ a = b := by rw [← Int32.toInt_inj, I_toInt ha, I_toInt hb]
theorem I_0 : (0 : Int32) = I 0 := rfl
theorem I_1 : (1 : Int32) = I 1 := rfl
theorem I_ne0 {b : Int} (hb : 0 < b ∧ b ≤ 2147483647) : ¬ I b = 0 := by rw [I_0, I_eq (by omega) (by omega)]; omega
theorem I_div {a b : Int} (ha : 0 ≤ a ∧ a ≤ 2147483647) (hb : 0 < b ∧ b ≤ 2147483647) : I a / I b = I (a / b) := by
  obtain ⟨x, rfl⟩ := Int.eq_ofNat_of_zero_le ha.1
  obtain ⟨y, rfl⟩ := Int.eq_ofNat_of_zero_le (Int.le_of_lt hb.1)
  rw [I_nat, I_nat, pk_div (by omega) (by omega) (by omega), ← I_nat]; rfl
theorem I_rem {a b : Int} (ha : 0 ≤ a ∧ a ≤ 2147483647) (hb : 0 < b ∧ b ≤ 2147483647) : I a - I a / I b * I b = I (a % b) := by
  rw [I_div ha hb, I_mul, I_sub]
  congr 1
  have := Int.emod_add_mul_ediv a b
  rw [Int.mul_comm] at this
  omega
theorem I_clamp {a : Int} (ha : 0 ≤ a ∧ a ≤ 2147483647) : (I a).toNatClampNeg = a.toNat := by
  obtain ⟨x, rfl⟩ := Int.eq_ofNat_of_zero_le ha.1
  rw [I_nat, nI_clamp (by omega)]; rfl
theorem I_in {a : Int} {N : Nat} (ha : 0 ≤ a ∧ a < N) (hN : N ≤ 2147483647) : vp_in (I a) N := by
  obtain ⟨x, rfl⟩ := Int.eq_ofNat_of_zero_le ha.1
  rw [I_nat]; exact vp_in_nI (by omega) (by omega)
theorem I_nneg {a : Int} (ha : 0 ≤ a ∧ a ≤ 2147483647) : ¬ I a < 0 := by rw [I_0, I_lt (by omega) (by omega)]; omega
-- memory
abbrev Mem : Type := Nat → Nat → Int
abbrev Sk : Type := Nat → Option ((Nat → Int) → va_E)
def upE (r : Nat → Int) (k : Nat) (z : Int) : Nat → Int := fun j => if j = k then z else r j
def upR (v : Mem) (a : Nat) (r : Nat → Int) : Mem := fun b => if b = a then r else v b
def up2 (v : Mem) (a k : Nat) (z : Int) : Mem := upR v a (upE (v a) k z)
def upS (sk : Sk) (a : Nat) (f : (Nat → Int) → va_E) : Sk := fun b => if b = a then some f else sk b
theorem upE_s (r : Nat → Int) (k : Nat) (z : Int) : upE r k z k = z := if_pos rfl
theorem upE_n (r : Nat → Int) {j k : Nat} (z : Int) (h : j ≠ k) : upE r k z j = r j := if_neg h
theorem upR_s (v : Mem) (a : Nat) (r : Nat → Int) : upR v a r a = r := if_pos rfl
theorem upR_n (v : Mem) {a b : Nat} (r : Nat → Int) (h : b ≠ a) : upR v a r b = v b := if_neg h
theorem up2_s (v : Mem) (a k : Nat) (z : Int) : up2 v a k z a = upE (v a) k z := if_pos rfl
theorem up2_n (v : Mem) {a b : Nat} (k : Nat) (z : Int) (h : b ≠ a) : up2 v a k z b = v b := if_neg h
theorem upS_s (sk : Sk) (a : Nat) (f : (Nat → Int) → va_E) : upS sk a f a = some f := if_pos rfl
theorem upS_n (sk : Sk) {a b : Nat} (f : (Nat → Int) → va_E) (h : b ≠ a) : upS sk a f b = sk b := if_neg h
def Wd (D : va_G) (sk : Sk) (v : Mem) (H : Heap) : Prop := ∀ (a : Nat) (f : (Nat → Int) → va_E), sk a = some f → va_at D vwCl (a, f (v a)) H
-- the kinds of cells
def flds (r : Nat → Int) : Nat → List (Option Value) → List Value
  | _, [] => []
  | k, o :: t => (o.getD (.int (I (r k)))) :: flds r (k + 1) t
def eO (ci : Nat) (fs : List (Option Value)) : (Nat → Int) → va_E := fun r => .inr (ci, flds r 0 fs)
def eA (D : va_G) (k nn : Nat) : (Nat → Int) → va_E := fun r => .inl (D.1 k, nn, .inl (fun j => I (r j)))
def eQ (D : va_G) (k nn : Nat) (g : Nat → Option Nat) : (Nat → Int) → va_E := fun _ => .inl (D.1 k, nn, .inr (.inr (.inr (.inr g))))
theorem flds_get (r : Nat → Int) : ∀ (fs : List (Option Value)) (j k : Nat), (flds r j fs)[k]? = (fs[k]?).map (fun o => o.getD (.int (I (r (j + k)))))
  | [], j, k => by simp [flds]
  | o :: t, j, 0 => by simp [flds]
  | o :: t, j, k + 1 => by
    simp only [flds, List.getElem?_cons_succ]
    rw [flds_get r t (j + 1) k, show j + 1 + k = j + (k + 1) by omega]
theorem flds_len (r : Nat → Int) : ∀ (fs : List (Option Value)) (j : Nat), (flds r j fs).length = fs.length
  | [], j => rfl
  | o :: t, j => by simp [flds, flds_len r t (j + 1)]
theorem flds_put (r : Nat → Int) (z : Int) (fs : List (Option Value)) (k : Nat) (h : fs[k]? = some none) : flds (upE r k z) 0 fs = (flds r 0 fs).set k (.int (I z)) := by
  apply List.ext_getElem?
  intro i
  rw [List.getElem?_set, flds_get, flds_get, flds_len]
  by_cases hi : k = i
  · subst hi
    have hl := (List.getElem?_eq_some_iff.mp h).1
    rw [if_pos rfl, if_pos hl, h]
    simp [upE]
  · rw [if_neg hi]
    rw [show upE r k z (0 + i) = r (0 + i) from upE_n r z (by omega)]
theorem flds_ref (r : Nat → Int) (x : Value) (fs : List (Option Value)) (k : Nat) (h : k < fs.length) : flds r 0 (fs.set k (some x)) = (flds r 0 fs).set k x := by
  apply List.ext_getElem?
  intro i
  rw [List.getElem?_set, flds_get, flds_get, flds_len, List.getElem?_set]
  by_cases hi : k = i
  · subst hi
    simp [h]
  · simp [hi]
def tysA (D : va_G) : List (ClassId × FieldType) := [(D.1 10, .int), (D.1 11, .char), (D.1 12, .boolean), (D.1 13, .object RX0), (D.1 14, .object RX3)]
/-- private members of nest mates: the tables' words that are not among a method's own -/
def nestF : List (Nat × String × String × String) := [(99, RX0, "size", "I"), (127, RX3, "orderCounts", "[I"), (53, RX3, "parcels", "I"), (138, RX3, "text", "LBinderParcels$Binder;"), (89, RX3, "binders", "[LBinderParcels$Binder;"), (85, RX3, "waiting", "[I"), (111, RX3, "lost", "[I"), (68, RX3, "owners", "I"), (178, RX1, "size", "I"), (175, RX2, "length", "I")]
def nestM : List (String × Nat × MethodName) := [(RX3, 20, yX0_init), (RX4, 33, yX2_init), (RX4, 44, yX0_init)]
def NX (s : State) : Prop := (∀ q ∈ nestF, va_Nw (.fieldLinkNest RX4 q.1 q.2.1 q.2.2.1 q.2.2.2 RX4) s) ∧ (∀ q ∈ nestM, va_Nw (.methodLinkNest q.1 q.2.1 q.2.2 RX4) s) ∧ va_AO RX0 s ∧ va_AO RX3 s
theorem NX.warm {s U : State} (hW : s.WarmedH U.vm) (h : NX s) : NX U := ⟨fun q hq => va_Nw.warmF hW (h.1 q hq), fun q hq => va_Nw.warmM hW (h.2.1 q hq), va_AO.moved hW.alike h.2.2.1, va_AO.moved hW.alike h.2.2.2⟩
theorem NX.same {u U : State} (hv : u.vm = U.vm) (h : NX u) : NX U := ⟨fun q hq => va_Nw.same rfl hv (h.1 q hq), fun q hq => va_Nw.same rfl hv (h.2.1 q hq), va_AO.moved (by rw [hv]; exact Vm.Alike.refl _) h.2.2.1, va_AO.moved (by rw [hv]; exact Vm.Alike.refl _) h.2.2.2⟩
-- locals
def lh (ls : Array Slot) (nL : Nat) (L : List (Option Value)) : Prop := ls.size = nL ∧ lv_wf ls ∧ ∀ (k : Nat) (x : Value), L[k]? = some (some x) → ls[k]? = some (.val x)
def aL (L : List (Option Value)) : List (Nat × Value) := (List.range L.length).filterMap (fun k => (L[k]?).bind (fun o => o.map (fun x => (k, x))))
theorem aL_mem {L : List (Option Value)} {k : Nat} {x : Value} (h : L[k]? = some (some x)) : (k, x) ∈ aL L := by
  refine List.mem_filterMap.mpr ⟨k, List.mem_range.mpr (List.getElem?_eq_some_iff.mp h).1, ?_⟩
  simp [h]
theorem aL_of {L : List (Option Value)} {k : Nat} {x : Value} (h : (k, x) ∈ aL L) : L[k]? = some (some x) := by
  obtain ⟨i, -, hi⟩ := List.mem_filterMap.mp h
  cases hL : L[i]? with
  | none => simp [hL] at hi
  | some o =>
    cases o with
    | none => simp [hL] at hi
    | some y =>
      simp only [hL, Option.bind_some, Option.map_some, Option.some.injEq, Prod.mk.injEq] at hi
      obtain ⟨rfl, rfl⟩ := hi
      exact hL
theorem lh.has {ls : Array Slot} {nL : Nat} {L : List (Option Value)} (h : lh ls nL L) : lv_has ls nL (aL L) := ⟨h.1, h.2.1, fun q hq => h.2.2 q.1 q.2 (aL_of hq)⟩
/-- no long stands right ahead -/
def okst (L : List (Option Value)) : Nat → Bool
  | 0 => true
  | j + 1 => match L[j]? with
    | some (some (.long _)) => false
    | some (some (.double _)) => false
    | _ => true
theorem okst_1 {L : List (Option Value)} {i k : Nat} {y : Value} (ho : okst L i = true) (h : L[k]? = some (some y)) (hk : k + 1 = i) : (y.category == 2) = false := by
  subst hk
  simp only [okst, h] at ho
  cases y <;> first | rfl | cases ho
theorem lh.store {ls' : Array Slot} {nL i : Nat} {x : Value} {L : List (Option Value)} (ho : okst L i = true) (h : lv_has ls' nL ((i, x) :: (aL L).filter (fun q => !(q.1 == i) && !(q.1 + 1 == i && q.2.category == 2)))) : lh ls' nL (L.set i (some x)) := by
  refine ⟨h.1, h.2.1, fun k y hk => ?_⟩
  rw [List.getElem?_set] at hk
  by_cases hi : i = k
  · subst hi
    rw [if_pos rfl] at hk
    split at hk
    · cases hk
      exact h.2.2 (i, x) List.mem_cons_self
    · cases hk
  · rw [if_neg hi] at hk
    refine h.2.2 (k, y) (List.mem_cons_of_mem _ (List.mem_filter.mpr ⟨aL_mem hk, ?_⟩))
    have h1 : (k == i) = false := by simpa using fun q : k = i => hi q.symm
    by_cases h2 : k + 1 = i
    · rw [show (k, y).2.category = y.category from rfl, okst_1 ho hk h2]
      simp [h1]
    · have h3 : (k + 1 == i) = false := by simpa using h2
      simp [h1, h3]
theorem lh.store2 {ls' : Array Slot} {nL i : Nat} {x : Value} {L : List (Option Value)} (ho : okst L i = true) (h : lv_has ls' nL ((i, x) :: (aL L).filter (fun q => !(q.1 == i) && (!(q.1 == i + 1) && !(q.1 + 1 == i && q.2.category == 2))))) : lh ls' nL ((L.set i (some x)).set (i + 1) none) := by
  refine ⟨h.1, h.2.1, fun k y hk => ?_⟩
  rw [List.getElem?_set] at hk
  by_cases hj : i + 1 = k
  · rw [if_pos hj] at hk
    split at hk <;> cases hk
  · rw [if_neg hj, List.getElem?_set] at hk
    by_cases hi : i = k
    · subst hi
      rw [if_pos rfl] at hk
      split at hk
      · cases hk
        exact h.2.2 (i, x) List.mem_cons_self
      · cases hk
    · rw [if_neg hi] at hk
      refine h.2.2 (k, y) (List.mem_cons_of_mem _ (List.mem_filter.mpr ⟨aL_mem hk, ?_⟩))
      have h1 : (k == i) = false := by simpa using fun q : k = i => hi q.symm
      have h4 : (k == i + 1) = false := by simpa using fun q : k = i + 1 => hj q.symm
      by_cases h2 : k + 1 = i
      · rw [show (k, y).2.category = y.category from rfl, okst_1 ho hk h2]
        simp [h1, h4]
      · have h3 : (k + 1 == i) = false := by simpa using h2
        simp [h1, h3, h4]
def lo1 : List Value → List (Option Value)
  | [] => []
  | x :: t => if x.category = 2 then some x :: none :: lo1 t else some x :: lo1 t
def lo (vs : List Value) (n : Nat) : List (Option Value) := lo1 vs ++ List.replicate (n - (lo1 vs).length) none
theorem lo1_args : ∀ (vs : List Value) (i k : Nat) (x : Value), (lo1 vs)[k]? = some (some x) → (i + k, x) ∈ lv_args i vs
  | [], i, k, x, h => by simp [lo1] at h
  | y :: t, i, k, x, h => by
    by_cases hy : y.category = 2
    · rw [lo1, if_pos hy] at h
      match k, h with
      | 0, h => simp at h; subst h; simp [lv_args]
      | 1, h => simp at h
      | k + 2, h =>
        simp at h
        have := lo1_args t (i + 2) k x h
        rw [show i + 2 + k = i + (k + 2) by omega] at this
        simp [lv_args, hy]
        exact this
    · rw [lo1, if_neg hy] at h
      match k, h with
      | 0, h => simp at h; subst h; simp [lv_args]
      | k + 1, h =>
        simp at h
        have := lo1_args t (i + 1) k x h
        rw [show i + 1 + k = i + (k + 1) by omega] at this
        simp [lv_args, hy]
        exact this
theorem lo_lh {vs : List Value} {n : Nat} {ls : Array Slot} (h : lv_has ls n (lv_args 0 vs)) : lh ls n (lo vs n) := by
  refine ⟨h.1, h.2.1, fun k x hk => ?_⟩
  unfold lo at hk
  by_cases hl : k < (lo1 vs).length
  · rw [List.getElem?_append_left hl] at hk
    have := h.2.2 (0 + k, x) (lo1_args vs 0 k x hk)
    simpa using this
  · rw [List.getElem?_append_right (by omega)] at hk
    have := List.mem_of_getElem? hk
    simp at this
-- the context, the judgement, the contract
abbrev Cx (p : Program) (s : State) (m : MethodId) (args : Array Value) (meth : Method) (c : Code) (D : va_G) (cc : ByteArray) (nL : Nat) (own : String) (Ts : List Cond) (ret : Option FieldType) : Prop :=
  p.tables.exec = Jvm.exec ∧ c.code = cc ∧ c.maxLocals = nL ∧ s.vm.findClass own = some m.cls ∧ (∀ w ∈ Ts, w.before args s = true) ∧ va_K D vwCl (tysA D) s ∧ NX s ∧ meth.sig.returnType = ret ∧ meth.locks = false
def AJ (sk : Sk) (n : Nat) : Nat → Prop := fun q => sk q ≠ none ∨ n ≤ q
def J (p : Program) (l : Launch) (e : Env) (R : Room) (s : State) (m : MethodId) (args : Array Value) (below : List Frame) (meth : Method) (c : Code) (D : va_G) (A : Nat → Prop) (nL : Nat) (cells slots : Nat) (Q : State → Prop) (n : Nat) (sk : Sk) (v : Mem) (pc : Nat) (L : List (Option Value)) (st : List Value) : Prop :=
  ∀ (H : Heap) (locs : List Loc) (ls : Array Slot), H.size = n → (∀ a, sk a ≠ none → A a) → (∀ q, s.heap.size ≤ q → A q) → Wd D sk v H → va_S A s.heap H locs → lh ls nL L → W p l e R s m args below meth c H locs cells slots Q (F0 m pc ls st)
def QcJ (D : va_G) (n mc : Nat) (sk : Sk) (post : Option Value → Sk → Mem → Prop) : Array Value → State → Outcome → State → Prop := fun _ st oc t =>
  (∃ (r : Option Value) (sk' : Sk) (v' : Mem), oc = .returned r ∧ post r sk' v' ∧ (∀ a, sk' a ≠ none → AJ sk n a) ∧ t.heap.size = n + mc ∧ Wd D sk' v' t.heap) ∧ va_F (AJ sk n) st t
def Ct (l : Launch) (D : va_G) (y : MethodName) (ws : List Cond) (rm : Room) (mc ms : Nat) (av : List Value) (n : Nat) (sk : Sk) (v : Mem) (post : Option Value → Sk → Mem → Prop) : Prop :=
  Met l y ws rm (va_Pc av (fun U => U.heap.size = n ∧ Wd D sk v U.heap ∧ va_K D vwCl (tysA D) U ∧ NX U)) (QcJ D n mc sk post) mc ms (AJ sk n)
theorem j_narc {z : Int} (hz : 0 ≤ z ∧ z < 65536) : narrow .char (.int (I z)) = .int (I z) := by
  obtain ⟨x, rfl⟩ := Int.eq_ofNat_of_zero_le hz.1
  rw [I_nat]; exact (pk_charN (by omega)).1
theorem j_narz {z : Int} (hz : z = 0 ∨ z = 1) : narrow .boolean (.int (I z)) = .int (I z) := by
  rcases hz with rfl | rfl <;> rfl
section JA
variable {p : Program} {l : Launch} {e : Env} {R : Room} {s : State} {m : MethodId} {args : Array Value} {below : List Frame} {meth : Method} {c : Code} {D : va_G} {A : Nat → Prop} {nL cells slots n pc : Nat} {Q : State → Prop} {sk : Sk} {v : Mem} {L : List (Option Value)} {st : List Value} {cc : ByteArray} {own : String} {Ts : List Cond} {ret : Option FieldType}
theorem j_iconst (X : Cx p s m args meth c D cc nL own Ts ret) {k : Int} (d : decode cc pc = .ok (.iconst k, 1)) 
    (K : J p l e R s m args below meth c D A nL cells slots Q n sk v (pc + 1) L (.int (I k) :: st)) : J p l e R s m args below meth c D A nL cells slots Q n sk v pc L (st) := by
  intro H locs ls h1 h2 h3 h4 h5 h6
  exact lv_iconst X.1 X.2.1 d rfl (K H locs ls h1 h2 h3 h4 h5 h6)
theorem j_bipush (X : Cx p s m args meth c D cc nL own Ts ret) {k : Int} (d : decode cc pc = .ok (.bipush k, 2)) (hv : (Int8.ofInt k).toInt32 = I k)
    (K : J p l e R s m args below meth c D A nL cells slots Q n sk v (pc + 2) L (.int (I k) :: st)) : J p l e R s m args below meth c D A nL cells slots Q n sk v pc L (st) := by
  intro H locs ls h1 h2 h3 h4 h5 h6
  exact lv_bipush X.1 X.2.1 d hv (K H locs ls h1 h2 h3 h4 h5 h6)
theorem j_sipush (X : Cx p s m args meth c D cc nL own Ts ret) {k : Int} (d : decode cc pc = .ok (.sipush k, 3)) (hv : (Int16.ofInt k).toInt32 = I k)
    (K : J p l e R s m args below meth c D A nL cells slots Q n sk v (pc + 3) L (.int (I k) :: st)) : J p l e R s m args below meth c D A nL cells slots Q n sk v pc L (st) := by
  intro H locs ls h1 h2 h3 h4 h5 h6
  exact lv_sipush X.1 X.2.1 d hv (K H locs ls h1 h2 h3 h4 h5 h6)
theorem j_lconst (X : Cx p s m args meth c D cc nL own Ts ret) {k : Fin 2} (d : decode cc pc = .ok (.lconst k, 1)) 
    (K : J p l e R s m args below meth c D A nL cells slots Q n sk v (pc + 1) L (.long (lN (k : Nat)) :: st)) : J p l e R s m args below meth c D A nL cells slots Q n sk v pc L (st) := by
  intro H locs ls h1 h2 h3 h4 h5 h6
  exact lv_lconst X.1 X.2.1 d rfl (K H locs ls h1 h2 h3 h4 h5 h6)
theorem j_iload_n (X : Cx p s m args meth c D cc nL own Ts ret) {k : Fin 4} {x : Int32} (d : decode cc pc = .ok (.iload_n k, 1)) (h : L[(k : Nat)]? = some (some (.int x)))
    (K : J p l e R s m args below meth c D A nL cells slots Q n sk v (pc + 1) L (.int x :: st)) : J p l e R s m args below meth c D A nL cells slots Q n sk v pc L (st) := by
  intro H locs ls h1 h2 h3 h4 h5 h6
  exact lv_iload_n X.1 X.2.1 d rfl (h6.2.2 _ _ h) (K H locs ls h1 h2 h3 h4 h5 h6)
theorem j_iload (X : Cx p s m args meth c D cc nL own Ts ret) {k : Nat} {x : Int32} (d : decode cc pc = .ok (.iload k, 2)) (h : L[k]? = some (some (.int x)))
    (K : J p l e R s m args below meth c D A nL cells slots Q n sk v (pc + 2) L (.int x :: st)) : J p l e R s m args below meth c D A nL cells slots Q n sk v pc L (st) := by
  intro H locs ls h1 h2 h3 h4 h5 h6
  exact lv_iload X.1 X.2.1 d (h6.2.2 _ _ h) (K H locs ls h1 h2 h3 h4 h5 h6)
theorem j_aload_n (X : Cx p s m args meth c D cc nL own Ts ret) {k : Fin 4} {x : Nat} (d : decode cc pc = .ok (.aload_n k, 1)) (h : L[(k : Nat)]? = some (some (.ref x)))
    (K : J p l e R s m args below meth c D A nL cells slots Q n sk v (pc + 1) L (.ref x :: st)) : J p l e R s m args below meth c D A nL cells slots Q n sk v pc L (st) := by
  intro H locs ls h1 h2 h3 h4 h5 h6
  exact lv_aload_n X.1 X.2.1 d rfl (h6.2.2 _ _ h) (K H locs ls h1 h2 h3 h4 h5 h6)
theorem j_aload (X : Cx p s m args meth c D cc nL own Ts ret) {k : Nat} {x : Nat} (d : decode cc pc = .ok (.aload k, 2)) (h : L[k]? = some (some (.ref x)))
    (K : J p l e R s m args below meth c D A nL cells slots Q n sk v (pc + 2) L (.ref x :: st)) : J p l e R s m args below meth c D A nL cells slots Q n sk v pc L (st) := by
  intro H locs ls h1 h2 h3 h4 h5 h6
  exact lv_aload X.1 X.2.1 d (h6.2.2 _ _ h) (K H locs ls h1 h2 h3 h4 h5 h6)
theorem j_lload_n (X : Cx p s m args meth c D cc nL own Ts ret) {k : Fin 4} {x : Int64} (d : decode cc pc = .ok (.lload_n k, 1)) (h : L[(k : Nat)]? = some (some (.long x)))
    (K : J p l e R s m args below meth c D A nL cells slots Q n sk v (pc + 1) L (.long x :: st)) : J p l e R s m args below meth c D A nL cells slots Q n sk v pc L (st) := by
  intro H locs ls h1 h2 h3 h4 h5 h6
  exact lv_lload_n X.1 X.2.1 d rfl (h6.2.2 _ _ h) (K H locs ls h1 h2 h3 h4 h5 h6)
theorem j_lload (X : Cx p s m args meth c D cc nL own Ts ret) {k : Nat} {x : Int64} (d : decode cc pc = .ok (.lload k, 2)) (h : L[k]? = some (some (.long x)))
    (K : J p l e R s m args below meth c D A nL cells slots Q n sk v (pc + 2) L (.long x :: st)) : J p l e R s m args below meth c D A nL cells slots Q n sk v pc L (st) := by
  intro H locs ls h1 h2 h3 h4 h5 h6
  exact lv_lload X.1 X.2.1 d (h6.2.2 _ _ h) (K H locs ls h1 h2 h3 h4 h5 h6)
theorem j_istore_n (X : Cx p s m args meth c D cc nL own Ts ret) {k : Fin 4} {x : Int32} (d : decode cc pc = .ok (.istore_n k, 1)) (ho : okst L (k : Nat) = true) (hn : (k : Nat) < nL)
    (K : J p l e R s m args below meth c D A nL cells slots Q n sk v (pc + 1) (L.set (k : Nat) (some (.int x))) st) : J p l e R s m args below meth c D A nL cells slots Q n sk v pc L (.int x :: st) := by
  intro H locs ls h1 h2 h3 h4 h5 h6
  exact lv_istore_n X.1 X.2.1 d rfl h6.has hn rfl (fun ls' h' => K H locs ls' h1 h2 h3 h4 h5 (lh.store ho h'))
theorem j_istore (X : Cx p s m args meth c D cc nL own Ts ret) {k : Nat} {x : Int32} (d : decode cc pc = .ok (.istore k, 2)) (ho : okst L k = true) (hn : k < nL)
    (K : J p l e R s m args below meth c D A nL cells slots Q n sk v (pc + 2) (L.set k (some (.int x))) st) : J p l e R s m args below meth c D A nL cells slots Q n sk v pc L (.int x :: st) := by
  intro H locs ls h1 h2 h3 h4 h5 h6
  exact lv_istore X.1 X.2.1 d h6.has hn rfl (fun ls' h' => K H locs ls' h1 h2 h3 h4 h5 (lh.store ho h'))
theorem j_astore_n (X : Cx p s m args meth c D cc nL own Ts ret) {k : Fin 4} {x : Nat} (d : decode cc pc = .ok (.astore_n k, 1)) (ho : okst L (k : Nat) = true) (hn : (k : Nat) < nL)
    (K : J p l e R s m args below meth c D A nL cells slots Q n sk v (pc + 1) (L.set (k : Nat) (some (.ref x))) st) : J p l e R s m args below meth c D A nL cells slots Q n sk v pc L (.ref x :: st) := by
  intro H locs ls h1 h2 h3 h4 h5 h6
  exact lv_astore_n X.1 X.2.1 d rfl h6.has hn rfl (fun ls' h' => K H locs ls' h1 h2 h3 h4 h5 (lh.store ho h'))
theorem j_astore (X : Cx p s m args meth c D cc nL own Ts ret) {k : Nat} {x : Nat} (d : decode cc pc = .ok (.astore k, 2)) (ho : okst L k = true) (hn : k < nL)
    (K : J p l e R s m args below meth c D A nL cells slots Q n sk v (pc + 2) (L.set k (some (.ref x))) st) : J p l e R s m args below meth c D A nL cells slots Q n sk v pc L (.ref x :: st) := by
  intro H locs ls h1 h2 h3 h4 h5 h6
  exact lv_astore X.1 X.2.1 d h6.has hn rfl (fun ls' h' => K H locs ls' h1 h2 h3 h4 h5 (lh.store ho h'))
theorem j_lstore_n (X : Cx p s m args meth c D cc nL own Ts ret) {k : Fin 4} {x : Int64} (d : decode cc pc = .ok (.lstore_n k, 1)) (ho : okst L (k : Nat) = true) (hn : (k : Nat) + 1 < nL)
    (K : J p l e R s m args below meth c D A nL cells slots Q n sk v (pc + 1) ((L.set (k : Nat) (some (.long x))).set ((k : Nat) + 1) none) st) : J p l e R s m args below meth c D A nL cells slots Q n sk v pc L (.long x :: st) := by
  intro H locs ls h1 h2 h3 h4 h5 h6
  exact lv_lstore_n X.1 X.2.1 d rfl h6.has hn rfl (fun ls' h' => K H locs ls' h1 h2 h3 h4 h5 (lh.store2 ho h'))
theorem j_lstore (X : Cx p s m args meth c D cc nL own Ts ret) {k : Nat} {x : Int64} (d : decode cc pc = .ok (.lstore k, 2)) (ho : okst L k = true) (hn : k + 1 < nL)
    (K : J p l e R s m args below meth c D A nL cells slots Q n sk v (pc + 2) ((L.set k (some (.long x))).set (k + 1) none) st) : J p l e R s m args below meth c D A nL cells slots Q n sk v pc L (.long x :: st) := by
  intro H locs ls h1 h2 h3 h4 h5 h6
  exact lv_lstore X.1 X.2.1 d h6.has hn rfl (fun ls' h' => K H locs ls' h1 h2 h3 h4 h5 (lh.store2 ho h'))
theorem aL_place {L : List (Option Value)} {i : Nat} {x : Value} (h : L[i]? = some (some x)) : ∃ k : Nat, (aL L)[k]? = some (i, x) := List.getElem?_of_mem (aL_mem h)
theorem j_iinc (X : Cx p s m args meth c D cc nL own Ts ret) {k : Nat} {z w : Int} (d : decode cc pc = .ok (.iinc k w, 3)) (h : L[k]? = some (some (.int (I z)))) (ho : okst L k = true) (hn : k < nL)
    (K : J p l e R s m args below meth c D A nL cells slots Q n sk v (pc + 3) (L.set k (some (.int (I (z + w))))) st) : J p l e R s m args below meth c D A nL cells slots Q n sk v pc L st := by
  intro H locs ls h1 h2 h3 h4 h5 h6
  obtain ⟨j, hj⟩ := aL_place h
  exact lv_iinc X.1 X.2.1 d h6.has hj (I_add z w) hn rfl (fun ls' h' => K H locs ls' h1 h2 h3 h4 h5 (lh.store ho h'))
theorem j_iadd (X : Cx p s m args meth c D cc nL own Ts ret) {x y : Int} (d : decode cc pc = .ok (.iadd, 1)) 
    (K : J p l e R s m args below meth c D A nL cells slots Q n sk v (pc + 1) L (.int (I (x + y)) :: st)) : J p l e R s m args below meth c D A nL cells slots Q n sk v pc L (.int (I y) :: .int (I x) :: st) := by
  intro H locs ls h1 h2 h3 h4 h5 h6
  exact lv_iadd X.1 X.2.1 d (by rw [I_add]; exact K H locs ls h1 h2 h3 h4 h5 h6)
theorem j_isub (X : Cx p s m args meth c D cc nL own Ts ret) {x y : Int} (d : decode cc pc = .ok (.isub, 1)) 
    (K : J p l e R s m args below meth c D A nL cells slots Q n sk v (pc + 1) L (.int (I (x - y)) :: st)) : J p l e R s m args below meth c D A nL cells slots Q n sk v pc L (.int (I y) :: .int (I x) :: st) := by
  intro H locs ls h1 h2 h3 h4 h5 h6
  exact lv_isub X.1 X.2.1 d (by rw [I_sub]; exact K H locs ls h1 h2 h3 h4 h5 h6)
theorem j_imul (X : Cx p s m args meth c D cc nL own Ts ret) {x y : Int} (d : decode cc pc = .ok (.imul, 1)) 
    (K : J p l e R s m args below meth c D A nL cells slots Q n sk v (pc + 1) L (.int (I (x * y)) :: st)) : J p l e R s m args below meth c D A nL cells slots Q n sk v pc L (.int (I y) :: .int (I x) :: st) := by
  intro H locs ls h1 h2 h3 h4 h5 h6
  exact lv_imul X.1 X.2.1 d (by rw [I_mul]; exact K H locs ls h1 h2 h3 h4 h5 h6)
theorem j_idiv (X : Cx p s m args meth c D cc nL own Ts ret) {x y : Int} (d : decode cc pc = .ok (.idiv, 1)) (hx : 0 ≤ x ∧ x ≤ 2147483647) (hy : 0 < y ∧ y ≤ 2147483647)
    (K : J p l e R s m args below meth c D A nL cells slots Q n sk v (pc + 1) L (.int (I (x / y)) :: st)) : J p l e R s m args below meth c D A nL cells slots Q n sk v pc L (.int (I y) :: .int (I x) :: st) := by
  intro H locs ls h1 h2 h3 h4 h5 h6
  exact lv_idiv X.1 X.2.1 d (I_ne0 hy) (by rw [I_div hx hy]; exact K H locs ls h1 h2 h3 h4 h5 h6)
theorem j_irem (X : Cx p s m args meth c D cc nL own Ts ret) {x y : Int} (d : decode cc pc = .ok (.irem, 1)) (hx : 0 ≤ x ∧ x ≤ 2147483647) (hy : 0 < y ∧ y ≤ 2147483647)
    (K : J p l e R s m args below meth c D A nL cells slots Q n sk v (pc + 1) L (.int (I (x % y)) :: st)) : J p l e R s m args below meth c D A nL cells slots Q n sk v pc L (.int (I y) :: .int (I x) :: st) := by
  intro H locs ls h1 h2 h3 h4 h5 h6
  exact lv_irem X.1 X.2.1 d (I_ne0 hy) (by rw [I_rem hx hy]; exact K H locs ls h1 h2 h3 h4 h5 h6)
theorem j_iand (X : Cx p s m args meth c D cc nL own Ts ret) {x y : Int32} {z : Int} (d : decode cc pc = .ok (.iand, 1)) (hv : x &&& y = I z)
    (K : J p l e R s m args below meth c D A nL cells slots Q n sk v (pc + 1) L (.int (I z) :: st)) : J p l e R s m args below meth c D A nL cells slots Q n sk v pc L (.int y :: .int x :: st) := by
  intro H locs ls h1 h2 h3 h4 h5 h6
  exact lv_iand X.1 X.2.1 d (by rw [hv]; exact K H locs ls h1 h2 h3 h4 h5 h6)
theorem j_ior (X : Cx p s m args meth c D cc nL own Ts ret) {x y : Int32} {z : Int} (d : decode cc pc = .ok (.ior, 1)) (hv : x ||| y = I z)
    (K : J p l e R s m args below meth c D A nL cells slots Q n sk v (pc + 1) L (.int (I z) :: st)) : J p l e R s m args below meth c D A nL cells slots Q n sk v pc L (.int y :: .int x :: st) := by
  intro H locs ls h1 h2 h3 h4 h5 h6
  exact lv_ior X.1 X.2.1 d (by rw [hv]; exact K H locs ls h1 h2 h3 h4 h5 h6)
theorem j_ixor (X : Cx p s m args meth c D cc nL own Ts ret) {x y : Int32} {z : Int} (d : decode cc pc = .ok (.ixor, 1)) (hv : x ^^^ y = I z)
    (K : J p l e R s m args below meth c D A nL cells slots Q n sk v (pc + 1) L (.int (I z) :: st)) : J p l e R s m args below meth c D A nL cells slots Q n sk v pc L (.int y :: .int x :: st) := by
  intro H locs ls h1 h2 h3 h4 h5 h6
  exact lv_ixor X.1 X.2.1 d (by rw [hv]; exact K H locs ls h1 h2 h3 h4 h5 h6)
theorem j_ishl (X : Cx p s m args meth c D cc nL own Ts ret) {x y : Int32} {z : Int} (d : decode cc pc = .ok (.ishl, 1)) (hv : x <<< (y &&& 31) = I z)
    (K : J p l e R s m args below meth c D A nL cells slots Q n sk v (pc + 1) L (.int (I z) :: st)) : J p l e R s m args below meth c D A nL cells slots Q n sk v pc L (.int y :: .int x :: st) := by
  intro H locs ls h1 h2 h3 h4 h5 h6
  exact lv_ishl X.1 X.2.1 d (by rw [hv]; exact K H locs ls h1 h2 h3 h4 h5 h6)
theorem j_ishr (X : Cx p s m args meth c D cc nL own Ts ret) {x y : Int32} {z : Int} (d : decode cc pc = .ok (.ishr, 1)) (hv : x >>> (y &&& 31) = I z)
    (K : J p l e R s m args below meth c D A nL cells slots Q n sk v (pc + 1) L (.int (I z) :: st)) : J p l e R s m args below meth c D A nL cells slots Q n sk v pc L (.int y :: .int x :: st) := by
  intro H locs ls h1 h2 h3 h4 h5 h6
  exact lv_ishr X.1 X.2.1 d (by rw [hv]; exact K H locs ls h1 h2 h3 h4 h5 h6)
theorem j_iushr (X : Cx p s m args meth c D cc nL own Ts ret) {x y : Int32} {z : Int32} (d : decode cc pc = .ok (.iushr, 1)) (hv : (x.toUInt32 >>> (y.toUInt32 &&& Int32.toUInt32 31)).toInt32 = z)
    (K : J p l e R s m args below meth c D A nL cells slots Q n sk v (pc + 1) L (.int z :: st)) : J p l e R s m args below meth c D A nL cells slots Q n sk v pc L (.int y :: .int x :: st) := by
  intro H locs ls h1 h2 h3 h4 h5 h6
  exact lv_iushr X.1 X.2.1 d hv (K H locs ls h1 h2 h3 h4 h5 h6)
theorem jr_iadd (X : Cx p s m args meth c D cc nL own Ts ret) {x y : Int32} (d : decode cc pc = .ok (.iadd, 1)) 
    (K : J p l e R s m args below meth c D A nL cells slots Q n sk v (pc + 1) L (.int (x + y) :: st)) : J p l e R s m args below meth c D A nL cells slots Q n sk v pc L (.int y :: .int x :: st) := by
  intro H locs ls h1 h2 h3 h4 h5 h6
  exact lv_iadd X.1 X.2.1 d (K H locs ls h1 h2 h3 h4 h5 h6)
theorem jr_isub (X : Cx p s m args meth c D cc nL own Ts ret) {x y : Int32} (d : decode cc pc = .ok (.isub, 1)) 
    (K : J p l e R s m args below meth c D A nL cells slots Q n sk v (pc + 1) L (.int (x - y) :: st)) : J p l e R s m args below meth c D A nL cells slots Q n sk v pc L (.int y :: .int x :: st) := by
  intro H locs ls h1 h2 h3 h4 h5 h6
  exact lv_isub X.1 X.2.1 d (K H locs ls h1 h2 h3 h4 h5 h6)
theorem jr_iand (X : Cx p s m args meth c D cc nL own Ts ret) {x y : Int32} (d : decode cc pc = .ok (.iand, 1)) 
    (K : J p l e R s m args below meth c D A nL cells slots Q n sk v (pc + 1) L (.int (x &&& y) :: st)) : J p l e R s m args below meth c D A nL cells slots Q n sk v pc L (.int y :: .int x :: st) := by
  intro H locs ls h1 h2 h3 h4 h5 h6
  exact lv_iand X.1 X.2.1 d (K H locs ls h1 h2 h3 h4 h5 h6)
theorem j_i2l (X : Cx p s m args meth c D cc nL own Ts ret) {x : Int32} {z : Int64} (d : decode cc pc = .ok (.i2l, 1)) (hv : x.toInt64 = z)
    (K : J p l e R s m args below meth c D A nL cells slots Q n sk v (pc + 1) L (.long z :: st)) : J p l e R s m args below meth c D A nL cells slots Q n sk v pc L (.int x :: st) := by
  intro H locs ls h1 h2 h3 h4 h5 h6
  exact lv_i2l X.1 X.2.1 d hv (K H locs ls h1 h2 h3 h4 h5 h6)
theorem j_l2i (X : Cx p s m args meth c D cc nL own Ts ret) {x : Int64} {z : Int} (d : decode cc pc = .ok (.l2i, 1)) (hv : x.toInt32 = I z)
    (K : J p l e R s m args below meth c D A nL cells slots Q n sk v (pc + 1) L (.int (I z) :: st)) : J p l e R s m args below meth c D A nL cells slots Q n sk v pc L (.long x :: st) := by
  intro H locs ls h1 h2 h3 h4 h5 h6
  exact lv_l2i X.1 X.2.1 d hv (K H locs ls h1 h2 h3 h4 h5 h6)
theorem j_i2c (X : Cx p s m args meth c D cc nL own Ts ret) {x : Int32} {z : Int} (d : decode cc pc = .ok (.i2c, 1)) (hv : (x.toUInt32 % 65536).toInt32 = I z)
    (K : J p l e R s m args below meth c D A nL cells slots Q n sk v (pc + 1) L (.int (I z) :: st)) : J p l e R s m args below meth c D A nL cells slots Q n sk v pc L (.int x :: st) := by
  intro H locs ls h1 h2 h3 h4 h5 h6
  exact lv_i2c X.1 X.2.1 d hv (K H locs ls h1 h2 h3 h4 h5 h6)
theorem j_land (X : Cx p s m args meth c D cc nL own Ts ret) {x y z : Int64} (d : decode cc pc = .ok (.land, 1)) (hv : x &&& y = z)
    (K : J p l e R s m args below meth c D A nL cells slots Q n sk v (pc + 1) L (.long z :: st)) : J p l e R s m args below meth c D A nL cells slots Q n sk v pc L (.long y :: .long x :: st) := by
  intro H locs ls h1 h2 h3 h4 h5 h6
  exact lv_land X.1 X.2.1 d (by rw [hv]; exact K H locs ls h1 h2 h3 h4 h5 h6)
theorem j_lor (X : Cx p s m args meth c D cc nL own Ts ret) {x y z : Int64} (d : decode cc pc = .ok (.lor, 1)) (hv : x ||| y = z)
    (K : J p l e R s m args below meth c D A nL cells slots Q n sk v (pc + 1) L (.long z :: st)) : J p l e R s m args below meth c D A nL cells slots Q n sk v pc L (.long y :: .long x :: st) := by
  intro H locs ls h1 h2 h3 h4 h5 h6
  exact lv_lor X.1 X.2.1 d (by rw [hv]; exact K H locs ls h1 h2 h3 h4 h5 h6)
theorem j_lushr (X : Cx p s m args meth c D cc nL own Ts ret) {x z : Int64} {y : Int32} (d : decode cc pc = .ok (.lushr, 1)) (hv : (x.toUInt64 >>> (y.toInt64.toUInt64 &&& Int64.toUInt64 63)).toInt64 = z)
    (K : J p l e R s m args below meth c D A nL cells slots Q n sk v (pc + 1) L (.long z :: st)) : J p l e R s m args below meth c D A nL cells slots Q n sk v pc L (.int y :: .long x :: st) := by
  intro H locs ls h1 h2 h3 h4 h5 h6
  exact lv_lushr X.1 X.2.1 d hv (K H locs ls h1 h2 h3 h4 h5 h6)
theorem j_lshl (X : Cx p s m args meth c D cc nL own Ts ret) {x z : Int64} {y : Int32} (d : decode cc pc = .ok (.lshl, 1)) (hv : x <<< (y.toInt64 &&& 63) = z)
    (K : J p l e R s m args below meth c D A nL cells slots Q n sk v (pc + 1) L (.long z :: st)) : J p l e R s m args below meth c D A nL cells slots Q n sk v pc L (.int y :: .long x :: st) := by
  intro H locs ls h1 h2 h3 h4 h5 h6
  exact lv_lshl X.1 X.2.1 d hv (K H locs ls h1 h2 h3 h4 h5 h6)
theorem j_dup (X : Cx p s m args meth c D cc nL own Ts ret) {x : Value} (d : decode cc pc = .ok (.dup, 1)) (hx : x.category = 1)
    (K : J p l e R s m args below meth c D A nL cells slots Q n sk v (pc + 1) L (x :: x :: st)) : J p l e R s m args below meth c D A nL cells slots Q n sk v pc L (x :: st) := by
  intro H locs ls h1 h2 h3 h4 h5 h6
  exact lv_dup X.1 X.2.1 d hx (K H locs ls h1 h2 h3 h4 h5 h6)
theorem j_dup2 (X : Cx p s m args meth c D cc nL own Ts ret) {x y : Value} (d : decode cc pc = .ok (.dup2, 1)) (hx : x.category = 1) (hy : y.category = 1)
    (K : J p l e R s m args below meth c D A nL cells slots Q n sk v (pc + 1) L (y :: x :: y :: x :: st)) : J p l e R s m args below meth c D A nL cells slots Q n sk v pc L (y :: x :: st) := by
  intro H locs ls h1 h2 h3 h4 h5 h6
  exact lv_dup2_11 X.1 X.2.1 d (by first | exact hx | exact hy) (by first | exact hy | exact hx) (K H locs ls h1 h2 h3 h4 h5 h6)
theorem j_icmp_eq (X : Cx p s m args meth c D cc nL own Ts ret) {x y off : Int} {tgt : Nat} (d : decode cc pc = .ok (.if_icmp .eq off, 3)) (hB : (-2147483648 ≤ x ∧ x ≤ 2147483647) ∧ (-2147483648 ≤ y ∧ y ≤ 2147483647)) (ht : (pc : Int) + off = (tgt : Int))
    (Kt : x = y → J p l e R s m args below meth c D A nL cells slots Q n sk v tgt L st) (Kf : ¬ x = y → J p l e R s m args below meth c D A nL cells slots Q n sk v (pc + 3) L st) : J p l e R s m args below meth c D A nL cells slots Q n sk v pc L (.int (I y) :: .int (I x) :: st) := by
  intro H locs ls h1 h2 h3 h4 h5 h6
  exact lv_icmp_eq X.1 X.2.1 d ht (fun q => Kt ((I_eq hB.1 hB.2).mp q) H locs ls h1 h2 h3 h4 h5 h6) (fun q => Kf (fun z => q ((I_eq hB.1 hB.2).mpr z)) H locs ls h1 h2 h3 h4 h5 h6)
theorem j_if_eq (X : Cx p s m args meth c D cc nL own Ts ret) {x off : Int} {tgt : Nat} (d : decode cc pc = .ok (.ifCond .eq off, 3)) (hB : -2147483648 ≤ x ∧ x ≤ 2147483647) (ht : (pc : Int) + off = (tgt : Int))
    (Kt : x = 0 → J p l e R s m args below meth c D A nL cells slots Q n sk v tgt L st) (Kf : ¬ x = 0 → J p l e R s m args below meth c D A nL cells slots Q n sk v (pc + 3) L st) : J p l e R s m args below meth c D A nL cells slots Q n sk v pc L (.int (I x) :: st) := by
  intro H locs ls h1 h2 h3 h4 h5 h6
  exact lv_if_eq X.1 X.2.1 d ht (fun q => Kt ((I_eq (b := 0) hB (by omega)).mp q) H locs ls h1 h2 h3 h4 h5 h6) (fun q => Kf (fun z => q ((I_eq (b := 0) hB (by omega)).mpr z)) H locs ls h1 h2 h3 h4 h5 h6)
theorem j_icmp_ne (X : Cx p s m args meth c D cc nL own Ts ret) {x y off : Int} {tgt : Nat} (d : decode cc pc = .ok (.if_icmp .ne off, 3)) (hB : (-2147483648 ≤ x ∧ x ≤ 2147483647) ∧ (-2147483648 ≤ y ∧ y ≤ 2147483647)) (ht : (pc : Int) + off = (tgt : Int))
    (Kt : ¬ x = y → J p l e R s m args below meth c D A nL cells slots Q n sk v tgt L st) (Kf : x = y → J p l e R s m args below meth c D A nL cells slots Q n sk v (pc + 3) L st) : J p l e R s m args below meth c D A nL cells slots Q n sk v pc L (.int (I y) :: .int (I x) :: st) := by
  intro H locs ls h1 h2 h3 h4 h5 h6
  exact lv_icmp_ne X.1 X.2.1 d ht (fun q => Kt (fun z => q ((I_eq hB.1 hB.2).mpr z)) H locs ls h1 h2 h3 h4 h5 h6) (fun q => Kf ((I_eq hB.1 hB.2).mp q) H locs ls h1 h2 h3 h4 h5 h6)
theorem j_if_ne (X : Cx p s m args meth c D cc nL own Ts ret) {x off : Int} {tgt : Nat} (d : decode cc pc = .ok (.ifCond .ne off, 3)) (hB : -2147483648 ≤ x ∧ x ≤ 2147483647) (ht : (pc : Int) + off = (tgt : Int))
    (Kt : ¬ x = 0 → J p l e R s m args below meth c D A nL cells slots Q n sk v tgt L st) (Kf : x = 0 → J p l e R s m args below meth c D A nL cells slots Q n sk v (pc + 3) L st) : J p l e R s m args below meth c D A nL cells slots Q n sk v pc L (.int (I x) :: st) := by
  intro H locs ls h1 h2 h3 h4 h5 h6
  exact lv_if_ne X.1 X.2.1 d ht (fun q => Kt (fun z => q ((I_eq (b := 0) hB (by omega)).mpr z)) H locs ls h1 h2 h3 h4 h5 h6) (fun q => Kf ((I_eq (b := 0) hB (by omega)).mp q) H locs ls h1 h2 h3 h4 h5 h6)
theorem j_icmp_lt (X : Cx p s m args meth c D cc nL own Ts ret) {x y off : Int} {tgt : Nat} (d : decode cc pc = .ok (.if_icmp .lt off, 3)) (hB : (-2147483648 ≤ x ∧ x ≤ 2147483647) ∧ (-2147483648 ≤ y ∧ y ≤ 2147483647)) (ht : (pc : Int) + off = (tgt : Int))
    (Kt : x < y → J p l e R s m args below meth c D A nL cells slots Q n sk v tgt L st) (Kf : ¬ x < y → J p l e R s m args below meth c D A nL cells slots Q n sk v (pc + 3) L st) : J p l e R s m args below meth c D A nL cells slots Q n sk v pc L (.int (I y) :: .int (I x) :: st) := by
  intro H locs ls h1 h2 h3 h4 h5 h6
  exact lv_icmp_lt X.1 X.2.1 d ht (fun q => Kt ((I_lt hB.1 hB.2).mp q) H locs ls h1 h2 h3 h4 h5 h6) (fun q => Kf (fun z => q ((I_lt hB.1 hB.2).mpr z)) H locs ls h1 h2 h3 h4 h5 h6)
theorem j_if_lt (X : Cx p s m args meth c D cc nL own Ts ret) {x off : Int} {tgt : Nat} (d : decode cc pc = .ok (.ifCond .lt off, 3)) (hB : -2147483648 ≤ x ∧ x ≤ 2147483647) (ht : (pc : Int) + off = (tgt : Int))
    (Kt : x < 0 → J p l e R s m args below meth c D A nL cells slots Q n sk v tgt L st) (Kf : ¬ x < 0 → J p l e R s m args below meth c D A nL cells slots Q n sk v (pc + 3) L st) : J p l e R s m args below meth c D A nL cells slots Q n sk v pc L (.int (I x) :: st) := by
  intro H locs ls h1 h2 h3 h4 h5 h6
  exact lv_if_lt X.1 X.2.1 d ht (fun q => Kt ((I_lt (b := 0) hB (by omega)).mp q) H locs ls h1 h2 h3 h4 h5 h6) (fun q => Kf (fun z => q ((I_lt (b := 0) hB (by omega)).mpr z)) H locs ls h1 h2 h3 h4 h5 h6)
theorem j_icmp_ge (X : Cx p s m args meth c D cc nL own Ts ret) {x y off : Int} {tgt : Nat} (d : decode cc pc = .ok (.if_icmp .ge off, 3)) (hB : (-2147483648 ≤ x ∧ x ≤ 2147483647) ∧ (-2147483648 ≤ y ∧ y ≤ 2147483647)) (ht : (pc : Int) + off = (tgt : Int))
    (Kt : y ≤ x → J p l e R s m args below meth c D A nL cells slots Q n sk v tgt L st) (Kf : ¬ y ≤ x → J p l e R s m args below meth c D A nL cells slots Q n sk v (pc + 3) L st) : J p l e R s m args below meth c D A nL cells slots Q n sk v pc L (.int (I y) :: .int (I x) :: st) := by
  intro H locs ls h1 h2 h3 h4 h5 h6
  exact lv_icmp_ge X.1 X.2.1 d ht (fun q => Kt ((I_le hB.2 hB.1).mp q) H locs ls h1 h2 h3 h4 h5 h6) (fun q => Kf (fun z => q ((I_le hB.2 hB.1).mpr z)) H locs ls h1 h2 h3 h4 h5 h6)
theorem j_if_ge (X : Cx p s m args meth c D cc nL own Ts ret) {x off : Int} {tgt : Nat} (d : decode cc pc = .ok (.ifCond .ge off, 3)) (hB : -2147483648 ≤ x ∧ x ≤ 2147483647) (ht : (pc : Int) + off = (tgt : Int))
    (Kt : 0 ≤ x → J p l e R s m args below meth c D A nL cells slots Q n sk v tgt L st) (Kf : ¬ 0 ≤ x → J p l e R s m args below meth c D A nL cells slots Q n sk v (pc + 3) L st) : J p l e R s m args below meth c D A nL cells slots Q n sk v pc L (.int (I x) :: st) := by
  intro H locs ls h1 h2 h3 h4 h5 h6
  exact lv_if_ge X.1 X.2.1 d ht (fun q => Kt ((I_le (a := 0) (by omega) hB).mp q) H locs ls h1 h2 h3 h4 h5 h6) (fun q => Kf (fun z => q ((I_le (a := 0) (by omega) hB).mpr z)) H locs ls h1 h2 h3 h4 h5 h6)
theorem j_icmp_gt (X : Cx p s m args meth c D cc nL own Ts ret) {x y off : Int} {tgt : Nat} (d : decode cc pc = .ok (.if_icmp .gt off, 3)) (hB : (-2147483648 ≤ x ∧ x ≤ 2147483647) ∧ (-2147483648 ≤ y ∧ y ≤ 2147483647)) (ht : (pc : Int) + off = (tgt : Int))
    (Kt : y < x → J p l e R s m args below meth c D A nL cells slots Q n sk v tgt L st) (Kf : ¬ y < x → J p l e R s m args below meth c D A nL cells slots Q n sk v (pc + 3) L st) : J p l e R s m args below meth c D A nL cells slots Q n sk v pc L (.int (I y) :: .int (I x) :: st) := by
  intro H locs ls h1 h2 h3 h4 h5 h6
  exact lv_icmp_gt X.1 X.2.1 d ht (fun q => Kt ((I_lt hB.2 hB.1).mp q) H locs ls h1 h2 h3 h4 h5 h6) (fun q => Kf (fun z => q ((I_lt hB.2 hB.1).mpr z)) H locs ls h1 h2 h3 h4 h5 h6)
theorem j_if_gt (X : Cx p s m args meth c D cc nL own Ts ret) {x off : Int} {tgt : Nat} (d : decode cc pc = .ok (.ifCond .gt off, 3)) (hB : -2147483648 ≤ x ∧ x ≤ 2147483647) (ht : (pc : Int) + off = (tgt : Int))
    (Kt : 0 < x → J p l e R s m args below meth c D A nL cells slots Q n sk v tgt L st) (Kf : ¬ 0 < x → J p l e R s m args below meth c D A nL cells slots Q n sk v (pc + 3) L st) : J p l e R s m args below meth c D A nL cells slots Q n sk v pc L (.int (I x) :: st) := by
  intro H locs ls h1 h2 h3 h4 h5 h6
  exact lv_if_gt X.1 X.2.1 d ht (fun q => Kt ((I_lt (a := 0) (by omega) hB).mp q) H locs ls h1 h2 h3 h4 h5 h6) (fun q => Kf (fun z => q ((I_lt (a := 0) (by omega) hB).mpr z)) H locs ls h1 h2 h3 h4 h5 h6)
theorem j_icmp_le (X : Cx p s m args meth c D cc nL own Ts ret) {x y off : Int} {tgt : Nat} (d : decode cc pc = .ok (.if_icmp .le off, 3)) (hB : (-2147483648 ≤ x ∧ x ≤ 2147483647) ∧ (-2147483648 ≤ y ∧ y ≤ 2147483647)) (ht : (pc : Int) + off = (tgt : Int))
    (Kt : x ≤ y → J p l e R s m args below meth c D A nL cells slots Q n sk v tgt L st) (Kf : ¬ x ≤ y → J p l e R s m args below meth c D A nL cells slots Q n sk v (pc + 3) L st) : J p l e R s m args below meth c D A nL cells slots Q n sk v pc L (.int (I y) :: .int (I x) :: st) := by
  intro H locs ls h1 h2 h3 h4 h5 h6
  exact lv_icmp_le X.1 X.2.1 d ht (fun q => Kt ((I_le hB.1 hB.2).mp q) H locs ls h1 h2 h3 h4 h5 h6) (fun q => Kf (fun z => q ((I_le hB.1 hB.2).mpr z)) H locs ls h1 h2 h3 h4 h5 h6)
theorem j_if_le (X : Cx p s m args meth c D cc nL own Ts ret) {x off : Int} {tgt : Nat} (d : decode cc pc = .ok (.ifCond .le off, 3)) (hB : -2147483648 ≤ x ∧ x ≤ 2147483647) (ht : (pc : Int) + off = (tgt : Int))
    (Kt : x ≤ 0 → J p l e R s m args below meth c D A nL cells slots Q n sk v tgt L st) (Kf : ¬ x ≤ 0 → J p l e R s m args below meth c D A nL cells slots Q n sk v (pc + 3) L st) : J p l e R s m args below meth c D A nL cells slots Q n sk v pc L (.int (I x) :: st) := by
  intro H locs ls h1 h2 h3 h4 h5 h6
  exact lv_if_le X.1 X.2.1 d ht (fun q => Kt ((I_le (b := 0) hB (by omega)).mp q) H locs ls h1 h2 h3 h4 h5 h6) (fun q => Kf (fun z => q ((I_le (b := 0) hB (by omega)).mpr z)) H locs ls h1 h2 h3 h4 h5 h6)
theorem j_goto (X : Cx p s m args meth c D cc nL own Ts ret) {off : Int} {tgt : Nat} (d : decode cc pc = .ok (.goto off, 3)) (ht : (pc : Int) + off = (tgt : Int))
    (K : J p l e R s m args below meth c D A nL cells slots Q n sk v tgt L st) : J p l e R s m args below meth c D A nL cells slots Q n sk v pc L st := by
  intro H locs ls h1 h2 h3 h4 h5 h6
  exact lv_goto X.1 X.2.1 d ht (K H locs ls h1 h2 h3 h4 h5 h6)
theorem j_tabOut (X : Cx p s m args meth c D cc nL own Ts ret) {x dflt lo hi : Int} {offs : Array Int} {len tgt : Nat} (d : decode cc pc = .ok (.tableswitch dflt lo hi offs, len)) (hB : -2147483648 ≤ x ∧ x ≤ 2147483647) (h : x < lo ∨ hi < x) (ht : (pc : Int) + dflt = (tgt : Int))
    (K : J p l e R s m args below meth c D A nL cells slots Q n sk v tgt L st) : J p l e R s m args below meth c D A nL cells slots Q n sk v pc L (.int (I x) :: st) := by
  intro H locs ls h1 h2 h3 h4 h5 h6
  exact lv_tableOut X.1 X.2.1 d (by rw [I_toInt hB]; exact h) ht (K H locs ls h1 h2 h3 h4 h5 h6)
theorem j_tabIn (X : Cx p s m args meth c D cc nL own Ts ret) {x dflt lo hi off : Int} {offs : Array Int} {len tgt : Nat} (d : decode cc pc = .ok (.tableswitch dflt lo hi offs, len)) (hB : -2147483648 ≤ x ∧ x ≤ 2147483647) (h : lo ≤ x ∧ x ≤ hi) (ho : offs[(x - lo).toNat]? = some off) (ht : (pc : Int) + off = (tgt : Int))
    (K : J p l e R s m args below meth c D A nL cells slots Q n sk v tgt L st) : J p l e R s m args below meth c D A nL cells slots Q n sk v pc L (.int (I x) :: st) := by
  intro H locs ls h1 h2 h3 h4 h5 h6
  exact lv_tableIn X.1 X.2.1 d (by rw [I_toInt hB]; omega) (by rw [I_toInt hB]; omega) (by rw [I_toInt hB]; exact ho) ht (K H locs ls h1 h2 h3 h4 h5 h6)
theorem Wd.one {H : Heap} {a : Nat} {f : (Nat → Int) → va_E} {x : va_E} (h : Wd D sk v H) (hs : sk a = some f) (hx : f (v a) = x) : va_P D vwCl [(a, x)] H := by
  subst hx
  intro k q hk
  cases k with
  | zero => cases hk; exact h _ _ hs
  | succ k => simp at hk
theorem Wd.set {H H1 : Heap} {a : Nat} {f g : (Nat → Int) → va_E} {r : Nat → Int} (h : Wd D sk v H) (hs : sk a = some f) (he : va_at D vwCl (a, g r) H1) (oq : ∀ q : Nat, q ≠ a → H1[q]? = H[q]?) : Wd D (upS sk a g) (upR v a r) H1 := by
  intro b f' hb
  by_cases hq : b = a
  · subst hq
    rw [upS_s] at hb
    cases hb
    rw [upR_s]
    exact he
  · rw [upS_n _ _ hq] at hb
    rw [upR_n _ _ hq]
    exact (h b f' hb).kept (oq b hq)
theorem upS_id {a : Nat} {f : (Nat → Int) → va_E} (hs : sk a = some f) : upS sk a f = sk := by
  funext b
  by_cases hq : b = a
  · subst hq; rw [upS_s, hs]
  · rw [upS_n _ _ hq]
theorem Wd.setv {H H1 : Heap} {a : Nat} {f : (Nat → Int) → va_E} {r : Nat → Int} (h : Wd D sk v H) (hs : sk a = some f) (he : va_at D vwCl (a, f r) H1) (oq : ∀ q : Nat, q ≠ a → H1[q]? = H[q]?) : Wd D sk (upR v a r) H1 := by
  have := h.set (g := f) hs he oq
  rwa [upS_id hs] at this
theorem j_geti (X : Cx p s m args meth c D cc nL own Ts ret) {C : String} {T : u_T} {N ci index a : Nat} {fs : List (Option Value)} (d : decode cc pc = .ok (.getfield index, 3)) (hin : ∀ w ∈ u_ws C T N, w ∈ Ts) (hc : vwCl[ci]? = some (C, T, N)) (hs : sk a = some (eO ci fs)) (k : Nat) (hk : k < N) (hlink : Cond.fieldLink own index (T k).1 (T k).2.1 (T k).2.2.1 ∈ Ts) (hf : fs[k]? = some none)
    (K : J p l e R s m args below meth c D A nL cells slots Q n sk v (pc + 3) L (.int (I (v a k)) :: st)) : J p l e R s m args below meth c D A nL cells slots Q n sk v pc L (.ref a :: st) := by
  intro H locs ls h1 h2 h3 h4 h5 h6
  exact va_get  X.1 X.2.1 X.2.2.2.2.1 hin X.2.2.2.1 X.2.2.2.2.2.1 (h4.one hs rfl) 0 rfl hc k hk (X.2.2.2.2.1 _ hlink) (fun _ h9 => h9) (by rw [flds_get, hf]; simp) d (K H locs ls h1 h2 h3 h4 h5 h6)
theorem j_getr (X : Cx p s m args meth c D cc nL own Ts ret) {C : String} {T : u_T} {N ci index a : Nat} {fs : List (Option Value)} {x : Value} (d : decode cc pc = .ok (.getfield index, 3)) (hin : ∀ w ∈ u_ws C T N, w ∈ Ts) (hc : vwCl[ci]? = some (C, T, N)) (hs : sk a = some (eO ci fs)) (k : Nat) (hk : k < N) (hlink : Cond.fieldLink own index (T k).1 (T k).2.1 (T k).2.2.1 ∈ Ts) (hf : fs[k]? = some (some x))
    (K : J p l e R s m args below meth c D A nL cells slots Q n sk v (pc + 3) L (x :: st)) : J p l e R s m args below meth c D A nL cells slots Q n sk v pc L (.ref a :: st) := by
  intro H locs ls h1 h2 h3 h4 h5 h6
  exact va_get  X.1 X.2.1 X.2.2.2.2.1 hin X.2.2.2.1 X.2.2.2.2.2.1 (h4.one hs rfl) 0 rfl hc k hk (X.2.2.2.2.1 _ hlink) (fun _ h9 => h9) (by rw [flds_get, hf]; simp) d (K H locs ls h1 h2 h3 h4 h5 h6)
theorem j_getiN (X : Cx p s m args meth c D cc nL own Ts ret) {C : String} {T : u_T} {N ci index a : Nat} {fs : List (Option Value)} (d : decode cc pc = .ok (.getfield index, 3)) (hin : ∀ w ∈ u_ws C T N, w ∈ Ts) (hc : vwCl[ci]? = some (C, T, N)) (hs : sk a = some (eO ci fs)) (k : Nat) (hk : k < N) (hlink : (index, (T k).1, (T k).2.1, (T k).2.2.1) ∈ nestF) (how : own = RX4) (hf : fs[k]? = some none)
    (K : J p l e R s m args below meth c D A nL cells slots Q n sk v (pc + 3) L (.int (I (v a k)) :: st)) : J p l e R s m args below meth c D A nL cells slots Q n sk v pc L (.ref a :: st) := by
  intro H locs ls h1 h2 h3 h4 h5 h6
  exact va_getN (host := RX4) X.1 X.2.1 X.2.2.2.2.1 hin X.2.2.2.1 X.2.2.2.2.2.1 (h4.one hs rfl) 0 rfl hc k hk (by rw [how]; exact va_Nw.use rfl (X.2.2.2.2.2.2.1.1 _ hlink)) (fun _ h9 => h9) (by rw [flds_get, hf]; simp) d (K H locs ls h1 h2 h3 h4 h5 h6)
theorem j_getrN (X : Cx p s m args meth c D cc nL own Ts ret) {C : String} {T : u_T} {N ci index a : Nat} {fs : List (Option Value)} {x : Value} (d : decode cc pc = .ok (.getfield index, 3)) (hin : ∀ w ∈ u_ws C T N, w ∈ Ts) (hc : vwCl[ci]? = some (C, T, N)) (hs : sk a = some (eO ci fs)) (k : Nat) (hk : k < N) (hlink : (index, (T k).1, (T k).2.1, (T k).2.2.1) ∈ nestF) (how : own = RX4) (hf : fs[k]? = some (some x))
    (K : J p l e R s m args below meth c D A nL cells slots Q n sk v (pc + 3) L (x :: st)) : J p l e R s m args below meth c D A nL cells slots Q n sk v pc L (.ref a :: st) := by
  intro H locs ls h1 h2 h3 h4 h5 h6
  exact va_getN (host := RX4) X.1 X.2.1 X.2.2.2.2.1 hin X.2.2.2.1 X.2.2.2.2.2.1 (h4.one hs rfl) 0 rfl hc k hk (by rw [how]; exact va_Nw.use rfl (X.2.2.2.2.2.2.1.1 _ hlink)) (fun _ h9 => h9) (by rw [flds_get, hf]; simp) d (K H locs ls h1 h2 h3 h4 h5 h6)
theorem j_put (X : Cx p s m args meth c D cc nL own Ts ret) {C : String} {T : u_T} {N ci index a : Nat} {fs : List (Option Value)} {z : Int} (d : decode cc pc = .ok (.putfield index, 3)) (hin : ∀ w ∈ u_ws C T N, w ∈ Ts) (hc : vwCl[ci]? = some (C, T, N)) (hs : sk a = some (eO ci fs)) (k : Nat) (hk : k < N) (ty0 : Nat → FieldType) (hty : ∀ k, k < N → parseFieldDescriptor (T k).2.2.1 = some (ty0 k)) (hnm : ∀ a, a < N → ∀ b, b < N → a ≠ b → (T a).2.1 ≠ (T b).2.1) (hfin : (T k).2.2.2 = false) (hint : ty0 k = .int) (hf : fs[k]? = some none) (hlink : Cond.fieldLink own index (T k).1 (T k).2.1 (T k).2.2.1 ∈ Ts)
    (K : J p l e R s m args below meth c D A nL cells slots Q n sk (up2 v a k z) (pc + 3) L st) : J p l e R s m args below meth c D A nL cells slots Q n sk v pc L (.int (I z) :: .ref a :: st) := by
  intro H locs ls h1 h2 h3 h4 h5 h6
  have hap := va_apart (own := own) X.2.2.2.2.1 hin ty0 hty hnm X.2.2.2.2.2.1 hc
  obtain ⟨r, g1, cell, q1, q2, q3, q4⟩ := h4 a _ hs
  have hr : r = (C, T, N) := Option.some.inj (g1.symm.trans hc)
  subst hr
  obtain ⟨hS, hfc, kC, hkC, hkind⟩ := X.2.2.2.2.2.1.1 ci _ hc
  obtain ⟨cf, kf, fi, f, hi, hsl⟩ := hS k hk
  have hlay := X.2.2.2.2.1 _ (hin _ (u_in_lay hk))
  unfold u_lay at hlay
  rw [if_neg (by rw [hfin]; decide)] at hlay
  have hst := (u_facts hfc hkC (u_lays X.2.2.2.2.1 hin hk) hi).1
  have hk6 := u_store hfc hkC hkind hlay hi (hty k hk) (v := .int (I z)) (by rw [hint]; rfl) (by rw [hint]; rfl)
  refine W.putK X.1 X.2.1 (f := f) ⟨X.2.2.2.1, X.2.2.2.2.1 _ hlink, ⟨_, _, _, hi⟩, hst⟩ (by rw [q2]; exact hk6) q1 q3 (by rw [hsl]; exact k2_hasslot (q4 k hk)) rfl rfl d fun H' e1 e2 e3 => ?_
  rw [hsl] at e1 ⊢
  refine K H' _ ls (e2.trans h1) h2 h3 (h4.setv hs (r := upE (v a) k z) ⟨_, hc, ?_⟩ e3) (h5.put e2 e3 (h2 a (by rw [hs]; exact fun q => by cases q))) h6
  show t_OB a _ _ _ _ (vp_V (flds (upE (v a) k z) 0 fs))
  rw [flds_put _ _ _ _ hf]
  have hl : k < (flds (v a) 0 fs).length := by rw [flds_len]; exact (List.getElem?_eq_some_iff.mp hf).1
  exact t_OB.to (V := updV (vp_V (flds (v a) 0 fs)) k (.int (I z))) ⟨_, e1, q2, q3, t_set q4 hap hk (.int (I z))⟩ (fun j _ => vp_updV_set hl _ j)
theorem j_putN (X : Cx p s m args meth c D cc nL own Ts ret) {C : String} {T : u_T} {N ci index a : Nat} {fs : List (Option Value)} {z : Int} (d : decode cc pc = .ok (.putfield index, 3)) (hin : ∀ w ∈ u_ws C T N, w ∈ Ts) (hc : vwCl[ci]? = some (C, T, N)) (hs : sk a = some (eO ci fs)) (k : Nat) (hk : k < N) (ty0 : Nat → FieldType) (hty : ∀ k, k < N → parseFieldDescriptor (T k).2.2.1 = some (ty0 k)) (hnm : ∀ a, a < N → ∀ b, b < N → a ≠ b → (T a).2.1 ≠ (T b).2.1) (hfin : (T k).2.2.2 = false) (hint : ty0 k = .int) (hf : fs[k]? = some none) (hlink : (index, (T k).1, (T k).2.1, (T k).2.2.1) ∈ nestF) (how : own = RX4)
    (K : J p l e R s m args below meth c D A nL cells slots Q n sk (up2 v a k z) (pc + 3) L st) : J p l e R s m args below meth c D A nL cells slots Q n sk v pc L (.int (I z) :: .ref a :: st) := by
  intro H locs ls h1 h2 h3 h4 h5 h6
  have hap := va_apart (own := own) X.2.2.2.2.1 hin ty0 hty hnm X.2.2.2.2.2.1 hc
  obtain ⟨r, g1, cell, q1, q2, q3, q4⟩ := h4 a _ hs
  have hr : r = (C, T, N) := Option.some.inj (g1.symm.trans hc)
  subst hr
  obtain ⟨hS, hfc, kC, hkC, hkind⟩ := X.2.2.2.2.2.1.1 ci _ hc
  obtain ⟨cf, kf, fi, f, hi, hsl⟩ := hS k hk
  have hlay := X.2.2.2.2.1 _ (hin _ (u_in_lay hk))
  unfold u_lay at hlay
  rw [if_neg (by rw [hfin]; decide)] at hlay
  have hst := (u_facts hfc hkC (u_lays X.2.2.2.2.1 hin hk) hi).1
  have hk6 := u_store hfc hkC hkind hlay hi (hty k hk) (v := .int (I z)) (by rw [hint]; rfl) (by rw [hint]; rfl)
  refine va_WputK (host := RX4) X.1 X.2.1 (f := f) X.2.2.2.1 (by rw [how]; exact va_Nw.use rfl (X.2.2.2.2.2.2.1.1 _ hlink)) hi hst (by rw [q2]; exact hk6) q1 q3 (by rw [hsl]; exact k2_hasslot (q4 k hk)) rfl rfl d fun H' e1 e2 e3 => ?_
  rw [hsl] at e1 ⊢
  refine K H' _ ls (e2.trans h1) h2 h3 (h4.setv hs (r := upE (v a) k z) ⟨_, hc, ?_⟩ e3) (h5.put e2 e3 (h2 a (by rw [hs]; exact fun q => by cases q))) h6
  show t_OB a _ _ _ _ (vp_V (flds (upE (v a) k z) 0 fs))
  rw [flds_put _ _ _ _ hf]
  have hl : k < (flds (v a) 0 fs).length := by rw [flds_len]; exact (List.getElem?_eq_some_iff.mp hf).1
  exact t_OB.to (V := updV (vp_V (flds (v a) 0 fs)) k (.int (I z))) ⟨_, e1, q2, q3, t_set q4 hap hk (.int (I z))⟩ (fun j _ => vp_updV_set hl _ j)
theorem j_iald (X : Cx p s m args meth c D cc nL own Ts ret) {a nn : Nat} {i : Int} (d : decode cc pc = .ok (.iaload, 1)) (hs : sk a = some (eA D 10 nn)) (hi : 0 ≤ i ∧ i < nn) (hnn : nn ≤ 2147483647)
    (K : J p l e R s m args below meth c D A nL cells slots Q n sk v (pc + 1) L (.int (I (v a i.toNat)) :: st)) : J p l e R s m args below meth c D A nL cells slots Q n sk v pc L (.int (I i) :: .ref a :: st) := by
  intro H locs ls h1 h2 h3 h4 h5 h6
  refine va_iald X.1 X.2.1 X.2.2.2.2.2.1 (h4.one hs rfl) 0 0 rfl rfl (I_in hi hnn) d ?_
  rw [I_clamp (by omega)]
  exact K H locs ls h1 h2 h3 h4 h5 h6
theorem j_cald (X : Cx p s m args meth c D cc nL own Ts ret) {a nn : Nat} {i : Int} (d : decode cc pc = .ok (.caload, 1)) (hs : sk a = some (eA D 11 nn)) (hi : 0 ≤ i ∧ i < nn) (hnn : nn ≤ 2147483647)
    (K : J p l e R s m args below meth c D A nL cells slots Q n sk v (pc + 1) L (.int (I (v a i.toNat)) :: st)) : J p l e R s m args below meth c D A nL cells slots Q n sk v pc L (.int (I i) :: .ref a :: st) := by
  intro H locs ls h1 h2 h3 h4 h5 h6
  refine va_cald X.1 X.2.1 X.2.2.2.2.2.1 (h4.one hs rfl) 0 1 rfl rfl (I_in hi hnn) d ?_
  rw [I_clamp (by omega)]
  exact K H locs ls h1 h2 h3 h4 h5 h6
theorem j_zald (X : Cx p s m args meth c D cc nL own Ts ret) {a nn : Nat} {i : Int} (d : decode cc pc = .ok (.baload, 1)) (hs : sk a = some (eA D 12 nn)) (hi : 0 ≤ i ∧ i < nn) (hnn : nn ≤ 2147483647)
    (K : J p l e R s m args below meth c D A nL cells slots Q n sk v (pc + 1) L (.int (I (v a i.toNat)) :: st)) : J p l e R s m args below meth c D A nL cells slots Q n sk v pc L (.int (I i) :: .ref a :: st) := by
  intro H locs ls h1 h2 h3 h4 h5 h6
  refine va_zald X.1 X.2.1 X.2.2.2.2.2.1 (h4.one hs rfl) 0 2 rfl rfl (I_in hi hnn) d ?_
  rw [I_clamp (by omega)]
  exact K H locs ls h1 h2 h3 h4 h5 h6
theorem j_aald (X : Cx p s m args meth c D cc nL own Ts ret) {a nn k b : Nat} {i : Int} {C : String} {t0 : Nat} {g : Nat → Option Nat} (d : decode cc pc = .ok (.aaload, 1)) (hs : sk a = some (eQ D k nn g)) (ht0 : (tysA D)[t0]? = some (D.1 k, .object C)) (hi : 0 ≤ i ∧ i < nn) (hnn : nn ≤ 2147483647) (hb : g i.toNat = some b)
    (K : J p l e R s m args below meth c D A nL cells slots Q n sk v (pc + 1) L (.ref b :: st)) : J p l e R s m args below meth c D A nL cells slots Q n sk v pc L (.int (I i) :: .ref a :: st) := by
  intro H locs ls h1 h2 h3 h4 h5 h6
  refine va_aldq X.1 X.2.1 X.2.2.2.2.2.1 (h4.one hs rfl) 0 t0 rfl ht0 (I_in hi hnn) d ?_
  rw [I_clamp (by omega), hb]
  exact K H locs ls h1 h2 h3 h4 h5 h6
theorem j_alen (X : Cx p s m args meth c D cc nL own Ts ret) {a nn k t0 : Nat} {ty : FieldType} (d : decode cc pc = .ok (.arraylength, 1)) (hs : sk a = some (eA D k nn)) (ht0 : (tysA D)[t0]? = some (D.1 k, ty))
    (K : J p l e R s m args below meth c D A nL cells slots Q n sk v (pc + 1) L (.int (I nn) :: st)) : J p l e R s m args below meth c D A nL cells slots Q n sk v pc L (.ref a :: st) := by
  intro H locs ls h1 h2 h3 h4 h5 h6
  exact va_alen X.1 X.2.1 X.2.2.2.2.2.1 (h4.one hs rfl) 0 t0 rfl ht0 (I_nat nn).symm d (K H locs ls h1 h2 h3 h4 h5 h6)
theorem j_alenQ (X : Cx p s m args meth c D cc nL own Ts ret) {a nn k t0 : Nat} {ty : FieldType} {g : Nat → Option Nat} (d : decode cc pc = .ok (.arraylength, 1)) (hs : sk a = some (eQ D k nn g)) (ht0 : (tysA D)[t0]? = some (D.1 k, ty))
    (K : J p l e R s m args below meth c D A nL cells slots Q n sk v (pc + 1) L (.int (I nn) :: st)) : J p l e R s m args below meth c D A nL cells slots Q n sk v pc L (.ref a :: st) := by
  intro H locs ls h1 h2 h3 h4 h5 h6
  exact va_alen X.1 X.2.1 X.2.2.2.2.2.1 (h4.one hs rfl) 0 t0 rfl ht0 (I_nat nn).symm d (K H locs ls h1 h2 h3 h4 h5 h6)
theorem j_iast (X : Cx p s m args meth c D cc nL own Ts ret) {a nn : Nat} {i z : Int} (d : decode cc pc = .ok (.iastore, 1)) (hs : sk a = some (eA D 10 nn)) (hi : 0 ≤ i ∧ i < nn) (hnn : nn ≤ 2147483647)
    (K : J p l e R s m args below meth c D A nL cells slots Q n sk (up2 v a i.toNat z) (pc + 1) L st) : J p l e R s m args below meth c D A nL cells slots Q n sk v pc L (.int (I z) :: .int (I i) :: .ref a :: st) := by
  intro H locs ls h1 h2 h3 h4 h5 h6
  have hn := I_in hi hnn
  have hcl : (I i).toNatClampNeg = i.toNat := I_clamp (by omega)
  refine W.iast X.1 X.2.1 (h4 a _ hs) ((X.2.2.2.2.2.1.2 0 _ rfl).1 nn (fun j => .int (I (v a j)))) (fun q => by cases q) (by show ¬ (I i < 0 ∨ (arrV _ _ _).slots.size ≤ _); rw [arrV_size]; exact hn) rfl rfl d fun H1 e1 e2 e3 => ?_
  refine K H1 _ ls (e2.trans h1) h2 h3 (h4.setv hs (r := upE (v a) i.toNat z) ?_ e3) (h5.put e2 e3 (h2 a (by rw [hs]; exact fun q => by cases q))) h6
  show H1[a]? = some (vp_cell _ (nn, .inl (fun j => I (upE (v a) i.toNat z j))))
  rw [e1, vp_cell_i]
  show some (Cell.setSlot (vp_cell (D.1 10) (nn, .inl (fun j => I (v a j)))) _ _) = _
  rw [vp_cell_i, arrV_store, hcl]
  show some (arrV (D.1 10) nn _) = some (arrV (D.1 10) nn (fun j => .int (I (upE (v a) i.toNat z j))))
  refine congrArg some (congrArg (arrV _ nn) ?_)
  funext q
  by_cases hq : q = i.toNat
  · subst hq
    simp [updV, upE]
  · simp [updV, upE, hq]
theorem j_cast (X : Cx p s m args meth c D cc nL own Ts ret) {a nn : Nat} {i z : Int} (d : decode cc pc = .ok (.castore, 1)) (hs : sk a = some (eA D 11 nn)) (hi : 0 ≤ i ∧ i < nn) (hnn : nn ≤ 2147483647) (hz : 0 ≤ z ∧ z < 65536)
    (K : J p l e R s m args below meth c D A nL cells slots Q n sk (up2 v a i.toNat z) (pc + 1) L st) : J p l e R s m args below meth c D A nL cells slots Q n sk v pc L (.int (I z) :: .int (I i) :: .ref a :: st) := by
  intro H locs ls h1 h2 h3 h4 h5 h6
  have hn := I_in hi hnn
  have hcl : (I i).toNatClampNeg = i.toNat := I_clamp (by omega)
  refine W.cast X.1 X.2.1 (h4 a _ hs) ((X.2.2.2.2.2.1.2 1 _ rfl).1 nn (fun j => .int (I (v a j)))) (fun q => by cases q) (by show ¬ (I i < 0 ∨ (arrV _ _ _).slots.size ≤ _); rw [arrV_size]; exact hn) rfl rfl d fun H1 e1 e2 e3 => ?_
  refine K H1 _ ls (e2.trans h1) h2 h3 (h4.setv hs (r := upE (v a) i.toNat z) ?_ e3) (h5.put e2 e3 (h2 a (by rw [hs]; exact fun q => by cases q))) h6
  show H1[a]? = some (vp_cell _ (nn, .inl (fun j => I (upE (v a) i.toNat z j))))
  rw [e1, vp_cell_i]
  show some (Cell.setSlot (vp_cell (D.1 11) (nn, .inl (fun j => I (v a j)))) _ _) = _
  rw [vp_cell_i, arrV_store, hcl]
  show some (arrV (D.1 11) nn _) = some (arrV (D.1 11) nn (fun j => .int (I (upE (v a) i.toNat z j))))
  refine congrArg some (congrArg (arrV _ nn) ?_)
  funext q
  by_cases hq : q = i.toNat
  · subst hq
    simp only [updV, upE, if_true]
    rw [j_narc hz]
  · simp [updV, upE, hq]
theorem j_zast (X : Cx p s m args meth c D cc nL own Ts ret) {a nn : Nat} {i z : Int} (d : decode cc pc = .ok (.bastore, 1)) (hs : sk a = some (eA D 12 nn)) (hi : 0 ≤ i ∧ i < nn) (hnn : nn ≤ 2147483647) (hz : z = 0 ∨ z = 1)
    (K : J p l e R s m args below meth c D A nL cells slots Q n sk (up2 v a i.toNat z) (pc + 1) L st) : J p l e R s m args below meth c D A nL cells slots Q n sk v pc L (.int (I z) :: .int (I i) :: .ref a :: st) := by
  intro H locs ls h1 h2 h3 h4 h5 h6
  have hn := I_in hi hnn
  have hcl : (I i).toNatClampNeg = i.toNat := I_clamp (by omega)
  refine W.zast X.1 X.2.1 (h4 a _ hs) ((X.2.2.2.2.2.1.2 2 _ rfl).1 nn (fun j => .int (I (v a j)))) (fun q => by cases q) (by show ¬ (I i < 0 ∨ (arrV _ _ _).slots.size ≤ _); rw [arrV_size]; exact hn) rfl rfl d fun H1 e1 e2 e3 => ?_
  refine K H1 _ ls (e2.trans h1) h2 h3 (h4.setv hs (r := upE (v a) i.toNat z) ?_ e3) (h5.put e2 e3 (h2 a (by rw [hs]; exact fun q => by cases q))) h6
  show H1[a]? = some (vp_cell _ (nn, .inl (fun j => I (upE (v a) i.toNat z j))))
  rw [e1, vp_cell_i]
  show some (Cell.setSlot (vp_cell (D.1 12) (nn, .inl (fun j => I (v a j)))) _ _) = _
  rw [vp_cell_i, arrV_store, hcl]
  show some (arrV (D.1 12) nn _) = some (arrV (D.1 12) nn (fun j => .int (I (upE (v a) i.toNat z j))))
  refine congrArg some (congrArg (arrV _ nn) ?_)
  funext q
  by_cases hq : q = i.toNat
  · subst hq
    simp only [updV, upE, if_true]
    rw [j_narz hz]
  · simp [updV, upE, hq]
end JA
end
section
/-! ===== the layer J: contracts, calls, copies, makings ===== -/
def PostI (sk : Sk) (P : Int → Mem → Prop) : Option Value → Sk → Mem → Prop := fun r sk' v' => ∃ z : Int, r = some (.int (I z)) ∧ sk' = sk ∧ P z v'
def PostV (sk : Sk) (P : Mem → Prop) : Option Value → Sk → Mem → Prop := fun r sk' v' => r = none ∧ sk' = sk ∧ P v'
def PostA (sk : Sk) (P : Nat → Mem → Prop) : Option Value → Sk → Mem → Prop := fun r sk' v' => ∃ a : Nat, r = some (.ref a) ∧ sk' = sk ∧ P a v'
def PostN (P : Sk → Mem → Prop) : Option Value → Sk → Mem → Prop := fun r sk' v' => r = none ∧ P sk' v'
abbrev CtI (l : Launch) (D : va_G) (y : MethodName) (ws : List Cond) (rm : Room) (av : List Value) (n : Nat) (sk : Sk) (v : Mem) (P : Int → Mem → Prop) : Prop := Ct l D y ws rm 0 0 av n sk v (PostI sk P)
abbrev CtV (l : Launch) (D : va_G) (y : MethodName) (ws : List Cond) (rm : Room) (av : List Value) (n : Nat) (sk : Sk) (v : Mem) (P : Mem → Prop) : Prop := Ct l D y ws rm 0 0 av n sk v (PostV sk P)
abbrev CtA (l : Launch) (D : va_G) (y : MethodName) (ws : List Cond) (rm : Room) (av : List Value) (n : Nat) (sk : Sk) (v : Mem) (P : Nat → Mem → Prop) : Prop := Ct l D y ws rm 0 0 av n sk v (PostA sk P)
abbrev CtN (l : Launch) (D : va_G) (y : MethodName) (ws : List Cond) (rm : Room) (mc ms : Nat) (av : List Value) (n : Nat) (sk : Sk) (v : Mem) (P : Sk → Mem → Prop) : Prop := Ct l D y ws rm mc ms av n sk v (PostN P)
theorem ct_blind {D : va_G} {n : Nat} {sk : Sk} {v : Mem} {av : List Value} : FrameBlind (va_Pc av (fun U => U.heap.size = n ∧ Wd D sk v U.heap ∧ va_K D vwCl (tysA D) U ∧ NX U)) := fun a U g mk q => ⟨q.1, q.2.1, q.2.2.1, va_K.moved (u := U) (U := U.calling g mk a) (Vm.Alike.refl U.vm) q.2.2.2.1, NX.same (u := U) (U := U.calling g mk a) rfl q.2.2.2.2⟩
theorem ct_of {l : Launch} {D : va_G} {y : MethodName} {ws ws' : List Cond} {rm : Room} {mc ms : Nat} {av : List Value} {n : Nat} {sk : Sk} {v : Mem} {post : Option Value → Sk → Mem → Prop} {cc : ByteArray} {maxL : Nat} {ret : Option FieldType} (hy : plainName y.cls = true) (hw : ws = Cond.code y cc maxL ret :: ws') (hlen : (lg_sl av).length ≤ maxL)
    (body : ∀ (p : Program) (e : Env) (s : State) (m : MethodId) (args : Array Value) (below : List Frame) (meth : Method) (c : Code), Cx p s m args meth c D cc maxL y.cls ws ret → meth.name = y.name → s.heap.size = n → J p l e rm s m args below meth c D (AJ sk n) maxL 0 0 (MQ below (QcJ D n mc sk post) args s mc ms (AJ sk n)) n sk v 0 (lo av maxL) []) : Ct l D y ws rm mc ms av n sk v post := by
  refine Met.ofW (cc := cc) (maxL := maxL) (ret := ret) hy hw ?_
  intro p e s m args below meth c s₁ B hml hv
  obtain ⟨rfl, hsz, hW, hK, hN⟩ := hv
  have hts := atoms_spec (ws := ws) B.pre
  have X : Cx p s m av.toArray meth c D cc maxL y.cls ws ret := ⟨B.exec, B.bytes, hml, findClass_of_methodNamed B.named, hts, hK, hN, B.returns, B.notSynchronized⟩
  have hl := lv_entry av (n := maxL) hlen
  rw [lg_entry_eq]
  exact body p e s m _ below meth c X (name_of_methodNamed B.named B.method).1 hsz s.heap [] _ hsz (fun a h => Or.inl h) (fun q h => Or.inr (by omega)) hW va_S.rf (lo_lh hl)
section JB
variable {p : Program} {l : Launch} {e : Env} {R : Room} {s : State} {m : MethodId} {args : Array Value} {below : List Frame} {meth : Method} {c : Code} {D : va_G} {A : Nat → Prop} {nL cells slots n pc : Nat} {Q : State → Prop} {sk : Sk} {v : Mem} {L : List (Option Value)} {st : List Value} {cc : ByteArray} {own : String} {Ts : List Cond} {ret : Option FieldType}
theorem j_end {n0 mc : Nat} {sk0 : Sk} {post : Option Value → Sk → Mem → Prop} {r : Option Value} (hp : post r sk v) {H : Heap} {locs : List Loc} (h1 : H.size = n0 + mc) (h2 : ∀ a, sk a ≠ none → AJ sk0 n0 a) (h4 : Wd D sk v H) (h5 : va_S (AJ sk0 n0) s.heap H locs) (t : State) (ht : t.heap = H) : QcJ D n0 mc sk0 post args s (.returned r) t := ⟨⟨r, sk, v, rfl, hp, h2, by rw [ht]; exact h1, by rw [ht]; exact h4⟩, h5.F ht⟩
theorem j_iret (X : Cx p s m args meth c D cc nL own Ts (some .int)) {n0 mc ms : Nat} {sk0 : Sk} {post : Option Value → Sk → Mem → Prop} {z : Int} (d : decode cc pc = .ok (.ireturn, 1)) (hp : post (some (.int (I z))) sk v) : J p l e R s m args below meth c D (AJ sk0 n0) nL mc ms (MQ below (QcJ D n0 mc sk0 post) args s mc ms (AJ sk0 n0)) (n0 + mc) sk v pc L [.int (I z)] := by
  intro H locs ls h1 h2 h3 h4 h5 h6
  have hlk := X.2.2.2.2.2.2.2.2
  exact W.iret X.1 X.2.1 X.2.2.2.2.2.2.2.1 (fun t ht hW => j_end hp h1 h2 h4 h5 t ht) h5.2.2 d
theorem j_zret (X : Cx p s m args meth c D cc nL own Ts (some .boolean)) {n0 mc ms : Nat} {sk0 : Sk} {post : Option Value → Sk → Mem → Prop} {z : Int} (d : decode cc pc = .ok (.ireturn, 1)) (hz : z = 0 ∨ z = 1) (hp : post (some (.int (I z))) sk v) : J p l e R s m args below meth c D (AJ sk0 n0) nL mc ms (MQ below (QcJ D n0 mc sk0 post) args s mc ms (AJ sk0 n0)) (n0 + mc) sk v pc L [.int (I z)] := by
  intro H locs ls h1 h2 h3 h4 h5 h6
  have hlk := X.2.2.2.2.2.2.2.2
  exact W.zret X.1 X.2.1 X.2.2.2.2.2.2.2.1 (j_narz hz) (fun t ht hW => j_end hp h1 h2 h4 h5 t ht) h5.2.2 d
theorem j_vret (X : Cx p s m args meth c D cc nL own Ts none) {n0 mc ms : Nat} {sk0 : Sk} {post : Option Value → Sk → Mem → Prop} (d : decode cc pc = .ok (.return_, 1)) (hp : post none sk v) : J p l e R s m args below meth c D (AJ sk0 n0) nL mc ms (MQ below (QcJ D n0 mc sk0 post) args s mc ms (AJ sk0 n0)) (n0 + mc) sk v pc L [] := by
  intro H locs ls h1 h2 h3 h4 h5 h6
  have hlk := X.2.2.2.2.2.2.2.2
  exact W.vret X.1 X.2.1 X.2.2.2.2.2.2.2.1 (fun t ht hW => j_end hp h1 h2 h4 h5 t ht) h5.2.2 d
theorem j_aret {nm : String} (X : Cx p s m args meth c D cc nL own Ts (some (.object nm))) {n0 mc ms : Nat} {sk0 : Sk} {post : Option Value → Sk → Mem → Prop} {a : Nat} (d : decode cc pc = .ok (.areturn, 1)) (hp : post (some (.ref a)) sk v) : J p l e R s m args below meth c D (AJ sk0 n0) nL mc ms (MQ below (QcJ D n0 mc sk0 post) args s mc ms (AJ sk0 n0)) (n0 + mc) sk v pc L [.ref a] := by
  intro H locs ls h1 h2 h3 h4 h5 h6
  have hlk := X.2.2.2.2.2.2.2.2
  exact W.aret X.1 X.2.1 X.2.2.2.2.2.2.2.1 (Or.inl ⟨_, rfl⟩) (Or.inr ⟨_, rfl⟩) (fun t ht hW => j_end hp h1 h2 h4 h5 t ht) h5.2.2 d
theorem j_run {mc ms : Nat} {post : Option Value → Sk → Mem → Prop} {a0 : Array Value} {rest : List Value} (hr : ∀ (H : Heap) (locs : List Loc) (ls : Array Slot), H.size = n → Wd D sk v H → lh ls nL L → va_Run p l e R s m args below meth c H locs cells slots mc ms (F0 m pc ls st) rest (QcJ D n mc sk post a0) (AJ sk n))
    (K : ∀ (r : Option Value) (sk' : Sk) (v' : Mem), post r sk' v' → J p l e R s m args below meth c D A nL (cells + mc) (slots + ms) Q (n + mc) sk' v' (pc + 3) L (r.toList ++ rest)) : J p l e R s m args below meth c D A nL cells slots Q n sk v pc L st := by
  intro H locs ls h1 h2 h3 h4 h5 h6
  intro T hT XS
  obtain ⟨r, st₀, t, T', LL, h0, X', hL, e1, e2, ⟨⟨r', sk', v', hv, hp, hd, hz, hw⟩, hz2, hk⟩, hst⟩ := hr H locs ls h1 h4 h6 T hT XS
  cases hv
  rw [h0] at hz2 hk
  have hAJ : ∀ q, AJ sk n q → A q := fun q hq => by
    rcases hq with hq | hq
    · exact h2 q hq
    · exact h3 q (Nat.le_trans h5.1 (by omega))
  obtain ⟨t2, a1, b1⟩ := K r sk' v' hp T'.heap (locs ++ LL) ls (by rw [e1]; exact hz) (fun a ha => hAJ a (hd a ha)) h3 (by rw [e1]; exact hw)
    ⟨Nat.le_trans h5.1 (by rw [e1]; exact hz2), fun q g1 g2 => by rw [e1, hk q (Nat.lt_of_lt_of_le g1 h5.1) (fun z => g2 (hAJ q z))]; exact h5.2.1 q g1 g2, fun q hq => by
      rcases List.mem_append.mp hq with h | h
      · exact h5.2.2 q h
      · exact hAJ _ (hL q h)⟩ h6 T' rfl X'
  exact ⟨t2, hst t2 a1, b1⟩
theorem Wd.recv {H : Heap} {b ci : Nat} {fs : List (Option Value)} {q : vw_C} (hK : va_K D vwCl (tysA D) s) (h4 : Wd D sk v H) (hs : sk b = some (eO ci fs)) (hc : vwCl[ci]? = some q) : ∃ cell : Cell, H[b]? = some cell ∧ cell.vm.isStatics = false ∧ s.vm.findClass q.1 = some cell.cls := va_recv hK (h4.one hs rfl) (q0 := 0) (ci := ci) (fs := flds (v b) 0 fs) hc rfl
theorem Cx.pre {H : Heap} (X : Cx p s m args meth c D cc nL own Ts ret) (h1 : H.size = n) (h4 : Wd D sk v H) {As : List Value} : ∀ U : State, U.heap = H → s.WarmedH U.vm → va_Pc As (fun U => U.heap.size = n ∧ Wd D sk v U.heap ∧ va_K D vwCl (tysA D) U ∧ NX U) As.toArray U := fun U hU hW => ⟨rfl, by rw [hU]; exact h1, by rw [hU]; exact h4, va_K.moved hW.alike X.2.2.2.2.2.1, NX.warm hW X.2.2.2.2.2.2.1⟩
theorem j_callV (X : Cx p s m args meth c D cc nL own Ts ret) {y : MethodName} {ws ws' : List Cond} {rm : Room} {bytes : ByteArray} {maxL index nn b ci mc ms : Nat} {rt : Option FieldType} {C : String} {As rest : List Value} {fs : List (Option Value)} {q : vw_C} {post : Option Value → Sk → Mem → Prop} (d : decode cc pc = .ok (.invokevirtual index, 3)) (hM : Ct l D y ws rm mc ms (.ref b :: As) n sk v post) (hG : GoodIn Ts (wsV own index C y ws)) (hw : ws = Cond.code y bytes maxL rt :: ws') (hrm : rm.cells = mc ∧ rm.slots = ms) (hd : y.cls = C ∧ y.cls ≠ "java/lang/invoke/MethodHandle" ∧ y.cls ≠ "java/lang/invoke/VarHandle" ∧ (parseMethodDescriptor y.desc).map (fun d => d.parameters.length) = some nn) (hR : rm.frames + 1 ≤ R.frames ∧ 8 + (maxL + 11) + rm.locals ≤ R.locals) (hs : sk b = some (eO ci fs)) (hc : vwCl[ci]? = some q ∧ q.1 = C) (hn : As.length = nn) (hst : st = As.reverse ++ .ref b :: rest) (hW : (rest.map fun v => v.category).sum ≤ 8) (hf : cells + mc ≤ R.cells ∧ slots + ms ≤ R.slots)
    (K : ∀ (r : Option Value) (sk' : Sk) (v' : Mem), post r sk' v' → J p l e R s m args below meth c D A nL (cells + mc) (slots + ms) Q (n + mc) sk' v' (pc + 3) L (r.toList ++ rest)) : J p l e R s m args below meth c D A nL cells slots Q n sk v pc L st := by
  subst hst
  refine j_run (a0 := (Value.ref b :: As).toArray) (fun H locs ls h1 h4 h6 => ?_) K
  exact va_runV ⟨X.1, X.2.1, X.2.2.1, X.2.2.2.1, X.2.2.2.2.1⟩ hM (cwV nn X.2.2.2.2.1 hG hw hrm.1 hrm.2 hd hR) ⟨ct_blind, by rw [← hc.2]; exact h4.recv X.2.2.2.2.2.1 hs hc.1, X.pre h1 h4⟩ rfl hn h6.1 rfl (lv_room hW) d hf
theorem j_callS (X : Cx p s m args meth c D cc nL own Ts ret) {y : MethodName} {ws ws' : List Cond} {rm : Room} {bytes : ByteArray} {maxL index nn mc ms : Nat} {rt : Option FieldType} {As rest : List Value} {post : Option Value → Sk → Mem → Prop} (d : decode cc pc = .ok (.invokestatic index, 3)) (hM : Ct l D y ws rm mc ms As n sk v post) (hG : GoodIn Ts (va_wsS own index y ws)) (hw : ws = Cond.code y bytes maxL rt :: ws') (hrm : rm.cells = mc ∧ rm.slots = ms) (hd : y.cls ≠ "java/lang/invoke/MethodHandle" ∧ y.cls ≠ "java/lang/invoke/VarHandle" ∧ (parseMethodDescriptor y.desc).map (fun d => d.parameters.length) = some nn) (hR : rm.frames + 1 ≤ R.frames ∧ 8 + (maxL + 11) + rm.locals ≤ R.locals) (hn : As.length = nn) (hst : st = As.reverse ++ rest) (hW : (rest.map fun v => v.category).sum ≤ 8) (hf : cells + mc ≤ R.cells ∧ slots + ms ≤ R.slots)
    (K : ∀ (r : Option Value) (sk' : Sk) (v' : Mem), post r sk' v' → J p l e R s m args below meth c D A nL (cells + mc) (slots + ms) Q (n + mc) sk' v' (pc + 3) L (r.toList ++ rest)) : J p l e R s m args below meth c D A nL cells slots Q n sk v pc L st := by
  subst hst
  refine j_run (a0 := As.toArray) (fun H locs ls h1 h4 h6 => ?_) K
  exact va_runS ⟨X.1, X.2.1, X.2.2.1, X.2.2.2.1, X.2.2.2.2.1⟩ hM (va_cwS nn X.2.2.2.2.1 hG hw hrm.1 hrm.2 hd hR) ⟨ct_blind, X.pre h1 h4⟩ rfl hn h6.1 rfl (lv_room hW) d hf
theorem j_callI (X : Cx p s m args meth c D cc nL own Ts ret) {y : MethodName} {ws ws' : List Cond} {rm : Room} {bytes : ByteArray} {maxL index nn b mc ms : Nat} {As rest : List Value} {post : Option Value → Sk → Mem → Prop} (d : decode cc pc = .ok (.invokespecial index, 3)) (hM : Ct l D y ws rm mc ms (.ref b :: As) n sk v post) (hG : GoodIn Ts ws) (hw : ws = Cond.code y bytes maxL none :: ws') (hrm : rm.cells = mc ∧ rm.slots = ms) (hini : Cond.initialized y.cls ∈ Ts) (hin : Cond.instanceMethod y ∈ Ts) (hy1 : y.name = "<init>") (hd : y.cls ≠ "java/lang/invoke/MethodHandle" ∧ y.cls ≠ "java/lang/invoke/VarHandle" ∧ (parseMethodDescriptor y.desc).map (fun d => d.parameters.length) = some nn) (hR : rm.frames + 1 ≤ R.frames ∧ 8 + (maxL + 11) + rm.locals ≤ R.locals) (hn : As.length = nn) (hst : st = As.reverse ++ .ref b :: rest) (hW : (rest.map fun v => v.category).sum ≤ 8) (hf : cells + mc ≤ R.cells ∧ slots + ms ≤ R.slots) (hl : Cond.methodLink own index y ∈ Ts)
    (K : ∀ (r : Option Value) (sk' : Sk) (v' : Mem), post r sk' v' → J p l e R s m args below meth c D A nL (cells + mc) (slots + ms) Q (n + mc) sk' v' (pc + 3) L (r.toList ++ rest)) : J p l e R s m args below meth c D A nL cells slots Q n sk v pc L st := by
  subst hst
  refine j_run (a0 := (Value.ref b :: As).toArray) (fun H locs ls h1 h4 h6 => ?_) K
  exact va_runI ⟨X.1, X.2.1, X.2.2.1, X.2.2.2.1, X.2.2.2.2.1⟩ hM (cwI nn X.2.2.2.2.1 hG hw hrm.1 hrm.2 (X.2.2.2.2.1 _ hini) (X.2.2.2.2.1 _ hl) (X.2.2.2.2.1 _ hin) hy1 hd hR) ⟨ct_blind, X.pre h1 h4⟩ rfl hn h6.1 rfl (lv_room hW) d hf
theorem j_callIN (X : Cx p s m args meth c D cc nL own Ts ret) {y : MethodName} {ws ws' : List Cond} {rm : Room} {bytes : ByteArray} {maxL index nn b mc ms : Nat} {As rest : List Value} {post : Option Value → Sk → Mem → Prop} (d : decode cc pc = .ok (.invokespecial index, 3)) (hM : Ct l D y ws rm mc ms (.ref b :: As) n sk v post) (hG : GoodIn Ts ws) (hw : ws = Cond.code y bytes maxL none :: ws') (hrm : rm.cells = mc ∧ rm.slots = ms) (hini : Cond.initialized y.cls ∈ Ts) (hin : Cond.instanceMethod y ∈ Ts) (hy1 : y.name = "<init>") (hd : y.cls ≠ "java/lang/invoke/MethodHandle" ∧ y.cls ≠ "java/lang/invoke/VarHandle" ∧ (parseMethodDescriptor y.desc).map (fun d => d.parameters.length) = some nn) (hR : rm.frames + 1 ≤ R.frames ∧ 8 + (maxL + 11) + rm.locals ≤ R.locals) (hn : As.length = nn) (hst : st = As.reverse ++ .ref b :: rest) (hW : (rest.map fun v => v.category).sum ≤ 8) (hf : cells + mc ≤ R.cells ∧ slots + ms ≤ R.slots) (hl : (own, index, y) ∈ nestM)
    (K : ∀ (r : Option Value) (sk' : Sk) (v' : Mem), post r sk' v' → J p l e R s m args below meth c D A nL (cells + mc) (slots + ms) Q (n + mc) sk' v' (pc + 3) L (r.toList ++ rest)) : J p l e R s m args below meth c D A nL cells slots Q n sk v pc L st := by
  subst hst
  refine j_run (a0 := (Value.ref b :: As).toArray) (fun H locs ls h1 h4 h6 => ?_) K
  exact va_runIN ⟨X.1, X.2.1, X.2.2.1, X.2.2.2.1, X.2.2.2.2.1⟩ hM ⟨va_cnB (host := RX4) nn X.2.2.2.2.1 hG hw hrm.1 hrm.2 (X.2.2.2.2.2.2.1.2.1 _ hl) (X.2.2.2.2.1 _ hini) hd hR, hy1, X.2.2.2.2.1 _ hin⟩ ⟨ct_blind, X.pre h1 h4⟩ rfl hn h6.1 rfl (lv_room hW) d hf
theorem kI {post : Int → Mem → Prop} {rest : List Value} (K : ∀ (z : Int) (v' : Mem), post z v' → J p l e R s m args below meth c D A nL cells slots Q n sk v' pc L (.int (I z) :: rest)) : ∀ (r : Option Value) (sk' : Sk) (v' : Mem), PostI sk post r sk' v' → J p l e R s m args below meth c D A nL (cells + 0) (slots + 0) Q (n + 0) sk' v' pc L (r.toList ++ rest) := by
  rintro r sk' v' ⟨z, rfl, rfl, h⟩
  exact K z v' h
theorem kV {post : Mem → Prop} {rest : List Value} (K : ∀ (v' : Mem), post v' → J p l e R s m args below meth c D A nL cells slots Q n sk v' pc L rest) : ∀ (r : Option Value) (sk' : Sk) (v' : Mem), PostV sk post r sk' v' → J p l e R s m args below meth c D A nL (cells + 0) (slots + 0) Q (n + 0) sk' v' pc L (r.toList ++ rest) := by
  rintro r sk' v' ⟨rfl, rfl, h⟩
  exact K v' h
theorem kA {post : Nat → Mem → Prop} {rest : List Value} (K : ∀ (a : Nat) (v' : Mem), post a v' → J p l e R s m args below meth c D A nL cells slots Q n sk v' pc L (.ref a :: rest)) : ∀ (r : Option Value) (sk' : Sk) (v' : Mem), PostA sk post r sk' v' → J p l e R s m args below meth c D A nL (cells + 0) (slots + 0) Q (n + 0) sk' v' pc L (r.toList ++ rest) := by
  rintro r sk' v' ⟨z, rfl, rfl, h⟩
  exact K z v' h
theorem kN {mc ms : Nat} {post : Sk → Mem → Prop} {rest : List Value} (K : ∀ (sk' : Sk) (v' : Mem), post sk' v' → J p l e R s m args below meth c D A nL (cells + mc) (slots + ms) Q (n + mc) sk' v' pc L rest) : ∀ (r : Option Value) (sk' : Sk) (v' : Mem), PostN post r sk' v' → J p l e R s m args below meth c D A nL (cells + mc) (slots + ms) Q (n + mc) sk' v' pc L (r.toList ++ rest) := by
  rintro r sk' v' ⟨rfl, h⟩
  exact K sk' v' h
def cpy (f g : Nat → Int) (sp dp n : Nat) : Nat → Int := fun k => if dp ≤ k ∧ k < dp + n then f (sp + (k - dp)) else g k
theorem cpy_I (f g : Nat → Int) (sp dp n : Nat) : va_cpy (fun j => I (f j)) (fun j => I (g j)) sp dp n = fun j => I (cpy f g sp dp n j) := by
  funext j
  unfold va_cpy cpy
  split <;> rfl
theorem j_copy (X : Cx p s m args meth c D cc nL own Ts ret) {index a a0 n0 n1 : Nat} {sp dp k : Int} {rest : List Value} (d : decode cc pc = .ok (.invokestatic index, 3)) (hl : Cond.methodLink own index arraycopyName ∈ Ts ∧ Cond.native arraycopyName ∈ Ts ∧ Cond.static arraycopyName ∈ Ts ∧ Cond.initialized "java/lang/System" ∈ Ts) (hs0 : sk a0 = some (eA D 10 n0)) (hs : sk a = some (eA D 10 n1)) (hk : 0 ≤ k ∧ (0 ≤ sp ∧ sp + k ≤ n0) ∧ (0 ≤ dp ∧ dp + k ≤ n1)) (hnn : n0 ≤ 2147483647 ∧ n1 ≤ 2147483647) (hfr : 1 ≤ R.frames) (hlo : (rest.map fun v => v.category).sum + 18 ≤ R.locals)
    (K : J p l e R s m args below meth c D A nL cells slots Q n sk (upR v a (cpy (v a0) (v a) sp.toNat dp.toNat k.toNat)) (pc + 3) L rest) : J p l e R s m args below meth c D A nL cells slots Q n sk v pc L (.int (I k) :: .int (I dp) :: .ref a :: .int (I sp) :: .ref a0 :: rest) := by
  intro H locs ls h1 h2 h3 h4 h5 h6
  intro T hT XS
  have hb := X.2.1
  have hml := X.2.2.1
  have csp : (I sp).toNatClampNeg = sp.toNat := I_clamp (by omega)
  have cdp : (I dp).toNatClampNeg = dp.toNat := I_clamp (by omega)
  have ck : (I k).toNatClampNeg = k.toNat := I_clamp (by omega)
  have hc0 : H[a0]? = some (vp_cell (D.1 10) (n0, .inl (fun j => I (v a0 j)))) := h4 a0 _ hs0
  have hc1 : H[a]? = some (vp_cell (D.1 10) (n1, .inl (fun j => I (v a j)))) := h4 a _ hs
  obtain ⟨-, k0, hk0, cm0, hkk0⟩ := (X.2.2.2.2.2.1.2 0 _ rfl).1 n0 (fun j => .int (I (v a0 j)))
  obtain ⟨-, k1, hk1, cm1, hkk1⟩ := (X.2.2.2.2.2.1.2 0 _ rfl).1 n1 (fun j => .int (I (v a j)))
  obtain ⟨vm', X', step⟩ := XS.arraycopy X.1 X.2.2.2.1 (X.2.2.2.2.1 _ hl.1) (X.2.2.2.2.1 _ hl.2.1) (X.2.2.2.2.1 _ hl.2.2.1) (X.2.2.2.2.1 _ hl.2.2.2) (src := a0) (dst := a) (cs := vp_cell (D.1 10) (n0, .inl (fun j => I (v a0 j)))) (cd := vp_cell (D.1 10) (n1, .inl (fun j => I (v a j)))) (srcPos := I sp) (destPos := I dp) (n := I k) (by rw [hT]; exact hc0) (by rw [hT]; exact hc1)
    (fun _ h => by cases h) (fun _ h => by cases h) (fun h => by cases h) (fun h => by cases h) hk0 hk1 hkk0 hkk1 (by simp [refKind]) (I_nneg (by omega)) (I_nneg (by omega)) (I_nneg (by omega))
    (by rw [I_toInt (by omega), I_toInt (by omega)]; show ¬ _ > ((arrV (D.1 10) n0 (fun j => .int (I (v a0 j)))).slots.size : Int); rw [arrV_size]; omega)
    (by rw [I_toInt (by omega), I_toInt (by omega)]; show ¬ _ > ((arrV (D.1 10) n1 (fun j => .int (I (v a j)))).slots.size : Int); rw [arrV_size]; omega)
    (fun vm₁ _ i hi => by
      rw [ck] at hi
      rw [csp]
      have e : (vp_cell (D.1 10) (n0, .inl (fun j => I (v a0 j)))).slots.getD (sp.toNat + i) .null = .int (I (v a0 (sp.toNat + i))) := by
        show (arrV (D.1 10) n0 (fun j => .int (I (v a0 j)))).slots.getD _ _ = _
        rw [Array.getD_eq_getD_getElem?, arrV_read _ _ (by omega)]
        rfl
      refine ⟨?_, ?_⟩
      · rw [e]; rfl
      · rw [e]; exact trivial)
    (g := F0 m pc ls (.int (I k) :: .int (I dp) :: .ref a :: .int (I sp) :: .ref a0 :: rest)) rfl (by rw [hml]; exact h6.1) (rest := rest) rfl (by rw [hb]; exact d) hfr (by show 2 * 0 + _ + _ ≤ _; have : nativeFrameWords "java/lang/System" "arraycopy" 5 = 7 := (by decide +kernel); omega)
  have e1 : copied (vp_cell (D.1 10) (n0, .inl (fun j => I (v a0 j)))) (vp_cell (D.1 10) (n1, .inl (fun j => I (v a j)))) (I sp) (I dp) (I k) = vp_cell (D.1 10) (n1, .inl (fun j => I (cpy (v a0) (v a) sp.toNat dp.toNat k.toNat j))) := by
    refine (va_copied (fun z => .int z) (D.1 10) (D.1 10) (fun j => I (v a0 j)) (fun j => I (v a j)) (by rw [csp, ck]; omega)).trans ?_
    rw [csp, cdp, ck, cpy_I]
    rfl
  rw [e1] at X' step
  have hl2 : a < H.size := (Array.getElem?_eq_some_iff.mp hc1).1
  generalize hcl : vp_cell (D.1 10) (n1, .inl (fun j => I (cpy (v a0) (v a) sp.toNat dp.toNat k.toNat j))) = cel at X' step
  have hheap : ((T.setVm vm').setCell a cel).heap = H.setIfInBounds a cel := by rw [← hT]; rfl
  have oq : ∀ q : Nat, q ≠ a → (H.setIfInBounds a cel)[q]? = H[q]? := fun q hq => by simp [Array.getElem?_setIfInBounds, Ne.symm hq]
  have haA : A a := h2 a (by rw [hs]; exact fun q => by cases q)
  obtain ⟨t, a1, b1⟩ := K (H.setIfInBounds a cel) _ ls (by simp [h1]) h2 h3 (h4.setv hs (by show (H.setIfInBounds a cel)[a]? = some _; rw [← hcl]; simp [Array.getElem?_setIfInBounds, hl2, eA]) oq) ⟨by simp; exact h5.1, fun q g1 g2 => by
      rw [oq q (fun e => g2 (by rw [e]; exact haA))]
      exact h5.2.1 q g1 g2, fun q hq => by
      rcases List.mem_append.mp hq with h | h
      · exact h5.2.2 q h
      · obtain ⟨z, -, hz⟩ := List.mem_map.mp h
        rw [← hz]
        exact haA⟩ h6 _ hheap X'
  exact ⟨t, step t a1, b1⟩
theorem j_min (X : Cx p s m args meth c D cc nL own Ts ret) {index : Nat} {x y : Int} {rest : List Value} (d : decode cc pc = .ok (.invokestatic index, 3)) (hl : Cond.methodLink own index Lib.Math.min.name ∈ Ts ∧ Cond.static Lib.Math.min.name ∈ Ts ∧ Cond.initialized "java/lang/Math" ∈ Ts ∧ Cond.code Lib.Math.min.name Lib.Math.min.code 2 (some .int) ∈ Ts) (hB : (-2147483648 ≤ x ∧ x ≤ 2147483647) ∧ (-2147483648 ≤ y ∧ y ≤ 2147483647)) (hfr : 1 ≤ R.frames) (hlo : (rest.map fun v => v.category).sum + 13 ≤ R.locals) (hf : cells ≤ R.cells ∧ slots ≤ R.slots)
    (K : ∀ z : Int, (y < x → z = y) → (¬ y < x → z = x) → J p l e R s m args below meth c D A nL cells slots Q n sk v (pc + 3) L (.int (I z) :: rest)) : J p l e R s m args below meth c D A nL cells slots Q n sk v pc L (.int (I y) :: .int (I x) :: rest) := by
  intro H locs ls h1 h2 h3 h4 h5 h6
  refine va_mmin X.1 X.2.1 (X.2.2.1.trans h6.1.symm) X.2.2.2.1 (X.2.2.2.2.1 _ hl.1) (X.2.2.2.2.1 _ hl.2.1) (X.2.2.2.2.1 _ hl.2.2.1) (X.2.2.2.2.1 _ hl.2.2.2) hfr hlo hf.1 hf.2 d ?_
  by_cases h : y < x
  · rw [if_pos ((I_lt hB.2 hB.1).mpr h)]
    exact K y (fun _ => rfl) (fun q => absurd h q) H locs ls h1 h2 h3 h4 h5 h6
  · rw [if_neg (fun q => h ((I_lt hB.2 hB.1).mp q))]
    exact K x (fun q => absurd q h) (fun _ => rfl) H locs ls h1 h2 h3 h4 h5 h6
theorem j_obj (X : Cx p s m args meth c D cc nL own Ts ret) {index b : Nat} {rest : List Value} (d : decode cc pc = .ok (.invokespecial index, 3)) (hl : Cond.methodLink own index objectInit ∈ Ts ∧ Cond.instanceMethod objectInit ∈ Ts ∧ Cond.code objectInit ⟨#[0xb1]⟩ 1 none ∈ Ts) (hfr : 1 ≤ R.frames) (hlo : (rest.map fun v => v.category).sum + 12 ≤ R.locals)
    (K : J p l e R s m args below meth c D A nL cells slots Q n sk v (pc + 3) L rest) : J p l e R s m args below meth c D A nL cells slots Q n sk v pc L (.ref b :: rest) := by
  intro H locs ls h1 h2 h3 h4 h5 h6
  exact W.objInit X.1 X.2.1 X.2.2.2.1 (X.2.2.2.2.1 _ hl.1) (X.2.2.2.2.1 _ hl.2.1) (X.2.2.2.2.1 _ hl.2.2) rfl (h6.1.trans X.2.2.1.symm) rfl d hfr (by show 2 * 0 + _ + 12 ≤ _; omega) (K H locs ls h1 h2 h3 h4 h5 h6)
theorem Wd.push {H H1 : Heap} {g : (Nat → Int) → va_E} {r : Nat → Int} (h1 : H.size = n) (h : Wd D sk v H) (he : va_at D vwCl (n, g r) H1) (oq : ∀ q : Nat, q < n → H1[q]? = H[q]?) : Wd D (upS sk n g) (upR v n r) H1 := by
  intro b f' hb
  by_cases hq : b = n
  · subst hq
    rw [upS_s] at hb
    cases hb
    rw [upR_s]
    exact he
  · rw [upS_n _ _ hq] at hb
    rw [upR_n _ _ hq]
    have hl := (h b f' hb).lt
    exact (h b f' hb).kept (oq b (by rw [← h1]; exact hl))
theorem va_S.push {H0 H H1 : Heap} {locs : List Loc} (h1 : H.size = n) (h5 : va_S A H0 H locs) (z : H1.size = n + 1) (oq : ∀ q : Nat, q < n → H1[q]? = H[q]?) : va_S A H0 H1 locs := ⟨Nat.le_trans h5.1 (by omega), fun q g1 g2 => (oq q (by rw [← h1]; exact Nat.lt_of_lt_of_le g1 h5.1)).trans (h5.2.1 q g1 g2), h5.2.2⟩
theorem dom_push {g : (Nat → Int) → va_E} (h2 : ∀ a, sk a ≠ none → A a) (hn : A n) : ∀ a, upS sk n g a ≠ none → A a := fun a ha => by
  by_cases hq : a = n
  · rw [hq]; exact hn
  · rw [upS_n _ _ hq] at ha; exact h2 a ha
theorem j_new (X : Cx p s m args meth c D cc nL own Ts ret) {C : String} {T : u_T} {N ci index : Nat} {fs : List (Option Value)} (d : decode cc pc = .ok (.new index, 3)) (hin : ∀ w ∈ u_ws C T N, w ∈ Ts) (hc : vwCl[ci]? = some (C, T, N)) (ty0 : Nat → FieldType) (hty : ∀ k, k < N → parseFieldDescriptor (T k).2.2.1 = some (ty0 k)) (hl : Cond.classLink own index C ∈ Ts ∧ Cond.instantiable C N ∈ Ts ∧ Cond.initialized C ∈ Ts) (hfs : ∀ j, j < N → defaultValue (ty0 j) = vp_V (flds (fun _ => 0) 0 fs) j) (hf : cells + 1 ≤ R.cells ∧ slots + N ≤ R.slots)
    (K : J p l e R s m args below meth c D A nL (cells + 1) (slots + N) Q (n + 1) (upS sk n (eO ci fs)) (upR v n (fun _ => 0)) (pc + 3) L (.ref n :: st)) : J p l e R s m args below meth c D A nL cells slots Q n sk v pc L st := by
  intro H locs ls h1 h2 h3 h4 h5 h6
  have hKn := X.2.2.2.2.2.1.1 ci _ hc
  refine W.newcK X.1 X.2.1 X.2.2.2.1 (X.2.2.2.2.1 _ hl.1) (X.2.2.2.2.1 _ hl.2.1) (X.2.2.2.2.1 _ hl.2.2) rfl d hf.1 hf.2 hKn.2.1 h1 fun H1 kC hkC e1 z1 o1 => ?_
  exact K H1 locs ls z1 (dom_push h2 (h3 _ (h1 ▸ h5.1))) h3 (h4.push h1 ⟨_, hc, (u_born ty0 X.2.2.2.2.1 hin hKn hkC e1 hty).to hfs⟩ o1) (va_S.push h1 h5 z1 o1) h6
theorem j_newa (X : Cx p s m args meth c D cc nL own Ts ret) {atype : ArrayType} {k t0 N' : Nat} {z : Int} {ty : FieldType} (d : decode cc pc = .ok (.newarray atype, 2)) (hty : newarray.typeOf atype = ty) (harr : Cond.arrayClass ty ∈ Ts) (ht0 : (tysA D)[t0]? = some (D.1 k, ty)) (hra : ∀ C, ty ≠ .object C) (hdv : defaultValue ty = .int 0) (hz : z = (N' : Int)) (hN : N' * componentBytes ty ≤ 536870912 ∧ N' ≤ 2147483647) (hf : cells + 1 ≤ R.cells ∧ slots + N' ≤ R.slots)
    (K : J p l e R s m args below meth c D A nL (cells + 1) (slots + N') Q (n + 1) (upS sk n (eA D k N')) (upR v n (fun _ => 0)) (pc + 2) L (.ref n :: st)) : J p l e R s m args below meth c D A nL cells slots Q n sk v pc L (.int (I z) :: st) := by
  subst hty
  subst hz
  intro H locs ls h1 h2 h3 h4 h5 h6
  refine va_newaK X.1 X.2.1 (X.2.2.2.2.1 _ harr) rfl d rfl (I_nneg (by omega)) (N := N') (by rw [I_clamp (by omega)]; rfl) hN.1 hf.1 hf.2 h1 fun H1 cA e1 z1 o1 hAr hNm => ?_
  have hRA := (X.2.2.2.2.2.1.2 t0 _ ht0).2
  have hcA : cA = D.1 k := by
    have h9 : s.vm.findClass ("[" ++ (newarray.typeOf atype).toString) = some (D.1 k) := by
      cases atype <;> exact hRA
    exact Option.some.inj (hNm.symm.trans h9)
  subst hcA
  refine K H1 locs ls z1 (dom_push h2 (h3 _ (h1 ▸ h5.1))) h3 (h4.push h1 ?_ o1) (va_S.push h1 h5 z1 o1) h6
  show H1[n]? = some (vp_cell _ _)
  rw [e1, hdv]
  rfl
theorem j_newq (X : Cx p s m args meth c D cc nL own Ts ret) {C : String} {index k t0 N' : Nat} {z : Int} (d : decode cc pc = .ok (.anewarray index, 3)) (hl : Cond.classLink own index C ∈ Ts) (ho : va_AO C s) (ht0 : (tysA D)[t0]? = some (D.1 k, .object C)) (hz : z = (N' : Int)) (hN : N' * 4 ≤ 536870912) (hf : cells + 1 ≤ R.cells ∧ slots + N' ≤ R.slots)
    (K : J p l e R s m args below meth c D A nL (cells + 1) (slots + N') Q (n + 1) (upS sk n (eQ D k N' (fun _ => none))) (upR v n (fun _ => 0)) (pc + 3) L (.ref n :: st)) : J p l e R s m args below meth c D A nL cells slots Q n sk v pc L (.int (I z) :: st) := by
  subst hz
  intro H locs ls h1 h2 h3 h4 h5 h6
  have hcl : (I (N' : Int)).toNatClampNeg = N' := by rw [I_clamp (by omega)]; rfl
  refine W.anew X.1 X.2.1 X.2.2.2.1 (X.2.2.2.2.1 _ hl) (va_AO.use ho) rfl d rfl (I_nneg (by omega)) (by rw [hcl]; exact hN) hf.1 (by rw [hcl]; exact hf.2) fun cA kA comp f1 f2 f3 f4 => ?_
  obtain ⟨kA', comp', g1, g2, g3, g4⟩ := (X.2.2.2.2.2.1.2 t0 _ ht0).2
  have hcA : cA = D.1 k := Option.some.inj (f1.symm.trans g4)
  subst hcA
  rw [hcl]
  generalize hH1 : H.push ({ cls := D.1 k, slots := Array.replicate N' .null, vm := .none } : Cell) = H1
  have z1 : H1.size = n + 1 := by rw [← hH1, Array.size_push, h1]
  have e1 : H1[n]? = some (arrV (D.1 k) N' (fun _ => .null)) := by rw [← hH1, ← h1, Array.getElem?_push_size, ← arrV_new]
  have o1 : ∀ q : Nat, q < n → H1[q]? = H[q]? := fun q hq => by rw [← hH1, Array.getElem?_push, if_neg (by omega)]
  rw [h1]
  refine K H1 locs ls z1 (dom_push h2 (h3 _ (h1 ▸ h5.1))) h3 (h4.push h1 ?_ o1) (va_S.push h1 h5 z1 o1) h6
  show H1[n]? = some (vp_cell _ _)
  rw [e1]
  rfl
theorem j_aast (X : Cx p s m args meth c D cc nL own Ts ret) {a nn k b t0 ci : Nat} {i : Int} {g : Nat → Option Nat} {r : vw_C} {fs : List (Option Value)} (d : decode cc pc = .ok (.aastore, 1)) (hs : sk a = some (eQ D k nn g)) (ht0 : (tysA D)[t0]? = some (D.1 k, .object r.1)) (hv : sk b = some (eO ci fs)) (hc : vwCl[ci]? = some r) (hi : 0 ≤ i ∧ i < nn) (hnn : nn ≤ 2147483647)
    (K : J p l e R s m args below meth c D A nL cells slots Q n (upS sk a (eQ D k nn (va_up g i.toNat (some b)))) (upR v a (v a)) (pc + 1) L st) : J p l e R s m args below meth c D A nL cells slots Q n sk v pc L (.ref b :: .int (I i) :: .ref a :: st) := by
  intro H locs ls h1 h2 h3 h4 h5 h6
  have hcl : (I i).toNatClampNeg = i.toNat := I_clamp (by omega)
  obtain ⟨r', hr', cellV, g1, g2, g3, -⟩ := h4 b _ hv
  have hcls := (X.2.2.2.2.2.1.1 ci r hc).2
  obtain ⟨kA, comp, k1, k2, k3, -⟩ := (X.2.2.2.2.2.1.2 t0 _ ht0).2
  have hcomp : comp = D.1 ci := Option.some.inj (k3.symm.trans hcls.1)
  subst hcomp
  obtain ⟨kC, hkC, -⟩ := hcls.2
  have hin9 : ¬ I i < 0 ∧ (I i).toNatClampNeg < (arrV (D.1 k) nn (fun j => va_rf (g j))).slots.size := ⟨I_nneg (by omega), by rw [arrV_size, hcl]; omega⟩
  refine W.aast X.1 X.2.1 (h4 a _ hs) (fun q h => by cases h) (fun h => by cases h) k1 k2 rfl hkC hin9 g1 (fun q h => by rw [g3] at h; cases h) (by rw [g2]; exact hkC) (by rw [g2]; exact va_assign hcls) rfl rfl d fun H1 e1 e2 e3 => ?_
  refine K H1 _ ls (e2.trans h1) ?_ h3 (h4.set (g := eQ D k nn (va_up g i.toNat (some b))) hs ?_ e3) (h5.put e2 e3 (h2 a (by rw [hs]; exact fun q => by cases q))) h6
  · intro x hx
    by_cases hq : x = a
    · rw [hq]; exact h2 a (by rw [hs]; exact fun q => by cases q)
    · rw [upS_n _ _ hq] at hx; exact h2 x hx
  · show H1[a]? = some (vp_cell _ _)
    rw [e1]
    show some (Cell.setSlot (vp_cell (D.1 k) (nn, .inr (.inr (.inr (.inr g))))) _ _) = _
    rw [vp_cell_q, arrV_store, hcl]
    show some (arrV (D.1 k) nn _) = some (arrV (D.1 k) nn (fun j => va_rf (va_up g i.toNat (some b) j)))
    refine congrArg some (congrArg (arrV _ nn) ?_)
    funext q
    by_cases hq : q = i.toNat
    · subst hq
      simp [updV, va_up, va_rf]
    · simp [updV, va_up, hq]
theorem j_putF (X : Cx p s m args meth c D cc nL own Ts ret) {C : String} {T : u_T} {N ci index a : Nat} {fs : List (Option Value)} {b : Nat} (d : decode cc pc = .ok (.putfield index, 3)) (hin : ∀ w ∈ u_ws C T N, w ∈ Ts) (hc : vwCl[ci]? = some (C, T, N)) (hs : sk a = some (eO ci fs)) (k : Nat) (hk : k < N) (ty0 : Nat → FieldType) (hty : ∀ k, k < N → parseFieldDescriptor (T k).2.2.1 = some (ty0 k)) (hnm : ∀ a, a < N → ∀ b, b < N → a ≠ b → (T a).2.1 ≠ (T b).2.1) (hfin : (T k).2.2.2 = true) (hin2 : meth.name = "<init>") (hdecl : (T k).1 = own) (hnf : narrow (ty0 k) (.ref b) = .ref b ∧ fits (ty0 k) (.ref b) = true) (hl : k < fs.length) (hlink : Cond.fieldLink own index (T k).1 (T k).2.1 (T k).2.2.1 ∈ Ts)
    (K : J p l e R s m args below meth c D A nL cells slots Q n (upS sk a (eO ci (fs.set k (some (.ref b))))) (upR v a (v a)) (pc + 3) L st) : J p l e R s m args below meth c D A nL cells slots Q n sk v pc L (.ref b :: .ref a :: st) := by
  intro H locs ls h1 h2 h3 h4 h5 h6
  have hap := va_apart (own := own) X.2.2.2.2.1 hin ty0 hty hnm X.2.2.2.2.2.1 hc
  obtain ⟨r, g1, cell, q1, q2, q3, q4⟩ := h4 a _ hs
  have hr : r = (C, T, N) := Option.some.inj (g1.symm.trans hc)
  subst hr
  obtain ⟨hS, hfc, kC, hkC, hkind⟩ := X.2.2.2.2.2.1.1 ci _ hc
  obtain ⟨cf, kf, fi, f, hi, hsl⟩ := hS k hk
  have hlay := X.2.2.2.2.1 _ (hin _ (u_in_lay hk))
  unfold u_lay at hlay
  rw [if_pos hfin] at hlay
  have hst := (u_facts hfc hkC (u_lays X.2.2.2.2.1 hin hk) hi).1
  have hcf : m.cls = cf := by
    obtain ⟨_, _, c', _, _, _, -, -, hf', -, -, -, hown2, -⟩ := Cond.laysFinal_spec hlay
    have e1 : c' = cf := by have := hi.symm.trans hf'; simp at this; exact this.1.symm
    rw [hdecl] at hown2
    rw [← e1]; exact Option.some.inj (X.2.2.2.1.symm.trans hown2)
  have hk6 := u_fits hfc hkC hkind (Or.inr hlay) hi (hty k hk) hnf.1 hnf.2
  refine W.putFinK X.1 X.2.1 X.2.2.2.1 (X.2.2.2.2.1 _ hlink) hi hst hcf hin2 (by rw [q2]; exact hk6) q1 q3 (by rw [hsl]; exact k2_hasslot (q4 k hk)) rfl rfl d fun H' e1 e2 e3 => ?_
  rw [hsl] at e1 ⊢
  have haA : A a := h2 a (by rw [hs]; exact fun q => by cases q)
  refine K H' _ ls (e2.trans h1) (fun x hx => ?_) h3 (h4.set (g := eO ci (fs.set k (some (.ref b)))) (r := v a) hs ⟨_, hc, ?_⟩ e3) (h5.put e2 e3 haA) h6
  · by_cases hq : x = a
    · rw [hq]; exact haA
    · rw [upS_n _ _ hq] at hx; exact h2 x hx
  show t_OB a _ _ _ _ (vp_V (flds (v a) 0 (fs.set k (some (.ref b)))))
  rw [flds_ref _ _ _ _ hl]
  have hl2 : k < (flds (v a) 0 fs).length := by rw [flds_len]; exact hl
  exact t_OB.to (V := updV (vp_V (flds (v a) 0 fs)) k (.ref b)) ⟨_, e1, q2, q3, t_set q4 hap hk (.ref b)⟩ (fun j _ => vp_updV_set hl2 _ j)
end JB
end
section
theorem dX0_init_0 : decode cX0_init 0 = .ok (.aload_n 0, 1) := by decide +kernel
theorem dX0_init_1 : decode cX0_init 1 = .ok (.invokespecial 3, 3) := by decide +kernel
theorem dX0_init_4 : decode cX0_init 4 = .ok (.aload_n 0, 1) := by decide +kernel
theorem dX0_init_5 : decode cX0_init 5 = .ok (.bipush 60, 2) := by decide +kernel
theorem dX0_init_7 : decode cX0_init 7 = .ok (.newarray .int, 2) := by decide +kernel
theorem dX0_init_9 : decode cX0_init 9 = .ok (.putfield 9, 3) := by decide +kernel
theorem dX0_init_12 : decode cX0_init 12 = .ok (.return_, 1) := by decide +kernel
theorem dX0_leafWith_0 : decode cX0_leafWith 0 = .ok (.iload_n 0, 1) := by decide +kernel
theorem dX0_leafWith_1 : decode cX0_leafWith 1 = .ok (.bipush 16, 2) := by decide +kernel
theorem dX0_leafWith_3 : decode cX0_leafWith 3 = .ok (.imul, 1) := by decide +kernel
theorem dX0_leafWith_4 : decode cX0_leafWith 4 = .ok (.iload_n 1, 1) := by decide +kernel
theorem dX0_leafWith_5 : decode cX0_leafWith 5 = .ok (.iadd, 1) := by decide +kernel
theorem dX0_leafWith_6 : decode cX0_leafWith 6 = .ok (.ireturn, 1) := by decide +kernel
theorem dX0_numberOf_0 : decode cX0_numberOf 0 = .ok (.iload_n 0, 1) := by decide +kernel
theorem dX0_numberOf_1 : decode cX0_numberOf 1 = .ok (.bipush 16, 2) := by decide +kernel
theorem dX0_numberOf_3 : decode cX0_numberOf 3 = .ok (.idiv, 1) := by decide +kernel
theorem dX0_numberOf_4 : decode cX0_numberOf 4 = .ok (.ireturn, 1) := by decide +kernel
theorem dX0_issueOf_0 : decode cX0_issueOf 0 = .ok (.iload_n 0, 1) := by decide +kernel
theorem dX0_issueOf_1 : decode cX0_issueOf 1 = .ok (.bipush 16, 2) := by decide +kernel
theorem dX0_issueOf_3 : decode cX0_issueOf 3 = .ok (.irem, 1) := by decide +kernel
theorem dX0_issueOf_4 : decode cX0_issueOf 4 = .ok (.ireturn, 1) := by decide +kernel
theorem dX0_copy_0 : decode cX0_copy 0 = .ok (.aload_n 1, 1) := by decide +kernel
theorem dX0_copy_1 : decode cX0_copy 1 = .ok (.getfield 9, 3) := by decide +kernel
theorem dX0_copy_4 : decode cX0_copy 4 = .ok (.iconst 0, 1) := by decide +kernel
theorem dX0_copy_5 : decode cX0_copy 5 = .ok (.aload_n 0, 1) := by decide +kernel
theorem dX0_copy_6 : decode cX0_copy 6 = .ok (.getfield 9, 3) := by decide +kernel
theorem dX0_copy_9 : decode cX0_copy 9 = .ok (.iconst 0, 1) := by decide +kernel
theorem dX0_copy_10 : decode cX0_copy 10 = .ok (.aload_n 1, 1) := by decide +kernel
theorem dX0_copy_11 : decode cX0_copy 11 = .ok (.getfield 15, 3) := by decide +kernel
theorem dX0_copy_14 : decode cX0_copy 14 = .ok (.invokestatic 19, 3) := by decide +kernel
theorem dX0_copy_17 : decode cX0_copy 17 = .ok (.aload_n 0, 1) := by decide +kernel
theorem dX0_copy_18 : decode cX0_copy 18 = .ok (.aload_n 1, 1) := by decide +kernel
theorem dX0_copy_19 : decode cX0_copy 19 = .ok (.getfield 15, 3) := by decide +kernel
theorem dX0_copy_22 : decode cX0_copy 22 = .ok (.putfield 15, 3) := by decide +kernel
theorem dX0_copy_25 : decode cX0_copy 25 = .ok (.return_, 1) := by decide +kernel
theorem dX0_placeOf_0 : decode cX0_placeOf 0 = .ok (.iconst 0, 1) := by decide +kernel
theorem dX0_placeOf_1 : decode cX0_placeOf 1 = .ok (.istore_n 2, 1) := by decide +kernel
theorem dX0_placeOf_2 : decode cX0_placeOf 2 = .ok (.iload_n 2, 1) := by decide +kernel
theorem dX0_placeOf_3 : decode cX0_placeOf 3 = .ok (.aload_n 0, 1) := by decide +kernel
theorem dX0_placeOf_4 : decode cX0_placeOf 4 = .ok (.getfield 15, 3) := by decide +kernel
theorem dX0_placeOf_7 : decode cX0_placeOf 7 = .ok (.if_icmp .ge 21, 3) := by decide +kernel
theorem dX0_placeOf_10 : decode cX0_placeOf 10 = .ok (.aload_n 0, 1) := by decide +kernel
theorem dX0_placeOf_11 : decode cX0_placeOf 11 = .ok (.getfield 9, 3) := by decide +kernel
theorem dX0_placeOf_14 : decode cX0_placeOf 14 = .ok (.iload_n 2, 1) := by decide +kernel
theorem dX0_placeOf_15 : decode cX0_placeOf 15 = .ok (.iaload, 1) := by decide +kernel
theorem dX0_placeOf_16 : decode cX0_placeOf 16 = .ok (.iload_n 1, 1) := by decide +kernel
theorem dX0_placeOf_17 : decode cX0_placeOf 17 = .ok (.if_icmp .lt 5, 3) := by decide +kernel
theorem dX0_placeOf_20 : decode cX0_placeOf 20 = .ok (.iload_n 2, 1) := by decide +kernel
theorem dX0_placeOf_21 : decode cX0_placeOf 21 = .ok (.ireturn, 1) := by decide +kernel
theorem dX0_placeOf_22 : decode cX0_placeOf 22 = .ok (.iinc 2 1, 3) := by decide +kernel
theorem dX0_placeOf_25 : decode cX0_placeOf 25 = .ok (.goto (-23), 3) := by decide +kernel
theorem dX0_placeOf_28 : decode cX0_placeOf 28 = .ok (.aload_n 0, 1) := by decide +kernel
theorem dX0_placeOf_29 : decode cX0_placeOf 29 = .ok (.getfield 15, 3) := by decide +kernel
theorem dX0_placeOf_32 : decode cX0_placeOf 32 = .ok (.ireturn, 1) := by decide +kernel
set_option maxRecDepth 20000 in
theorem ggX0_start_X0_leafWith : GoodIn wsX0_start wsX0_leafWith := goodIn_r _ [4] (by decide +kernel) (by decide +kernel)
set_option maxRecDepth 20000 in
theorem gX0_start_X0_leafWith : GoodIn wsX0_start (va_wsS RX0 25 yX0_leafWith wsX0_leafWith) := goodIn_app (goodIn_of _ (by decide +kernel)) ggX0_start_X0_leafWith
set_option maxRecDepth 20000 in
theorem ggX0_start_X0_placeOf : GoodIn wsX0_start wsX0_placeOf := goodIn_r _ [8, 9, 10, 11, 12] (by decide +kernel) (by decide +kernel)
set_option maxRecDepth 20000 in
theorem gX0_start_X0_placeOf : GoodIn wsX0_start (wsV RX0 29 RX0 yX0_placeOf wsX0_placeOf) := goodIn_app (goodIn_of _ (by decide +kernel)) ggX0_start_X0_placeOf
theorem dX0_start_0 : decode cX0_start 0 = .ok (.aload_n 0, 1) := by decide +kernel
theorem dX0_start_1 : decode cX0_start 1 = .ok (.iload_n 1, 1) := by decide +kernel
theorem dX0_start_2 : decode cX0_start 2 = .ok (.iconst 0, 1) := by decide +kernel
theorem dX0_start_3 : decode cX0_start 3 = .ok (.invokestatic 25, 3) := by decide +kernel
theorem dX0_start_6 : decode cX0_start 6 = .ok (.invokevirtual 29, 3) := by decide +kernel
theorem dX0_start_9 : decode cX0_start 9 = .ok (.ireturn, 1) := by decide +kernel
set_option maxRecDepth 20000 in
theorem ggX0_end_X0_numberOf : GoodIn wsX0_end wsX0_numberOf := goodIn_r _ [6] (by decide +kernel) (by decide +kernel)
set_option maxRecDepth 20000 in
theorem gX0_end_X0_numberOf : GoodIn wsX0_end (va_wsS RX0 33 yX0_numberOf wsX0_numberOf) := goodIn_app (goodIn_of _ (by decide +kernel)) ggX0_end_X0_numberOf
theorem dX0_end_0 : decode cX0_end 0 = .ok (.iload_n 2, 1) := by decide +kernel
theorem dX0_end_1 : decode cX0_end 1 = .ok (.istore_n 3, 1) := by decide +kernel
theorem dX0_end_2 : decode cX0_end 2 = .ok (.iload_n 3, 1) := by decide +kernel
theorem dX0_end_3 : decode cX0_end 3 = .ok (.aload_n 0, 1) := by decide +kernel
theorem dX0_end_4 : decode cX0_end 4 = .ok (.getfield 15, 3) := by decide +kernel
theorem dX0_end_7 : decode cX0_end 7 = .ok (.if_icmp .ge 24, 3) := by decide +kernel
theorem dX0_end_10 : decode cX0_end 10 = .ok (.aload_n 0, 1) := by decide +kernel
theorem dX0_end_11 : decode cX0_end 11 = .ok (.getfield 9, 3) := by decide +kernel
theorem dX0_end_14 : decode cX0_end 14 = .ok (.iload_n 3, 1) := by decide +kernel
theorem dX0_end_15 : decode cX0_end 15 = .ok (.iaload, 1) := by decide +kernel
theorem dX0_end_16 : decode cX0_end 16 = .ok (.invokestatic 33, 3) := by decide +kernel
theorem dX0_end_19 : decode cX0_end 19 = .ok (.iload_n 1, 1) := by decide +kernel
theorem dX0_end_20 : decode cX0_end 20 = .ok (.if_icmp .eq 5, 3) := by decide +kernel
theorem dX0_end_23 : decode cX0_end 23 = .ok (.iload_n 3, 1) := by decide +kernel
theorem dX0_end_24 : decode cX0_end 24 = .ok (.ireturn, 1) := by decide +kernel
theorem dX0_end_25 : decode cX0_end 25 = .ok (.iinc 3 1, 3) := by decide +kernel
theorem dX0_end_28 : decode cX0_end 28 = .ok (.goto (-26), 3) := by decide +kernel
theorem dX0_end_31 : decode cX0_end 31 = .ok (.aload_n 0, 1) := by decide +kernel
theorem dX0_end_32 : decode cX0_end 32 = .ok (.getfield 15, 3) := by decide +kernel
theorem dX0_end_35 : decode cX0_end 35 = .ok (.ireturn, 1) := by decide +kernel
theorem dX0_removeRange_0 : decode cX0_removeRange 0 = .ok (.aload_n 0, 1) := by decide +kernel
theorem dX0_removeRange_1 : decode cX0_removeRange 1 = .ok (.getfield 9, 3) := by decide +kernel
theorem dX0_removeRange_4 : decode cX0_removeRange 4 = .ok (.iload_n 2, 1) := by decide +kernel
theorem dX0_removeRange_5 : decode cX0_removeRange 5 = .ok (.aload_n 0, 1) := by decide +kernel
theorem dX0_removeRange_6 : decode cX0_removeRange 6 = .ok (.getfield 9, 3) := by decide +kernel
theorem dX0_removeRange_9 : decode cX0_removeRange 9 = .ok (.iload_n 1, 1) := by decide +kernel
theorem dX0_removeRange_10 : decode cX0_removeRange 10 = .ok (.aload_n 0, 1) := by decide +kernel
theorem dX0_removeRange_11 : decode cX0_removeRange 11 = .ok (.getfield 15, 3) := by decide +kernel
theorem dX0_removeRange_14 : decode cX0_removeRange 14 = .ok (.iload_n 2, 1) := by decide +kernel
theorem dX0_removeRange_15 : decode cX0_removeRange 15 = .ok (.isub, 1) := by decide +kernel
theorem dX0_removeRange_16 : decode cX0_removeRange 16 = .ok (.invokestatic 19, 3) := by decide +kernel
theorem dX0_removeRange_19 : decode cX0_removeRange 19 = .ok (.aload_n 0, 1) := by decide +kernel
theorem dX0_removeRange_20 : decode cX0_removeRange 20 = .ok (.dup, 1) := by decide +kernel
theorem dX0_removeRange_21 : decode cX0_removeRange 21 = .ok (.getfield 15, 3) := by decide +kernel
theorem dX0_removeRange_24 : decode cX0_removeRange 24 = .ok (.iload_n 2, 1) := by decide +kernel
theorem dX0_removeRange_25 : decode cX0_removeRange 25 = .ok (.iload_n 1, 1) := by decide +kernel
theorem dX0_removeRange_26 : decode cX0_removeRange 26 = .ok (.isub, 1) := by decide +kernel
theorem dX0_removeRange_27 : decode cX0_removeRange 27 = .ok (.isub, 1) := by decide +kernel
theorem dX0_removeRange_28 : decode cX0_removeRange 28 = .ok (.putfield 15, 3) := by decide +kernel
theorem dX0_removeRange_31 : decode cX0_removeRange 31 = .ok (.return_, 1) := by decide +kernel
set_option maxRecDepth 20000 in
theorem ggX0_insert_X0_leafWith : GoodIn wsX0_insert wsX0_leafWith := goodIn_r _ [10] (by decide +kernel) (by decide +kernel)
set_option maxRecDepth 20000 in
theorem gX0_insert_X0_leafWith : GoodIn wsX0_insert (va_wsS RX0 25 yX0_leafWith wsX0_leafWith) := goodIn_app (goodIn_of _ (by decide +kernel)) ggX0_insert_X0_leafWith
set_option maxRecDepth 20000 in
theorem ggX0_insert_X0_placeOf : GoodIn wsX0_insert wsX0_placeOf := goodIn_r _ [14, 1, 2, 15, 16] (by decide +kernel) (by decide +kernel)
set_option maxRecDepth 20000 in
theorem gX0_insert_X0_placeOf : GoodIn wsX0_insert (wsV RX0 29 RX0 yX0_placeOf wsX0_placeOf) := goodIn_app (goodIn_of _ (by decide +kernel)) ggX0_insert_X0_placeOf
theorem dX0_insert_0 : decode cX0_insert 0 = .ok (.aload_n 0, 1) := by decide +kernel
theorem dX0_insert_1 : decode cX0_insert 1 = .ok (.getfield 15, 3) := by decide +kernel
theorem dX0_insert_4 : decode cX0_insert 4 = .ok (.bipush 60, 2) := by decide +kernel
theorem dX0_insert_6 : decode cX0_insert 6 = .ok (.if_icmp .lt 4, 3) := by decide +kernel
theorem dX0_insert_9 : decode cX0_insert 9 = .ok (.return_, 1) := by decide +kernel
theorem dX0_insert_10 : decode cX0_insert 10 = .ok (.iload_n 1, 1) := by decide +kernel
theorem dX0_insert_11 : decode cX0_insert 11 = .ok (.iload_n 2, 1) := by decide +kernel
theorem dX0_insert_12 : decode cX0_insert 12 = .ok (.invokestatic 25, 3) := by decide +kernel
theorem dX0_insert_15 : decode cX0_insert 15 = .ok (.istore_n 3, 1) := by decide +kernel
theorem dX0_insert_16 : decode cX0_insert 16 = .ok (.aload_n 0, 1) := by decide +kernel
theorem dX0_insert_17 : decode cX0_insert 17 = .ok (.iload_n 3, 1) := by decide +kernel
theorem dX0_insert_18 : decode cX0_insert 18 = .ok (.invokevirtual 29, 3) := by decide +kernel
theorem dX0_insert_21 : decode cX0_insert 21 = .ok (.istore 4, 2) := by decide +kernel
theorem dX0_insert_23 : decode cX0_insert 23 = .ok (.aload_n 0, 1) := by decide +kernel
theorem dX0_insert_24 : decode cX0_insert 24 = .ok (.getfield 9, 3) := by decide +kernel
theorem dX0_insert_27 : decode cX0_insert 27 = .ok (.iload 4, 2) := by decide +kernel
theorem dX0_insert_29 : decode cX0_insert 29 = .ok (.aload_n 0, 1) := by decide +kernel
theorem dX0_insert_30 : decode cX0_insert 30 = .ok (.getfield 9, 3) := by decide +kernel
theorem dX0_insert_33 : decode cX0_insert 33 = .ok (.iload 4, 2) := by decide +kernel
theorem dX0_insert_35 : decode cX0_insert 35 = .ok (.iconst 1, 1) := by decide +kernel
theorem dX0_insert_36 : decode cX0_insert 36 = .ok (.iadd, 1) := by decide +kernel
theorem dX0_insert_37 : decode cX0_insert 37 = .ok (.aload_n 0, 1) := by decide +kernel
theorem dX0_insert_38 : decode cX0_insert 38 = .ok (.getfield 15, 3) := by decide +kernel
theorem dX0_insert_41 : decode cX0_insert 41 = .ok (.iload 4, 2) := by decide +kernel
theorem dX0_insert_43 : decode cX0_insert 43 = .ok (.isub, 1) := by decide +kernel
theorem dX0_insert_44 : decode cX0_insert 44 = .ok (.invokestatic 19, 3) := by decide +kernel
theorem dX0_insert_47 : decode cX0_insert 47 = .ok (.aload_n 0, 1) := by decide +kernel
theorem dX0_insert_48 : decode cX0_insert 48 = .ok (.getfield 9, 3) := by decide +kernel
theorem dX0_insert_51 : decode cX0_insert 51 = .ok (.iload 4, 2) := by decide +kernel
theorem dX0_insert_53 : decode cX0_insert 53 = .ok (.iload_n 3, 1) := by decide +kernel
theorem dX0_insert_54 : decode cX0_insert 54 = .ok (.iastore, 1) := by decide +kernel
theorem dX0_insert_55 : decode cX0_insert 55 = .ok (.aload_n 0, 1) := by decide +kernel
theorem dX0_insert_56 : decode cX0_insert 56 = .ok (.dup, 1) := by decide +kernel
theorem dX0_insert_57 : decode cX0_insert 57 = .ok (.getfield 15, 3) := by decide +kernel
theorem dX0_insert_60 : decode cX0_insert 60 = .ok (.iconst 1, 1) := by decide +kernel
theorem dX0_insert_61 : decode cX0_insert 61 = .ok (.iadd, 1) := by decide +kernel
theorem dX0_insert_62 : decode cX0_insert 62 = .ok (.putfield 15, 3) := by decide +kernel
theorem dX0_insert_65 : decode cX0_insert 65 = .ok (.return_, 1) := by decide +kernel
set_option maxRecDepth 20000 in
theorem ggX0_removeAll_X0_start : GoodIn wsX0_removeAll wsX0_start := goodIn_r _ [5, 6, 7, 4, 8, 9, 10, 11, 12, 13, 14, 30, 31] (by decide +kernel) (by decide +kernel)
set_option maxRecDepth 20000 in
theorem gX0_removeAll_X0_start : GoodIn wsX0_removeAll (wsV RX0 36 RX0 yX0_start wsX0_start) := goodIn_app (goodIn_of _ (by decide +kernel)) ggX0_removeAll_X0_start
set_option maxRecDepth 20000 in
theorem ggX0_removeAll_X0_end : GoodIn wsX0_removeAll wsX0_end := goodIn_r _ [18, 13, 14, 19, 20, 4, 21, 30, 31] (by decide +kernel) (by decide +kernel)
set_option maxRecDepth 20000 in
theorem gX0_removeAll_X0_end : GoodIn wsX0_removeAll (wsV RX0 39 RX0 yX0_end wsX0_end) := goodIn_app (goodIn_of _ (by decide +kernel)) ggX0_removeAll_X0_end
set_option maxRecDepth 20000 in
theorem ggX0_removeAll_X0_removeRange : GoodIn wsX0_removeAll wsX0_removeRange := goodIn_r _ [25, 14, 13, 26, 27, 28, 29, 30, 31] (by decide +kernel) (by decide +kernel)
set_option maxRecDepth 20000 in
theorem gX0_removeAll_X0_removeRange : GoodIn wsX0_removeAll (wsV RX0 42 RX0 yX0_removeRange wsX0_removeRange) := goodIn_app (goodIn_of _ (by decide +kernel)) ggX0_removeAll_X0_removeRange
theorem dX0_removeAll_0 : decode cX0_removeAll 0 = .ok (.aload_n 0, 1) := by decide +kernel
theorem dX0_removeAll_1 : decode cX0_removeAll 1 = .ok (.iload_n 1, 1) := by decide +kernel
theorem dX0_removeAll_2 : decode cX0_removeAll 2 = .ok (.invokevirtual 36, 3) := by decide +kernel
theorem dX0_removeAll_5 : decode cX0_removeAll 5 = .ok (.istore_n 2, 1) := by decide +kernel
theorem dX0_removeAll_6 : decode cX0_removeAll 6 = .ok (.aload_n 0, 1) := by decide +kernel
theorem dX0_removeAll_7 : decode cX0_removeAll 7 = .ok (.iload_n 2, 1) := by decide +kernel
theorem dX0_removeAll_8 : decode cX0_removeAll 8 = .ok (.aload_n 0, 1) := by decide +kernel
theorem dX0_removeAll_9 : decode cX0_removeAll 9 = .ok (.iload_n 1, 1) := by decide +kernel
theorem dX0_removeAll_10 : decode cX0_removeAll 10 = .ok (.iload_n 2, 1) := by decide +kernel
theorem dX0_removeAll_11 : decode cX0_removeAll 11 = .ok (.invokevirtual 39, 3) := by decide +kernel
theorem dX0_removeAll_14 : decode cX0_removeAll 14 = .ok (.invokevirtual 42, 3) := by decide +kernel
theorem dX0_removeAll_17 : decode cX0_removeAll 17 = .ok (.return_, 1) := by decide +kernel
set_option maxRecDepth 20000 in
theorem ggX0_removeEarliest_X0_start : GoodIn wsX0_removeEarliest wsX0_start := goodIn_r _ [9, 10, 11, 8, 12, 13, 14, 15, 16, 17, 18, 34, 35] (by decide +kernel) (by decide +kernel)
set_option maxRecDepth 20000 in
theorem gX0_removeEarliest_X0_start : GoodIn wsX0_removeEarliest (wsV RX0 36 RX0 yX0_start wsX0_start) := goodIn_app (goodIn_of _ (by decide +kernel)) ggX0_removeEarliest_X0_start
set_option maxRecDepth 20000 in
theorem ggX0_removeEarliest_X0_end : GoodIn wsX0_removeEarliest wsX0_end := goodIn_r _ [22, 17, 18, 23, 24, 8, 25, 34, 35] (by decide +kernel) (by decide +kernel)
set_option maxRecDepth 20000 in
theorem gX0_removeEarliest_X0_end : GoodIn wsX0_removeEarliest (wsV RX0 39 RX0 yX0_end wsX0_end) := goodIn_app (goodIn_of _ (by decide +kernel)) ggX0_removeEarliest_X0_end
set_option maxRecDepth 20000 in
theorem ggX0_removeEarliest_X0_removeRange : GoodIn wsX0_removeEarliest wsX0_removeRange := goodIn_r _ [29, 18, 17, 30, 31, 32, 33, 34, 35] (by decide +kernel) (by decide +kernel)
set_option maxRecDepth 20000 in
theorem gX0_removeEarliest_X0_removeRange : GoodIn wsX0_removeEarliest (wsV RX0 42 RX0 yX0_removeRange wsX0_removeRange) := goodIn_app (goodIn_of _ (by decide +kernel)) ggX0_removeEarliest_X0_removeRange
theorem dX0_removeEarliest_0 : decode cX0_removeEarliest 0 = .ok (.aload_n 0, 1) := by decide +kernel
theorem dX0_removeEarliest_1 : decode cX0_removeEarliest 1 = .ok (.iload_n 1, 1) := by decide +kernel
theorem dX0_removeEarliest_2 : decode cX0_removeEarliest 2 = .ok (.invokevirtual 36, 3) := by decide +kernel
theorem dX0_removeEarliest_5 : decode cX0_removeEarliest 5 = .ok (.istore_n 2, 1) := by decide +kernel
theorem dX0_removeEarliest_6 : decode cX0_removeEarliest 6 = .ok (.aload_n 0, 1) := by decide +kernel
theorem dX0_removeEarliest_7 : decode cX0_removeEarliest 7 = .ok (.iload_n 2, 1) := by decide +kernel
theorem dX0_removeEarliest_8 : decode cX0_removeEarliest 8 = .ok (.iload_n 2, 1) := by decide +kernel
theorem dX0_removeEarliest_9 : decode cX0_removeEarliest 9 = .ok (.iconst 1, 1) := by decide +kernel
theorem dX0_removeEarliest_10 : decode cX0_removeEarliest 10 = .ok (.iadd, 1) := by decide +kernel
theorem dX0_removeEarliest_11 : decode cX0_removeEarliest 11 = .ok (.aload_n 0, 1) := by decide +kernel
theorem dX0_removeEarliest_12 : decode cX0_removeEarliest 12 = .ok (.iload_n 1, 1) := by decide +kernel
theorem dX0_removeEarliest_13 : decode cX0_removeEarliest 13 = .ok (.iload_n 2, 1) := by decide +kernel
theorem dX0_removeEarliest_14 : decode cX0_removeEarliest 14 = .ok (.invokevirtual 39, 3) := by decide +kernel
theorem dX0_removeEarliest_17 : decode cX0_removeEarliest 17 = .ok (.invokestatic 46, 3) := by decide +kernel
theorem dX0_removeEarliest_20 : decode cX0_removeEarliest 20 = .ok (.invokevirtual 42, 3) := by decide +kernel
theorem dX0_removeEarliest_23 : decode cX0_removeEarliest 23 = .ok (.return_, 1) := by decide +kernel
set_option maxRecDepth 20000 in
theorem ggX0_remove_X0_holds : GoodIn wsX0_remove wsX0_holds := goodIn_r _ [5, 6, 7, 8, 9, 4, 10, 11, 12, 13, 14, 23, 24] (by decide +kernel) (by decide +kernel)
set_option maxRecDepth 20000 in
theorem gX0_remove_X0_holds : GoodIn wsX0_remove (wsV RX0 51 RX0 yX0_holds wsX0_holds) := goodIn_app (goodIn_of _ (by decide +kernel)) ggX0_remove_X0_holds
set_option maxRecDepth 20000 in
theorem ggX0_remove_X0_leafWith : GoodIn wsX0_remove wsX0_leafWith := goodIn_r _ [10] (by decide +kernel) (by decide +kernel)
set_option maxRecDepth 20000 in
theorem gX0_remove_X0_leafWith : GoodIn wsX0_remove (va_wsS RX0 25 yX0_leafWith wsX0_leafWith) := goodIn_app (goodIn_of _ (by decide +kernel)) ggX0_remove_X0_leafWith
set_option maxRecDepth 20000 in
theorem ggX0_remove_X0_placeOf : GoodIn wsX0_remove wsX0_placeOf := goodIn_r _ [14, 6, 7, 23, 24] (by decide +kernel) (by decide +kernel)
set_option maxRecDepth 20000 in
theorem gX0_remove_X0_placeOf : GoodIn wsX0_remove (wsV RX0 29 RX0 yX0_placeOf wsX0_placeOf) := goodIn_app (goodIn_of _ (by decide +kernel)) ggX0_remove_X0_placeOf
set_option maxRecDepth 20000 in
theorem ggX0_remove_X0_removeRange : GoodIn wsX0_remove wsX0_removeRange := goodIn_r _ [18, 7, 6, 19, 20, 21, 22, 23, 24] (by decide +kernel) (by decide +kernel)
set_option maxRecDepth 20000 in
theorem gX0_remove_X0_removeRange : GoodIn wsX0_remove (wsV RX0 42 RX0 yX0_removeRange wsX0_removeRange) := goodIn_app (goodIn_of _ (by decide +kernel)) ggX0_remove_X0_removeRange
theorem dX0_remove_0 : decode cX0_remove 0 = .ok (.aload_n 0, 1) := by decide +kernel
theorem dX0_remove_1 : decode cX0_remove 1 = .ok (.iload_n 1, 1) := by decide +kernel
theorem dX0_remove_2 : decode cX0_remove 2 = .ok (.iload_n 2, 1) := by decide +kernel
theorem dX0_remove_3 : decode cX0_remove 3 = .ok (.invokevirtual 51, 3) := by decide +kernel
theorem dX0_remove_6 : decode cX0_remove 6 = .ok (.ifCond .eq 21, 3) := by decide +kernel
theorem dX0_remove_9 : decode cX0_remove 9 = .ok (.aload_n 0, 1) := by decide +kernel
theorem dX0_remove_10 : decode cX0_remove 10 = .ok (.iload_n 1, 1) := by decide +kernel
theorem dX0_remove_11 : decode cX0_remove 11 = .ok (.iload_n 2, 1) := by decide +kernel
theorem dX0_remove_12 : decode cX0_remove 12 = .ok (.invokestatic 25, 3) := by decide +kernel
theorem dX0_remove_15 : decode cX0_remove 15 = .ok (.invokevirtual 29, 3) := by decide +kernel
theorem dX0_remove_18 : decode cX0_remove 18 = .ok (.istore_n 3, 1) := by decide +kernel
theorem dX0_remove_19 : decode cX0_remove 19 = .ok (.aload_n 0, 1) := by decide +kernel
theorem dX0_remove_20 : decode cX0_remove 20 = .ok (.iload_n 3, 1) := by decide +kernel
theorem dX0_remove_21 : decode cX0_remove 21 = .ok (.iload_n 3, 1) := by decide +kernel
theorem dX0_remove_22 : decode cX0_remove 22 = .ok (.iconst 1, 1) := by decide +kernel
theorem dX0_remove_23 : decode cX0_remove 23 = .ok (.iadd, 1) := by decide +kernel
theorem dX0_remove_24 : decode cX0_remove 24 = .ok (.invokevirtual 42, 3) := by decide +kernel
theorem dX0_remove_27 : decode cX0_remove 27 = .ok (.return_, 1) := by decide +kernel
set_option maxRecDepth 20000 in
theorem ggX0_holds_X0_leafWith : GoodIn wsX0_holds wsX0_leafWith := goodIn_r _ [6] (by decide +kernel) (by decide +kernel)
set_option maxRecDepth 20000 in
theorem gX0_holds_X0_leafWith : GoodIn wsX0_holds (va_wsS RX0 25 yX0_leafWith wsX0_leafWith) := goodIn_app (goodIn_of _ (by decide +kernel)) ggX0_holds_X0_leafWith
set_option maxRecDepth 20000 in
theorem ggX0_holds_X0_placeOf : GoodIn wsX0_holds wsX0_placeOf := goodIn_r _ [10, 1, 2, 11, 12] (by decide +kernel) (by decide +kernel)
set_option maxRecDepth 20000 in
theorem gX0_holds_X0_placeOf : GoodIn wsX0_holds (wsV RX0 29 RX0 yX0_placeOf wsX0_placeOf) := goodIn_app (goodIn_of _ (by decide +kernel)) ggX0_holds_X0_placeOf
theorem dX0_holds_0 : decode cX0_holds 0 = .ok (.iload_n 1, 1) := by decide +kernel
theorem dX0_holds_1 : decode cX0_holds 1 = .ok (.iload_n 2, 1) := by decide +kernel
theorem dX0_holds_2 : decode cX0_holds 2 = .ok (.invokestatic 25, 3) := by decide +kernel
theorem dX0_holds_5 : decode cX0_holds 5 = .ok (.istore_n 3, 1) := by decide +kernel
theorem dX0_holds_6 : decode cX0_holds 6 = .ok (.aload_n 0, 1) := by decide +kernel
theorem dX0_holds_7 : decode cX0_holds 7 = .ok (.iload_n 3, 1) := by decide +kernel
theorem dX0_holds_8 : decode cX0_holds 8 = .ok (.invokevirtual 29, 3) := by decide +kernel
theorem dX0_holds_11 : decode cX0_holds 11 = .ok (.istore 4, 2) := by decide +kernel
theorem dX0_holds_13 : decode cX0_holds 13 = .ok (.iload 4, 2) := by decide +kernel
theorem dX0_holds_15 : decode cX0_holds 15 = .ok (.aload_n 0, 1) := by decide +kernel
theorem dX0_holds_16 : decode cX0_holds 16 = .ok (.getfield 15, 3) := by decide +kernel
theorem dX0_holds_19 : decode cX0_holds 19 = .ok (.if_icmp .ge 18, 3) := by decide +kernel
theorem dX0_holds_22 : decode cX0_holds 22 = .ok (.aload_n 0, 1) := by decide +kernel
theorem dX0_holds_23 : decode cX0_holds 23 = .ok (.getfield 9, 3) := by decide +kernel
theorem dX0_holds_26 : decode cX0_holds 26 = .ok (.iload 4, 2) := by decide +kernel
theorem dX0_holds_28 : decode cX0_holds 28 = .ok (.iaload, 1) := by decide +kernel
theorem dX0_holds_29 : decode cX0_holds 29 = .ok (.iload_n 3, 1) := by decide +kernel
theorem dX0_holds_30 : decode cX0_holds 30 = .ok (.if_icmp .ne 7, 3) := by decide +kernel
theorem dX0_holds_33 : decode cX0_holds 33 = .ok (.iconst 1, 1) := by decide +kernel
theorem dX0_holds_34 : decode cX0_holds 34 = .ok (.goto 4, 3) := by decide +kernel
theorem dX0_holds_37 : decode cX0_holds 37 = .ok (.iconst 0, 1) := by decide +kernel
theorem dX0_holds_38 : decode cX0_holds 38 = .ok (.ireturn, 1) := by decide +kernel
set_option maxRecDepth 20000 in
theorem ggX0_held_X0_start : GoodIn wsX0_held wsX0_start := goodIn_r _ [5, 6, 7, 4, 8, 9, 10, 11, 12, 13, 14, 22, 23] (by decide +kernel) (by decide +kernel)
set_option maxRecDepth 20000 in
theorem gX0_held_X0_start : GoodIn wsX0_held (wsV RX0 36 RX0 yX0_start wsX0_start) := goodIn_app (goodIn_of _ (by decide +kernel)) ggX0_held_X0_start
set_option maxRecDepth 20000 in
theorem ggX0_held_X0_end : GoodIn wsX0_held wsX0_end := goodIn_r _ [18, 13, 14, 19, 20, 4, 21, 22, 23] (by decide +kernel) (by decide +kernel)
set_option maxRecDepth 20000 in
theorem gX0_held_X0_end : GoodIn wsX0_held (wsV RX0 39 RX0 yX0_end wsX0_end) := goodIn_app (goodIn_of _ (by decide +kernel)) ggX0_held_X0_end
theorem dX0_held_0 : decode cX0_held 0 = .ok (.aload_n 0, 1) := by decide +kernel
theorem dX0_held_1 : decode cX0_held 1 = .ok (.iload_n 1, 1) := by decide +kernel
theorem dX0_held_2 : decode cX0_held 2 = .ok (.invokevirtual 36, 3) := by decide +kernel
theorem dX0_held_5 : decode cX0_held 5 = .ok (.istore_n 2, 1) := by decide +kernel
theorem dX0_held_6 : decode cX0_held 6 = .ok (.aload_n 0, 1) := by decide +kernel
theorem dX0_held_7 : decode cX0_held 7 = .ok (.iload_n 1, 1) := by decide +kernel
theorem dX0_held_8 : decode cX0_held 8 = .ok (.iload_n 2, 1) := by decide +kernel
theorem dX0_held_9 : decode cX0_held 9 = .ok (.invokevirtual 39, 3) := by decide +kernel
theorem dX0_held_12 : decode cX0_held 12 = .ok (.iload_n 2, 1) := by decide +kernel
theorem dX0_held_13 : decode cX0_held 13 = .ok (.isub, 1) := by decide +kernel
theorem dX0_held_14 : decode cX0_held 14 = .ok (.ireturn, 1) := by decide +kernel
set_option maxRecDepth 20000 in
theorem ggX0_earliestIssue_X0_start : GoodIn wsX0_earliestIssue wsX0_start := goodIn_r _ [6, 7, 8, 5, 9, 10, 11, 12, 13, 14, 1, 25, 26] (by decide +kernel) (by decide +kernel)
set_option maxRecDepth 20000 in
theorem gX0_earliestIssue_X0_start : GoodIn wsX0_earliestIssue (wsV RX0 36 RX0 yX0_start wsX0_start) := goodIn_app (goodIn_of _ (by decide +kernel)) ggX0_earliestIssue_X0_start
set_option maxRecDepth 20000 in
theorem ggX0_earliestIssue_X0_end : GoodIn wsX0_earliestIssue wsX0_end := goodIn_r _ [18, 14, 1, 19, 20, 5, 21, 25, 26] (by decide +kernel) (by decide +kernel)
set_option maxRecDepth 20000 in
theorem gX0_earliestIssue_X0_end : GoodIn wsX0_earliestIssue (wsV RX0 39 RX0 yX0_end wsX0_end) := goodIn_app (goodIn_of _ (by decide +kernel)) ggX0_earliestIssue_X0_end
set_option maxRecDepth 20000 in
theorem ggX0_earliestIssue_X0_issueOf : GoodIn wsX0_earliestIssue wsX0_issueOf := goodIn_r _ [24] (by decide +kernel) (by decide +kernel)
set_option maxRecDepth 20000 in
theorem gX0_earliestIssue_X0_issueOf : GoodIn wsX0_earliestIssue (va_wsS RX0 55 yX0_issueOf wsX0_issueOf) := goodIn_app (goodIn_of _ (by decide +kernel)) ggX0_earliestIssue_X0_issueOf
theorem dX0_earliestIssue_0 : decode cX0_earliestIssue 0 = .ok (.aload_n 0, 1) := by decide +kernel
theorem dX0_earliestIssue_1 : decode cX0_earliestIssue 1 = .ok (.iload_n 1, 1) := by decide +kernel
theorem dX0_earliestIssue_2 : decode cX0_earliestIssue 2 = .ok (.invokevirtual 36, 3) := by decide +kernel
theorem dX0_earliestIssue_5 : decode cX0_earliestIssue 5 = .ok (.istore_n 2, 1) := by decide +kernel
theorem dX0_earliestIssue_6 : decode cX0_earliestIssue 6 = .ok (.aload_n 0, 1) := by decide +kernel
theorem dX0_earliestIssue_7 : decode cX0_earliestIssue 7 = .ok (.iload_n 1, 1) := by decide +kernel
theorem dX0_earliestIssue_8 : decode cX0_earliestIssue 8 = .ok (.iload_n 2, 1) := by decide +kernel
theorem dX0_earliestIssue_9 : decode cX0_earliestIssue 9 = .ok (.invokevirtual 39, 3) := by decide +kernel
theorem dX0_earliestIssue_12 : decode cX0_earliestIssue 12 = .ok (.iload_n 2, 1) := by decide +kernel
theorem dX0_earliestIssue_13 : decode cX0_earliestIssue 13 = .ok (.if_icmp .le 15, 3) := by decide +kernel
theorem dX0_earliestIssue_16 : decode cX0_earliestIssue 16 = .ok (.aload_n 0, 1) := by decide +kernel
theorem dX0_earliestIssue_17 : decode cX0_earliestIssue 17 = .ok (.getfield 9, 3) := by decide +kernel
theorem dX0_earliestIssue_20 : decode cX0_earliestIssue 20 = .ok (.iload_n 2, 1) := by decide +kernel
theorem dX0_earliestIssue_21 : decode cX0_earliestIssue 21 = .ok (.iaload, 1) := by decide +kernel
theorem dX0_earliestIssue_22 : decode cX0_earliestIssue 22 = .ok (.invokestatic 55, 3) := by decide +kernel
theorem dX0_earliestIssue_25 : decode cX0_earliestIssue 25 = .ok (.goto 5, 3) := by decide +kernel
theorem dX0_earliestIssue_28 : decode cX0_earliestIssue 28 = .ok (.bipush (-6), 2) := by decide +kernel
theorem dX0_earliestIssue_30 : decode cX0_earliestIssue 30 = .ok (.ireturn, 1) := by decide +kernel
set_option maxRecDepth 20000 in
theorem ggX0_latestIssue_X0_start : GoodIn wsX0_latestIssue wsX0_start := goodIn_r _ [6, 7, 8, 5, 9, 10, 11, 12, 13, 14, 1, 25, 26] (by decide +kernel) (by decide +kernel)
set_option maxRecDepth 20000 in
theorem gX0_latestIssue_X0_start : GoodIn wsX0_latestIssue (wsV RX0 36 RX0 yX0_start wsX0_start) := goodIn_app (goodIn_of _ (by decide +kernel)) ggX0_latestIssue_X0_start
set_option maxRecDepth 20000 in
theorem ggX0_latestIssue_X0_end : GoodIn wsX0_latestIssue wsX0_end := goodIn_r _ [18, 14, 1, 19, 20, 5, 21, 25, 26] (by decide +kernel) (by decide +kernel)
set_option maxRecDepth 20000 in
theorem gX0_latestIssue_X0_end : GoodIn wsX0_latestIssue (wsV RX0 39 RX0 yX0_end wsX0_end) := goodIn_app (goodIn_of _ (by decide +kernel)) ggX0_latestIssue_X0_end
set_option maxRecDepth 20000 in
theorem ggX0_latestIssue_X0_issueOf : GoodIn wsX0_latestIssue wsX0_issueOf := goodIn_r _ [24] (by decide +kernel) (by decide +kernel)
set_option maxRecDepth 20000 in
theorem gX0_latestIssue_X0_issueOf : GoodIn wsX0_latestIssue (va_wsS RX0 55 yX0_issueOf wsX0_issueOf) := goodIn_app (goodIn_of _ (by decide +kernel)) ggX0_latestIssue_X0_issueOf
theorem dX0_latestIssue_0 : decode cX0_latestIssue 0 = .ok (.aload_n 0, 1) := by decide +kernel
theorem dX0_latestIssue_1 : decode cX0_latestIssue 1 = .ok (.iload_n 1, 1) := by decide +kernel
theorem dX0_latestIssue_2 : decode cX0_latestIssue 2 = .ok (.invokevirtual 36, 3) := by decide +kernel
theorem dX0_latestIssue_5 : decode cX0_latestIssue 5 = .ok (.istore_n 2, 1) := by decide +kernel
theorem dX0_latestIssue_6 : decode cX0_latestIssue 6 = .ok (.aload_n 0, 1) := by decide +kernel
theorem dX0_latestIssue_7 : decode cX0_latestIssue 7 = .ok (.iload_n 1, 1) := by decide +kernel
theorem dX0_latestIssue_8 : decode cX0_latestIssue 8 = .ok (.iload_n 2, 1) := by decide +kernel
theorem dX0_latestIssue_9 : decode cX0_latestIssue 9 = .ok (.invokevirtual 39, 3) := by decide +kernel
theorem dX0_latestIssue_12 : decode cX0_latestIssue 12 = .ok (.istore_n 3, 1) := by decide +kernel
theorem dX0_latestIssue_13 : decode cX0_latestIssue 13 = .ok (.iload_n 3, 1) := by decide +kernel
theorem dX0_latestIssue_14 : decode cX0_latestIssue 14 = .ok (.iload_n 2, 1) := by decide +kernel
theorem dX0_latestIssue_15 : decode cX0_latestIssue 15 = .ok (.if_icmp .le 17, 3) := by decide +kernel
theorem dX0_latestIssue_18 : decode cX0_latestIssue 18 = .ok (.aload_n 0, 1) := by decide +kernel
theorem dX0_latestIssue_19 : decode cX0_latestIssue 19 = .ok (.getfield 9, 3) := by decide +kernel
theorem dX0_latestIssue_22 : decode cX0_latestIssue 22 = .ok (.iload_n 3, 1) := by decide +kernel
theorem dX0_latestIssue_23 : decode cX0_latestIssue 23 = .ok (.iconst 1, 1) := by decide +kernel
theorem dX0_latestIssue_24 : decode cX0_latestIssue 24 = .ok (.isub, 1) := by decide +kernel
theorem dX0_latestIssue_25 : decode cX0_latestIssue 25 = .ok (.iaload, 1) := by decide +kernel
theorem dX0_latestIssue_26 : decode cX0_latestIssue 26 = .ok (.invokestatic 55, 3) := by decide +kernel
theorem dX0_latestIssue_29 : decode cX0_latestIssue 29 = .ok (.goto 5, 3) := by decide +kernel
theorem dX0_latestIssue_32 : decode cX0_latestIssue 32 = .ok (.bipush (-6), 2) := by decide +kernel
theorem dX0_latestIssue_34 : decode cX0_latestIssue 34 = .ok (.ireturn, 1) := by decide +kernel
set_option maxRecDepth 20000 in
theorem ggX0_leavesOf_X0_issueOf : GoodIn wsX0_leavesOf wsX0_issueOf := goodIn_r _ [6] (by decide +kernel) (by decide +kernel)
set_option maxRecDepth 20000 in
theorem gX0_leavesOf_X0_issueOf : GoodIn wsX0_leavesOf (va_wsS RX0 55 yX0_issueOf wsX0_issueOf) := goodIn_app (goodIn_of _ (by decide +kernel)) ggX0_leavesOf_X0_issueOf
theorem dX0_leavesOf_0 : decode cX0_leavesOf 0 = .ok (.iconst 0, 1) := by decide +kernel
theorem dX0_leavesOf_1 : decode cX0_leavesOf 1 = .ok (.istore_n 2, 1) := by decide +kernel
theorem dX0_leavesOf_2 : decode cX0_leavesOf 2 = .ok (.iconst 0, 1) := by decide +kernel
theorem dX0_leavesOf_3 : decode cX0_leavesOf 3 = .ok (.istore_n 3, 1) := by decide +kernel
theorem dX0_leavesOf_4 : decode cX0_leavesOf 4 = .ok (.iload_n 3, 1) := by decide +kernel
theorem dX0_leavesOf_5 : decode cX0_leavesOf 5 = .ok (.aload_n 0, 1) := by decide +kernel
theorem dX0_leavesOf_6 : decode cX0_leavesOf 6 = .ok (.getfield 15, 3) := by decide +kernel
theorem dX0_leavesOf_9 : decode cX0_leavesOf 9 = .ok (.if_icmp .ge 25, 3) := by decide +kernel
theorem dX0_leavesOf_12 : decode cX0_leavesOf 12 = .ok (.aload_n 0, 1) := by decide +kernel
theorem dX0_leavesOf_13 : decode cX0_leavesOf 13 = .ok (.getfield 9, 3) := by decide +kernel
theorem dX0_leavesOf_16 : decode cX0_leavesOf 16 = .ok (.iload_n 3, 1) := by decide +kernel
theorem dX0_leavesOf_17 : decode cX0_leavesOf 17 = .ok (.iaload, 1) := by decide +kernel
theorem dX0_leavesOf_18 : decode cX0_leavesOf 18 = .ok (.invokestatic 55, 3) := by decide +kernel
theorem dX0_leavesOf_21 : decode cX0_leavesOf 21 = .ok (.iload_n 1, 1) := by decide +kernel
theorem dX0_leavesOf_22 : decode cX0_leavesOf 22 = .ok (.if_icmp .ne 6, 3) := by decide +kernel
theorem dX0_leavesOf_25 : decode cX0_leavesOf 25 = .ok (.iinc 2 1, 3) := by decide +kernel
theorem dX0_leavesOf_28 : decode cX0_leavesOf 28 = .ok (.iinc 3 1, 3) := by decide +kernel
theorem dX0_leavesOf_31 : decode cX0_leavesOf 31 = .ok (.goto (-27), 3) := by decide +kernel
theorem dX0_leavesOf_34 : decode cX0_leavesOf 34 = .ok (.iload_n 2, 1) := by decide +kernel
theorem dX0_leavesOf_35 : decode cX0_leavesOf 35 = .ok (.ireturn, 1) := by decide +kernel
set_option maxRecDepth 20000 in
theorem ggX0_checkNumber_X0_numberOf : GoodIn wsX0_checkNumber wsX0_numberOf := goodIn_r _ [6] (by decide +kernel) (by decide +kernel)
set_option maxRecDepth 20000 in
theorem gX0_checkNumber_X0_numberOf : GoodIn wsX0_checkNumber (va_wsS RX0 33 yX0_numberOf wsX0_numberOf) := goodIn_app (goodIn_of _ (by decide +kernel)) ggX0_checkNumber_X0_numberOf
set_option maxRecDepth 20000 in
theorem ggX0_checkNumber_X0_issueOf : GoodIn wsX0_checkNumber wsX0_issueOf := goodIn_r _ [9] (by decide +kernel) (by decide +kernel)
set_option maxRecDepth 20000 in
theorem gX0_checkNumber_X0_issueOf : GoodIn wsX0_checkNumber (va_wsS RX0 55 yX0_issueOf wsX0_issueOf) := goodIn_app (goodIn_of _ (by decide +kernel)) ggX0_checkNumber_X0_issueOf
theorem dX0_checkNumber_0 : decode cX0_checkNumber 0 = .ok (.iconst 0, 1) := by decide +kernel
theorem dX0_checkNumber_1 : decode cX0_checkNumber 1 = .ok (.istore_n 1, 1) := by decide +kernel
theorem dX0_checkNumber_2 : decode cX0_checkNumber 2 = .ok (.iconst 0, 1) := by decide +kernel
theorem dX0_checkNumber_3 : decode cX0_checkNumber 3 = .ok (.istore_n 2, 1) := by decide +kernel
theorem dX0_checkNumber_4 : decode cX0_checkNumber 4 = .ok (.iload_n 2, 1) := by decide +kernel
theorem dX0_checkNumber_5 : decode cX0_checkNumber 5 = .ok (.aload_n 0, 1) := by decide +kernel
theorem dX0_checkNumber_6 : decode cX0_checkNumber 6 = .ok (.getfield 15, 3) := by decide +kernel
theorem dX0_checkNumber_9 : decode cX0_checkNumber 9 = .ok (.if_icmp .ge 33, 3) := by decide +kernel
theorem dX0_checkNumber_12 : decode cX0_checkNumber 12 = .ok (.iload_n 1, 1) := by decide +kernel
theorem dX0_checkNumber_13 : decode cX0_checkNumber 13 = .ok (.aload_n 0, 1) := by decide +kernel
theorem dX0_checkNumber_14 : decode cX0_checkNumber 14 = .ok (.getfield 9, 3) := by decide +kernel
theorem dX0_checkNumber_17 : decode cX0_checkNumber 17 = .ok (.iload_n 2, 1) := by decide +kernel
theorem dX0_checkNumber_18 : decode cX0_checkNumber 18 = .ok (.iaload, 1) := by decide +kernel
theorem dX0_checkNumber_19 : decode cX0_checkNumber 19 = .ok (.invokestatic 33, 3) := by decide +kernel
theorem dX0_checkNumber_22 : decode cX0_checkNumber 22 = .ok (.aload_n 0, 1) := by decide +kernel
theorem dX0_checkNumber_23 : decode cX0_checkNumber 23 = .ok (.getfield 9, 3) := by decide +kernel
theorem dX0_checkNumber_26 : decode cX0_checkNumber 26 = .ok (.iload_n 2, 1) := by decide +kernel
theorem dX0_checkNumber_27 : decode cX0_checkNumber 27 = .ok (.iaload, 1) := by decide +kernel
theorem dX0_checkNumber_28 : decode cX0_checkNumber 28 = .ok (.invokestatic 55, 3) := by decide +kernel
theorem dX0_checkNumber_31 : decode cX0_checkNumber 31 = .ok (.iconst 1, 1) := by decide +kernel
theorem dX0_checkNumber_32 : decode cX0_checkNumber 32 = .ok (.iadd, 1) := by decide +kernel
theorem dX0_checkNumber_33 : decode cX0_checkNumber 33 = .ok (.imul, 1) := by decide +kernel
theorem dX0_checkNumber_34 : decode cX0_checkNumber 34 = .ok (.iadd, 1) := by decide +kernel
theorem dX0_checkNumber_35 : decode cX0_checkNumber 35 = .ok (.istore_n 1, 1) := by decide +kernel
theorem dX0_checkNumber_36 : decode cX0_checkNumber 36 = .ok (.iinc 2 1, 3) := by decide +kernel
theorem dX0_checkNumber_39 : decode cX0_checkNumber 39 = .ok (.goto (-35), 3) := by decide +kernel
theorem dX0_checkNumber_42 : decode cX0_checkNumber 42 = .ok (.iload_n 1, 1) := by decide +kernel
theorem dX0_checkNumber_43 : decode cX0_checkNumber 43 = .ok (.sipush 997, 3) := by decide +kernel
theorem dX0_checkNumber_46 : decode cX0_checkNumber 46 = .ok (.irem, 1) := by decide +kernel
theorem dX0_checkNumber_47 : decode cX0_checkNumber 47 = .ok (.ireturn, 1) := by decide +kernel
theorem dX0_isSameAs_0 : decode cX0_isSameAs 0 = .ok (.aload_n 0, 1) := by decide +kernel
theorem dX0_isSameAs_1 : decode cX0_isSameAs 1 = .ok (.getfield 15, 3) := by decide +kernel
theorem dX0_isSameAs_4 : decode cX0_isSameAs 4 = .ok (.aload_n 1, 1) := by decide +kernel
theorem dX0_isSameAs_5 : decode cX0_isSameAs 5 = .ok (.getfield 15, 3) := by decide +kernel
theorem dX0_isSameAs_8 : decode cX0_isSameAs 8 = .ok (.if_icmp .eq 5, 3) := by decide +kernel
theorem dX0_isSameAs_11 : decode cX0_isSameAs 11 = .ok (.iconst 0, 1) := by decide +kernel
theorem dX0_isSameAs_12 : decode cX0_isSameAs 12 = .ok (.ireturn, 1) := by decide +kernel
theorem dX0_isSameAs_13 : decode cX0_isSameAs 13 = .ok (.iconst 0, 1) := by decide +kernel
theorem dX0_isSameAs_14 : decode cX0_isSameAs 14 = .ok (.istore_n 2, 1) := by decide +kernel
theorem dX0_isSameAs_15 : decode cX0_isSameAs 15 = .ok (.iload_n 2, 1) := by decide +kernel
theorem dX0_isSameAs_16 : decode cX0_isSameAs 16 = .ok (.aload_n 0, 1) := by decide +kernel
theorem dX0_isSameAs_17 : decode cX0_isSameAs 17 = .ok (.getfield 15, 3) := by decide +kernel
theorem dX0_isSameAs_20 : decode cX0_isSameAs 20 = .ok (.if_icmp .ge 26, 3) := by decide +kernel
theorem dX0_isSameAs_23 : decode cX0_isSameAs 23 = .ok (.aload_n 0, 1) := by decide +kernel
theorem dX0_isSameAs_24 : decode cX0_isSameAs 24 = .ok (.getfield 9, 3) := by decide +kernel
theorem dX0_isSameAs_27 : decode cX0_isSameAs 27 = .ok (.iload_n 2, 1) := by decide +kernel
theorem dX0_isSameAs_28 : decode cX0_isSameAs 28 = .ok (.iaload, 1) := by decide +kernel
theorem dX0_isSameAs_29 : decode cX0_isSameAs 29 = .ok (.aload_n 1, 1) := by decide +kernel
theorem dX0_isSameAs_30 : decode cX0_isSameAs 30 = .ok (.getfield 9, 3) := by decide +kernel
theorem dX0_isSameAs_33 : decode cX0_isSameAs 33 = .ok (.iload_n 2, 1) := by decide +kernel
theorem dX0_isSameAs_34 : decode cX0_isSameAs 34 = .ok (.iaload, 1) := by decide +kernel
theorem dX0_isSameAs_35 : decode cX0_isSameAs 35 = .ok (.if_icmp .eq 5, 3) := by decide +kernel
theorem dX0_isSameAs_38 : decode cX0_isSameAs 38 = .ok (.iconst 0, 1) := by decide +kernel
theorem dX0_isSameAs_39 : decode cX0_isSameAs 39 = .ok (.ireturn, 1) := by decide +kernel
theorem dX0_isSameAs_40 : decode cX0_isSameAs 40 = .ok (.iinc 2 1, 3) := by decide +kernel
theorem dX0_isSameAs_43 : decode cX0_isSameAs 43 = .ok (.goto (-28), 3) := by decide +kernel
theorem dX0_isSameAs_46 : decode cX0_isSameAs 46 = .ok (.iconst 1, 1) := by decide +kernel
theorem dX0_isSameAs_47 : decode cX0_isSameAs 47 = .ok (.ireturn, 1) := by decide +kernel
set_option maxRecDepth 20000 in
theorem ggX0_difference_X0_held : GoodIn wsX0_difference wsX0_held := goodIn_r _ [5, 6, 7, 8, 4, 9, 10, 11, 12, 13, 14, 15, 16, 17, 18, 19, 20, 21, 22, 23, 24, 25, 37, 38] (by decide +kernel) (by decide +kernel)
set_option maxRecDepth 20000 in
theorem gX0_difference_X0_held : GoodIn wsX0_difference (wsV RX0 58 RX0 yX0_held wsX0_held) := goodIn_app (goodIn_of _ (by decide +kernel)) ggX0_difference_X0_held
set_option maxRecDepth 20000 in
theorem ggX0_difference_X0_earliestIssue : GoodIn wsX0_difference wsX0_earliestIssue := goodIn_r _ [29, 18, 6, 7, 8, 4, 9, 10, 11, 12, 13, 14, 15, 16, 17, 19, 20, 21, 22, 23, 24, 25, 30, 31, 32, 37, 38] (by decide +kernel) (by decide +kernel)
set_option maxRecDepth 20000 in
theorem gX0_difference_X0_earliestIssue : GoodIn wsX0_difference (wsV RX0 61 RX0 yX0_earliestIssue wsX0_earliestIssue) := goodIn_app (goodIn_of _ (by decide +kernel)) ggX0_difference_X0_earliestIssue
set_option maxRecDepth 20000 in
theorem ggX0_difference_X0_holds : GoodIn wsX0_difference wsX0_holds := goodIn_r _ [36, 17, 18, 10, 11, 4, 12, 13, 14, 15, 16, 37, 38] (by decide +kernel) (by decide +kernel)
set_option maxRecDepth 20000 in
theorem gX0_difference_X0_holds : GoodIn wsX0_difference (wsV RX0 51 RX0 yX0_holds wsX0_holds) := goodIn_app (goodIn_of _ (by decide +kernel)) ggX0_difference_X0_holds
theorem dX0_difference_0 : decode cX0_difference 0 = .ok (.aload_n 0, 1) := by decide +kernel
theorem dX0_difference_1 : decode cX0_difference 1 = .ok (.iload_n 2, 1) := by decide +kernel
theorem dX0_difference_2 : decode cX0_difference 2 = .ok (.invokevirtual 58, 3) := by decide +kernel
theorem dX0_difference_5 : decode cX0_difference 5 = .ok (.istore 4, 2) := by decide +kernel
theorem dX0_difference_7 : decode cX0_difference 7 = .ok (.aload_n 1, 1) := by decide +kernel
theorem dX0_difference_8 : decode cX0_difference 8 = .ok (.iload_n 2, 1) := by decide +kernel
theorem dX0_difference_9 : decode cX0_difference 9 = .ok (.invokevirtual 61, 3) := by decide +kernel
theorem dX0_difference_12 : decode cX0_difference 12 = .ok (.istore 5, 2) := by decide +kernel
theorem dX0_difference_14 : decode cX0_difference 14 = .ok (.iload 5, 2) := by decide +kernel
theorem dX0_difference_16 : decode cX0_difference 16 = .ok (.bipush (-6), 2) := by decide +kernel
theorem dX0_difference_18 : decode cX0_difference 18 = .ok (.if_icmp .ne 15, 3) := by decide +kernel
theorem dX0_difference_21 : decode cX0_difference 21 = .ok (.iload_n 3, 1) := by decide +kernel
theorem dX0_difference_22 : decode cX0_difference 22 = .ok (.iconst 3, 1) := by decide +kernel
theorem dX0_difference_23 : decode cX0_difference 23 = .ok (.if_icmp .ne 8, 3) := by decide +kernel
theorem dX0_difference_26 : decode cX0_difference 26 = .ok (.iload 4, 2) := by decide +kernel
theorem dX0_difference_28 : decode cX0_difference 28 = .ok (.goto 4, 3) := by decide +kernel
theorem dX0_difference_31 : decode cX0_difference 31 = .ok (.iconst 0, 1) := by decide +kernel
theorem dX0_difference_32 : decode cX0_difference 32 = .ok (.ireturn, 1) := by decide +kernel
theorem dX0_difference_33 : decode cX0_difference 33 = .ok (.iload 4, 2) := by decide +kernel
theorem dX0_difference_35 : decode cX0_difference 35 = .ok (.ifCond .ne 14, 3) := by decide +kernel
theorem dX0_difference_38 : decode cX0_difference 38 = .ok (.iload_n 3, 1) := by decide +kernel
theorem dX0_difference_39 : decode cX0_difference 39 = .ok (.iconst 5, 1) := by decide +kernel
theorem dX0_difference_40 : decode cX0_difference 40 = .ok (.if_icmp .ne 7, 3) := by decide +kernel
theorem dX0_difference_43 : decode cX0_difference 43 = .ok (.iconst 1, 1) := by decide +kernel
theorem dX0_difference_44 : decode cX0_difference 44 = .ok (.goto 4, 3) := by decide +kernel
theorem dX0_difference_47 : decode cX0_difference 47 = .ok (.iconst 0, 1) := by decide +kernel
theorem dX0_difference_48 : decode cX0_difference 48 = .ok (.ireturn, 1) := by decide +kernel
theorem dX0_difference_49 : decode cX0_difference 49 = .ok (.iload_n 3, 1) := by decide +kernel
theorem dX0_difference_50 : decode cX0_difference 50 = .ok (.iconst 3, 1) := by decide +kernel
theorem dX0_difference_51 : decode cX0_difference 51 = .ok (.if_icmp .ne 8, 3) := by decide +kernel
theorem dX0_difference_54 : decode cX0_difference 54 = .ok (.iload 4, 2) := by decide +kernel
theorem dX0_difference_56 : decode cX0_difference 56 = .ok (.iconst 1, 1) := by decide +kernel
theorem dX0_difference_57 : decode cX0_difference 57 = .ok (.isub, 1) := by decide +kernel
theorem dX0_difference_58 : decode cX0_difference 58 = .ok (.ireturn, 1) := by decide +kernel
theorem dX0_difference_59 : decode cX0_difference 59 = .ok (.iload_n 3, 1) := by decide +kernel
theorem dX0_difference_60 : decode cX0_difference 60 = .ok (.iconst 4, 1) := by decide +kernel
theorem dX0_difference_61 : decode cX0_difference 61 = .ok (.if_icmp .ne 17, 3) := by decide +kernel
theorem dX0_difference_64 : decode cX0_difference 64 = .ok (.aload_n 0, 1) := by decide +kernel
theorem dX0_difference_65 : decode cX0_difference 65 = .ok (.iload_n 2, 1) := by decide +kernel
theorem dX0_difference_66 : decode cX0_difference 66 = .ok (.iload 5, 2) := by decide +kernel
theorem dX0_difference_68 : decode cX0_difference 68 = .ok (.invokevirtual 51, 3) := by decide +kernel
theorem dX0_difference_71 : decode cX0_difference 71 = .ok (.ifCond .ne 7, 3) := by decide +kernel
theorem dX0_difference_74 : decode cX0_difference 74 = .ok (.iconst 1, 1) := by decide +kernel
theorem dX0_difference_75 : decode cX0_difference 75 = .ok (.goto 4, 3) := by decide +kernel
theorem dX0_difference_78 : decode cX0_difference 78 = .ok (.iconst 0, 1) := by decide +kernel
theorem dX0_difference_79 : decode cX0_difference 79 = .ok (.ireturn, 1) := by decide +kernel
set_option maxRecDepth 20000 in
theorem ggX0_differences_X0_difference : GoodIn wsX0_differences wsX0_difference := goodIn_r _ [5, 6, 7, 8, 4, 9, 10, 11, 12, 13, 14, 15, 16, 17, 18, 19, 20, 21, 22, 23, 24, 25, 26, 27, 28, 29, 30, 31, 32, 33, 34, 35, 36, 37, 38, 39, 40, 41, 42] (by decide +kernel) (by decide +kernel)
set_option maxRecDepth 20000 in
theorem gX0_differences_X0_difference : GoodIn wsX0_differences (wsV RX0 64 RX0 yX0_difference wsX0_difference) := goodIn_app (goodIn_of _ (by decide +kernel)) ggX0_differences_X0_difference
theorem dX0_differences_0 : decode cX0_differences 0 = .ok (.iconst 0, 1) := by decide +kernel
theorem dX0_differences_1 : decode cX0_differences 1 = .ok (.istore_n 3, 1) := by decide +kernel
theorem dX0_differences_2 : decode cX0_differences 2 = .ok (.bipush 10, 2) := by decide +kernel
theorem dX0_differences_4 : decode cX0_differences 4 = .ok (.istore 4, 2) := by decide +kernel
theorem dX0_differences_6 : decode cX0_differences 6 = .ok (.iload 4, 2) := by decide +kernel
theorem dX0_differences_8 : decode cX0_differences 8 = .ok (.bipush 99, 2) := by decide +kernel
theorem dX0_differences_10 : decode cX0_differences 10 = .ok (.if_icmp .gt 20, 3) := by decide +kernel
theorem dX0_differences_13 : decode cX0_differences 13 = .ok (.iload_n 3, 1) := by decide +kernel
theorem dX0_differences_14 : decode cX0_differences 14 = .ok (.aload_n 0, 1) := by decide +kernel
theorem dX0_differences_15 : decode cX0_differences 15 = .ok (.aload_n 1, 1) := by decide +kernel
theorem dX0_differences_16 : decode cX0_differences 16 = .ok (.iload 4, 2) := by decide +kernel
theorem dX0_differences_18 : decode cX0_differences 18 = .ok (.iload_n 2, 1) := by decide +kernel
theorem dX0_differences_19 : decode cX0_differences 19 = .ok (.invokevirtual 64, 3) := by decide +kernel
theorem dX0_differences_22 : decode cX0_differences 22 = .ok (.iadd, 1) := by decide +kernel
theorem dX0_differences_23 : decode cX0_differences 23 = .ok (.istore_n 3, 1) := by decide +kernel
theorem dX0_differences_24 : decode cX0_differences 24 = .ok (.iinc 4 1, 3) := by decide +kernel
theorem dX0_differences_27 : decode cX0_differences 27 = .ok (.goto (-21), 3) := by decide +kernel
theorem dX0_differences_30 : decode cX0_differences 30 = .ok (.iload_n 3, 1) := by decide +kernel
theorem dX0_differences_31 : decode cX0_differences 31 = .ok (.ireturn, 1) := by decide +kernel
set_option maxRecDepth 20000 in
theorem ggX0_wrong_X0_differences : GoodIn wsX0_wrong wsX0_differences := goodIn_r _ [5, 6, 7, 8, 4, 9, 10, 11, 12, 13, 14, 15, 16, 17, 18, 19, 20, 21, 22, 23, 24, 25, 26, 27, 28, 29, 30, 31, 32, 33, 34, 35, 36, 37, 38, 39, 40, 41, 42, 43, 44, 45, 46] (by decide +kernel) (by decide +kernel)
set_option maxRecDepth 20000 in
theorem gX0_wrong_X0_differences : GoodIn wsX0_wrong (wsV RX0 68 RX0 yX0_differences wsX0_differences) := goodIn_app (goodIn_of _ (by decide +kernel)) ggX0_wrong_X0_differences
theorem dX0_wrong_0 : decode cX0_wrong 0 = .ok (.aload_n 0, 1) := by decide +kernel
theorem dX0_wrong_1 : decode cX0_wrong 1 = .ok (.aload_n 1, 1) := by decide +kernel
theorem dX0_wrong_2 : decode cX0_wrong 2 = .ok (.iconst 3, 1) := by decide +kernel
theorem dX0_wrong_3 : decode cX0_wrong 3 = .ok (.invokevirtual 68, 3) := by decide +kernel
theorem dX0_wrong_6 : decode cX0_wrong 6 = .ok (.aload_n 0, 1) := by decide +kernel
theorem dX0_wrong_7 : decode cX0_wrong 7 = .ok (.aload_n 1, 1) := by decide +kernel
theorem dX0_wrong_8 : decode cX0_wrong 8 = .ok (.iconst 4, 1) := by decide +kernel
theorem dX0_wrong_9 : decode cX0_wrong 9 = .ok (.invokevirtual 68, 3) := by decide +kernel
theorem dX0_wrong_12 : decode cX0_wrong 12 = .ok (.iadd, 1) := by decide +kernel
theorem dX0_wrong_13 : decode cX0_wrong 13 = .ok (.aload_n 0, 1) := by decide +kernel
theorem dX0_wrong_14 : decode cX0_wrong 14 = .ok (.aload_n 1, 1) := by decide +kernel
theorem dX0_wrong_15 : decode cX0_wrong 15 = .ok (.iconst 5, 1) := by decide +kernel
theorem dX0_wrong_16 : decode cX0_wrong 16 = .ok (.invokevirtual 68, 3) := by decide +kernel
theorem dX0_wrong_19 : decode cX0_wrong 19 = .ok (.iadd, 1) := by decide +kernel
theorem dX0_wrong_20 : decode cX0_wrong 20 = .ok (.ireturn, 1) := by decide +kernel
set_option maxRecDepth 20000 in
theorem ggX1_init_X3_init : GoodIn wsX1_init wsX3_init := goodIn_r _ [10, 11, 2, 3, 12, 13, 14, 15, 16, 17, 18, 19, 20, 21, 22, 23, 24, 25, 29, 30, 31, 32, 33, 34, 35, 36, 37, 38] (by decide +kernel) (by decide +kernel)
set_option maxRecDepth 20000 in
theorem gX1_init_X3_init : GoodIn wsX1_init (wsX3_init) := ggX1_init_X3_init
theorem dX1_init_0 : decode cX1_init 0 = .ok (.aload_n 0, 1) := by decide +kernel
theorem dX1_init_1 : decode cX1_init 1 = .ok (.invokespecial 3, 3) := by decide +kernel
theorem dX1_init_4 : decode cX1_init 4 = .ok (.aload_n 0, 1) := by decide +kernel
theorem dX1_init_5 : decode cX1_init 5 = .ok (.bipush 6, 2) := by decide +kernel
theorem dX1_init_7 : decode cX1_init 7 = .ok (.anewarray 9, 3) := by decide +kernel
theorem dX1_init_10 : decode cX1_init 10 = .ok (.putfield 11, 3) := by decide +kernel
theorem dX1_init_13 : decode cX1_init 13 = .ok (.iconst 0, 1) := by decide +kernel
theorem dX1_init_14 : decode cX1_init 14 = .ok (.istore_n 1, 1) := by decide +kernel
theorem dX1_init_15 : decode cX1_init 15 = .ok (.iload_n 1, 1) := by decide +kernel
theorem dX1_init_16 : decode cX1_init 16 = .ok (.aload_n 0, 1) := by decide +kernel
theorem dX1_init_17 : decode cX1_init 17 = .ok (.getfield 11, 3) := by decide +kernel
theorem dX1_init_20 : decode cX1_init 20 = .ok (.arraylength, 1) := by decide +kernel
theorem dX1_init_21 : decode cX1_init 21 = .ok (.if_icmp .ge 22, 3) := by decide +kernel
theorem dX1_init_24 : decode cX1_init 24 = .ok (.aload_n 0, 1) := by decide +kernel
theorem dX1_init_25 : decode cX1_init 25 = .ok (.getfield 11, 3) := by decide +kernel
theorem dX1_init_28 : decode cX1_init 28 = .ok (.iload_n 1, 1) := by decide +kernel
theorem dX1_init_29 : decode cX1_init 29 = .ok (.new 9, 3) := by decide +kernel
theorem dX1_init_32 : decode cX1_init 32 = .ok (.dup, 1) := by decide +kernel
theorem dX1_init_33 : decode cX1_init 33 = .ok (.invokespecial 17, 3) := by decide +kernel
theorem dX1_init_36 : decode cX1_init 36 = .ok (.aastore, 1) := by decide +kernel
theorem dX1_init_37 : decode cX1_init 37 = .ok (.iinc 1 1, 3) := by decide +kernel
theorem dX1_init_40 : decode cX1_init 40 = .ok (.goto (-25), 3) := by decide +kernel
theorem dX1_init_43 : decode cX1_init 43 = .ok (.return_, 1) := by decide +kernel
set_option maxRecDepth 20000 in
theorem ggX1_record_X3_copy : GoodIn wsX1_record wsX3_copy := goodIn_r _ [8, 9, 10, 11, 12, 13, 14, 15, 16, 17, 18, 19, 20, 21, 22, 23, 24, 25, 26, 27, 28, 32, 33, 34, 35, 36, 37, 38, 39, 40, 41] (by decide +kernel) (by decide +kernel)
set_option maxRecDepth 20000 in
theorem gX1_record_X3_copy : GoodIn wsX1_record (wsV RX1 25 RX3 yX3_copy wsX3_copy) := goodIn_app (goodIn_of _ (by decide +kernel)) ggX1_record_X3_copy
theorem dX1_record_0 : decode cX1_record 0 = .ok (.aload_n 0, 1) := by decide +kernel
theorem dX1_record_1 : decode cX1_record 1 = .ok (.getfield 11, 3) := by decide +kernel
theorem dX1_record_4 : decode cX1_record 4 = .ok (.aload_n 0, 1) := by decide +kernel
theorem dX1_record_5 : decode cX1_record 5 = .ok (.getfield 18, 3) := by decide +kernel
theorem dX1_record_8 : decode cX1_record 8 = .ok (.aload_n 0, 1) := by decide +kernel
theorem dX1_record_9 : decode cX1_record 9 = .ok (.getfield 22, 3) := by decide +kernel
theorem dX1_record_12 : decode cX1_record 12 = .ok (.iadd, 1) := by decide +kernel
theorem dX1_record_13 : decode cX1_record 13 = .ok (.bipush 6, 2) := by decide +kernel
theorem dX1_record_15 : decode cX1_record 15 = .ok (.irem, 1) := by decide +kernel
theorem dX1_record_16 : decode cX1_record 16 = .ok (.aaload, 1) := by decide +kernel
theorem dX1_record_17 : decode cX1_record 17 = .ok (.aload_n 1, 1) := by decide +kernel
theorem dX1_record_18 : decode cX1_record 18 = .ok (.invokevirtual 25, 3) := by decide +kernel
theorem dX1_record_21 : decode cX1_record 21 = .ok (.aload_n 0, 1) := by decide +kernel
theorem dX1_record_22 : decode cX1_record 22 = .ok (.getfield 22, 3) := by decide +kernel
theorem dX1_record_25 : decode cX1_record 25 = .ok (.bipush 6, 2) := by decide +kernel
theorem dX1_record_27 : decode cX1_record 27 = .ok (.if_icmp .ge 16, 3) := by decide +kernel
theorem dX1_record_30 : decode cX1_record 30 = .ok (.aload_n 0, 1) := by decide +kernel
theorem dX1_record_31 : decode cX1_record 31 = .ok (.dup, 1) := by decide +kernel
theorem dX1_record_32 : decode cX1_record 32 = .ok (.getfield 22, 3) := by decide +kernel
theorem dX1_record_35 : decode cX1_record 35 = .ok (.iconst 1, 1) := by decide +kernel
theorem dX1_record_36 : decode cX1_record 36 = .ok (.iadd, 1) := by decide +kernel
theorem dX1_record_37 : decode cX1_record 37 = .ok (.putfield 22, 3) := by decide +kernel
theorem dX1_record_40 : decode cX1_record 40 = .ok (.goto 16, 3) := by decide +kernel
theorem dX1_record_43 : decode cX1_record 43 = .ok (.aload_n 0, 1) := by decide +kernel
theorem dX1_record_44 : decode cX1_record 44 = .ok (.aload_n 0, 1) := by decide +kernel
theorem dX1_record_45 : decode cX1_record 45 = .ok (.getfield 18, 3) := by decide +kernel
theorem dX1_record_48 : decode cX1_record 48 = .ok (.iconst 1, 1) := by decide +kernel
theorem dX1_record_49 : decode cX1_record 49 = .ok (.iadd, 1) := by decide +kernel
theorem dX1_record_50 : decode cX1_record 50 = .ok (.bipush 6, 2) := by decide +kernel
theorem dX1_record_52 : decode cX1_record 52 = .ok (.irem, 1) := by decide +kernel
theorem dX1_record_53 : decode cX1_record 53 = .ok (.putfield 18, 3) := by decide +kernel
theorem dX1_record_56 : decode cX1_record 56 = .ok (.return_, 1) := by decide +kernel
set_option maxRecDepth 20000 in
theorem ggX1_takeBack_X3_copy : GoodIn wsX1_takeBack wsX3_copy := goodIn_r _ [8, 9, 10, 11, 12, 13, 14, 15, 16, 17, 18, 19, 20, 21, 22, 23, 24, 25, 26, 27, 28, 32, 33, 34, 35, 36, 37, 38, 39, 40, 41] (by decide +kernel) (by decide +kernel)
set_option maxRecDepth 20000 in
theorem gX1_takeBack_X3_copy : GoodIn wsX1_takeBack (wsV RX1 25 RX3 yX3_copy wsX3_copy) := goodIn_app (goodIn_of _ (by decide +kernel)) ggX1_takeBack_X3_copy
theorem dX1_takeBack_0 : decode cX1_takeBack 0 = .ok (.aload_n 0, 1) := by decide +kernel
theorem dX1_takeBack_1 : decode cX1_takeBack 1 = .ok (.getfield 22, 3) := by decide +kernel
theorem dX1_takeBack_4 : decode cX1_takeBack 4 = .ok (.ifCond .le 34, 3) := by decide +kernel
theorem dX1_takeBack_7 : decode cX1_takeBack 7 = .ok (.aload_n 0, 1) := by decide +kernel
theorem dX1_takeBack_8 : decode cX1_takeBack 8 = .ok (.dup, 1) := by decide +kernel
theorem dX1_takeBack_9 : decode cX1_takeBack 9 = .ok (.getfield 22, 3) := by decide +kernel
theorem dX1_takeBack_12 : decode cX1_takeBack 12 = .ok (.iconst 1, 1) := by decide +kernel
theorem dX1_takeBack_13 : decode cX1_takeBack 13 = .ok (.isub, 1) := by decide +kernel
theorem dX1_takeBack_14 : decode cX1_takeBack 14 = .ok (.putfield 22, 3) := by decide +kernel
theorem dX1_takeBack_17 : decode cX1_takeBack 17 = .ok (.aload_n 1, 1) := by decide +kernel
theorem dX1_takeBack_18 : decode cX1_takeBack 18 = .ok (.aload_n 0, 1) := by decide +kernel
theorem dX1_takeBack_19 : decode cX1_takeBack 19 = .ok (.getfield 11, 3) := by decide +kernel
theorem dX1_takeBack_22 : decode cX1_takeBack 22 = .ok (.aload_n 0, 1) := by decide +kernel
theorem dX1_takeBack_23 : decode cX1_takeBack 23 = .ok (.getfield 18, 3) := by decide +kernel
theorem dX1_takeBack_26 : decode cX1_takeBack 26 = .ok (.aload_n 0, 1) := by decide +kernel
theorem dX1_takeBack_27 : decode cX1_takeBack 27 = .ok (.getfield 22, 3) := by decide +kernel
theorem dX1_takeBack_30 : decode cX1_takeBack 30 = .ok (.iadd, 1) := by decide +kernel
theorem dX1_takeBack_31 : decode cX1_takeBack 31 = .ok (.bipush 6, 2) := by decide +kernel
theorem dX1_takeBack_33 : decode cX1_takeBack 33 = .ok (.irem, 1) := by decide +kernel
theorem dX1_takeBack_34 : decode cX1_takeBack 34 = .ok (.aaload, 1) := by decide +kernel
theorem dX1_takeBack_35 : decode cX1_takeBack 35 = .ok (.invokevirtual 25, 3) := by decide +kernel
theorem dX1_takeBack_38 : decode cX1_takeBack 38 = .ok (.return_, 1) := by decide +kernel
theorem dX2_init_0 : decode cX2_init 0 = .ok (.aload_n 0, 1) := by decide +kernel
theorem dX2_init_1 : decode cX2_init 1 = .ok (.invokespecial 5, 3) := by decide +kernel
theorem dX2_init_4 : decode cX2_init 4 = .ok (.aload_n 0, 1) := by decide +kernel
theorem dX2_init_5 : decode cX2_init 5 = .ok (.bipush 48, 2) := by decide +kernel
theorem dX2_init_7 : decode cX2_init 7 = .ok (.newarray .char, 2) := by decide +kernel
theorem dX2_init_9 : decode cX2_init 9 = .ok (.putfield 11, 3) := by decide +kernel
theorem dX2_init_12 : decode cX2_init 12 = .ok (.return_, 1) := by decide +kernel
theorem dX2_charactersIn_0 : decode cX2_charactersIn 0 = .ok (.lload_n 0, 1) := by decide +kernel
theorem dX2_charactersIn_1 : decode cX2_charactersIn 1 = .ok (.lstore_n 2, 1) := by decide +kernel
theorem dX2_charactersIn_2 : decode cX2_charactersIn 2 = .ok (.iconst 0, 1) := by decide +kernel
theorem dX2_charactersIn_3 : decode cX2_charactersIn 3 = .ok (.istore 4, 2) := by decide +kernel
theorem dX2_charactersIn_5 : decode cX2_charactersIn 5 = .ok (.iload 4, 2) := by decide +kernel
theorem dX2_charactersIn_7 : decode cX2_charactersIn 7 = .ok (.bipush 8, 2) := by decide +kernel
theorem dX2_charactersIn_9 : decode cX2_charactersIn 9 = .ok (.if_icmp .ge 47, 3) := by decide +kernel
theorem dX2_charactersIn_12 : decode cX2_charactersIn 12 = .ok (.lload_n 2, 1) := by decide +kernel
theorem dX2_charactersIn_13 : decode cX2_charactersIn 13 = .ok (.lconst 0, 1) := by decide +kernel
theorem dX2_charactersIn_14 : decode cX2_charactersIn 14 = .ok (.lcmp, 1) := by decide +kernel
theorem dX2_charactersIn_15 : decode cX2_charactersIn 15 = .ok (.ifCond .eq 41, 3) := by decide +kernel
theorem dX2_charactersIn_18 : decode cX2_charactersIn 18 = .ok (.lload_n 2, 1) := by decide +kernel
theorem dX2_charactersIn_19 : decode cX2_charactersIn 19 = .ok (.ldc2_w 15, 3) := by decide +kernel
theorem dX2_charactersIn_22 : decode cX2_charactersIn 22 = .ok (.land, 1) := by decide +kernel
theorem dX2_charactersIn_23 : decode cX2_charactersIn 23 = .ok (.lstore 5, 2) := by decide +kernel
theorem dX2_charactersIn_25 : decode cX2_charactersIn 25 = .ok (.lload 5, 2) := by decide +kernel
theorem dX2_charactersIn_27 : decode cX2_charactersIn 27 = .ok (.ldc2_w 17, 3) := by decide +kernel
theorem dX2_charactersIn_30 : decode cX2_charactersIn 30 = .ok (.lcmp, 1) := by decide +kernel
theorem dX2_charactersIn_31 : decode cX2_charactersIn 31 = .ok (.ifCond .lt 12, 3) := by decide +kernel
theorem dX2_charactersIn_34 : decode cX2_charactersIn 34 = .ok (.lload 5, 2) := by decide +kernel
theorem dX2_charactersIn_36 : decode cX2_charactersIn 36 = .ok (.ldc2_w 19, 3) := by decide +kernel
theorem dX2_charactersIn_39 : decode cX2_charactersIn 39 = .ok (.lcmp, 1) := by decide +kernel
theorem dX2_charactersIn_40 : decode cX2_charactersIn 40 = .ok (.ifCond .le 5, 3) := by decide +kernel
theorem dX2_charactersIn_43 : decode cX2_charactersIn 43 = .ok (.iconst 0, 1) := by decide +kernel
theorem dX2_charactersIn_44 : decode cX2_charactersIn 44 = .ok (.ireturn, 1) := by decide +kernel
theorem dX2_charactersIn_45 : decode cX2_charactersIn 45 = .ok (.lload_n 2, 1) := by decide +kernel
theorem dX2_charactersIn_46 : decode cX2_charactersIn 46 = .ok (.bipush 8, 2) := by decide +kernel
theorem dX2_charactersIn_48 : decode cX2_charactersIn 48 = .ok (.lushr, 1) := by decide +kernel
theorem dX2_charactersIn_49 : decode cX2_charactersIn 49 = .ok (.lstore_n 2, 1) := by decide +kernel
theorem dX2_charactersIn_50 : decode cX2_charactersIn 50 = .ok (.iinc 4 1, 3) := by decide +kernel
theorem dX2_charactersIn_53 : decode cX2_charactersIn 53 = .ok (.goto (-48), 3) := by decide +kernel
theorem dX2_charactersIn_56 : decode cX2_charactersIn 56 = .ok (.iload 4, 2) := by decide +kernel
theorem dX2_charactersIn_58 : decode cX2_charactersIn 58 = .ok (.ireturn, 1) := by decide +kernel
theorem dX2_append_0 : decode cX2_append 0 = .ok (.lload_n 1, 1) := by decide +kernel
theorem dX2_append_1 : decode cX2_append 1 = .ok (.lstore 4, 2) := by decide +kernel
theorem dX2_append_3 : decode cX2_append 3 = .ok (.aload_n 0, 1) := by decide +kernel
theorem dX2_append_4 : decode cX2_append 4 = .ok (.getfield 21, 3) := by decide +kernel
theorem dX2_append_7 : decode cX2_append 7 = .ok (.iload_n 3, 1) := by decide +kernel
theorem dX2_append_8 : decode cX2_append 8 = .ok (.iadd, 1) := by decide +kernel
theorem dX2_append_9 : decode cX2_append 9 = .ok (.iconst 1, 1) := by decide +kernel
theorem dX2_append_10 : decode cX2_append 10 = .ok (.isub, 1) := by decide +kernel
theorem dX2_append_11 : decode cX2_append 11 = .ok (.istore 6, 2) := by decide +kernel
theorem dX2_append_13 : decode cX2_append 13 = .ok (.iload 6, 2) := by decide +kernel
theorem dX2_append_15 : decode cX2_append 15 = .ok (.aload_n 0, 1) := by decide +kernel
theorem dX2_append_16 : decode cX2_append 16 = .ok (.getfield 21, 3) := by decide +kernel
theorem dX2_append_19 : decode cX2_append 19 = .ok (.if_icmp .lt 31, 3) := by decide +kernel
theorem dX2_append_22 : decode cX2_append 22 = .ok (.aload_n 0, 1) := by decide +kernel
theorem dX2_append_23 : decode cX2_append 23 = .ok (.getfield 11, 3) := by decide +kernel
theorem dX2_append_26 : decode cX2_append 26 = .ok (.iload 6, 2) := by decide +kernel
theorem dX2_append_28 : decode cX2_append 28 = .ok (.lload 4, 2) := by decide +kernel
theorem dX2_append_30 : decode cX2_append 30 = .ok (.ldc2_w 15, 3) := by decide +kernel
theorem dX2_append_33 : decode cX2_append 33 = .ok (.land, 1) := by decide +kernel
theorem dX2_append_34 : decode cX2_append 34 = .ok (.l2i, 1) := by decide +kernel
theorem dX2_append_35 : decode cX2_append 35 = .ok (.i2c, 1) := by decide +kernel
theorem dX2_append_36 : decode cX2_append 36 = .ok (.castore, 1) := by decide +kernel
theorem dX2_append_37 : decode cX2_append 37 = .ok (.lload 4, 2) := by decide +kernel
theorem dX2_append_39 : decode cX2_append 39 = .ok (.bipush 8, 2) := by decide +kernel
theorem dX2_append_41 : decode cX2_append 41 = .ok (.lushr, 1) := by decide +kernel
theorem dX2_append_42 : decode cX2_append 42 = .ok (.lstore 4, 2) := by decide +kernel
theorem dX2_append_44 : decode cX2_append 44 = .ok (.iinc 6 (-1), 3) := by decide +kernel
theorem dX2_append_47 : decode cX2_append 47 = .ok (.goto (-34), 3) := by decide +kernel
theorem dX2_append_50 : decode cX2_append 50 = .ok (.aload_n 0, 1) := by decide +kernel
theorem dX2_append_51 : decode cX2_append 51 = .ok (.dup, 1) := by decide +kernel
theorem dX2_append_52 : decode cX2_append 52 = .ok (.getfield 21, 3) := by decide +kernel
theorem dX2_append_55 : decode cX2_append 55 = .ok (.iload_n 3, 1) := by decide +kernel
theorem dX2_append_56 : decode cX2_append 56 = .ok (.iadd, 1) := by decide +kernel
theorem dX2_append_57 : decode cX2_append 57 = .ok (.putfield 21, 3) := by decide +kernel
theorem dX2_append_60 : decode cX2_append 60 = .ok (.return_, 1) := by decide +kernel
theorem dX2_empty_0 : decode cX2_empty 0 = .ok (.aload_n 0, 1) := by decide +kernel
theorem dX2_empty_1 : decode cX2_empty 1 = .ok (.iconst 0, 1) := by decide +kernel
theorem dX2_empty_2 : decode cX2_empty 2 = .ok (.putfield 21, 3) := by decide +kernel
theorem dX2_empty_5 : decode cX2_empty 5 = .ok (.return_, 1) := by decide +kernel
set_option maxRecDepth 20000 in
theorem ggX2_firstFault_X2_canStand : GoodIn wsX2_firstFault wsX2_canStand := goodIn_r _ [6] (by decide +kernel) (by decide +kernel)
set_option maxRecDepth 20000 in
theorem gX2_firstFault_X2_canStand : GoodIn wsX2_firstFault (va_wsS RX2 25 yX2_canStand wsX2_canStand) := goodIn_app (goodIn_of _ (by decide +kernel)) ggX2_firstFault_X2_canStand
theorem dX2_firstFault_0 : decode cX2_firstFault 0 = .ok (.iconst 0, 1) := by decide +kernel
theorem dX2_firstFault_1 : decode cX2_firstFault 1 = .ok (.istore_n 1, 1) := by decide +kernel
theorem dX2_firstFault_2 : decode cX2_firstFault 2 = .ok (.iload_n 1, 1) := by decide +kernel
theorem dX2_firstFault_3 : decode cX2_firstFault 3 = .ok (.aload_n 0, 1) := by decide +kernel
theorem dX2_firstFault_4 : decode cX2_firstFault 4 = .ok (.getfield 21, 3) := by decide +kernel
theorem dX2_firstFault_7 : decode cX2_firstFault 7 = .ok (.if_icmp .ge 24, 3) := by decide +kernel
theorem dX2_firstFault_10 : decode cX2_firstFault 10 = .ok (.aload_n 0, 1) := by decide +kernel
theorem dX2_firstFault_11 : decode cX2_firstFault 11 = .ok (.getfield 11, 3) := by decide +kernel
theorem dX2_firstFault_14 : decode cX2_firstFault 14 = .ok (.iload_n 1, 1) := by decide +kernel
theorem dX2_firstFault_15 : decode cX2_firstFault 15 = .ok (.caload, 1) := by decide +kernel
theorem dX2_firstFault_16 : decode cX2_firstFault 16 = .ok (.iload_n 1, 1) := by decide +kernel
theorem dX2_firstFault_17 : decode cX2_firstFault 17 = .ok (.invokestatic 25, 3) := by decide +kernel
theorem dX2_firstFault_20 : decode cX2_firstFault 20 = .ok (.ifCond .ne 5, 3) := by decide +kernel
theorem dX2_firstFault_23 : decode cX2_firstFault 23 = .ok (.iload_n 1, 1) := by decide +kernel
theorem dX2_firstFault_24 : decode cX2_firstFault 24 = .ok (.ireturn, 1) := by decide +kernel
theorem dX2_firstFault_25 : decode cX2_firstFault 25 = .ok (.iinc 1 1, 3) := by decide +kernel
theorem dX2_firstFault_28 : decode cX2_firstFault 28 = .ok (.goto (-26), 3) := by decide +kernel
theorem dX2_firstFault_31 : decode cX2_firstFault 31 = .ok (.aload_n 0, 1) := by decide +kernel
theorem dX2_firstFault_32 : decode cX2_firstFault 32 = .ok (.getfield 21, 3) := by decide +kernel
theorem dX2_firstFault_35 : decode cX2_firstFault 35 = .ok (.iconst 5, 1) := by decide +kernel
theorem dX2_firstFault_36 : decode cX2_firstFault 36 = .ok (.irem, 1) := by decide +kernel
theorem dX2_firstFault_37 : decode cX2_firstFault 37 = .ok (.iconst 4, 1) := by decide +kernel
theorem dX2_firstFault_38 : decode cX2_firstFault 38 = .ok (.if_icmp .ne 8, 3) := by decide +kernel
theorem dX2_firstFault_41 : decode cX2_firstFault 41 = .ok (.bipush (-6), 2) := by decide +kernel
theorem dX2_firstFault_43 : decode cX2_firstFault 43 = .ok (.goto 7, 3) := by decide +kernel
theorem dX2_firstFault_46 : decode cX2_firstFault 46 = .ok (.aload_n 0, 1) := by decide +kernel
theorem dX2_firstFault_47 : decode cX2_firstFault 47 = .ok (.getfield 21, 3) := by decide +kernel
theorem dX2_firstFault_50 : decode cX2_firstFault 50 = .ok (.ireturn, 1) := by decide +kernel
theorem dX2_canStand_0 : decode cX2_canStand 0 = .ok (.iload_n 1, 1) := by decide +kernel
theorem dX2_canStand_1 : decode cX2_canStand 1 = .ok (.bipush 39, 2) := by decide +kernel
theorem dX2_canStand_3 : decode cX2_canStand 3 = .ok (.if_icmp .lt 5, 3) := by decide +kernel
end
section
theorem dX2_canStand_6 : decode cX2_canStand 6 = .ok (.iconst 0, 1) := by decide +kernel
theorem dX2_canStand_7 : decode cX2_canStand 7 = .ok (.ireturn, 1) := by decide +kernel
theorem dX2_canStand_8 : decode cX2_canStand 8 = .ok (.iload_n 1, 1) := by decide +kernel
theorem dX2_canStand_9 : decode cX2_canStand 9 = .ok (.iconst 5, 1) := by decide +kernel
theorem dX2_canStand_10 : decode cX2_canStand 10 = .ok (.irem, 1) := by decide +kernel
theorem dX2_canStand_11 : decode cX2_canStand 11 = .ok (.tableswitch 95 0 3 #[29, 47, 65, 77], 29) := by decide +kernel
theorem dX2_canStand_40 : decode cX2_canStand 40 = .ok (.iload_n 0, 1) := by decide +kernel
theorem dX2_canStand_41 : decode cX2_canStand 41 = .ok (.bipush 43, 2) := by decide +kernel
theorem dX2_canStand_43 : decode cX2_canStand 43 = .ok (.if_icmp .eq 9, 3) := by decide +kernel
theorem dX2_canStand_46 : decode cX2_canStand 46 = .ok (.iload_n 0, 1) := by decide +kernel
theorem dX2_canStand_47 : decode cX2_canStand 47 = .ok (.bipush 45, 2) := by decide +kernel
theorem dX2_canStand_49 : decode cX2_canStand 49 = .ok (.if_icmp .ne 7, 3) := by decide +kernel
theorem dX2_canStand_52 : decode cX2_canStand 52 = .ok (.iconst 1, 1) := by decide +kernel
theorem dX2_canStand_53 : decode cX2_canStand 53 = .ok (.goto 4, 3) := by decide +kernel
theorem dX2_canStand_56 : decode cX2_canStand 56 = .ok (.iconst 0, 1) := by decide +kernel
theorem dX2_canStand_57 : decode cX2_canStand 57 = .ok (.ireturn, 1) := by decide +kernel
theorem dX2_canStand_58 : decode cX2_canStand 58 = .ok (.iload_n 0, 1) := by decide +kernel
theorem dX2_canStand_59 : decode cX2_canStand 59 = .ok (.bipush 49, 2) := by decide +kernel
theorem dX2_canStand_61 : decode cX2_canStand 61 = .ok (.if_icmp .lt 13, 3) := by decide +kernel
theorem dX2_canStand_64 : decode cX2_canStand 64 = .ok (.iload_n 0, 1) := by decide +kernel
theorem dX2_canStand_65 : decode cX2_canStand 65 = .ok (.bipush 57, 2) := by decide +kernel
theorem dX2_canStand_67 : decode cX2_canStand 67 = .ok (.if_icmp .gt 7, 3) := by decide +kernel
theorem dX2_canStand_70 : decode cX2_canStand 70 = .ok (.iconst 1, 1) := by decide +kernel
theorem dX2_canStand_71 : decode cX2_canStand 71 = .ok (.goto 4, 3) := by decide +kernel
theorem dX2_canStand_74 : decode cX2_canStand 74 = .ok (.iconst 0, 1) := by decide +kernel
theorem dX2_canStand_75 : decode cX2_canStand 75 = .ok (.ireturn, 1) := by decide +kernel
theorem dX2_canStand_76 : decode cX2_canStand 76 = .ok (.iload_n 0, 1) := by decide +kernel
theorem dX2_canStand_77 : decode cX2_canStand 77 = .ok (.bipush 46, 2) := by decide +kernel
theorem dX2_canStand_79 : decode cX2_canStand 79 = .ok (.if_icmp .ne 7, 3) := by decide +kernel
theorem dX2_canStand_82 : decode cX2_canStand 82 = .ok (.iconst 1, 1) := by decide +kernel
theorem dX2_canStand_83 : decode cX2_canStand 83 = .ok (.goto 4, 3) := by decide +kernel
theorem dX2_canStand_86 : decode cX2_canStand 86 = .ok (.iconst 0, 1) := by decide +kernel
theorem dX2_canStand_87 : decode cX2_canStand 87 = .ok (.ireturn, 1) := by decide +kernel
theorem dX2_canStand_88 : decode cX2_canStand 88 = .ok (.iload_n 0, 1) := by decide +kernel
theorem dX2_canStand_89 : decode cX2_canStand 89 = .ok (.bipush 48, 2) := by decide +kernel
theorem dX2_canStand_91 : decode cX2_canStand 91 = .ok (.if_icmp .lt 13, 3) := by decide +kernel
theorem dX2_canStand_94 : decode cX2_canStand 94 = .ok (.iload_n 0, 1) := by decide +kernel
theorem dX2_canStand_95 : decode cX2_canStand 95 = .ok (.bipush 57, 2) := by decide +kernel
theorem dX2_canStand_97 : decode cX2_canStand 97 = .ok (.if_icmp .gt 7, 3) := by decide +kernel
theorem dX2_canStand_100 : decode cX2_canStand 100 = .ok (.iconst 1, 1) := by decide +kernel
theorem dX2_canStand_101 : decode cX2_canStand 101 = .ok (.goto 4, 3) := by decide +kernel
theorem dX2_canStand_104 : decode cX2_canStand 104 = .ok (.iconst 0, 1) := by decide +kernel
theorem dX2_canStand_105 : decode cX2_canStand 105 = .ok (.ireturn, 1) := by decide +kernel
theorem dX2_canStand_106 : decode cX2_canStand 106 = .ok (.iload_n 0, 1) := by decide +kernel
theorem dX2_canStand_107 : decode cX2_canStand 107 = .ok (.bipush 44, 2) := by decide +kernel
theorem dX2_canStand_109 : decode cX2_canStand 109 = .ok (.if_icmp .ne 7, 3) := by decide +kernel
theorem dX2_canStand_112 : decode cX2_canStand 112 = .ok (.iconst 1, 1) := by decide +kernel
theorem dX2_canStand_113 : decode cX2_canStand 113 = .ok (.goto 4, 3) := by decide +kernel
theorem dX2_canStand_116 : decode cX2_canStand 116 = .ok (.iconst 0, 1) := by decide +kernel
theorem dX2_canStand_117 : decode cX2_canStand 117 = .ok (.ireturn, 1) := by decide +kernel
theorem dX2_orders_0 : decode cX2_orders 0 = .ok (.aload_n 0, 1) := by decide +kernel
theorem dX2_orders_1 : decode cX2_orders 1 = .ok (.getfield 21, 3) := by decide +kernel
theorem dX2_orders_4 : decode cX2_orders 4 = .ok (.iconst 1, 1) := by decide +kernel
theorem dX2_orders_5 : decode cX2_orders 5 = .ok (.iadd, 1) := by decide +kernel
theorem dX2_orders_6 : decode cX2_orders 6 = .ok (.iconst 5, 1) := by decide +kernel
theorem dX2_orders_7 : decode cX2_orders 7 = .ok (.idiv, 1) := by decide +kernel
theorem dX2_orders_8 : decode cX2_orders 8 = .ok (.ireturn, 1) := by decide +kernel
theorem dX2_order_0 : decode cX2_order 0 = .ok (.iload_n 1, 1) := by decide +kernel
theorem dX2_order_1 : decode cX2_order 1 = .ok (.iconst 5, 1) := by decide +kernel
theorem dX2_order_2 : decode cX2_order 2 = .ok (.imul, 1) := by decide +kernel
theorem dX2_order_3 : decode cX2_order 3 = .ok (.istore_n 2, 1) := by decide +kernel
theorem dX2_order_4 : decode cX2_order 4 = .ok (.bipush 10, 2) := by decide +kernel
theorem dX2_order_6 : decode cX2_order 6 = .ok (.aload_n 0, 1) := by decide +kernel
theorem dX2_order_7 : decode cX2_order 7 = .ok (.getfield 11, 3) := by decide +kernel
theorem dX2_order_10 : decode cX2_order 10 = .ok (.iload_n 2, 1) := by decide +kernel
theorem dX2_order_11 : decode cX2_order 11 = .ok (.iconst 1, 1) := by decide +kernel
theorem dX2_order_12 : decode cX2_order 12 = .ok (.iadd, 1) := by decide +kernel
theorem dX2_order_13 : decode cX2_order 13 = .ok (.caload, 1) := by decide +kernel
theorem dX2_order_14 : decode cX2_order 14 = .ok (.bipush 48, 2) := by decide +kernel
theorem dX2_order_16 : decode cX2_order 16 = .ok (.isub, 1) := by decide +kernel
theorem dX2_order_17 : decode cX2_order 17 = .ok (.imul, 1) := by decide +kernel
theorem dX2_order_18 : decode cX2_order 18 = .ok (.aload_n 0, 1) := by decide +kernel
theorem dX2_order_19 : decode cX2_order 19 = .ok (.getfield 11, 3) := by decide +kernel
theorem dX2_order_22 : decode cX2_order 22 = .ok (.iload_n 2, 1) := by decide +kernel
theorem dX2_order_23 : decode cX2_order 23 = .ok (.iconst 3, 1) := by decide +kernel
theorem dX2_order_24 : decode cX2_order 24 = .ok (.iadd, 1) := by decide +kernel
theorem dX2_order_25 : decode cX2_order 25 = .ok (.caload, 1) := by decide +kernel
theorem dX2_order_26 : decode cX2_order 26 = .ok (.iadd, 1) := by decide +kernel
theorem dX2_order_27 : decode cX2_order 27 = .ok (.bipush 48, 2) := by decide +kernel
theorem dX2_order_29 : decode cX2_order 29 = .ok (.isub, 1) := by decide +kernel
theorem dX2_order_30 : decode cX2_order 30 = .ok (.istore_n 3, 1) := by decide +kernel
theorem dX2_order_31 : decode cX2_order 31 = .ok (.aload_n 0, 1) := by decide +kernel
theorem dX2_order_32 : decode cX2_order 32 = .ok (.getfield 11, 3) := by decide +kernel
theorem dX2_order_35 : decode cX2_order 35 = .ok (.iload_n 2, 1) := by decide +kernel
theorem dX2_order_36 : decode cX2_order 36 = .ok (.caload, 1) := by decide +kernel
theorem dX2_order_37 : decode cX2_order 37 = .ok (.bipush 43, 2) := by decide +kernel
theorem dX2_order_39 : decode cX2_order 39 = .ok (.if_icmp .ne 10, 3) := by decide +kernel
theorem dX2_order_42 : decode cX2_order 42 = .ok (.iload_n 3, 1) := by decide +kernel
theorem dX2_order_43 : decode cX2_order 43 = .ok (.bipush 100, 2) := by decide +kernel
theorem dX2_order_45 : decode cX2_order 45 = .ok (.iadd, 1) := by decide +kernel
theorem dX2_order_46 : decode cX2_order 46 = .ok (.goto 4, 3) := by decide +kernel
theorem dX2_order_49 : decode cX2_order 49 = .ok (.iload_n 3, 1) := by decide +kernel
theorem dX2_order_50 : decode cX2_order 50 = .ok (.ireturn, 1) := by decide +kernel
set_option maxRecDepth 20000 in
theorem ggX2_hasNumberTwice_X2_orders : GoodIn wsX2_hasNumberTwice wsX2_orders := goodIn_r _ [5, 6, 12, 13] (by decide +kernel) (by decide +kernel)
set_option maxRecDepth 20000 in
theorem gX2_hasNumberTwice_X2_orders : GoodIn wsX2_hasNumberTwice (wsV RX2 29 RX2 yX2_orders wsX2_orders) := goodIn_app (goodIn_of _ (by decide +kernel)) ggX2_hasNumberTwice_X2_orders
set_option maxRecDepth 20000 in
theorem ggX2_hasNumberTwice_X2_order : GoodIn wsX2_hasNumberTwice wsX2_order := goodIn_r _ [10, 11, 12, 13] (by decide +kernel) (by decide +kernel)
set_option maxRecDepth 20000 in
theorem gX2_hasNumberTwice_X2_order : GoodIn wsX2_hasNumberTwice (wsV RX2 33 RX2 yX2_order wsX2_order) := goodIn_app (goodIn_of _ (by decide +kernel)) ggX2_hasNumberTwice_X2_order
theorem dX2_hasNumberTwice_0 : decode cX2_hasNumberTwice 0 = .ok (.iconst 1, 1) := by decide +kernel
theorem dX2_hasNumberTwice_1 : decode cX2_hasNumberTwice 1 = .ok (.istore_n 1, 1) := by decide +kernel
theorem dX2_hasNumberTwice_2 : decode cX2_hasNumberTwice 2 = .ok (.iload_n 1, 1) := by decide +kernel
theorem dX2_hasNumberTwice_3 : decode cX2_hasNumberTwice 3 = .ok (.aload_n 0, 1) := by decide +kernel
theorem dX2_hasNumberTwice_4 : decode cX2_hasNumberTwice 4 = .ok (.invokevirtual 29, 3) := by decide +kernel
theorem dX2_hasNumberTwice_7 : decode cX2_hasNumberTwice 7 = .ok (.if_icmp .ge 43, 3) := by decide +kernel
theorem dX2_hasNumberTwice_10 : decode cX2_hasNumberTwice 10 = .ok (.iconst 0, 1) := by decide +kernel
theorem dX2_hasNumberTwice_11 : decode cX2_hasNumberTwice 11 = .ok (.istore_n 2, 1) := by decide +kernel
theorem dX2_hasNumberTwice_12 : decode cX2_hasNumberTwice 12 = .ok (.iload_n 2, 1) := by decide +kernel
theorem dX2_hasNumberTwice_13 : decode cX2_hasNumberTwice 13 = .ok (.iload_n 1, 1) := by decide +kernel
theorem dX2_hasNumberTwice_14 : decode cX2_hasNumberTwice 14 = .ok (.if_icmp .ge 30, 3) := by decide +kernel
theorem dX2_hasNumberTwice_17 : decode cX2_hasNumberTwice 17 = .ok (.aload_n 0, 1) := by decide +kernel
theorem dX2_hasNumberTwice_18 : decode cX2_hasNumberTwice 18 = .ok (.iload_n 1, 1) := by decide +kernel
theorem dX2_hasNumberTwice_19 : decode cX2_hasNumberTwice 19 = .ok (.invokevirtual 33, 3) := by decide +kernel
theorem dX2_hasNumberTwice_22 : decode cX2_hasNumberTwice 22 = .ok (.bipush 100, 2) := by decide +kernel
theorem dX2_hasNumberTwice_24 : decode cX2_hasNumberTwice 24 = .ok (.irem, 1) := by decide +kernel
theorem dX2_hasNumberTwice_25 : decode cX2_hasNumberTwice 25 = .ok (.aload_n 0, 1) := by decide +kernel
theorem dX2_hasNumberTwice_26 : decode cX2_hasNumberTwice 26 = .ok (.iload_n 2, 1) := by decide +kernel
theorem dX2_hasNumberTwice_27 : decode cX2_hasNumberTwice 27 = .ok (.invokevirtual 33, 3) := by decide +kernel
theorem dX2_hasNumberTwice_30 : decode cX2_hasNumberTwice 30 = .ok (.bipush 100, 2) := by decide +kernel
theorem dX2_hasNumberTwice_32 : decode cX2_hasNumberTwice 32 = .ok (.irem, 1) := by decide +kernel
theorem dX2_hasNumberTwice_33 : decode cX2_hasNumberTwice 33 = .ok (.if_icmp .ne 5, 3) := by decide +kernel
theorem dX2_hasNumberTwice_36 : decode cX2_hasNumberTwice 36 = .ok (.iconst 1, 1) := by decide +kernel
theorem dX2_hasNumberTwice_37 : decode cX2_hasNumberTwice 37 = .ok (.ireturn, 1) := by decide +kernel
theorem dX2_hasNumberTwice_38 : decode cX2_hasNumberTwice 38 = .ok (.iinc 2 1, 3) := by decide +kernel
theorem dX2_hasNumberTwice_41 : decode cX2_hasNumberTwice 41 = .ok (.goto (-29), 3) := by decide +kernel
theorem dX2_hasNumberTwice_44 : decode cX2_hasNumberTwice 44 = .ok (.iinc 1 1, 3) := by decide +kernel
theorem dX2_hasNumberTwice_47 : decode cX2_hasNumberTwice 47 = .ok (.goto (-45), 3) := by decide +kernel
theorem dX2_hasNumberTwice_50 : decode cX2_hasNumberTwice 50 = .ok (.iconst 0, 1) := by decide +kernel
theorem dX2_hasNumberTwice_51 : decode cX2_hasNumberTwice 51 = .ok (.ireturn, 1) := by decide +kernel
set_option maxRecDepth 20000 in
theorem ggX3_init_X0_init : GoodIn wsX3_init wsX0_init := goodIn_r _ [15, 16, 2, 3, 4, 17, 26, 27] (by decide +kernel) (by decide +kernel)
set_option maxRecDepth 20000 in
theorem gX3_init_X0_init_n20 : GoodIn wsX3_init (wsX0_init) := ggX3_init_X0_init
theorem dX3_init_0 : decode cX3_init 0 = .ok (.aload_n 0, 1) := by decide +kernel
theorem dX3_init_1 : decode cX3_init 1 = .ok (.invokespecial 3, 3) := by decide +kernel
theorem dX3_init_4 : decode cX3_init 4 = .ok (.aload_n 0, 1) := by decide +kernel
theorem dX3_init_5 : decode cX3_init 5 = .ok (.sipush 128, 3) := by decide +kernel
theorem dX3_init_8 : decode cX3_init 8 = .ok (.newarray .int, 2) := by decide +kernel
theorem dX3_init_10 : decode cX3_init 10 = .ok (.putfield 9, 3) := by decide +kernel
theorem dX3_init_13 : decode cX3_init 13 = .ok (.aload_n 0, 1) := by decide +kernel
theorem dX3_init_14 : decode cX3_init 14 = .ok (.bipush 16, 2) := by decide +kernel
theorem dX3_init_16 : decode cX3_init 16 = .ok (.newarray .int, 2) := by decide +kernel
theorem dX3_init_18 : decode cX3_init 18 = .ok (.putfield 15, 3) := by decide +kernel
theorem dX3_init_21 : decode cX3_init 21 = .ok (.aload_n 0, 1) := by decide +kernel
theorem dX3_init_22 : decode cX3_init 22 = .ok (.new 18, 3) := by decide +kernel
theorem dX3_init_25 : decode cX3_init 25 = .ok (.dup, 1) := by decide +kernel
theorem dX3_init_26 : decode cX3_init 26 = .ok (.invokespecial 20, 3) := by decide +kernel
theorem dX3_init_29 : decode cX3_init 29 = .ok (.putfield 21, 3) := by decide +kernel
theorem dX3_init_32 : decode cX3_init 32 = .ok (.aload_n 0, 1) := by decide +kernel
theorem dX3_init_33 : decode cX3_init 33 = .ok (.bipush 8, 2) := by decide +kernel
theorem dX3_init_35 : decode cX3_init 35 = .ok (.anewarray 18, 3) := by decide +kernel
theorem dX3_init_38 : decode cX3_init 38 = .ok (.putfield 25, 3) := by decide +kernel
theorem dX3_init_41 : decode cX3_init 41 = .ok (.aload_n 0, 1) := by decide +kernel
theorem dX3_init_42 : decode cX3_init 42 = .ok (.bipush 8, 2) := by decide +kernel
theorem dX3_init_44 : decode cX3_init 44 = .ok (.newarray .int, 2) := by decide +kernel
theorem dX3_init_46 : decode cX3_init 46 = .ok (.putfield 29, 3) := by decide +kernel
theorem dX3_init_49 : decode cX3_init 49 = .ok (.aload_n 0, 1) := by decide +kernel
theorem dX3_init_50 : decode cX3_init 50 = .ok (.bipush 8, 2) := by decide +kernel
theorem dX3_init_52 : decode cX3_init 52 = .ok (.newarray .int, 2) := by decide +kernel
theorem dX3_init_54 : decode cX3_init 54 = .ok (.putfield 32, 3) := by decide +kernel
theorem dX3_init_57 : decode cX3_init 57 = .ok (.iconst 0, 1) := by decide +kernel
theorem dX3_init_58 : decode cX3_init 58 = .ok (.istore_n 1, 1) := by decide +kernel
theorem dX3_init_59 : decode cX3_init 59 = .ok (.iload_n 1, 1) := by decide +kernel
theorem dX3_init_60 : decode cX3_init 60 = .ok (.aload_n 0, 1) := by decide +kernel
theorem dX3_init_61 : decode cX3_init 61 = .ok (.getfield 25, 3) := by decide +kernel
theorem dX3_init_64 : decode cX3_init 64 = .ok (.arraylength, 1) := by decide +kernel
theorem dX3_init_65 : decode cX3_init 65 = .ok (.if_icmp .ge 22, 3) := by decide +kernel
theorem dX3_init_68 : decode cX3_init 68 = .ok (.aload_n 0, 1) := by decide +kernel
theorem dX3_init_69 : decode cX3_init 69 = .ok (.getfield 25, 3) := by decide +kernel
theorem dX3_init_72 : decode cX3_init 72 = .ok (.iload_n 1, 1) := by decide +kernel
theorem dX3_init_73 : decode cX3_init 73 = .ok (.new 18, 3) := by decide +kernel
theorem dX3_init_76 : decode cX3_init 76 = .ok (.dup, 1) := by decide +kernel
theorem dX3_init_77 : decode cX3_init 77 = .ok (.invokespecial 20, 3) := by decide +kernel
theorem dX3_init_80 : decode cX3_init 80 = .ok (.aastore, 1) := by decide +kernel
theorem dX3_init_81 : decode cX3_init 81 = .ok (.iinc 1 1, 3) := by decide +kernel
theorem dX3_init_84 : decode cX3_init 84 = .ok (.goto (-25), 3) := by decide +kernel
theorem dX3_init_87 : decode cX3_init 87 = .ok (.return_, 1) := by decide +kernel
set_option maxRecDepth 20000 in
theorem ggX3_copy_X0_copy : GoodIn wsX3_copy wsX0_copy := goodIn_r _ [17, 18, 19, 20, 3, 4, 5, 29, 30] (by decide +kernel) (by decide +kernel)
set_option maxRecDepth 20000 in
theorem gX3_copy_X0_copy : GoodIn wsX3_copy (wsV RX3 45 RX0 yX0_copy wsX0_copy) := goodIn_app (goodIn_of _ (by decide +kernel)) ggX3_copy_X0_copy
theorem dX3_copy_0 : decode cX3_copy 0 = .ok (.aload_n 1, 1) := by decide +kernel
theorem dX3_copy_1 : decode cX3_copy 1 = .ok (.getfield 9, 3) := by decide +kernel
theorem dX3_copy_4 : decode cX3_copy 4 = .ok (.iconst 0, 1) := by decide +kernel
theorem dX3_copy_5 : decode cX3_copy 5 = .ok (.aload_n 0, 1) := by decide +kernel
theorem dX3_copy_6 : decode cX3_copy 6 = .ok (.getfield 9, 3) := by decide +kernel
theorem dX3_copy_9 : decode cX3_copy 9 = .ok (.iconst 0, 1) := by decide +kernel
theorem dX3_copy_10 : decode cX3_copy 10 = .ok (.aload_n 0, 1) := by decide +kernel
theorem dX3_copy_11 : decode cX3_copy 11 = .ok (.getfield 9, 3) := by decide +kernel
theorem dX3_copy_14 : decode cX3_copy 14 = .ok (.arraylength, 1) := by decide +kernel
theorem dX3_copy_15 : decode cX3_copy 15 = .ok (.invokestatic 35, 3) := by decide +kernel
theorem dX3_copy_18 : decode cX3_copy 18 = .ok (.aload_n 1, 1) := by decide +kernel
theorem dX3_copy_19 : decode cX3_copy 19 = .ok (.getfield 15, 3) := by decide +kernel
theorem dX3_copy_22 : decode cX3_copy 22 = .ok (.iconst 0, 1) := by decide +kernel
theorem dX3_copy_23 : decode cX3_copy 23 = .ok (.aload_n 0, 1) := by decide +kernel
theorem dX3_copy_24 : decode cX3_copy 24 = .ok (.getfield 15, 3) := by decide +kernel
theorem dX3_copy_27 : decode cX3_copy 27 = .ok (.iconst 0, 1) := by decide +kernel
theorem dX3_copy_28 : decode cX3_copy 28 = .ok (.aload_n 0, 1) := by decide +kernel
theorem dX3_copy_29 : decode cX3_copy 29 = .ok (.getfield 15, 3) := by decide +kernel
theorem dX3_copy_32 : decode cX3_copy 32 = .ok (.arraylength, 1) := by decide +kernel
theorem dX3_copy_33 : decode cX3_copy 33 = .ok (.invokestatic 35, 3) := by decide +kernel
theorem dX3_copy_36 : decode cX3_copy 36 = .ok (.aload_n 0, 1) := by decide +kernel
theorem dX3_copy_37 : decode cX3_copy 37 = .ok (.aload_n 1, 1) := by decide +kernel
theorem dX3_copy_38 : decode cX3_copy 38 = .ok (.getfield 41, 3) := by decide +kernel
theorem dX3_copy_41 : decode cX3_copy 41 = .ok (.putfield 41, 3) := by decide +kernel
theorem dX3_copy_44 : decode cX3_copy 44 = .ok (.aload_n 0, 1) := by decide +kernel
theorem dX3_copy_45 : decode cX3_copy 45 = .ok (.getfield 21, 3) := by decide +kernel
theorem dX3_copy_48 : decode cX3_copy 48 = .ok (.aload_n 1, 1) := by decide +kernel
theorem dX3_copy_49 : decode cX3_copy 49 = .ok (.getfield 21, 3) := by decide +kernel
theorem dX3_copy_52 : decode cX3_copy 52 = .ok (.invokevirtual 45, 3) := by decide +kernel
theorem dX3_copy_55 : decode cX3_copy 55 = .ok (.iconst 0, 1) := by decide +kernel
theorem dX3_copy_56 : decode cX3_copy 56 = .ok (.istore_n 2, 1) := by decide +kernel
theorem dX3_copy_57 : decode cX3_copy 57 = .ok (.iload_n 2, 1) := by decide +kernel
theorem dX3_copy_58 : decode cX3_copy 58 = .ok (.aload_n 0, 1) := by decide +kernel
theorem dX3_copy_59 : decode cX3_copy 59 = .ok (.getfield 25, 3) := by decide +kernel
theorem dX3_copy_62 : decode cX3_copy 62 = .ok (.arraylength, 1) := by decide +kernel
theorem dX3_copy_63 : decode cX3_copy 63 = .ok (.if_icmp .ge 24, 3) := by decide +kernel
theorem dX3_copy_66 : decode cX3_copy 66 = .ok (.aload_n 0, 1) := by decide +kernel
theorem dX3_copy_67 : decode cX3_copy 67 = .ok (.getfield 25, 3) := by decide +kernel
theorem dX3_copy_70 : decode cX3_copy 70 = .ok (.iload_n 2, 1) := by decide +kernel
theorem dX3_copy_71 : decode cX3_copy 71 = .ok (.aaload, 1) := by decide +kernel
theorem dX3_copy_72 : decode cX3_copy 72 = .ok (.aload_n 1, 1) := by decide +kernel
theorem dX3_copy_73 : decode cX3_copy 73 = .ok (.getfield 25, 3) := by decide +kernel
theorem dX3_copy_76 : decode cX3_copy 76 = .ok (.iload_n 2, 1) := by decide +kernel
theorem dX3_copy_77 : decode cX3_copy 77 = .ok (.aaload, 1) := by decide +kernel
theorem dX3_copy_78 : decode cX3_copy 78 = .ok (.invokevirtual 45, 3) := by decide +kernel
theorem dX3_copy_81 : decode cX3_copy 81 = .ok (.iinc 2 1, 3) := by decide +kernel
theorem dX3_copy_84 : decode cX3_copy 84 = .ok (.goto (-27), 3) := by decide +kernel
theorem dX3_copy_87 : decode cX3_copy 87 = .ok (.aload_n 1, 1) := by decide +kernel
theorem dX3_copy_88 : decode cX3_copy 88 = .ok (.getfield 29, 3) := by decide +kernel
theorem dX3_copy_91 : decode cX3_copy 91 = .ok (.iconst 0, 1) := by decide +kernel
theorem dX3_copy_92 : decode cX3_copy 92 = .ok (.aload_n 0, 1) := by decide +kernel
theorem dX3_copy_93 : decode cX3_copy 93 = .ok (.getfield 29, 3) := by decide +kernel
theorem dX3_copy_96 : decode cX3_copy 96 = .ok (.iconst 0, 1) := by decide +kernel
theorem dX3_copy_97 : decode cX3_copy 97 = .ok (.aload_n 0, 1) := by decide +kernel
theorem dX3_copy_98 : decode cX3_copy 98 = .ok (.getfield 29, 3) := by decide +kernel
theorem dX3_copy_101 : decode cX3_copy 101 = .ok (.arraylength, 1) := by decide +kernel
theorem dX3_copy_102 : decode cX3_copy 102 = .ok (.invokestatic 35, 3) := by decide +kernel
theorem dX3_copy_105 : decode cX3_copy 105 = .ok (.aload_n 1, 1) := by decide +kernel
theorem dX3_copy_106 : decode cX3_copy 106 = .ok (.getfield 32, 3) := by decide +kernel
theorem dX3_copy_109 : decode cX3_copy 109 = .ok (.iconst 0, 1) := by decide +kernel
theorem dX3_copy_110 : decode cX3_copy 110 = .ok (.aload_n 0, 1) := by decide +kernel
theorem dX3_copy_111 : decode cX3_copy 111 = .ok (.getfield 32, 3) := by decide +kernel
theorem dX3_copy_114 : decode cX3_copy 114 = .ok (.iconst 0, 1) := by decide +kernel
theorem dX3_copy_115 : decode cX3_copy 115 = .ok (.aload_n 0, 1) := by decide +kernel
theorem dX3_copy_116 : decode cX3_copy 116 = .ok (.getfield 32, 3) := by decide +kernel
theorem dX3_copy_119 : decode cX3_copy 119 = .ok (.arraylength, 1) := by decide +kernel
theorem dX3_copy_120 : decode cX3_copy 120 = .ok (.invokestatic 35, 3) := by decide +kernel
theorem dX3_copy_123 : decode cX3_copy 123 = .ok (.aload_n 0, 1) := by decide +kernel
theorem dX3_copy_124 : decode cX3_copy 124 = .ok (.aload_n 1, 1) := by decide +kernel
theorem dX3_copy_125 : decode cX3_copy 125 = .ok (.getfield 49, 3) := by decide +kernel
theorem dX3_copy_128 : decode cX3_copy 128 = .ok (.putfield 49, 3) := by decide +kernel
theorem dX3_copy_131 : decode cX3_copy 131 = .ok (.return_, 1) := by decide +kernel
theorem dX3_hasOwner_0 : decode cX3_hasOwner 0 = .ok (.iload_n 1, 1) := by decide +kernel
theorem dX3_hasOwner_1 : decode cX3_hasOwner 1 = .ok (.ifCond .lt 15, 3) := by decide +kernel
theorem dX3_hasOwner_4 : decode cX3_hasOwner 4 = .ok (.iload_n 1, 1) := by decide +kernel
theorem dX3_hasOwner_5 : decode cX3_hasOwner 5 = .ok (.aload_n 0, 1) := by decide +kernel
theorem dX3_hasOwner_6 : decode cX3_hasOwner 6 = .ok (.getfield 49, 3) := by decide +kernel
theorem dX3_hasOwner_9 : decode cX3_hasOwner 9 = .ok (.if_icmp .ge 7, 3) := by decide +kernel
theorem dX3_hasOwner_12 : decode cX3_hasOwner 12 = .ok (.iconst 1, 1) := by decide +kernel
theorem dX3_hasOwner_13 : decode cX3_hasOwner 13 = .ok (.goto 4, 3) := by decide +kernel
theorem dX3_hasOwner_16 : decode cX3_hasOwner 16 = .ok (.iconst 0, 1) := by decide +kernel
theorem dX3_hasOwner_17 : decode cX3_hasOwner 17 = .ok (.ireturn, 1) := by decide +kernel
theorem dX3_hasParcel_0 : decode cX3_hasParcel 0 = .ok (.iload_n 1, 1) := by decide +kernel
theorem dX3_hasParcel_1 : decode cX3_hasParcel 1 = .ok (.ifCond .lt 15, 3) := by decide +kernel
theorem dX3_hasParcel_4 : decode cX3_hasParcel 4 = .ok (.iload_n 1, 1) := by decide +kernel
theorem dX3_hasParcel_5 : decode cX3_hasParcel 5 = .ok (.aload_n 0, 1) := by decide +kernel
theorem dX3_hasParcel_6 : decode cX3_hasParcel 6 = .ok (.getfield 41, 3) := by decide +kernel
theorem dX3_hasParcel_9 : decode cX3_hasParcel 9 = .ok (.if_icmp .ge 7, 3) := by decide +kernel
theorem dX3_hasParcel_12 : decode cX3_hasParcel 12 = .ok (.iconst 1, 1) := by decide +kernel
theorem dX3_hasParcel_13 : decode cX3_hasParcel 13 = .ok (.goto 4, 3) := by decide +kernel
theorem dX3_hasParcel_16 : decode cX3_hasParcel 16 = .ok (.iconst 0, 1) := by decide +kernel
theorem dX3_hasParcel_17 : decode cX3_hasParcel 17 = .ok (.ireturn, 1) := by decide +kernel
theorem dX3_isWaiting_0 : decode cX3_isWaiting 0 = .ok (.aload_n 0, 1) := by decide +kernel
theorem dX3_isWaiting_1 : decode cX3_isWaiting 1 = .ok (.getfield 29, 3) := by decide +kernel
theorem dX3_isWaiting_4 : decode cX3_isWaiting 4 = .ok (.iload_n 1, 1) := by decide +kernel
theorem dX3_isWaiting_5 : decode cX3_isWaiting 5 = .ok (.iaload, 1) := by decide +kernel
theorem dX3_isWaiting_6 : decode cX3_isWaiting 6 = .ok (.iconst 1, 1) := by decide +kernel
theorem dX3_isWaiting_7 : decode cX3_isWaiting 7 = .ok (.iload_n 2, 1) := by decide +kernel
theorem dX3_isWaiting_8 : decode cX3_isWaiting 8 = .ok (.ishl, 1) := by decide +kernel
theorem dX3_isWaiting_9 : decode cX3_isWaiting 9 = .ok (.iand, 1) := by decide +kernel
theorem dX3_isWaiting_10 : decode cX3_isWaiting 10 = .ok (.ifCond .eq 7, 3) := by decide +kernel
theorem dX3_isWaiting_13 : decode cX3_isWaiting 13 = .ok (.iconst 1, 1) := by decide +kernel
theorem dX3_isWaiting_14 : decode cX3_isWaiting 14 = .ok (.goto 4, 3) := by decide +kernel
theorem dX3_isWaiting_17 : decode cX3_isWaiting 17 = .ok (.iconst 0, 1) := by decide +kernel
theorem dX3_isWaiting_18 : decode cX3_isWaiting 18 = .ok (.ireturn, 1) := by decide +kernel
theorem dX3_order_0 : decode cX3_order 0 = .ok (.aload_n 0, 1) := by decide +kernel
theorem dX3_order_1 : decode cX3_order 1 = .ok (.getfield 9, 3) := by decide +kernel
theorem dX3_order_4 : decode cX3_order 4 = .ok (.iload_n 1, 1) := by decide +kernel
theorem dX3_order_5 : decode cX3_order 5 = .ok (.bipush 8, 2) := by decide +kernel
theorem dX3_order_7 : decode cX3_order 7 = .ok (.imul, 1) := by decide +kernel
theorem dX3_order_8 : decode cX3_order 8 = .ok (.iload_n 2, 1) := by decide +kernel
theorem dX3_order_9 : decode cX3_order 9 = .ok (.iadd, 1) := by decide +kernel
theorem dX3_order_10 : decode cX3_order 10 = .ok (.iaload, 1) := by decide +kernel
theorem dX3_order_11 : decode cX3_order 11 = .ok (.ireturn, 1) := by decide +kernel
set_option maxRecDepth 20000 in
theorem ggX3_addParcel_X2_orders : GoodIn wsX3_addParcel wsX2_orders := goodIn_r _ [11, 12, 72, 73] (by decide +kernel) (by decide +kernel)
set_option maxRecDepth 20000 in
theorem gX3_addParcel_X2_orders : GoodIn wsX3_addParcel (wsV RX3 52 RX2 yX2_orders wsX2_orders) := goodIn_app (goodIn_of _ (by decide +kernel)) ggX3_addParcel_X2_orders
set_option maxRecDepth 20000 in
theorem ggX3_addParcel_X2_order : GoodIn wsX3_addParcel wsX2_order := goodIn_r _ [16, 17, 72, 73] (by decide +kernel) (by decide +kernel)
set_option maxRecDepth 20000 in
theorem gX3_addParcel_X2_order : GoodIn wsX3_addParcel (wsV RX3 57 RX2 yX2_order wsX2_order) := goodIn_app (goodIn_of _ (by decide +kernel)) ggX3_addParcel_X2_order
set_option maxRecDepth 20000 in
theorem ggX3_addParcel_X3_doWithCare : GoodIn wsX3_addParcel wsX3_doWithCare := goodIn_r _ [22, 2, 23, 24, 25, 21, 26, 3, 27, 28, 29, 30, 31, 32, 33, 34, 35, 36, 37, 38, 39, 40, 41, 42, 43, 44, 45, 46, 47, 48, 49, 50, 51, 52, 53, 54, 55, 56, 57, 58, 59, 60, 61, 62, 63, 64, 65, 66, 67, 68, 69, 70, 71, 74, 75] (by decide +kernel) (by decide +kernel)
set_option maxRecDepth 20000 in
theorem gX3_addParcel_X3_doWithCare : GoodIn wsX3_addParcel (wsV RX3 61 RX3 yX3_doWithCare wsX3_doWithCare) := goodIn_app (goodIn_of _ (by decide +kernel)) ggX3_addParcel_X3_doWithCare
theorem dX3_addParcel_0 : decode cX3_addParcel 0 = .ok (.aload_n 0, 1) := by decide +kernel
theorem dX3_addParcel_1 : decode cX3_addParcel 1 = .ok (.getfield 41, 3) := by decide +kernel
theorem dX3_addParcel_4 : decode cX3_addParcel 4 = .ok (.istore_n 2, 1) := by decide +kernel
theorem dX3_addParcel_5 : decode cX3_addParcel 5 = .ok (.aload_n 0, 1) := by decide +kernel
theorem dX3_addParcel_6 : decode cX3_addParcel 6 = .ok (.getfield 15, 3) := by decide +kernel
theorem dX3_addParcel_9 : decode cX3_addParcel 9 = .ok (.iload_n 2, 1) := by decide +kernel
theorem dX3_addParcel_10 : decode cX3_addParcel 10 = .ok (.aload_n 1, 1) := by decide +kernel
theorem dX3_addParcel_11 : decode cX3_addParcel 11 = .ok (.invokevirtual 52, 3) := by decide +kernel
theorem dX3_addParcel_14 : decode cX3_addParcel 14 = .ok (.iastore, 1) := by decide +kernel
theorem dX3_addParcel_15 : decode cX3_addParcel 15 = .ok (.iconst 0, 1) := by decide +kernel
theorem dX3_addParcel_16 : decode cX3_addParcel 16 = .ok (.istore_n 3, 1) := by decide +kernel
theorem dX3_addParcel_17 : decode cX3_addParcel 17 = .ok (.iload_n 3, 1) := by decide +kernel
theorem dX3_addParcel_18 : decode cX3_addParcel 18 = .ok (.aload_n 0, 1) := by decide +kernel
theorem dX3_addParcel_19 : decode cX3_addParcel 19 = .ok (.getfield 15, 3) := by decide +kernel
theorem dX3_addParcel_22 : decode cX3_addParcel 22 = .ok (.iload_n 2, 1) := by decide +kernel
theorem dX3_addParcel_23 : decode cX3_addParcel 23 = .ok (.iaload, 1) := by decide +kernel
theorem dX3_addParcel_24 : decode cX3_addParcel 24 = .ok (.if_icmp .ge 25, 3) := by decide +kernel
theorem dX3_addParcel_27 : decode cX3_addParcel 27 = .ok (.aload_n 0, 1) := by decide +kernel
theorem dX3_addParcel_28 : decode cX3_addParcel 28 = .ok (.getfield 9, 3) := by decide +kernel
theorem dX3_addParcel_31 : decode cX3_addParcel 31 = .ok (.iload_n 2, 1) := by decide +kernel
theorem dX3_addParcel_32 : decode cX3_addParcel 32 = .ok (.bipush 8, 2) := by decide +kernel
theorem dX3_addParcel_34 : decode cX3_addParcel 34 = .ok (.imul, 1) := by decide +kernel
theorem dX3_addParcel_35 : decode cX3_addParcel 35 = .ok (.iload_n 3, 1) := by decide +kernel
theorem dX3_addParcel_36 : decode cX3_addParcel 36 = .ok (.iadd, 1) := by decide +kernel
theorem dX3_addParcel_37 : decode cX3_addParcel 37 = .ok (.aload_n 1, 1) := by decide +kernel
theorem dX3_addParcel_38 : decode cX3_addParcel 38 = .ok (.iload_n 3, 1) := by decide +kernel
theorem dX3_addParcel_39 : decode cX3_addParcel 39 = .ok (.invokevirtual 57, 3) := by decide +kernel
theorem dX3_addParcel_42 : decode cX3_addParcel 42 = .ok (.iastore, 1) := by decide +kernel
theorem dX3_addParcel_43 : decode cX3_addParcel 43 = .ok (.iinc 3 1, 3) := by decide +kernel
theorem dX3_addParcel_46 : decode cX3_addParcel 46 = .ok (.goto (-29), 3) := by decide +kernel
theorem dX3_addParcel_49 : decode cX3_addParcel 49 = .ok (.aload_n 0, 1) := by decide +kernel
theorem dX3_addParcel_50 : decode cX3_addParcel 50 = .ok (.dup, 1) := by decide +kernel
theorem dX3_addParcel_51 : decode cX3_addParcel 51 = .ok (.getfield 41, 3) := by decide +kernel
theorem dX3_addParcel_54 : decode cX3_addParcel 54 = .ok (.iconst 1, 1) := by decide +kernel
theorem dX3_addParcel_55 : decode cX3_addParcel 55 = .ok (.iadd, 1) := by decide +kernel
theorem dX3_addParcel_56 : decode cX3_addParcel 56 = .ok (.putfield 41, 3) := by decide +kernel
theorem dX3_addParcel_59 : decode cX3_addParcel 59 = .ok (.aload_n 0, 1) := by decide +kernel
theorem dX3_addParcel_60 : decode cX3_addParcel 60 = .ok (.aload_n 0, 1) := by decide +kernel
theorem dX3_addParcel_61 : decode cX3_addParcel 61 = .ok (.getfield 21, 3) := by decide +kernel
theorem dX3_addParcel_64 : decode cX3_addParcel 64 = .ok (.iload_n 2, 1) := by decide +kernel
theorem dX3_addParcel_65 : decode cX3_addParcel 65 = .ok (.invokevirtual 61, 3) := by decide +kernel
theorem dX3_addParcel_68 : decode cX3_addParcel 68 = .ok (.iconst 0, 1) := by decide +kernel
theorem dX3_addParcel_69 : decode cX3_addParcel 69 = .ok (.istore_n 3, 1) := by decide +kernel
theorem dX3_addParcel_70 : decode cX3_addParcel 70 = .ok (.iload_n 3, 1) := by decide +kernel
theorem dX3_addParcel_71 : decode cX3_addParcel 71 = .ok (.aload_n 0, 1) := by decide +kernel
theorem dX3_addParcel_72 : decode cX3_addParcel 72 = .ok (.getfield 49, 3) := by decide +kernel
theorem dX3_addParcel_75 : decode cX3_addParcel 75 = .ok (.if_icmp .ge 21, 3) := by decide +kernel
theorem dX3_addParcel_78 : decode cX3_addParcel 78 = .ok (.aload_n 0, 1) := by decide +kernel
theorem dX3_addParcel_79 : decode cX3_addParcel 79 = .ok (.getfield 29, 3) := by decide +kernel
theorem dX3_addParcel_82 : decode cX3_addParcel 82 = .ok (.iload_n 3, 1) := by decide +kernel
theorem dX3_addParcel_83 : decode cX3_addParcel 83 = .ok (.dup2, 1) := by decide +kernel
theorem dX3_addParcel_84 : decode cX3_addParcel 84 = .ok (.iaload, 1) := by decide +kernel
theorem dX3_addParcel_85 : decode cX3_addParcel 85 = .ok (.iconst 1, 1) := by decide +kernel
theorem dX3_addParcel_86 : decode cX3_addParcel 86 = .ok (.iload_n 2, 1) := by decide +kernel
theorem dX3_addParcel_87 : decode cX3_addParcel 87 = .ok (.ishl, 1) := by decide +kernel
theorem dX3_addParcel_88 : decode cX3_addParcel 88 = .ok (.ior, 1) := by decide +kernel
theorem dX3_addParcel_89 : decode cX3_addParcel 89 = .ok (.iastore, 1) := by decide +kernel
theorem dX3_addParcel_90 : decode cX3_addParcel 90 = .ok (.iinc 3 1, 3) := by decide +kernel
theorem dX3_addParcel_93 : decode cX3_addParcel 93 = .ok (.goto (-23), 3) := by decide +kernel
theorem dX3_addParcel_96 : decode cX3_addParcel 96 = .ok (.iload_n 2, 1) := by decide +kernel
theorem dX3_addParcel_97 : decode cX3_addParcel 97 = .ok (.ireturn, 1) := by decide +kernel
set_option maxRecDepth 20000 in
theorem ggX3_addOwner_X0_copy : GoodIn wsX3_addOwner wsX0_copy := goodIn_r _ [10, 11, 12, 13, 14, 15, 16, 25, 26] (by decide +kernel) (by decide +kernel)
set_option maxRecDepth 20000 in
theorem gX3_addOwner_X0_copy : GoodIn wsX3_addOwner (wsV RX3 45 RX0 yX0_copy wsX0_copy) := goodIn_app (goodIn_of _ (by decide +kernel)) ggX3_addOwner_X0_copy
theorem dX3_addOwner_0 : decode cX3_addOwner 0 = .ok (.aload_n 0, 1) := by decide +kernel
theorem dX3_addOwner_1 : decode cX3_addOwner 1 = .ok (.getfield 49, 3) := by decide +kernel
theorem dX3_addOwner_4 : decode cX3_addOwner 4 = .ok (.istore_n 1, 1) := by decide +kernel
theorem dX3_addOwner_5 : decode cX3_addOwner 5 = .ok (.aload_n 0, 1) := by decide +kernel
theorem dX3_addOwner_6 : decode cX3_addOwner 6 = .ok (.getfield 25, 3) := by decide +kernel
theorem dX3_addOwner_9 : decode cX3_addOwner 9 = .ok (.iload_n 1, 1) := by decide +kernel
theorem dX3_addOwner_10 : decode cX3_addOwner 10 = .ok (.aaload, 1) := by decide +kernel
theorem dX3_addOwner_11 : decode cX3_addOwner 11 = .ok (.aload_n 0, 1) := by decide +kernel
theorem dX3_addOwner_12 : decode cX3_addOwner 12 = .ok (.getfield 21, 3) := by decide +kernel
theorem dX3_addOwner_15 : decode cX3_addOwner 15 = .ok (.invokevirtual 45, 3) := by decide +kernel
theorem dX3_addOwner_18 : decode cX3_addOwner 18 = .ok (.aload_n 0, 1) := by decide +kernel
theorem dX3_addOwner_19 : decode cX3_addOwner 19 = .ok (.getfield 29, 3) := by decide +kernel
theorem dX3_addOwner_22 : decode cX3_addOwner 22 = .ok (.iload_n 1, 1) := by decide +kernel
theorem dX3_addOwner_23 : decode cX3_addOwner 23 = .ok (.iconst 0, 1) := by decide +kernel
theorem dX3_addOwner_24 : decode cX3_addOwner 24 = .ok (.iastore, 1) := by decide +kernel
theorem dX3_addOwner_25 : decode cX3_addOwner 25 = .ok (.aload_n 0, 1) := by decide +kernel
theorem dX3_addOwner_26 : decode cX3_addOwner 26 = .ok (.getfield 32, 3) := by decide +kernel
theorem dX3_addOwner_29 : decode cX3_addOwner 29 = .ok (.iload_n 1, 1) := by decide +kernel
theorem dX3_addOwner_30 : decode cX3_addOwner 30 = .ok (.iconst 0, 1) := by decide +kernel
theorem dX3_addOwner_31 : decode cX3_addOwner 31 = .ok (.iastore, 1) := by decide +kernel
theorem dX3_addOwner_32 : decode cX3_addOwner 32 = .ok (.aload_n 0, 1) := by decide +kernel
theorem dX3_addOwner_33 : decode cX3_addOwner 33 = .ok (.dup, 1) := by decide +kernel
theorem dX3_addOwner_34 : decode cX3_addOwner 34 = .ok (.getfield 49, 3) := by decide +kernel
theorem dX3_addOwner_37 : decode cX3_addOwner 37 = .ok (.iconst 1, 1) := by decide +kernel
theorem dX3_addOwner_38 : decode cX3_addOwner 38 = .ok (.iadd, 1) := by decide +kernel
theorem dX3_addOwner_39 : decode cX3_addOwner 39 = .ok (.putfield 49, 3) := by decide +kernel
theorem dX3_addOwner_42 : decode cX3_addOwner 42 = .ok (.iload_n 1, 1) := by decide +kernel
theorem dX3_addOwner_43 : decode cX3_addOwner 43 = .ok (.ireturn, 1) := by decide +kernel
set_option maxRecDepth 20000 in
theorem ggX3_doWithCare_X3_order : GoodIn wsX3_doWithCare wsX3_order := goodIn_r _ [6, 7, 45, 46, 47, 48, 49, 50, 51, 52] (by decide +kernel) (by decide +kernel)
set_option maxRecDepth 20000 in
theorem gX3_doWithCare_X3_order : GoodIn wsX3_doWithCare (wsV RX3 65 RX3 yX3_order wsX3_order) := goodIn_app (goodIn_of _ (by decide +kernel)) ggX3_doWithCare_X3_order
set_option maxRecDepth 20000 in
theorem ggX3_doWithCare_X0_removeAll : GoodIn wsX3_doWithCare wsX0_removeAll := goodIn_r _ [12, 13, 14, 15, 11, 16, 17, 18, 19, 20, 21, 22, 23, 24, 25, 26, 27, 28, 29, 30, 31, 32, 33, 34, 35, 36, 37, 38, 39, 40, 53, 54] (by decide +kernel) (by decide +kernel)
set_option maxRecDepth 20000 in
theorem gX3_doWithCare_X0_removeAll : GoodIn wsX3_doWithCare (wsV RX3 68 RX0 yX0_removeAll wsX0_removeAll) := goodIn_app (goodIn_of _ (by decide +kernel)) ggX3_doWithCare_X0_removeAll
set_option maxRecDepth 20000 in
theorem ggX3_doWithCare_X0_insert : GoodIn wsX3_doWithCare wsX0_insert := goodIn_r _ [44, 24, 25, 37, 38, 39, 40, 17, 18, 11, 19, 20, 21, 22, 23, 53, 54] (by decide +kernel) (by decide +kernel)
set_option maxRecDepth 20000 in
theorem gX3_doWithCare_X0_insert : GoodIn wsX3_doWithCare (wsV RX3 72 RX0 yX0_insert wsX0_insert) := goodIn_app (goodIn_of _ (by decide +kernel)) ggX3_doWithCare_X0_insert
theorem dX3_doWithCare_0 : decode cX3_doWithCare 0 = .ok (.iconst 0, 1) := by decide +kernel
theorem dX3_doWithCare_1 : decode cX3_doWithCare 1 = .ok (.istore_n 3, 1) := by decide +kernel
theorem dX3_doWithCare_2 : decode cX3_doWithCare 2 = .ok (.iload_n 3, 1) := by decide +kernel
theorem dX3_doWithCare_3 : decode cX3_doWithCare 3 = .ok (.aload_n 0, 1) := by decide +kernel
theorem dX3_doWithCare_4 : decode cX3_doWithCare 4 = .ok (.getfield 15, 3) := by decide +kernel
theorem dX3_doWithCare_7 : decode cX3_doWithCare 7 = .ok (.iload_n 2, 1) := by decide +kernel
theorem dX3_doWithCare_8 : decode cX3_doWithCare 8 = .ok (.iaload, 1) := by decide +kernel
theorem dX3_doWithCare_9 : decode cX3_doWithCare 9 = .ok (.if_icmp .ge 43, 3) := by decide +kernel
theorem dX3_doWithCare_12 : decode cX3_doWithCare 12 = .ok (.aload_n 0, 1) := by decide +kernel
theorem dX3_doWithCare_13 : decode cX3_doWithCare 13 = .ok (.iload_n 2, 1) := by decide +kernel
theorem dX3_doWithCare_14 : decode cX3_doWithCare 14 = .ok (.iload_n 3, 1) := by decide +kernel
theorem dX3_doWithCare_15 : decode cX3_doWithCare 15 = .ok (.invokevirtual 65, 3) := by decide +kernel
theorem dX3_doWithCare_18 : decode cX3_doWithCare 18 = .ok (.istore 4, 2) := by decide +kernel
theorem dX3_doWithCare_20 : decode cX3_doWithCare 20 = .ok (.aload_n 1, 1) := by decide +kernel
theorem dX3_doWithCare_21 : decode cX3_doWithCare 21 = .ok (.iload 4, 2) := by decide +kernel
theorem dX3_doWithCare_23 : decode cX3_doWithCare 23 = .ok (.bipush 100, 2) := by decide +kernel
theorem dX3_doWithCare_25 : decode cX3_doWithCare 25 = .ok (.irem, 1) := by decide +kernel
theorem dX3_doWithCare_26 : decode cX3_doWithCare 26 = .ok (.invokevirtual 68, 3) := by decide +kernel
theorem dX3_doWithCare_29 : decode cX3_doWithCare 29 = .ok (.iload 4, 2) := by decide +kernel
theorem dX3_doWithCare_31 : decode cX3_doWithCare 31 = .ok (.bipush 100, 2) := by decide +kernel
theorem dX3_doWithCare_33 : decode cX3_doWithCare 33 = .ok (.if_icmp .lt 13, 3) := by decide +kernel
theorem dX3_doWithCare_36 : decode cX3_doWithCare 36 = .ok (.aload_n 1, 1) := by decide +kernel
theorem dX3_doWithCare_37 : decode cX3_doWithCare 37 = .ok (.iload 4, 2) := by decide +kernel
theorem dX3_doWithCare_39 : decode cX3_doWithCare 39 = .ok (.bipush 100, 2) := by decide +kernel
theorem dX3_doWithCare_41 : decode cX3_doWithCare 41 = .ok (.irem, 1) := by decide +kernel
theorem dX3_doWithCare_42 : decode cX3_doWithCare 42 = .ok (.iload_n 2, 1) := by decide +kernel
theorem dX3_doWithCare_43 : decode cX3_doWithCare 43 = .ok (.invokevirtual 72, 3) := by decide +kernel
theorem dX3_doWithCare_46 : decode cX3_doWithCare 46 = .ok (.iinc 3 1, 3) := by decide +kernel
theorem dX3_doWithCare_49 : decode cX3_doWithCare 49 = .ok (.goto (-47), 3) := by decide +kernel
theorem dX3_doWithCare_52 : decode cX3_doWithCare 52 = .ok (.return_, 1) := by decide +kernel
set_option maxRecDepth 20000 in
theorem ggX3_doCarelessly_X3_order : GoodIn wsX3_doCarelessly wsX3_order := goodIn_r _ [6, 7, 49, 50, 51, 52, 53, 54, 55, 56] (by decide +kernel) (by decide +kernel)
set_option maxRecDepth 20000 in
theorem gX3_doCarelessly_X3_order : GoodIn wsX3_doCarelessly (wsV RX3 65 RX3 yX3_order wsX3_order) := goodIn_app (goodIn_of _ (by decide +kernel)) ggX3_doCarelessly_X3_order
set_option maxRecDepth 20000 in
theorem ggX3_doCarelessly_X0_insert : GoodIn wsX3_doCarelessly wsX0_insert := goodIn_r _ [12, 13, 14, 15, 16, 17, 18, 19, 20, 11, 21, 22, 23, 24, 25, 57, 58] (by decide +kernel) (by decide +kernel)
set_option maxRecDepth 20000 in
theorem gX3_doCarelessly_X0_insert : GoodIn wsX3_doCarelessly (wsV RX3 72 RX0 yX0_insert wsX0_insert) := goodIn_app (goodIn_of _ (by decide +kernel)) ggX3_doCarelessly_X0_insert
set_option maxRecDepth 20000 in
theorem ggX3_doCarelessly_X0_removeEarliest : GoodIn wsX3_doCarelessly wsX0_removeEarliest := goodIn_r _ [29, 30, 31, 32, 33, 34, 35, 36, 11, 37, 19, 20, 21, 22, 23, 24, 25, 13, 14, 38, 39, 40, 41, 42, 43, 44, 45, 46, 47, 48, 15, 16, 17, 18, 57, 58] (by decide +kernel) (by decide +kernel)
set_option maxRecDepth 20000 in
theorem gX3_doCarelessly_X0_removeEarliest : GoodIn wsX3_doCarelessly (wsV RX3 76 RX0 yX0_removeEarliest wsX0_removeEarliest) := goodIn_app (goodIn_of _ (by decide +kernel)) ggX3_doCarelessly_X0_removeEarliest
theorem dX3_doCarelessly_0 : decode cX3_doCarelessly 0 = .ok (.iconst 0, 1) := by decide +kernel
theorem dX3_doCarelessly_1 : decode cX3_doCarelessly 1 = .ok (.istore_n 3, 1) := by decide +kernel
theorem dX3_doCarelessly_2 : decode cX3_doCarelessly 2 = .ok (.iload_n 3, 1) := by decide +kernel
theorem dX3_doCarelessly_3 : decode cX3_doCarelessly 3 = .ok (.aload_n 0, 1) := by decide +kernel
theorem dX3_doCarelessly_4 : decode cX3_doCarelessly 4 = .ok (.getfield 15, 3) := by decide +kernel
theorem dX3_doCarelessly_7 : decode cX3_doCarelessly 7 = .ok (.iload_n 2, 1) := by decide +kernel
theorem dX3_doCarelessly_8 : decode cX3_doCarelessly 8 = .ok (.iaload, 1) := by decide +kernel
theorem dX3_doCarelessly_9 : decode cX3_doCarelessly 9 = .ok (.if_icmp .ge 43, 3) := by decide +kernel
theorem dX3_doCarelessly_12 : decode cX3_doCarelessly 12 = .ok (.aload_n 0, 1) := by decide +kernel
theorem dX3_doCarelessly_13 : decode cX3_doCarelessly 13 = .ok (.iload_n 2, 1) := by decide +kernel
theorem dX3_doCarelessly_14 : decode cX3_doCarelessly 14 = .ok (.iload_n 3, 1) := by decide +kernel
theorem dX3_doCarelessly_15 : decode cX3_doCarelessly 15 = .ok (.invokevirtual 65, 3) := by decide +kernel
theorem dX3_doCarelessly_18 : decode cX3_doCarelessly 18 = .ok (.istore 4, 2) := by decide +kernel
theorem dX3_doCarelessly_20 : decode cX3_doCarelessly 20 = .ok (.iload 4, 2) := by decide +kernel
theorem dX3_doCarelessly_22 : decode cX3_doCarelessly 22 = .ok (.bipush 100, 2) := by decide +kernel
theorem dX3_doCarelessly_24 : decode cX3_doCarelessly 24 = .ok (.if_icmp .lt 16, 3) := by decide +kernel
theorem dX3_doCarelessly_27 : decode cX3_doCarelessly 27 = .ok (.aload_n 1, 1) := by decide +kernel
theorem dX3_doCarelessly_28 : decode cX3_doCarelessly 28 = .ok (.iload 4, 2) := by decide +kernel
theorem dX3_doCarelessly_30 : decode cX3_doCarelessly 30 = .ok (.bipush 100, 2) := by decide +kernel
theorem dX3_doCarelessly_32 : decode cX3_doCarelessly 32 = .ok (.irem, 1) := by decide +kernel
theorem dX3_doCarelessly_33 : decode cX3_doCarelessly 33 = .ok (.iload_n 2, 1) := by decide +kernel
theorem dX3_doCarelessly_34 : decode cX3_doCarelessly 34 = .ok (.invokevirtual 72, 3) := by decide +kernel
theorem dX3_doCarelessly_37 : decode cX3_doCarelessly 37 = .ok (.goto 9, 3) := by decide +kernel
theorem dX3_doCarelessly_40 : decode cX3_doCarelessly 40 = .ok (.aload_n 1, 1) := by decide +kernel
theorem dX3_doCarelessly_41 : decode cX3_doCarelessly 41 = .ok (.iload 4, 2) := by decide +kernel
theorem dX3_doCarelessly_43 : decode cX3_doCarelessly 43 = .ok (.invokevirtual 76, 3) := by decide +kernel
theorem dX3_doCarelessly_46 : decode cX3_doCarelessly 46 = .ok (.iinc 3 1, 3) := by decide +kernel
theorem dX3_doCarelessly_49 : decode cX3_doCarelessly 49 = .ok (.goto (-47), 3) := by decide +kernel
theorem dX3_doCarelessly_52 : decode cX3_doCarelessly 52 = .ok (.return_, 1) := by decide +kernel
set_option maxRecDepth 20000 in
theorem ggX3_doSetWithCare_X3_doWithCare : GoodIn wsX3_doSetWithCare wsX3_doWithCare := goodIn_r _ [6, 7, 8, 9, 10, 5, 11, 12, 13, 14, 15, 16, 17, 18, 19, 20, 21, 22, 23, 24, 25, 26, 27, 28, 29, 30, 31, 32, 33, 34, 35, 36, 37, 38, 39, 40, 41, 42, 43, 44, 45, 46, 47, 48, 49, 50, 51, 52, 53, 54, 55, 56, 57, 58, 59] (by decide +kernel) (by decide +kernel)
set_option maxRecDepth 20000 in
theorem gX3_doSetWithCare_X3_doWithCare : GoodIn wsX3_doSetWithCare (wsV RX3 61 RX3 yX3_doWithCare wsX3_doWithCare) := goodIn_app (goodIn_of _ (by decide +kernel)) ggX3_doSetWithCare_X3_doWithCare
theorem dX3_doSetWithCare_0 : decode cX3_doSetWithCare 0 = .ok (.iconst 0, 1) := by decide +kernel
theorem dX3_doSetWithCare_1 : decode cX3_doSetWithCare 1 = .ok (.istore_n 3, 1) := by decide +kernel
theorem dX3_doSetWithCare_2 : decode cX3_doSetWithCare 2 = .ok (.iload_n 3, 1) := by decide +kernel
theorem dX3_doSetWithCare_3 : decode cX3_doSetWithCare 3 = .ok (.aload_n 0, 1) := by decide +kernel
theorem dX3_doSetWithCare_4 : decode cX3_doSetWithCare 4 = .ok (.getfield 41, 3) := by decide +kernel
theorem dX3_doSetWithCare_7 : decode cX3_doSetWithCare 7 = .ok (.if_icmp .ge 23, 3) := by decide +kernel
theorem dX3_doSetWithCare_10 : decode cX3_doSetWithCare 10 = .ok (.iload_n 2, 1) := by decide +kernel
theorem dX3_doSetWithCare_11 : decode cX3_doSetWithCare 11 = .ok (.iconst 1, 1) := by decide +kernel
theorem dX3_doSetWithCare_12 : decode cX3_doSetWithCare 12 = .ok (.iload_n 3, 1) := by decide +kernel
theorem dX3_doSetWithCare_13 : decode cX3_doSetWithCare 13 = .ok (.ishl, 1) := by decide +kernel
theorem dX3_doSetWithCare_14 : decode cX3_doSetWithCare 14 = .ok (.iand, 1) := by decide +kernel
theorem dX3_doSetWithCare_15 : decode cX3_doSetWithCare 15 = .ok (.ifCond .eq 9, 3) := by decide +kernel
theorem dX3_doSetWithCare_18 : decode cX3_doSetWithCare 18 = .ok (.aload_n 0, 1) := by decide +kernel
theorem dX3_doSetWithCare_19 : decode cX3_doSetWithCare 19 = .ok (.aload_n 1, 1) := by decide +kernel
theorem dX3_doSetWithCare_20 : decode cX3_doSetWithCare 20 = .ok (.iload_n 3, 1) := by decide +kernel
theorem dX3_doSetWithCare_21 : decode cX3_doSetWithCare 21 = .ok (.invokevirtual 61, 3) := by decide +kernel
theorem dX3_doSetWithCare_24 : decode cX3_doSetWithCare 24 = .ok (.iinc 3 1, 3) := by decide +kernel
theorem dX3_doSetWithCare_27 : decode cX3_doSetWithCare 27 = .ok (.goto (-25), 3) := by decide +kernel
theorem dX3_doSetWithCare_30 : decode cX3_doSetWithCare 30 = .ok (.return_, 1) := by decide +kernel
theorem dX3_ownersOf_0 : decode cX3_ownersOf 0 = .ok (.iconst 0, 1) := by decide +kernel
theorem dX3_ownersOf_1 : decode cX3_ownersOf 1 = .ok (.istore_n 3, 1) := by decide +kernel
theorem dX3_ownersOf_2 : decode cX3_ownersOf 2 = .ok (.iconst 0, 1) := by decide +kernel
theorem dX3_ownersOf_3 : decode cX3_ownersOf 3 = .ok (.istore 4, 2) := by decide +kernel
theorem dX3_ownersOf_5 : decode cX3_ownersOf 5 = .ok (.iload 4, 2) := by decide +kernel
theorem dX3_ownersOf_7 : decode cX3_ownersOf 7 = .ok (.aload_n 0, 1) := by decide +kernel
theorem dX3_ownersOf_8 : decode cX3_ownersOf 8 = .ok (.getfield 49, 3) := by decide +kernel
theorem dX3_ownersOf_11 : decode cX3_ownersOf 11 = .ok (.if_icmp .ge 27, 3) := by decide +kernel
theorem dX3_ownersOf_14 : decode cX3_ownersOf 14 = .ok (.aload_n 1, 1) := by decide +kernel
theorem dX3_ownersOf_15 : decode cX3_ownersOf 15 = .ok (.iload 4, 2) := by decide +kernel
theorem dX3_ownersOf_17 : decode cX3_ownersOf 17 = .ok (.iaload, 1) := by decide +kernel
theorem dX3_ownersOf_18 : decode cX3_ownersOf 18 = .ok (.iconst 1, 1) := by decide +kernel
theorem dX3_ownersOf_19 : decode cX3_ownersOf 19 = .ok (.iload_n 2, 1) := by decide +kernel
theorem dX3_ownersOf_20 : decode cX3_ownersOf 20 = .ok (.ishl, 1) := by decide +kernel
theorem dX3_ownersOf_21 : decode cX3_ownersOf 21 = .ok (.iand, 1) := by decide +kernel
theorem dX3_ownersOf_22 : decode cX3_ownersOf 22 = .ok (.ifCond .eq 10, 3) := by decide +kernel
theorem dX3_ownersOf_25 : decode cX3_ownersOf 25 = .ok (.iload_n 3, 1) := by decide +kernel
theorem dX3_ownersOf_26 : decode cX3_ownersOf 26 = .ok (.iconst 1, 1) := by decide +kernel
theorem dX3_ownersOf_27 : decode cX3_ownersOf 27 = .ok (.iload 4, 2) := by decide +kernel
theorem dX3_ownersOf_29 : decode cX3_ownersOf 29 = .ok (.ishl, 1) := by decide +kernel
theorem dX3_ownersOf_30 : decode cX3_ownersOf 30 = .ok (.ior, 1) := by decide +kernel
theorem dX3_ownersOf_31 : decode cX3_ownersOf 31 = .ok (.istore_n 3, 1) := by decide +kernel
theorem dX3_ownersOf_32 : decode cX3_ownersOf 32 = .ok (.iinc 4 1, 3) := by decide +kernel
theorem dX3_ownersOf_35 : decode cX3_ownersOf 35 = .ok (.goto (-30), 3) := by decide +kernel
theorem dX3_ownersOf_38 : decode cX3_ownersOf 38 = .ok (.iload_n 3, 1) := by decide +kernel
theorem dX3_ownersOf_39 : decode cX3_ownersOf 39 = .ok (.ireturn, 1) := by decide +kernel
set_option maxRecDepth 20000 in
theorem ggX3_ownersWithRightBinders_X0_isSameAs : GoodIn wsX3_ownersWithRightBinders wsX0_isSameAs := goodIn_r _ [8, 9, 10, 19, 20] (by decide +kernel) (by decide +kernel)
set_option maxRecDepth 20000 in
theorem gX3_ownersWithRightBinders_X0_isSameAs : GoodIn wsX3_ownersWithRightBinders (wsV RX3 79 RX0 yX0_isSameAs wsX0_isSameAs) := goodIn_app (goodIn_of _ (by decide +kernel)) ggX3_ownersWithRightBinders_X0_isSameAs
theorem dX3_ownersWithRightBinders_0 : decode cX3_ownersWithRightBinders 0 = .ok (.iconst 0, 1) := by decide +kernel
theorem dX3_ownersWithRightBinders_1 : decode cX3_ownersWithRightBinders 1 = .ok (.istore_n 1, 1) := by decide +kernel
theorem dX3_ownersWithRightBinders_2 : decode cX3_ownersWithRightBinders 2 = .ok (.iconst 0, 1) := by decide +kernel
theorem dX3_ownersWithRightBinders_3 : decode cX3_ownersWithRightBinders 3 = .ok (.istore_n 2, 1) := by decide +kernel
theorem dX3_ownersWithRightBinders_4 : decode cX3_ownersWithRightBinders 4 = .ok (.iload_n 2, 1) := by decide +kernel
theorem dX3_ownersWithRightBinders_5 : decode cX3_ownersWithRightBinders 5 = .ok (.aload_n 0, 1) := by decide +kernel
theorem dX3_ownersWithRightBinders_6 : decode cX3_ownersWithRightBinders 6 = .ok (.getfield 49, 3) := by decide +kernel
theorem dX3_ownersWithRightBinders_9 : decode cX3_ownersWithRightBinders 9 = .ok (.if_icmp .ge 31, 3) := by decide +kernel
theorem dX3_ownersWithRightBinders_12 : decode cX3_ownersWithRightBinders 12 = .ok (.aload_n 0, 1) := by decide +kernel
theorem dX3_ownersWithRightBinders_13 : decode cX3_ownersWithRightBinders 13 = .ok (.getfield 25, 3) := by decide +kernel
theorem dX3_ownersWithRightBinders_16 : decode cX3_ownersWithRightBinders 16 = .ok (.iload_n 2, 1) := by decide +kernel
theorem dX3_ownersWithRightBinders_17 : decode cX3_ownersWithRightBinders 17 = .ok (.aaload, 1) := by decide +kernel
theorem dX3_ownersWithRightBinders_18 : decode cX3_ownersWithRightBinders 18 = .ok (.aload_n 0, 1) := by decide +kernel
theorem dX3_ownersWithRightBinders_19 : decode cX3_ownersWithRightBinders 19 = .ok (.getfield 21, 3) := by decide +kernel
theorem dX3_ownersWithRightBinders_22 : decode cX3_ownersWithRightBinders 22 = .ok (.invokevirtual 79, 3) := by decide +kernel
theorem dX3_ownersWithRightBinders_25 : decode cX3_ownersWithRightBinders 25 = .ok (.ifCond .eq 9, 3) := by decide +kernel
theorem dX3_ownersWithRightBinders_28 : decode cX3_ownersWithRightBinders 28 = .ok (.iload_n 1, 1) := by decide +kernel
theorem dX3_ownersWithRightBinders_29 : decode cX3_ownersWithRightBinders 29 = .ok (.iconst 1, 1) := by decide +kernel
theorem dX3_ownersWithRightBinders_30 : decode cX3_ownersWithRightBinders 30 = .ok (.iload_n 2, 1) := by decide +kernel
theorem dX3_ownersWithRightBinders_31 : decode cX3_ownersWithRightBinders 31 = .ok (.ishl, 1) := by decide +kernel
theorem dX3_ownersWithRightBinders_32 : decode cX3_ownersWithRightBinders 32 = .ok (.ior, 1) := by decide +kernel
theorem dX3_ownersWithRightBinders_33 : decode cX3_ownersWithRightBinders 33 = .ok (.istore_n 1, 1) := by decide +kernel
theorem dX3_ownersWithRightBinders_34 : decode cX3_ownersWithRightBinders 34 = .ok (.iinc 2 1, 3) := by decide +kernel
theorem dX3_ownersWithRightBinders_37 : decode cX3_ownersWithRightBinders 37 = .ok (.goto (-33), 3) := by decide +kernel
theorem dX3_ownersWithRightBinders_40 : decode cX3_ownersWithRightBinders 40 = .ok (.iload_n 1, 1) := by decide +kernel
theorem dX3_ownersWithRightBinders_41 : decode cX3_ownersWithRightBinders 41 = .ok (.ireturn, 1) := by decide +kernel
set_option maxRecDepth 20000 in
theorem ggX3_parcelWithMostLeaves_X0_leavesOf : GoodIn wsX3_parcelWithMostLeaves wsX0_leavesOf := goodIn_r _ [7, 8, 9, 10, 11, 6, 12, 21, 22] (by decide +kernel) (by decide +kernel)
set_option maxRecDepth 20000 in
theorem gX3_parcelWithMostLeaves_X0_leavesOf : GoodIn wsX3_parcelWithMostLeaves (wsV RX3 83 RX0 yX0_leavesOf wsX0_leavesOf) := goodIn_app (goodIn_of _ (by decide +kernel)) ggX3_parcelWithMostLeaves_X0_leavesOf
theorem dX3_parcelWithMostLeaves_0 : decode cX3_parcelWithMostLeaves 0 = .ok (.bipush (-6), 2) := by decide +kernel
theorem dX3_parcelWithMostLeaves_2 : decode cX3_parcelWithMostLeaves 2 = .ok (.istore_n 1, 1) := by decide +kernel
theorem dX3_parcelWithMostLeaves_3 : decode cX3_parcelWithMostLeaves 3 = .ok (.iconst 0, 1) := by decide +kernel
theorem dX3_parcelWithMostLeaves_4 : decode cX3_parcelWithMostLeaves 4 = .ok (.istore_n 2, 1) := by decide +kernel
theorem dX3_parcelWithMostLeaves_5 : decode cX3_parcelWithMostLeaves 5 = .ok (.iconst 0, 1) := by decide +kernel
theorem dX3_parcelWithMostLeaves_6 : decode cX3_parcelWithMostLeaves 6 = .ok (.istore_n 3, 1) := by decide +kernel
theorem dX3_parcelWithMostLeaves_7 : decode cX3_parcelWithMostLeaves 7 = .ok (.iload_n 3, 1) := by decide +kernel
theorem dX3_parcelWithMostLeaves_8 : decode cX3_parcelWithMostLeaves 8 = .ok (.aload_n 0, 1) := by decide +kernel
theorem dX3_parcelWithMostLeaves_9 : decode cX3_parcelWithMostLeaves 9 = .ok (.getfield 41, 3) := by decide +kernel
theorem dX3_parcelWithMostLeaves_12 : decode cX3_parcelWithMostLeaves 12 = .ok (.if_icmp .ge 30, 3) := by decide +kernel
theorem dX3_parcelWithMostLeaves_15 : decode cX3_parcelWithMostLeaves 15 = .ok (.aload_n 0, 1) := by decide +kernel
theorem dX3_parcelWithMostLeaves_16 : decode cX3_parcelWithMostLeaves 16 = .ok (.getfield 21, 3) := by decide +kernel
theorem dX3_parcelWithMostLeaves_19 : decode cX3_parcelWithMostLeaves 19 = .ok (.iload_n 3, 1) := by decide +kernel
theorem dX3_parcelWithMostLeaves_20 : decode cX3_parcelWithMostLeaves 20 = .ok (.invokevirtual 83, 3) := by decide +kernel
theorem dX3_parcelWithMostLeaves_23 : decode cX3_parcelWithMostLeaves 23 = .ok (.istore 4, 2) := by decide +kernel
theorem dX3_parcelWithMostLeaves_25 : decode cX3_parcelWithMostLeaves 25 = .ok (.iload 4, 2) := by decide +kernel
theorem dX3_parcelWithMostLeaves_27 : decode cX3_parcelWithMostLeaves 27 = .ok (.iload_n 2, 1) := by decide +kernel
theorem dX3_parcelWithMostLeaves_28 : decode cX3_parcelWithMostLeaves 28 = .ok (.if_icmp .le 8, 3) := by decide +kernel
theorem dX3_parcelWithMostLeaves_31 : decode cX3_parcelWithMostLeaves 31 = .ok (.iload_n 3, 1) := by decide +kernel
theorem dX3_parcelWithMostLeaves_32 : decode cX3_parcelWithMostLeaves 32 = .ok (.istore_n 1, 1) := by decide +kernel
theorem dX3_parcelWithMostLeaves_33 : decode cX3_parcelWithMostLeaves 33 = .ok (.iload 4, 2) := by decide +kernel
theorem dX3_parcelWithMostLeaves_35 : decode cX3_parcelWithMostLeaves 35 = .ok (.istore_n 2, 1) := by decide +kernel
theorem dX3_parcelWithMostLeaves_36 : decode cX3_parcelWithMostLeaves 36 = .ok (.iinc 3 1, 3) := by decide +kernel
theorem dX3_parcelWithMostLeaves_39 : decode cX3_parcelWithMostLeaves 39 = .ok (.goto (-32), 3) := by decide +kernel
theorem dX3_parcelWithMostLeaves_42 : decode cX3_parcelWithMostLeaves 42 = .ok (.iload_n 1, 1) := by decide +kernel
theorem dX3_parcelWithMostLeaves_43 : decode cX3_parcelWithMostLeaves 43 = .ok (.ireturn, 1) := by decide +kernel
set_option maxRecDepth 20000 in
theorem ggX4_init_X3_init : GoodIn wsX4_init wsX3_init := goodIn_r _ [25, 26, 2, 3, 27, 28, 29, 30, 21, 22, 31, 32, 33, 34, 35, 36, 37, 38, 51, 52, 53, 54, 55, 56, 57, 58, 70, 71] (by decide +kernel) (by decide +kernel)
set_option maxRecDepth 20000 in
theorem gX4_init_X3_init : GoodIn wsX4_init (wsX3_init) := ggX4_init_X3_init
set_option maxRecDepth 20000 in
theorem ggX4_init_X1_init : GoodIn wsX4_init wsX1_init := goodIn_r _ [41, 42, 2, 3, 43, 44, 5, 6, 45, 24, 25, 26, 27, 28, 29, 30, 21, 22, 31, 32, 33, 34, 35, 36, 37, 38, 65, 66, 67, 51, 52, 53, 54, 55, 56, 57, 58, 70, 71] (by decide +kernel) (by decide +kernel)
set_option maxRecDepth 20000 in
theorem gX4_init_X1_init : GoodIn wsX4_init (wsX1_init) := ggX4_init_X1_init
set_option maxRecDepth 20000 in
theorem ggX4_init_X2_init : GoodIn wsX4_init wsX2_init := goodIn_r _ [47, 48, 2, 3, 49, 50, 68, 69] (by decide +kernel) (by decide +kernel)
set_option maxRecDepth 20000 in
theorem gX4_init_X2_init_n33 : GoodIn wsX4_init (wsX2_init) := ggX4_init_X2_init
set_option maxRecDepth 20000 in
theorem ggX4_init_X0_init : GoodIn wsX4_init wsX0_init := goodIn_r _ [36, 37, 2, 3, 27, 38, 70, 71] (by decide +kernel) (by decide +kernel)
set_option maxRecDepth 20000 in
theorem gX4_init_X0_init_n44 : GoodIn wsX4_init (wsX0_init) := ggX4_init_X0_init
theorem dX4_init_0 : decode cX4_init 0 = .ok (.aload_n 0, 1) := by decide +kernel
theorem dX4_init_1 : decode cX4_init 1 = .ok (.invokespecial 1, 3) := by decide +kernel
theorem dX4_init_4 : decode cX4_init 4 = .ok (.aload_n 0, 1) := by decide +kernel
theorem dX4_init_5 : decode cX4_init 5 = .ok (.new 7, 3) := by decide +kernel
theorem dX4_init_8 : decode cX4_init 8 = .ok (.dup, 1) := by decide +kernel
theorem dX4_init_9 : decode cX4_init 9 = .ok (.invokespecial 9, 3) := by decide +kernel
theorem dX4_init_12 : decode cX4_init 12 = .ok (.putfield 10, 3) := by decide +kernel
theorem dX4_init_15 : decode cX4_init 15 = .ok (.aload_n 0, 1) := by decide +kernel
theorem dX4_init_16 : decode cX4_init 16 = .ok (.new 16, 3) := by decide +kernel
theorem dX4_init_19 : decode cX4_init 19 = .ok (.dup, 1) := by decide +kernel
theorem dX4_init_20 : decode cX4_init 20 = .ok (.invokespecial 18, 3) := by decide +kernel
theorem dX4_init_23 : decode cX4_init 23 = .ok (.putfield 19, 3) := by decide +kernel
theorem dX4_init_26 : decode cX4_init 26 = .ok (.aload_n 0, 1) := by decide +kernel
theorem dX4_init_27 : decode cX4_init 27 = .ok (.iconst 2, 1) := by decide +kernel
theorem dX4_init_28 : decode cX4_init 28 = .ok (.anewarray 7, 3) := by decide +kernel
theorem dX4_init_31 : decode cX4_init 31 = .ok (.putfield 23, 3) := by decide +kernel
theorem dX4_init_34 : decode cX4_init 34 = .ok (.aload_n 0, 1) := by decide +kernel
theorem dX4_init_35 : decode cX4_init 35 = .ok (.iconst 2, 1) := by decide +kernel
theorem dX4_init_36 : decode cX4_init 36 = .ok (.newarray .boolean, 2) := by decide +kernel
theorem dX4_init_38 : decode cX4_init 38 = .ok (.putfield 27, 3) := by decide +kernel
theorem dX4_init_41 : decode cX4_init 41 = .ok (.aload_n 0, 1) := by decide +kernel
theorem dX4_init_42 : decode cX4_init 42 = .ok (.new 31, 3) := by decide +kernel
theorem dX4_init_45 : decode cX4_init 45 = .ok (.dup, 1) := by decide +kernel
theorem dX4_init_46 : decode cX4_init 46 = .ok (.invokespecial 33, 3) := by decide +kernel
theorem dX4_init_49 : decode cX4_init 49 = .ok (.putfield 34, 3) := by decide +kernel
theorem dX4_init_52 : decode cX4_init 52 = .ok (.aload_n 0, 1) := by decide +kernel
theorem dX4_init_53 : decode cX4_init 53 = .ok (.iconst 4, 1) := by decide +kernel
theorem dX4_init_54 : decode cX4_init 54 = .ok (.anewarray 38, 3) := by decide +kernel
theorem dX4_init_57 : decode cX4_init 57 = .ok (.putfield 40, 3) := by decide +kernel
theorem dX4_init_60 : decode cX4_init 60 = .ok (.iconst 0, 1) := by decide +kernel
theorem dX4_init_61 : decode cX4_init 61 = .ok (.istore_n 1, 1) := by decide +kernel
theorem dX4_init_62 : decode cX4_init 62 = .ok (.iload_n 1, 1) := by decide +kernel
theorem dX4_init_63 : decode cX4_init 63 = .ok (.aload_n 0, 1) := by decide +kernel
theorem dX4_init_64 : decode cX4_init 64 = .ok (.getfield 23, 3) := by decide +kernel
theorem dX4_init_67 : decode cX4_init 67 = .ok (.arraylength, 1) := by decide +kernel
theorem dX4_init_68 : decode cX4_init 68 = .ok (.if_icmp .ge 22, 3) := by decide +kernel
theorem dX4_init_71 : decode cX4_init 71 = .ok (.aload_n 0, 1) := by decide +kernel
theorem dX4_init_72 : decode cX4_init 72 = .ok (.getfield 23, 3) := by decide +kernel
theorem dX4_init_75 : decode cX4_init 75 = .ok (.iload_n 1, 1) := by decide +kernel
theorem dX4_init_76 : decode cX4_init 76 = .ok (.new 7, 3) := by decide +kernel
theorem dX4_init_79 : decode cX4_init 79 = .ok (.dup, 1) := by decide +kernel
theorem dX4_init_80 : decode cX4_init 80 = .ok (.invokespecial 9, 3) := by decide +kernel
theorem dX4_init_83 : decode cX4_init 83 = .ok (.aastore, 1) := by decide +kernel
theorem dX4_init_84 : decode cX4_init 84 = .ok (.iinc 1 1, 3) := by decide +kernel
theorem dX4_init_87 : decode cX4_init 87 = .ok (.goto (-25), 3) := by decide +kernel
theorem dX4_init_90 : decode cX4_init 90 = .ok (.iconst 0, 1) := by decide +kernel
theorem dX4_init_91 : decode cX4_init 91 = .ok (.istore_n 1, 1) := by decide +kernel
theorem dX4_init_92 : decode cX4_init 92 = .ok (.iload_n 1, 1) := by decide +kernel
theorem dX4_init_93 : decode cX4_init 93 = .ok (.aload_n 0, 1) := by decide +kernel
theorem dX4_init_94 : decode cX4_init 94 = .ok (.getfield 40, 3) := by decide +kernel
theorem dX4_init_97 : decode cX4_init 97 = .ok (.arraylength, 1) := by decide +kernel
theorem dX4_init_98 : decode cX4_init 98 = .ok (.if_icmp .ge 22, 3) := by decide +kernel
theorem dX4_init_101 : decode cX4_init 101 = .ok (.aload_n 0, 1) := by decide +kernel
theorem dX4_init_102 : decode cX4_init 102 = .ok (.getfield 40, 3) := by decide +kernel
theorem dX4_init_105 : decode cX4_init 105 = .ok (.iload_n 1, 1) := by decide +kernel
theorem dX4_init_106 : decode cX4_init 106 = .ok (.new 38, 3) := by decide +kernel
theorem dX4_init_109 : decode cX4_init 109 = .ok (.dup, 1) := by decide +kernel
theorem dX4_init_110 : decode cX4_init 110 = .ok (.invokespecial 44, 3) := by decide +kernel
theorem dX4_init_113 : decode cX4_init 113 = .ok (.aastore, 1) := by decide +kernel
theorem dX4_init_114 : decode cX4_init 114 = .ok (.iinc 1 1, 3) := by decide +kernel
theorem dX4_init_117 : decode cX4_init 117 = .ok (.goto (-25), 3) := by decide +kernel
theorem dX4_init_120 : decode cX4_init 120 = .ok (.return_, 1) := by decide +kernel
set_option maxRecDepth 20000 in
theorem ggX4_issue_X2_firstFault : GoodIn wsX4_issue wsX2_firstFault := goodIn_r _ [8, 9, 10, 11, 12, 7, 13, 121, 122] (by decide +kernel) (by decide +kernel)
set_option maxRecDepth 20000 in
theorem gX4_issue_X2_firstFault : GoodIn wsX4_issue (wsV RX4 45 RX2 yX2_firstFault wsX2_firstFault) := goodIn_app (goodIn_of _ (by decide +kernel)) ggX4_issue_X2_firstFault
set_option maxRecDepth 20000 in
theorem ggX4_issue_X2_hasNumberTwice : GoodIn wsX4_issue wsX2_hasNumberTwice := goodIn_r _ [17, 18, 19, 20, 7, 21, 9, 22, 23, 24, 25, 10, 121, 122] (by decide +kernel) (by decide +kernel)
set_option maxRecDepth 20000 in
theorem gX4_issue_X2_hasNumberTwice : GoodIn wsX4_issue (wsV RX4 49 RX2 yX2_hasNumberTwice wsX2_hasNumberTwice) := goodIn_app (goodIn_of _ (by decide +kernel)) ggX4_issue_X2_hasNumberTwice
set_option maxRecDepth 20000 in
theorem ggX4_issue_X1_record : GoodIn wsX4_issue wsX1_record := goodIn_r _ [30, 31, 32, 33, 34, 35, 36, 37, 38, 39, 40, 41, 42, 43, 44, 45, 46, 47, 48, 49, 50, 51, 52, 53, 54, 55, 56, 57, 58, 123, 124, 125, 113, 114, 115, 116, 117, 118, 119, 120, 126, 127] (by decide +kernel) (by decide +kernel)
set_option maxRecDepth 20000 in
theorem gX4_issue_X1_record : GoodIn wsX4_issue (wsV RX4 57 RX1 yX1_record wsX1_record) := goodIn_app (goodIn_of _ (by decide +kernel)) ggX4_issue_X1_record
set_option maxRecDepth 20000 in
theorem ggX4_issue_X3_addParcel : GoodIn wsX4_issue wsX3_addParcel := goodIn_r _ [62, 45, 44, 39, 46, 50, 48, 63, 19, 20, 7, 21, 9, 64, 23, 24, 25, 10, 65, 66, 67, 37, 68, 69, 70, 71, 72, 73, 74, 75, 54, 76, 77, 78, 79, 80, 81, 82, 83, 84, 85, 86, 87, 57, 56, 88, 89, 90, 91, 92, 93, 94, 95, 96, 97, 98, 58, 41, 42, 43, 99, 100, 101, 102, 113, 114, 115, 116, 117, 118, 119, 120, 121, 122, 126, 127] (by decide +kernel) (by decide +kernel)
set_option maxRecDepth 20000 in
theorem gX4_issue_X3_addParcel : GoodIn wsX4_issue (wsV RX4 61 RX3 yX3_addParcel wsX3_addParcel) := goodIn_app (goodIn_of _ (by decide +kernel)) ggX4_issue_X3_addParcel
set_option maxRecDepth 20000 in
theorem ggX4_issue_X2_empty : GoodIn wsX4_issue wsX2_empty := goodIn_r _ [106, 9, 121, 122] (by decide +kernel) (by decide +kernel)
set_option maxRecDepth 20000 in
theorem gX4_issue_X2_empty : GoodIn wsX4_issue (wsV RX4 65 RX2 yX2_empty wsX2_empty) := goodIn_app (goodIn_of _ (by decide +kernel)) ggX4_issue_X2_empty
theorem dX4_issue_0 : decode cX4_issue 0 = .ok (.aload_n 0, 1) := by decide +kernel
theorem dX4_issue_1 : decode cX4_issue 1 = .ok (.getfield 34, 3) := by decide +kernel
theorem dX4_issue_4 : decode cX4_issue 4 = .ok (.invokevirtual 45, 3) := by decide +kernel
theorem dX4_issue_7 : decode cX4_issue 7 = .ok (.bipush (-6), 2) := by decide +kernel
theorem dX4_issue_9 : decode cX4_issue 9 = .ok (.if_icmp .eq 6, 3) := by decide +kernel
theorem dX4_issue_12 : decode cX4_issue 12 = .ok (.bipush (-3), 2) := by decide +kernel
theorem dX4_issue_14 : decode cX4_issue 14 = .ok (.ireturn, 1) := by decide +kernel
theorem dX4_issue_15 : decode cX4_issue 15 = .ok (.aload_n 0, 1) := by decide +kernel
theorem dX4_issue_16 : decode cX4_issue 16 = .ok (.getfield 34, 3) := by decide +kernel
theorem dX4_issue_19 : decode cX4_issue 19 = .ok (.invokevirtual 49, 3) := by decide +kernel
theorem dX4_issue_22 : decode cX4_issue 22 = .ok (.ifCond .eq 6, 3) := by decide +kernel
theorem dX4_issue_25 : decode cX4_issue 25 = .ok (.bipush (-2), 2) := by decide +kernel
theorem dX4_issue_27 : decode cX4_issue 27 = .ok (.ireturn, 1) := by decide +kernel
theorem dX4_issue_28 : decode cX4_issue 28 = .ok (.aload_n 0, 1) := by decide +kernel
theorem dX4_issue_29 : decode cX4_issue 29 = .ok (.getfield 10, 3) := by decide +kernel
theorem dX4_issue_32 : decode cX4_issue 32 = .ok (.getfield 53, 3) := by decide +kernel
theorem dX4_issue_35 : decode cX4_issue 35 = .ok (.bipush 16, 2) := by decide +kernel
theorem dX4_issue_37 : decode cX4_issue 37 = .ok (.if_icmp .lt 6, 3) := by decide +kernel
theorem dX4_issue_40 : decode cX4_issue 40 = .ok (.bipush (-4), 2) := by decide +kernel
theorem dX4_issue_42 : decode cX4_issue 42 = .ok (.ireturn, 1) := by decide +kernel
theorem dX4_issue_43 : decode cX4_issue 43 = .ok (.aload_n 0, 1) := by decide +kernel
theorem dX4_issue_44 : decode cX4_issue 44 = .ok (.getfield 19, 3) := by decide +kernel
theorem dX4_issue_47 : decode cX4_issue 47 = .ok (.aload_n 0, 1) := by decide +kernel
theorem dX4_issue_48 : decode cX4_issue 48 = .ok (.getfield 10, 3) := by decide +kernel
theorem dX4_issue_51 : decode cX4_issue 51 = .ok (.invokevirtual 57, 3) := by decide +kernel
theorem dX4_issue_54 : decode cX4_issue 54 = .ok (.aload_n 0, 1) := by decide +kernel
theorem dX4_issue_55 : decode cX4_issue 55 = .ok (.getfield 10, 3) := by decide +kernel
theorem dX4_issue_58 : decode cX4_issue 58 = .ok (.aload_n 0, 1) := by decide +kernel
theorem dX4_issue_59 : decode cX4_issue 59 = .ok (.getfield 34, 3) := by decide +kernel
theorem dX4_issue_62 : decode cX4_issue 62 = .ok (.invokevirtual 61, 3) := by decide +kernel
theorem dX4_issue_65 : decode cX4_issue 65 = .ok (.istore_n 1, 1) := by decide +kernel
theorem dX4_issue_66 : decode cX4_issue 66 = .ok (.aload_n 0, 1) := by decide +kernel
theorem dX4_issue_67 : decode cX4_issue 67 = .ok (.getfield 34, 3) := by decide +kernel
theorem dX4_issue_70 : decode cX4_issue 70 = .ok (.invokevirtual 65, 3) := by decide +kernel
theorem dX4_issue_73 : decode cX4_issue 73 = .ok (.iload_n 1, 1) := by decide +kernel
theorem dX4_issue_74 : decode cX4_issue 74 = .ok (.ireturn, 1) := by decide +kernel
set_option maxRecDepth 20000 in
theorem ggX4_own_X1_record : GoodIn wsX4_own wsX1_record := goodIn_r _ [7, 8, 9, 10, 11, 12, 13, 14, 15, 16, 17, 18, 19, 20, 21, 22, 23, 24, 25, 26, 27, 28, 29, 30, 31, 32, 33, 34, 35, 54, 55, 56, 46, 47, 48, 49, 50, 51, 52, 53, 57, 58] (by decide +kernel) (by decide +kernel)
set_option maxRecDepth 20000 in
theorem gX4_own_X1_record : GoodIn wsX4_own (wsV RX4 57 RX1 yX1_record wsX1_record) := goodIn_app (goodIn_of _ (by decide +kernel)) ggX4_own_X1_record
set_option maxRecDepth 20000 in
theorem ggX4_own_X3_addOwner : GoodIn wsX4_own wsX3_addOwner := goodIn_r _ [39, 27, 24, 23, 25, 26, 28, 29, 30, 31, 32, 33, 34, 35, 18, 19, 20, 46, 47, 48, 49, 50, 51, 52, 53, 57, 58] (by decide +kernel) (by decide +kernel)
set_option maxRecDepth 20000 in
theorem gX4_own_X3_addOwner : GoodIn wsX4_own (wsV RX4 71 RX3 yX3_addOwner wsX3_addOwner) := goodIn_app (goodIn_of _ (by decide +kernel)) ggX4_own_X3_addOwner
theorem dX4_own_0 : decode cX4_own 0 = .ok (.aload_n 0, 1) := by decide +kernel
theorem dX4_own_1 : decode cX4_own 1 = .ok (.getfield 10, 3) := by decide +kernel
theorem dX4_own_4 : decode cX4_own 4 = .ok (.getfield 68, 3) := by decide +kernel
theorem dX4_own_7 : decode cX4_own 7 = .ok (.bipush 8, 2) := by decide +kernel
theorem dX4_own_9 : decode cX4_own 9 = .ok (.if_icmp .lt 6, 3) := by decide +kernel
theorem dX4_own_12 : decode cX4_own 12 = .ok (.bipush (-4), 2) := by decide +kernel
theorem dX4_own_14 : decode cX4_own 14 = .ok (.ireturn, 1) := by decide +kernel
theorem dX4_own_15 : decode cX4_own 15 = .ok (.aload_n 0, 1) := by decide +kernel
theorem dX4_own_16 : decode cX4_own 16 = .ok (.getfield 19, 3) := by decide +kernel
theorem dX4_own_19 : decode cX4_own 19 = .ok (.aload_n 0, 1) := by decide +kernel
theorem dX4_own_20 : decode cX4_own 20 = .ok (.getfield 10, 3) := by decide +kernel
theorem dX4_own_23 : decode cX4_own 23 = .ok (.invokevirtual 57, 3) := by decide +kernel
theorem dX4_own_26 : decode cX4_own 26 = .ok (.aload_n 0, 1) := by decide +kernel
theorem dX4_own_27 : decode cX4_own 27 = .ok (.getfield 10, 3) := by decide +kernel
end
section
theorem dX4_own_30 : decode cX4_own 30 = .ok (.invokevirtual 71, 3) := by decide +kernel
theorem dX4_own_33 : decode cX4_own 33 = .ok (.ireturn, 1) := by decide +kernel
set_option maxRecDepth 20000 in
theorem ggX4_done_X3_hasOwner : GoodIn wsX4_done wsX3_hasOwner := goodIn_r _ [7, 8, 104, 105, 106, 107, 108, 109, 110, 111] (by decide +kernel) (by decide +kernel)
set_option maxRecDepth 20000 in
theorem gX4_done_X3_hasOwner : GoodIn wsX4_done (wsV RX4 74 RX3 yX3_hasOwner wsX3_hasOwner) := goodIn_app (goodIn_of _ (by decide +kernel)) ggX4_done_X3_hasOwner
set_option maxRecDepth 20000 in
theorem ggX4_done_X3_hasParcel : GoodIn wsX4_done wsX3_hasParcel := goodIn_r _ [12, 13, 104, 105, 106, 107, 108, 109, 110, 111] (by decide +kernel) (by decide +kernel)
set_option maxRecDepth 20000 in
theorem gX4_done_X3_hasParcel : GoodIn wsX4_done (wsV RX4 78 RX3 yX3_hasParcel wsX3_hasParcel) := goodIn_app (goodIn_of _ (by decide +kernel)) ggX4_done_X3_hasParcel
set_option maxRecDepth 20000 in
theorem ggX4_done_X3_isWaiting : GoodIn wsX4_done wsX3_isWaiting := goodIn_r _ [17, 18, 104, 105, 106, 107, 108, 109, 110, 111] (by decide +kernel) (by decide +kernel)
set_option maxRecDepth 20000 in
theorem gX4_done_X3_isWaiting : GoodIn wsX4_done (wsV RX4 81 RX3 yX3_isWaiting wsX3_isWaiting) := goodIn_app (goodIn_of _ (by decide +kernel)) ggX4_done_X3_isWaiting
set_option maxRecDepth 20000 in
theorem ggX4_done_X1_record : GoodIn wsX4_done wsX1_record := goodIn_r _ [23, 24, 25, 26, 27, 28, 29, 6, 30, 31, 32, 33, 34, 35, 36, 13, 37, 38, 18, 39, 8, 40, 41, 42, 43, 44, 45, 46, 47, 114, 115, 116, 104, 105, 106, 107, 108, 109, 110, 111, 112, 113] (by decide +kernel) (by decide +kernel)
set_option maxRecDepth 20000 in
theorem gX4_done_X1_record : GoodIn wsX4_done (wsV RX4 57 RX1 yX1_record wsX1_record) := goodIn_app (goodIn_of _ (by decide +kernel)) ggX4_done_X1_record
set_option maxRecDepth 20000 in
theorem ggX4_done_X3_doWithCare : GoodIn wsX4_done wsX3_doWithCare := goodIn_r _ [51, 36, 52, 53, 54, 6, 55, 31, 56, 57, 58, 43, 59, 60, 61, 62, 63, 64, 65, 66, 67, 68, 69, 70, 46, 45, 71, 72, 73, 74, 75, 76, 77, 78, 79, 80, 81, 47, 33, 34, 35, 82, 83, 84, 85, 104, 105, 106, 107, 108, 109, 110, 111, 112, 113] (by decide +kernel) (by decide +kernel)
set_option maxRecDepth 20000 in
theorem gX4_done_X3_doWithCare : GoodIn wsX4_done (wsV RX4 92 RX3 yX3_doWithCare wsX3_doWithCare) := goodIn_app (goodIn_of _ (by decide +kernel)) ggX4_done_X3_doWithCare
set_option maxRecDepth 20000 in
theorem ggX4_done_X3_doCarelessly : GoodIn wsX4_done wsX3_doCarelessly := goodIn_r _ [89, 36, 52, 53, 54, 6, 55, 31, 82, 83, 84, 43, 85, 46, 45, 47, 33, 34, 35, 64, 65, 66, 67, 68, 69, 70, 90, 91, 92, 93, 94, 95, 96, 97, 60, 61, 62, 63, 71, 72, 73, 74, 75, 76, 77, 78, 79, 80, 81, 104, 105, 106, 107, 108, 109, 110, 111, 112, 113] (by decide +kernel) (by decide +kernel)
set_option maxRecDepth 20000 in
theorem gX4_done_X3_doCarelessly : GoodIn wsX4_done (wsV RX4 96 RX3 yX3_doCarelessly wsX3_doCarelessly) := goodIn_app (goodIn_of _ (by decide +kernel)) ggX4_done_X3_doCarelessly
theorem dX4_done_0 : decode cX4_done 0 = .ok (.aload_n 0, 1) := by decide +kernel
theorem dX4_done_1 : decode cX4_done 1 = .ok (.getfield 10, 3) := by decide +kernel
theorem dX4_done_4 : decode cX4_done 4 = .ok (.iload_n 1, 1) := by decide +kernel
theorem dX4_done_5 : decode cX4_done 5 = .ok (.invokevirtual 74, 3) := by decide +kernel
theorem dX4_done_8 : decode cX4_done 8 = .ok (.ifCond .eq 14, 3) := by decide +kernel
theorem dX4_done_11 : decode cX4_done 11 = .ok (.aload_n 0, 1) := by decide +kernel
theorem dX4_done_12 : decode cX4_done 12 = .ok (.getfield 10, 3) := by decide +kernel
theorem dX4_done_15 : decode cX4_done 15 = .ok (.iload_n 2, 1) := by decide +kernel
theorem dX4_done_16 : decode cX4_done 16 = .ok (.invokevirtual 78, 3) := by decide +kernel
theorem dX4_done_19 : decode cX4_done 19 = .ok (.ifCond .ne 5, 3) := by decide +kernel
theorem dX4_done_22 : decode cX4_done 22 = .ok (.iconst (-1), 1) := by decide +kernel
theorem dX4_done_23 : decode cX4_done 23 = .ok (.ireturn, 1) := by decide +kernel
theorem dX4_done_24 : decode cX4_done 24 = .ok (.aload_n 0, 1) := by decide +kernel
theorem dX4_done_25 : decode cX4_done 25 = .ok (.getfield 10, 3) := by decide +kernel
theorem dX4_done_28 : decode cX4_done 28 = .ok (.iload_n 1, 1) := by decide +kernel
theorem dX4_done_29 : decode cX4_done 29 = .ok (.iload_n 2, 1) := by decide +kernel
theorem dX4_done_30 : decode cX4_done 30 = .ok (.invokevirtual 81, 3) := by decide +kernel
theorem dX4_done_33 : decode cX4_done 33 = .ok (.ifCond .ne 6, 3) := by decide +kernel
theorem dX4_done_36 : decode cX4_done 36 = .ok (.bipush (-5), 2) := by decide +kernel
theorem dX4_done_38 : decode cX4_done 38 = .ok (.ireturn, 1) := by decide +kernel
theorem dX4_done_39 : decode cX4_done 39 = .ok (.aload_n 0, 1) := by decide +kernel
theorem dX4_done_40 : decode cX4_done 40 = .ok (.getfield 19, 3) := by decide +kernel
theorem dX4_done_43 : decode cX4_done 43 = .ok (.aload_n 0, 1) := by decide +kernel
theorem dX4_done_44 : decode cX4_done 44 = .ok (.getfield 10, 3) := by decide +kernel
theorem dX4_done_47 : decode cX4_done 47 = .ok (.invokevirtual 57, 3) := by decide +kernel
theorem dX4_done_50 : decode cX4_done 50 = .ok (.aload_n 0, 1) := by decide +kernel
theorem dX4_done_51 : decode cX4_done 51 = .ok (.getfield 10, 3) := by decide +kernel
theorem dX4_done_54 : decode cX4_done 54 = .ok (.getfield 85, 3) := by decide +kernel
theorem dX4_done_57 : decode cX4_done 57 = .ok (.iload_n 1, 1) := by decide +kernel
theorem dX4_done_58 : decode cX4_done 58 = .ok (.dup2, 1) := by decide +kernel
theorem dX4_done_59 : decode cX4_done 59 = .ok (.iaload, 1) := by decide +kernel
theorem dX4_done_60 : decode cX4_done 60 = .ok (.iconst 1, 1) := by decide +kernel
theorem dX4_done_61 : decode cX4_done 61 = .ok (.iload_n 2, 1) := by decide +kernel
theorem dX4_done_62 : decode cX4_done 62 = .ok (.ishl, 1) := by decide +kernel
theorem dX4_done_63 : decode cX4_done 63 = .ok (.iconst (-1), 1) := by decide +kernel
theorem dX4_done_64 : decode cX4_done 64 = .ok (.ixor, 1) := by decide +kernel
theorem dX4_done_65 : decode cX4_done 65 = .ok (.iand, 1) := by decide +kernel
theorem dX4_done_66 : decode cX4_done 66 = .ok (.iastore, 1) := by decide +kernel
theorem dX4_done_67 : decode cX4_done 67 = .ok (.aload_n 0, 1) := by decide +kernel
theorem dX4_done_68 : decode cX4_done 68 = .ok (.getfield 10, 3) := by decide +kernel
theorem dX4_done_71 : decode cX4_done 71 = .ok (.getfield 89, 3) := by decide +kernel
theorem dX4_done_74 : decode cX4_done 74 = .ok (.iload_n 1, 1) := by decide +kernel
theorem dX4_done_75 : decode cX4_done 75 = .ok (.aaload, 1) := by decide +kernel
theorem dX4_done_76 : decode cX4_done 76 = .ok (.astore 4, 2) := by decide +kernel
theorem dX4_done_78 : decode cX4_done 78 = .ok (.iload_n 3, 1) := by decide +kernel
theorem dX4_done_79 : decode cX4_done 79 = .ok (.ifCond .eq 16, 3) := by decide +kernel
theorem dX4_done_82 : decode cX4_done 82 = .ok (.aload_n 0, 1) := by decide +kernel
theorem dX4_done_83 : decode cX4_done 83 = .ok (.getfield 10, 3) := by decide +kernel
theorem dX4_done_86 : decode cX4_done 86 = .ok (.aload 4, 2) := by decide +kernel
theorem dX4_done_88 : decode cX4_done 88 = .ok (.iload_n 2, 1) := by decide +kernel
theorem dX4_done_89 : decode cX4_done 89 = .ok (.invokevirtual 92, 3) := by decide +kernel
theorem dX4_done_92 : decode cX4_done 92 = .ok (.goto 13, 3) := by decide +kernel
theorem dX4_done_95 : decode cX4_done 95 = .ok (.aload_n 0, 1) := by decide +kernel
theorem dX4_done_96 : decode cX4_done 96 = .ok (.getfield 10, 3) := by decide +kernel
theorem dX4_done_99 : decode cX4_done 99 = .ok (.aload 4, 2) := by decide +kernel
theorem dX4_done_101 : decode cX4_done 101 = .ok (.iload_n 2, 1) := by decide +kernel
theorem dX4_done_102 : decode cX4_done 102 = .ok (.invokevirtual 96, 3) := by decide +kernel
theorem dX4_done_105 : decode cX4_done 105 = .ok (.aload 4, 2) := by decide +kernel
theorem dX4_done_107 : decode cX4_done 107 = .ok (.getfield 99, 3) := by decide +kernel
theorem dX4_done_110 : decode cX4_done 110 = .ok (.ireturn, 1) := by decide +kernel
set_option maxRecDepth 20000 in
theorem ggX4_doAll_X3_hasOwner : GoodIn wsX4_doAll wsX3_hasOwner := goodIn_r _ [7, 8, 95, 96, 97, 98, 99, 100, 101, 102] (by decide +kernel) (by decide +kernel)
set_option maxRecDepth 20000 in
theorem gX4_doAll_X3_hasOwner : GoodIn wsX4_doAll (wsV RX4 74 RX3 yX3_hasOwner wsX3_hasOwner) := goodIn_app (goodIn_of _ (by decide +kernel)) ggX4_doAll_X3_hasOwner
set_option maxRecDepth 20000 in
theorem ggX4_doAll_X1_record : GoodIn wsX4_doAll wsX1_record := goodIn_r _ [13, 14, 15, 16, 17, 18, 19, 6, 20, 21, 22, 23, 24, 25, 26, 27, 28, 29, 30, 31, 8, 32, 33, 34, 35, 36, 37, 38, 39, 103, 104, 105, 95, 96, 97, 98, 99, 100, 101, 102, 106, 107] (by decide +kernel) (by decide +kernel)
set_option maxRecDepth 20000 in
theorem gX4_doAll_X1_record : GoodIn wsX4_doAll (wsV RX4 57 RX1 yX1_record wsX1_record) := goodIn_app (goodIn_of _ (by decide +kernel)) ggX4_doAll_X1_record
set_option maxRecDepth 20000 in
theorem ggX4_doAll_X3_doSetWithCare : GoodIn wsX4_doAll wsX3_doSetWithCare := goodIn_r _ [43, 27, 44, 45, 46, 6, 47, 26, 48, 49, 50, 51, 21, 52, 53, 54, 35, 55, 56, 57, 58, 59, 60, 61, 62, 63, 64, 65, 66, 38, 37, 67, 68, 69, 70, 71, 72, 73, 74, 75, 76, 77, 39, 23, 24, 25, 78, 79, 80, 81, 95, 96, 97, 98, 99, 100, 101, 102, 106, 107] (by decide +kernel) (by decide +kernel)
set_option maxRecDepth 20000 in
theorem gX4_doAll_X3_doSetWithCare : GoodIn wsX4_doAll (wsV RX4 102 RX3 yX3_doSetWithCare wsX3_doSetWithCare) := goodIn_app (goodIn_of _ (by decide +kernel)) ggX4_doAll_X3_doSetWithCare
set_option maxRecDepth 20000 in
theorem ggX4_doAll_J6_bitCount_0f7a4 : GoodIn wsX4_doAll wsJ6_bitCount_0f7a4 := goodIn_r _ [85, 86, 87, 88] (by decide +kernel) (by decide +kernel)
set_option maxRecDepth 20000 in
theorem gX4_doAll_J6_bitCount_0f7a4 : GoodIn wsX4_doAll (va_wsS RX4 105 yJ6_bitCount_0f7a4 wsJ6_bitCount_0f7a4) := goodIn_app (goodIn_of _ (by decide +kernel)) ggX4_doAll_J6_bitCount_0f7a4
theorem dX4_doAll_0 : decode cX4_doAll 0 = .ok (.aload_n 0, 1) := by decide +kernel
theorem dX4_doAll_1 : decode cX4_doAll 1 = .ok (.getfield 10, 3) := by decide +kernel
theorem dX4_doAll_4 : decode cX4_doAll 4 = .ok (.iload_n 1, 1) := by decide +kernel
theorem dX4_doAll_5 : decode cX4_doAll 5 = .ok (.invokevirtual 74, 3) := by decide +kernel
theorem dX4_doAll_8 : decode cX4_doAll 8 = .ok (.ifCond .ne 5, 3) := by decide +kernel
theorem dX4_doAll_11 : decode cX4_doAll 11 = .ok (.iconst (-1), 1) := by decide +kernel
theorem dX4_doAll_12 : decode cX4_doAll 12 = .ok (.ireturn, 1) := by decide +kernel
theorem dX4_doAll_13 : decode cX4_doAll 13 = .ok (.aload_n 0, 1) := by decide +kernel
theorem dX4_doAll_14 : decode cX4_doAll 14 = .ok (.getfield 19, 3) := by decide +kernel
theorem dX4_doAll_17 : decode cX4_doAll 17 = .ok (.aload_n 0, 1) := by decide +kernel
theorem dX4_doAll_18 : decode cX4_doAll 18 = .ok (.getfield 10, 3) := by decide +kernel
theorem dX4_doAll_21 : decode cX4_doAll 21 = .ok (.invokevirtual 57, 3) := by decide +kernel
theorem dX4_doAll_24 : decode cX4_doAll 24 = .ok (.aload_n 0, 1) := by decide +kernel
theorem dX4_doAll_25 : decode cX4_doAll 25 = .ok (.getfield 10, 3) := by decide +kernel
theorem dX4_doAll_28 : decode cX4_doAll 28 = .ok (.getfield 85, 3) := by decide +kernel
theorem dX4_doAll_31 : decode cX4_doAll 31 = .ok (.iload_n 1, 1) := by decide +kernel
theorem dX4_doAll_32 : decode cX4_doAll 32 = .ok (.iaload, 1) := by decide +kernel
theorem dX4_doAll_33 : decode cX4_doAll 33 = .ok (.istore_n 2, 1) := by decide +kernel
theorem dX4_doAll_34 : decode cX4_doAll 34 = .ok (.aload_n 0, 1) := by decide +kernel
theorem dX4_doAll_35 : decode cX4_doAll 35 = .ok (.getfield 10, 3) := by decide +kernel
theorem dX4_doAll_38 : decode cX4_doAll 38 = .ok (.getfield 85, 3) := by decide +kernel
theorem dX4_doAll_41 : decode cX4_doAll 41 = .ok (.iload_n 1, 1) := by decide +kernel
theorem dX4_doAll_42 : decode cX4_doAll 42 = .ok (.iconst 0, 1) := by decide +kernel
theorem dX4_doAll_43 : decode cX4_doAll 43 = .ok (.iastore, 1) := by decide +kernel
theorem dX4_doAll_44 : decode cX4_doAll 44 = .ok (.aload_n 0, 1) := by decide +kernel
theorem dX4_doAll_45 : decode cX4_doAll 45 = .ok (.getfield 10, 3) := by decide +kernel
theorem dX4_doAll_48 : decode cX4_doAll 48 = .ok (.aload_n 0, 1) := by decide +kernel
theorem dX4_doAll_49 : decode cX4_doAll 49 = .ok (.getfield 10, 3) := by decide +kernel
theorem dX4_doAll_52 : decode cX4_doAll 52 = .ok (.getfield 89, 3) := by decide +kernel
theorem dX4_doAll_55 : decode cX4_doAll 55 = .ok (.iload_n 1, 1) := by decide +kernel
theorem dX4_doAll_56 : decode cX4_doAll 56 = .ok (.aaload, 1) := by decide +kernel
theorem dX4_doAll_57 : decode cX4_doAll 57 = .ok (.iload_n 2, 1) := by decide +kernel
theorem dX4_doAll_58 : decode cX4_doAll 58 = .ok (.invokevirtual 102, 3) := by decide +kernel
theorem dX4_doAll_61 : decode cX4_doAll 61 = .ok (.iload_n 2, 1) := by decide +kernel
theorem dX4_doAll_62 : decode cX4_doAll 62 = .ok (.invokestatic 105, 3) := by decide +kernel
theorem dX4_doAll_65 : decode cX4_doAll 65 = .ok (.ireturn, 1) := by decide +kernel
set_option maxRecDepth 20000 in
theorem ggX4_lose_X3_hasOwner : GoodIn wsX4_lose wsX3_hasOwner := goodIn_r _ [7, 8, 61, 62, 63, 64, 65, 66, 67, 68] (by decide +kernel) (by decide +kernel)
set_option maxRecDepth 20000 in
theorem gX4_lose_X3_hasOwner : GoodIn wsX4_lose (wsV RX4 74 RX3 yX3_hasOwner wsX3_hasOwner) := goodIn_app (goodIn_of _ (by decide +kernel)) ggX4_lose_X3_hasOwner
set_option maxRecDepth 20000 in
theorem ggX4_lose_X3_hasParcel : GoodIn wsX4_lose wsX3_hasParcel := goodIn_r _ [12, 13, 61, 62, 63, 64, 65, 66, 67, 68] (by decide +kernel) (by decide +kernel)
set_option maxRecDepth 20000 in
theorem gX4_lose_X3_hasParcel : GoodIn wsX4_lose (wsV RX4 78 RX3 yX3_hasParcel wsX3_hasParcel) := goodIn_app (goodIn_of _ (by decide +kernel)) ggX4_lose_X3_hasParcel
set_option maxRecDepth 20000 in
theorem ggX4_lose_X3_isWaiting : GoodIn wsX4_lose wsX3_isWaiting := goodIn_r _ [17, 18, 61, 62, 63, 64, 65, 66, 67, 68] (by decide +kernel) (by decide +kernel)
set_option maxRecDepth 20000 in
theorem gX4_lose_X3_isWaiting : GoodIn wsX4_lose (wsV RX4 81 RX3 yX3_isWaiting wsX3_isWaiting) := goodIn_app (goodIn_of _ (by decide +kernel)) ggX4_lose_X3_isWaiting
set_option maxRecDepth 20000 in
theorem ggX4_lose_X1_record : GoodIn wsX4_lose wsX1_record := goodIn_r _ [23, 24, 25, 26, 27, 28, 29, 6, 30, 31, 32, 33, 34, 35, 36, 13, 37, 38, 18, 39, 8, 40, 41, 42, 43, 44, 45, 46, 47, 69, 70, 71, 61, 62, 63, 64, 65, 66, 67, 68, 72, 73] (by decide +kernel) (by decide +kernel)
set_option maxRecDepth 20000 in
theorem gX4_lose_X1_record : GoodIn wsX4_lose (wsV RX4 57 RX1 yX1_record wsX1_record) := goodIn_app (goodIn_of _ (by decide +kernel)) ggX4_lose_X1_record
set_option maxRecDepth 20000 in
theorem ggX4_lose_J6_bitCount_0f7a4 : GoodIn wsX4_lose wsJ6_bitCount_0f7a4 := goodIn_r _ [51, 52, 53, 54] (by decide +kernel) (by decide +kernel)
set_option maxRecDepth 20000 in
theorem gX4_lose_J6_bitCount_0f7a4 : GoodIn wsX4_lose (va_wsS RX4 105 yJ6_bitCount_0f7a4 wsJ6_bitCount_0f7a4) := goodIn_app (goodIn_of _ (by decide +kernel)) ggX4_lose_J6_bitCount_0f7a4
theorem dX4_lose_0 : decode cX4_lose 0 = .ok (.aload_n 0, 1) := by decide +kernel
theorem dX4_lose_1 : decode cX4_lose 1 = .ok (.getfield 10, 3) := by decide +kernel
theorem dX4_lose_4 : decode cX4_lose 4 = .ok (.iload_n 1, 1) := by decide +kernel
theorem dX4_lose_5 : decode cX4_lose 5 = .ok (.invokevirtual 74, 3) := by decide +kernel
theorem dX4_lose_8 : decode cX4_lose 8 = .ok (.ifCond .eq 14, 3) := by decide +kernel
theorem dX4_lose_11 : decode cX4_lose 11 = .ok (.aload_n 0, 1) := by decide +kernel
theorem dX4_lose_12 : decode cX4_lose 12 = .ok (.getfield 10, 3) := by decide +kernel
theorem dX4_lose_15 : decode cX4_lose 15 = .ok (.iload_n 2, 1) := by decide +kernel
theorem dX4_lose_16 : decode cX4_lose 16 = .ok (.invokevirtual 78, 3) := by decide +kernel
theorem dX4_lose_19 : decode cX4_lose 19 = .ok (.ifCond .ne 5, 3) := by decide +kernel
theorem dX4_lose_22 : decode cX4_lose 22 = .ok (.iconst (-1), 1) := by decide +kernel
theorem dX4_lose_23 : decode cX4_lose 23 = .ok (.ireturn, 1) := by decide +kernel
theorem dX4_lose_24 : decode cX4_lose 24 = .ok (.aload_n 0, 1) := by decide +kernel
theorem dX4_lose_25 : decode cX4_lose 25 = .ok (.getfield 10, 3) := by decide +kernel
theorem dX4_lose_28 : decode cX4_lose 28 = .ok (.iload_n 1, 1) := by decide +kernel
theorem dX4_lose_29 : decode cX4_lose 29 = .ok (.iload_n 2, 1) := by decide +kernel
theorem dX4_lose_30 : decode cX4_lose 30 = .ok (.invokevirtual 81, 3) := by decide +kernel
theorem dX4_lose_33 : decode cX4_lose 33 = .ok (.ifCond .ne 6, 3) := by decide +kernel
theorem dX4_lose_36 : decode cX4_lose 36 = .ok (.bipush (-5), 2) := by decide +kernel
theorem dX4_lose_38 : decode cX4_lose 38 = .ok (.ireturn, 1) := by decide +kernel
theorem dX4_lose_39 : decode cX4_lose 39 = .ok (.aload_n 0, 1) := by decide +kernel
theorem dX4_lose_40 : decode cX4_lose 40 = .ok (.getfield 19, 3) := by decide +kernel
theorem dX4_lose_43 : decode cX4_lose 43 = .ok (.aload_n 0, 1) := by decide +kernel
theorem dX4_lose_44 : decode cX4_lose 44 = .ok (.getfield 10, 3) := by decide +kernel
theorem dX4_lose_47 : decode cX4_lose 47 = .ok (.invokevirtual 57, 3) := by decide +kernel
theorem dX4_lose_50 : decode cX4_lose 50 = .ok (.aload_n 0, 1) := by decide +kernel
theorem dX4_lose_51 : decode cX4_lose 51 = .ok (.getfield 10, 3) := by decide +kernel
theorem dX4_lose_54 : decode cX4_lose 54 = .ok (.getfield 85, 3) := by decide +kernel
theorem dX4_lose_57 : decode cX4_lose 57 = .ok (.iload_n 1, 1) := by decide +kernel
theorem dX4_lose_58 : decode cX4_lose 58 = .ok (.dup2, 1) := by decide +kernel
theorem dX4_lose_59 : decode cX4_lose 59 = .ok (.iaload, 1) := by decide +kernel
theorem dX4_lose_60 : decode cX4_lose 60 = .ok (.iconst 1, 1) := by decide +kernel
theorem dX4_lose_61 : decode cX4_lose 61 = .ok (.iload_n 2, 1) := by decide +kernel
theorem dX4_lose_62 : decode cX4_lose 62 = .ok (.ishl, 1) := by decide +kernel
theorem dX4_lose_63 : decode cX4_lose 63 = .ok (.iconst (-1), 1) := by decide +kernel
theorem dX4_lose_64 : decode cX4_lose 64 = .ok (.ixor, 1) := by decide +kernel
theorem dX4_lose_65 : decode cX4_lose 65 = .ok (.iand, 1) := by decide +kernel
theorem dX4_lose_66 : decode cX4_lose 66 = .ok (.iastore, 1) := by decide +kernel
theorem dX4_lose_67 : decode cX4_lose 67 = .ok (.aload_n 0, 1) := by decide +kernel
theorem dX4_lose_68 : decode cX4_lose 68 = .ok (.getfield 10, 3) := by decide +kernel
theorem dX4_lose_71 : decode cX4_lose 71 = .ok (.getfield 111, 3) := by decide +kernel
theorem dX4_lose_74 : decode cX4_lose 74 = .ok (.iload_n 1, 1) := by decide +kernel
theorem dX4_lose_75 : decode cX4_lose 75 = .ok (.dup2, 1) := by decide +kernel
theorem dX4_lose_76 : decode cX4_lose 76 = .ok (.iaload, 1) := by decide +kernel
theorem dX4_lose_77 : decode cX4_lose 77 = .ok (.iconst 1, 1) := by decide +kernel
theorem dX4_lose_78 : decode cX4_lose 78 = .ok (.iload_n 2, 1) := by decide +kernel
theorem dX4_lose_79 : decode cX4_lose 79 = .ok (.ishl, 1) := by decide +kernel
theorem dX4_lose_80 : decode cX4_lose 80 = .ok (.ior, 1) := by decide +kernel
theorem dX4_lose_81 : decode cX4_lose 81 = .ok (.iastore, 1) := by decide +kernel
theorem dX4_lose_82 : decode cX4_lose 82 = .ok (.aload_n 0, 1) := by decide +kernel
theorem dX4_lose_83 : decode cX4_lose 83 = .ok (.getfield 10, 3) := by decide +kernel
theorem dX4_lose_86 : decode cX4_lose 86 = .ok (.getfield 85, 3) := by decide +kernel
theorem dX4_lose_89 : decode cX4_lose 89 = .ok (.iload_n 1, 1) := by decide +kernel
theorem dX4_lose_90 : decode cX4_lose 90 = .ok (.iaload, 1) := by decide +kernel
theorem dX4_lose_91 : decode cX4_lose 91 = .ok (.invokestatic 105, 3) := by decide +kernel
theorem dX4_lose_94 : decode cX4_lose 94 = .ok (.ireturn, 1) := by decide +kernel
set_option maxRecDepth 20000 in
theorem ggX4_again_X3_hasOwner : GoodIn wsX4_again wsX3_hasOwner := goodIn_r _ [7, 8, 61, 62, 63, 64, 65, 66, 67, 68] (by decide +kernel) (by decide +kernel)
set_option maxRecDepth 20000 in
theorem gX4_again_X3_hasOwner : GoodIn wsX4_again (wsV RX4 74 RX3 yX3_hasOwner wsX3_hasOwner) := goodIn_app (goodIn_of _ (by decide +kernel)) ggX4_again_X3_hasOwner
set_option maxRecDepth 20000 in
theorem ggX4_again_X3_hasParcel : GoodIn wsX4_again wsX3_hasParcel := goodIn_r _ [12, 13, 61, 62, 63, 64, 65, 66, 67, 68] (by decide +kernel) (by decide +kernel)
set_option maxRecDepth 20000 in
theorem gX4_again_X3_hasParcel : GoodIn wsX4_again (wsV RX4 78 RX3 yX3_hasParcel wsX3_hasParcel) := goodIn_app (goodIn_of _ (by decide +kernel)) ggX4_again_X3_hasParcel
set_option maxRecDepth 20000 in
theorem ggX4_again_X3_isWaiting : GoodIn wsX4_again wsX3_isWaiting := goodIn_r _ [17, 18, 61, 62, 63, 64, 65, 66, 67, 68] (by decide +kernel) (by decide +kernel)
set_option maxRecDepth 20000 in
theorem gX4_again_X3_isWaiting : GoodIn wsX4_again (wsV RX4 81 RX3 yX3_isWaiting wsX3_isWaiting) := goodIn_app (goodIn_of _ (by decide +kernel)) ggX4_again_X3_isWaiting
set_option maxRecDepth 20000 in
theorem ggX4_again_X1_record : GoodIn wsX4_again wsX1_record := goodIn_r _ [23, 24, 25, 26, 27, 28, 29, 6, 30, 31, 32, 33, 34, 35, 36, 13, 37, 38, 18, 39, 8, 40, 41, 42, 43, 44, 45, 46, 47, 69, 70, 71, 61, 62, 63, 64, 65, 66, 67, 68, 72, 73] (by decide +kernel) (by decide +kernel)
set_option maxRecDepth 20000 in
theorem gX4_again_X1_record : GoodIn wsX4_again (wsV RX4 57 RX1 yX1_record wsX1_record) := goodIn_app (goodIn_of _ (by decide +kernel)) ggX4_again_X1_record
set_option maxRecDepth 20000 in
theorem ggX4_again_J6_bitCount_0f7a4 : GoodIn wsX4_again wsJ6_bitCount_0f7a4 := goodIn_r _ [51, 52, 53, 54] (by decide +kernel) (by decide +kernel)
set_option maxRecDepth 20000 in
theorem gX4_again_J6_bitCount_0f7a4 : GoodIn wsX4_again (va_wsS RX4 105 yJ6_bitCount_0f7a4 wsJ6_bitCount_0f7a4) := goodIn_app (goodIn_of _ (by decide +kernel)) ggX4_again_J6_bitCount_0f7a4
theorem dX4_again_0 : decode cX4_again 0 = .ok (.aload_n 0, 1) := by decide +kernel
theorem dX4_again_1 : decode cX4_again 1 = .ok (.getfield 10, 3) := by decide +kernel
theorem dX4_again_4 : decode cX4_again 4 = .ok (.iload_n 1, 1) := by decide +kernel
theorem dX4_again_5 : decode cX4_again 5 = .ok (.invokevirtual 74, 3) := by decide +kernel
theorem dX4_again_8 : decode cX4_again 8 = .ok (.ifCond .eq 14, 3) := by decide +kernel
theorem dX4_again_11 : decode cX4_again 11 = .ok (.aload_n 0, 1) := by decide +kernel
theorem dX4_again_12 : decode cX4_again 12 = .ok (.getfield 10, 3) := by decide +kernel
theorem dX4_again_15 : decode cX4_again 15 = .ok (.iload_n 2, 1) := by decide +kernel
theorem dX4_again_16 : decode cX4_again 16 = .ok (.invokevirtual 78, 3) := by decide +kernel
theorem dX4_again_19 : decode cX4_again 19 = .ok (.ifCond .ne 5, 3) := by decide +kernel
theorem dX4_again_22 : decode cX4_again 22 = .ok (.iconst (-1), 1) := by decide +kernel
theorem dX4_again_23 : decode cX4_again 23 = .ok (.ireturn, 1) := by decide +kernel
theorem dX4_again_24 : decode cX4_again 24 = .ok (.aload_n 0, 1) := by decide +kernel
theorem dX4_again_25 : decode cX4_again 25 = .ok (.getfield 10, 3) := by decide +kernel
theorem dX4_again_28 : decode cX4_again 28 = .ok (.iload_n 1, 1) := by decide +kernel
theorem dX4_again_29 : decode cX4_again 29 = .ok (.iload_n 2, 1) := by decide +kernel
theorem dX4_again_30 : decode cX4_again 30 = .ok (.invokevirtual 81, 3) := by decide +kernel
theorem dX4_again_33 : decode cX4_again 33 = .ok (.ifCond .eq 6, 3) := by decide +kernel
theorem dX4_again_36 : decode cX4_again 36 = .ok (.bipush (-5), 2) := by decide +kernel
theorem dX4_again_38 : decode cX4_again 38 = .ok (.ireturn, 1) := by decide +kernel
theorem dX4_again_39 : decode cX4_again 39 = .ok (.aload_n 0, 1) := by decide +kernel
theorem dX4_again_40 : decode cX4_again 40 = .ok (.getfield 19, 3) := by decide +kernel
theorem dX4_again_43 : decode cX4_again 43 = .ok (.aload_n 0, 1) := by decide +kernel
theorem dX4_again_44 : decode cX4_again 44 = .ok (.getfield 10, 3) := by decide +kernel
theorem dX4_again_47 : decode cX4_again 47 = .ok (.invokevirtual 57, 3) := by decide +kernel
theorem dX4_again_50 : decode cX4_again 50 = .ok (.aload_n 0, 1) := by decide +kernel
theorem dX4_again_51 : decode cX4_again 51 = .ok (.getfield 10, 3) := by decide +kernel
theorem dX4_again_54 : decode cX4_again 54 = .ok (.getfield 85, 3) := by decide +kernel
theorem dX4_again_57 : decode cX4_again 57 = .ok (.iload_n 1, 1) := by decide +kernel
theorem dX4_again_58 : decode cX4_again 58 = .ok (.dup2, 1) := by decide +kernel
theorem dX4_again_59 : decode cX4_again 59 = .ok (.iaload, 1) := by decide +kernel
theorem dX4_again_60 : decode cX4_again 60 = .ok (.iconst 1, 1) := by decide +kernel
theorem dX4_again_61 : decode cX4_again 61 = .ok (.iload_n 2, 1) := by decide +kernel
theorem dX4_again_62 : decode cX4_again 62 = .ok (.ishl, 1) := by decide +kernel
theorem dX4_again_63 : decode cX4_again 63 = .ok (.ior, 1) := by decide +kernel
theorem dX4_again_64 : decode cX4_again 64 = .ok (.iastore, 1) := by decide +kernel
theorem dX4_again_65 : decode cX4_again 65 = .ok (.aload_n 0, 1) := by decide +kernel
theorem dX4_again_66 : decode cX4_again 66 = .ok (.getfield 10, 3) := by decide +kernel
theorem dX4_again_69 : decode cX4_again 69 = .ok (.getfield 111, 3) := by decide +kernel
theorem dX4_again_72 : decode cX4_again 72 = .ok (.iload_n 1, 1) := by decide +kernel
theorem dX4_again_73 : decode cX4_again 73 = .ok (.dup2, 1) := by decide +kernel
theorem dX4_again_74 : decode cX4_again 74 = .ok (.iaload, 1) := by decide +kernel
theorem dX4_again_75 : decode cX4_again 75 = .ok (.iconst 1, 1) := by decide +kernel
theorem dX4_again_76 : decode cX4_again 76 = .ok (.iload_n 2, 1) := by decide +kernel
theorem dX4_again_77 : decode cX4_again 77 = .ok (.ishl, 1) := by decide +kernel
theorem dX4_again_78 : decode cX4_again 78 = .ok (.iconst (-1), 1) := by decide +kernel
theorem dX4_again_79 : decode cX4_again 79 = .ok (.ixor, 1) := by decide +kernel
theorem dX4_again_80 : decode cX4_again 80 = .ok (.iand, 1) := by decide +kernel
theorem dX4_again_81 : decode cX4_again 81 = .ok (.iastore, 1) := by decide +kernel
theorem dX4_again_82 : decode cX4_again 82 = .ok (.aload_n 0, 1) := by decide +kernel
theorem dX4_again_83 : decode cX4_again 83 = .ok (.getfield 10, 3) := by decide +kernel
theorem dX4_again_86 : decode cX4_again 86 = .ok (.getfield 85, 3) := by decide +kernel
theorem dX4_again_89 : decode cX4_again 89 = .ok (.iload_n 1, 1) := by decide +kernel
theorem dX4_again_90 : decode cX4_again 90 = .ok (.iaload, 1) := by decide +kernel
theorem dX4_again_91 : decode cX4_again 91 = .ok (.invokestatic 105, 3) := by decide +kernel
theorem dX4_again_94 : decode cX4_again 94 = .ok (.ireturn, 1) := by decide +kernel
set_option maxRecDepth 20000 in
theorem ggX4_hand_X3_hasOwner : GoodIn wsX4_hand wsX3_hasOwner := goodIn_r _ [7, 8, 78, 79, 80, 81, 82, 83, 84, 85] (by decide +kernel) (by decide +kernel)
set_option maxRecDepth 20000 in
theorem gX4_hand_X3_hasOwner : GoodIn wsX4_hand (wsV RX4 74 RX3 yX3_hasOwner wsX3_hasOwner) := goodIn_app (goodIn_of _ (by decide +kernel)) ggX4_hand_X3_hasOwner
set_option maxRecDepth 20000 in
theorem ggX4_hand_X3_hasParcel : GoodIn wsX4_hand wsX3_hasParcel := goodIn_r _ [12, 13, 78, 79, 80, 81, 82, 83, 84, 85] (by decide +kernel) (by decide +kernel)
set_option maxRecDepth 20000 in
theorem gX4_hand_X3_hasParcel : GoodIn wsX4_hand (wsV RX4 78 RX3 yX3_hasParcel wsX3_hasParcel) := goodIn_app (goodIn_of _ (by decide +kernel)) ggX4_hand_X3_hasParcel
set_option maxRecDepth 20000 in
theorem ggX4_hand_X4_isNumber : GoodIn wsX4_hand wsX4_isNumber := goodIn_r _ [17] (by decide +kernel) (by decide +kernel)
set_option maxRecDepth 20000 in
theorem gX4_hand_X4_isNumber : GoodIn wsX4_hand (va_wsS RX4 114 yX4_isNumber wsX4_isNumber) := goodIn_app (goodIn_of _ (by decide +kernel)) ggX4_hand_X4_isNumber
set_option maxRecDepth 20000 in
theorem ggX4_hand_X0_holds : GoodIn wsX4_hand wsX0_holds := goodIn_r _ [22, 23, 24, 25, 26, 21, 27, 28, 29, 30, 31, 86, 87] (by decide +kernel) (by decide +kernel)
set_option maxRecDepth 20000 in
theorem gX4_hand_X0_holds : GoodIn wsX4_hand (wsV RX4 117 RX0 yX0_holds wsX0_holds) := goodIn_app (goodIn_of _ (by decide +kernel)) ggX4_hand_X0_holds
set_option maxRecDepth 20000 in
theorem ggX4_hand_X1_record : GoodIn wsX4_hand wsX1_record := goodIn_r _ [36, 37, 38, 39, 40, 41, 42, 6, 43, 44, 45, 46, 47, 48, 49, 13, 50, 51, 52, 53, 8, 54, 55, 56, 21, 57, 24, 23, 58, 88, 89, 90, 78, 79, 80, 81, 82, 83, 84, 85, 86, 87] (by decide +kernel) (by decide +kernel)
set_option maxRecDepth 20000 in
theorem gX4_hand_X1_record : GoodIn wsX4_hand (wsV RX4 57 RX1 yX1_record wsX1_record) := goodIn_app (goodIn_of _ (by decide +kernel)) ggX4_hand_X1_record
set_option maxRecDepth 20000 in
theorem ggX4_hand_X0_insert : GoodIn wsX4_hand wsX0_insert := goodIn_r _ [62, 23, 24, 58, 46, 47, 48, 25, 26, 21, 27, 28, 29, 30, 31, 86, 87] (by decide +kernel) (by decide +kernel)
set_option maxRecDepth 20000 in
theorem gX4_hand_X0_insert : GoodIn wsX4_hand (wsV RX4 120 RX0 yX0_insert wsX0_insert) := goodIn_app (goodIn_of _ (by decide +kernel)) ggX4_hand_X0_insert
set_option maxRecDepth 20000 in
theorem ggX4_hand_X0_remove : GoodIn wsX4_hand wsX0_remove := goodIn_r _ [66, 67, 19, 20, 21, 22, 23, 24, 25, 26, 27, 28, 29, 30, 31, 68, 69, 70, 71, 58, 46, 47, 48, 86, 87] (by decide +kernel) (by decide +kernel)
set_option maxRecDepth 20000 in
theorem gX4_hand_X0_remove : GoodIn wsX4_hand (wsV RX4 124 RX0 yX0_remove wsX0_remove) := goodIn_app (goodIn_of _ (by decide +kernel)) ggX4_hand_X0_remove
theorem dX4_hand_0 : decode cX4_hand 0 = .ok (.aload_n 0, 1) := by decide +kernel
theorem dX4_hand_1 : decode cX4_hand 1 = .ok (.getfield 10, 3) := by decide +kernel
theorem dX4_hand_4 : decode cX4_hand 4 = .ok (.iload_n 1, 1) := by decide +kernel
theorem dX4_hand_5 : decode cX4_hand 5 = .ok (.invokevirtual 74, 3) := by decide +kernel
theorem dX4_hand_8 : decode cX4_hand 8 = .ok (.ifCond .eq 14, 3) := by decide +kernel
theorem dX4_hand_11 : decode cX4_hand 11 = .ok (.aload_n 0, 1) := by decide +kernel
theorem dX4_hand_12 : decode cX4_hand 12 = .ok (.getfield 10, 3) := by decide +kernel
theorem dX4_hand_15 : decode cX4_hand 15 = .ok (.iload_n 3, 1) := by decide +kernel
theorem dX4_hand_16 : decode cX4_hand 16 = .ok (.invokevirtual 78, 3) := by decide +kernel
theorem dX4_hand_19 : decode cX4_hand 19 = .ok (.ifCond .ne 5, 3) := by decide +kernel
theorem dX4_hand_22 : decode cX4_hand 22 = .ok (.iconst (-1), 1) := by decide +kernel
theorem dX4_hand_23 : decode cX4_hand 23 = .ok (.ireturn, 1) := by decide +kernel
theorem dX4_hand_24 : decode cX4_hand 24 = .ok (.iload_n 2, 1) := by decide +kernel
theorem dX4_hand_25 : decode cX4_hand 25 = .ok (.invokestatic 114, 3) := by decide +kernel
theorem dX4_hand_28 : decode cX4_hand 28 = .ok (.ifCond .ne 6, 3) := by decide +kernel
theorem dX4_hand_31 : decode cX4_hand 31 = .ok (.bipush (-2), 2) := by decide +kernel
theorem dX4_hand_33 : decode cX4_hand 33 = .ok (.ireturn, 1) := by decide +kernel
theorem dX4_hand_34 : decode cX4_hand 34 = .ok (.aload_n 0, 1) := by decide +kernel
theorem dX4_hand_35 : decode cX4_hand 35 = .ok (.getfield 10, 3) := by decide +kernel
theorem dX4_hand_38 : decode cX4_hand 38 = .ok (.getfield 89, 3) := by decide +kernel
theorem dX4_hand_41 : decode cX4_hand 41 = .ok (.iload_n 1, 1) := by decide +kernel
theorem dX4_hand_42 : decode cX4_hand 42 = .ok (.aaload, 1) := by decide +kernel
theorem dX4_hand_43 : decode cX4_hand 43 = .ok (.astore 5, 2) := by decide +kernel
theorem dX4_hand_45 : decode cX4_hand 45 = .ok (.iload 4, 2) := by decide +kernel
theorem dX4_hand_47 : decode cX4_hand 47 = .ok (.ifCond .eq 21, 3) := by decide +kernel
theorem dX4_hand_50 : decode cX4_hand 50 = .ok (.aload 5, 2) := by decide +kernel
theorem dX4_hand_52 : decode cX4_hand 52 = .ok (.getfield 99, 3) := by decide +kernel
theorem dX4_hand_55 : decode cX4_hand 55 = .ok (.bipush 60, 2) := by decide +kernel
theorem dX4_hand_57 : decode cX4_hand 57 = .ok (.if_icmp .ge 7, 3) := by decide +kernel
theorem dX4_hand_60 : decode cX4_hand 60 = .ok (.iconst 1, 1) := by decide +kernel
theorem dX4_hand_61 : decode cX4_hand 61 = .ok (.goto 14, 3) := by decide +kernel
theorem dX4_hand_64 : decode cX4_hand 64 = .ok (.iconst 0, 1) := by decide +kernel
theorem dX4_hand_65 : decode cX4_hand 65 = .ok (.goto 10, 3) := by decide +kernel
theorem dX4_hand_68 : decode cX4_hand 68 = .ok (.aload 5, 2) := by decide +kernel
theorem dX4_hand_70 : decode cX4_hand 70 = .ok (.iload_n 2, 1) := by decide +kernel
theorem dX4_hand_71 : decode cX4_hand 71 = .ok (.iload_n 3, 1) := by decide +kernel
theorem dX4_hand_72 : decode cX4_hand 72 = .ok (.invokevirtual 117, 3) := by decide +kernel
theorem dX4_hand_75 : decode cX4_hand 75 = .ok (.istore 6, 2) := by decide +kernel
theorem dX4_hand_77 : decode cX4_hand 77 = .ok (.iload 6, 2) := by decide +kernel
theorem dX4_hand_79 : decode cX4_hand 79 = .ok (.ifCond .ne 6, 3) := by decide +kernel
theorem dX4_hand_82 : decode cX4_hand 82 = .ok (.bipush (-5), 2) := by decide +kernel
theorem dX4_hand_84 : decode cX4_hand 84 = .ok (.ireturn, 1) := by decide +kernel
theorem dX4_hand_85 : decode cX4_hand 85 = .ok (.aload_n 0, 1) := by decide +kernel
theorem dX4_hand_86 : decode cX4_hand 86 = .ok (.getfield 19, 3) := by decide +kernel
theorem dX4_hand_89 : decode cX4_hand 89 = .ok (.aload_n 0, 1) := by decide +kernel
theorem dX4_hand_90 : decode cX4_hand 90 = .ok (.getfield 10, 3) := by decide +kernel
theorem dX4_hand_93 : decode cX4_hand 93 = .ok (.invokevirtual 57, 3) := by decide +kernel
theorem dX4_hand_96 : decode cX4_hand 96 = .ok (.iload 4, 2) := by decide +kernel
theorem dX4_hand_98 : decode cX4_hand 98 = .ok (.ifCond .eq 13, 3) := by decide +kernel
theorem dX4_hand_101 : decode cX4_hand 101 = .ok (.aload 5, 2) := by decide +kernel
theorem dX4_hand_103 : decode cX4_hand 103 = .ok (.iload_n 2, 1) := by decide +kernel
theorem dX4_hand_104 : decode cX4_hand 104 = .ok (.iload_n 3, 1) := by decide +kernel
theorem dX4_hand_105 : decode cX4_hand 105 = .ok (.invokevirtual 120, 3) := by decide +kernel
theorem dX4_hand_108 : decode cX4_hand 108 = .ok (.goto 10, 3) := by decide +kernel
theorem dX4_hand_111 : decode cX4_hand 111 = .ok (.aload 5, 2) := by decide +kernel
theorem dX4_hand_113 : decode cX4_hand 113 = .ok (.iload_n 2, 1) := by decide +kernel
theorem dX4_hand_114 : decode cX4_hand 114 = .ok (.iload_n 3, 1) := by decide +kernel
theorem dX4_hand_115 : decode cX4_hand 115 = .ok (.invokevirtual 124, 3) := by decide +kernel
theorem dX4_hand_118 : decode cX4_hand 118 = .ok (.aload 5, 2) := by decide +kernel
theorem dX4_hand_120 : decode cX4_hand 120 = .ok (.getfield 99, 3) := by decide +kernel
theorem dX4_hand_123 : decode cX4_hand 123 = .ok (.ireturn, 1) := by decide +kernel
set_option maxRecDepth 20000 in
theorem ggX4_parcel_X3_hasParcel : GoodIn wsX4_parcel wsX3_hasParcel := goodIn_r _ [6, 7, 24, 25, 26, 27, 28, 29, 30, 31] (by decide +kernel) (by decide +kernel)
set_option maxRecDepth 20000 in
theorem gX4_parcel_X3_hasParcel : GoodIn wsX4_parcel (wsV RX4 78 RX3 yX3_hasParcel wsX3_hasParcel) := goodIn_app (goodIn_of _ (by decide +kernel)) ggX4_parcel_X3_hasParcel
set_option maxRecDepth 20000 in
theorem ggX4_parcel_X3_order : GoodIn wsX4_parcel wsX3_order := goodIn_r _ [11, 12, 24, 25, 26, 27, 28, 29, 30, 31] (by decide +kernel) (by decide +kernel)
set_option maxRecDepth 20000 in
theorem gX4_parcel_X3_order : GoodIn wsX4_parcel (wsV RX4 130 RX3 yX3_order wsX3_order) := goodIn_app (goodIn_of _ (by decide +kernel)) ggX4_parcel_X3_order
set_option maxRecDepth 20000 in
theorem ggX4_parcel_X3_ownersOf : GoodIn wsX4_parcel wsX3_ownersOf := goodIn_r _ [16, 17, 24, 25, 26, 27, 28, 29, 30, 31] (by decide +kernel) (by decide +kernel)
set_option maxRecDepth 20000 in
theorem gX4_parcel_X3_ownersOf : GoodIn wsX4_parcel (wsV RX4 134 RX3 yX3_ownersOf wsX3_ownersOf) := goodIn_app (goodIn_of _ (by decide +kernel)) ggX4_parcel_X3_ownersOf
theorem dX4_parcel_0 : decode cX4_parcel 0 = .ok (.aload_n 0, 1) := by decide +kernel
theorem dX4_parcel_1 : decode cX4_parcel 1 = .ok (.getfield 10, 3) := by decide +kernel
theorem dX4_parcel_4 : decode cX4_parcel 4 = .ok (.iload_n 1, 1) := by decide +kernel
theorem dX4_parcel_5 : decode cX4_parcel 5 = .ok (.invokevirtual 78, 3) := by decide +kernel
theorem dX4_parcel_8 : decode cX4_parcel 8 = .ok (.ifCond .ne 5, 3) := by decide +kernel
theorem dX4_parcel_11 : decode cX4_parcel 11 = .ok (.iconst (-1), 1) := by decide +kernel
theorem dX4_parcel_12 : decode cX4_parcel 12 = .ok (.ireturn, 1) := by decide +kernel
theorem dX4_parcel_13 : decode cX4_parcel 13 = .ok (.iload_n 2, 1) := by decide +kernel
theorem dX4_parcel_14 : decode cX4_parcel 14 = .ok (.ifCond .lt 9, 3) := by decide +kernel
theorem dX4_parcel_17 : decode cX4_parcel 17 = .ok (.iload_n 2, 1) := by decide +kernel
theorem dX4_parcel_18 : decode cX4_parcel 18 = .ok (.bipush 10, 2) := by decide +kernel
theorem dX4_parcel_20 : decode cX4_parcel 20 = .ok (.if_icmp .le 6, 3) := by decide +kernel
theorem dX4_parcel_23 : decode cX4_parcel 23 = .ok (.bipush (-2), 2) := by decide +kernel
theorem dX4_parcel_25 : decode cX4_parcel 25 = .ok (.ireturn, 1) := by decide +kernel
theorem dX4_parcel_26 : decode cX4_parcel 26 = .ok (.iload_n 2, 1) := by decide +kernel
theorem dX4_parcel_27 : decode cX4_parcel 27 = .ok (.ifCond .ne 13, 3) := by decide +kernel
theorem dX4_parcel_30 : decode cX4_parcel 30 = .ok (.aload_n 0, 1) := by decide +kernel
theorem dX4_parcel_31 : decode cX4_parcel 31 = .ok (.getfield 10, 3) := by decide +kernel
theorem dX4_parcel_34 : decode cX4_parcel 34 = .ok (.getfield 127, 3) := by decide +kernel
theorem dX4_parcel_37 : decode cX4_parcel 37 = .ok (.iload_n 1, 1) := by decide +kernel
theorem dX4_parcel_38 : decode cX4_parcel 38 = .ok (.iaload, 1) := by decide +kernel
theorem dX4_parcel_39 : decode cX4_parcel 39 = .ok (.ireturn, 1) := by decide +kernel
theorem dX4_parcel_40 : decode cX4_parcel 40 = .ok (.iload_n 2, 1) := by decide +kernel
theorem dX4_parcel_41 : decode cX4_parcel 41 = .ok (.bipush 8, 2) := by decide +kernel
theorem dX4_parcel_43 : decode cX4_parcel 43 = .ok (.if_icmp .gt 33, 3) := by decide +kernel
theorem dX4_parcel_46 : decode cX4_parcel 46 = .ok (.iload_n 2, 1) := by decide +kernel
theorem dX4_parcel_47 : decode cX4_parcel 47 = .ok (.aload_n 0, 1) := by decide +kernel
theorem dX4_parcel_48 : decode cX4_parcel 48 = .ok (.getfield 10, 3) := by decide +kernel
theorem dX4_parcel_51 : decode cX4_parcel 51 = .ok (.getfield 127, 3) := by decide +kernel
theorem dX4_parcel_54 : decode cX4_parcel 54 = .ok (.iload_n 1, 1) := by decide +kernel
theorem dX4_parcel_55 : decode cX4_parcel 55 = .ok (.iaload, 1) := by decide +kernel
theorem dX4_parcel_56 : decode cX4_parcel 56 = .ok (.if_icmp .gt 17, 3) := by decide +kernel
theorem dX4_parcel_59 : decode cX4_parcel 59 = .ok (.aload_n 0, 1) := by decide +kernel
theorem dX4_parcel_60 : decode cX4_parcel 60 = .ok (.getfield 10, 3) := by decide +kernel
theorem dX4_parcel_63 : decode cX4_parcel 63 = .ok (.iload_n 1, 1) := by decide +kernel
theorem dX4_parcel_64 : decode cX4_parcel 64 = .ok (.iload_n 2, 1) := by decide +kernel
theorem dX4_parcel_65 : decode cX4_parcel 65 = .ok (.iconst 1, 1) := by decide +kernel
theorem dX4_parcel_66 : decode cX4_parcel 66 = .ok (.isub, 1) := by decide +kernel
theorem dX4_parcel_67 : decode cX4_parcel 67 = .ok (.invokevirtual 130, 3) := by decide +kernel
theorem dX4_parcel_70 : decode cX4_parcel 70 = .ok (.goto 5, 3) := by decide +kernel
theorem dX4_parcel_73 : decode cX4_parcel 73 = .ok (.bipush (-6), 2) := by decide +kernel
theorem dX4_parcel_75 : decode cX4_parcel 75 = .ok (.ireturn, 1) := by decide +kernel
theorem dX4_parcel_76 : decode cX4_parcel 76 = .ok (.aload_n 0, 1) := by decide +kernel
theorem dX4_parcel_77 : decode cX4_parcel 77 = .ok (.getfield 10, 3) := by decide +kernel
theorem dX4_parcel_80 : decode cX4_parcel 80 = .ok (.iload_n 2, 1) := by decide +kernel
theorem dX4_parcel_81 : decode cX4_parcel 81 = .ok (.bipush 9, 2) := by decide +kernel
theorem dX4_parcel_83 : decode cX4_parcel 83 = .ok (.if_icmp .ne 13, 3) := by decide +kernel
theorem dX4_parcel_86 : decode cX4_parcel 86 = .ok (.aload_n 0, 1) := by decide +kernel
theorem dX4_parcel_87 : decode cX4_parcel 87 = .ok (.getfield 10, 3) := by decide +kernel
theorem dX4_parcel_90 : decode cX4_parcel 90 = .ok (.getfield 85, 3) := by decide +kernel
theorem dX4_parcel_93 : decode cX4_parcel 93 = .ok (.goto 10, 3) := by decide +kernel
theorem dX4_parcel_96 : decode cX4_parcel 96 = .ok (.aload_n 0, 1) := by decide +kernel
theorem dX4_parcel_97 : decode cX4_parcel 97 = .ok (.getfield 10, 3) := by decide +kernel
theorem dX4_parcel_100 : decode cX4_parcel 100 = .ok (.getfield 111, 3) := by decide +kernel
theorem dX4_parcel_103 : decode cX4_parcel 103 = .ok (.iload_n 1, 1) := by decide +kernel
theorem dX4_parcel_104 : decode cX4_parcel 104 = .ok (.invokevirtual 134, 3) := by decide +kernel
theorem dX4_parcel_107 : decode cX4_parcel 107 = .ok (.ireturn, 1) := by decide +kernel
set_option maxRecDepth 20000 in
theorem ggX4_text_X4_isNumber : GoodIn wsX4_text wsX4_isNumber := goodIn_r _ [5] (by decide +kernel) (by decide +kernel)
set_option maxRecDepth 20000 in
theorem gX4_text_X4_isNumber : GoodIn wsX4_text (va_wsS RX4 114 yX4_isNumber wsX4_isNumber) := goodIn_app (goodIn_of _ (by decide +kernel)) ggX4_text_X4_isNumber
set_option maxRecDepth 20000 in
theorem ggX4_text_X0_earliestIssue : GoodIn wsX4_text wsX0_earliestIssue := goodIn_r _ [10, 11, 12, 13, 14, 9, 15, 16, 17, 18, 19, 20, 21, 22, 23, 24, 25, 26, 27, 28, 29, 30, 31, 32, 33, 48, 49] (by decide +kernel) (by decide +kernel)
set_option maxRecDepth 20000 in
theorem gX4_text_X0_earliestIssue : GoodIn wsX4_text (wsV RX4 142 RX0 yX0_earliestIssue wsX0_earliestIssue) := goodIn_app (goodIn_of _ (by decide +kernel)) ggX4_text_X0_earliestIssue
theorem dX4_text_0 : decode cX4_text 0 = .ok (.iload_n 1, 1) := by decide +kernel
theorem dX4_text_1 : decode cX4_text 1 = .ok (.invokestatic 114, 3) := by decide +kernel
theorem dX4_text_4 : decode cX4_text 4 = .ok (.ifCond .ne 6, 3) := by decide +kernel
theorem dX4_text_7 : decode cX4_text 7 = .ok (.bipush (-2), 2) := by decide +kernel
theorem dX4_text_9 : decode cX4_text 9 = .ok (.ireturn, 1) := by decide +kernel
theorem dX4_text_10 : decode cX4_text 10 = .ok (.aload_n 0, 1) := by decide +kernel
theorem dX4_text_11 : decode cX4_text 11 = .ok (.getfield 10, 3) := by decide +kernel
theorem dX4_text_14 : decode cX4_text 14 = .ok (.getfield 138, 3) := by decide +kernel
theorem dX4_text_17 : decode cX4_text 17 = .ok (.iload_n 1, 1) := by decide +kernel
theorem dX4_text_18 : decode cX4_text 18 = .ok (.invokevirtual 142, 3) := by decide +kernel
theorem dX4_text_21 : decode cX4_text 21 = .ok (.ireturn, 1) := by decide +kernel
set_option maxRecDepth 20000 in
theorem ggX4_leaf_X3_hasOwner : GoodIn wsX4_leaf wsX3_hasOwner := goodIn_r _ [6, 7, 64, 65, 66, 67, 68, 69, 70, 71] (by decide +kernel) (by decide +kernel)
set_option maxRecDepth 20000 in
theorem gX4_leaf_X3_hasOwner : GoodIn wsX4_leaf (wsV RX4 74 RX3 yX3_hasOwner wsX3_hasOwner) := goodIn_app (goodIn_of _ (by decide +kernel)) ggX4_leaf_X3_hasOwner
set_option maxRecDepth 20000 in
theorem ggX4_leaf_X4_isNumber : GoodIn wsX4_leaf wsX4_isNumber := goodIn_r _ [11] (by decide +kernel) (by decide +kernel)
set_option maxRecDepth 20000 in
theorem gX4_leaf_X4_isNumber : GoodIn wsX4_leaf (va_wsS RX4 114 yX4_isNumber wsX4_isNumber) := goodIn_app (goodIn_of _ (by decide +kernel)) ggX4_leaf_X4_isNumber
set_option maxRecDepth 20000 in
theorem ggX4_leaf_X0_held : GoodIn wsX4_leaf wsX0_held := goodIn_r _ [16, 17, 18, 19, 15, 20, 21, 22, 23, 24, 25, 26, 27, 28, 29, 30, 31, 32, 33, 34, 35, 36, 72, 73] (by decide +kernel) (by decide +kernel)
set_option maxRecDepth 20000 in
theorem gX4_leaf_X0_held : GoodIn wsX4_leaf (wsV RX4 145 RX0 yX0_held wsX0_held) := goodIn_app (goodIn_of _ (by decide +kernel)) ggX4_leaf_X0_held
set_option maxRecDepth 20000 in
theorem ggX4_leaf_X0_earliestIssue : GoodIn wsX4_leaf wsX0_earliestIssue := goodIn_r _ [40, 29, 17, 18, 19, 15, 20, 21, 22, 23, 24, 25, 26, 27, 28, 30, 31, 32, 33, 34, 35, 36, 41, 42, 43, 72, 73] (by decide +kernel) (by decide +kernel)
set_option maxRecDepth 20000 in
theorem gX4_leaf_X0_earliestIssue : GoodIn wsX4_leaf (wsV RX4 142 RX0 yX0_earliestIssue wsX0_earliestIssue) := goodIn_app (goodIn_of _ (by decide +kernel)) ggX4_leaf_X0_earliestIssue
set_option maxRecDepth 20000 in
theorem ggX4_leaf_X0_latestIssue : GoodIn wsX4_leaf wsX0_latestIssue := goodIn_r _ [47, 29, 17, 18, 19, 15, 20, 21, 22, 23, 24, 25, 26, 27, 28, 30, 31, 32, 33, 34, 35, 36, 41, 42, 43, 72, 73] (by decide +kernel) (by decide +kernel)
set_option maxRecDepth 20000 in
theorem gX4_leaf_X0_latestIssue : GoodIn wsX4_leaf (wsV RX4 148 RX0 yX0_latestIssue wsX0_latestIssue) := goodIn_app (goodIn_of _ (by decide +kernel)) ggX4_leaf_X0_latestIssue
set_option maxRecDepth 20000 in
theorem ggX4_leaf_X0_difference : GoodIn wsX4_leaf wsX0_difference := goodIn_r _ [51, 52, 13, 14, 15, 16, 17, 18, 19, 20, 21, 22, 23, 24, 25, 26, 27, 28, 29, 30, 31, 32, 33, 34, 35, 36, 53, 38, 39, 40, 41, 42, 43, 54, 55, 56, 57, 72, 73] (by decide +kernel) (by decide +kernel)
set_option maxRecDepth 20000 in
theorem gX4_leaf_X0_difference : GoodIn wsX4_leaf (wsV RX4 151 RX0 yX0_difference wsX0_difference) := goodIn_app (goodIn_of _ (by decide +kernel)) ggX4_leaf_X0_difference
theorem dX4_leaf_0 : decode cX4_leaf 0 = .ok (.aload_n 0, 1) := by decide +kernel
theorem dX4_leaf_1 : decode cX4_leaf 1 = .ok (.getfield 10, 3) := by decide +kernel
theorem dX4_leaf_4 : decode cX4_leaf 4 = .ok (.iload_n 1, 1) := by decide +kernel
theorem dX4_leaf_5 : decode cX4_leaf 5 = .ok (.invokevirtual 74, 3) := by decide +kernel
theorem dX4_leaf_8 : decode cX4_leaf 8 = .ok (.ifCond .ne 5, 3) := by decide +kernel
theorem dX4_leaf_11 : decode cX4_leaf 11 = .ok (.iconst (-1), 1) := by decide +kernel
theorem dX4_leaf_12 : decode cX4_leaf 12 = .ok (.ireturn, 1) := by decide +kernel
theorem dX4_leaf_13 : decode cX4_leaf 13 = .ok (.iload_n 2, 1) := by decide +kernel
theorem dX4_leaf_14 : decode cX4_leaf 14 = .ok (.invokestatic 114, 3) := by decide +kernel
theorem dX4_leaf_17 : decode cX4_leaf 17 = .ok (.ifCond .ne 6, 3) := by decide +kernel
theorem dX4_leaf_20 : decode cX4_leaf 20 = .ok (.bipush (-2), 2) := by decide +kernel
theorem dX4_leaf_22 : decode cX4_leaf 22 = .ok (.ireturn, 1) := by decide +kernel
theorem dX4_leaf_23 : decode cX4_leaf 23 = .ok (.aload_n 0, 1) := by decide +kernel
theorem dX4_leaf_24 : decode cX4_leaf 24 = .ok (.getfield 10, 3) := by decide +kernel
theorem dX4_leaf_27 : decode cX4_leaf 27 = .ok (.getfield 89, 3) := by decide +kernel
theorem dX4_leaf_30 : decode cX4_leaf 30 = .ok (.iload_n 1, 1) := by decide +kernel
theorem dX4_leaf_31 : decode cX4_leaf 31 = .ok (.aaload, 1) := by decide +kernel
theorem dX4_leaf_32 : decode cX4_leaf 32 = .ok (.astore 4, 2) := by decide +kernel
theorem dX4_leaf_34 : decode cX4_leaf 34 = .ok (.iload_n 3, 1) := by decide +kernel
theorem dX4_leaf_35 : decode cX4_leaf 35 = .ok (.tableswitch 73 0 5 #[37, 44, 51, 58, 58, 58], 37) := by decide +kernel
theorem dX4_leaf_72 : decode cX4_leaf 72 = .ok (.aload 4, 2) := by decide +kernel
theorem dX4_leaf_74 : decode cX4_leaf 74 = .ok (.iload_n 2, 1) := by decide +kernel
theorem dX4_leaf_75 : decode cX4_leaf 75 = .ok (.invokevirtual 145, 3) := by decide +kernel
theorem dX4_leaf_78 : decode cX4_leaf 78 = .ok (.ireturn, 1) := by decide +kernel
theorem dX4_leaf_79 : decode cX4_leaf 79 = .ok (.aload 4, 2) := by decide +kernel
theorem dX4_leaf_81 : decode cX4_leaf 81 = .ok (.iload_n 2, 1) := by decide +kernel
theorem dX4_leaf_82 : decode cX4_leaf 82 = .ok (.invokevirtual 142, 3) := by decide +kernel
theorem dX4_leaf_85 : decode cX4_leaf 85 = .ok (.ireturn, 1) := by decide +kernel
theorem dX4_leaf_86 : decode cX4_leaf 86 = .ok (.aload 4, 2) := by decide +kernel
theorem dX4_leaf_88 : decode cX4_leaf 88 = .ok (.iload_n 2, 1) := by decide +kernel
theorem dX4_leaf_89 : decode cX4_leaf 89 = .ok (.invokevirtual 148, 3) := by decide +kernel
theorem dX4_leaf_92 : decode cX4_leaf 92 = .ok (.ireturn, 1) := by decide +kernel
theorem dX4_leaf_93 : decode cX4_leaf 93 = .ok (.aload 4, 2) := by decide +kernel
theorem dX4_leaf_95 : decode cX4_leaf 95 = .ok (.aload_n 0, 1) := by decide +kernel
theorem dX4_leaf_96 : decode cX4_leaf 96 = .ok (.getfield 10, 3) := by decide +kernel
theorem dX4_leaf_99 : decode cX4_leaf 99 = .ok (.getfield 138, 3) := by decide +kernel
theorem dX4_leaf_102 : decode cX4_leaf 102 = .ok (.iload_n 2, 1) := by decide +kernel
theorem dX4_leaf_103 : decode cX4_leaf 103 = .ok (.iload_n 3, 1) := by decide +kernel
theorem dX4_leaf_104 : decode cX4_leaf 104 = .ok (.invokevirtual 151, 3) := by decide +kernel
theorem dX4_leaf_107 : decode cX4_leaf 107 = .ok (.ireturn, 1) := by decide +kernel
theorem dX4_leaf_108 : decode cX4_leaf 108 = .ok (.bipush (-2), 2) := by decide +kernel
theorem dX4_leaf_110 : decode cX4_leaf 110 = .ok (.ireturn, 1) := by decide +kernel
set_option maxRecDepth 20000 in
theorem ggX4_of_X3_hasOwner : GoodIn wsX4_of wsX3_hasOwner := goodIn_r _ [6, 7, 66, 67, 68, 69, 70, 71, 72, 73] (by decide +kernel) (by decide +kernel)
set_option maxRecDepth 20000 in
theorem gX4_of_X3_hasOwner : GoodIn wsX4_of (wsV RX4 74 RX3 yX3_hasOwner wsX3_hasOwner) := goodIn_app (goodIn_of _ (by decide +kernel)) ggX4_of_X3_hasOwner
set_option maxRecDepth 20000 in
theorem ggX4_of_X0_differences : GoodIn wsX4_of wsX0_differences := goodIn_r _ [12, 13, 14, 15, 11, 16, 17, 18, 19, 20, 21, 22, 23, 24, 25, 26, 27, 28, 29, 30, 31, 32, 33, 34, 35, 36, 37, 38, 39, 40, 41, 42, 43, 44, 45, 46, 47, 48, 49, 50, 51, 74, 75] (by decide +kernel) (by decide +kernel)
set_option maxRecDepth 20000 in
theorem gX4_of_X0_differences : GoodIn wsX4_of (wsV RX4 155 RX0 yX0_differences wsX0_differences) := goodIn_app (goodIn_of _ (by decide +kernel)) ggX4_of_X0_differences
set_option maxRecDepth 20000 in
theorem ggX4_of_X0_isSameAs : GoodIn wsX4_of wsX0_isSameAs := goodIn_r _ [55, 32, 33, 74, 75] (by decide +kernel) (by decide +kernel)
set_option maxRecDepth 20000 in
theorem gX4_of_X0_isSameAs : GoodIn wsX4_of (wsV RX4 159 RX0 yX0_isSameAs wsX0_isSameAs) := goodIn_app (goodIn_of _ (by decide +kernel)) ggX4_of_X0_isSameAs
set_option maxRecDepth 20000 in
theorem ggX4_of_X0_checkNumber : GoodIn wsX4_of wsX0_checkNumber := goodIn_r _ [59, 32, 33, 38, 39, 11, 40, 45, 46, 47, 74, 75] (by decide +kernel) (by decide +kernel)
set_option maxRecDepth 20000 in
theorem gX4_of_X0_checkNumber : GoodIn wsX4_of (wsV RX4 163 RX0 yX0_checkNumber wsX0_checkNumber) := goodIn_app (goodIn_of _ (by decide +kernel)) ggX4_of_X0_checkNumber
theorem dX4_of_0 : decode cX4_of 0 = .ok (.aload_n 0, 1) := by decide +kernel
theorem dX4_of_1 : decode cX4_of 1 = .ok (.getfield 10, 3) := by decide +kernel
theorem dX4_of_4 : decode cX4_of 4 = .ok (.iload_n 1, 1) := by decide +kernel
theorem dX4_of_5 : decode cX4_of 5 = .ok (.invokevirtual 74, 3) := by decide +kernel
theorem dX4_of_8 : decode cX4_of 8 = .ok (.ifCond .ne 5, 3) := by decide +kernel
theorem dX4_of_11 : decode cX4_of 11 = .ok (.iconst (-1), 1) := by decide +kernel
theorem dX4_of_12 : decode cX4_of 12 = .ok (.ireturn, 1) := by decide +kernel
theorem dX4_of_13 : decode cX4_of 13 = .ok (.aload_n 0, 1) := by decide +kernel
theorem dX4_of_14 : decode cX4_of 14 = .ok (.getfield 10, 3) := by decide +kernel
theorem dX4_of_17 : decode cX4_of 17 = .ok (.getfield 89, 3) := by decide +kernel
theorem dX4_of_20 : decode cX4_of 20 = .ok (.iload_n 1, 1) := by decide +kernel
theorem dX4_of_21 : decode cX4_of 21 = .ok (.aaload, 1) := by decide +kernel
theorem dX4_of_22 : decode cX4_of 22 = .ok (.astore_n 3, 1) := by decide +kernel
theorem dX4_of_23 : decode cX4_of 23 = .ok (.iload_n 2, 1) := by decide +kernel
theorem dX4_of_24 : decode cX4_of 24 = .ok (.tableswitch 111 0 7 #[48, 53, 63, 73, 73, 73, 86, 106], 48) := by decide +kernel
theorem dX4_of_72 : decode cX4_of 72 = .ok (.aload_n 3, 1) := by decide +kernel
theorem dX4_of_73 : decode cX4_of 73 = .ok (.getfield 99, 3) := by decide +kernel
theorem dX4_of_76 : decode cX4_of 76 = .ok (.ireturn, 1) := by decide +kernel
theorem dX4_of_77 : decode cX4_of 77 = .ok (.aload_n 0, 1) := by decide +kernel
theorem dX4_of_78 : decode cX4_of 78 = .ok (.getfield 10, 3) := by decide +kernel
theorem dX4_of_81 : decode cX4_of 81 = .ok (.getfield 85, 3) := by decide +kernel
theorem dX4_of_84 : decode cX4_of 84 = .ok (.iload_n 1, 1) := by decide +kernel
theorem dX4_of_85 : decode cX4_of 85 = .ok (.iaload, 1) := by decide +kernel
theorem dX4_of_86 : decode cX4_of 86 = .ok (.ireturn, 1) := by decide +kernel
theorem dX4_of_87 : decode cX4_of 87 = .ok (.aload_n 0, 1) := by decide +kernel
theorem dX4_of_88 : decode cX4_of 88 = .ok (.getfield 10, 3) := by decide +kernel
theorem dX4_of_91 : decode cX4_of 91 = .ok (.getfield 111, 3) := by decide +kernel
theorem dX4_of_94 : decode cX4_of 94 = .ok (.iload_n 1, 1) := by decide +kernel
theorem dX4_of_95 : decode cX4_of 95 = .ok (.iaload, 1) := by decide +kernel
theorem dX4_of_96 : decode cX4_of 96 = .ok (.ireturn, 1) := by decide +kernel
theorem dX4_of_97 : decode cX4_of 97 = .ok (.aload_n 3, 1) := by decide +kernel
theorem dX4_of_98 : decode cX4_of 98 = .ok (.aload_n 0, 1) := by decide +kernel
theorem dX4_of_99 : decode cX4_of 99 = .ok (.getfield 10, 3) := by decide +kernel
theorem dX4_of_102 : decode cX4_of 102 = .ok (.getfield 138, 3) := by decide +kernel
theorem dX4_of_105 : decode cX4_of 105 = .ok (.iload_n 2, 1) := by decide +kernel
theorem dX4_of_106 : decode cX4_of 106 = .ok (.invokevirtual 155, 3) := by decide +kernel
theorem dX4_of_109 : decode cX4_of 109 = .ok (.ireturn, 1) := by decide +kernel
theorem dX4_of_110 : decode cX4_of 110 = .ok (.aload_n 3, 1) := by decide +kernel
theorem dX4_of_111 : decode cX4_of 111 = .ok (.aload_n 0, 1) := by decide +kernel
theorem dX4_of_112 : decode cX4_of 112 = .ok (.getfield 10, 3) := by decide +kernel
theorem dX4_of_115 : decode cX4_of 115 = .ok (.getfield 138, 3) := by decide +kernel
theorem dX4_of_118 : decode cX4_of 118 = .ok (.invokevirtual 159, 3) := by decide +kernel
theorem dX4_of_121 : decode cX4_of 121 = .ok (.ifCond .eq 7, 3) := by decide +kernel
theorem dX4_of_124 : decode cX4_of 124 = .ok (.iconst 1, 1) := by decide +kernel
theorem dX4_of_125 : decode cX4_of 125 = .ok (.goto 4, 3) := by decide +kernel
theorem dX4_of_128 : decode cX4_of 128 = .ok (.iconst 0, 1) := by decide +kernel
theorem dX4_of_129 : decode cX4_of 129 = .ok (.ireturn, 1) := by decide +kernel
theorem dX4_of_130 : decode cX4_of 130 = .ok (.aload_n 3, 1) := by decide +kernel
theorem dX4_of_131 : decode cX4_of 131 = .ok (.invokevirtual 163, 3) := by decide +kernel
theorem dX4_of_134 : decode cX4_of 134 = .ok (.ireturn, 1) := by decide +kernel
theorem dX4_of_135 : decode cX4_of 135 = .ok (.bipush (-2), 2) := by decide +kernel
theorem dX4_of_137 : decode cX4_of 137 = .ok (.ireturn, 1) := by decide +kernel
set_option maxRecDepth 20000 in
theorem ggX4_count_X0_checkNumber : GoodIn wsX4_count wsX0_checkNumber := goodIn_r _ [8, 9, 10, 11, 12, 7, 13, 14, 15, 16, 53, 54] (by decide +kernel) (by decide +kernel)
set_option maxRecDepth 20000 in
theorem gX4_count_X0_checkNumber : GoodIn wsX4_count (wsV RX4 163 RX0 yX0_checkNumber wsX0_checkNumber) := goodIn_app (goodIn_of _ (by decide +kernel)) ggX4_count_X0_checkNumber
set_option maxRecDepth 20000 in
theorem ggX4_count_X3_ownersWithRightBinders : GoodIn wsX4_count wsX3_ownersWithRightBinders := goodIn_r _ [21, 22, 23, 24, 25, 26, 27, 7, 28, 9, 10, 45, 46, 47, 48, 49, 50, 51, 52, 53, 54] (by decide +kernel) (by decide +kernel)
set_option maxRecDepth 20000 in
theorem gX4_count_X3_ownersWithRightBinders : GoodIn wsX4_count (wsV RX4 166 RX3 yX3_ownersWithRightBinders wsX3_ownersWithRightBinders) := goodIn_app (goodIn_of _ (by decide +kernel)) ggX4_count_X3_ownersWithRightBinders
set_option maxRecDepth 20000 in
theorem ggX4_count_X0_leavesOf : GoodIn wsX4_count wsX0_leavesOf := goodIn_r _ [32, 9, 10, 14, 15, 7, 16, 53, 54] (by decide +kernel) (by decide +kernel)
set_option maxRecDepth 20000 in
theorem gX4_count_X0_leavesOf : GoodIn wsX4_count (wsV RX4 169 RX0 yX0_leavesOf wsX0_leavesOf) := goodIn_app (goodIn_of _ (by decide +kernel)) ggX4_count_X0_leavesOf
set_option maxRecDepth 20000 in
theorem ggX4_count_X3_parcelWithMostLeaves : GoodIn wsX4_count wsX3_parcelWithMostLeaves := goodIn_r _ [36, 37, 24, 38, 30, 31, 7, 32, 9, 10, 14, 15, 16, 45, 46, 47, 48, 49, 50, 51, 52, 53, 54] (by decide +kernel) (by decide +kernel)
set_option maxRecDepth 20000 in
theorem gX4_count_X3_parcelWithMostLeaves : GoodIn wsX4_count (wsV RX4 172 RX3 yX3_parcelWithMostLeaves wsX3_parcelWithMostLeaves) := goodIn_app (goodIn_of _ (by decide +kernel)) ggX4_count_X3_parcelWithMostLeaves
theorem dX4_count_0 : decode cX4_count 0 = .ok (.iload_n 1, 1) := by decide +kernel
theorem dX4_count_1 : decode cX4_count 1 = .ok (.tableswitch 133 0 8 #[51, 59, 67, 78, 89, 97, 109, 117, 125], 51) := by decide +kernel
theorem dX4_count_52 : decode cX4_count 52 = .ok (.aload_n 0, 1) := by decide +kernel
theorem dX4_count_53 : decode cX4_count 53 = .ok (.getfield 10, 3) := by decide +kernel
theorem dX4_count_56 : decode cX4_count 56 = .ok (.getfield 53, 3) := by decide +kernel
theorem dX4_count_59 : decode cX4_count 59 = .ok (.ireturn, 1) := by decide +kernel
theorem dX4_count_60 : decode cX4_count 60 = .ok (.aload_n 0, 1) := by decide +kernel
theorem dX4_count_61 : decode cX4_count 61 = .ok (.getfield 10, 3) := by decide +kernel
theorem dX4_count_64 : decode cX4_count 64 = .ok (.getfield 68, 3) := by decide +kernel
theorem dX4_count_67 : decode cX4_count 67 = .ok (.ireturn, 1) := by decide +kernel
theorem dX4_count_68 : decode cX4_count 68 = .ok (.aload_n 0, 1) := by decide +kernel
theorem dX4_count_69 : decode cX4_count 69 = .ok (.getfield 10, 3) := by decide +kernel
theorem dX4_count_72 : decode cX4_count 72 = .ok (.getfield 138, 3) := by decide +kernel
theorem dX4_count_75 : decode cX4_count 75 = .ok (.getfield 99, 3) := by decide +kernel
theorem dX4_count_78 : decode cX4_count 78 = .ok (.ireturn, 1) := by decide +kernel
theorem dX4_count_79 : decode cX4_count 79 = .ok (.aload_n 0, 1) := by decide +kernel
theorem dX4_count_80 : decode cX4_count 80 = .ok (.getfield 10, 3) := by decide +kernel
theorem dX4_count_83 : decode cX4_count 83 = .ok (.getfield 138, 3) := by decide +kernel
theorem dX4_count_86 : decode cX4_count 86 = .ok (.invokevirtual 163, 3) := by decide +kernel
theorem dX4_count_89 : decode cX4_count 89 = .ok (.ireturn, 1) := by decide +kernel
theorem dX4_count_90 : decode cX4_count 90 = .ok (.aload_n 0, 1) := by decide +kernel
theorem dX4_count_91 : decode cX4_count 91 = .ok (.getfield 10, 3) := by decide +kernel
theorem dX4_count_94 : decode cX4_count 94 = .ok (.invokevirtual 166, 3) := by decide +kernel
theorem dX4_count_97 : decode cX4_count 97 = .ok (.ireturn, 1) := by decide +kernel
theorem dX4_count_98 : decode cX4_count 98 = .ok (.aload_n 0, 1) := by decide +kernel
theorem dX4_count_99 : decode cX4_count 99 = .ok (.getfield 10, 3) := by decide +kernel
theorem dX4_count_102 : decode cX4_count 102 = .ok (.getfield 138, 3) := by decide +kernel
theorem dX4_count_105 : decode cX4_count 105 = .ok (.iconst 0, 1) := by decide +kernel
theorem dX4_count_106 : decode cX4_count 106 = .ok (.invokevirtual 169, 3) := by decide +kernel
theorem dX4_count_109 : decode cX4_count 109 = .ok (.ireturn, 1) := by decide +kernel
theorem dX4_count_110 : decode cX4_count 110 = .ok (.aload_n 0, 1) := by decide +kernel
theorem dX4_count_111 : decode cX4_count 111 = .ok (.getfield 10, 3) := by decide +kernel
theorem dX4_count_114 : decode cX4_count 114 = .ok (.invokevirtual 172, 3) := by decide +kernel
theorem dX4_count_117 : decode cX4_count 117 = .ok (.ireturn, 1) := by decide +kernel
theorem dX4_count_118 : decode cX4_count 118 = .ok (.aload_n 0, 1) := by decide +kernel
theorem dX4_count_119 : decode cX4_count 119 = .ok (.getfield 34, 3) := by decide +kernel
theorem dX4_count_122 : decode cX4_count 122 = .ok (.getfield 175, 3) := by decide +kernel
theorem dX4_count_125 : decode cX4_count 125 = .ok (.ireturn, 1) := by decide +kernel
theorem dX4_count_126 : decode cX4_count 126 = .ok (.aload_n 0, 1) := by decide +kernel
theorem dX4_count_127 : decode cX4_count 127 = .ok (.getfield 19, 3) := by decide +kernel
theorem dX4_count_130 : decode cX4_count 130 = .ok (.getfield 178, 3) := by decide +kernel
theorem dX4_count_133 : decode cX4_count 133 = .ok (.ireturn, 1) := by decide +kernel
theorem dX4_count_134 : decode cX4_count 134 = .ok (.bipush (-2), 2) := by decide +kernel
theorem dX4_count_136 : decode cX4_count 136 = .ok (.ireturn, 1) := by decide +kernel
set_option maxRecDepth 20000 in
theorem ggX4_ifDone_X3_hasOwner : GoodIn wsX4_ifDone wsX3_hasOwner := goodIn_r _ [6, 7, 107, 108, 109, 110, 111, 112, 113, 114] (by decide +kernel) (by decide +kernel)
set_option maxRecDepth 20000 in
theorem gX4_ifDone_X3_hasOwner : GoodIn wsX4_ifDone (wsV RX4 74 RX3 yX3_hasOwner wsX3_hasOwner) := goodIn_app (goodIn_of _ (by decide +kernel)) ggX4_ifDone_X3_hasOwner
set_option maxRecDepth 20000 in
theorem ggX4_ifDone_X3_hasParcel : GoodIn wsX4_ifDone wsX3_hasParcel := goodIn_r _ [11, 12, 107, 108, 109, 110, 111, 112, 113, 114] (by decide +kernel) (by decide +kernel)
set_option maxRecDepth 20000 in
theorem gX4_ifDone_X3_hasParcel : GoodIn wsX4_ifDone (wsV RX4 78 RX3 yX3_hasParcel wsX3_hasParcel) := goodIn_app (goodIn_of _ (by decide +kernel)) ggX4_ifDone_X3_hasParcel
set_option maxRecDepth 20000 in
theorem ggX4_ifDone_X4_tried : GoodIn wsX4_ifDone wsX4_tried := goodIn_r _ [17, 18, 1, 19, 20, 21, 22, 23, 24, 25, 26, 27, 28, 29, 30, 31, 32, 5, 33, 12, 34, 35, 36, 37, 38, 39, 40, 41, 42, 43, 44, 45, 46, 47, 48, 49, 50, 51, 52, 53, 54, 55, 56, 57, 58, 59, 60, 61, 62, 63, 64, 65, 66, 67, 68, 69, 70, 71, 72, 73, 101, 102, 103, 104, 105, 106, 107, 108, 109, 110, 111, 112, 113, 114, 115, 116] (by decide +kernel) (by decide +kernel)
set_option maxRecDepth 20000 in
theorem gX4_ifDone_X4_tried : GoodIn wsX4_ifDone (wsV RX4 179 RX4 yX4_tried wsX4_tried) := goodIn_app (goodIn_of _ (by decide +kernel)) ggX4_ifDone_X4_tried
set_option maxRecDepth 20000 in
theorem ggX4_ifDone_X0_wrong : GoodIn wsX4_ifDone wsX0_wrong := goodIn_r _ [77, 78, 79, 80, 22, 81, 82, 83, 84, 85, 86, 87, 88, 89, 48, 49, 50, 51, 52, 53, 54, 55, 56, 57, 58, 25, 24, 59, 60, 61, 62, 63, 64, 65, 90, 91, 92, 93, 94, 95, 96, 97, 98, 99, 100, 115, 116] (by decide +kernel) (by decide +kernel)
set_option maxRecDepth 20000 in
theorem gX4_ifDone_X0_wrong : GoodIn wsX4_ifDone (wsV RX4 183 RX0 yX0_wrong wsX0_wrong) := goodIn_app (goodIn_of _ (by decide +kernel)) ggX4_ifDone_X0_wrong
theorem dX4_ifDone_0 : decode cX4_ifDone 0 = .ok (.aload_n 0, 1) := by decide +kernel
theorem dX4_ifDone_1 : decode cX4_ifDone 1 = .ok (.getfield 10, 3) := by decide +kernel
theorem dX4_ifDone_4 : decode cX4_ifDone 4 = .ok (.iload_n 1, 1) := by decide +kernel
theorem dX4_ifDone_5 : decode cX4_ifDone 5 = .ok (.invokevirtual 74, 3) := by decide +kernel
theorem dX4_ifDone_8 : decode cX4_ifDone 8 = .ok (.ifCond .eq 14, 3) := by decide +kernel
theorem dX4_ifDone_11 : decode cX4_ifDone 11 = .ok (.aload_n 0, 1) := by decide +kernel
theorem dX4_ifDone_12 : decode cX4_ifDone 12 = .ok (.getfield 10, 3) := by decide +kernel
theorem dX4_ifDone_15 : decode cX4_ifDone 15 = .ok (.iload_n 2, 1) := by decide +kernel
theorem dX4_ifDone_16 : decode cX4_ifDone 16 = .ok (.invokevirtual 78, 3) := by decide +kernel
theorem dX4_ifDone_19 : decode cX4_ifDone 19 = .ok (.ifCond .ne 5, 3) := by decide +kernel
theorem dX4_ifDone_22 : decode cX4_ifDone 22 = .ok (.iconst (-1), 1) := by decide +kernel
theorem dX4_ifDone_23 : decode cX4_ifDone 23 = .ok (.ireturn, 1) := by decide +kernel
theorem dX4_ifDone_24 : decode cX4_ifDone 24 = .ok (.aload_n 0, 1) := by decide +kernel
theorem dX4_ifDone_25 : decode cX4_ifDone 25 = .ok (.iload_n 1, 1) := by decide +kernel
theorem dX4_ifDone_26 : decode cX4_ifDone 26 = .ok (.iconst 1, 1) := by decide +kernel
theorem dX4_ifDone_27 : decode cX4_ifDone 27 = .ok (.iload_n 2, 1) := by decide +kernel
theorem dX4_ifDone_28 : decode cX4_ifDone 28 = .ok (.ishl, 1) := by decide +kernel
theorem dX4_ifDone_29 : decode cX4_ifDone 29 = .ok (.invokevirtual 179, 3) := by decide +kernel
theorem dX4_ifDone_32 : decode cX4_ifDone 32 = .ok (.aload_n 0, 1) := by decide +kernel
theorem dX4_ifDone_33 : decode cX4_ifDone 33 = .ok (.getfield 10, 3) := by decide +kernel
theorem dX4_ifDone_36 : decode cX4_ifDone 36 = .ok (.getfield 138, 3) := by decide +kernel
theorem dX4_ifDone_39 : decode cX4_ifDone 39 = .ok (.invokevirtual 183, 3) := by decide +kernel
theorem dX4_ifDone_42 : decode cX4_ifDone 42 = .ok (.ireturn, 1) := by decide +kernel
set_option maxRecDepth 20000 in
theorem ggX4_ifAllDone_X3_hasOwner : GoodIn wsX4_ifAllDone wsX3_hasOwner := goodIn_r _ [6, 7, 103, 104, 105, 106, 107, 108, 109, 110] (by decide +kernel) (by decide +kernel)
set_option maxRecDepth 20000 in
theorem gX4_ifAllDone_X3_hasOwner : GoodIn wsX4_ifAllDone (wsV RX4 74 RX3 yX3_hasOwner wsX3_hasOwner) := goodIn_app (goodIn_of _ (by decide +kernel)) ggX4_ifAllDone_X3_hasOwner
set_option maxRecDepth 20000 in
theorem ggX4_ifAllDone_X4_tried : GoodIn wsX4_ifAllDone wsX4_tried := goodIn_r _ [12, 13, 1, 14, 15, 16, 17, 18, 19, 20, 21, 22, 23, 24, 25, 26, 27, 5, 28, 29, 30, 31, 32, 33, 34, 35, 36, 37, 38, 39, 40, 41, 42, 43, 44, 45, 46, 47, 48, 49, 50, 51, 52, 53, 54, 55, 56, 57, 58, 59, 60, 61, 62, 63, 64, 65, 66, 67, 68, 69, 97, 98, 99, 100, 101, 102, 103, 104, 105, 106, 107, 108, 109, 110, 111, 112] (by decide +kernel) (by decide +kernel)
set_option maxRecDepth 20000 in
theorem gX4_ifAllDone_X4_tried : GoodIn wsX4_ifAllDone (wsV RX4 179 RX4 yX4_tried wsX4_tried) := goodIn_app (goodIn_of _ (by decide +kernel)) ggX4_ifAllDone_X4_tried
set_option maxRecDepth 20000 in
theorem ggX4_ifAllDone_X0_wrong : GoodIn wsX4_ifAllDone wsX0_wrong := goodIn_r _ [73, 74, 75, 76, 17, 77, 78, 79, 80, 81, 82, 83, 84, 85, 44, 45, 46, 47, 48, 49, 50, 51, 52, 53, 54, 20, 19, 55, 56, 57, 58, 59, 60, 61, 86, 87, 88, 89, 90, 91, 92, 93, 94, 95, 96, 111, 112] (by decide +kernel) (by decide +kernel)
set_option maxRecDepth 20000 in
theorem gX4_ifAllDone_X0_wrong : GoodIn wsX4_ifAllDone (wsV RX4 183 RX0 yX0_wrong wsX0_wrong) := goodIn_app (goodIn_of _ (by decide +kernel)) ggX4_ifAllDone_X0_wrong
theorem dX4_ifAllDone_0 : decode cX4_ifAllDone 0 = .ok (.aload_n 0, 1) := by decide +kernel
theorem dX4_ifAllDone_1 : decode cX4_ifAllDone 1 = .ok (.getfield 10, 3) := by decide +kernel
theorem dX4_ifAllDone_4 : decode cX4_ifAllDone 4 = .ok (.iload_n 1, 1) := by decide +kernel
theorem dX4_ifAllDone_5 : decode cX4_ifAllDone 5 = .ok (.invokevirtual 74, 3) := by decide +kernel
theorem dX4_ifAllDone_8 : decode cX4_ifAllDone 8 = .ok (.ifCond .ne 5, 3) := by decide +kernel
theorem dX4_ifAllDone_11 : decode cX4_ifAllDone 11 = .ok (.iconst (-1), 1) := by decide +kernel
theorem dX4_ifAllDone_12 : decode cX4_ifAllDone 12 = .ok (.ireturn, 1) := by decide +kernel
theorem dX4_ifAllDone_13 : decode cX4_ifAllDone 13 = .ok (.aload_n 0, 1) := by decide +kernel
theorem dX4_ifAllDone_14 : decode cX4_ifAllDone 14 = .ok (.iload_n 1, 1) := by decide +kernel
theorem dX4_ifAllDone_15 : decode cX4_ifAllDone 15 = .ok (.aload_n 0, 1) := by decide +kernel
theorem dX4_ifAllDone_16 : decode cX4_ifAllDone 16 = .ok (.getfield 10, 3) := by decide +kernel
theorem dX4_ifAllDone_19 : decode cX4_ifAllDone 19 = .ok (.getfield 85, 3) := by decide +kernel
theorem dX4_ifAllDone_22 : decode cX4_ifAllDone 22 = .ok (.iload_n 1, 1) := by decide +kernel
theorem dX4_ifAllDone_23 : decode cX4_ifAllDone 23 = .ok (.iaload, 1) := by decide +kernel
theorem dX4_ifAllDone_24 : decode cX4_ifAllDone 24 = .ok (.invokevirtual 179, 3) := by decide +kernel
theorem dX4_ifAllDone_27 : decode cX4_ifAllDone 27 = .ok (.aload_n 0, 1) := by decide +kernel
theorem dX4_ifAllDone_28 : decode cX4_ifAllDone 28 = .ok (.getfield 10, 3) := by decide +kernel
theorem dX4_ifAllDone_31 : decode cX4_ifAllDone 31 = .ok (.getfield 138, 3) := by decide +kernel
theorem dX4_ifAllDone_34 : decode cX4_ifAllDone 34 = .ok (.invokevirtual 183, 3) := by decide +kernel
theorem dX4_ifAllDone_37 : decode cX4_ifAllDone 37 = .ok (.ireturn, 1) := by decide +kernel
set_option maxRecDepth 20000 in
theorem ggX4_mending_X3_hasOwner : GoodIn wsX4_mending wsX3_hasOwner := goodIn_r _ [7, 8, 78, 79, 80, 81, 82, 83, 84, 85] (by decide +kernel) (by decide +kernel)
set_option maxRecDepth 20000 in
theorem gX4_mending_X3_hasOwner : GoodIn wsX4_mending (wsV RX4 74 RX3 yX3_hasOwner wsX3_hasOwner) := goodIn_app (goodIn_of _ (by decide +kernel)) ggX4_mending_X3_hasOwner
set_option maxRecDepth 20000 in
theorem ggX4_mending_X0_copy : GoodIn wsX4_mending wsX0_copy := goodIn_r _ [13, 14, 15, 16, 17, 18, 19, 86, 87] (by decide +kernel) (by decide +kernel)
set_option maxRecDepth 20000 in
theorem gX4_mending_X0_copy : GoodIn wsX4_mending (wsV RX4 187 RX0 yX0_copy wsX0_copy) := goodIn_app (goodIn_of _ (by decide +kernel)) ggX4_mending_X0_copy
set_option maxRecDepth 20000 in
theorem ggX4_mending_X4_lowestMending : GoodIn wsX4_mending wsX4_lowestMending := goodIn_r _ [23, 24, 25, 26, 27, 28, 29, 30, 12, 31, 15, 14, 9, 10, 11, 13, 16, 17, 18, 19, 32, 33, 34, 6, 35, 36, 37, 38, 39, 40, 41, 42, 43, 44, 45, 46, 47, 48, 49, 50, 51, 52, 53, 54, 55, 56, 57, 58, 59, 60, 61, 62, 63, 64, 65, 66, 67, 68, 69, 70, 71, 20, 21, 22, 78, 79, 80, 81, 82, 83, 84, 85, 86, 87] (by decide +kernel) (by decide +kernel)
set_option maxRecDepth 20000 in
theorem gX4_mending_X4_lowestMending : GoodIn wsX4_mending (va_wsS RX4 191 yX4_lowestMending wsX4_lowestMending) := goodIn_app (goodIn_of _ (by decide +kernel)) ggX4_mending_X4_lowestMending
theorem dX4_mending_0 : decode cX4_mending 0 = .ok (.aload_n 0, 1) := by decide +kernel
theorem dX4_mending_1 : decode cX4_mending 1 = .ok (.getfield 10, 3) := by decide +kernel
theorem dX4_mending_4 : decode cX4_mending 4 = .ok (.iload_n 1, 1) := by decide +kernel
theorem dX4_mending_5 : decode cX4_mending 5 = .ok (.invokevirtual 74, 3) := by decide +kernel
theorem dX4_mending_8 : decode cX4_mending 8 = .ok (.ifCond .ne 5, 3) := by decide +kernel
theorem dX4_mending_11 : decode cX4_mending 11 = .ok (.iconst (-1), 1) := by decide +kernel
end
section
theorem dX4_mending_12 : decode cX4_mending 12 = .ok (.ireturn, 1) := by decide +kernel
theorem dX4_mending_13 : decode cX4_mending 13 = .ok (.aload_n 0, 1) := by decide +kernel
theorem dX4_mending_14 : decode cX4_mending 14 = .ok (.getfield 40, 3) := by decide +kernel
theorem dX4_mending_17 : decode cX4_mending 17 = .ok (.iconst 0, 1) := by decide +kernel
theorem dX4_mending_18 : decode cX4_mending 18 = .ok (.aaload, 1) := by decide +kernel
theorem dX4_mending_19 : decode cX4_mending 19 = .ok (.aload_n 0, 1) := by decide +kernel
theorem dX4_mending_20 : decode cX4_mending 20 = .ok (.getfield 10, 3) := by decide +kernel
theorem dX4_mending_23 : decode cX4_mending 23 = .ok (.getfield 89, 3) := by decide +kernel
theorem dX4_mending_26 : decode cX4_mending 26 = .ok (.iload_n 1, 1) := by decide +kernel
theorem dX4_mending_27 : decode cX4_mending 27 = .ok (.aaload, 1) := by decide +kernel
theorem dX4_mending_28 : decode cX4_mending 28 = .ok (.invokevirtual 187, 3) := by decide +kernel
theorem dX4_mending_31 : decode cX4_mending 31 = .ok (.iconst 0, 1) := by decide +kernel
theorem dX4_mending_32 : decode cX4_mending 32 = .ok (.istore_n 2, 1) := by decide +kernel
theorem dX4_mending_33 : decode cX4_mending 33 = .ok (.iload_n 2, 1) := by decide +kernel
theorem dX4_mending_34 : decode cX4_mending 34 = .ok (.iconst 3, 1) := by decide +kernel
theorem dX4_mending_35 : decode cX4_mending 35 = .ok (.if_icmp .gt 32, 3) := by decide +kernel
theorem dX4_mending_38 : decode cX4_mending 38 = .ok (.aload_n 0, 1) := by decide +kernel
theorem dX4_mending_39 : decode cX4_mending 39 = .ok (.getfield 10, 3) := by decide +kernel
theorem dX4_mending_42 : decode cX4_mending 42 = .ok (.aload_n 0, 1) := by decide +kernel
theorem dX4_mending_43 : decode cX4_mending 43 = .ok (.getfield 40, 3) := by decide +kernel
theorem dX4_mending_46 : decode cX4_mending 46 = .ok (.iconst 0, 1) := by decide +kernel
theorem dX4_mending_47 : decode cX4_mending 47 = .ok (.iconst 0, 1) := by decide +kernel
theorem dX4_mending_48 : decode cX4_mending 48 = .ok (.iload_n 2, 1) := by decide +kernel
theorem dX4_mending_49 : decode cX4_mending 49 = .ok (.invokestatic 191, 3) := by decide +kernel
theorem dX4_mending_52 : decode cX4_mending 52 = .ok (.istore_n 3, 1) := by decide +kernel
theorem dX4_mending_53 : decode cX4_mending 53 = .ok (.iload_n 3, 1) := by decide +kernel
theorem dX4_mending_54 : decode cX4_mending 54 = .ok (.bipush (-6), 2) := by decide +kernel
theorem dX4_mending_56 : decode cX4_mending 56 = .ok (.if_icmp .eq 5, 3) := by decide +kernel
theorem dX4_mending_59 : decode cX4_mending 59 = .ok (.iload_n 3, 1) := by decide +kernel
theorem dX4_mending_60 : decode cX4_mending 60 = .ok (.ireturn, 1) := by decide +kernel
theorem dX4_mending_61 : decode cX4_mending 61 = .ok (.iinc 2 1, 3) := by decide +kernel
theorem dX4_mending_64 : decode cX4_mending 64 = .ok (.goto (-31), 3) := by decide +kernel
theorem dX4_mending_67 : decode cX4_mending 67 = .ok (.bipush (-6), 2) := by decide +kernel
theorem dX4_mending_69 : decode cX4_mending 69 = .ok (.ireturn, 1) := by decide +kernel
set_option maxRecDepth 20000 in
theorem ggX4_rightFrom_X3_hasOwner : GoodIn wsX4_rightFrom wsX3_hasOwner := goodIn_r _ [6, 7, 80, 81, 82, 83, 84, 85, 86, 87] (by decide +kernel) (by decide +kernel)
set_option maxRecDepth 20000 in
theorem gX4_rightFrom_X3_hasOwner : GoodIn wsX4_rightFrom (wsV RX4 74 RX3 yX3_hasOwner wsX3_hasOwner) := goodIn_app (goodIn_of _ (by decide +kernel)) ggX4_rightFrom_X3_hasOwner
set_option maxRecDepth 20000 in
theorem ggX4_rightFrom_X4_tried : GoodIn wsX4_rightFrom wsX4_tried := goodIn_r _ [12, 13, 1, 14, 15, 16, 17, 18, 19, 20, 21, 22, 23, 24, 25, 26, 27, 5, 28, 29, 30, 31, 32, 33, 34, 35, 36, 37, 38, 39, 40, 41, 42, 43, 44, 45, 46, 47, 48, 49, 50, 51, 52, 53, 54, 55, 56, 57, 58, 59, 60, 61, 62, 63, 64, 65, 66, 67, 68, 69, 74, 75, 76, 77, 78, 79, 80, 81, 82, 83, 84, 85, 86, 87, 88, 89] (by decide +kernel) (by decide +kernel)
set_option maxRecDepth 20000 in
theorem gX4_rightFrom_X4_tried : GoodIn wsX4_rightFrom (wsV RX4 179 RX4 yX4_tried wsX4_tried) := goodIn_app (goodIn_of _ (by decide +kernel)) ggX4_rightFrom_X4_tried
set_option maxRecDepth 20000 in
theorem ggX4_rightFrom_X0_isSameAs : GoodIn wsX4_rightFrom wsX0_isSameAs := goodIn_r _ [73, 20, 19, 88, 89] (by decide +kernel) (by decide +kernel)
set_option maxRecDepth 20000 in
theorem gX4_rightFrom_X0_isSameAs : GoodIn wsX4_rightFrom (wsV RX4 159 RX0 yX0_isSameAs wsX0_isSameAs) := goodIn_app (goodIn_of _ (by decide +kernel)) ggX4_rightFrom_X0_isSameAs
theorem dX4_rightFrom_0 : decode cX4_rightFrom 0 = .ok (.aload_n 0, 1) := by decide +kernel
theorem dX4_rightFrom_1 : decode cX4_rightFrom 1 = .ok (.getfield 10, 3) := by decide +kernel
theorem dX4_rightFrom_4 : decode cX4_rightFrom 4 = .ok (.iload_n 1, 1) := by decide +kernel
theorem dX4_rightFrom_5 : decode cX4_rightFrom 5 = .ok (.invokevirtual 74, 3) := by decide +kernel
theorem dX4_rightFrom_8 : decode cX4_rightFrom 8 = .ok (.ifCond .ne 5, 3) := by decide +kernel
theorem dX4_rightFrom_11 : decode cX4_rightFrom 11 = .ok (.iconst (-1), 1) := by decide +kernel
theorem dX4_rightFrom_12 : decode cX4_rightFrom 12 = .ok (.ireturn, 1) := by decide +kernel
theorem dX4_rightFrom_13 : decode cX4_rightFrom 13 = .ok (.aload_n 0, 1) := by decide +kernel
theorem dX4_rightFrom_14 : decode cX4_rightFrom 14 = .ok (.getfield 10, 3) := by decide +kernel
theorem dX4_rightFrom_17 : decode cX4_rightFrom 17 = .ok (.getfield 53, 3) := by decide +kernel
theorem dX4_rightFrom_20 : decode cX4_rightFrom 20 = .ok (.istore_n 2, 1) := by decide +kernel
theorem dX4_rightFrom_21 : decode cX4_rightFrom 21 = .ok (.iload_n 2, 1) := by decide +kernel
theorem dX4_rightFrom_22 : decode cX4_rightFrom 22 = .ok (.ifCond .lt 44, 3) := by decide +kernel
theorem dX4_rightFrom_25 : decode cX4_rightFrom 25 = .ok (.iconst 1, 1) := by decide +kernel
theorem dX4_rightFrom_26 : decode cX4_rightFrom 26 = .ok (.aload_n 0, 1) := by decide +kernel
theorem dX4_rightFrom_27 : decode cX4_rightFrom 27 = .ok (.getfield 10, 3) := by decide +kernel
theorem dX4_rightFrom_30 : decode cX4_rightFrom 30 = .ok (.getfield 53, 3) := by decide +kernel
theorem dX4_rightFrom_33 : decode cX4_rightFrom 33 = .ok (.ishl, 1) := by decide +kernel
theorem dX4_rightFrom_34 : decode cX4_rightFrom 34 = .ok (.iconst 1, 1) := by decide +kernel
theorem dX4_rightFrom_35 : decode cX4_rightFrom 35 = .ok (.iload_n 2, 1) := by decide +kernel
theorem dX4_rightFrom_36 : decode cX4_rightFrom 36 = .ok (.ishl, 1) := by decide +kernel
theorem dX4_rightFrom_37 : decode cX4_rightFrom 37 = .ok (.isub, 1) := by decide +kernel
theorem dX4_rightFrom_38 : decode cX4_rightFrom 38 = .ok (.istore_n 3, 1) := by decide +kernel
theorem dX4_rightFrom_39 : decode cX4_rightFrom 39 = .ok (.aload_n 0, 1) := by decide +kernel
theorem dX4_rightFrom_40 : decode cX4_rightFrom 40 = .ok (.iload_n 1, 1) := by decide +kernel
theorem dX4_rightFrom_41 : decode cX4_rightFrom 41 = .ok (.iload_n 3, 1) := by decide +kernel
theorem dX4_rightFrom_42 : decode cX4_rightFrom 42 = .ok (.invokevirtual 179, 3) := by decide +kernel
theorem dX4_rightFrom_45 : decode cX4_rightFrom 45 = .ok (.aload_n 0, 1) := by decide +kernel
theorem dX4_rightFrom_46 : decode cX4_rightFrom 46 = .ok (.getfield 10, 3) := by decide +kernel
theorem dX4_rightFrom_49 : decode cX4_rightFrom 49 = .ok (.getfield 138, 3) := by decide +kernel
theorem dX4_rightFrom_52 : decode cX4_rightFrom 52 = .ok (.invokevirtual 159, 3) := by decide +kernel
theorem dX4_rightFrom_55 : decode cX4_rightFrom 55 = .ok (.ifCond .eq 5, 3) := by decide +kernel
theorem dX4_rightFrom_58 : decode cX4_rightFrom 58 = .ok (.iload_n 2, 1) := by decide +kernel
theorem dX4_rightFrom_59 : decode cX4_rightFrom 59 = .ok (.ireturn, 1) := by decide +kernel
theorem dX4_rightFrom_60 : decode cX4_rightFrom 60 = .ok (.iinc 2 (-1), 3) := by decide +kernel
theorem dX4_rightFrom_63 : decode cX4_rightFrom 63 = .ok (.goto (-42), 3) := by decide +kernel
theorem dX4_rightFrom_66 : decode cX4_rightFrom 66 = .ok (.bipush (-6), 2) := by decide +kernel
theorem dX4_rightFrom_68 : decode cX4_rightFrom 68 = .ok (.ireturn, 1) := by decide +kernel
set_option maxRecDepth 20000 in
theorem ggX4_put_X2_charactersIn : GoodIn wsX4_put wsX2_charactersIn := goodIn_r _ [5, 6, 7, 8] (by decide +kernel) (by decide +kernel)
set_option maxRecDepth 20000 in
theorem gX4_put_X2_charactersIn : GoodIn wsX4_put (va_wsS RX4 195 yX2_charactersIn wsX2_charactersIn) := goodIn_app (goodIn_of _ (by decide +kernel)) ggX4_put_X2_charactersIn
set_option maxRecDepth 20000 in
theorem ggX4_put_X2_append : GoodIn wsX4_put wsX2_append := goodIn_r _ [12, 13, 14, 6, 21, 22] (by decide +kernel) (by decide +kernel)
set_option maxRecDepth 20000 in
theorem gX4_put_X2_append : GoodIn wsX4_put (wsV RX4 199 RX2 yX2_append wsX2_append) := goodIn_app (goodIn_of _ (by decide +kernel)) ggX4_put_X2_append
theorem dX4_put_0 : decode cX4_put 0 = .ok (.lload_n 1, 1) := by decide +kernel
theorem dX4_put_1 : decode cX4_put 1 = .ok (.invokestatic 195, 3) := by decide +kernel
theorem dX4_put_4 : decode cX4_put 4 = .ok (.istore_n 3, 1) := by decide +kernel
theorem dX4_put_5 : decode cX4_put 5 = .ok (.iload_n 3, 1) := by decide +kernel
theorem dX4_put_6 : decode cX4_put 6 = .ok (.ifCond .ne 6, 3) := by decide +kernel
theorem dX4_put_9 : decode cX4_put 9 = .ok (.bipush (-2), 2) := by decide +kernel
theorem dX4_put_11 : decode cX4_put 11 = .ok (.ireturn, 1) := by decide +kernel
theorem dX4_put_12 : decode cX4_put 12 = .ok (.aload_n 0, 1) := by decide +kernel
theorem dX4_put_13 : decode cX4_put 13 = .ok (.getfield 34, 3) := by decide +kernel
theorem dX4_put_16 : decode cX4_put 16 = .ok (.getfield 175, 3) := by decide +kernel
theorem dX4_put_19 : decode cX4_put 19 = .ok (.iload_n 3, 1) := by decide +kernel
theorem dX4_put_20 : decode cX4_put 20 = .ok (.iadd, 1) := by decide +kernel
theorem dX4_put_21 : decode cX4_put 21 = .ok (.bipush 48, 2) := by decide +kernel
theorem dX4_put_23 : decode cX4_put 23 = .ok (.if_icmp .le 6, 3) := by decide +kernel
theorem dX4_put_26 : decode cX4_put 26 = .ok (.bipush (-4), 2) := by decide +kernel
theorem dX4_put_28 : decode cX4_put 28 = .ok (.ireturn, 1) := by decide +kernel
theorem dX4_put_29 : decode cX4_put 29 = .ok (.aload_n 0, 1) := by decide +kernel
theorem dX4_put_30 : decode cX4_put 30 = .ok (.getfield 34, 3) := by decide +kernel
theorem dX4_put_33 : decode cX4_put 33 = .ok (.lload_n 1, 1) := by decide +kernel
theorem dX4_put_34 : decode cX4_put 34 = .ok (.iload_n 3, 1) := by decide +kernel
theorem dX4_put_35 : decode cX4_put 35 = .ok (.invokevirtual 199, 3) := by decide +kernel
theorem dX4_put_38 : decode cX4_put 38 = .ok (.aload_n 0, 1) := by decide +kernel
theorem dX4_put_39 : decode cX4_put 39 = .ok (.getfield 34, 3) := by decide +kernel
theorem dX4_put_42 : decode cX4_put 42 = .ok (.getfield 175, 3) := by decide +kernel
theorem dX4_put_45 : decode cX4_put 45 = .ok (.ireturn, 1) := by decide +kernel
set_option maxRecDepth 20000 in
theorem ggX4_wipe_X2_empty : GoodIn wsX4_wipe wsX2_empty := goodIn_r _ [6, 7, 14, 15] (by decide +kernel) (by decide +kernel)
set_option maxRecDepth 20000 in
theorem gX4_wipe_X2_empty : GoodIn wsX4_wipe (wsV RX4 65 RX2 yX2_empty wsX2_empty) := goodIn_app (goodIn_of _ (by decide +kernel)) ggX4_wipe_X2_empty
theorem dX4_wipe_0 : decode cX4_wipe 0 = .ok (.aload_n 0, 1) := by decide +kernel
theorem dX4_wipe_1 : decode cX4_wipe 1 = .ok (.getfield 34, 3) := by decide +kernel
theorem dX4_wipe_4 : decode cX4_wipe 4 = .ok (.getfield 175, 3) := by decide +kernel
theorem dX4_wipe_7 : decode cX4_wipe 7 = .ok (.istore_n 1, 1) := by decide +kernel
theorem dX4_wipe_8 : decode cX4_wipe 8 = .ok (.aload_n 0, 1) := by decide +kernel
theorem dX4_wipe_9 : decode cX4_wipe 9 = .ok (.getfield 34, 3) := by decide +kernel
theorem dX4_wipe_12 : decode cX4_wipe 12 = .ok (.invokevirtual 65, 3) := by decide +kernel
theorem dX4_wipe_15 : decode cX4_wipe 15 = .ok (.iload_n 1, 1) := by decide +kernel
theorem dX4_wipe_16 : decode cX4_wipe 16 = .ok (.ireturn, 1) := by decide +kernel
set_option maxRecDepth 20000 in
theorem ggX4_fault_X2_firstFault : GoodIn wsX4_fault wsX2_firstFault := goodIn_r _ [6, 7, 8, 9, 10, 5, 11, 18, 19] (by decide +kernel) (by decide +kernel)
set_option maxRecDepth 20000 in
theorem gX4_fault_X2_firstFault : GoodIn wsX4_fault (wsV RX4 45 RX2 yX2_firstFault wsX2_firstFault) := goodIn_app (goodIn_of _ (by decide +kernel)) ggX4_fault_X2_firstFault
theorem dX4_fault_0 : decode cX4_fault 0 = .ok (.aload_n 0, 1) := by decide +kernel
theorem dX4_fault_1 : decode cX4_fault 1 = .ok (.getfield 34, 3) := by decide +kernel
theorem dX4_fault_4 : decode cX4_fault 4 = .ok (.invokevirtual 45, 3) := by decide +kernel
theorem dX4_fault_7 : decode cX4_fault 7 = .ok (.ireturn, 1) := by decide +kernel
set_option maxRecDepth 20000 in
theorem ggX4_undo_X1_takeBack : GoodIn wsX4_undo wsX1_takeBack := goodIn_r _ [7, 8, 9, 10, 11, 12, 13, 14, 15, 16, 17, 18, 19, 20, 21, 22, 23, 24, 25, 26, 27, 28, 29, 30, 31, 32, 33, 34, 35, 42, 43, 44, 45, 46, 47, 48, 49, 50, 51, 52, 53, 54] (by decide +kernel) (by decide +kernel)
set_option maxRecDepth 20000 in
theorem gX4_undo_X1_takeBack : GoodIn wsX4_undo (wsV RX4 203 RX1 yX1_takeBack wsX1_takeBack) := goodIn_app (goodIn_of _ (by decide +kernel)) ggX4_undo_X1_takeBack
theorem dX4_undo_0 : decode cX4_undo 0 = .ok (.aload_n 0, 1) := by decide +kernel
theorem dX4_undo_1 : decode cX4_undo 1 = .ok (.getfield 19, 3) := by decide +kernel
theorem dX4_undo_4 : decode cX4_undo 4 = .ok (.getfield 178, 3) := by decide +kernel
theorem dX4_undo_7 : decode cX4_undo 7 = .ok (.ifCond .ne 6, 3) := by decide +kernel
theorem dX4_undo_10 : decode cX4_undo 10 = .ok (.bipush (-5), 2) := by decide +kernel
theorem dX4_undo_12 : decode cX4_undo 12 = .ok (.ireturn, 1) := by decide +kernel
theorem dX4_undo_13 : decode cX4_undo 13 = .ok (.aload_n 0, 1) := by decide +kernel
theorem dX4_undo_14 : decode cX4_undo 14 = .ok (.getfield 19, 3) := by decide +kernel
theorem dX4_undo_17 : decode cX4_undo 17 = .ok (.aload_n 0, 1) := by decide +kernel
theorem dX4_undo_18 : decode cX4_undo 18 = .ok (.getfield 10, 3) := by decide +kernel
theorem dX4_undo_21 : decode cX4_undo 21 = .ok (.invokevirtual 203, 3) := by decide +kernel
theorem dX4_undo_24 : decode cX4_undo 24 = .ok (.aload_n 0, 1) := by decide +kernel
theorem dX4_undo_25 : decode cX4_undo 25 = .ok (.getfield 19, 3) := by decide +kernel
theorem dX4_undo_28 : decode cX4_undo 28 = .ok (.getfield 178, 3) := by decide +kernel
theorem dX4_undo_31 : decode cX4_undo 31 = .ok (.ireturn, 1) := by decide +kernel
set_option maxRecDepth 20000 in
theorem ggX4_save_X4_isSlot : GoodIn wsX4_save wsX4_isSlot := goodIn_r _ [7] (by decide +kernel) (by decide +kernel)
set_option maxRecDepth 20000 in
theorem gX4_save_X4_isSlot : GoodIn wsX4_save (va_wsS RX4 206 yX4_isSlot wsX4_isSlot) := goodIn_app (goodIn_of _ (by decide +kernel)) ggX4_save_X4_isSlot
set_option maxRecDepth 20000 in
theorem ggX4_save_X3_copy : GoodIn wsX4_save wsX3_copy := goodIn_r _ [12, 13, 14, 15, 16, 17, 18, 19, 20, 21, 22, 23, 24, 25, 26, 27, 28, 29, 30, 31, 32, 39, 40, 41, 42, 43, 44, 45, 46, 47, 48] (by decide +kernel) (by decide +kernel)
set_option maxRecDepth 20000 in
theorem gX4_save_X3_copy : GoodIn wsX4_save (wsV RX4 209 RX3 yX3_copy wsX3_copy) := goodIn_app (goodIn_of _ (by decide +kernel)) ggX4_save_X3_copy
theorem dX4_save_0 : decode cX4_save 0 = .ok (.iload_n 1, 1) := by decide +kernel
theorem dX4_save_1 : decode cX4_save 1 = .ok (.invokestatic 206, 3) := by decide +kernel
theorem dX4_save_4 : decode cX4_save 4 = .ok (.ifCond .ne 6, 3) := by decide +kernel
theorem dX4_save_7 : decode cX4_save 7 = .ok (.bipush (-2), 2) := by decide +kernel
theorem dX4_save_9 : decode cX4_save 9 = .ok (.ireturn, 1) := by decide +kernel
theorem dX4_save_10 : decode cX4_save 10 = .ok (.aload_n 0, 1) := by decide +kernel
theorem dX4_save_11 : decode cX4_save 11 = .ok (.getfield 23, 3) := by decide +kernel
theorem dX4_save_14 : decode cX4_save 14 = .ok (.iload_n 1, 1) := by decide +kernel
theorem dX4_save_15 : decode cX4_save 15 = .ok (.aaload, 1) := by decide +kernel
theorem dX4_save_16 : decode cX4_save 16 = .ok (.aload_n 0, 1) := by decide +kernel
theorem dX4_save_17 : decode cX4_save 17 = .ok (.getfield 10, 3) := by decide +kernel
theorem dX4_save_20 : decode cX4_save 20 = .ok (.invokevirtual 209, 3) := by decide +kernel
theorem dX4_save_23 : decode cX4_save 23 = .ok (.aload_n 0, 1) := by decide +kernel
theorem dX4_save_24 : decode cX4_save 24 = .ok (.getfield 27, 3) := by decide +kernel
theorem dX4_save_27 : decode cX4_save 27 = .ok (.iload_n 1, 1) := by decide +kernel
theorem dX4_save_28 : decode cX4_save 28 = .ok (.iconst 1, 1) := by decide +kernel
theorem dX4_save_29 : decode cX4_save 29 = .ok (.bastore, 1) := by decide +kernel
theorem dX4_save_30 : decode cX4_save 30 = .ok (.aload_n 0, 1) := by decide +kernel
theorem dX4_save_31 : decode cX4_save 31 = .ok (.getfield 10, 3) := by decide +kernel
theorem dX4_save_34 : decode cX4_save 34 = .ok (.getfield 53, 3) := by decide +kernel
theorem dX4_save_37 : decode cX4_save 37 = .ok (.ireturn, 1) := by decide +kernel
set_option maxRecDepth 20000 in
theorem ggX4_restore_X4_isSlot : GoodIn wsX4_restore wsX4_isSlot := goodIn_r _ [8] (by decide +kernel) (by decide +kernel)
set_option maxRecDepth 20000 in
theorem gX4_restore_X4_isSlot : GoodIn wsX4_restore (va_wsS RX4 206 yX4_isSlot wsX4_isSlot) := goodIn_app (goodIn_of _ (by decide +kernel)) ggX4_restore_X4_isSlot
set_option maxRecDepth 20000 in
theorem ggX4_restore_X1_record : GoodIn wsX4_restore wsX1_record := goodIn_r _ [13, 14, 15, 16, 17, 18, 19, 20, 21, 22, 23, 24, 25, 26, 27, 28, 29, 30, 31, 32, 33, 34, 35, 36, 37, 38, 39, 40, 41, 57, 58, 59, 49, 50, 51, 52, 53, 54, 55, 56, 60, 61] (by decide +kernel) (by decide +kernel)
set_option maxRecDepth 20000 in
theorem gX4_restore_X1_record : GoodIn wsX4_restore (wsV RX4 57 RX1 yX1_record wsX1_record) := goodIn_app (goodIn_of _ (by decide +kernel)) ggX4_restore_X1_record
set_option maxRecDepth 20000 in
theorem ggX4_restore_X3_copy : GoodIn wsX4_restore wsX3_copy := goodIn_r _ [21, 22, 23, 24, 25, 26, 27, 28, 29, 30, 31, 32, 33, 34, 35, 36, 37, 38, 39, 40, 41, 49, 50, 51, 52, 53, 54, 55, 56, 60, 61] (by decide +kernel) (by decide +kernel)
set_option maxRecDepth 20000 in
theorem gX4_restore_X3_copy : GoodIn wsX4_restore (wsV RX4 209 RX3 yX3_copy wsX3_copy) := goodIn_app (goodIn_of _ (by decide +kernel)) ggX4_restore_X3_copy
theorem dX4_restore_0 : decode cX4_restore 0 = .ok (.iload_n 1, 1) := by decide +kernel
theorem dX4_restore_1 : decode cX4_restore 1 = .ok (.invokestatic 206, 3) := by decide +kernel
theorem dX4_restore_4 : decode cX4_restore 4 = .ok (.ifCond .ne 6, 3) := by decide +kernel
theorem dX4_restore_7 : decode cX4_restore 7 = .ok (.bipush (-2), 2) := by decide +kernel
theorem dX4_restore_9 : decode cX4_restore 9 = .ok (.ireturn, 1) := by decide +kernel
theorem dX4_restore_10 : decode cX4_restore 10 = .ok (.aload_n 0, 1) := by decide +kernel
theorem dX4_restore_11 : decode cX4_restore 11 = .ok (.getfield 27, 3) := by decide +kernel
theorem dX4_restore_14 : decode cX4_restore 14 = .ok (.iload_n 1, 1) := by decide +kernel
theorem dX4_restore_15 : decode cX4_restore 15 = .ok (.baload, 1) := by decide +kernel
theorem dX4_restore_16 : decode cX4_restore 16 = .ok (.ifCond .ne 6, 3) := by decide +kernel
theorem dX4_restore_19 : decode cX4_restore 19 = .ok (.bipush (-5), 2) := by decide +kernel
theorem dX4_restore_21 : decode cX4_restore 21 = .ok (.ireturn, 1) := by decide +kernel
theorem dX4_restore_22 : decode cX4_restore 22 = .ok (.aload_n 0, 1) := by decide +kernel
theorem dX4_restore_23 : decode cX4_restore 23 = .ok (.getfield 19, 3) := by decide +kernel
theorem dX4_restore_26 : decode cX4_restore 26 = .ok (.aload_n 0, 1) := by decide +kernel
theorem dX4_restore_27 : decode cX4_restore 27 = .ok (.getfield 10, 3) := by decide +kernel
theorem dX4_restore_30 : decode cX4_restore 30 = .ok (.invokevirtual 57, 3) := by decide +kernel
theorem dX4_restore_33 : decode cX4_restore 33 = .ok (.aload_n 0, 1) := by decide +kernel
theorem dX4_restore_34 : decode cX4_restore 34 = .ok (.getfield 10, 3) := by decide +kernel
theorem dX4_restore_37 : decode cX4_restore 37 = .ok (.aload_n 0, 1) := by decide +kernel
theorem dX4_restore_38 : decode cX4_restore 38 = .ok (.getfield 23, 3) := by decide +kernel
theorem dX4_restore_41 : decode cX4_restore 41 = .ok (.iload_n 1, 1) := by decide +kernel
theorem dX4_restore_42 : decode cX4_restore 42 = .ok (.aaload, 1) := by decide +kernel
theorem dX4_restore_43 : decode cX4_restore 43 = .ok (.invokevirtual 209, 3) := by decide +kernel
theorem dX4_restore_46 : decode cX4_restore 46 = .ok (.aload_n 0, 1) := by decide +kernel
theorem dX4_restore_47 : decode cX4_restore 47 = .ok (.getfield 10, 3) := by decide +kernel
theorem dX4_restore_50 : decode cX4_restore 50 = .ok (.getfield 53, 3) := by decide +kernel
theorem dX4_restore_53 : decode cX4_restore 53 = .ok (.ireturn, 1) := by decide +kernel
theorem dX4_isNumber_0 : decode cX4_isNumber 0 = .ok (.iload_n 0, 1) := by decide +kernel
theorem dX4_isNumber_1 : decode cX4_isNumber 1 = .ok (.bipush 10, 2) := by decide +kernel
theorem dX4_isNumber_3 : decode cX4_isNumber 3 = .ok (.if_icmp .lt 13, 3) := by decide +kernel
theorem dX4_isNumber_6 : decode cX4_isNumber 6 = .ok (.iload_n 0, 1) := by decide +kernel
theorem dX4_isNumber_7 : decode cX4_isNumber 7 = .ok (.bipush 99, 2) := by decide +kernel
theorem dX4_isNumber_9 : decode cX4_isNumber 9 = .ok (.if_icmp .gt 7, 3) := by decide +kernel
theorem dX4_isNumber_12 : decode cX4_isNumber 12 = .ok (.iconst 1, 1) := by decide +kernel
theorem dX4_isNumber_13 : decode cX4_isNumber 13 = .ok (.goto 4, 3) := by decide +kernel
theorem dX4_isNumber_16 : decode cX4_isNumber 16 = .ok (.iconst 0, 1) := by decide +kernel
theorem dX4_isNumber_17 : decode cX4_isNumber 17 = .ok (.ireturn, 1) := by decide +kernel
theorem dX4_isSlot_0 : decode cX4_isSlot 0 = .ok (.iload_n 0, 1) := by decide +kernel
theorem dX4_isSlot_1 : decode cX4_isSlot 1 = .ok (.ifCond .lt 12, 3) := by decide +kernel
theorem dX4_isSlot_4 : decode cX4_isSlot 4 = .ok (.iload_n 0, 1) := by decide +kernel
theorem dX4_isSlot_5 : decode cX4_isSlot 5 = .ok (.iconst 2, 1) := by decide +kernel
theorem dX4_isSlot_6 : decode cX4_isSlot 6 = .ok (.if_icmp .ge 7, 3) := by decide +kernel
theorem dX4_isSlot_9 : decode cX4_isSlot 9 = .ok (.iconst 1, 1) := by decide +kernel
theorem dX4_isSlot_10 : decode cX4_isSlot 10 = .ok (.goto 4, 3) := by decide +kernel
theorem dX4_isSlot_13 : decode cX4_isSlot 13 = .ok (.iconst 0, 1) := by decide +kernel
theorem dX4_isSlot_14 : decode cX4_isSlot 14 = .ok (.ireturn, 1) := by decide +kernel
set_option maxRecDepth 20000 in
theorem ggX4_tried_X0_copy : GoodIn wsX4_tried wsX0_copy := goodIn_r _ [7, 8, 9, 10, 11, 12, 13, 74, 75] (by decide +kernel) (by decide +kernel)
set_option maxRecDepth 20000 in
theorem gX4_tried_X0_copy : GoodIn wsX4_tried (wsV RX4 187 RX0 yX0_copy wsX0_copy) := goodIn_app (goodIn_of _ (by decide +kernel)) ggX4_tried_X0_copy
set_option maxRecDepth 20000 in
theorem ggX4_tried_X3_doSetWithCare : GoodIn wsX4_tried wsX3_doSetWithCare := goodIn_r _ [18, 19, 20, 21, 22, 17, 23, 24, 25, 26, 27, 28, 29, 30, 31, 32, 6, 33, 34, 35, 36, 37, 38, 39, 40, 41, 42, 43, 44, 9, 8, 45, 46, 47, 48, 49, 50, 51, 52, 53, 54, 55, 10, 11, 12, 13, 56, 57, 58, 59, 66, 67, 68, 69, 70, 71, 72, 73, 74, 75] (by decide +kernel) (by decide +kernel)
set_option maxRecDepth 20000 in
theorem gX4_tried_X3_doSetWithCare : GoodIn wsX4_tried (wsV RX4 102 RX3 yX3_doSetWithCare wsX3_doSetWithCare) := goodIn_app (goodIn_of _ (by decide +kernel)) ggX4_tried_X3_doSetWithCare
theorem dX4_tried_0 : decode cX4_tried 0 = .ok (.aload_n 0, 1) := by decide +kernel
theorem dX4_tried_1 : decode cX4_tried 1 = .ok (.getfield 40, 3) := by decide +kernel
theorem dX4_tried_4 : decode cX4_tried 4 = .ok (.iconst 0, 1) := by decide +kernel
theorem dX4_tried_5 : decode cX4_tried 5 = .ok (.aaload, 1) := by decide +kernel
theorem dX4_tried_6 : decode cX4_tried 6 = .ok (.astore_n 3, 1) := by decide +kernel
theorem dX4_tried_7 : decode cX4_tried 7 = .ok (.aload_n 3, 1) := by decide +kernel
theorem dX4_tried_8 : decode cX4_tried 8 = .ok (.aload_n 0, 1) := by decide +kernel
theorem dX4_tried_9 : decode cX4_tried 9 = .ok (.getfield 10, 3) := by decide +kernel
theorem dX4_tried_12 : decode cX4_tried 12 = .ok (.getfield 89, 3) := by decide +kernel
theorem dX4_tried_15 : decode cX4_tried 15 = .ok (.iload_n 1, 1) := by decide +kernel
theorem dX4_tried_16 : decode cX4_tried 16 = .ok (.aaload, 1) := by decide +kernel
theorem dX4_tried_17 : decode cX4_tried 17 = .ok (.invokevirtual 187, 3) := by decide +kernel
theorem dX4_tried_20 : decode cX4_tried 20 = .ok (.aload_n 0, 1) := by decide +kernel
theorem dX4_tried_21 : decode cX4_tried 21 = .ok (.getfield 10, 3) := by decide +kernel
theorem dX4_tried_24 : decode cX4_tried 24 = .ok (.aload_n 3, 1) := by decide +kernel
theorem dX4_tried_25 : decode cX4_tried 25 = .ok (.iload_n 2, 1) := by decide +kernel
theorem dX4_tried_26 : decode cX4_tried 26 = .ok (.invokevirtual 102, 3) := by decide +kernel
theorem dX4_tried_29 : decode cX4_tried 29 = .ok (.aload_n 3, 1) := by decide +kernel
theorem dX4_tried_30 : decode cX4_tried 30 = .ok (.areturn, 1) := by decide +kernel
set_option maxRecDepth 20000 in
theorem ggX4_lowestMending_X0_isSameAs : GoodIn wsX4_lowestMending wsX0_isSameAs := goodIn_r _ [9, 10, 11, 72, 73] (by decide +kernel) (by decide +kernel)
set_option maxRecDepth 20000 in
theorem gX4_lowestMending_X0_isSameAs : GoodIn wsX4_lowestMending (wsV RX4 159 RX0 yX0_isSameAs wsX0_isSameAs) := goodIn_app (goodIn_of _ (by decide +kernel)) ggX4_lowestMending_X0_isSameAs
set_option maxRecDepth 20000 in
theorem ggX4_lowestMending_X0_copy : GoodIn wsX4_lowestMending wsX0_copy := goodIn_r _ [15, 11, 10, 16, 17, 18, 19, 72, 73] (by decide +kernel) (by decide +kernel)
set_option maxRecDepth 20000 in
theorem gX4_lowestMending_X0_copy : GoodIn wsX4_lowestMending (wsV RX4 187 RX0 yX0_copy wsX0_copy) := goodIn_app (goodIn_of _ (by decide +kernel)) ggX4_lowestMending_X0_copy
set_option maxRecDepth 20000 in
theorem ggX4_lowestMending_X3_doWithCare : GoodIn wsX4_lowestMending wsX3_doWithCare := goodIn_r _ [24, 25, 26, 27, 28, 23, 29, 30, 31, 32, 33, 8, 34, 35, 36, 37, 38, 39, 40, 41, 42, 43, 44, 45, 10, 11, 46, 47, 48, 49, 50, 51, 52, 53, 54, 55, 56, 16, 17, 18, 19, 57, 58, 59, 60, 64, 65, 66, 67, 68, 69, 70, 71, 72, 73] (by decide +kernel) (by decide +kernel)
set_option maxRecDepth 20000 in
theorem gX4_lowestMending_X3_doWithCare : GoodIn wsX4_lowestMending (wsV RX4 92 RX3 yX3_doWithCare wsX3_doWithCare) := goodIn_app (goodIn_of _ (by decide +kernel)) ggX4_lowestMending_X3_doWithCare
set_option maxRecDepth 20000 in
theorem ggX4_lowestMending_X4_lowestMending : GoodIn wsX4_lowestMending wsX4_lowestMending := goodIn_r _ [0, 1, 2, 3, 4, 5, 6, 7, 8, 9, 10, 11, 12, 13, 14, 15, 16, 17, 18, 19, 20, 21, 22, 23, 24, 25, 26, 27, 28, 29, 30, 31, 32, 33, 34, 35, 36, 37, 38, 39, 40, 41, 42, 43, 44, 45, 46, 47, 48, 49, 50, 51, 52, 53, 54, 55, 56, 57, 58, 59, 60, 61, 62, 63, 64, 65, 66, 67, 68, 69, 70, 71, 72, 73] (by decide +kernel) (by decide +kernel)
set_option maxRecDepth 20000 in
theorem gX4_lowestMending_X4_lowestMending : GoodIn wsX4_lowestMending (va_wsS RX4 191 yX4_lowestMending wsX4_lowestMending) := goodIn_app (goodIn_of _ (by decide +kernel)) ggX4_lowestMending_X4_lowestMending
theorem dX4_lowestMending_0 : decode cX4_lowestMending 0 = .ok (.iload 4, 2) := by decide +kernel
theorem dX4_lowestMending_2 : decode cX4_lowestMending 2 = .ok (.ifCond .le 8, 3) := by decide +kernel
theorem dX4_lowestMending_5 : decode cX4_lowestMending 5 = .ok (.iload_n 2, 1) := by decide +kernel
theorem dX4_lowestMending_6 : decode cX4_lowestMending 6 = .ok (.iconst 3, 1) := by decide +kernel
theorem dX4_lowestMending_7 : decode cX4_lowestMending 7 = .ok (.if_icmp .lt 23, 3) := by decide +kernel
theorem dX4_lowestMending_10 : decode cX4_lowestMending 10 = .ok (.aload_n 1, 1) := by decide +kernel
theorem dX4_lowestMending_11 : decode cX4_lowestMending 11 = .ok (.iload_n 2, 1) := by decide +kernel
theorem dX4_lowestMending_12 : decode cX4_lowestMending 12 = .ok (.aaload, 1) := by decide +kernel
theorem dX4_lowestMending_13 : decode cX4_lowestMending 13 = .ok (.aload_n 0, 1) := by decide +kernel
theorem dX4_lowestMending_14 : decode cX4_lowestMending 14 = .ok (.getfield 138, 3) := by decide +kernel
theorem dX4_lowestMending_17 : decode cX4_lowestMending 17 = .ok (.invokevirtual 159, 3) := by decide +kernel
theorem dX4_lowestMending_20 : decode cX4_lowestMending 20 = .ok (.ifCond .eq 7, 3) := by decide +kernel
theorem dX4_lowestMending_23 : decode cX4_lowestMending 23 = .ok (.iconst 0, 1) := by decide +kernel
theorem dX4_lowestMending_24 : decode cX4_lowestMending 24 = .ok (.goto 5, 3) := by decide +kernel
theorem dX4_lowestMending_27 : decode cX4_lowestMending 27 = .ok (.bipush (-6), 2) := by decide +kernel
theorem dX4_lowestMending_29 : decode cX4_lowestMending 29 = .ok (.ireturn, 1) := by decide +kernel
theorem dX4_lowestMending_30 : decode cX4_lowestMending 30 = .ok (.bipush (-6), 2) := by decide +kernel
theorem dX4_lowestMending_32 : decode cX4_lowestMending 32 = .ok (.istore 5, 2) := by decide +kernel
theorem dX4_lowestMending_34 : decode cX4_lowestMending 34 = .ok (.iload_n 3, 1) := by decide +kernel
theorem dX4_lowestMending_35 : decode cX4_lowestMending 35 = .ok (.istore 6, 2) := by decide +kernel
theorem dX4_lowestMending_37 : decode cX4_lowestMending 37 = .ok (.iload 6, 2) := by decide +kernel
theorem dX4_lowestMending_39 : decode cX4_lowestMending 39 = .ok (.aload_n 0, 1) := by decide +kernel
theorem dX4_lowestMending_40 : decode cX4_lowestMending 40 = .ok (.getfield 53, 3) := by decide +kernel
theorem dX4_lowestMending_43 : decode cX4_lowestMending 43 = .ok (.if_icmp .ge 86, 3) := by decide +kernel
theorem dX4_lowestMending_46 : decode cX4_lowestMending 46 = .ok (.aload_n 1, 1) := by decide +kernel
theorem dX4_lowestMending_47 : decode cX4_lowestMending 47 = .ok (.iload_n 2, 1) := by decide +kernel
theorem dX4_lowestMending_48 : decode cX4_lowestMending 48 = .ok (.iconst 1, 1) := by decide +kernel
theorem dX4_lowestMending_49 : decode cX4_lowestMending 49 = .ok (.iadd, 1) := by decide +kernel
theorem dX4_lowestMending_50 : decode cX4_lowestMending 50 = .ok (.aaload, 1) := by decide +kernel
theorem dX4_lowestMending_51 : decode cX4_lowestMending 51 = .ok (.aload_n 1, 1) := by decide +kernel
theorem dX4_lowestMending_52 : decode cX4_lowestMending 52 = .ok (.iload_n 2, 1) := by decide +kernel
theorem dX4_lowestMending_53 : decode cX4_lowestMending 53 = .ok (.aaload, 1) := by decide +kernel
theorem dX4_lowestMending_54 : decode cX4_lowestMending 54 = .ok (.invokevirtual 187, 3) := by decide +kernel
theorem dX4_lowestMending_57 : decode cX4_lowestMending 57 = .ok (.aload_n 0, 1) := by decide +kernel
theorem dX4_lowestMending_58 : decode cX4_lowestMending 58 = .ok (.aload_n 1, 1) := by decide +kernel
theorem dX4_lowestMending_59 : decode cX4_lowestMending 59 = .ok (.iload_n 2, 1) := by decide +kernel
theorem dX4_lowestMending_60 : decode cX4_lowestMending 60 = .ok (.iconst 1, 1) := by decide +kernel
theorem dX4_lowestMending_61 : decode cX4_lowestMending 61 = .ok (.iadd, 1) := by decide +kernel
theorem dX4_lowestMending_62 : decode cX4_lowestMending 62 = .ok (.aaload, 1) := by decide +kernel
theorem dX4_lowestMending_63 : decode cX4_lowestMending 63 = .ok (.iload 6, 2) := by decide +kernel
theorem dX4_lowestMending_65 : decode cX4_lowestMending 65 = .ok (.invokevirtual 92, 3) := by decide +kernel
theorem dX4_lowestMending_68 : decode cX4_lowestMending 68 = .ok (.aload_n 0, 1) := by decide +kernel
theorem dX4_lowestMending_69 : decode cX4_lowestMending 69 = .ok (.aload_n 1, 1) := by decide +kernel
theorem dX4_lowestMending_70 : decode cX4_lowestMending 70 = .ok (.iload_n 2, 1) := by decide +kernel
theorem dX4_lowestMending_71 : decode cX4_lowestMending 71 = .ok (.iconst 1, 1) := by decide +kernel
theorem dX4_lowestMending_72 : decode cX4_lowestMending 72 = .ok (.iadd, 1) := by decide +kernel
theorem dX4_lowestMending_73 : decode cX4_lowestMending 73 = .ok (.iload 6, 2) := by decide +kernel
theorem dX4_lowestMending_75 : decode cX4_lowestMending 75 = .ok (.iconst 1, 1) := by decide +kernel
theorem dX4_lowestMending_76 : decode cX4_lowestMending 76 = .ok (.iadd, 1) := by decide +kernel
theorem dX4_lowestMending_77 : decode cX4_lowestMending 77 = .ok (.iload 4, 2) := by decide +kernel
theorem dX4_lowestMending_79 : decode cX4_lowestMending 79 = .ok (.iconst 1, 1) := by decide +kernel
theorem dX4_lowestMending_80 : decode cX4_lowestMending 80 = .ok (.isub, 1) := by decide +kernel
theorem dX4_lowestMending_81 : decode cX4_lowestMending 81 = .ok (.invokestatic 191, 3) := by decide +kernel
theorem dX4_lowestMending_84 : decode cX4_lowestMending 84 = .ok (.istore 7, 2) := by decide +kernel
theorem dX4_lowestMending_86 : decode cX4_lowestMending 86 = .ok (.iload 7, 2) := by decide +kernel
theorem dX4_lowestMending_88 : decode cX4_lowestMending 88 = .ok (.bipush (-6), 2) := by decide +kernel
theorem dX4_lowestMending_90 : decode cX4_lowestMending 90 = .ok (.if_icmp .eq 33, 3) := by decide +kernel
theorem dX4_lowestMending_93 : decode cX4_lowestMending 93 = .ok (.iload 7, 2) := by decide +kernel
theorem dX4_lowestMending_95 : decode cX4_lowestMending 95 = .ok (.iconst 1, 1) := by decide +kernel
theorem dX4_lowestMending_96 : decode cX4_lowestMending 96 = .ok (.iload 6, 2) := by decide +kernel
theorem dX4_lowestMending_98 : decode cX4_lowestMending 98 = .ok (.ishl, 1) := by decide +kernel
theorem dX4_lowestMending_99 : decode cX4_lowestMending 99 = .ok (.ior, 1) := by decide +kernel
theorem dX4_lowestMending_100 : decode cX4_lowestMending 100 = .ok (.istore 8, 2) := by decide +kernel
theorem dX4_lowestMending_102 : decode cX4_lowestMending 102 = .ok (.iload 5, 2) := by decide +kernel
theorem dX4_lowestMending_104 : decode cX4_lowestMending 104 = .ok (.bipush (-6), 2) := by decide +kernel
theorem dX4_lowestMending_106 : decode cX4_lowestMending 106 = .ok (.if_icmp .ne 8, 3) := by decide +kernel
theorem dX4_lowestMending_109 : decode cX4_lowestMending 109 = .ok (.iload 8, 2) := by decide +kernel
theorem dX4_lowestMending_111 : decode cX4_lowestMending 111 = .ok (.goto 10, 3) := by decide +kernel
theorem dX4_lowestMending_114 : decode cX4_lowestMending 114 = .ok (.iload 5, 2) := by decide +kernel
theorem dX4_lowestMending_116 : decode cX4_lowestMending 116 = .ok (.iload 8, 2) := by decide +kernel
theorem dX4_lowestMending_118 : decode cX4_lowestMending 118 = .ok (.invokestatic 211, 3) := by decide +kernel
theorem dX4_lowestMending_121 : decode cX4_lowestMending 121 = .ok (.istore 5, 2) := by decide +kernel
theorem dX4_lowestMending_123 : decode cX4_lowestMending 123 = .ok (.iinc 6 1, 3) := by decide +kernel
theorem dX4_lowestMending_126 : decode cX4_lowestMending 126 = .ok (.goto (-89), 3) := by decide +kernel
theorem dX4_lowestMending_129 : decode cX4_lowestMending 129 = .ok (.iload 5, 2) := by decide +kernel
theorem dX4_lowestMending_131 : decode cX4_lowestMending 131 = .ok (.ireturn, 1) := by decide +kernel
theorem dX5_init_0 : decode cX5_init 0 = .ok (.aload_n 0, 1) := by decide +kernel
theorem dX5_init_1 : decode cX5_init 1 = .ok (.invokespecial 1, 3) := by decide +kernel
theorem dX5_init_4 : decode cX5_init 4 = .ok (.aload_n 0, 1) := by decide +kernel
theorem dX5_init_5 : decode cX5_init 5 = .ok (.sipush 713, 3) := by decide +kernel
theorem dX5_init_8 : decode cX5_init 8 = .ok (.newarray .int, 2) := by decide +kernel
theorem dX5_init_10 : decode cX5_init 10 = .ok (.putfield 7, 3) := by decide +kernel
theorem dX5_init_13 : decode cX5_init 13 = .ok (.aload_n 0, 1) := by decide +kernel
theorem dX5_init_14 : decode cX5_init 14 = .ok (.sipush 713, 3) := by decide +kernel
theorem dX5_init_17 : decode cX5_init 17 = .ok (.newarray .int, 2) := by decide +kernel
theorem dX5_init_19 : decode cX5_init 19 = .ok (.putfield 13, 3) := by decide +kernel
theorem dX5_init_22 : decode cX5_init 22 = .ok (.aload_n 0, 1) := by decide +kernel
theorem dX5_init_23 : decode cX5_init 23 = .ok (.sipush 4278, 3) := by decide +kernel
theorem dX5_init_26 : decode cX5_init 26 = .ok (.newarray .int, 2) := by decide +kernel
theorem dX5_init_28 : decode cX5_init 28 = .ok (.putfield 16, 3) := by decide +kernel
theorem dX5_init_31 : decode cX5_init 31 = .ok (.aload_n 0, 1) := by decide +kernel
theorem dX5_init_32 : decode cX5_init 32 = .ok (.sipush 1426, 3) := by decide +kernel
theorem dX5_init_35 : decode cX5_init 35 = .ok (.newarray .int, 2) := by decide +kernel
theorem dX5_init_37 : decode cX5_init 37 = .ok (.putfield 19, 3) := by decide +kernel
theorem dX5_init_40 : decode cX5_init 40 = .ok (.aload_n 0, 1) := by decide +kernel
theorem dX5_init_41 : decode cX5_init 41 = .ok (.iconst 2, 1) := by decide +kernel
theorem dX5_init_42 : decode cX5_init 42 = .ok (.newarray .int, 2) := by decide +kernel
theorem dX5_init_44 : decode cX5_init 44 = .ok (.putfield 22, 3) := by decide +kernel
theorem dX5_init_47 : decode cX5_init 47 = .ok (.aload_n 0, 1) := by decide +kernel
theorem dX5_init_48 : decode cX5_init 48 = .ok (.bipush 48, 2) := by decide +kernel
theorem dX5_init_50 : decode cX5_init 50 = .ok (.newarray .int, 2) := by decide +kernel
theorem dX5_init_52 : decode cX5_init 52 = .ok (.putfield 25, 3) := by decide +kernel
theorem dX5_init_55 : decode cX5_init 55 = .ok (.aload_n 0, 1) := by decide +kernel
theorem dX5_init_56 : decode cX5_init 56 = .ok (.bipush 8, 2) := by decide +kernel
theorem dX5_init_58 : decode cX5_init 58 = .ok (.newarray .int, 2) := by decide +kernel
theorem dX5_init_60 : decode cX5_init 60 = .ok (.putfield 28, 3) := by decide +kernel
theorem dX5_init_63 : decode cX5_init 63 = .ok (.aload_n 0, 1) := by decide +kernel
theorem dX5_init_64 : decode cX5_init 64 = .ok (.bipush 100, 2) := by decide +kernel
theorem dX5_init_66 : decode cX5_init 66 = .ok (.newarray .int, 2) := by decide +kernel
theorem dX5_init_68 : decode cX5_init 68 = .ok (.putfield 31, 3) := by decide +kernel
theorem dX5_init_71 : decode cX5_init 71 = .ok (.aload_n 0, 1) := by decide +kernel
theorem dX5_init_72 : decode cX5_init 72 = .ok (.bipush 100, 2) := by decide +kernel
theorem dX5_init_74 : decode cX5_init 74 = .ok (.newarray .int, 2) := by decide +kernel
theorem dX5_init_76 : decode cX5_init 76 = .ok (.putfield 34, 3) := by decide +kernel
theorem dX5_init_79 : decode cX5_init 79 = .ok (.aload_n 0, 1) := by decide +kernel
theorem dX5_init_80 : decode cX5_init 80 = .ok (.bipush 100, 2) := by decide +kernel
theorem dX5_init_82 : decode cX5_init 82 = .ok (.newarray .int, 2) := by decide +kernel
theorem dX5_init_84 : decode cX5_init 84 = .ok (.putfield 37, 3) := by decide +kernel
theorem dX5_init_87 : decode cX5_init 87 = .ok (.aload_n 0, 1) := by decide +kernel
theorem dX5_init_88 : decode cX5_init 88 = .ok (.getfield 7, 3) := by decide +kernel
theorem dX5_init_91 : decode cX5_init 91 = .ok (.iconst 0, 1) := by decide +kernel
theorem dX5_init_92 : decode cX5_init 92 = .ok (.iconst 0, 1) := by decide +kernel
theorem dX5_init_93 : decode cX5_init 93 = .ok (.iastore, 1) := by decide +kernel
theorem dX5_init_94 : decode cX5_init 94 = .ok (.return_, 1) := by decide +kernel
theorem dX5_moves_0 : decode cX5_moves 0 = .ok (.iconst 0, 1) := by decide +kernel
theorem dX5_moves_1 : decode cX5_moves 1 = .ok (.istore 4, 2) := by decide +kernel
theorem dX5_moves_3 : decode cX5_moves 3 = .ok (.iload 4, 2) := by decide +kernel
theorem dX5_moves_5 : decode cX5_moves 5 = .ok (.sipush 713, 3) := by decide +kernel
theorem dX5_moves_8 : decode cX5_moves 8 = .ok (.if_icmp .ge 21, 3) := by decide +kernel
theorem dX5_moves_11 : decode cX5_moves 11 = .ok (.aload_n 2, 1) := by decide +kernel
theorem dX5_moves_12 : decode cX5_moves 12 = .ok (.iload_n 3, 1) := by decide +kernel
theorem dX5_moves_13 : decode cX5_moves 13 = .ok (.iload 4, 2) := by decide +kernel
theorem dX5_moves_15 : decode cX5_moves 15 = .ok (.iadd, 1) := by decide +kernel
theorem dX5_moves_16 : decode cX5_moves 16 = .ok (.aload_n 0, 1) := by decide +kernel
theorem dX5_moves_17 : decode cX5_moves 17 = .ok (.iload_n 1, 1) := by decide +kernel
theorem dX5_moves_18 : decode cX5_moves 18 = .ok (.iload 4, 2) := by decide +kernel
theorem dX5_moves_20 : decode cX5_moves 20 = .ok (.iadd, 1) := by decide +kernel
theorem dX5_moves_21 : decode cX5_moves 21 = .ok (.iaload, 1) := by decide +kernel
theorem dX5_moves_22 : decode cX5_moves 22 = .ok (.iastore, 1) := by decide +kernel
theorem dX5_moves_23 : decode cX5_moves 23 = .ok (.iinc 4 1, 3) := by decide +kernel
theorem dX5_moves_26 : decode cX5_moves 26 = .ok (.goto (-23), 3) := by decide +kernel
theorem dX5_moves_29 : decode cX5_moves 29 = .ok (.return_, 1) := by decide +kernel
theorem dX5_within_0 : decode cX5_within 0 = .ok (.iload_n 0, 1) := by decide +kernel
theorem dX5_within_1 : decode cX5_within 1 = .ok (.iload_n 1, 1) := by decide +kernel
theorem dX5_within_2 : decode cX5_within 2 = .ok (.if_icmp .lt 12, 3) := by decide +kernel
theorem dX5_within_5 : decode cX5_within 5 = .ok (.iload_n 0, 1) := by decide +kernel
theorem dX5_within_6 : decode cX5_within 6 = .ok (.iload_n 2, 1) := by decide +kernel
theorem dX5_within_7 : decode cX5_within 7 = .ok (.if_icmp .gt 7, 3) := by decide +kernel
theorem dX5_within_10 : decode cX5_within 10 = .ok (.iconst 1, 1) := by decide +kernel
theorem dX5_within_11 : decode cX5_within 11 = .ok (.goto 4, 3) := by decide +kernel
theorem dX5_within_14 : decode cX5_within 14 = .ok (.iconst 0, 1) := by decide +kernel
theorem dX5_within_15 : decode cX5_within 15 = .ok (.ireturn, 1) := by decide +kernel
set_option maxRecDepth 20000 in
theorem ggX5_record_X5_moves : GoodIn wsX5_record wsX5_moves := goodIn_r _ [7] (by decide +kernel) (by decide +kernel)
set_option maxRecDepth 20000 in
theorem gX5_record_X5_moves : GoodIn wsX5_record (va_wsS RX5 44 yX5_moves wsX5_moves) := goodIn_app (goodIn_of _ (by decide +kernel)) ggX5_record_X5_moves
theorem dX5_record_0 : decode cX5_record 0 = .ok (.aload_n 0, 1) := by decide +kernel
theorem dX5_record_1 : decode cX5_record 1 = .ok (.getfield 40, 3) := by decide +kernel
theorem dX5_record_4 : decode cX5_record 4 = .ok (.bipush 6, 2) := by decide +kernel
theorem dX5_record_6 : decode cX5_record 6 = .ok (.if_icmp .ne 44, 3) := by decide +kernel
theorem dX5_record_9 : decode cX5_record 9 = .ok (.iconst 0, 1) := by decide +kernel
theorem dX5_record_10 : decode cX5_record 10 = .ok (.istore_n 1, 1) := by decide +kernel
theorem dX5_record_11 : decode cX5_record 11 = .ok (.iload_n 1, 1) := by decide +kernel
theorem dX5_record_12 : decode cX5_record 12 = .ok (.sipush 3565, 3) := by decide +kernel
theorem dX5_record_15 : decode cX5_record 15 = .ok (.if_icmp .ge 25, 3) := by decide +kernel
theorem dX5_record_18 : decode cX5_record 18 = .ok (.aload_n 0, 1) := by decide +kernel
theorem dX5_record_19 : decode cX5_record 19 = .ok (.getfield 16, 3) := by decide +kernel
theorem dX5_record_22 : decode cX5_record 22 = .ok (.iload_n 1, 1) := by decide +kernel
theorem dX5_record_23 : decode cX5_record 23 = .ok (.aload_n 0, 1) := by decide +kernel
theorem dX5_record_24 : decode cX5_record 24 = .ok (.getfield 16, 3) := by decide +kernel
theorem dX5_record_27 : decode cX5_record 27 = .ok (.iload_n 1, 1) := by decide +kernel
theorem dX5_record_28 : decode cX5_record 28 = .ok (.sipush 713, 3) := by decide +kernel
theorem dX5_record_31 : decode cX5_record 31 = .ok (.iadd, 1) := by decide +kernel
theorem dX5_record_32 : decode cX5_record 32 = .ok (.iaload, 1) := by decide +kernel
theorem dX5_record_33 : decode cX5_record 33 = .ok (.iastore, 1) := by decide +kernel
theorem dX5_record_34 : decode cX5_record 34 = .ok (.iinc 1 1, 3) := by decide +kernel
theorem dX5_record_37 : decode cX5_record 37 = .ok (.goto (-26), 3) := by decide +kernel
theorem dX5_record_40 : decode cX5_record 40 = .ok (.aload_n 0, 1) := by decide +kernel
theorem dX5_record_41 : decode cX5_record 41 = .ok (.dup, 1) := by decide +kernel
theorem dX5_record_42 : decode cX5_record 42 = .ok (.getfield 40, 3) := by decide +kernel
theorem dX5_record_45 : decode cX5_record 45 = .ok (.iconst 1, 1) := by decide +kernel
theorem dX5_record_46 : decode cX5_record 46 = .ok (.isub, 1) := by decide +kernel
theorem dX5_record_47 : decode cX5_record 47 = .ok (.putfield 40, 3) := by decide +kernel
theorem dX5_record_50 : decode cX5_record 50 = .ok (.aload_n 0, 1) := by decide +kernel
theorem dX5_record_51 : decode cX5_record 51 = .ok (.getfield 7, 3) := by decide +kernel
theorem dX5_record_54 : decode cX5_record 54 = .ok (.iconst 0, 1) := by decide +kernel
theorem dX5_record_55 : decode cX5_record 55 = .ok (.aload_n 0, 1) := by decide +kernel
theorem dX5_record_56 : decode cX5_record 56 = .ok (.getfield 16, 3) := by decide +kernel
theorem dX5_record_59 : decode cX5_record 59 = .ok (.aload_n 0, 1) := by decide +kernel
theorem dX5_record_60 : decode cX5_record 60 = .ok (.getfield 40, 3) := by decide +kernel
theorem dX5_record_63 : decode cX5_record 63 = .ok (.sipush 713, 3) := by decide +kernel
theorem dX5_record_66 : decode cX5_record 66 = .ok (.imul, 1) := by decide +kernel
theorem dX5_record_67 : decode cX5_record 67 = .ok (.invokestatic 44, 3) := by decide +kernel
theorem dX5_record_70 : decode cX5_record 70 = .ok (.aload_n 0, 1) := by decide +kernel
theorem dX5_record_71 : decode cX5_record 71 = .ok (.dup, 1) := by decide +kernel
theorem dX5_record_72 : decode cX5_record 72 = .ok (.getfield 40, 3) := by decide +kernel
theorem dX5_record_75 : decode cX5_record 75 = .ok (.iconst 1, 1) := by decide +kernel
theorem dX5_record_76 : decode cX5_record 76 = .ok (.iadd, 1) := by decide +kernel
theorem dX5_record_77 : decode cX5_record 77 = .ok (.putfield 40, 3) := by decide +kernel
theorem dX5_record_80 : decode cX5_record 80 = .ok (.return_, 1) := by decide +kernel
set_option maxRecDepth 20000 in
theorem ggX5_isOwner_X5_within : GoodIn wsX5_isOwner wsX5_within := goodIn_r _ [5] (by decide +kernel) (by decide +kernel)
set_option maxRecDepth 20000 in
theorem gX5_isOwner_X5_within : GoodIn wsX5_isOwner (va_wsS RX5 48 yX5_within wsX5_within) := goodIn_app (goodIn_of _ (by decide +kernel)) ggX5_isOwner_X5_within
theorem dX5_isOwner_0 : decode cX5_isOwner 0 = .ok (.iload_n 1, 1) := by decide +kernel
theorem dX5_isOwner_1 : decode cX5_isOwner 1 = .ok (.iconst 0, 1) := by decide +kernel
theorem dX5_isOwner_2 : decode cX5_isOwner 2 = .ok (.aload_n 0, 1) := by decide +kernel
theorem dX5_isOwner_3 : decode cX5_isOwner 3 = .ok (.getfield 7, 3) := by decide +kernel
theorem dX5_isOwner_6 : decode cX5_isOwner 6 = .ok (.iconst 1, 1) := by decide +kernel
theorem dX5_isOwner_7 : decode cX5_isOwner 7 = .ok (.iaload, 1) := by decide +kernel
theorem dX5_isOwner_8 : decode cX5_isOwner 8 = .ok (.iconst 1, 1) := by decide +kernel
theorem dX5_isOwner_9 : decode cX5_isOwner 9 = .ok (.isub, 1) := by decide +kernel
theorem dX5_isOwner_10 : decode cX5_isOwner 10 = .ok (.invokestatic 48, 3) := by decide +kernel
theorem dX5_isOwner_13 : decode cX5_isOwner 13 = .ok (.ireturn, 1) := by decide +kernel
set_option maxRecDepth 20000 in
theorem ggX5_isParcel_X5_within : GoodIn wsX5_isParcel wsX5_within := goodIn_r _ [5] (by decide +kernel) (by decide +kernel)
set_option maxRecDepth 20000 in
theorem gX5_isParcel_X5_within : GoodIn wsX5_isParcel (va_wsS RX5 48 yX5_within wsX5_within) := goodIn_app (goodIn_of _ (by decide +kernel)) ggX5_isParcel_X5_within
theorem dX5_isParcel_0 : decode cX5_isParcel 0 = .ok (.iload_n 1, 1) := by decide +kernel
theorem dX5_isParcel_1 : decode cX5_isParcel 1 = .ok (.iconst 0, 1) := by decide +kernel
theorem dX5_isParcel_2 : decode cX5_isParcel 2 = .ok (.aload_n 0, 1) := by decide +kernel
theorem dX5_isParcel_3 : decode cX5_isParcel 3 = .ok (.getfield 7, 3) := by decide +kernel
theorem dX5_isParcel_6 : decode cX5_isParcel 6 = .ok (.iconst 0, 1) := by decide +kernel
theorem dX5_isParcel_7 : decode cX5_isParcel 7 = .ok (.iaload, 1) := by decide +kernel
theorem dX5_isParcel_8 : decode cX5_isParcel 8 = .ok (.iconst 1, 1) := by decide +kernel
theorem dX5_isParcel_9 : decode cX5_isParcel 9 = .ok (.isub, 1) := by decide +kernel
theorem dX5_isParcel_10 : decode cX5_isParcel 10 = .ok (.invokestatic 48, 3) := by decide +kernel
theorem dX5_isParcel_13 : decode cX5_isParcel 13 = .ok (.ireturn, 1) := by decide +kernel
theorem dX5_part_0 : decode cX5_part 0 = .ok (.aload_n 0, 1) := by decide +kernel
theorem dX5_part_1 : decode cX5_part 1 = .ok (.getfield 7, 3) := by decide +kernel
theorem dX5_part_4 : decode cX5_part 4 = .ok (.sipush 146, 3) := by decide +kernel
theorem dX5_part_7 : decode cX5_part 7 = .ok (.bipush 63, 2) := by decide +kernel
theorem dX5_part_9 : decode cX5_part 9 = .ok (.iload_n 1, 1) := by decide +kernel
theorem dX5_part_10 : decode cX5_part 10 = .ok (.imul, 1) := by decide +kernel
theorem dX5_part_11 : decode cX5_part 11 = .ok (.iadd, 1) := by decide +kernel
theorem dX5_part_12 : decode cX5_part 12 = .ok (.iload_n 2, 1) := by decide +kernel
theorem dX5_part_13 : decode cX5_part 13 = .ok (.iadd, 1) := by decide +kernel
theorem dX5_part_14 : decode cX5_part 14 = .ok (.iaload, 1) := by decide +kernel
theorem dX5_part_15 : decode cX5_part 15 = .ok (.ireturn, 1) := by decide +kernel
theorem dX5_setPart_0 : decode cX5_setPart 0 = .ok (.aload_n 0, 1) := by decide +kernel
theorem dX5_setPart_1 : decode cX5_setPart 1 = .ok (.getfield 7, 3) := by decide +kernel
theorem dX5_setPart_4 : decode cX5_setPart 4 = .ok (.sipush 146, 3) := by decide +kernel
theorem dX5_setPart_7 : decode cX5_setPart 7 = .ok (.bipush 63, 2) := by decide +kernel
theorem dX5_setPart_9 : decode cX5_setPart 9 = .ok (.iload_n 1, 1) := by decide +kernel
theorem dX5_setPart_10 : decode cX5_setPart 10 = .ok (.imul, 1) := by decide +kernel
theorem dX5_setPart_11 : decode cX5_setPart 11 = .ok (.iadd, 1) := by decide +kernel
theorem dX5_setPart_12 : decode cX5_setPart 12 = .ok (.iload_n 2, 1) := by decide +kernel
theorem dX5_setPart_13 : decode cX5_setPart 13 = .ok (.iadd, 1) := by decide +kernel
theorem dX5_setPart_14 : decode cX5_setPart 14 = .ok (.iload_n 3, 1) := by decide +kernel
theorem dX5_setPart_15 : decode cX5_setPart 15 = .ok (.iastore, 1) := by decide +kernel
theorem dX5_setPart_16 : decode cX5_setPart 16 = .ok (.return_, 1) := by decide +kernel
set_option maxRecDepth 20000 in
theorem ggX5_numberOf_X5_part : GoodIn wsX5_numberOf wsX5_part := goodIn_r _ [5, 6, 7, 8, 9, 10, 11, 12, 13, 14, 15, 16, 17, 18, 19] (by decide +kernel) (by decide +kernel)
set_option maxRecDepth 20000 in
theorem gX5_numberOf_X5_part : GoodIn wsX5_numberOf (wsV RX5 52 RX5 yX5_part wsX5_part) := goodIn_app (goodIn_of _ (by decide +kernel)) ggX5_numberOf_X5_part
theorem dX5_numberOf_0 : decode cX5_numberOf 0 = .ok (.aload_n 0, 1) := by decide +kernel
theorem dX5_numberOf_1 : decode cX5_numberOf 1 = .ok (.iload_n 1, 1) := by decide +kernel
theorem dX5_numberOf_2 : decode cX5_numberOf 2 = .ok (.iconst 3, 1) := by decide +kernel
theorem dX5_numberOf_3 : decode cX5_numberOf 3 = .ok (.iload_n 2, 1) := by decide +kernel
theorem dX5_numberOf_4 : decode cX5_numberOf 4 = .ok (.iadd, 1) := by decide +kernel
theorem dX5_numberOf_5 : decode cX5_numberOf 5 = .ok (.invokevirtual 52, 3) := by decide +kernel
theorem dX5_numberOf_8 : decode cX5_numberOf 8 = .ok (.bipush 16, 2) := by decide +kernel
theorem dX5_numberOf_10 : decode cX5_numberOf 10 = .ok (.idiv, 1) := by decide +kernel
theorem dX5_numberOf_11 : decode cX5_numberOf 11 = .ok (.ireturn, 1) := by decide +kernel
set_option maxRecDepth 20000 in
theorem ggX5_issueOf_X5_part : GoodIn wsX5_issueOf wsX5_part := goodIn_r _ [5, 6, 7, 8, 9, 10, 11, 12, 13, 14, 15, 16, 17, 18, 19] (by decide +kernel) (by decide +kernel)
set_option maxRecDepth 20000 in
theorem gX5_issueOf_X5_part : GoodIn wsX5_issueOf (wsV RX5 52 RX5 yX5_part wsX5_part) := goodIn_app (goodIn_of _ (by decide +kernel)) ggX5_issueOf_X5_part
theorem dX5_issueOf_0 : decode cX5_issueOf 0 = .ok (.aload_n 0, 1) := by decide +kernel
theorem dX5_issueOf_1 : decode cX5_issueOf 1 = .ok (.iload_n 1, 1) := by decide +kernel
theorem dX5_issueOf_2 : decode cX5_issueOf 2 = .ok (.iconst 3, 1) := by decide +kernel
theorem dX5_issueOf_3 : decode cX5_issueOf 3 = .ok (.iload_n 2, 1) := by decide +kernel
theorem dX5_issueOf_4 : decode cX5_issueOf 4 = .ok (.iadd, 1) := by decide +kernel
theorem dX5_issueOf_5 : decode cX5_issueOf 5 = .ok (.invokevirtual 52, 3) := by decide +kernel
theorem dX5_issueOf_8 : decode cX5_issueOf 8 = .ok (.bipush 16, 2) := by decide +kernel
theorem dX5_issueOf_10 : decode cX5_issueOf 10 = .ok (.irem, 1) := by decide +kernel
theorem dX5_issueOf_11 : decode cX5_issueOf 11 = .ok (.ireturn, 1) := by decide +kernel
theorem dX5_orderOf_0 : decode cX5_orderOf 0 = .ok (.aload_n 0, 1) := by decide +kernel
theorem dX5_orderOf_1 : decode cX5_orderOf 1 = .ok (.getfield 7, 3) := by decide +kernel
theorem dX5_orderOf_4 : decode cX5_orderOf 4 = .ok (.iconst 2, 1) := by decide +kernel
theorem dX5_orderOf_5 : decode cX5_orderOf 5 = .ok (.bipush 9, 2) := by decide +kernel
theorem dX5_orderOf_7 : decode cX5_orderOf 7 = .ok (.iload_n 1, 1) := by decide +kernel
theorem dX5_orderOf_8 : decode cX5_orderOf 8 = .ok (.imul, 1) := by decide +kernel
theorem dX5_orderOf_9 : decode cX5_orderOf 9 = .ok (.iadd, 1) := by decide +kernel
theorem dX5_orderOf_10 : decode cX5_orderOf 10 = .ok (.iconst 1, 1) := by decide +kernel
theorem dX5_orderOf_11 : decode cX5_orderOf 11 = .ok (.iadd, 1) := by decide +kernel
theorem dX5_orderOf_12 : decode cX5_orderOf 12 = .ok (.iload_n 2, 1) := by decide +kernel
theorem dX5_orderOf_13 : decode cX5_orderOf 13 = .ok (.iadd, 1) := by decide +kernel
theorem dX5_orderOf_14 : decode cX5_orderOf 14 = .ok (.iaload, 1) := by decide +kernel
theorem dX5_orderOf_15 : decode cX5_orderOf 15 = .ok (.ireturn, 1) := by decide +kernel
theorem dX5_bits_0 : decode cX5_bits 0 = .ok (.iconst 0, 1) := by decide +kernel
theorem dX5_bits_1 : decode cX5_bits 1 = .ok (.istore_n 1, 1) := by decide +kernel
theorem dX5_bits_2 : decode cX5_bits 2 = .ok (.iconst 0, 1) := by decide +kernel
theorem dX5_bits_3 : decode cX5_bits 3 = .ok (.istore_n 2, 1) := by decide +kernel
theorem dX5_bits_4 : decode cX5_bits 4 = .ok (.iload_n 2, 1) := by decide +kernel
theorem dX5_bits_5 : decode cX5_bits 5 = .ok (.bipush 16, 2) := by decide +kernel
theorem dX5_bits_7 : decode cX5_bits 7 = .ok (.if_icmp .ge 17, 3) := by decide +kernel
theorem dX5_bits_10 : decode cX5_bits 10 = .ok (.iload_n 1, 1) := by decide +kernel
theorem dX5_bits_11 : decode cX5_bits 11 = .ok (.iload_n 0, 1) := by decide +kernel
theorem dX5_bits_12 : decode cX5_bits 12 = .ok (.iload_n 2, 1) := by decide +kernel
theorem dX5_bits_13 : decode cX5_bits 13 = .ok (.ishr, 1) := by decide +kernel
theorem dX5_bits_14 : decode cX5_bits 14 = .ok (.iconst 1, 1) := by decide +kernel
theorem dX5_bits_15 : decode cX5_bits 15 = .ok (.iand, 1) := by decide +kernel
theorem dX5_bits_16 : decode cX5_bits 16 = .ok (.iadd, 1) := by decide +kernel
theorem dX5_bits_17 : decode cX5_bits 17 = .ok (.istore_n 1, 1) := by decide +kernel
theorem dX5_bits_18 : decode cX5_bits 18 = .ok (.iinc 2 1, 3) := by decide +kernel
theorem dX5_bits_21 : decode cX5_bits 21 = .ok (.goto (-17), 3) := by decide +kernel
theorem dX5_bits_24 : decode cX5_bits 24 = .ok (.iload_n 1, 1) := by decide +kernel
theorem dX5_bits_25 : decode cX5_bits 25 = .ok (.ireturn, 1) := by decide +kernel
set_option maxRecDepth 20000 in
theorem ggX5_remove_X5_part : GoodIn wsX5_remove wsX5_part := goodIn_r _ [5, 6, 11, 12, 13, 14, 15, 16, 17, 18, 19, 20, 21, 22, 23] (by decide +kernel) (by decide +kernel)
set_option maxRecDepth 20000 in
theorem gX5_remove_X5_part : GoodIn wsX5_remove (wsV RX5 52 RX5 yX5_part wsX5_part) := goodIn_app (goodIn_of _ (by decide +kernel)) ggX5_remove_X5_part
set_option maxRecDepth 20000 in
theorem ggX5_remove_X5_setPart : GoodIn wsX5_remove wsX5_setPart := goodIn_r _ [10, 6, 11, 12, 13, 14, 15, 16, 17, 18, 19, 20, 21, 22, 23] (by decide +kernel) (by decide +kernel)
set_option maxRecDepth 20000 in
theorem gX5_remove_X5_setPart : GoodIn wsX5_remove (wsV RX5 56 RX5 yX5_setPart wsX5_setPart) := goodIn_app (goodIn_of _ (by decide +kernel)) ggX5_remove_X5_setPart
theorem dX5_remove_0 : decode cX5_remove 0 = .ok (.iload_n 2, 1) := by decide +kernel
theorem dX5_remove_1 : decode cX5_remove 1 = .ok (.istore_n 3, 1) := by decide +kernel
theorem dX5_remove_2 : decode cX5_remove 2 = .ok (.iload_n 3, 1) := by decide +kernel
theorem dX5_remove_3 : decode cX5_remove 3 = .ok (.aload_n 0, 1) := by decide +kernel
theorem dX5_remove_4 : decode cX5_remove 4 = .ok (.iload_n 1, 1) := by decide +kernel
theorem dX5_remove_5 : decode cX5_remove 5 = .ok (.iconst 0, 1) := by decide +kernel
theorem dX5_remove_6 : decode cX5_remove 6 = .ok (.invokevirtual 52, 3) := by decide +kernel
theorem dX5_remove_9 : decode cX5_remove 9 = .ok (.iconst 1, 1) := by decide +kernel
theorem dX5_remove_10 : decode cX5_remove 10 = .ok (.isub, 1) := by decide +kernel
theorem dX5_remove_11 : decode cX5_remove 11 = .ok (.if_icmp .ge 27, 3) := by decide +kernel
theorem dX5_remove_14 : decode cX5_remove 14 = .ok (.aload_n 0, 1) := by decide +kernel
theorem dX5_remove_15 : decode cX5_remove 15 = .ok (.iload_n 1, 1) := by decide +kernel
theorem dX5_remove_16 : decode cX5_remove 16 = .ok (.iconst 3, 1) := by decide +kernel
theorem dX5_remove_17 : decode cX5_remove 17 = .ok (.iload_n 3, 1) := by decide +kernel
theorem dX5_remove_18 : decode cX5_remove 18 = .ok (.iadd, 1) := by decide +kernel
theorem dX5_remove_19 : decode cX5_remove 19 = .ok (.aload_n 0, 1) := by decide +kernel
theorem dX5_remove_20 : decode cX5_remove 20 = .ok (.iload_n 1, 1) := by decide +kernel
theorem dX5_remove_21 : decode cX5_remove 21 = .ok (.iconst 3, 1) := by decide +kernel
theorem dX5_remove_22 : decode cX5_remove 22 = .ok (.iload_n 3, 1) := by decide +kernel
theorem dX5_remove_23 : decode cX5_remove 23 = .ok (.iadd, 1) := by decide +kernel
theorem dX5_remove_24 : decode cX5_remove 24 = .ok (.iconst 1, 1) := by decide +kernel
theorem dX5_remove_25 : decode cX5_remove 25 = .ok (.iadd, 1) := by decide +kernel
theorem dX5_remove_26 : decode cX5_remove 26 = .ok (.invokevirtual 52, 3) := by decide +kernel
theorem dX5_remove_29 : decode cX5_remove 29 = .ok (.invokevirtual 56, 3) := by decide +kernel
theorem dX5_remove_32 : decode cX5_remove 32 = .ok (.iinc 3 1, 3) := by decide +kernel
theorem dX5_remove_35 : decode cX5_remove 35 = .ok (.goto (-33), 3) := by decide +kernel
theorem dX5_remove_38 : decode cX5_remove 38 = .ok (.aload_n 0, 1) := by decide +kernel
theorem dX5_remove_39 : decode cX5_remove 39 = .ok (.iload_n 1, 1) := by decide +kernel
theorem dX5_remove_40 : decode cX5_remove 40 = .ok (.iconst 0, 1) := by decide +kernel
theorem dX5_remove_41 : decode cX5_remove 41 = .ok (.aload_n 0, 1) := by decide +kernel
theorem dX5_remove_42 : decode cX5_remove 42 = .ok (.iload_n 1, 1) := by decide +kernel
theorem dX5_remove_43 : decode cX5_remove 43 = .ok (.iconst 0, 1) := by decide +kernel
theorem dX5_remove_44 : decode cX5_remove 44 = .ok (.invokevirtual 52, 3) := by decide +kernel
theorem dX5_remove_47 : decode cX5_remove 47 = .ok (.iconst 1, 1) := by decide +kernel
theorem dX5_remove_48 : decode cX5_remove 48 = .ok (.isub, 1) := by decide +kernel
theorem dX5_remove_49 : decode cX5_remove 49 = .ok (.invokevirtual 56, 3) := by decide +kernel
theorem dX5_remove_52 : decode cX5_remove 52 = .ok (.aload_n 0, 1) := by decide +kernel
theorem dX5_remove_53 : decode cX5_remove 53 = .ok (.iload_n 1, 1) := by decide +kernel
theorem dX5_remove_54 : decode cX5_remove 54 = .ok (.iconst 3, 1) := by decide +kernel
theorem dX5_remove_55 : decode cX5_remove 55 = .ok (.aload_n 0, 1) := by decide +kernel
theorem dX5_remove_56 : decode cX5_remove 56 = .ok (.iload_n 1, 1) := by decide +kernel
theorem dX5_remove_57 : decode cX5_remove 57 = .ok (.iconst 0, 1) := by decide +kernel
theorem dX5_remove_58 : decode cX5_remove 58 = .ok (.invokevirtual 52, 3) := by decide +kernel
theorem dX5_remove_61 : decode cX5_remove 61 = .ok (.iadd, 1) := by decide +kernel
theorem dX5_remove_62 : decode cX5_remove 62 = .ok (.iconst 0, 1) := by decide +kernel
theorem dX5_remove_63 : decode cX5_remove 63 = .ok (.invokevirtual 56, 3) := by decide +kernel
theorem dX5_remove_66 : decode cX5_remove 66 = .ok (.return_, 1) := by decide +kernel
set_option maxRecDepth 20000 in
theorem ggX5_comes_X5_part : GoodIn wsX5_comes wsX5_part := goodIn_r _ [5, 6, 11, 12, 13, 14, 15, 16, 17, 18, 19, 20, 21, 22, 23] (by decide +kernel) (by decide +kernel)
set_option maxRecDepth 20000 in
theorem gX5_comes_X5_part : GoodIn wsX5_comes (wsV RX5 52 RX5 yX5_part wsX5_part) := goodIn_app (goodIn_of _ (by decide +kernel)) ggX5_comes_X5_part
set_option maxRecDepth 20000 in
theorem ggX5_comes_X5_setPart : GoodIn wsX5_comes wsX5_setPart := goodIn_r _ [10, 6, 11, 12, 13, 14, 15, 16, 17, 18, 19, 20, 21, 22, 23] (by decide +kernel) (by decide +kernel)
set_option maxRecDepth 20000 in
theorem gX5_comes_X5_setPart : GoodIn wsX5_comes (wsV RX5 56 RX5 yX5_setPart wsX5_setPart) := goodIn_app (goodIn_of _ (by decide +kernel)) ggX5_comes_X5_setPart
theorem dX5_comes_0 : decode cX5_comes 0 = .ok (.aload_n 0, 1) := by decide +kernel
theorem dX5_comes_1 : decode cX5_comes 1 = .ok (.iload_n 1, 1) := by decide +kernel
theorem dX5_comes_2 : decode cX5_comes 2 = .ok (.iconst 0, 1) := by decide +kernel
theorem dX5_comes_3 : decode cX5_comes 3 = .ok (.invokevirtual 52, 3) := by decide +kernel
theorem dX5_comes_6 : decode cX5_comes 6 = .ok (.bipush 60, 2) := by decide +kernel
theorem dX5_comes_8 : decode cX5_comes 8 = .ok (.if_icmp .ge 36, 3) := by decide +kernel
theorem dX5_comes_11 : decode cX5_comes 11 = .ok (.aload_n 0, 1) := by decide +kernel
theorem dX5_comes_12 : decode cX5_comes 12 = .ok (.iload_n 1, 1) := by decide +kernel
theorem dX5_comes_13 : decode cX5_comes 13 = .ok (.iconst 3, 1) := by decide +kernel
theorem dX5_comes_14 : decode cX5_comes 14 = .ok (.aload_n 0, 1) := by decide +kernel
theorem dX5_comes_15 : decode cX5_comes 15 = .ok (.iload_n 1, 1) := by decide +kernel
theorem dX5_comes_16 : decode cX5_comes 16 = .ok (.iconst 0, 1) := by decide +kernel
theorem dX5_comes_17 : decode cX5_comes 17 = .ok (.invokevirtual 52, 3) := by decide +kernel
theorem dX5_comes_20 : decode cX5_comes 20 = .ok (.iadd, 1) := by decide +kernel
theorem dX5_comes_21 : decode cX5_comes 21 = .ok (.bipush 16, 2) := by decide +kernel
theorem dX5_comes_23 : decode cX5_comes 23 = .ok (.iload_n 2, 1) := by decide +kernel
theorem dX5_comes_24 : decode cX5_comes 24 = .ok (.imul, 1) := by decide +kernel
theorem dX5_comes_25 : decode cX5_comes 25 = .ok (.iload_n 3, 1) := by decide +kernel
theorem dX5_comes_26 : decode cX5_comes 26 = .ok (.iadd, 1) := by decide +kernel
theorem dX5_comes_27 : decode cX5_comes 27 = .ok (.invokevirtual 56, 3) := by decide +kernel
theorem dX5_comes_30 : decode cX5_comes 30 = .ok (.aload_n 0, 1) := by decide +kernel
theorem dX5_comes_31 : decode cX5_comes 31 = .ok (.iload_n 1, 1) := by decide +kernel
theorem dX5_comes_32 : decode cX5_comes 32 = .ok (.iconst 0, 1) := by decide +kernel
theorem dX5_comes_33 : decode cX5_comes 33 = .ok (.aload_n 0, 1) := by decide +kernel
theorem dX5_comes_34 : decode cX5_comes 34 = .ok (.iload_n 1, 1) := by decide +kernel
theorem dX5_comes_35 : decode cX5_comes 35 = .ok (.iconst 0, 1) := by decide +kernel
theorem dX5_comes_36 : decode cX5_comes 36 = .ok (.invokevirtual 52, 3) := by decide +kernel
theorem dX5_comes_39 : decode cX5_comes 39 = .ok (.iconst 1, 1) := by decide +kernel
theorem dX5_comes_40 : decode cX5_comes 40 = .ok (.iadd, 1) := by decide +kernel
theorem dX5_comes_41 : decode cX5_comes 41 = .ok (.invokevirtual 56, 3) := by decide +kernel
theorem dX5_comes_44 : decode cX5_comes 44 = .ok (.return_, 1) := by decide +kernel
set_option maxRecDepth 20000 in
theorem ggX5_removeAll_X5_part : GoodIn wsX5_removeAll wsX5_part := goodIn_r _ [5, 6, 19, 20, 21, 22, 23, 24, 25, 26, 27, 28, 29, 30, 31] (by decide +kernel) (by decide +kernel)
set_option maxRecDepth 20000 in
theorem gX5_removeAll_X5_part : GoodIn wsX5_removeAll (wsV RX5 52 RX5 yX5_part wsX5_part) := goodIn_app (goodIn_of _ (by decide +kernel)) ggX5_removeAll_X5_part
set_option maxRecDepth 20000 in
theorem ggX5_removeAll_X5_numberOf : GoodIn wsX5_removeAll wsX5_numberOf := goodIn_r _ [10, 1, 2, 3, 4, 5, 6, 19, 20, 21, 22, 23, 24, 25, 26, 27, 28, 29, 30, 31] (by decide +kernel) (by decide +kernel)
set_option maxRecDepth 20000 in
theorem gX5_removeAll_X5_numberOf : GoodIn wsX5_removeAll (wsV RX5 60 RX5 yX5_numberOf wsX5_numberOf) := goodIn_app (goodIn_of _ (by decide +kernel)) ggX5_removeAll_X5_numberOf
set_option maxRecDepth 20000 in
theorem ggX5_removeAll_X5_remove : GoodIn wsX5_removeAll wsX5_remove := goodIn_r _ [14, 1, 2, 3, 4, 5, 6, 15, 16, 17, 18, 19, 20, 21, 22, 23, 24, 25, 26, 27, 28, 29, 30, 31] (by decide +kernel) (by decide +kernel)
set_option maxRecDepth 20000 in
theorem gX5_removeAll_X5_remove : GoodIn wsX5_removeAll (wsV RX5 63 RX5 yX5_remove wsX5_remove) := goodIn_app (goodIn_of _ (by decide +kernel)) ggX5_removeAll_X5_remove
theorem dX5_removeAll_0 : decode cX5_removeAll 0 = .ok (.aload_n 0, 1) := by decide +kernel
theorem dX5_removeAll_1 : decode cX5_removeAll 1 = .ok (.iload_n 1, 1) := by decide +kernel
theorem dX5_removeAll_2 : decode cX5_removeAll 2 = .ok (.iconst 0, 1) := by decide +kernel
theorem dX5_removeAll_3 : decode cX5_removeAll 3 = .ok (.invokevirtual 52, 3) := by decide +kernel
theorem dX5_removeAll_6 : decode cX5_removeAll 6 = .ok (.iconst 1, 1) := by decide +kernel
theorem dX5_removeAll_7 : decode cX5_removeAll 7 = .ok (.isub, 1) := by decide +kernel
theorem dX5_removeAll_8 : decode cX5_removeAll 8 = .ok (.istore_n 3, 1) := by decide +kernel
theorem dX5_removeAll_9 : decode cX5_removeAll 9 = .ok (.iload_n 3, 1) := by decide +kernel
theorem dX5_removeAll_10 : decode cX5_removeAll 10 = .ok (.ifCond .lt 25, 3) := by decide +kernel
theorem dX5_removeAll_13 : decode cX5_removeAll 13 = .ok (.aload_n 0, 1) := by decide +kernel
theorem dX5_removeAll_14 : decode cX5_removeAll 14 = .ok (.iload_n 1, 1) := by decide +kernel
theorem dX5_removeAll_15 : decode cX5_removeAll 15 = .ok (.iload_n 3, 1) := by decide +kernel
theorem dX5_removeAll_16 : decode cX5_removeAll 16 = .ok (.invokevirtual 60, 3) := by decide +kernel
theorem dX5_removeAll_19 : decode cX5_removeAll 19 = .ok (.iload_n 2, 1) := by decide +kernel
theorem dX5_removeAll_20 : decode cX5_removeAll 20 = .ok (.if_icmp .ne 9, 3) := by decide +kernel
theorem dX5_removeAll_23 : decode cX5_removeAll 23 = .ok (.aload_n 0, 1) := by decide +kernel
theorem dX5_removeAll_24 : decode cX5_removeAll 24 = .ok (.iload_n 1, 1) := by decide +kernel
theorem dX5_removeAll_25 : decode cX5_removeAll 25 = .ok (.iload_n 3, 1) := by decide +kernel
theorem dX5_removeAll_26 : decode cX5_removeAll 26 = .ok (.invokevirtual 63, 3) := by decide +kernel
theorem dX5_removeAll_29 : decode cX5_removeAll 29 = .ok (.iinc 3 (-1), 3) := by decide +kernel
theorem dX5_removeAll_32 : decode cX5_removeAll 32 = .ok (.goto (-23), 3) := by decide +kernel
theorem dX5_removeAll_35 : decode cX5_removeAll 35 = .ok (.return_, 1) := by decide +kernel
set_option maxRecDepth 20000 in
theorem ggX5_earliest_X5_part : GoodIn wsX5_earliest wsX5_part := goodIn_r _ [5, 6, 15, 16, 17, 18, 19, 20, 21, 22, 23, 24, 25, 26, 27] (by decide +kernel) (by decide +kernel)
set_option maxRecDepth 20000 in
theorem gX5_earliest_X5_part : GoodIn wsX5_earliest (wsV RX5 52 RX5 yX5_part wsX5_part) := goodIn_app (goodIn_of _ (by decide +kernel)) ggX5_earliest_X5_part
set_option maxRecDepth 20000 in
theorem ggX5_earliest_X5_numberOf : GoodIn wsX5_earliest wsX5_numberOf := goodIn_r _ [10, 1, 2, 3, 4, 5, 6, 15, 16, 17, 18, 19, 20, 21, 22, 23, 24, 25, 26, 27] (by decide +kernel) (by decide +kernel)
set_option maxRecDepth 20000 in
theorem gX5_earliest_X5_numberOf : GoodIn wsX5_earliest (wsV RX5 60 RX5 yX5_numberOf wsX5_numberOf) := goodIn_app (goodIn_of _ (by decide +kernel)) ggX5_earliest_X5_numberOf
set_option maxRecDepth 20000 in
theorem ggX5_earliest_X5_issueOf : GoodIn wsX5_earliest wsX5_issueOf := goodIn_r _ [14, 1, 2, 3, 4, 5, 6, 15, 16, 17, 18, 19, 20, 21, 22, 23, 24, 25, 26, 27] (by decide +kernel) (by decide +kernel)
set_option maxRecDepth 20000 in
theorem gX5_earliest_X5_issueOf : GoodIn wsX5_earliest (wsV RX5 67 RX5 yX5_issueOf wsX5_issueOf) := goodIn_app (goodIn_of _ (by decide +kernel)) ggX5_earliest_X5_issueOf
theorem dX5_earliest_0 : decode cX5_earliest 0 = .ok (.bipush (-6), 2) := by decide +kernel
theorem dX5_earliest_2 : decode cX5_earliest 2 = .ok (.istore_n 3, 1) := by decide +kernel
theorem dX5_earliest_3 : decode cX5_earliest 3 = .ok (.iconst 0, 1) := by decide +kernel
theorem dX5_earliest_4 : decode cX5_earliest 4 = .ok (.istore 4, 2) := by decide +kernel
theorem dX5_earliest_6 : decode cX5_earliest 6 = .ok (.iload 4, 2) := by decide +kernel
theorem dX5_earliest_8 : decode cX5_earliest 8 = .ok (.aload_n 0, 1) := by decide +kernel
theorem dX5_earliest_9 : decode cX5_earliest 9 = .ok (.iload_n 1, 1) := by decide +kernel
theorem dX5_earliest_10 : decode cX5_earliest 10 = .ok (.iconst 0, 1) := by decide +kernel
theorem dX5_earliest_11 : decode cX5_earliest 11 = .ok (.invokevirtual 52, 3) := by decide +kernel
theorem dX5_earliest_14 : decode cX5_earliest 14 = .ok (.if_icmp .ge 49, 3) := by decide +kernel
theorem dX5_earliest_17 : decode cX5_earliest 17 = .ok (.aload_n 0, 1) := by decide +kernel
theorem dX5_earliest_18 : decode cX5_earliest 18 = .ok (.iload_n 1, 1) := by decide +kernel
theorem dX5_earliest_19 : decode cX5_earliest 19 = .ok (.iload 4, 2) := by decide +kernel
end
section
theorem dX5_earliest_21 : decode cX5_earliest 21 = .ok (.invokevirtual 60, 3) := by decide +kernel
theorem dX5_earliest_24 : decode cX5_earliest 24 = .ok (.iload_n 2, 1) := by decide +kernel
theorem dX5_earliest_25 : decode cX5_earliest 25 = .ok (.if_icmp .ne 30, 3) := by decide +kernel
theorem dX5_earliest_28 : decode cX5_earliest 28 = .ok (.iload_n 3, 1) := by decide +kernel
theorem dX5_earliest_29 : decode cX5_earliest 29 = .ok (.bipush (-6), 2) := by decide +kernel
theorem dX5_earliest_31 : decode cX5_earliest 31 = .ok (.if_icmp .eq 19, 3) := by decide +kernel
theorem dX5_earliest_34 : decode cX5_earliest 34 = .ok (.aload_n 0, 1) := by decide +kernel
theorem dX5_earliest_35 : decode cX5_earliest 35 = .ok (.iload_n 1, 1) := by decide +kernel
theorem dX5_earliest_36 : decode cX5_earliest 36 = .ok (.iload 4, 2) := by decide +kernel
theorem dX5_earliest_38 : decode cX5_earliest 38 = .ok (.invokevirtual 67, 3) := by decide +kernel
theorem dX5_earliest_41 : decode cX5_earliest 41 = .ok (.aload_n 0, 1) := by decide +kernel
theorem dX5_earliest_42 : decode cX5_earliest 42 = .ok (.iload_n 1, 1) := by decide +kernel
theorem dX5_earliest_43 : decode cX5_earliest 43 = .ok (.iload_n 3, 1) := by decide +kernel
theorem dX5_earliest_44 : decode cX5_earliest 44 = .ok (.invokevirtual 67, 3) := by decide +kernel
theorem dX5_earliest_47 : decode cX5_earliest 47 = .ok (.if_icmp .ge 8, 3) := by decide +kernel
theorem dX5_earliest_50 : decode cX5_earliest 50 = .ok (.iload 4, 2) := by decide +kernel
theorem dX5_earliest_52 : decode cX5_earliest 52 = .ok (.goto 4, 3) := by decide +kernel
theorem dX5_earliest_55 : decode cX5_earliest 55 = .ok (.iload_n 3, 1) := by decide +kernel
theorem dX5_earliest_56 : decode cX5_earliest 56 = .ok (.istore_n 3, 1) := by decide +kernel
theorem dX5_earliest_57 : decode cX5_earliest 57 = .ok (.iinc 4 1, 3) := by decide +kernel
theorem dX5_earliest_60 : decode cX5_earliest 60 = .ok (.goto (-54), 3) := by decide +kernel
theorem dX5_earliest_63 : decode cX5_earliest 63 = .ok (.iload_n 3, 1) := by decide +kernel
theorem dX5_earliest_64 : decode cX5_earliest 64 = .ok (.ireturn, 1) := by decide +kernel
set_option maxRecDepth 20000 in
theorem ggX5_doParcel_X5_orderOf : GoodIn wsX5_doParcel wsX5_orderOf := goodIn_r _ [6, 1, 39, 40, 41, 42, 43, 44, 45, 46, 47, 48, 49, 50, 51] (by decide +kernel) (by decide +kernel)
set_option maxRecDepth 20000 in
theorem gX5_doParcel_X5_orderOf : GoodIn wsX5_doParcel (wsV RX5 70 RX5 yX5_orderOf wsX5_orderOf) := goodIn_app (goodIn_of _ (by decide +kernel)) ggX5_doParcel_X5_orderOf
set_option maxRecDepth 20000 in
theorem ggX5_doParcel_X5_earliest : GoodIn wsX5_doParcel wsX5_earliest := goodIn_r _ [10, 11, 12, 13, 5, 14, 1, 15, 16, 17, 18, 19, 20, 21, 22, 39, 40, 41, 42, 43, 44, 45, 46, 47, 48, 49, 50, 51] (by decide +kernel) (by decide +kernel)
set_option maxRecDepth 20000 in
theorem gX5_doParcel_X5_earliest : GoodIn wsX5_doParcel (wsV RX5 73 RX5 yX5_earliest wsX5_earliest) := goodIn_app (goodIn_of _ (by decide +kernel)) ggX5_doParcel_X5_earliest
set_option maxRecDepth 20000 in
theorem ggX5_doParcel_X5_removeAll : GoodIn wsX5_doParcel wsX5_removeAll := goodIn_r _ [26, 11, 12, 13, 5, 14, 1, 15, 16, 17, 18, 27, 28, 29, 30, 31, 32, 33, 34, 39, 40, 41, 42, 43, 44, 45, 46, 47, 48, 49, 50, 51] (by decide +kernel) (by decide +kernel)
set_option maxRecDepth 20000 in
theorem gX5_doParcel_X5_removeAll : GoodIn wsX5_doParcel (wsV RX5 76 RX5 yX5_removeAll wsX5_removeAll) := goodIn_app (goodIn_of _ (by decide +kernel)) ggX5_doParcel_X5_removeAll
set_option maxRecDepth 20000 in
theorem ggX5_doParcel_X5_remove : GoodIn wsX5_doParcel wsX5_remove := goodIn_r _ [30, 11, 12, 13, 5, 14, 1, 31, 32, 33, 34, 39, 40, 41, 42, 43, 44, 45, 46, 47, 48, 49, 50, 51] (by decide +kernel) (by decide +kernel)
set_option maxRecDepth 20000 in
theorem gX5_doParcel_X5_remove : GoodIn wsX5_doParcel (wsV RX5 63 RX5 yX5_remove wsX5_remove) := goodIn_app (goodIn_of _ (by decide +kernel)) ggX5_doParcel_X5_remove
set_option maxRecDepth 20000 in
theorem ggX5_doParcel_X5_comes : GoodIn wsX5_doParcel wsX5_comes := goodIn_r _ [38, 11, 12, 13, 5, 14, 1, 31, 32, 33, 34, 39, 40, 41, 42, 43, 44, 45, 46, 47, 48, 49, 50, 51] (by decide +kernel) (by decide +kernel)
set_option maxRecDepth 20000 in
theorem gX5_doParcel_X5_comes : GoodIn wsX5_doParcel (wsV RX5 79 RX5 yX5_comes wsX5_comes) := goodIn_app (goodIn_of _ (by decide +kernel)) ggX5_doParcel_X5_comes
theorem dX5_doParcel_0 : decode cX5_doParcel 0 = .ok (.iconst 0, 1) := by decide +kernel
theorem dX5_doParcel_1 : decode cX5_doParcel 1 = .ok (.istore 4, 2) := by decide +kernel
theorem dX5_doParcel_3 : decode cX5_doParcel 3 = .ok (.iload 4, 2) := by decide +kernel
theorem dX5_doParcel_5 : decode cX5_doParcel 5 = .ok (.aload_n 0, 1) := by decide +kernel
theorem dX5_doParcel_6 : decode cX5_doParcel 6 = .ok (.getfield 7, 3) := by decide +kernel
theorem dX5_doParcel_9 : decode cX5_doParcel 9 = .ok (.iconst 2, 1) := by decide +kernel
theorem dX5_doParcel_10 : decode cX5_doParcel 10 = .ok (.bipush 9, 2) := by decide +kernel
theorem dX5_doParcel_12 : decode cX5_doParcel 12 = .ok (.iload_n 2, 1) := by decide +kernel
theorem dX5_doParcel_13 : decode cX5_doParcel 13 = .ok (.imul, 1) := by decide +kernel
theorem dX5_doParcel_14 : decode cX5_doParcel 14 = .ok (.iadd, 1) := by decide +kernel
theorem dX5_doParcel_15 : decode cX5_doParcel 15 = .ok (.iaload, 1) := by decide +kernel
theorem dX5_doParcel_16 : decode cX5_doParcel 16 = .ok (.if_icmp .ge 101, 3) := by decide +kernel
theorem dX5_doParcel_19 : decode cX5_doParcel 19 = .ok (.aload_n 0, 1) := by decide +kernel
theorem dX5_doParcel_20 : decode cX5_doParcel 20 = .ok (.iload_n 2, 1) := by decide +kernel
theorem dX5_doParcel_21 : decode cX5_doParcel 21 = .ok (.iload 4, 2) := by decide +kernel
theorem dX5_doParcel_23 : decode cX5_doParcel 23 = .ok (.invokevirtual 70, 3) := by decide +kernel
theorem dX5_doParcel_26 : decode cX5_doParcel 26 = .ok (.bipush 100, 2) := by decide +kernel
theorem dX5_doParcel_28 : decode cX5_doParcel 28 = .ok (.irem, 1) := by decide +kernel
theorem dX5_doParcel_29 : decode cX5_doParcel 29 = .ok (.istore 5, 2) := by decide +kernel
theorem dX5_doParcel_31 : decode cX5_doParcel 31 = .ok (.aload_n 0, 1) := by decide +kernel
theorem dX5_doParcel_32 : decode cX5_doParcel 32 = .ok (.iload_n 2, 1) := by decide +kernel
theorem dX5_doParcel_33 : decode cX5_doParcel 33 = .ok (.iload 4, 2) := by decide +kernel
theorem dX5_doParcel_35 : decode cX5_doParcel 35 = .ok (.invokevirtual 70, 3) := by decide +kernel
theorem dX5_doParcel_38 : decode cX5_doParcel 38 = .ok (.bipush 100, 2) := by decide +kernel
theorem dX5_doParcel_40 : decode cX5_doParcel 40 = .ok (.if_icmp .lt 7, 3) := by decide +kernel
theorem dX5_doParcel_43 : decode cX5_doParcel 43 = .ok (.iconst 1, 1) := by decide +kernel
theorem dX5_doParcel_44 : decode cX5_doParcel 44 = .ok (.goto 4, 3) := by decide +kernel
theorem dX5_doParcel_47 : decode cX5_doParcel 47 = .ok (.iconst 0, 1) := by decide +kernel
theorem dX5_doParcel_48 : decode cX5_doParcel 48 = .ok (.istore 6, 2) := by decide +kernel
theorem dX5_doParcel_50 : decode cX5_doParcel 50 = .ok (.iload_n 3, 1) := by decide +kernel
theorem dX5_doParcel_51 : decode cX5_doParcel 51 = .ok (.ifCond .ne 8, 3) := by decide +kernel
theorem dX5_doParcel_54 : decode cX5_doParcel 54 = .ok (.iload 6, 2) := by decide +kernel
theorem dX5_doParcel_56 : decode cX5_doParcel 56 = .ok (.ifCond .eq 8, 3) := by decide +kernel
theorem dX5_doParcel_59 : decode cX5_doParcel 59 = .ok (.bipush (-6), 2) := by decide +kernel
theorem dX5_doParcel_61 : decode cX5_doParcel 61 = .ok (.goto 10, 3) := by decide +kernel
theorem dX5_doParcel_64 : decode cX5_doParcel 64 = .ok (.aload_n 0, 1) := by decide +kernel
theorem dX5_doParcel_65 : decode cX5_doParcel 65 = .ok (.iload_n 1, 1) := by decide +kernel
theorem dX5_doParcel_66 : decode cX5_doParcel 66 = .ok (.iload 5, 2) := by decide +kernel
theorem dX5_doParcel_68 : decode cX5_doParcel 68 = .ok (.invokevirtual 73, 3) := by decide +kernel
theorem dX5_doParcel_71 : decode cX5_doParcel 71 = .ok (.istore 7, 2) := by decide +kernel
theorem dX5_doParcel_73 : decode cX5_doParcel 73 = .ok (.iload_n 3, 1) := by decide +kernel
theorem dX5_doParcel_74 : decode cX5_doParcel 74 = .ok (.ifCond .eq 10, 3) := by decide +kernel
theorem dX5_doParcel_77 : decode cX5_doParcel 77 = .ok (.aload_n 0, 1) := by decide +kernel
theorem dX5_doParcel_78 : decode cX5_doParcel 78 = .ok (.iload_n 1, 1) := by decide +kernel
theorem dX5_doParcel_79 : decode cX5_doParcel 79 = .ok (.iload 5, 2) := by decide +kernel
theorem dX5_doParcel_81 : decode cX5_doParcel 81 = .ok (.invokevirtual 76, 3) := by decide +kernel
theorem dX5_doParcel_84 : decode cX5_doParcel 84 = .ok (.iload 7, 2) := by decide +kernel
theorem dX5_doParcel_86 : decode cX5_doParcel 86 = .ok (.bipush (-6), 2) := by decide +kernel
theorem dX5_doParcel_88 : decode cX5_doParcel 88 = .ok (.if_icmp .eq 10, 3) := by decide +kernel
theorem dX5_doParcel_91 : decode cX5_doParcel 91 = .ok (.aload_n 0, 1) := by decide +kernel
theorem dX5_doParcel_92 : decode cX5_doParcel 92 = .ok (.iload_n 1, 1) := by decide +kernel
theorem dX5_doParcel_93 : decode cX5_doParcel 93 = .ok (.iload 7, 2) := by decide +kernel
theorem dX5_doParcel_95 : decode cX5_doParcel 95 = .ok (.invokevirtual 63, 3) := by decide +kernel
theorem dX5_doParcel_98 : decode cX5_doParcel 98 = .ok (.iload 6, 2) := by decide +kernel
theorem dX5_doParcel_100 : decode cX5_doParcel 100 = .ok (.ifCond .eq 11, 3) := by decide +kernel
theorem dX5_doParcel_103 : decode cX5_doParcel 103 = .ok (.aload_n 0, 1) := by decide +kernel
theorem dX5_doParcel_104 : decode cX5_doParcel 104 = .ok (.iload_n 1, 1) := by decide +kernel
theorem dX5_doParcel_105 : decode cX5_doParcel 105 = .ok (.iload 5, 2) := by decide +kernel
theorem dX5_doParcel_107 : decode cX5_doParcel 107 = .ok (.iload_n 2, 1) := by decide +kernel
theorem dX5_doParcel_108 : decode cX5_doParcel 108 = .ok (.invokevirtual 79, 3) := by decide +kernel
theorem dX5_doParcel_111 : decode cX5_doParcel 111 = .ok (.iinc 4 1, 3) := by decide +kernel
theorem dX5_doParcel_114 : decode cX5_doParcel 114 = .ok (.goto (-111), 3) := by decide +kernel
theorem dX5_doParcel_117 : decode cX5_doParcel 117 = .ok (.return_, 1) := by decide +kernel
set_option maxRecDepth 20000 in
theorem ggX5_doSet_X5_doParcel : GoodIn wsX5_doSet wsX5_doParcel := goodIn_r _ [6, 1, 7, 8, 9, 5, 10, 11, 12, 13, 14, 15, 16, 17, 18, 19, 20, 21, 22, 23, 24, 25, 26, 27, 28, 29, 30, 31, 32, 33, 34, 35, 36, 37, 38, 39, 40, 41, 42, 43, 44, 45, 46, 47, 48, 49, 50, 51, 52, 53, 54, 55] (by decide +kernel) (by decide +kernel)
set_option maxRecDepth 20000 in
theorem gX5_doSet_X5_doParcel : GoodIn wsX5_doSet (wsV RX5 82 RX5 yX5_doParcel wsX5_doParcel) := goodIn_app (goodIn_of _ (by decide +kernel)) ggX5_doSet_X5_doParcel
theorem dX5_doSet_0 : decode cX5_doSet 0 = .ok (.iconst 0, 1) := by decide +kernel
theorem dX5_doSet_1 : decode cX5_doSet 1 = .ok (.istore_n 3, 1) := by decide +kernel
theorem dX5_doSet_2 : decode cX5_doSet 2 = .ok (.iload_n 3, 1) := by decide +kernel
theorem dX5_doSet_3 : decode cX5_doSet 3 = .ok (.aload_n 0, 1) := by decide +kernel
theorem dX5_doSet_4 : decode cX5_doSet 4 = .ok (.getfield 7, 3) := by decide +kernel
theorem dX5_doSet_7 : decode cX5_doSet 7 = .ok (.iconst 0, 1) := by decide +kernel
theorem dX5_doSet_8 : decode cX5_doSet 8 = .ok (.iaload, 1) := by decide +kernel
theorem dX5_doSet_9 : decode cX5_doSet 9 = .ok (.if_icmp .ge 25, 3) := by decide +kernel
theorem dX5_doSet_12 : decode cX5_doSet 12 = .ok (.iload_n 2, 1) := by decide +kernel
theorem dX5_doSet_13 : decode cX5_doSet 13 = .ok (.iload_n 3, 1) := by decide +kernel
theorem dX5_doSet_14 : decode cX5_doSet 14 = .ok (.ishr, 1) := by decide +kernel
theorem dX5_doSet_15 : decode cX5_doSet 15 = .ok (.iconst 1, 1) := by decide +kernel
theorem dX5_doSet_16 : decode cX5_doSet 16 = .ok (.iand, 1) := by decide +kernel
theorem dX5_doSet_17 : decode cX5_doSet 17 = .ok (.iconst 1, 1) := by decide +kernel
theorem dX5_doSet_18 : decode cX5_doSet 18 = .ok (.if_icmp .ne 10, 3) := by decide +kernel
theorem dX5_doSet_21 : decode cX5_doSet 21 = .ok (.aload_n 0, 1) := by decide +kernel
theorem dX5_doSet_22 : decode cX5_doSet 22 = .ok (.iload_n 1, 1) := by decide +kernel
theorem dX5_doSet_23 : decode cX5_doSet 23 = .ok (.iload_n 3, 1) := by decide +kernel
theorem dX5_doSet_24 : decode cX5_doSet 24 = .ok (.iconst 1, 1) := by decide +kernel
theorem dX5_doSet_25 : decode cX5_doSet 25 = .ok (.invokevirtual 82, 3) := by decide +kernel
theorem dX5_doSet_28 : decode cX5_doSet 28 = .ok (.iinc 3 1, 3) := by decide +kernel
theorem dX5_doSet_31 : decode cX5_doSet 31 = .ok (.goto (-29), 3) := by decide +kernel
theorem dX5_doSet_34 : decode cX5_doSet 34 = .ok (.return_, 1) := by decide +kernel
set_option maxRecDepth 20000 in
theorem ggX5_findIssues_X5_part : GoodIn wsX5_findIssues wsX5_part := goodIn_r _ [6, 7, 16, 17, 18, 19, 20, 21, 22, 23, 24, 25, 26, 27, 28] (by decide +kernel) (by decide +kernel)
set_option maxRecDepth 20000 in
theorem gX5_findIssues_X5_part : GoodIn wsX5_findIssues (wsV RX5 52 RX5 yX5_part wsX5_part) := goodIn_app (goodIn_of _ (by decide +kernel)) ggX5_findIssues_X5_part
set_option maxRecDepth 20000 in
theorem ggX5_findIssues_X5_numberOf : GoodIn wsX5_findIssues wsX5_numberOf := goodIn_r _ [11, 2, 3, 4, 5, 6, 7, 16, 17, 18, 19, 20, 21, 22, 23, 24, 25, 26, 27, 28] (by decide +kernel) (by decide +kernel)
set_option maxRecDepth 20000 in
theorem gX5_findIssues_X5_numberOf : GoodIn wsX5_findIssues (wsV RX5 60 RX5 yX5_numberOf wsX5_numberOf) := goodIn_app (goodIn_of _ (by decide +kernel)) ggX5_findIssues_X5_numberOf
set_option maxRecDepth 20000 in
theorem ggX5_findIssues_X5_issueOf : GoodIn wsX5_findIssues wsX5_issueOf := goodIn_r _ [15, 2, 3, 4, 5, 6, 7, 16, 17, 18, 19, 20, 21, 22, 23, 24, 25, 26, 27, 28] (by decide +kernel) (by decide +kernel)
set_option maxRecDepth 20000 in
theorem gX5_findIssues_X5_issueOf : GoodIn wsX5_findIssues (wsV RX5 67 RX5 yX5_issueOf wsX5_issueOf) := goodIn_app (goodIn_of _ (by decide +kernel)) ggX5_findIssues_X5_issueOf
theorem dX5_findIssues_0 : decode cX5_findIssues 0 = .ok (.iconst 0, 1) := by decide +kernel
theorem dX5_findIssues_1 : decode cX5_findIssues 1 = .ok (.istore_n 1, 1) := by decide +kernel
theorem dX5_findIssues_2 : decode cX5_findIssues 2 = .ok (.iload_n 1, 1) := by decide +kernel
theorem dX5_findIssues_3 : decode cX5_findIssues 3 = .ok (.bipush 100, 2) := by decide +kernel
theorem dX5_findIssues_5 : decode cX5_findIssues 5 = .ok (.if_icmp .ge 16, 3) := by decide +kernel
theorem dX5_findIssues_8 : decode cX5_findIssues 8 = .ok (.aload_n 0, 1) := by decide +kernel
theorem dX5_findIssues_9 : decode cX5_findIssues 9 = .ok (.getfield 37, 3) := by decide +kernel
theorem dX5_findIssues_12 : decode cX5_findIssues 12 = .ok (.iload_n 1, 1) := by decide +kernel
theorem dX5_findIssues_13 : decode cX5_findIssues 13 = .ok (.iconst 0, 1) := by decide +kernel
theorem dX5_findIssues_14 : decode cX5_findIssues 14 = .ok (.iastore, 1) := by decide +kernel
theorem dX5_findIssues_15 : decode cX5_findIssues 15 = .ok (.iinc 1 1, 3) := by decide +kernel
theorem dX5_findIssues_18 : decode cX5_findIssues 18 = .ok (.goto (-16), 3) := by decide +kernel
theorem dX5_findIssues_21 : decode cX5_findIssues 21 = .ok (.iconst 0, 1) := by decide +kernel
theorem dX5_findIssues_22 : decode cX5_findIssues 22 = .ok (.istore_n 1, 1) := by decide +kernel
theorem dX5_findIssues_23 : decode cX5_findIssues 23 = .ok (.iload_n 1, 1) := by decide +kernel
theorem dX5_findIssues_24 : decode cX5_findIssues 24 = .ok (.aload_n 0, 1) := by decide +kernel
theorem dX5_findIssues_25 : decode cX5_findIssues 25 = .ok (.bipush 8, 2) := by decide +kernel
theorem dX5_findIssues_27 : decode cX5_findIssues 27 = .ok (.iconst 0, 1) := by decide +kernel
theorem dX5_findIssues_28 : decode cX5_findIssues 28 = .ok (.invokevirtual 52, 3) := by decide +kernel
theorem dX5_findIssues_31 : decode cX5_findIssues 31 = .ok (.if_icmp .ge 30, 3) := by decide +kernel
theorem dX5_findIssues_34 : decode cX5_findIssues 34 = .ok (.aload_n 0, 1) := by decide +kernel
theorem dX5_findIssues_35 : decode cX5_findIssues 35 = .ok (.getfield 37, 3) := by decide +kernel
theorem dX5_findIssues_38 : decode cX5_findIssues 38 = .ok (.aload_n 0, 1) := by decide +kernel
theorem dX5_findIssues_39 : decode cX5_findIssues 39 = .ok (.bipush 8, 2) := by decide +kernel
theorem dX5_findIssues_41 : decode cX5_findIssues 41 = .ok (.iload_n 1, 1) := by decide +kernel
theorem dX5_findIssues_42 : decode cX5_findIssues 42 = .ok (.invokevirtual 60, 3) := by decide +kernel
theorem dX5_findIssues_45 : decode cX5_findIssues 45 = .ok (.aload_n 0, 1) := by decide +kernel
theorem dX5_findIssues_46 : decode cX5_findIssues 46 = .ok (.bipush 8, 2) := by decide +kernel
theorem dX5_findIssues_48 : decode cX5_findIssues 48 = .ok (.iload_n 1, 1) := by decide +kernel
theorem dX5_findIssues_49 : decode cX5_findIssues 49 = .ok (.invokevirtual 67, 3) := by decide +kernel
theorem dX5_findIssues_52 : decode cX5_findIssues 52 = .ok (.iconst 1, 1) := by decide +kernel
theorem dX5_findIssues_53 : decode cX5_findIssues 53 = .ok (.iadd, 1) := by decide +kernel
theorem dX5_findIssues_54 : decode cX5_findIssues 54 = .ok (.iastore, 1) := by decide +kernel
theorem dX5_findIssues_55 : decode cX5_findIssues 55 = .ok (.iinc 1 1, 3) := by decide +kernel
theorem dX5_findIssues_58 : decode cX5_findIssues 58 = .ok (.goto (-35), 3) := by decide +kernel
theorem dX5_findIssues_61 : decode cX5_findIssues 61 = .ok (.return_, 1) := by decide +kernel
set_option maxRecDepth 20000 in
theorem ggX5_findLeaves_X5_findIssues : GoodIn wsX5_findLeaves wsX5_findIssues := goodIn_r _ [8, 3, 9, 10, 11, 7, 12, 13, 14, 15, 16, 17, 18, 19, 20, 21, 22, 23, 24, 25, 26, 27, 28, 29, 30, 31, 32, 33, 34] (by decide +kernel) (by decide +kernel)
set_option maxRecDepth 20000 in
theorem gX5_findLeaves_X5_findIssues : GoodIn wsX5_findLeaves (wsV RX5 86 RX5 yX5_findIssues wsX5_findIssues) := goodIn_app (goodIn_of _ (by decide +kernel)) ggX5_findLeaves_X5_findIssues
set_option maxRecDepth 20000 in
theorem ggX5_findLeaves_X5_part : GoodIn wsX5_findLeaves wsX5_part := goodIn_r _ [12, 13, 22, 23, 24, 25, 26, 27, 28, 29, 30, 31, 32, 33, 34] (by decide +kernel) (by decide +kernel)
set_option maxRecDepth 20000 in
theorem gX5_findLeaves_X5_part : GoodIn wsX5_findLeaves (wsV RX5 52 RX5 yX5_part wsX5_part) := goodIn_app (goodIn_of _ (by decide +kernel)) ggX5_findLeaves_X5_part
set_option maxRecDepth 20000 in
theorem ggX5_findLeaves_X5_numberOf : GoodIn wsX5_findLeaves wsX5_numberOf := goodIn_r _ [17, 9, 10, 11, 7, 12, 13, 22, 23, 24, 25, 26, 27, 28, 29, 30, 31, 32, 33, 34] (by decide +kernel) (by decide +kernel)
set_option maxRecDepth 20000 in
theorem gX5_findLeaves_X5_numberOf : GoodIn wsX5_findLeaves (wsV RX5 60 RX5 yX5_numberOf wsX5_numberOf) := goodIn_app (goodIn_of _ (by decide +kernel)) ggX5_findLeaves_X5_numberOf
set_option maxRecDepth 20000 in
theorem ggX5_findLeaves_X5_issueOf : GoodIn wsX5_findLeaves wsX5_issueOf := goodIn_r _ [21, 9, 10, 11, 7, 12, 13, 22, 23, 24, 25, 26, 27, 28, 29, 30, 31, 32, 33, 34] (by decide +kernel) (by decide +kernel)
set_option maxRecDepth 20000 in
theorem gX5_findLeaves_X5_issueOf : GoodIn wsX5_findLeaves (wsV RX5 67 RX5 yX5_issueOf wsX5_issueOf) := goodIn_app (goodIn_of _ (by decide +kernel)) ggX5_findLeaves_X5_issueOf
theorem dX5_findLeaves_0 : decode cX5_findLeaves 0 = .ok (.aload_n 0, 1) := by decide +kernel
theorem dX5_findLeaves_1 : decode cX5_findLeaves 1 = .ok (.invokevirtual 86, 3) := by decide +kernel
theorem dX5_findLeaves_4 : decode cX5_findLeaves 4 = .ok (.iconst 0, 1) := by decide +kernel
theorem dX5_findLeaves_5 : decode cX5_findLeaves 5 = .ok (.istore_n 2, 1) := by decide +kernel
theorem dX5_findLeaves_6 : decode cX5_findLeaves 6 = .ok (.iload_n 2, 1) := by decide +kernel
theorem dX5_findLeaves_7 : decode cX5_findLeaves 7 = .ok (.bipush 100, 2) := by decide +kernel
theorem dX5_findLeaves_9 : decode cX5_findLeaves 9 = .ok (.if_icmp .ge 23, 3) := by decide +kernel
theorem dX5_findLeaves_12 : decode cX5_findLeaves 12 = .ok (.aload_n 0, 1) := by decide +kernel
theorem dX5_findLeaves_13 : decode cX5_findLeaves 13 = .ok (.getfield 31, 3) := by decide +kernel
theorem dX5_findLeaves_16 : decode cX5_findLeaves 16 = .ok (.iload_n 2, 1) := by decide +kernel
theorem dX5_findLeaves_17 : decode cX5_findLeaves 17 = .ok (.iconst 0, 1) := by decide +kernel
theorem dX5_findLeaves_18 : decode cX5_findLeaves 18 = .ok (.iastore, 1) := by decide +kernel
theorem dX5_findLeaves_19 : decode cX5_findLeaves 19 = .ok (.aload_n 0, 1) := by decide +kernel
theorem dX5_findLeaves_20 : decode cX5_findLeaves 20 = .ok (.getfield 34, 3) := by decide +kernel
theorem dX5_findLeaves_23 : decode cX5_findLeaves 23 = .ok (.iload_n 2, 1) := by decide +kernel
theorem dX5_findLeaves_24 : decode cX5_findLeaves 24 = .ok (.iconst 0, 1) := by decide +kernel
theorem dX5_findLeaves_25 : decode cX5_findLeaves 25 = .ok (.iastore, 1) := by decide +kernel
theorem dX5_findLeaves_26 : decode cX5_findLeaves 26 = .ok (.iinc 2 1, 3) := by decide +kernel
theorem dX5_findLeaves_29 : decode cX5_findLeaves 29 = .ok (.goto (-23), 3) := by decide +kernel
theorem dX5_findLeaves_32 : decode cX5_findLeaves 32 = .ok (.iconst 0, 1) := by decide +kernel
theorem dX5_findLeaves_33 : decode cX5_findLeaves 33 = .ok (.istore_n 2, 1) := by decide +kernel
theorem dX5_findLeaves_34 : decode cX5_findLeaves 34 = .ok (.iload_n 2, 1) := by decide +kernel
theorem dX5_findLeaves_35 : decode cX5_findLeaves 35 = .ok (.aload_n 0, 1) := by decide +kernel
theorem dX5_findLeaves_36 : decode cX5_findLeaves 36 = .ok (.iload_n 1, 1) := by decide +kernel
theorem dX5_findLeaves_37 : decode cX5_findLeaves 37 = .ok (.iconst 0, 1) := by decide +kernel
theorem dX5_findLeaves_38 : decode cX5_findLeaves 38 = .ok (.invokevirtual 52, 3) := by decide +kernel
theorem dX5_findLeaves_41 : decode cX5_findLeaves 41 = .ok (.if_icmp .ge 59, 3) := by decide +kernel
theorem dX5_findLeaves_44 : decode cX5_findLeaves 44 = .ok (.aload_n 0, 1) := by decide +kernel
theorem dX5_findLeaves_45 : decode cX5_findLeaves 45 = .ok (.iload_n 1, 1) := by decide +kernel
theorem dX5_findLeaves_46 : decode cX5_findLeaves 46 = .ok (.iload_n 2, 1) := by decide +kernel
theorem dX5_findLeaves_47 : decode cX5_findLeaves 47 = .ok (.invokevirtual 60, 3) := by decide +kernel
theorem dX5_findLeaves_50 : decode cX5_findLeaves 50 = .ok (.istore_n 3, 1) := by decide +kernel
theorem dX5_findLeaves_51 : decode cX5_findLeaves 51 = .ok (.aload_n 0, 1) := by decide +kernel
theorem dX5_findLeaves_52 : decode cX5_findLeaves 52 = .ok (.getfield 31, 3) := by decide +kernel
theorem dX5_findLeaves_55 : decode cX5_findLeaves 55 = .ok (.iload_n 3, 1) := by decide +kernel
theorem dX5_findLeaves_56 : decode cX5_findLeaves 56 = .ok (.dup2, 1) := by decide +kernel
theorem dX5_findLeaves_57 : decode cX5_findLeaves 57 = .ok (.iaload, 1) := by decide +kernel
theorem dX5_findLeaves_58 : decode cX5_findLeaves 58 = .ok (.iconst 1, 1) := by decide +kernel
theorem dX5_findLeaves_59 : decode cX5_findLeaves 59 = .ok (.iadd, 1) := by decide +kernel
theorem dX5_findLeaves_60 : decode cX5_findLeaves 60 = .ok (.iastore, 1) := by decide +kernel
theorem dX5_findLeaves_61 : decode cX5_findLeaves 61 = .ok (.aload_n 0, 1) := by decide +kernel
theorem dX5_findLeaves_62 : decode cX5_findLeaves 62 = .ok (.getfield 34, 3) := by decide +kernel
theorem dX5_findLeaves_65 : decode cX5_findLeaves 65 = .ok (.iload_n 3, 1) := by decide +kernel
theorem dX5_findLeaves_66 : decode cX5_findLeaves 66 = .ok (.aload_n 0, 1) := by decide +kernel
theorem dX5_findLeaves_67 : decode cX5_findLeaves 67 = .ok (.iload_n 1, 1) := by decide +kernel
theorem dX5_findLeaves_68 : decode cX5_findLeaves 68 = .ok (.iload_n 2, 1) := by decide +kernel
theorem dX5_findLeaves_69 : decode cX5_findLeaves 69 = .ok (.invokevirtual 67, 3) := by decide +kernel
theorem dX5_findLeaves_72 : decode cX5_findLeaves 72 = .ok (.iconst 1, 1) := by decide +kernel
theorem dX5_findLeaves_73 : decode cX5_findLeaves 73 = .ok (.iadd, 1) := by decide +kernel
theorem dX5_findLeaves_74 : decode cX5_findLeaves 74 = .ok (.aload_n 0, 1) := by decide +kernel
theorem dX5_findLeaves_75 : decode cX5_findLeaves 75 = .ok (.getfield 37, 3) := by decide +kernel
theorem dX5_findLeaves_78 : decode cX5_findLeaves 78 = .ok (.iload_n 3, 1) := by decide +kernel
theorem dX5_findLeaves_79 : decode cX5_findLeaves 79 = .ok (.iaload, 1) := by decide +kernel
theorem dX5_findLeaves_80 : decode cX5_findLeaves 80 = .ok (.if_icmp .ne 7, 3) := by decide +kernel
theorem dX5_findLeaves_83 : decode cX5_findLeaves 83 = .ok (.iconst 1, 1) := by decide +kernel
theorem dX5_findLeaves_84 : decode cX5_findLeaves 84 = .ok (.goto 9, 3) := by decide +kernel
theorem dX5_findLeaves_87 : decode cX5_findLeaves 87 = .ok (.aload_n 0, 1) := by decide +kernel
theorem dX5_findLeaves_88 : decode cX5_findLeaves 88 = .ok (.getfield 34, 3) := by decide +kernel
theorem dX5_findLeaves_91 : decode cX5_findLeaves 91 = .ok (.iload_n 3, 1) := by decide +kernel
theorem dX5_findLeaves_92 : decode cX5_findLeaves 92 = .ok (.iaload, 1) := by decide +kernel
theorem dX5_findLeaves_93 : decode cX5_findLeaves 93 = .ok (.iastore, 1) := by decide +kernel
theorem dX5_findLeaves_94 : decode cX5_findLeaves 94 = .ok (.iinc 2 1, 3) := by decide +kernel
theorem dX5_findLeaves_97 : decode cX5_findLeaves 97 = .ok (.goto (-63), 3) := by decide +kernel
theorem dX5_findLeaves_100 : decode cX5_findLeaves 100 = .ok (.return_, 1) := by decide +kernel
theorem dX5_surplusOf_0 : decode cX5_surplusOf 0 = .ok (.aload_n 0, 1) := by decide +kernel
theorem dX5_surplusOf_1 : decode cX5_surplusOf 1 = .ok (.getfield 37, 3) := by decide +kernel
theorem dX5_surplusOf_4 : decode cX5_surplusOf 4 = .ok (.iload_n 1, 1) := by decide +kernel
theorem dX5_surplusOf_5 : decode cX5_surplusOf 5 = .ok (.iaload, 1) := by decide +kernel
theorem dX5_surplusOf_6 : decode cX5_surplusOf 6 = .ok (.ifCond .eq 12, 3) := by decide +kernel
theorem dX5_surplusOf_9 : decode cX5_surplusOf 9 = .ok (.aload_n 0, 1) := by decide +kernel
theorem dX5_surplusOf_10 : decode cX5_surplusOf 10 = .ok (.getfield 31, 3) := by decide +kernel
theorem dX5_surplusOf_13 : decode cX5_surplusOf 13 = .ok (.iload_n 1, 1) := by decide +kernel
theorem dX5_surplusOf_14 : decode cX5_surplusOf 14 = .ok (.iaload, 1) := by decide +kernel
theorem dX5_surplusOf_15 : decode cX5_surplusOf 15 = .ok (.ifCond .ne 12, 3) := by decide +kernel
theorem dX5_surplusOf_18 : decode cX5_surplusOf 18 = .ok (.aload_n 0, 1) := by decide +kernel
theorem dX5_surplusOf_19 : decode cX5_surplusOf 19 = .ok (.getfield 31, 3) := by decide +kernel
theorem dX5_surplusOf_22 : decode cX5_surplusOf 22 = .ok (.iload_n 1, 1) := by decide +kernel
theorem dX5_surplusOf_23 : decode cX5_surplusOf 23 = .ok (.iaload, 1) := by decide +kernel
theorem dX5_surplusOf_24 : decode cX5_surplusOf 24 = .ok (.goto 11, 3) := by decide +kernel
theorem dX5_surplusOf_27 : decode cX5_surplusOf 27 = .ok (.aload_n 0, 1) := by decide +kernel
theorem dX5_surplusOf_28 : decode cX5_surplusOf 28 = .ok (.getfield 31, 3) := by decide +kernel
theorem dX5_surplusOf_31 : decode cX5_surplusOf 31 = .ok (.iload_n 1, 1) := by decide +kernel
theorem dX5_surplusOf_32 : decode cX5_surplusOf 32 = .ok (.iaload, 1) := by decide +kernel
theorem dX5_surplusOf_33 : decode cX5_surplusOf 33 = .ok (.iconst 1, 1) := by decide +kernel
theorem dX5_surplusOf_34 : decode cX5_surplusOf 34 = .ok (.isub, 1) := by decide +kernel
theorem dX5_surplusOf_35 : decode cX5_surplusOf 35 = .ok (.ireturn, 1) := by decide +kernel
theorem dX5_oldOf_0 : decode cX5_oldOf 0 = .ok (.aload_n 0, 1) := by decide +kernel
theorem dX5_oldOf_1 : decode cX5_oldOf 1 = .ok (.getfield 37, 3) := by decide +kernel
theorem dX5_oldOf_4 : decode cX5_oldOf 4 = .ok (.iload_n 1, 1) := by decide +kernel
theorem dX5_oldOf_5 : decode cX5_oldOf 5 = .ok (.iaload, 1) := by decide +kernel
theorem dX5_oldOf_6 : decode cX5_oldOf 6 = .ok (.ifCond .le 25, 3) := by decide +kernel
theorem dX5_oldOf_9 : decode cX5_oldOf 9 = .ok (.aload_n 0, 1) := by decide +kernel
theorem dX5_oldOf_10 : decode cX5_oldOf 10 = .ok (.getfield 31, 3) := by decide +kernel
theorem dX5_oldOf_13 : decode cX5_oldOf 13 = .ok (.iload_n 1, 1) := by decide +kernel
theorem dX5_oldOf_14 : decode cX5_oldOf 14 = .ok (.iaload, 1) := by decide +kernel
theorem dX5_oldOf_15 : decode cX5_oldOf 15 = .ok (.ifCond .le 16, 3) := by decide +kernel
theorem dX5_oldOf_18 : decode cX5_oldOf 18 = .ok (.aload_n 0, 1) := by decide +kernel
theorem dX5_oldOf_19 : decode cX5_oldOf 19 = .ok (.getfield 34, 3) := by decide +kernel
theorem dX5_oldOf_22 : decode cX5_oldOf 22 = .ok (.iload_n 1, 1) := by decide +kernel
theorem dX5_oldOf_23 : decode cX5_oldOf 23 = .ok (.iaload, 1) := by decide +kernel
theorem dX5_oldOf_24 : decode cX5_oldOf 24 = .ok (.ifCond .ne 7, 3) := by decide +kernel
theorem dX5_oldOf_27 : decode cX5_oldOf 27 = .ok (.iconst 1, 1) := by decide +kernel
theorem dX5_oldOf_28 : decode cX5_oldOf 28 = .ok (.goto 4, 3) := by decide +kernel
theorem dX5_oldOf_31 : decode cX5_oldOf 31 = .ok (.iconst 0, 1) := by decide +kernel
theorem dX5_oldOf_32 : decode cX5_oldOf 32 = .ok (.ireturn, 1) := by decide +kernel
theorem dX5_missingOf_0 : decode cX5_missingOf 0 = .ok (.aload_n 0, 1) := by decide +kernel
theorem dX5_missingOf_1 : decode cX5_missingOf 1 = .ok (.getfield 37, 3) := by decide +kernel
theorem dX5_missingOf_4 : decode cX5_missingOf 4 = .ok (.iload_n 1, 1) := by decide +kernel
theorem dX5_missingOf_5 : decode cX5_missingOf 5 = .ok (.iaload, 1) := by decide +kernel
theorem dX5_missingOf_6 : decode cX5_missingOf 6 = .ok (.ifCond .le 16, 3) := by decide +kernel
theorem dX5_missingOf_9 : decode cX5_missingOf 9 = .ok (.aload_n 0, 1) := by decide +kernel
theorem dX5_missingOf_10 : decode cX5_missingOf 10 = .ok (.getfield 31, 3) := by decide +kernel
theorem dX5_missingOf_13 : decode cX5_missingOf 13 = .ok (.iload_n 1, 1) := by decide +kernel
theorem dX5_missingOf_14 : decode cX5_missingOf 14 = .ok (.iaload, 1) := by decide +kernel
theorem dX5_missingOf_15 : decode cX5_missingOf 15 = .ok (.ifCond .ne 7, 3) := by decide +kernel
theorem dX5_missingOf_18 : decode cX5_missingOf 18 = .ok (.iconst 1, 1) := by decide +kernel
theorem dX5_missingOf_19 : decode cX5_missingOf 19 = .ok (.goto 4, 3) := by decide +kernel
theorem dX5_missingOf_22 : decode cX5_missingOf 22 = .ok (.iconst 0, 1) := by decide +kernel
theorem dX5_missingOf_23 : decode cX5_missingOf 23 = .ok (.ireturn, 1) := by decide +kernel
set_option maxRecDepth 20000 in
theorem ggX5_wrong_X5_findLeaves : GoodIn wsX5_wrong wsX5_findLeaves := goodIn_r _ [5, 6, 7, 8, 9, 10, 11, 4, 12, 13, 14, 15, 16, 17, 18, 19, 20, 21, 22, 23, 24, 25, 38, 39, 40, 41, 42, 43, 44, 45, 46, 47, 48, 49, 50] (by decide +kernel) (by decide +kernel)
set_option maxRecDepth 20000 in
theorem gX5_wrong_X5_findLeaves : GoodIn wsX5_wrong (wsV RX5 89 RX5 yX5_findLeaves wsX5_findLeaves) := goodIn_app (goodIn_of _ (by decide +kernel)) ggX5_wrong_X5_findLeaves
set_option maxRecDepth 20000 in
theorem ggX5_wrong_X5_surplusOf : GoodIn wsX5_wrong wsX5_surplusOf := goodIn_r _ [29, 8, 6, 38, 39, 40, 41, 42, 43, 44, 45, 46, 47, 48, 49, 50] (by decide +kernel) (by decide +kernel)
set_option maxRecDepth 20000 in
theorem gX5_wrong_X5_surplusOf : GoodIn wsX5_wrong (wsV RX5 93 RX5 yX5_surplusOf wsX5_surplusOf) := goodIn_app (goodIn_of _ (by decide +kernel)) ggX5_wrong_X5_surplusOf
set_option maxRecDepth 20000 in
theorem ggX5_wrong_X5_oldOf : GoodIn wsX5_wrong wsX5_oldOf := goodIn_r _ [33, 8, 6, 7, 38, 39, 40, 41, 42, 43, 44, 45, 46, 47, 48, 49, 50] (by decide +kernel) (by decide +kernel)
set_option maxRecDepth 20000 in
theorem gX5_wrong_X5_oldOf : GoodIn wsX5_wrong (wsV RX5 97 RX5 yX5_oldOf wsX5_oldOf) := goodIn_app (goodIn_of _ (by decide +kernel)) ggX5_wrong_X5_oldOf
set_option maxRecDepth 20000 in
theorem ggX5_wrong_X5_missingOf : GoodIn wsX5_wrong wsX5_missingOf := goodIn_r _ [37, 8, 6, 38, 39, 40, 41, 42, 43, 44, 45, 46, 47, 48, 49, 50] (by decide +kernel) (by decide +kernel)
set_option maxRecDepth 20000 in
theorem gX5_wrong_X5_missingOf : GoodIn wsX5_wrong (wsV RX5 100 RX5 yX5_missingOf wsX5_missingOf) := goodIn_app (goodIn_of _ (by decide +kernel)) ggX5_wrong_X5_missingOf
theorem dX5_wrong_0 : decode cX5_wrong 0 = .ok (.aload_n 0, 1) := by decide +kernel
theorem dX5_wrong_1 : decode cX5_wrong 1 = .ok (.iload_n 1, 1) := by decide +kernel
theorem dX5_wrong_2 : decode cX5_wrong 2 = .ok (.invokevirtual 89, 3) := by decide +kernel
theorem dX5_wrong_5 : decode cX5_wrong 5 = .ok (.iconst 0, 1) := by decide +kernel
theorem dX5_wrong_6 : decode cX5_wrong 6 = .ok (.istore_n 3, 1) := by decide +kernel
theorem dX5_wrong_7 : decode cX5_wrong 7 = .ok (.iconst 0, 1) := by decide +kernel
theorem dX5_wrong_8 : decode cX5_wrong 8 = .ok (.istore 4, 2) := by decide +kernel
theorem dX5_wrong_10 : decode cX5_wrong 10 = .ok (.iconst 0, 1) := by decide +kernel
theorem dX5_wrong_11 : decode cX5_wrong 11 = .ok (.istore 5, 2) := by decide +kernel
theorem dX5_wrong_13 : decode cX5_wrong 13 = .ok (.bipush 10, 2) := by decide +kernel
theorem dX5_wrong_15 : decode cX5_wrong 15 = .ok (.istore 6, 2) := by decide +kernel
theorem dX5_wrong_17 : decode cX5_wrong 17 = .ok (.iload 6, 2) := by decide +kernel
theorem dX5_wrong_19 : decode cX5_wrong 19 = .ok (.bipush 99, 2) := by decide +kernel
theorem dX5_wrong_21 : decode cX5_wrong 21 = .ok (.if_icmp .gt 40, 3) := by decide +kernel
theorem dX5_wrong_24 : decode cX5_wrong 24 = .ok (.iload_n 3, 1) := by decide +kernel
theorem dX5_wrong_25 : decode cX5_wrong 25 = .ok (.aload_n 0, 1) := by decide +kernel
theorem dX5_wrong_26 : decode cX5_wrong 26 = .ok (.iload 6, 2) := by decide +kernel
theorem dX5_wrong_28 : decode cX5_wrong 28 = .ok (.invokevirtual 93, 3) := by decide +kernel
theorem dX5_wrong_31 : decode cX5_wrong 31 = .ok (.iadd, 1) := by decide +kernel
theorem dX5_wrong_32 : decode cX5_wrong 32 = .ok (.istore_n 3, 1) := by decide +kernel
theorem dX5_wrong_33 : decode cX5_wrong 33 = .ok (.iload 4, 2) := by decide +kernel
theorem dX5_wrong_35 : decode cX5_wrong 35 = .ok (.aload_n 0, 1) := by decide +kernel
theorem dX5_wrong_36 : decode cX5_wrong 36 = .ok (.iload 6, 2) := by decide +kernel
theorem dX5_wrong_38 : decode cX5_wrong 38 = .ok (.invokevirtual 97, 3) := by decide +kernel
theorem dX5_wrong_41 : decode cX5_wrong 41 = .ok (.iadd, 1) := by decide +kernel
theorem dX5_wrong_42 : decode cX5_wrong 42 = .ok (.istore 4, 2) := by decide +kernel
theorem dX5_wrong_44 : decode cX5_wrong 44 = .ok (.iload 5, 2) := by decide +kernel
theorem dX5_wrong_46 : decode cX5_wrong 46 = .ok (.aload_n 0, 1) := by decide +kernel
theorem dX5_wrong_47 : decode cX5_wrong 47 = .ok (.iload 6, 2) := by decide +kernel
theorem dX5_wrong_49 : decode cX5_wrong 49 = .ok (.invokevirtual 100, 3) := by decide +kernel
theorem dX5_wrong_52 : decode cX5_wrong 52 = .ok (.iadd, 1) := by decide +kernel
theorem dX5_wrong_53 : decode cX5_wrong 53 = .ok (.istore 5, 2) := by decide +kernel
theorem dX5_wrong_55 : decode cX5_wrong 55 = .ok (.iinc 6 1, 3) := by decide +kernel
theorem dX5_wrong_58 : decode cX5_wrong 58 = .ok (.goto (-41), 3) := by decide +kernel
theorem dX5_wrong_61 : decode cX5_wrong 61 = .ok (.iload_n 2, 1) := by decide +kernel
theorem dX5_wrong_62 : decode cX5_wrong 62 = .ok (.ifCond .ne 7, 3) := by decide +kernel
theorem dX5_wrong_65 : decode cX5_wrong 65 = .ok (.iload_n 3, 1) := by decide +kernel
theorem dX5_wrong_66 : decode cX5_wrong 66 = .ok (.goto 30, 3) := by decide +kernel
theorem dX5_wrong_69 : decode cX5_wrong 69 = .ok (.iload_n 2, 1) := by decide +kernel
theorem dX5_wrong_70 : decode cX5_wrong 70 = .ok (.iconst 1, 1) := by decide +kernel
theorem dX5_wrong_71 : decode cX5_wrong 71 = .ok (.if_icmp .ne 8, 3) := by decide +kernel
theorem dX5_wrong_74 : decode cX5_wrong 74 = .ok (.iload 4, 2) := by decide +kernel
theorem dX5_wrong_76 : decode cX5_wrong 76 = .ok (.goto 20, 3) := by decide +kernel
theorem dX5_wrong_79 : decode cX5_wrong 79 = .ok (.iload_n 2, 1) := by decide +kernel
theorem dX5_wrong_80 : decode cX5_wrong 80 = .ok (.iconst 2, 1) := by decide +kernel
theorem dX5_wrong_81 : decode cX5_wrong 81 = .ok (.if_icmp .ne 8, 3) := by decide +kernel
theorem dX5_wrong_84 : decode cX5_wrong 84 = .ok (.iload 5, 2) := by decide +kernel
theorem dX5_wrong_86 : decode cX5_wrong 86 = .ok (.goto 10, 3) := by decide +kernel
theorem dX5_wrong_89 : decode cX5_wrong 89 = .ok (.iload_n 3, 1) := by decide +kernel
theorem dX5_wrong_90 : decode cX5_wrong 90 = .ok (.iload 4, 2) := by decide +kernel
theorem dX5_wrong_92 : decode cX5_wrong 92 = .ok (.iadd, 1) := by decide +kernel
theorem dX5_wrong_93 : decode cX5_wrong 93 = .ok (.iload 5, 2) := by decide +kernel
theorem dX5_wrong_95 : decode cX5_wrong 95 = .ok (.iadd, 1) := by decide +kernel
theorem dX5_wrong_96 : decode cX5_wrong 96 = .ok (.ireturn, 1) := by decide +kernel
set_option maxRecDepth 20000 in
theorem ggX5_isRight_X5_wrong : GoodIn wsX5_isRight wsX5_wrong := goodIn_r _ [5, 6, 7, 8, 4, 9, 10, 11, 12, 13, 14, 15, 16, 17, 18, 19, 20, 21, 22, 23, 24, 25, 26, 27, 28, 29, 30, 31, 32, 33, 34, 35, 36, 37, 38, 39, 40, 41, 42, 43, 44, 45, 46, 47, 48, 49, 50, 51, 52, 53, 54] (by decide +kernel) (by decide +kernel)
set_option maxRecDepth 20000 in
theorem gX5_isRight_X5_wrong : GoodIn wsX5_isRight (wsV RX5 103 RX5 yX5_wrong wsX5_wrong) := goodIn_app (goodIn_of _ (by decide +kernel)) ggX5_isRight_X5_wrong
theorem dX5_isRight_0 : decode cX5_isRight 0 = .ok (.aload_n 0, 1) := by decide +kernel
theorem dX5_isRight_1 : decode cX5_isRight 1 = .ok (.iload_n 1, 1) := by decide +kernel
theorem dX5_isRight_2 : decode cX5_isRight 2 = .ok (.iconst 3, 1) := by decide +kernel
theorem dX5_isRight_3 : decode cX5_isRight 3 = .ok (.invokevirtual 103, 3) := by decide +kernel
theorem dX5_isRight_6 : decode cX5_isRight 6 = .ok (.ifCond .ne 7, 3) := by decide +kernel
theorem dX5_isRight_9 : decode cX5_isRight 9 = .ok (.iconst 1, 1) := by decide +kernel
theorem dX5_isRight_10 : decode cX5_isRight 10 = .ok (.goto 4, 3) := by decide +kernel
theorem dX5_isRight_13 : decode cX5_isRight 13 = .ok (.iconst 0, 1) := by decide +kernel
theorem dX5_isRight_14 : decode cX5_isRight 14 = .ok (.ireturn, 1) := by decide +kernel
set_option maxRecDepth 20000 in
theorem ggX5_checkOf_X5_part : GoodIn wsX5_checkOf wsX5_part := goodIn_r _ [5, 6, 15, 16, 17, 18, 19, 20, 21, 22, 23, 24, 25, 26, 27] (by decide +kernel) (by decide +kernel)
set_option maxRecDepth 20000 in
theorem gX5_checkOf_X5_part : GoodIn wsX5_checkOf (wsV RX5 52 RX5 yX5_part wsX5_part) := goodIn_app (goodIn_of _ (by decide +kernel)) ggX5_checkOf_X5_part
set_option maxRecDepth 20000 in
theorem ggX5_checkOf_X5_numberOf : GoodIn wsX5_checkOf wsX5_numberOf := goodIn_r _ [10, 1, 2, 3, 4, 5, 6, 15, 16, 17, 18, 19, 20, 21, 22, 23, 24, 25, 26, 27] (by decide +kernel) (by decide +kernel)
set_option maxRecDepth 20000 in
theorem gX5_checkOf_X5_numberOf : GoodIn wsX5_checkOf (wsV RX5 60 RX5 yX5_numberOf wsX5_numberOf) := goodIn_app (goodIn_of _ (by decide +kernel)) ggX5_checkOf_X5_numberOf
set_option maxRecDepth 20000 in
theorem ggX5_checkOf_X5_issueOf : GoodIn wsX5_checkOf wsX5_issueOf := goodIn_r _ [14, 1, 2, 3, 4, 5, 6, 15, 16, 17, 18, 19, 20, 21, 22, 23, 24, 25, 26, 27] (by decide +kernel) (by decide +kernel)
set_option maxRecDepth 20000 in
theorem gX5_checkOf_X5_issueOf : GoodIn wsX5_checkOf (wsV RX5 67 RX5 yX5_issueOf wsX5_issueOf) := goodIn_app (goodIn_of _ (by decide +kernel)) ggX5_checkOf_X5_issueOf
theorem dX5_checkOf_0 : decode cX5_checkOf 0 = .ok (.iconst 0, 1) := by decide +kernel
theorem dX5_checkOf_1 : decode cX5_checkOf 1 = .ok (.istore_n 2, 1) := by decide +kernel
theorem dX5_checkOf_2 : decode cX5_checkOf 2 = .ok (.iconst 0, 1) := by decide +kernel
theorem dX5_checkOf_3 : decode cX5_checkOf 3 = .ok (.istore_n 3, 1) := by decide +kernel
theorem dX5_checkOf_4 : decode cX5_checkOf 4 = .ok (.iload_n 3, 1) := by decide +kernel
theorem dX5_checkOf_5 : decode cX5_checkOf 5 = .ok (.aload_n 0, 1) := by decide +kernel
theorem dX5_checkOf_6 : decode cX5_checkOf 6 = .ok (.iload_n 1, 1) := by decide +kernel
theorem dX5_checkOf_7 : decode cX5_checkOf 7 = .ok (.iconst 0, 1) := by decide +kernel
theorem dX5_checkOf_8 : decode cX5_checkOf 8 = .ok (.invokevirtual 52, 3) := by decide +kernel
theorem dX5_checkOf_11 : decode cX5_checkOf 11 = .ok (.if_icmp .ge 27, 3) := by decide +kernel
theorem dX5_checkOf_14 : decode cX5_checkOf 14 = .ok (.iload_n 2, 1) := by decide +kernel
theorem dX5_checkOf_15 : decode cX5_checkOf 15 = .ok (.aload_n 0, 1) := by decide +kernel
theorem dX5_checkOf_16 : decode cX5_checkOf 16 = .ok (.iload_n 1, 1) := by decide +kernel
theorem dX5_checkOf_17 : decode cX5_checkOf 17 = .ok (.iload_n 3, 1) := by decide +kernel
theorem dX5_checkOf_18 : decode cX5_checkOf 18 = .ok (.invokevirtual 60, 3) := by decide +kernel
theorem dX5_checkOf_21 : decode cX5_checkOf 21 = .ok (.aload_n 0, 1) := by decide +kernel
theorem dX5_checkOf_22 : decode cX5_checkOf 22 = .ok (.iload_n 1, 1) := by decide +kernel
theorem dX5_checkOf_23 : decode cX5_checkOf 23 = .ok (.iload_n 3, 1) := by decide +kernel
theorem dX5_checkOf_24 : decode cX5_checkOf 24 = .ok (.invokevirtual 67, 3) := by decide +kernel
theorem dX5_checkOf_27 : decode cX5_checkOf 27 = .ok (.iconst 1, 1) := by decide +kernel
theorem dX5_checkOf_28 : decode cX5_checkOf 28 = .ok (.iadd, 1) := by decide +kernel
theorem dX5_checkOf_29 : decode cX5_checkOf 29 = .ok (.imul, 1) := by decide +kernel
theorem dX5_checkOf_30 : decode cX5_checkOf 30 = .ok (.iadd, 1) := by decide +kernel
theorem dX5_checkOf_31 : decode cX5_checkOf 31 = .ok (.istore_n 2, 1) := by decide +kernel
theorem dX5_checkOf_32 : decode cX5_checkOf 32 = .ok (.iinc 3 1, 3) := by decide +kernel
theorem dX5_checkOf_35 : decode cX5_checkOf 35 = .ok (.goto (-31), 3) := by decide +kernel
theorem dX5_checkOf_38 : decode cX5_checkOf 38 = .ok (.iload_n 2, 1) := by decide +kernel
theorem dX5_checkOf_39 : decode cX5_checkOf 39 = .ok (.sipush 997, 3) := by decide +kernel
theorem dX5_checkOf_42 : decode cX5_checkOf 42 = .ok (.irem, 1) := by decide +kernel
theorem dX5_checkOf_43 : decode cX5_checkOf 43 = .ok (.ireturn, 1) := by decide +kernel
theorem dX5_comesTwice_0 : decode cX5_comesTwice 0 = .ok (.iconst 0, 1) := by decide +kernel
theorem dX5_comesTwice_1 : decode cX5_comesTwice 1 = .ok (.istore_n 1, 1) := by decide +kernel
theorem dX5_comesTwice_2 : decode cX5_comesTwice 2 = .ok (.iconst 0, 1) := by decide +kernel
theorem dX5_comesTwice_3 : decode cX5_comesTwice 3 = .ok (.istore_n 2, 1) := by decide +kernel
theorem dX5_comesTwice_4 : decode cX5_comesTwice 4 = .ok (.iload_n 2, 1) := by decide +kernel
theorem dX5_comesTwice_5 : decode cX5_comesTwice 5 = .ok (.aload_n 0, 1) := by decide +kernel
theorem dX5_comesTwice_6 : decode cX5_comesTwice 6 = .ok (.getfield 106, 3) := by decide +kernel
theorem dX5_comesTwice_9 : decode cX5_comesTwice 9 = .ok (.if_icmp .ge 53, 3) := by decide +kernel
theorem dX5_comesTwice_12 : decode cX5_comesTwice 12 = .ok (.iconst 0, 1) := by decide +kernel
theorem dX5_comesTwice_13 : decode cX5_comesTwice 13 = .ok (.istore_n 3, 1) := by decide +kernel
theorem dX5_comesTwice_14 : decode cX5_comesTwice 14 = .ok (.iload_n 3, 1) := by decide +kernel
theorem dX5_comesTwice_15 : decode cX5_comesTwice 15 = .ok (.iload_n 2, 1) := by decide +kernel
theorem dX5_comesTwice_16 : decode cX5_comesTwice 16 = .ok (.if_icmp .ge 40, 3) := by decide +kernel
theorem dX5_comesTwice_19 : decode cX5_comesTwice 19 = .ok (.iload_n 1, 1) := by decide +kernel
theorem dX5_comesTwice_20 : decode cX5_comesTwice 20 = .ok (.ifCond .ne 24, 3) := by decide +kernel
theorem dX5_comesTwice_23 : decode cX5_comesTwice 23 = .ok (.aload_n 0, 1) := by decide +kernel
theorem dX5_comesTwice_24 : decode cX5_comesTwice 24 = .ok (.getfield 28, 3) := by decide +kernel
theorem dX5_comesTwice_27 : decode cX5_comesTwice 27 = .ok (.iload_n 3, 1) := by decide +kernel
theorem dX5_comesTwice_28 : decode cX5_comesTwice 28 = .ok (.iaload, 1) := by decide +kernel
theorem dX5_comesTwice_29 : decode cX5_comesTwice 29 = .ok (.bipush 100, 2) := by decide +kernel
theorem dX5_comesTwice_31 : decode cX5_comesTwice 31 = .ok (.irem, 1) := by decide +kernel
theorem dX5_comesTwice_32 : decode cX5_comesTwice 32 = .ok (.aload_n 0, 1) := by decide +kernel
theorem dX5_comesTwice_33 : decode cX5_comesTwice 33 = .ok (.getfield 28, 3) := by decide +kernel
theorem dX5_comesTwice_36 : decode cX5_comesTwice 36 = .ok (.iload_n 2, 1) := by decide +kernel
theorem dX5_comesTwice_37 : decode cX5_comesTwice 37 = .ok (.iaload, 1) := by decide +kernel
theorem dX5_comesTwice_38 : decode cX5_comesTwice 38 = .ok (.bipush 100, 2) := by decide +kernel
theorem dX5_comesTwice_40 : decode cX5_comesTwice 40 = .ok (.irem, 1) := by decide +kernel
theorem dX5_comesTwice_41 : decode cX5_comesTwice 41 = .ok (.if_icmp .ne 7, 3) := by decide +kernel
theorem dX5_comesTwice_44 : decode cX5_comesTwice 44 = .ok (.iconst 1, 1) := by decide +kernel
theorem dX5_comesTwice_45 : decode cX5_comesTwice 45 = .ok (.goto 4, 3) := by decide +kernel
theorem dX5_comesTwice_48 : decode cX5_comesTwice 48 = .ok (.iconst 0, 1) := by decide +kernel
theorem dX5_comesTwice_49 : decode cX5_comesTwice 49 = .ok (.istore_n 1, 1) := by decide +kernel
theorem dX5_comesTwice_50 : decode cX5_comesTwice 50 = .ok (.iinc 3 1, 3) := by decide +kernel
theorem dX5_comesTwice_53 : decode cX5_comesTwice 53 = .ok (.goto (-39), 3) := by decide +kernel
theorem dX5_comesTwice_56 : decode cX5_comesTwice 56 = .ok (.iinc 2 1, 3) := by decide +kernel
theorem dX5_comesTwice_59 : decode cX5_comesTwice 59 = .ok (.goto (-55), 3) := by decide +kernel
theorem dX5_comesTwice_62 : decode cX5_comesTwice 62 = .ok (.iload_n 1, 1) := by decide +kernel
theorem dX5_comesTwice_63 : decode cX5_comesTwice 63 = .ok (.ireturn, 1) := by decide +kernel
set_option maxRecDepth 20000 in
theorem ggX5_issue_X5_findFault : GoodIn wsX5_issue wsX5_findFault := goodIn_r _ [9, 2, 4, 10, 3, 11, 12, 8, 13, 14, 15, 16, 70, 71, 72, 73, 74, 75, 76, 77, 78, 79, 80, 81, 82] (by decide +kernel) (by decide +kernel)
set_option maxRecDepth 20000 in
theorem gX5_issue_X5_findFault : GoodIn wsX5_issue (wsV RX5 109 RX5 yX5_findFault wsX5_findFault) := goodIn_app (goodIn_of _ (by decide +kernel)) ggX5_issue_X5_findFault
set_option maxRecDepth 20000 in
theorem ggX5_issue_X5_comesTwice : GoodIn wsX5_issue wsX5_comesTwice := goodIn_r _ [20, 2, 3, 70, 71, 72, 73, 74, 75, 76, 77, 78, 79, 80, 81, 82] (by decide +kernel) (by decide +kernel)
set_option maxRecDepth 20000 in
theorem gX5_issue_X5_comesTwice : GoodIn wsX5_issue (wsV RX5 113 RX5 yX5_comesTwice wsX5_comesTwice) := goodIn_app (goodIn_of _ (by decide +kernel)) ggX5_issue_X5_comesTwice
set_option maxRecDepth 20000 in
theorem ggX5_issue_X5_record : GoodIn wsX5_issue wsX5_record := goodIn_r _ [24, 25, 26, 1, 27, 28, 8, 29, 70, 71, 72, 73, 74, 75, 76, 77, 78, 79, 80, 81, 82] (by decide +kernel) (by decide +kernel)
set_option maxRecDepth 20000 in
theorem gX5_issue_X5_record : GoodIn wsX5_issue (wsV RX5 117 RX5 yX5_record wsX5_record) := goodIn_app (goodIn_of _ (by decide +kernel)) ggX5_issue_X5_record
set_option maxRecDepth 20000 in
theorem ggX5_issue_X5_doParcel : GoodIn wsX5_issue wsX5_doParcel := goodIn_r _ [33, 1, 34, 35, 36, 8, 37, 38, 39, 40, 41, 42, 43, 44, 45, 46, 47, 48, 49, 50, 51, 52, 53, 54, 55, 56, 57, 58, 59, 60, 61, 62, 63, 64, 65, 66, 67, 68, 69, 70, 71, 72, 73, 74, 75, 76, 77, 78, 79, 80, 81, 82] (by decide +kernel) (by decide +kernel)
set_option maxRecDepth 20000 in
theorem gX5_issue_X5_doParcel : GoodIn wsX5_issue (wsV RX5 82 RX5 yX5_doParcel wsX5_doParcel) := goodIn_app (goodIn_of _ (by decide +kernel)) ggX5_issue_X5_doParcel
set_option maxRecDepth 20000 in
theorem ggX5_issue_X5_part : GoodIn wsX5_issue wsX5_part := goodIn_r _ [45, 1, 70, 71, 72, 73, 74, 75, 76, 77, 78, 79, 80, 81, 82] (by decide +kernel) (by decide +kernel)
set_option maxRecDepth 20000 in
theorem gX5_issue_X5_part : GoodIn wsX5_issue (wsV RX5 52 RX5 yX5_part wsX5_part) := goodIn_app (goodIn_of _ (by decide +kernel)) ggX5_issue_X5_part
set_option maxRecDepth 20000 in
theorem ggX5_issue_X5_setPart : GoodIn wsX5_issue wsX5_setPart := goodIn_r _ [65, 1, 70, 71, 72, 73, 74, 75, 76, 77, 78, 79, 80, 81, 82] (by decide +kernel) (by decide +kernel)
set_option maxRecDepth 20000 in
theorem gX5_issue_X5_setPart : GoodIn wsX5_issue (wsV RX5 56 RX5 yX5_setPart wsX5_setPart) := goodIn_app (goodIn_of _ (by decide +kernel)) ggX5_issue_X5_setPart
theorem dX5_issue_0 : decode cX5_issue 0 = .ok (.aload_n 0, 1) := by decide +kernel
theorem dX5_issue_1 : decode cX5_issue 1 = .ok (.invokevirtual 109, 3) := by decide +kernel
theorem dX5_issue_4 : decode cX5_issue 4 = .ok (.bipush (-6), 2) := by decide +kernel
theorem dX5_issue_6 : decode cX5_issue 6 = .ok (.if_icmp .eq 6, 3) := by decide +kernel
theorem dX5_issue_9 : decode cX5_issue 9 = .ok (.bipush (-3), 2) := by decide +kernel
theorem dX5_issue_11 : decode cX5_issue 11 = .ok (.ireturn, 1) := by decide +kernel
theorem dX5_issue_12 : decode cX5_issue 12 = .ok (.aload_n 0, 1) := by decide +kernel
theorem dX5_issue_13 : decode cX5_issue 13 = .ok (.invokevirtual 113, 3) := by decide +kernel
theorem dX5_issue_16 : decode cX5_issue 16 = .ok (.ifCond .eq 6, 3) := by decide +kernel
theorem dX5_issue_19 : decode cX5_issue 19 = .ok (.bipush (-2), 2) := by decide +kernel
theorem dX5_issue_21 : decode cX5_issue 21 = .ok (.ireturn, 1) := by decide +kernel
theorem dX5_issue_22 : decode cX5_issue 22 = .ok (.aload_n 0, 1) := by decide +kernel
theorem dX5_issue_23 : decode cX5_issue 23 = .ok (.getfield 7, 3) := by decide +kernel
theorem dX5_issue_26 : decode cX5_issue 26 = .ok (.iconst 0, 1) := by decide +kernel
theorem dX5_issue_27 : decode cX5_issue 27 = .ok (.iaload, 1) := by decide +kernel
theorem dX5_issue_28 : decode cX5_issue 28 = .ok (.bipush 16, 2) := by decide +kernel
theorem dX5_issue_30 : decode cX5_issue 30 = .ok (.if_icmp .ne 6, 3) := by decide +kernel
theorem dX5_issue_33 : decode cX5_issue 33 = .ok (.bipush (-4), 2) := by decide +kernel
theorem dX5_issue_35 : decode cX5_issue 35 = .ok (.ireturn, 1) := by decide +kernel
theorem dX5_issue_36 : decode cX5_issue 36 = .ok (.aload_n 0, 1) := by decide +kernel
theorem dX5_issue_37 : decode cX5_issue 37 = .ok (.invokevirtual 117, 3) := by decide +kernel
theorem dX5_issue_40 : decode cX5_issue 40 = .ok (.aload_n 0, 1) := by decide +kernel
theorem dX5_issue_41 : decode cX5_issue 41 = .ok (.getfield 7, 3) := by decide +kernel
theorem dX5_issue_44 : decode cX5_issue 44 = .ok (.iconst 0, 1) := by decide +kernel
theorem dX5_issue_45 : decode cX5_issue 45 = .ok (.iaload, 1) := by decide +kernel
theorem dX5_issue_46 : decode cX5_issue 46 = .ok (.istore_n 1, 1) := by decide +kernel
theorem dX5_issue_47 : decode cX5_issue 47 = .ok (.aload_n 0, 1) := by decide +kernel
theorem dX5_issue_48 : decode cX5_issue 48 = .ok (.getfield 7, 3) := by decide +kernel
theorem dX5_issue_51 : decode cX5_issue 51 = .ok (.iconst 2, 1) := by decide +kernel
theorem dX5_issue_52 : decode cX5_issue 52 = .ok (.bipush 9, 2) := by decide +kernel
theorem dX5_issue_54 : decode cX5_issue 54 = .ok (.iload_n 1, 1) := by decide +kernel
theorem dX5_issue_55 : decode cX5_issue 55 = .ok (.imul, 1) := by decide +kernel
theorem dX5_issue_56 : decode cX5_issue 56 = .ok (.iadd, 1) := by decide +kernel
theorem dX5_issue_57 : decode cX5_issue 57 = .ok (.aload_n 0, 1) := by decide +kernel
theorem dX5_issue_58 : decode cX5_issue 58 = .ok (.getfield 106, 3) := by decide +kernel
theorem dX5_issue_61 : decode cX5_issue 61 = .ok (.iastore, 1) := by decide +kernel
theorem dX5_issue_62 : decode cX5_issue 62 = .ok (.iconst 0, 1) := by decide +kernel
theorem dX5_issue_63 : decode cX5_issue 63 = .ok (.istore_n 2, 1) := by decide +kernel
theorem dX5_issue_64 : decode cX5_issue 64 = .ok (.iload_n 2, 1) := by decide +kernel
theorem dX5_issue_65 : decode cX5_issue 65 = .ok (.bipush 8, 2) := by decide +kernel
theorem dX5_issue_67 : decode cX5_issue 67 = .ok (.if_icmp .ge 42, 3) := by decide +kernel
theorem dX5_issue_70 : decode cX5_issue 70 = .ok (.aload_n 0, 1) := by decide +kernel
theorem dX5_issue_71 : decode cX5_issue 71 = .ok (.getfield 7, 3) := by decide +kernel
theorem dX5_issue_74 : decode cX5_issue 74 = .ok (.iconst 2, 1) := by decide +kernel
theorem dX5_issue_75 : decode cX5_issue 75 = .ok (.bipush 9, 2) := by decide +kernel
theorem dX5_issue_77 : decode cX5_issue 77 = .ok (.iload_n 1, 1) := by decide +kernel
theorem dX5_issue_78 : decode cX5_issue 78 = .ok (.imul, 1) := by decide +kernel
theorem dX5_issue_79 : decode cX5_issue 79 = .ok (.iadd, 1) := by decide +kernel
theorem dX5_issue_80 : decode cX5_issue 80 = .ok (.iconst 1, 1) := by decide +kernel
theorem dX5_issue_81 : decode cX5_issue 81 = .ok (.iadd, 1) := by decide +kernel
theorem dX5_issue_82 : decode cX5_issue 82 = .ok (.iload_n 2, 1) := by decide +kernel
theorem dX5_issue_83 : decode cX5_issue 83 = .ok (.iadd, 1) := by decide +kernel
theorem dX5_issue_84 : decode cX5_issue 84 = .ok (.iload_n 2, 1) := by decide +kernel
theorem dX5_issue_85 : decode cX5_issue 85 = .ok (.aload_n 0, 1) := by decide +kernel
theorem dX5_issue_86 : decode cX5_issue 86 = .ok (.getfield 106, 3) := by decide +kernel
theorem dX5_issue_89 : decode cX5_issue 89 = .ok (.if_icmp .ge 12, 3) := by decide +kernel
theorem dX5_issue_92 : decode cX5_issue 92 = .ok (.aload_n 0, 1) := by decide +kernel
theorem dX5_issue_93 : decode cX5_issue 93 = .ok (.getfield 28, 3) := by decide +kernel
theorem dX5_issue_96 : decode cX5_issue 96 = .ok (.iload_n 2, 1) := by decide +kernel
theorem dX5_issue_97 : decode cX5_issue 97 = .ok (.iaload, 1) := by decide +kernel
theorem dX5_issue_98 : decode cX5_issue 98 = .ok (.goto 4, 3) := by decide +kernel
theorem dX5_issue_101 : decode cX5_issue 101 = .ok (.iconst 0, 1) := by decide +kernel
theorem dX5_issue_102 : decode cX5_issue 102 = .ok (.iastore, 1) := by decide +kernel
theorem dX5_issue_103 : decode cX5_issue 103 = .ok (.iinc 2 1, 3) := by decide +kernel
theorem dX5_issue_106 : decode cX5_issue 106 = .ok (.goto (-42), 3) := by decide +kernel
theorem dX5_issue_109 : decode cX5_issue 109 = .ok (.aload_n 0, 1) := by decide +kernel
theorem dX5_issue_110 : decode cX5_issue 110 = .ok (.getfield 7, 3) := by decide +kernel
theorem dX5_issue_113 : decode cX5_issue 113 = .ok (.iconst 0, 1) := by decide +kernel
theorem dX5_issue_114 : decode cX5_issue 114 = .ok (.dup2, 1) := by decide +kernel
theorem dX5_issue_115 : decode cX5_issue 115 = .ok (.iaload, 1) := by decide +kernel
theorem dX5_issue_116 : decode cX5_issue 116 = .ok (.iconst 1, 1) := by decide +kernel
theorem dX5_issue_117 : decode cX5_issue 117 = .ok (.iadd, 1) := by decide +kernel
theorem dX5_issue_118 : decode cX5_issue 118 = .ok (.iastore, 1) := by decide +kernel
theorem dX5_issue_119 : decode cX5_issue 119 = .ok (.aload_n 0, 1) := by decide +kernel
theorem dX5_issue_120 : decode cX5_issue 120 = .ok (.iconst 0, 1) := by decide +kernel
theorem dX5_issue_121 : decode cX5_issue 121 = .ok (.putfield 120, 3) := by decide +kernel
theorem dX5_issue_124 : decode cX5_issue 124 = .ok (.aload_n 0, 1) := by decide +kernel
theorem dX5_issue_125 : decode cX5_issue 125 = .ok (.bipush 8, 2) := by decide +kernel
theorem dX5_issue_127 : decode cX5_issue 127 = .ok (.iload_n 1, 1) := by decide +kernel
theorem dX5_issue_128 : decode cX5_issue 128 = .ok (.iconst 1, 1) := by decide +kernel
theorem dX5_issue_129 : decode cX5_issue 129 = .ok (.invokevirtual 82, 3) := by decide +kernel
theorem dX5_issue_132 : decode cX5_issue 132 = .ok (.iconst 0, 1) := by decide +kernel
theorem dX5_issue_133 : decode cX5_issue 133 = .ok (.istore_n 2, 1) := by decide +kernel
theorem dX5_issue_134 : decode cX5_issue 134 = .ok (.iload_n 2, 1) := by decide +kernel
theorem dX5_issue_135 : decode cX5_issue 135 = .ok (.aload_n 0, 1) := by decide +kernel
theorem dX5_issue_136 : decode cX5_issue 136 = .ok (.getfield 7, 3) := by decide +kernel
theorem dX5_issue_139 : decode cX5_issue 139 = .ok (.iconst 1, 1) := by decide +kernel
theorem dX5_issue_140 : decode cX5_issue 140 = .ok (.iaload, 1) := by decide +kernel
theorem dX5_issue_141 : decode cX5_issue 141 = .ok (.if_icmp .ge 25, 3) := by decide +kernel
theorem dX5_issue_144 : decode cX5_issue 144 = .ok (.aload_n 0, 1) := by decide +kernel
theorem dX5_issue_145 : decode cX5_issue 145 = .ok (.iload_n 2, 1) := by decide +kernel
theorem dX5_issue_146 : decode cX5_issue 146 = .ok (.iconst 1, 1) := by decide +kernel
theorem dX5_issue_147 : decode cX5_issue 147 = .ok (.aload_n 0, 1) := by decide +kernel
theorem dX5_issue_148 : decode cX5_issue 148 = .ok (.iload_n 2, 1) := by decide +kernel
theorem dX5_issue_149 : decode cX5_issue 149 = .ok (.iconst 1, 1) := by decide +kernel
theorem dX5_issue_150 : decode cX5_issue 150 = .ok (.invokevirtual 52, 3) := by decide +kernel
theorem dX5_issue_153 : decode cX5_issue 153 = .ok (.iconst 1, 1) := by decide +kernel
theorem dX5_issue_154 : decode cX5_issue 154 = .ok (.iload_n 1, 1) := by decide +kernel
theorem dX5_issue_155 : decode cX5_issue 155 = .ok (.ishl, 1) := by decide +kernel
theorem dX5_issue_156 : decode cX5_issue 156 = .ok (.ior, 1) := by decide +kernel
theorem dX5_issue_157 : decode cX5_issue 157 = .ok (.invokevirtual 56, 3) := by decide +kernel
theorem dX5_issue_160 : decode cX5_issue 160 = .ok (.iinc 2 1, 3) := by decide +kernel
theorem dX5_issue_163 : decode cX5_issue 163 = .ok (.goto (-29), 3) := by decide +kernel
theorem dX5_issue_166 : decode cX5_issue 166 = .ok (.iload_n 1, 1) := by decide +kernel
theorem dX5_issue_167 : decode cX5_issue 167 = .ok (.ireturn, 1) := by decide +kernel
set_option maxRecDepth 20000 in
theorem ggX5_own_X5_record : GoodIn wsX5_own wsX5_record := goodIn_r _ [6, 7, 8, 1, 9, 10, 5, 11, 20, 21, 22, 23, 24, 25, 26, 27, 28, 29, 30, 31, 32] (by decide +kernel) (by decide +kernel)
set_option maxRecDepth 20000 in
theorem gX5_own_X5_record : GoodIn wsX5_own (wsV RX5 117 RX5 yX5_record wsX5_record) := goodIn_app (goodIn_of _ (by decide +kernel)) ggX5_own_X5_record
set_option maxRecDepth 20000 in
theorem ggX5_own_X5_part : GoodIn wsX5_own wsX5_part := goodIn_r _ [15, 1, 20, 21, 22, 23, 24, 25, 26, 27, 28, 29, 30, 31, 32] (by decide +kernel) (by decide +kernel)
set_option maxRecDepth 20000 in
theorem gX5_own_X5_part : GoodIn wsX5_own (wsV RX5 52 RX5 yX5_part wsX5_part) := goodIn_app (goodIn_of _ (by decide +kernel)) ggX5_own_X5_part
set_option maxRecDepth 20000 in
theorem ggX5_own_X5_setPart : GoodIn wsX5_own wsX5_setPart := goodIn_r _ [19, 1, 20, 21, 22, 23, 24, 25, 26, 27, 28, 29, 30, 31, 32] (by decide +kernel) (by decide +kernel)
set_option maxRecDepth 20000 in
theorem gX5_own_X5_setPart : GoodIn wsX5_own (wsV RX5 56 RX5 yX5_setPart wsX5_setPart) := goodIn_app (goodIn_of _ (by decide +kernel)) ggX5_own_X5_setPart
theorem dX5_own_0 : decode cX5_own 0 = .ok (.aload_n 0, 1) := by decide +kernel
theorem dX5_own_1 : decode cX5_own 1 = .ok (.getfield 7, 3) := by decide +kernel
theorem dX5_own_4 : decode cX5_own 4 = .ok (.iconst 1, 1) := by decide +kernel
theorem dX5_own_5 : decode cX5_own 5 = .ok (.iaload, 1) := by decide +kernel
theorem dX5_own_6 : decode cX5_own 6 = .ok (.bipush 8, 2) := by decide +kernel
theorem dX5_own_8 : decode cX5_own 8 = .ok (.if_icmp .ne 6, 3) := by decide +kernel
theorem dX5_own_11 : decode cX5_own 11 = .ok (.bipush (-4), 2) := by decide +kernel
theorem dX5_own_13 : decode cX5_own 13 = .ok (.ireturn, 1) := by decide +kernel
theorem dX5_own_14 : decode cX5_own 14 = .ok (.aload_n 0, 1) := by decide +kernel
theorem dX5_own_15 : decode cX5_own 15 = .ok (.invokevirtual 117, 3) := by decide +kernel
theorem dX5_own_18 : decode cX5_own 18 = .ok (.aload_n 0, 1) := by decide +kernel
theorem dX5_own_19 : decode cX5_own 19 = .ok (.getfield 7, 3) := by decide +kernel
theorem dX5_own_22 : decode cX5_own 22 = .ok (.iconst 1, 1) := by decide +kernel
theorem dX5_own_23 : decode cX5_own 23 = .ok (.iaload, 1) := by decide +kernel
theorem dX5_own_24 : decode cX5_own 24 = .ok (.istore_n 1, 1) := by decide +kernel
theorem dX5_own_25 : decode cX5_own 25 = .ok (.iconst 0, 1) := by decide +kernel
theorem dX5_own_26 : decode cX5_own 26 = .ok (.istore_n 2, 1) := by decide +kernel
theorem dX5_own_27 : decode cX5_own 27 = .ok (.iload_n 2, 1) := by decide +kernel
theorem dX5_own_28 : decode cX5_own 28 = .ok (.bipush 63, 2) := by decide +kernel
theorem dX5_own_30 : decode cX5_own 30 = .ok (.if_icmp .ge 22, 3) := by decide +kernel
theorem dX5_own_33 : decode cX5_own 33 = .ok (.aload_n 0, 1) := by decide +kernel
theorem dX5_own_34 : decode cX5_own 34 = .ok (.iload_n 1, 1) := by decide +kernel
theorem dX5_own_35 : decode cX5_own 35 = .ok (.iload_n 2, 1) := by decide +kernel
theorem dX5_own_36 : decode cX5_own 36 = .ok (.aload_n 0, 1) := by decide +kernel
theorem dX5_own_37 : decode cX5_own 37 = .ok (.bipush 8, 2) := by decide +kernel
theorem dX5_own_39 : decode cX5_own 39 = .ok (.iload_n 2, 1) := by decide +kernel
theorem dX5_own_40 : decode cX5_own 40 = .ok (.invokevirtual 52, 3) := by decide +kernel
theorem dX5_own_43 : decode cX5_own 43 = .ok (.invokevirtual 56, 3) := by decide +kernel
theorem dX5_own_46 : decode cX5_own 46 = .ok (.iinc 2 1, 3) := by decide +kernel
theorem dX5_own_49 : decode cX5_own 49 = .ok (.goto (-22), 3) := by decide +kernel
theorem dX5_own_52 : decode cX5_own 52 = .ok (.aload_n 0, 1) := by decide +kernel
theorem dX5_own_53 : decode cX5_own 53 = .ok (.iload_n 1, 1) := by decide +kernel
theorem dX5_own_54 : decode cX5_own 54 = .ok (.iconst 1, 1) := by decide +kernel
theorem dX5_own_55 : decode cX5_own 55 = .ok (.iconst 0, 1) := by decide +kernel
theorem dX5_own_56 : decode cX5_own 56 = .ok (.invokevirtual 56, 3) := by decide +kernel
theorem dX5_own_59 : decode cX5_own 59 = .ok (.aload_n 0, 1) := by decide +kernel
theorem dX5_own_60 : decode cX5_own 60 = .ok (.iload_n 1, 1) := by decide +kernel
theorem dX5_own_61 : decode cX5_own 61 = .ok (.iconst 2, 1) := by decide +kernel
theorem dX5_own_62 : decode cX5_own 62 = .ok (.iconst 0, 1) := by decide +kernel
theorem dX5_own_63 : decode cX5_own 63 = .ok (.invokevirtual 56, 3) := by decide +kernel
theorem dX5_own_66 : decode cX5_own 66 = .ok (.aload_n 0, 1) := by decide +kernel
theorem dX5_own_67 : decode cX5_own 67 = .ok (.getfield 7, 3) := by decide +kernel
theorem dX5_own_70 : decode cX5_own 70 = .ok (.iconst 1, 1) := by decide +kernel
theorem dX5_own_71 : decode cX5_own 71 = .ok (.dup2, 1) := by decide +kernel
theorem dX5_own_72 : decode cX5_own 72 = .ok (.iaload, 1) := by decide +kernel
theorem dX5_own_73 : decode cX5_own 73 = .ok (.iconst 1, 1) := by decide +kernel
theorem dX5_own_74 : decode cX5_own 74 = .ok (.iadd, 1) := by decide +kernel
theorem dX5_own_75 : decode cX5_own 75 = .ok (.iastore, 1) := by decide +kernel
theorem dX5_own_76 : decode cX5_own 76 = .ok (.iload_n 1, 1) := by decide +kernel
theorem dX5_own_77 : decode cX5_own 77 = .ok (.ireturn, 1) := by decide +kernel
set_option maxRecDepth 20000 in
theorem ggX5_waits_X5_part : GoodIn wsX5_waits wsX5_part := goodIn_r _ [5, 6, 7, 8, 9, 10, 11, 12, 13, 14, 15, 16, 17, 18, 19] (by decide +kernel) (by decide +kernel)
set_option maxRecDepth 20000 in
theorem gX5_waits_X5_part : GoodIn wsX5_waits (wsV RX5 52 RX5 yX5_part wsX5_part) := goodIn_app (goodIn_of _ (by decide +kernel)) ggX5_waits_X5_part
theorem dX5_waits_0 : decode cX5_waits 0 = .ok (.aload_n 0, 1) := by decide +kernel
theorem dX5_waits_1 : decode cX5_waits 1 = .ok (.iload_n 1, 1) := by decide +kernel
theorem dX5_waits_2 : decode cX5_waits 2 = .ok (.iconst 1, 1) := by decide +kernel
theorem dX5_waits_3 : decode cX5_waits 3 = .ok (.invokevirtual 52, 3) := by decide +kernel
theorem dX5_waits_6 : decode cX5_waits 6 = .ok (.iload_n 2, 1) := by decide +kernel
theorem dX5_waits_7 : decode cX5_waits 7 = .ok (.ishr, 1) := by decide +kernel
theorem dX5_waits_8 : decode cX5_waits 8 = .ok (.iconst 1, 1) := by decide +kernel
theorem dX5_waits_9 : decode cX5_waits 9 = .ok (.iand, 1) := by decide +kernel
theorem dX5_waits_10 : decode cX5_waits 10 = .ok (.iconst 1, 1) := by decide +kernel
theorem dX5_waits_11 : decode cX5_waits 11 = .ok (.if_icmp .ne 7, 3) := by decide +kernel
theorem dX5_waits_14 : decode cX5_waits 14 = .ok (.iconst 1, 1) := by decide +kernel
theorem dX5_waits_15 : decode cX5_waits 15 = .ok (.goto 4, 3) := by decide +kernel
theorem dX5_waits_18 : decode cX5_waits 18 = .ok (.iconst 0, 1) := by decide +kernel
theorem dX5_waits_19 : decode cX5_waits 19 = .ok (.ireturn, 1) := by decide +kernel
set_option maxRecDepth 20000 in
theorem ggX5_done_X5_isOwner : GoodIn wsX5_done wsX5_isOwner := goodIn_r _ [5, 6, 7, 8, 4, 9, 67, 68, 69, 70, 71, 72, 73, 74, 75, 76, 77, 78, 79] (by decide +kernel) (by decide +kernel)
set_option maxRecDepth 20000 in
theorem gX5_done_X5_isOwner : GoodIn wsX5_done (wsV RX5 123 RX5 yX5_isOwner wsX5_isOwner) := goodIn_app (goodIn_of _ (by decide +kernel)) ggX5_done_X5_isOwner
set_option maxRecDepth 20000 in
theorem ggX5_done_X5_isParcel : GoodIn wsX5_done wsX5_isParcel := goodIn_r _ [13, 6, 7, 8, 4, 9, 67, 68, 69, 70, 71, 72, 73, 74, 75, 76, 77, 78, 79] (by decide +kernel) (by decide +kernel)
set_option maxRecDepth 20000 in
theorem gX5_done_X5_isParcel : GoodIn wsX5_done (wsV RX5 127 RX5 yX5_isParcel wsX5_isParcel) := goodIn_app (goodIn_of _ (by decide +kernel)) ggX5_done_X5_isParcel
set_option maxRecDepth 20000 in
theorem ggX5_done_X5_waits : GoodIn wsX5_done wsX5_waits := goodIn_r _ [17, 18, 19, 20, 4, 21, 6, 67, 68, 69, 70, 71, 72, 73, 74, 75, 76, 77, 78, 79] (by decide +kernel) (by decide +kernel)
set_option maxRecDepth 20000 in
theorem gX5_done_X5_waits : GoodIn wsX5_done (wsV RX5 130 RX5 yX5_waits wsX5_waits) := goodIn_app (goodIn_of _ (by decide +kernel)) ggX5_done_X5_waits
set_option maxRecDepth 20000 in
theorem ggX5_done_X5_record : GoodIn wsX5_done wsX5_record := goodIn_r _ [25, 26, 27, 6, 28, 29, 4, 30, 67, 68, 69, 70, 71, 72, 73, 74, 75, 76, 77, 78, 79] (by decide +kernel) (by decide +kernel)
set_option maxRecDepth 20000 in
theorem gX5_done_X5_record : GoodIn wsX5_done (wsV RX5 117 RX5 yX5_record wsX5_record) := goodIn_app (goodIn_of _ (by decide +kernel)) ggX5_done_X5_record
set_option maxRecDepth 20000 in
theorem ggX5_done_X5_doParcel : GoodIn wsX5_done wsX5_doParcel := goodIn_r _ [34, 6, 35, 36, 37, 4, 38, 39, 40, 41, 42, 18, 19, 20, 21, 43, 44, 45, 46, 47, 48, 49, 50, 51, 52, 53, 54, 55, 56, 57, 58, 59, 60, 61, 62, 63, 64, 65, 66, 67, 68, 69, 70, 71, 72, 73, 74, 75, 76, 77, 78, 79] (by decide +kernel) (by decide +kernel)
set_option maxRecDepth 20000 in
theorem gX5_done_X5_doParcel : GoodIn wsX5_done (wsV RX5 82 RX5 yX5_doParcel wsX5_doParcel) := goodIn_app (goodIn_of _ (by decide +kernel)) ggX5_done_X5_doParcel
set_option maxRecDepth 20000 in
theorem ggX5_done_X5_part : GoodIn wsX5_done wsX5_part := goodIn_r _ [21, 6, 67, 68, 69, 70, 71, 72, 73, 74, 75, 76, 77, 78, 79] (by decide +kernel) (by decide +kernel)
set_option maxRecDepth 20000 in
theorem gX5_done_X5_part : GoodIn wsX5_done (wsV RX5 52 RX5 yX5_part wsX5_part) := goodIn_app (goodIn_of _ (by decide +kernel)) ggX5_done_X5_part
set_option maxRecDepth 20000 in
theorem ggX5_done_X5_setPart : GoodIn wsX5_done wsX5_setPart := goodIn_r _ [62, 6, 67, 68, 69, 70, 71, 72, 73, 74, 75, 76, 77, 78, 79] (by decide +kernel) (by decide +kernel)
set_option maxRecDepth 20000 in
theorem gX5_done_X5_setPart : GoodIn wsX5_done (wsV RX5 56 RX5 yX5_setPart wsX5_setPart) := goodIn_app (goodIn_of _ (by decide +kernel)) ggX5_done_X5_setPart
theorem dX5_done_0 : decode cX5_done 0 = .ok (.aload_n 0, 1) := by decide +kernel
theorem dX5_done_1 : decode cX5_done 1 = .ok (.iload_n 1, 1) := by decide +kernel
theorem dX5_done_2 : decode cX5_done 2 = .ok (.invokevirtual 123, 3) := by decide +kernel
theorem dX5_done_5 : decode cX5_done 5 = .ok (.ifCond .eq 11, 3) := by decide +kernel
theorem dX5_done_8 : decode cX5_done 8 = .ok (.aload_n 0, 1) := by decide +kernel
theorem dX5_done_9 : decode cX5_done 9 = .ok (.iload_n 2, 1) := by decide +kernel
theorem dX5_done_10 : decode cX5_done 10 = .ok (.invokevirtual 127, 3) := by decide +kernel
theorem dX5_done_13 : decode cX5_done 13 = .ok (.ifCond .ne 5, 3) := by decide +kernel
theorem dX5_done_16 : decode cX5_done 16 = .ok (.iconst (-1), 1) := by decide +kernel
theorem dX5_done_17 : decode cX5_done 17 = .ok (.ireturn, 1) := by decide +kernel
theorem dX5_done_18 : decode cX5_done 18 = .ok (.aload_n 0, 1) := by decide +kernel
theorem dX5_done_19 : decode cX5_done 19 = .ok (.iload_n 1, 1) := by decide +kernel
theorem dX5_done_20 : decode cX5_done 20 = .ok (.iload_n 2, 1) := by decide +kernel
theorem dX5_done_21 : decode cX5_done 21 = .ok (.invokevirtual 130, 3) := by decide +kernel
theorem dX5_done_24 : decode cX5_done 24 = .ok (.ifCond .ne 6, 3) := by decide +kernel
theorem dX5_done_27 : decode cX5_done 27 = .ok (.bipush (-5), 2) := by decide +kernel
theorem dX5_done_29 : decode cX5_done 29 = .ok (.ireturn, 1) := by decide +kernel
theorem dX5_done_30 : decode cX5_done 30 = .ok (.aload_n 0, 1) := by decide +kernel
theorem dX5_done_31 : decode cX5_done 31 = .ok (.invokevirtual 117, 3) := by decide +kernel
theorem dX5_done_34 : decode cX5_done 34 = .ok (.aload_n 0, 1) := by decide +kernel
theorem dX5_done_35 : decode cX5_done 35 = .ok (.iload_n 1, 1) := by decide +kernel
theorem dX5_done_36 : decode cX5_done 36 = .ok (.iload_n 2, 1) := by decide +kernel
theorem dX5_done_37 : decode cX5_done 37 = .ok (.iload_n 3, 1) := by decide +kernel
theorem dX5_done_38 : decode cX5_done 38 = .ok (.invokevirtual 82, 3) := by decide +kernel
theorem dX5_done_41 : decode cX5_done 41 = .ok (.aload_n 0, 1) := by decide +kernel
theorem dX5_done_42 : decode cX5_done 42 = .ok (.iload_n 1, 1) := by decide +kernel
theorem dX5_done_43 : decode cX5_done 43 = .ok (.iconst 1, 1) := by decide +kernel
theorem dX5_done_44 : decode cX5_done 44 = .ok (.aload_n 0, 1) := by decide +kernel
theorem dX5_done_45 : decode cX5_done 45 = .ok (.iload_n 1, 1) := by decide +kernel
theorem dX5_done_46 : decode cX5_done 46 = .ok (.iconst 1, 1) := by decide +kernel
theorem dX5_done_47 : decode cX5_done 47 = .ok (.invokevirtual 52, 3) := by decide +kernel
theorem dX5_done_50 : decode cX5_done 50 = .ok (.iconst 1, 1) := by decide +kernel
theorem dX5_done_51 : decode cX5_done 51 = .ok (.iload_n 2, 1) := by decide +kernel
theorem dX5_done_52 : decode cX5_done 52 = .ok (.ishl, 1) := by decide +kernel
end
section
theorem dX5_done_53 : decode cX5_done 53 = .ok (.iconst (-1), 1) := by decide +kernel
theorem dX5_done_54 : decode cX5_done 54 = .ok (.ixor, 1) := by decide +kernel
theorem dX5_done_55 : decode cX5_done 55 = .ok (.iand, 1) := by decide +kernel
theorem dX5_done_56 : decode cX5_done 56 = .ok (.invokevirtual 56, 3) := by decide +kernel
theorem dX5_done_59 : decode cX5_done 59 = .ok (.aload_n 0, 1) := by decide +kernel
theorem dX5_done_60 : decode cX5_done 60 = .ok (.iload_n 1, 1) := by decide +kernel
theorem dX5_done_61 : decode cX5_done 61 = .ok (.iconst 0, 1) := by decide +kernel
theorem dX5_done_62 : decode cX5_done 62 = .ok (.invokevirtual 52, 3) := by decide +kernel
theorem dX5_done_65 : decode cX5_done 65 = .ok (.ireturn, 1) := by decide +kernel
set_option maxRecDepth 20000 in
theorem ggX5_doAll_X5_isOwner : GoodIn wsX5_doAll wsX5_isOwner := goodIn_r _ [5, 6, 7, 8, 4, 9, 66, 67, 68, 69, 70, 71, 72, 73, 74, 75, 76, 77, 78] (by decide +kernel) (by decide +kernel)
set_option maxRecDepth 20000 in
theorem gX5_doAll_X5_isOwner : GoodIn wsX5_doAll (wsV RX5 123 RX5 yX5_isOwner wsX5_isOwner) := goodIn_app (goodIn_of _ (by decide +kernel)) ggX5_doAll_X5_isOwner
set_option maxRecDepth 20000 in
theorem ggX5_doAll_X5_record : GoodIn wsX5_doAll wsX5_record := goodIn_r _ [13, 14, 15, 6, 16, 17, 4, 18, 66, 67, 68, 69, 70, 71, 72, 73, 74, 75, 76, 77, 78] (by decide +kernel) (by decide +kernel)
set_option maxRecDepth 20000 in
theorem gX5_doAll_X5_record : GoodIn wsX5_doAll (wsV RX5 117 RX5 yX5_record wsX5_record) := goodIn_app (goodIn_of _ (by decide +kernel)) ggX5_doAll_X5_record
set_option maxRecDepth 20000 in
theorem ggX5_doAll_X5_part : GoodIn wsX5_doAll wsX5_part := goodIn_r _ [22, 6, 66, 67, 68, 69, 70, 71, 72, 73, 74, 75, 76, 77, 78] (by decide +kernel) (by decide +kernel)
set_option maxRecDepth 20000 in
theorem gX5_doAll_X5_part : GoodIn wsX5_doAll (wsV RX5 52 RX5 yX5_part wsX5_part) := goodIn_app (goodIn_of _ (by decide +kernel)) ggX5_doAll_X5_part
set_option maxRecDepth 20000 in
theorem ggX5_doAll_X5_doSet : GoodIn wsX5_doAll wsX5_doSet := goodIn_r _ [26, 6, 27, 28, 29, 4, 30, 31, 32, 33, 34, 35, 36, 37, 38, 19, 20, 21, 22, 39, 40, 41, 42, 43, 44, 45, 46, 47, 48, 49, 50, 51, 52, 53, 54, 55, 56, 57, 58, 59, 60, 61, 62, 66, 67, 68, 69, 70, 71, 72, 73, 74, 75, 76, 77, 78] (by decide +kernel) (by decide +kernel)
set_option maxRecDepth 20000 in
theorem gX5_doAll_X5_doSet : GoodIn wsX5_doAll (wsV RX5 134 RX5 yX5_doSet wsX5_doSet) := goodIn_app (goodIn_of _ (by decide +kernel)) ggX5_doAll_X5_doSet
set_option maxRecDepth 20000 in
theorem ggX5_doAll_X5_setPart : GoodIn wsX5_doAll wsX5_setPart := goodIn_r _ [58, 6, 66, 67, 68, 69, 70, 71, 72, 73, 74, 75, 76, 77, 78] (by decide +kernel) (by decide +kernel)
set_option maxRecDepth 20000 in
theorem gX5_doAll_X5_setPart : GoodIn wsX5_doAll (wsV RX5 56 RX5 yX5_setPart wsX5_setPart) := goodIn_app (goodIn_of _ (by decide +kernel)) ggX5_doAll_X5_setPart
set_option maxRecDepth 20000 in
theorem ggX5_doAll_X5_bits : GoodIn wsX5_doAll wsX5_bits := goodIn_r _ [65] (by decide +kernel) (by decide +kernel)
set_option maxRecDepth 20000 in
theorem gX5_doAll_X5_bits : GoodIn wsX5_doAll (va_wsS RX5 137 yX5_bits wsX5_bits) := goodIn_app (goodIn_of _ (by decide +kernel)) ggX5_doAll_X5_bits
theorem dX5_doAll_0 : decode cX5_doAll 0 = .ok (.aload_n 0, 1) := by decide +kernel
theorem dX5_doAll_1 : decode cX5_doAll 1 = .ok (.iload_n 1, 1) := by decide +kernel
theorem dX5_doAll_2 : decode cX5_doAll 2 = .ok (.invokevirtual 123, 3) := by decide +kernel
theorem dX5_doAll_5 : decode cX5_doAll 5 = .ok (.ifCond .ne 5, 3) := by decide +kernel
theorem dX5_doAll_8 : decode cX5_doAll 8 = .ok (.iconst (-1), 1) := by decide +kernel
theorem dX5_doAll_9 : decode cX5_doAll 9 = .ok (.ireturn, 1) := by decide +kernel
theorem dX5_doAll_10 : decode cX5_doAll 10 = .ok (.aload_n 0, 1) := by decide +kernel
theorem dX5_doAll_11 : decode cX5_doAll 11 = .ok (.invokevirtual 117, 3) := by decide +kernel
theorem dX5_doAll_14 : decode cX5_doAll 14 = .ok (.aload_n 0, 1) := by decide +kernel
theorem dX5_doAll_15 : decode cX5_doAll 15 = .ok (.iload_n 1, 1) := by decide +kernel
theorem dX5_doAll_16 : decode cX5_doAll 16 = .ok (.iconst 1, 1) := by decide +kernel
theorem dX5_doAll_17 : decode cX5_doAll 17 = .ok (.invokevirtual 52, 3) := by decide +kernel
theorem dX5_doAll_20 : decode cX5_doAll 20 = .ok (.istore_n 2, 1) := by decide +kernel
theorem dX5_doAll_21 : decode cX5_doAll 21 = .ok (.aload_n 0, 1) := by decide +kernel
theorem dX5_doAll_22 : decode cX5_doAll 22 = .ok (.iload_n 1, 1) := by decide +kernel
theorem dX5_doAll_23 : decode cX5_doAll 23 = .ok (.iload_n 2, 1) := by decide +kernel
theorem dX5_doAll_24 : decode cX5_doAll 24 = .ok (.invokevirtual 134, 3) := by decide +kernel
theorem dX5_doAll_27 : decode cX5_doAll 27 = .ok (.aload_n 0, 1) := by decide +kernel
theorem dX5_doAll_28 : decode cX5_doAll 28 = .ok (.iload_n 1, 1) := by decide +kernel
theorem dX5_doAll_29 : decode cX5_doAll 29 = .ok (.iconst 1, 1) := by decide +kernel
theorem dX5_doAll_30 : decode cX5_doAll 30 = .ok (.iconst 0, 1) := by decide +kernel
theorem dX5_doAll_31 : decode cX5_doAll 31 = .ok (.invokevirtual 56, 3) := by decide +kernel
theorem dX5_doAll_34 : decode cX5_doAll 34 = .ok (.iload_n 2, 1) := by decide +kernel
theorem dX5_doAll_35 : decode cX5_doAll 35 = .ok (.invokestatic 137, 3) := by decide +kernel
theorem dX5_doAll_38 : decode cX5_doAll 38 = .ok (.ireturn, 1) := by decide +kernel
set_option maxRecDepth 20000 in
theorem ggX5_lose_X5_isOwner : GoodIn wsX5_lose wsX5_isOwner := goodIn_r _ [5, 6, 7, 8, 4, 9, 38, 39, 40, 41, 42, 43, 44, 45, 46, 47, 48, 49, 50] (by decide +kernel) (by decide +kernel)
set_option maxRecDepth 20000 in
theorem gX5_lose_X5_isOwner : GoodIn wsX5_lose (wsV RX5 123 RX5 yX5_isOwner wsX5_isOwner) := goodIn_app (goodIn_of _ (by decide +kernel)) ggX5_lose_X5_isOwner
set_option maxRecDepth 20000 in
theorem ggX5_lose_X5_isParcel : GoodIn wsX5_lose wsX5_isParcel := goodIn_r _ [13, 6, 7, 8, 4, 9, 38, 39, 40, 41, 42, 43, 44, 45, 46, 47, 48, 49, 50] (by decide +kernel) (by decide +kernel)
set_option maxRecDepth 20000 in
theorem gX5_lose_X5_isParcel : GoodIn wsX5_lose (wsV RX5 127 RX5 yX5_isParcel wsX5_isParcel) := goodIn_app (goodIn_of _ (by decide +kernel)) ggX5_lose_X5_isParcel
set_option maxRecDepth 20000 in
theorem ggX5_lose_X5_waits : GoodIn wsX5_lose wsX5_waits := goodIn_r _ [17, 18, 19, 20, 4, 21, 6, 38, 39, 40, 41, 42, 43, 44, 45, 46, 47, 48, 49, 50] (by decide +kernel) (by decide +kernel)
set_option maxRecDepth 20000 in
theorem gX5_lose_X5_waits : GoodIn wsX5_lose (wsV RX5 130 RX5 yX5_waits wsX5_waits) := goodIn_app (goodIn_of _ (by decide +kernel)) ggX5_lose_X5_waits
set_option maxRecDepth 20000 in
theorem ggX5_lose_X5_record : GoodIn wsX5_lose wsX5_record := goodIn_r _ [25, 26, 27, 6, 28, 29, 4, 30, 38, 39, 40, 41, 42, 43, 44, 45, 46, 47, 48, 49, 50] (by decide +kernel) (by decide +kernel)
set_option maxRecDepth 20000 in
theorem gX5_lose_X5_record : GoodIn wsX5_lose (wsV RX5 117 RX5 yX5_record wsX5_record) := goodIn_app (goodIn_of _ (by decide +kernel)) ggX5_lose_X5_record
set_option maxRecDepth 20000 in
theorem ggX5_lose_X5_part : GoodIn wsX5_lose wsX5_part := goodIn_r _ [21, 6, 38, 39, 40, 41, 42, 43, 44, 45, 46, 47, 48, 49, 50] (by decide +kernel) (by decide +kernel)
set_option maxRecDepth 20000 in
theorem gX5_lose_X5_part : GoodIn wsX5_lose (wsV RX5 52 RX5 yX5_part wsX5_part) := goodIn_app (goodIn_of _ (by decide +kernel)) ggX5_lose_X5_part
set_option maxRecDepth 20000 in
theorem ggX5_lose_X5_setPart : GoodIn wsX5_lose wsX5_setPart := goodIn_r _ [34, 6, 38, 39, 40, 41, 42, 43, 44, 45, 46, 47, 48, 49, 50] (by decide +kernel) (by decide +kernel)
set_option maxRecDepth 20000 in
theorem gX5_lose_X5_setPart : GoodIn wsX5_lose (wsV RX5 56 RX5 yX5_setPart wsX5_setPart) := goodIn_app (goodIn_of _ (by decide +kernel)) ggX5_lose_X5_setPart
set_option maxRecDepth 20000 in
theorem ggX5_lose_X5_bits : GoodIn wsX5_lose wsX5_bits := goodIn_r _ [37] (by decide +kernel) (by decide +kernel)
set_option maxRecDepth 20000 in
theorem gX5_lose_X5_bits : GoodIn wsX5_lose (va_wsS RX5 137 yX5_bits wsX5_bits) := goodIn_app (goodIn_of _ (by decide +kernel)) ggX5_lose_X5_bits
theorem dX5_lose_0 : decode cX5_lose 0 = .ok (.aload_n 0, 1) := by decide +kernel
theorem dX5_lose_1 : decode cX5_lose 1 = .ok (.iload_n 1, 1) := by decide +kernel
theorem dX5_lose_2 : decode cX5_lose 2 = .ok (.invokevirtual 123, 3) := by decide +kernel
theorem dX5_lose_5 : decode cX5_lose 5 = .ok (.ifCond .eq 11, 3) := by decide +kernel
theorem dX5_lose_8 : decode cX5_lose 8 = .ok (.aload_n 0, 1) := by decide +kernel
theorem dX5_lose_9 : decode cX5_lose 9 = .ok (.iload_n 2, 1) := by decide +kernel
theorem dX5_lose_10 : decode cX5_lose 10 = .ok (.invokevirtual 127, 3) := by decide +kernel
theorem dX5_lose_13 : decode cX5_lose 13 = .ok (.ifCond .ne 5, 3) := by decide +kernel
theorem dX5_lose_16 : decode cX5_lose 16 = .ok (.iconst (-1), 1) := by decide +kernel
theorem dX5_lose_17 : decode cX5_lose 17 = .ok (.ireturn, 1) := by decide +kernel
theorem dX5_lose_18 : decode cX5_lose 18 = .ok (.aload_n 0, 1) := by decide +kernel
theorem dX5_lose_19 : decode cX5_lose 19 = .ok (.iload_n 1, 1) := by decide +kernel
theorem dX5_lose_20 : decode cX5_lose 20 = .ok (.iload_n 2, 1) := by decide +kernel
theorem dX5_lose_21 : decode cX5_lose 21 = .ok (.invokevirtual 130, 3) := by decide +kernel
theorem dX5_lose_24 : decode cX5_lose 24 = .ok (.ifCond .ne 6, 3) := by decide +kernel
theorem dX5_lose_27 : decode cX5_lose 27 = .ok (.bipush (-5), 2) := by decide +kernel
theorem dX5_lose_29 : decode cX5_lose 29 = .ok (.ireturn, 1) := by decide +kernel
theorem dX5_lose_30 : decode cX5_lose 30 = .ok (.aload_n 0, 1) := by decide +kernel
theorem dX5_lose_31 : decode cX5_lose 31 = .ok (.invokevirtual 117, 3) := by decide +kernel
theorem dX5_lose_34 : decode cX5_lose 34 = .ok (.aload_n 0, 1) := by decide +kernel
theorem dX5_lose_35 : decode cX5_lose 35 = .ok (.iload_n 1, 1) := by decide +kernel
theorem dX5_lose_36 : decode cX5_lose 36 = .ok (.iconst 1, 1) := by decide +kernel
theorem dX5_lose_37 : decode cX5_lose 37 = .ok (.aload_n 0, 1) := by decide +kernel
theorem dX5_lose_38 : decode cX5_lose 38 = .ok (.iload_n 1, 1) := by decide +kernel
theorem dX5_lose_39 : decode cX5_lose 39 = .ok (.iconst 1, 1) := by decide +kernel
theorem dX5_lose_40 : decode cX5_lose 40 = .ok (.invokevirtual 52, 3) := by decide +kernel
theorem dX5_lose_43 : decode cX5_lose 43 = .ok (.iconst 1, 1) := by decide +kernel
theorem dX5_lose_44 : decode cX5_lose 44 = .ok (.iload_n 2, 1) := by decide +kernel
theorem dX5_lose_45 : decode cX5_lose 45 = .ok (.ishl, 1) := by decide +kernel
theorem dX5_lose_46 : decode cX5_lose 46 = .ok (.iconst (-1), 1) := by decide +kernel
theorem dX5_lose_47 : decode cX5_lose 47 = .ok (.ixor, 1) := by decide +kernel
theorem dX5_lose_48 : decode cX5_lose 48 = .ok (.iand, 1) := by decide +kernel
theorem dX5_lose_49 : decode cX5_lose 49 = .ok (.invokevirtual 56, 3) := by decide +kernel
theorem dX5_lose_52 : decode cX5_lose 52 = .ok (.aload_n 0, 1) := by decide +kernel
theorem dX5_lose_53 : decode cX5_lose 53 = .ok (.iload_n 1, 1) := by decide +kernel
theorem dX5_lose_54 : decode cX5_lose 54 = .ok (.iconst 2, 1) := by decide +kernel
theorem dX5_lose_55 : decode cX5_lose 55 = .ok (.aload_n 0, 1) := by decide +kernel
theorem dX5_lose_56 : decode cX5_lose 56 = .ok (.iload_n 1, 1) := by decide +kernel
theorem dX5_lose_57 : decode cX5_lose 57 = .ok (.iconst 2, 1) := by decide +kernel
theorem dX5_lose_58 : decode cX5_lose 58 = .ok (.invokevirtual 52, 3) := by decide +kernel
theorem dX5_lose_61 : decode cX5_lose 61 = .ok (.iconst 1, 1) := by decide +kernel
theorem dX5_lose_62 : decode cX5_lose 62 = .ok (.iload_n 2, 1) := by decide +kernel
theorem dX5_lose_63 : decode cX5_lose 63 = .ok (.ishl, 1) := by decide +kernel
theorem dX5_lose_64 : decode cX5_lose 64 = .ok (.ior, 1) := by decide +kernel
theorem dX5_lose_65 : decode cX5_lose 65 = .ok (.invokevirtual 56, 3) := by decide +kernel
theorem dX5_lose_68 : decode cX5_lose 68 = .ok (.aload_n 0, 1) := by decide +kernel
theorem dX5_lose_69 : decode cX5_lose 69 = .ok (.iload_n 1, 1) := by decide +kernel
theorem dX5_lose_70 : decode cX5_lose 70 = .ok (.iconst 1, 1) := by decide +kernel
theorem dX5_lose_71 : decode cX5_lose 71 = .ok (.invokevirtual 52, 3) := by decide +kernel
theorem dX5_lose_74 : decode cX5_lose 74 = .ok (.invokestatic 137, 3) := by decide +kernel
theorem dX5_lose_77 : decode cX5_lose 77 = .ok (.ireturn, 1) := by decide +kernel
set_option maxRecDepth 20000 in
theorem ggX5_again_X5_isOwner : GoodIn wsX5_again wsX5_isOwner := goodIn_r _ [5, 6, 7, 8, 4, 9, 38, 39, 40, 41, 42, 43, 44, 45, 46, 47, 48, 49, 50] (by decide +kernel) (by decide +kernel)
set_option maxRecDepth 20000 in
theorem gX5_again_X5_isOwner : GoodIn wsX5_again (wsV RX5 123 RX5 yX5_isOwner wsX5_isOwner) := goodIn_app (goodIn_of _ (by decide +kernel)) ggX5_again_X5_isOwner
set_option maxRecDepth 20000 in
theorem ggX5_again_X5_isParcel : GoodIn wsX5_again wsX5_isParcel := goodIn_r _ [13, 6, 7, 8, 4, 9, 38, 39, 40, 41, 42, 43, 44, 45, 46, 47, 48, 49, 50] (by decide +kernel) (by decide +kernel)
set_option maxRecDepth 20000 in
theorem gX5_again_X5_isParcel : GoodIn wsX5_again (wsV RX5 127 RX5 yX5_isParcel wsX5_isParcel) := goodIn_app (goodIn_of _ (by decide +kernel)) ggX5_again_X5_isParcel
set_option maxRecDepth 20000 in
theorem ggX5_again_X5_waits : GoodIn wsX5_again wsX5_waits := goodIn_r _ [17, 18, 19, 20, 4, 21, 6, 38, 39, 40, 41, 42, 43, 44, 45, 46, 47, 48, 49, 50] (by decide +kernel) (by decide +kernel)
set_option maxRecDepth 20000 in
theorem gX5_again_X5_waits : GoodIn wsX5_again (wsV RX5 130 RX5 yX5_waits wsX5_waits) := goodIn_app (goodIn_of _ (by decide +kernel)) ggX5_again_X5_waits
set_option maxRecDepth 20000 in
theorem ggX5_again_X5_record : GoodIn wsX5_again wsX5_record := goodIn_r _ [25, 26, 27, 6, 28, 29, 4, 30, 38, 39, 40, 41, 42, 43, 44, 45, 46, 47, 48, 49, 50] (by decide +kernel) (by decide +kernel)
set_option maxRecDepth 20000 in
theorem gX5_again_X5_record : GoodIn wsX5_again (wsV RX5 117 RX5 yX5_record wsX5_record) := goodIn_app (goodIn_of _ (by decide +kernel)) ggX5_again_X5_record
set_option maxRecDepth 20000 in
theorem ggX5_again_X5_part : GoodIn wsX5_again wsX5_part := goodIn_r _ [21, 6, 38, 39, 40, 41, 42, 43, 44, 45, 46, 47, 48, 49, 50] (by decide +kernel) (by decide +kernel)
set_option maxRecDepth 20000 in
theorem gX5_again_X5_part : GoodIn wsX5_again (wsV RX5 52 RX5 yX5_part wsX5_part) := goodIn_app (goodIn_of _ (by decide +kernel)) ggX5_again_X5_part
set_option maxRecDepth 20000 in
theorem ggX5_again_X5_setPart : GoodIn wsX5_again wsX5_setPart := goodIn_r _ [34, 6, 38, 39, 40, 41, 42, 43, 44, 45, 46, 47, 48, 49, 50] (by decide +kernel) (by decide +kernel)
set_option maxRecDepth 20000 in
theorem gX5_again_X5_setPart : GoodIn wsX5_again (wsV RX5 56 RX5 yX5_setPart wsX5_setPart) := goodIn_app (goodIn_of _ (by decide +kernel)) ggX5_again_X5_setPart
set_option maxRecDepth 20000 in
theorem ggX5_again_X5_bits : GoodIn wsX5_again wsX5_bits := goodIn_r _ [37] (by decide +kernel) (by decide +kernel)
set_option maxRecDepth 20000 in
theorem gX5_again_X5_bits : GoodIn wsX5_again (va_wsS RX5 137 yX5_bits wsX5_bits) := goodIn_app (goodIn_of _ (by decide +kernel)) ggX5_again_X5_bits
theorem dX5_again_0 : decode cX5_again 0 = .ok (.aload_n 0, 1) := by decide +kernel
theorem dX5_again_1 : decode cX5_again 1 = .ok (.iload_n 1, 1) := by decide +kernel
theorem dX5_again_2 : decode cX5_again 2 = .ok (.invokevirtual 123, 3) := by decide +kernel
theorem dX5_again_5 : decode cX5_again 5 = .ok (.ifCond .eq 11, 3) := by decide +kernel
theorem dX5_again_8 : decode cX5_again 8 = .ok (.aload_n 0, 1) := by decide +kernel
theorem dX5_again_9 : decode cX5_again 9 = .ok (.iload_n 2, 1) := by decide +kernel
theorem dX5_again_10 : decode cX5_again 10 = .ok (.invokevirtual 127, 3) := by decide +kernel
theorem dX5_again_13 : decode cX5_again 13 = .ok (.ifCond .ne 5, 3) := by decide +kernel
theorem dX5_again_16 : decode cX5_again 16 = .ok (.iconst (-1), 1) := by decide +kernel
theorem dX5_again_17 : decode cX5_again 17 = .ok (.ireturn, 1) := by decide +kernel
theorem dX5_again_18 : decode cX5_again 18 = .ok (.aload_n 0, 1) := by decide +kernel
theorem dX5_again_19 : decode cX5_again 19 = .ok (.iload_n 1, 1) := by decide +kernel
theorem dX5_again_20 : decode cX5_again 20 = .ok (.iload_n 2, 1) := by decide +kernel
theorem dX5_again_21 : decode cX5_again 21 = .ok (.invokevirtual 130, 3) := by decide +kernel
theorem dX5_again_24 : decode cX5_again 24 = .ok (.ifCond .eq 6, 3) := by decide +kernel
theorem dX5_again_27 : decode cX5_again 27 = .ok (.bipush (-5), 2) := by decide +kernel
theorem dX5_again_29 : decode cX5_again 29 = .ok (.ireturn, 1) := by decide +kernel
theorem dX5_again_30 : decode cX5_again 30 = .ok (.aload_n 0, 1) := by decide +kernel
theorem dX5_again_31 : decode cX5_again 31 = .ok (.invokevirtual 117, 3) := by decide +kernel
theorem dX5_again_34 : decode cX5_again 34 = .ok (.aload_n 0, 1) := by decide +kernel
theorem dX5_again_35 : decode cX5_again 35 = .ok (.iload_n 1, 1) := by decide +kernel
theorem dX5_again_36 : decode cX5_again 36 = .ok (.iconst 1, 1) := by decide +kernel
theorem dX5_again_37 : decode cX5_again 37 = .ok (.aload_n 0, 1) := by decide +kernel
theorem dX5_again_38 : decode cX5_again 38 = .ok (.iload_n 1, 1) := by decide +kernel
theorem dX5_again_39 : decode cX5_again 39 = .ok (.iconst 1, 1) := by decide +kernel
theorem dX5_again_40 : decode cX5_again 40 = .ok (.invokevirtual 52, 3) := by decide +kernel
theorem dX5_again_43 : decode cX5_again 43 = .ok (.iconst 1, 1) := by decide +kernel
theorem dX5_again_44 : decode cX5_again 44 = .ok (.iload_n 2, 1) := by decide +kernel
theorem dX5_again_45 : decode cX5_again 45 = .ok (.ishl, 1) := by decide +kernel
theorem dX5_again_46 : decode cX5_again 46 = .ok (.ior, 1) := by decide +kernel
theorem dX5_again_47 : decode cX5_again 47 = .ok (.invokevirtual 56, 3) := by decide +kernel
theorem dX5_again_50 : decode cX5_again 50 = .ok (.aload_n 0, 1) := by decide +kernel
theorem dX5_again_51 : decode cX5_again 51 = .ok (.iload_n 1, 1) := by decide +kernel
theorem dX5_again_52 : decode cX5_again 52 = .ok (.iconst 2, 1) := by decide +kernel
theorem dX5_again_53 : decode cX5_again 53 = .ok (.aload_n 0, 1) := by decide +kernel
theorem dX5_again_54 : decode cX5_again 54 = .ok (.iload_n 1, 1) := by decide +kernel
theorem dX5_again_55 : decode cX5_again 55 = .ok (.iconst 2, 1) := by decide +kernel
theorem dX5_again_56 : decode cX5_again 56 = .ok (.invokevirtual 52, 3) := by decide +kernel
theorem dX5_again_59 : decode cX5_again 59 = .ok (.iconst 1, 1) := by decide +kernel
theorem dX5_again_60 : decode cX5_again 60 = .ok (.iload_n 2, 1) := by decide +kernel
theorem dX5_again_61 : decode cX5_again 61 = .ok (.ishl, 1) := by decide +kernel
theorem dX5_again_62 : decode cX5_again 62 = .ok (.iconst (-1), 1) := by decide +kernel
theorem dX5_again_63 : decode cX5_again 63 = .ok (.ixor, 1) := by decide +kernel
theorem dX5_again_64 : decode cX5_again 64 = .ok (.iand, 1) := by decide +kernel
theorem dX5_again_65 : decode cX5_again 65 = .ok (.invokevirtual 56, 3) := by decide +kernel
theorem dX5_again_68 : decode cX5_again 68 = .ok (.aload_n 0, 1) := by decide +kernel
theorem dX5_again_69 : decode cX5_again 69 = .ok (.iload_n 1, 1) := by decide +kernel
theorem dX5_again_70 : decode cX5_again 70 = .ok (.iconst 1, 1) := by decide +kernel
theorem dX5_again_71 : decode cX5_again 71 = .ok (.invokevirtual 52, 3) := by decide +kernel
theorem dX5_again_74 : decode cX5_again 74 = .ok (.invokestatic 137, 3) := by decide +kernel
theorem dX5_again_77 : decode cX5_again 77 = .ok (.ireturn, 1) := by decide +kernel
set_option maxRecDepth 20000 in
theorem ggX5_leafWith_X5_part : GoodIn wsX5_leafWith wsX5_part := goodIn_r _ [5, 6, 15, 16, 17, 18, 19, 20, 21, 22, 23, 24, 25, 26, 27] (by decide +kernel) (by decide +kernel)
set_option maxRecDepth 20000 in
theorem gX5_leafWith_X5_part : GoodIn wsX5_leafWith (wsV RX5 52 RX5 yX5_part wsX5_part) := goodIn_app (goodIn_of _ (by decide +kernel)) ggX5_leafWith_X5_part
set_option maxRecDepth 20000 in
theorem ggX5_leafWith_X5_numberOf : GoodIn wsX5_leafWith wsX5_numberOf := goodIn_r _ [10, 1, 2, 3, 4, 5, 6, 15, 16, 17, 18, 19, 20, 21, 22, 23, 24, 25, 26, 27] (by decide +kernel) (by decide +kernel)
set_option maxRecDepth 20000 in
theorem gX5_leafWith_X5_numberOf : GoodIn wsX5_leafWith (wsV RX5 60 RX5 yX5_numberOf wsX5_numberOf) := goodIn_app (goodIn_of _ (by decide +kernel)) ggX5_leafWith_X5_numberOf
set_option maxRecDepth 20000 in
theorem ggX5_leafWith_X5_issueOf : GoodIn wsX5_leafWith wsX5_issueOf := goodIn_r _ [14, 1, 2, 3, 4, 5, 6, 15, 16, 17, 18, 19, 20, 21, 22, 23, 24, 25, 26, 27] (by decide +kernel) (by decide +kernel)
set_option maxRecDepth 20000 in
theorem gX5_leafWith_X5_issueOf : GoodIn wsX5_leafWith (wsV RX5 67 RX5 yX5_issueOf wsX5_issueOf) := goodIn_app (goodIn_of _ (by decide +kernel)) ggX5_leafWith_X5_issueOf
theorem dX5_leafWith_0 : decode cX5_leafWith 0 = .ok (.bipush (-6), 2) := by decide +kernel
theorem dX5_leafWith_2 : decode cX5_leafWith 2 = .ok (.istore 4, 2) := by decide +kernel
theorem dX5_leafWith_4 : decode cX5_leafWith 4 = .ok (.aload_n 0, 1) := by decide +kernel
theorem dX5_leafWith_5 : decode cX5_leafWith 5 = .ok (.iload_n 1, 1) := by decide +kernel
theorem dX5_leafWith_6 : decode cX5_leafWith 6 = .ok (.iconst 0, 1) := by decide +kernel
theorem dX5_leafWith_7 : decode cX5_leafWith 7 = .ok (.invokevirtual 52, 3) := by decide +kernel
theorem dX5_leafWith_10 : decode cX5_leafWith 10 = .ok (.iconst 1, 1) := by decide +kernel
theorem dX5_leafWith_11 : decode cX5_leafWith 11 = .ok (.isub, 1) := by decide +kernel
theorem dX5_leafWith_12 : decode cX5_leafWith 12 = .ok (.istore 5, 2) := by decide +kernel
theorem dX5_leafWith_14 : decode cX5_leafWith 14 = .ok (.iload 5, 2) := by decide +kernel
theorem dX5_leafWith_16 : decode cX5_leafWith 16 = .ok (.ifCond .lt 40, 3) := by decide +kernel
theorem dX5_leafWith_19 : decode cX5_leafWith 19 = .ok (.aload_n 0, 1) := by decide +kernel
theorem dX5_leafWith_20 : decode cX5_leafWith 20 = .ok (.iload_n 1, 1) := by decide +kernel
theorem dX5_leafWith_21 : decode cX5_leafWith 21 = .ok (.iload 5, 2) := by decide +kernel
theorem dX5_leafWith_23 : decode cX5_leafWith 23 = .ok (.invokevirtual 60, 3) := by decide +kernel
theorem dX5_leafWith_26 : decode cX5_leafWith 26 = .ok (.iload_n 2, 1) := by decide +kernel
theorem dX5_leafWith_27 : decode cX5_leafWith 27 = .ok (.if_icmp .ne 19, 3) := by decide +kernel
theorem dX5_leafWith_30 : decode cX5_leafWith 30 = .ok (.aload_n 0, 1) := by decide +kernel
theorem dX5_leafWith_31 : decode cX5_leafWith 31 = .ok (.iload_n 1, 1) := by decide +kernel
theorem dX5_leafWith_32 : decode cX5_leafWith 32 = .ok (.iload 5, 2) := by decide +kernel
theorem dX5_leafWith_34 : decode cX5_leafWith 34 = .ok (.invokevirtual 67, 3) := by decide +kernel
theorem dX5_leafWith_37 : decode cX5_leafWith 37 = .ok (.iload_n 3, 1) := by decide +kernel
theorem dX5_leafWith_38 : decode cX5_leafWith 38 = .ok (.if_icmp .ne 8, 3) := by decide +kernel
theorem dX5_leafWith_41 : decode cX5_leafWith 41 = .ok (.iload 5, 2) := by decide +kernel
theorem dX5_leafWith_43 : decode cX5_leafWith 43 = .ok (.goto 5, 3) := by decide +kernel
theorem dX5_leafWith_46 : decode cX5_leafWith 46 = .ok (.iload 4, 2) := by decide +kernel
theorem dX5_leafWith_48 : decode cX5_leafWith 48 = .ok (.istore 4, 2) := by decide +kernel
theorem dX5_leafWith_50 : decode cX5_leafWith 50 = .ok (.iinc 5 (-1), 3) := by decide +kernel
theorem dX5_leafWith_53 : decode cX5_leafWith 53 = .ok (.goto (-39), 3) := by decide +kernel
theorem dX5_leafWith_56 : decode cX5_leafWith 56 = .ok (.iload 4, 2) := by decide +kernel
theorem dX5_leafWith_58 : decode cX5_leafWith 58 = .ok (.ireturn, 1) := by decide +kernel
set_option maxRecDepth 20000 in
theorem ggX5_isNumber_X5_within : GoodIn wsX5_isNumber wsX5_within := goodIn_r _ [4] (by decide +kernel) (by decide +kernel)
set_option maxRecDepth 20000 in
theorem gX5_isNumber_X5_within : GoodIn wsX5_isNumber (va_wsS RX5 48 yX5_within wsX5_within) := goodIn_app (goodIn_of _ (by decide +kernel)) ggX5_isNumber_X5_within
theorem dX5_isNumber_0 : decode cX5_isNumber 0 = .ok (.iload_n 0, 1) := by decide +kernel
theorem dX5_isNumber_1 : decode cX5_isNumber 1 = .ok (.bipush 10, 2) := by decide +kernel
theorem dX5_isNumber_3 : decode cX5_isNumber 3 = .ok (.bipush 99, 2) := by decide +kernel
theorem dX5_isNumber_5 : decode cX5_isNumber 5 = .ok (.invokestatic 48, 3) := by decide +kernel
theorem dX5_isNumber_8 : decode cX5_isNumber 8 = .ok (.ireturn, 1) := by decide +kernel
set_option maxRecDepth 20000 in
theorem ggX5_hand_X5_isOwner : GoodIn wsX5_hand wsX5_isOwner := goodIn_r _ [5, 6, 7, 8, 4, 9, 54, 55, 56, 57, 58, 59, 60, 61, 62, 63, 64, 65, 66] (by decide +kernel) (by decide +kernel)
set_option maxRecDepth 20000 in
theorem gX5_hand_X5_isOwner : GoodIn wsX5_hand (wsV RX5 123 RX5 yX5_isOwner wsX5_isOwner) := goodIn_app (goodIn_of _ (by decide +kernel)) ggX5_hand_X5_isOwner
set_option maxRecDepth 20000 in
theorem ggX5_hand_X5_isParcel : GoodIn wsX5_hand wsX5_isParcel := goodIn_r _ [13, 6, 7, 8, 4, 9, 54, 55, 56, 57, 58, 59, 60, 61, 62, 63, 64, 65, 66] (by decide +kernel) (by decide +kernel)
set_option maxRecDepth 20000 in
theorem gX5_hand_X5_isParcel : GoodIn wsX5_hand (wsV RX5 127 RX5 yX5_isParcel wsX5_isParcel) := goodIn_app (goodIn_of _ (by decide +kernel)) ggX5_hand_X5_isParcel
set_option maxRecDepth 20000 in
theorem ggX5_hand_X5_isNumber : GoodIn wsX5_hand wsX5_isNumber := goodIn_r _ [16, 7, 8, 4, 9] (by decide +kernel) (by decide +kernel)
set_option maxRecDepth 20000 in
theorem gX5_hand_X5_isNumber : GoodIn wsX5_hand (va_wsS RX5 140 yX5_isNumber wsX5_isNumber) := goodIn_app (goodIn_of _ (by decide +kernel)) ggX5_hand_X5_isNumber
set_option maxRecDepth 20000 in
theorem ggX5_hand_X5_leafWith : GoodIn wsX5_hand wsX5_leafWith := goodIn_r _ [20, 21, 22, 23, 4, 24, 6, 25, 26, 27, 28, 29, 30, 31, 32, 54, 55, 56, 57, 58, 59, 60, 61, 62, 63, 64, 65, 66] (by decide +kernel) (by decide +kernel)
set_option maxRecDepth 20000 in
theorem gX5_hand_X5_leafWith : GoodIn wsX5_hand (wsV RX5 143 RX5 yX5_leafWith wsX5_leafWith) := goodIn_app (goodIn_of _ (by decide +kernel)) ggX5_hand_X5_leafWith
set_option maxRecDepth 20000 in
theorem ggX5_hand_X5_part : GoodIn wsX5_hand wsX5_part := goodIn_r _ [24, 6, 54, 55, 56, 57, 58, 59, 60, 61, 62, 63, 64, 65, 66] (by decide +kernel) (by decide +kernel)
set_option maxRecDepth 20000 in
theorem gX5_hand_X5_part : GoodIn wsX5_hand (wsV RX5 52 RX5 yX5_part wsX5_part) := goodIn_app (goodIn_of _ (by decide +kernel)) ggX5_hand_X5_part
set_option maxRecDepth 20000 in
theorem ggX5_hand_X5_record : GoodIn wsX5_hand wsX5_record := goodIn_r _ [36, 37, 38, 6, 39, 40, 4, 41, 54, 55, 56, 57, 58, 59, 60, 61, 62, 63, 64, 65, 66] (by decide +kernel) (by decide +kernel)
set_option maxRecDepth 20000 in
theorem gX5_hand_X5_record : GoodIn wsX5_hand (wsV RX5 117 RX5 yX5_record wsX5_record) := goodIn_app (goodIn_of _ (by decide +kernel)) ggX5_hand_X5_record
set_option maxRecDepth 20000 in
theorem ggX5_hand_X5_comes : GoodIn wsX5_hand wsX5_comes := goodIn_r _ [45, 21, 22, 23, 4, 24, 6, 46, 47, 48, 49, 54, 55, 56, 57, 58, 59, 60, 61, 62, 63, 64, 65, 66] (by decide +kernel) (by decide +kernel)
set_option maxRecDepth 20000 in
theorem gX5_hand_X5_comes : GoodIn wsX5_hand (wsV RX5 79 RX5 yX5_comes wsX5_comes) := goodIn_app (goodIn_of _ (by decide +kernel)) ggX5_hand_X5_comes
set_option maxRecDepth 20000 in
theorem ggX5_hand_X5_remove : GoodIn wsX5_hand wsX5_remove := goodIn_r _ [53, 21, 22, 23, 4, 24, 6, 46, 47, 48, 49, 54, 55, 56, 57, 58, 59, 60, 61, 62, 63, 64, 65, 66] (by decide +kernel) (by decide +kernel)
set_option maxRecDepth 20000 in
theorem gX5_hand_X5_remove : GoodIn wsX5_hand (wsV RX5 63 RX5 yX5_remove wsX5_remove) := goodIn_app (goodIn_of _ (by decide +kernel)) ggX5_hand_X5_remove
theorem dX5_hand_0 : decode cX5_hand 0 = .ok (.aload_n 0, 1) := by decide +kernel
theorem dX5_hand_1 : decode cX5_hand 1 = .ok (.iload_n 1, 1) := by decide +kernel
theorem dX5_hand_2 : decode cX5_hand 2 = .ok (.invokevirtual 123, 3) := by decide +kernel
theorem dX5_hand_5 : decode cX5_hand 5 = .ok (.ifCond .eq 11, 3) := by decide +kernel
theorem dX5_hand_8 : decode cX5_hand 8 = .ok (.aload_n 0, 1) := by decide +kernel
theorem dX5_hand_9 : decode cX5_hand 9 = .ok (.iload_n 3, 1) := by decide +kernel
theorem dX5_hand_10 : decode cX5_hand 10 = .ok (.invokevirtual 127, 3) := by decide +kernel
theorem dX5_hand_13 : decode cX5_hand 13 = .ok (.ifCond .ne 5, 3) := by decide +kernel
theorem dX5_hand_16 : decode cX5_hand 16 = .ok (.iconst (-1), 1) := by decide +kernel
theorem dX5_hand_17 : decode cX5_hand 17 = .ok (.ireturn, 1) := by decide +kernel
theorem dX5_hand_18 : decode cX5_hand 18 = .ok (.iload_n 2, 1) := by decide +kernel
theorem dX5_hand_19 : decode cX5_hand 19 = .ok (.invokestatic 140, 3) := by decide +kernel
theorem dX5_hand_22 : decode cX5_hand 22 = .ok (.ifCond .ne 6, 3) := by decide +kernel
theorem dX5_hand_25 : decode cX5_hand 25 = .ok (.bipush (-2), 2) := by decide +kernel
theorem dX5_hand_27 : decode cX5_hand 27 = .ok (.ireturn, 1) := by decide +kernel
theorem dX5_hand_28 : decode cX5_hand 28 = .ok (.aload_n 0, 1) := by decide +kernel
theorem dX5_hand_29 : decode cX5_hand 29 = .ok (.iload_n 1, 1) := by decide +kernel
theorem dX5_hand_30 : decode cX5_hand 30 = .ok (.iload_n 2, 1) := by decide +kernel
theorem dX5_hand_31 : decode cX5_hand 31 = .ok (.iload_n 3, 1) := by decide +kernel
theorem dX5_hand_32 : decode cX5_hand 32 = .ok (.invokevirtual 143, 3) := by decide +kernel
theorem dX5_hand_35 : decode cX5_hand 35 = .ok (.istore 5, 2) := by decide +kernel
theorem dX5_hand_37 : decode cX5_hand 37 = .ok (.iload 4, 2) := by decide +kernel
theorem dX5_hand_39 : decode cX5_hand 39 = .ok (.ifCond .eq 17, 3) := by decide +kernel
theorem dX5_hand_42 : decode cX5_hand 42 = .ok (.aload_n 0, 1) := by decide +kernel
theorem dX5_hand_43 : decode cX5_hand 43 = .ok (.iload_n 1, 1) := by decide +kernel
theorem dX5_hand_44 : decode cX5_hand 44 = .ok (.iconst 0, 1) := by decide +kernel
theorem dX5_hand_45 : decode cX5_hand 45 = .ok (.invokevirtual 52, 3) := by decide +kernel
theorem dX5_hand_48 : decode cX5_hand 48 = .ok (.bipush 60, 2) := by decide +kernel
theorem dX5_hand_50 : decode cX5_hand 50 = .ok (.if_icmp .ne 16, 3) := by decide +kernel
theorem dX5_hand_53 : decode cX5_hand 53 = .ok (.goto 10, 3) := by decide +kernel
theorem dX5_hand_56 : decode cX5_hand 56 = .ok (.iload 5, 2) := by decide +kernel
theorem dX5_hand_58 : decode cX5_hand 58 = .ok (.bipush (-6), 2) := by decide +kernel
theorem dX5_hand_60 : decode cX5_hand 60 = .ok (.if_icmp .ne 6, 3) := by decide +kernel
theorem dX5_hand_63 : decode cX5_hand 63 = .ok (.bipush (-5), 2) := by decide +kernel
theorem dX5_hand_65 : decode cX5_hand 65 = .ok (.ireturn, 1) := by decide +kernel
theorem dX5_hand_66 : decode cX5_hand 66 = .ok (.aload_n 0, 1) := by decide +kernel
theorem dX5_hand_67 : decode cX5_hand 67 = .ok (.invokevirtual 117, 3) := by decide +kernel
theorem dX5_hand_70 : decode cX5_hand 70 = .ok (.iload 4, 2) := by decide +kernel
theorem dX5_hand_72 : decode cX5_hand 72 = .ok (.ifCond .eq 13, 3) := by decide +kernel
theorem dX5_hand_75 : decode cX5_hand 75 = .ok (.aload_n 0, 1) := by decide +kernel
theorem dX5_hand_76 : decode cX5_hand 76 = .ok (.iload_n 1, 1) := by decide +kernel
theorem dX5_hand_77 : decode cX5_hand 77 = .ok (.iload_n 2, 1) := by decide +kernel
theorem dX5_hand_78 : decode cX5_hand 78 = .ok (.iload_n 3, 1) := by decide +kernel
theorem dX5_hand_79 : decode cX5_hand 79 = .ok (.invokevirtual 79, 3) := by decide +kernel
theorem dX5_hand_82 : decode cX5_hand 82 = .ok (.goto 10, 3) := by decide +kernel
theorem dX5_hand_85 : decode cX5_hand 85 = .ok (.aload_n 0, 1) := by decide +kernel
theorem dX5_hand_86 : decode cX5_hand 86 = .ok (.iload_n 1, 1) := by decide +kernel
theorem dX5_hand_87 : decode cX5_hand 87 = .ok (.iload 5, 2) := by decide +kernel
theorem dX5_hand_89 : decode cX5_hand 89 = .ok (.invokevirtual 63, 3) := by decide +kernel
theorem dX5_hand_92 : decode cX5_hand 92 = .ok (.aload_n 0, 1) := by decide +kernel
theorem dX5_hand_93 : decode cX5_hand 93 = .ok (.iload_n 1, 1) := by decide +kernel
theorem dX5_hand_94 : decode cX5_hand 94 = .ok (.iconst 0, 1) := by decide +kernel
theorem dX5_hand_95 : decode cX5_hand 95 = .ok (.invokevirtual 52, 3) := by decide +kernel
theorem dX5_hand_98 : decode cX5_hand 98 = .ok (.ireturn, 1) := by decide +kernel
set_option maxRecDepth 20000 in
theorem ggX5_ownersWith_X5_part : GoodIn wsX5_ownersWith wsX5_part := goodIn_r _ [6, 1, 7, 8, 9, 10, 11, 12, 13, 14, 15, 16, 17, 18, 19] (by decide +kernel) (by decide +kernel)
set_option maxRecDepth 20000 in
theorem gX5_ownersWith_X5_part : GoodIn wsX5_ownersWith (wsV RX5 52 RX5 yX5_part wsX5_part) := goodIn_app (goodIn_of _ (by decide +kernel)) ggX5_ownersWith_X5_part
theorem dX5_ownersWith_0 : decode cX5_ownersWith 0 = .ok (.iconst 0, 1) := by decide +kernel
theorem dX5_ownersWith_1 : decode cX5_ownersWith 1 = .ok (.istore_n 3, 1) := by decide +kernel
theorem dX5_ownersWith_2 : decode cX5_ownersWith 2 = .ok (.iconst 0, 1) := by decide +kernel
theorem dX5_ownersWith_3 : decode cX5_ownersWith 3 = .ok (.istore 4, 2) := by decide +kernel
theorem dX5_ownersWith_5 : decode cX5_ownersWith 5 = .ok (.iload 4, 2) := by decide +kernel
theorem dX5_ownersWith_7 : decode cX5_ownersWith 7 = .ok (.aload_n 0, 1) := by decide +kernel
theorem dX5_ownersWith_8 : decode cX5_ownersWith 8 = .ok (.getfield 7, 3) := by decide +kernel
theorem dX5_ownersWith_11 : decode cX5_ownersWith 11 = .ok (.iconst 1, 1) := by decide +kernel
theorem dX5_ownersWith_12 : decode cX5_ownersWith 12 = .ok (.iaload, 1) := by decide +kernel
theorem dX5_ownersWith_13 : decode cX5_ownersWith 13 = .ok (.if_icmp .ge 35, 3) := by decide +kernel
theorem dX5_ownersWith_16 : decode cX5_ownersWith 16 = .ok (.iload_n 3, 1) := by decide +kernel
theorem dX5_ownersWith_17 : decode cX5_ownersWith 17 = .ok (.aload_n 0, 1) := by decide +kernel
theorem dX5_ownersWith_18 : decode cX5_ownersWith 18 = .ok (.iload 4, 2) := by decide +kernel
theorem dX5_ownersWith_20 : decode cX5_ownersWith 20 = .ok (.iload_n 2, 1) := by decide +kernel
theorem dX5_ownersWith_21 : decode cX5_ownersWith 21 = .ok (.invokevirtual 52, 3) := by decide +kernel
theorem dX5_ownersWith_24 : decode cX5_ownersWith 24 = .ok (.iload_n 1, 1) := by decide +kernel
theorem dX5_ownersWith_25 : decode cX5_ownersWith 25 = .ok (.ishr, 1) := by decide +kernel
theorem dX5_ownersWith_26 : decode cX5_ownersWith 26 = .ok (.iconst 1, 1) := by decide +kernel
theorem dX5_ownersWith_27 : decode cX5_ownersWith 27 = .ok (.iand, 1) := by decide +kernel
theorem dX5_ownersWith_28 : decode cX5_ownersWith 28 = .ok (.iconst 1, 1) := by decide +kernel
theorem dX5_ownersWith_29 : decode cX5_ownersWith 29 = .ok (.if_icmp .ne 10, 3) := by decide +kernel
theorem dX5_ownersWith_32 : decode cX5_ownersWith 32 = .ok (.iconst 1, 1) := by decide +kernel
theorem dX5_ownersWith_33 : decode cX5_ownersWith 33 = .ok (.iload 4, 2) := by decide +kernel
theorem dX5_ownersWith_35 : decode cX5_ownersWith 35 = .ok (.ishl, 1) := by decide +kernel
theorem dX5_ownersWith_36 : decode cX5_ownersWith 36 = .ok (.goto 4, 3) := by decide +kernel
theorem dX5_ownersWith_39 : decode cX5_ownersWith 39 = .ok (.iconst 0, 1) := by decide +kernel
theorem dX5_ownersWith_40 : decode cX5_ownersWith 40 = .ok (.ior, 1) := by decide +kernel
theorem dX5_ownersWith_41 : decode cX5_ownersWith 41 = .ok (.istore_n 3, 1) := by decide +kernel
theorem dX5_ownersWith_42 : decode cX5_ownersWith 42 = .ok (.iinc 4 1, 3) := by decide +kernel
theorem dX5_ownersWith_45 : decode cX5_ownersWith 45 = .ok (.goto (-40), 3) := by decide +kernel
theorem dX5_ownersWith_48 : decode cX5_ownersWith 48 = .ok (.iload_n 3, 1) := by decide +kernel
theorem dX5_ownersWith_49 : decode cX5_ownersWith 49 = .ok (.ireturn, 1) := by decide +kernel
set_option maxRecDepth 20000 in
theorem ggX5_parcel_X5_isParcel : GoodIn wsX5_parcel wsX5_isParcel := goodIn_r _ [6, 1, 7, 8, 5, 9, 22, 23, 24, 25, 26, 27, 28, 29, 30, 31, 32, 33, 34] (by decide +kernel) (by decide +kernel)
set_option maxRecDepth 20000 in
theorem gX5_parcel_X5_isParcel : GoodIn wsX5_parcel (wsV RX5 127 RX5 yX5_isParcel wsX5_isParcel) := goodIn_app (goodIn_of _ (by decide +kernel)) ggX5_parcel_X5_isParcel
set_option maxRecDepth 20000 in
theorem ggX5_parcel_X5_within : GoodIn wsX5_parcel wsX5_within := goodIn_r _ [9] (by decide +kernel) (by decide +kernel)
set_option maxRecDepth 20000 in
theorem gX5_parcel_X5_within : GoodIn wsX5_parcel (va_wsS RX5 48 yX5_within wsX5_within) := goodIn_app (goodIn_of _ (by decide +kernel)) ggX5_parcel_X5_within
set_option maxRecDepth 20000 in
theorem ggX5_parcel_X5_ownersWith : GoodIn wsX5_parcel wsX5_ownersWith := goodIn_r _ [13, 1, 14, 15, 16, 5, 17, 22, 23, 24, 25, 26, 27, 28, 29, 30, 31, 32, 33, 34] (by decide +kernel) (by decide +kernel)
set_option maxRecDepth 20000 in
theorem gX5_parcel_X5_ownersWith : GoodIn wsX5_parcel (wsV RX5 147 RX5 yX5_ownersWith wsX5_ownersWith) := goodIn_app (goodIn_of _ (by decide +kernel)) ggX5_parcel_X5_ownersWith
set_option maxRecDepth 20000 in
theorem ggX5_parcel_X5_orderOf : GoodIn wsX5_parcel wsX5_orderOf := goodIn_r _ [21, 1, 22, 23, 24, 25, 26, 27, 28, 29, 30, 31, 32, 33, 34] (by decide +kernel) (by decide +kernel)
set_option maxRecDepth 20000 in
theorem gX5_parcel_X5_orderOf : GoodIn wsX5_parcel (wsV RX5 70 RX5 yX5_orderOf wsX5_orderOf) := goodIn_app (goodIn_of _ (by decide +kernel)) ggX5_parcel_X5_orderOf
theorem dX5_parcel_0 : decode cX5_parcel 0 = .ok (.aload_n 0, 1) := by decide +kernel
theorem dX5_parcel_1 : decode cX5_parcel 1 = .ok (.iload_n 1, 1) := by decide +kernel
theorem dX5_parcel_2 : decode cX5_parcel 2 = .ok (.invokevirtual 127, 3) := by decide +kernel
theorem dX5_parcel_5 : decode cX5_parcel 5 = .ok (.ifCond .ne 5, 3) := by decide +kernel
theorem dX5_parcel_8 : decode cX5_parcel 8 = .ok (.iconst (-1), 1) := by decide +kernel
theorem dX5_parcel_9 : decode cX5_parcel 9 = .ok (.ireturn, 1) := by decide +kernel
theorem dX5_parcel_10 : decode cX5_parcel 10 = .ok (.iload_n 2, 1) := by decide +kernel
theorem dX5_parcel_11 : decode cX5_parcel 11 = .ok (.iconst 0, 1) := by decide +kernel
theorem dX5_parcel_12 : decode cX5_parcel 12 = .ok (.bipush 10, 2) := by decide +kernel
theorem dX5_parcel_14 : decode cX5_parcel 14 = .ok (.invokestatic 48, 3) := by decide +kernel
theorem dX5_parcel_17 : decode cX5_parcel 17 = .ok (.ifCond .ne 6, 3) := by decide +kernel
theorem dX5_parcel_20 : decode cX5_parcel 20 = .ok (.bipush (-2), 2) := by decide +kernel
theorem dX5_parcel_22 : decode cX5_parcel 22 = .ok (.ireturn, 1) := by decide +kernel
theorem dX5_parcel_23 : decode cX5_parcel 23 = .ok (.aload_n 0, 1) := by decide +kernel
theorem dX5_parcel_24 : decode cX5_parcel 24 = .ok (.getfield 7, 3) := by decide +kernel
theorem dX5_parcel_27 : decode cX5_parcel 27 = .ok (.iconst 2, 1) := by decide +kernel
theorem dX5_parcel_28 : decode cX5_parcel 28 = .ok (.bipush 9, 2) := by decide +kernel
theorem dX5_parcel_30 : decode cX5_parcel 30 = .ok (.iload_n 1, 1) := by decide +kernel
theorem dX5_parcel_31 : decode cX5_parcel 31 = .ok (.imul, 1) := by decide +kernel
theorem dX5_parcel_32 : decode cX5_parcel 32 = .ok (.iadd, 1) := by decide +kernel
theorem dX5_parcel_33 : decode cX5_parcel 33 = .ok (.iaload, 1) := by decide +kernel
theorem dX5_parcel_34 : decode cX5_parcel 34 = .ok (.istore_n 3, 1) := by decide +kernel
theorem dX5_parcel_35 : decode cX5_parcel 35 = .ok (.iload_n 2, 1) := by decide +kernel
theorem dX5_parcel_36 : decode cX5_parcel 36 = .ok (.bipush 8, 2) := by decide +kernel
theorem dX5_parcel_38 : decode cX5_parcel 38 = .ok (.if_icmp .le 20, 3) := by decide +kernel
theorem dX5_parcel_41 : decode cX5_parcel 41 = .ok (.aload_n 0, 1) := by decide +kernel
theorem dX5_parcel_42 : decode cX5_parcel 42 = .ok (.iload_n 1, 1) := by decide +kernel
theorem dX5_parcel_43 : decode cX5_parcel 43 = .ok (.iload_n 2, 1) := by decide +kernel
theorem dX5_parcel_44 : decode cX5_parcel 44 = .ok (.bipush 9, 2) := by decide +kernel
theorem dX5_parcel_46 : decode cX5_parcel 46 = .ok (.if_icmp .ne 7, 3) := by decide +kernel
theorem dX5_parcel_49 : decode cX5_parcel 49 = .ok (.iconst 1, 1) := by decide +kernel
theorem dX5_parcel_50 : decode cX5_parcel 50 = .ok (.goto 4, 3) := by decide +kernel
theorem dX5_parcel_53 : decode cX5_parcel 53 = .ok (.iconst 2, 1) := by decide +kernel
theorem dX5_parcel_54 : decode cX5_parcel 54 = .ok (.invokevirtual 147, 3) := by decide +kernel
theorem dX5_parcel_57 : decode cX5_parcel 57 = .ok (.ireturn, 1) := by decide +kernel
theorem dX5_parcel_58 : decode cX5_parcel 58 = .ok (.iload_n 2, 1) := by decide +kernel
theorem dX5_parcel_59 : decode cX5_parcel 59 = .ok (.ifCond .ne 7, 3) := by decide +kernel
theorem dX5_parcel_62 : decode cX5_parcel 62 = .ok (.iload_n 3, 1) := by decide +kernel
theorem dX5_parcel_63 : decode cX5_parcel 63 = .ok (.goto 21, 3) := by decide +kernel
theorem dX5_parcel_66 : decode cX5_parcel 66 = .ok (.iload_n 2, 1) := by decide +kernel
theorem dX5_parcel_67 : decode cX5_parcel 67 = .ok (.iload_n 3, 1) := by decide +kernel
theorem dX5_parcel_68 : decode cX5_parcel 68 = .ok (.if_icmp .gt 14, 3) := by decide +kernel
theorem dX5_parcel_71 : decode cX5_parcel 71 = .ok (.aload_n 0, 1) := by decide +kernel
theorem dX5_parcel_72 : decode cX5_parcel 72 = .ok (.iload_n 1, 1) := by decide +kernel
theorem dX5_parcel_73 : decode cX5_parcel 73 = .ok (.iload_n 2, 1) := by decide +kernel
theorem dX5_parcel_74 : decode cX5_parcel 74 = .ok (.iconst 1, 1) := by decide +kernel
theorem dX5_parcel_75 : decode cX5_parcel 75 = .ok (.isub, 1) := by decide +kernel
theorem dX5_parcel_76 : decode cX5_parcel 76 = .ok (.invokevirtual 70, 3) := by decide +kernel
theorem dX5_parcel_79 : decode cX5_parcel 79 = .ok (.goto 5, 3) := by decide +kernel
theorem dX5_parcel_82 : decode cX5_parcel 82 = .ok (.bipush (-6), 2) := by decide +kernel
theorem dX5_parcel_84 : decode cX5_parcel 84 = .ok (.ireturn, 1) := by decide +kernel
set_option maxRecDepth 20000 in
theorem ggX5_text_X5_isNumber : GoodIn wsX5_text wsX5_isNumber := goodIn_r _ [5, 6, 7, 4, 8] (by decide +kernel) (by decide +kernel)
set_option maxRecDepth 20000 in
theorem gX5_text_X5_isNumber : GoodIn wsX5_text (va_wsS RX5 140 yX5_isNumber wsX5_isNumber) := goodIn_app (goodIn_of _ (by decide +kernel)) ggX5_text_X5_isNumber
set_option maxRecDepth 20000 in
theorem ggX5_text_X5_findIssues : GoodIn wsX5_text wsX5_findIssues := goodIn_r _ [12, 1, 13, 14, 15, 4, 16, 17, 18, 19, 20, 21, 22, 23, 24, 25, 26, 27, 28, 29, 30, 31, 32, 33, 34, 35, 36, 37, 38] (by decide +kernel) (by decide +kernel)
set_option maxRecDepth 20000 in
theorem gX5_text_X5_findIssues : GoodIn wsX5_text (wsV RX5 86 RX5 yX5_findIssues wsX5_findIssues) := goodIn_app (goodIn_of _ (by decide +kernel)) ggX5_text_X5_findIssues
theorem dX5_text_0 : decode cX5_text 0 = .ok (.iload_n 1, 1) := by decide +kernel
theorem dX5_text_1 : decode cX5_text 1 = .ok (.invokestatic 140, 3) := by decide +kernel
theorem dX5_text_4 : decode cX5_text 4 = .ok (.ifCond .ne 6, 3) := by decide +kernel
theorem dX5_text_7 : decode cX5_text 7 = .ok (.bipush (-2), 2) := by decide +kernel
theorem dX5_text_9 : decode cX5_text 9 = .ok (.ireturn, 1) := by decide +kernel
theorem dX5_text_10 : decode cX5_text 10 = .ok (.aload_n 0, 1) := by decide +kernel
theorem dX5_text_11 : decode cX5_text 11 = .ok (.invokevirtual 86, 3) := by decide +kernel
theorem dX5_text_14 : decode cX5_text 14 = .ok (.aload_n 0, 1) := by decide +kernel
theorem dX5_text_15 : decode cX5_text 15 = .ok (.getfield 37, 3) := by decide +kernel
theorem dX5_text_18 : decode cX5_text 18 = .ok (.iload_n 1, 1) := by decide +kernel
theorem dX5_text_19 : decode cX5_text 19 = .ok (.iaload, 1) := by decide +kernel
theorem dX5_text_20 : decode cX5_text 20 = .ok (.ifCond .ne 8, 3) := by decide +kernel
theorem dX5_text_23 : decode cX5_text 23 = .ok (.bipush (-6), 2) := by decide +kernel
theorem dX5_text_25 : decode cX5_text 25 = .ok (.goto 11, 3) := by decide +kernel
theorem dX5_text_28 : decode cX5_text 28 = .ok (.aload_n 0, 1) := by decide +kernel
theorem dX5_text_29 : decode cX5_text 29 = .ok (.getfield 37, 3) := by decide +kernel
theorem dX5_text_32 : decode cX5_text 32 = .ok (.iload_n 1, 1) := by decide +kernel
theorem dX5_text_33 : decode cX5_text 33 = .ok (.iaload, 1) := by decide +kernel
theorem dX5_text_34 : decode cX5_text 34 = .ok (.iconst 1, 1) := by decide +kernel
theorem dX5_text_35 : decode cX5_text 35 = .ok (.isub, 1) := by decide +kernel
theorem dX5_text_36 : decode cX5_text 36 = .ok (.ireturn, 1) := by decide +kernel
set_option maxRecDepth 20000 in
theorem ggX5_issueIn_X5_part : GoodIn wsX5_issueIn wsX5_part := goodIn_r _ [5, 6, 15, 16, 17, 18, 19, 20, 21, 22, 23, 24, 25, 26, 27] (by decide +kernel) (by decide +kernel)
set_option maxRecDepth 20000 in
theorem gX5_issueIn_X5_part : GoodIn wsX5_issueIn (wsV RX5 52 RX5 yX5_part wsX5_part) := goodIn_app (goodIn_of _ (by decide +kernel)) ggX5_issueIn_X5_part
set_option maxRecDepth 20000 in
theorem ggX5_issueIn_X5_issueOf : GoodIn wsX5_issueIn wsX5_issueOf := goodIn_r _ [10, 1, 2, 3, 4, 5, 6, 15, 16, 17, 18, 19, 20, 21, 22, 23, 24, 25, 26, 27] (by decide +kernel) (by decide +kernel)
set_option maxRecDepth 20000 in
theorem gX5_issueIn_X5_issueOf : GoodIn wsX5_issueIn (wsV RX5 67 RX5 yX5_issueOf wsX5_issueOf) := goodIn_app (goodIn_of _ (by decide +kernel)) ggX5_issueIn_X5_issueOf
set_option maxRecDepth 20000 in
theorem ggX5_issueIn_X5_numberOf : GoodIn wsX5_issueIn wsX5_numberOf := goodIn_r _ [14, 1, 2, 3, 4, 5, 6, 15, 16, 17, 18, 19, 20, 21, 22, 23, 24, 25, 26, 27] (by decide +kernel) (by decide +kernel)
set_option maxRecDepth 20000 in
theorem gX5_issueIn_X5_numberOf : GoodIn wsX5_issueIn (wsV RX5 60 RX5 yX5_numberOf wsX5_numberOf) := goodIn_app (goodIn_of _ (by decide +kernel)) ggX5_issueIn_X5_numberOf
theorem dX5_issueIn_0 : decode cX5_issueIn 0 = .ok (.bipush (-6), 2) := by decide +kernel
theorem dX5_issueIn_2 : decode cX5_issueIn 2 = .ok (.istore 4, 2) := by decide +kernel
theorem dX5_issueIn_4 : decode cX5_issueIn 4 = .ok (.iconst 0, 1) := by decide +kernel
theorem dX5_issueIn_5 : decode cX5_issueIn 5 = .ok (.istore 5, 2) := by decide +kernel
theorem dX5_issueIn_7 : decode cX5_issueIn 7 = .ok (.iload 5, 2) := by decide +kernel
theorem dX5_issueIn_9 : decode cX5_issueIn 9 = .ok (.aload_n 0, 1) := by decide +kernel
theorem dX5_issueIn_10 : decode cX5_issueIn 10 = .ok (.iload_n 1, 1) := by decide +kernel
theorem dX5_issueIn_11 : decode cX5_issueIn 11 = .ok (.iconst 0, 1) := by decide +kernel
theorem dX5_issueIn_12 : decode cX5_issueIn 12 = .ok (.invokevirtual 52, 3) := by decide +kernel
theorem dX5_issueIn_15 : decode cX5_issueIn 15 = .ok (.if_icmp .ge 78, 3) := by decide +kernel
theorem dX5_issueIn_18 : decode cX5_issueIn 18 = .ok (.aload_n 0, 1) := by decide +kernel
theorem dX5_issueIn_19 : decode cX5_issueIn 19 = .ok (.iload_n 1, 1) := by decide +kernel
theorem dX5_issueIn_20 : decode cX5_issueIn 20 = .ok (.iload 5, 2) := by decide +kernel
theorem dX5_issueIn_22 : decode cX5_issueIn 22 = .ok (.invokevirtual 67, 3) := by decide +kernel
theorem dX5_issueIn_25 : decode cX5_issueIn 25 = .ok (.istore 6, 2) := by decide +kernel
theorem dX5_issueIn_27 : decode cX5_issueIn 27 = .ok (.aload_n 0, 1) := by decide +kernel
theorem dX5_issueIn_28 : decode cX5_issueIn 28 = .ok (.iload_n 1, 1) := by decide +kernel
theorem dX5_issueIn_29 : decode cX5_issueIn 29 = .ok (.iload 5, 2) := by decide +kernel
theorem dX5_issueIn_31 : decode cX5_issueIn 31 = .ok (.invokevirtual 60, 3) := by decide +kernel
theorem dX5_issueIn_34 : decode cX5_issueIn 34 = .ok (.iload_n 2, 1) := by decide +kernel
theorem dX5_issueIn_35 : decode cX5_issueIn 35 = .ok (.if_icmp .ne 35, 3) := by decide +kernel
theorem dX5_issueIn_38 : decode cX5_issueIn 38 = .ok (.iload 4, 2) := by decide +kernel
theorem dX5_issueIn_40 : decode cX5_issueIn 40 = .ok (.bipush (-6), 2) := by decide +kernel
theorem dX5_issueIn_42 : decode cX5_issueIn 42 = .ok (.if_icmp .eq 24, 3) := by decide +kernel
theorem dX5_issueIn_45 : decode cX5_issueIn 45 = .ok (.iload_n 3, 1) := by decide +kernel
theorem dX5_issueIn_46 : decode cX5_issueIn 46 = .ok (.ifCond .eq 13, 3) := by decide +kernel
theorem dX5_issueIn_49 : decode cX5_issueIn 49 = .ok (.iload 6, 2) := by decide +kernel
theorem dX5_issueIn_51 : decode cX5_issueIn 51 = .ok (.iload 4, 2) := by decide +kernel
theorem dX5_issueIn_53 : decode cX5_issueIn 53 = .ok (.if_icmp .le 17, 3) := by decide +kernel
theorem dX5_issueIn_56 : decode cX5_issueIn 56 = .ok (.goto 10, 3) := by decide +kernel
theorem dX5_issueIn_59 : decode cX5_issueIn 59 = .ok (.iload 6, 2) := by decide +kernel
theorem dX5_issueIn_61 : decode cX5_issueIn 61 = .ok (.iload 4, 2) := by decide +kernel
theorem dX5_issueIn_63 : decode cX5_issueIn 63 = .ok (.if_icmp .ge 7, 3) := by decide +kernel
theorem dX5_issueIn_66 : decode cX5_issueIn 66 = .ok (.iconst 1, 1) := by decide +kernel
theorem dX5_issueIn_67 : decode cX5_issueIn 67 = .ok (.goto 4, 3) := by decide +kernel
theorem dX5_issueIn_70 : decode cX5_issueIn 70 = .ok (.iconst 0, 1) := by decide +kernel
theorem dX5_issueIn_71 : decode cX5_issueIn 71 = .ok (.istore 7, 2) := by decide +kernel
theorem dX5_issueIn_73 : decode cX5_issueIn 73 = .ok (.iload 7, 2) := by decide +kernel
theorem dX5_issueIn_75 : decode cX5_issueIn 75 = .ok (.ifCond .eq 8, 3) := by decide +kernel
theorem dX5_issueIn_78 : decode cX5_issueIn 78 = .ok (.iload 6, 2) := by decide +kernel
theorem dX5_issueIn_80 : decode cX5_issueIn 80 = .ok (.goto 5, 3) := by decide +kernel
theorem dX5_issueIn_83 : decode cX5_issueIn 83 = .ok (.iload 4, 2) := by decide +kernel
theorem dX5_issueIn_85 : decode cX5_issueIn 85 = .ok (.istore 4, 2) := by decide +kernel
theorem dX5_issueIn_87 : decode cX5_issueIn 87 = .ok (.iinc 5 1, 3) := by decide +kernel
theorem dX5_issueIn_90 : decode cX5_issueIn 90 = .ok (.goto (-83), 3) := by decide +kernel
theorem dX5_issueIn_93 : decode cX5_issueIn 93 = .ok (.iload 4, 2) := by decide +kernel
theorem dX5_issueIn_95 : decode cX5_issueIn 95 = .ok (.ireturn, 1) := by decide +kernel
set_option maxRecDepth 20000 in
theorem ggX5_leaf_X5_isOwner : GoodIn wsX5_leaf wsX5_isOwner := goodIn_r _ [6, 7, 8, 9, 5, 10, 52, 53, 54, 55, 56, 57, 58, 59, 60, 61, 62, 63, 64] (by decide +kernel) (by decide +kernel)
set_option maxRecDepth 20000 in
theorem gX5_leaf_X5_isOwner : GoodIn wsX5_leaf (wsV RX5 123 RX5 yX5_isOwner wsX5_isOwner) := goodIn_app (goodIn_of _ (by decide +kernel)) ggX5_leaf_X5_isOwner
set_option maxRecDepth 20000 in
theorem ggX5_leaf_X5_isNumber : GoodIn wsX5_leaf wsX5_isNumber := goodIn_r _ [13, 8, 9, 5, 10] (by decide +kernel) (by decide +kernel)
set_option maxRecDepth 20000 in
theorem gX5_leaf_X5_isNumber : GoodIn wsX5_leaf (va_wsS RX5 140 yX5_isNumber wsX5_isNumber) := goodIn_app (goodIn_of _ (by decide +kernel)) ggX5_leaf_X5_isNumber
set_option maxRecDepth 20000 in
theorem ggX5_leaf_X5_findLeaves : GoodIn wsX5_leaf wsX5_findLeaves := goodIn_r _ [17, 1, 18, 19, 20, 21, 22, 5, 23, 24, 25, 26, 27, 7, 28, 29, 30, 31, 32, 33, 34, 35, 52, 53, 54, 55, 56, 57, 58, 59, 60, 61, 62, 63, 64] (by decide +kernel) (by decide +kernel)
set_option maxRecDepth 20000 in
theorem gX5_leaf_X5_findLeaves : GoodIn wsX5_leaf (wsV RX5 89 RX5 yX5_findLeaves wsX5_findLeaves) := goodIn_app (goodIn_of _ (by decide +kernel)) ggX5_leaf_X5_findLeaves
set_option maxRecDepth 20000 in
theorem ggX5_leaf_X5_issueIn : GoodIn wsX5_leaf wsX5_issueIn := goodIn_r _ [39, 24, 25, 26, 5, 27, 7, 32, 33, 34, 35, 28, 29, 30, 31, 52, 53, 54, 55, 56, 57, 58, 59, 60, 61, 62, 63, 64] (by decide +kernel) (by decide +kernel)
set_option maxRecDepth 20000 in
theorem gX5_leaf_X5_issueIn : GoodIn wsX5_leaf (wsV RX5 150 RX5 yX5_issueIn wsX5_issueIn) := goodIn_app (goodIn_of _ (by decide +kernel)) ggX5_leaf_X5_issueIn
set_option maxRecDepth 20000 in
theorem ggX5_leaf_X5_surplusOf : GoodIn wsX5_leaf wsX5_surplusOf := goodIn_r _ [43, 19, 1, 52, 53, 54, 55, 56, 57, 58, 59, 60, 61, 62, 63, 64] (by decide +kernel) (by decide +kernel)
set_option maxRecDepth 20000 in
theorem gX5_leaf_X5_surplusOf : GoodIn wsX5_leaf (wsV RX5 93 RX5 yX5_surplusOf wsX5_surplusOf) := goodIn_app (goodIn_of _ (by decide +kernel)) ggX5_leaf_X5_surplusOf
set_option maxRecDepth 20000 in
theorem ggX5_leaf_X5_oldOf : GoodIn wsX5_leaf wsX5_oldOf := goodIn_r _ [47, 19, 1, 18, 52, 53, 54, 55, 56, 57, 58, 59, 60, 61, 62, 63, 64] (by decide +kernel) (by decide +kernel)
set_option maxRecDepth 20000 in
theorem gX5_leaf_X5_oldOf : GoodIn wsX5_leaf (wsV RX5 97 RX5 yX5_oldOf wsX5_oldOf) := goodIn_app (goodIn_of _ (by decide +kernel)) ggX5_leaf_X5_oldOf
set_option maxRecDepth 20000 in
theorem ggX5_leaf_X5_missingOf : GoodIn wsX5_leaf wsX5_missingOf := goodIn_r _ [51, 19, 1, 52, 53, 54, 55, 56, 57, 58, 59, 60, 61, 62, 63, 64] (by decide +kernel) (by decide +kernel)
set_option maxRecDepth 20000 in
theorem gX5_leaf_X5_missingOf : GoodIn wsX5_leaf (wsV RX5 100 RX5 yX5_missingOf wsX5_missingOf) := goodIn_app (goodIn_of _ (by decide +kernel)) ggX5_leaf_X5_missingOf
theorem dX5_leaf_0 : decode cX5_leaf 0 = .ok (.aload_n 0, 1) := by decide +kernel
theorem dX5_leaf_1 : decode cX5_leaf 1 = .ok (.iload_n 1, 1) := by decide +kernel
theorem dX5_leaf_2 : decode cX5_leaf 2 = .ok (.invokevirtual 123, 3) := by decide +kernel
theorem dX5_leaf_5 : decode cX5_leaf 5 = .ok (.ifCond .ne 5, 3) := by decide +kernel
theorem dX5_leaf_8 : decode cX5_leaf 8 = .ok (.iconst (-1), 1) := by decide +kernel
theorem dX5_leaf_9 : decode cX5_leaf 9 = .ok (.ireturn, 1) := by decide +kernel
theorem dX5_leaf_10 : decode cX5_leaf 10 = .ok (.iload_n 2, 1) := by decide +kernel
theorem dX5_leaf_11 : decode cX5_leaf 11 = .ok (.invokestatic 140, 3) := by decide +kernel
theorem dX5_leaf_14 : decode cX5_leaf 14 = .ok (.ifCond .ne 6, 3) := by decide +kernel
theorem dX5_leaf_17 : decode cX5_leaf 17 = .ok (.bipush (-2), 2) := by decide +kernel
theorem dX5_leaf_19 : decode cX5_leaf 19 = .ok (.ireturn, 1) := by decide +kernel
theorem dX5_leaf_20 : decode cX5_leaf 20 = .ok (.aload_n 0, 1) := by decide +kernel
theorem dX5_leaf_21 : decode cX5_leaf 21 = .ok (.iload_n 1, 1) := by decide +kernel
theorem dX5_leaf_22 : decode cX5_leaf 22 = .ok (.invokevirtual 89, 3) := by decide +kernel
theorem dX5_leaf_25 : decode cX5_leaf 25 = .ok (.iload_n 3, 1) := by decide +kernel
theorem dX5_leaf_26 : decode cX5_leaf 26 = .ok (.tableswitch 79 0 5 #[38, 45, 53, 61, 67, 73], 38) := by decide +kernel
theorem dX5_leaf_64 : decode cX5_leaf 64 = .ok (.aload_n 0, 1) := by decide +kernel
theorem dX5_leaf_65 : decode cX5_leaf 65 = .ok (.getfield 31, 3) := by decide +kernel
theorem dX5_leaf_68 : decode cX5_leaf 68 = .ok (.iload_n 2, 1) := by decide +kernel
theorem dX5_leaf_69 : decode cX5_leaf 69 = .ok (.iaload, 1) := by decide +kernel
theorem dX5_leaf_70 : decode cX5_leaf 70 = .ok (.ireturn, 1) := by decide +kernel
theorem dX5_leaf_71 : decode cX5_leaf 71 = .ok (.aload_n 0, 1) := by decide +kernel
theorem dX5_leaf_72 : decode cX5_leaf 72 = .ok (.iload_n 1, 1) := by decide +kernel
theorem dX5_leaf_73 : decode cX5_leaf 73 = .ok (.iload_n 2, 1) := by decide +kernel
theorem dX5_leaf_74 : decode cX5_leaf 74 = .ok (.iconst 0, 1) := by decide +kernel
theorem dX5_leaf_75 : decode cX5_leaf 75 = .ok (.invokevirtual 150, 3) := by decide +kernel
theorem dX5_leaf_78 : decode cX5_leaf 78 = .ok (.ireturn, 1) := by decide +kernel
theorem dX5_leaf_79 : decode cX5_leaf 79 = .ok (.aload_n 0, 1) := by decide +kernel
theorem dX5_leaf_80 : decode cX5_leaf 80 = .ok (.iload_n 1, 1) := by decide +kernel
theorem dX5_leaf_81 : decode cX5_leaf 81 = .ok (.iload_n 2, 1) := by decide +kernel
theorem dX5_leaf_82 : decode cX5_leaf 82 = .ok (.iconst 1, 1) := by decide +kernel
theorem dX5_leaf_83 : decode cX5_leaf 83 = .ok (.invokevirtual 150, 3) := by decide +kernel
theorem dX5_leaf_86 : decode cX5_leaf 86 = .ok (.ireturn, 1) := by decide +kernel
theorem dX5_leaf_87 : decode cX5_leaf 87 = .ok (.aload_n 0, 1) := by decide +kernel
theorem dX5_leaf_88 : decode cX5_leaf 88 = .ok (.iload_n 2, 1) := by decide +kernel
theorem dX5_leaf_89 : decode cX5_leaf 89 = .ok (.invokevirtual 93, 3) := by decide +kernel
theorem dX5_leaf_92 : decode cX5_leaf 92 = .ok (.ireturn, 1) := by decide +kernel
theorem dX5_leaf_93 : decode cX5_leaf 93 = .ok (.aload_n 0, 1) := by decide +kernel
theorem dX5_leaf_94 : decode cX5_leaf 94 = .ok (.iload_n 2, 1) := by decide +kernel
theorem dX5_leaf_95 : decode cX5_leaf 95 = .ok (.invokevirtual 97, 3) := by decide +kernel
theorem dX5_leaf_98 : decode cX5_leaf 98 = .ok (.ireturn, 1) := by decide +kernel
theorem dX5_leaf_99 : decode cX5_leaf 99 = .ok (.aload_n 0, 1) := by decide +kernel
theorem dX5_leaf_100 : decode cX5_leaf 100 = .ok (.iload_n 2, 1) := by decide +kernel
theorem dX5_leaf_101 : decode cX5_leaf 101 = .ok (.invokevirtual 100, 3) := by decide +kernel
theorem dX5_leaf_104 : decode cX5_leaf 104 = .ok (.ireturn, 1) := by decide +kernel
theorem dX5_leaf_105 : decode cX5_leaf 105 = .ok (.bipush (-2), 2) := by decide +kernel
theorem dX5_leaf_107 : decode cX5_leaf 107 = .ok (.ireturn, 1) := by decide +kernel
set_option maxRecDepth 20000 in
theorem ggX5_of_X5_isOwner : GoodIn wsX5_of wsX5_isOwner := goodIn_r _ [5, 6, 7, 8, 4, 9, 57, 58, 59, 60, 61, 62, 63, 64, 65, 66, 67, 68, 69] (by decide +kernel) (by decide +kernel)
set_option maxRecDepth 20000 in
theorem gX5_of_X5_isOwner : GoodIn wsX5_of (wsV RX5 123 RX5 yX5_isOwner wsX5_isOwner) := goodIn_app (goodIn_of _ (by decide +kernel)) ggX5_of_X5_isOwner
set_option maxRecDepth 20000 in
theorem ggX5_of_X5_part : GoodIn wsX5_of wsX5_part := goodIn_r _ [13, 6, 57, 58, 59, 60, 61, 62, 63, 64, 65, 66, 67, 68, 69] (by decide +kernel) (by decide +kernel)
set_option maxRecDepth 20000 in
theorem gX5_of_X5_part : GoodIn wsX5_of (wsV RX5 52 RX5 yX5_part wsX5_part) := goodIn_app (goodIn_of _ (by decide +kernel)) ggX5_of_X5_part
set_option maxRecDepth 20000 in
theorem ggX5_of_X5_wrong : GoodIn wsX5_of wsX5_wrong := goodIn_r _ [17, 18, 19, 20, 4, 21, 22, 23, 24, 25, 26, 27, 28, 10, 11, 12, 13, 6, 29, 30, 31, 32, 33, 34, 35, 36, 37, 38, 39, 40, 41, 42, 43, 44, 45, 46, 47, 48, 57, 58, 59, 60, 61, 62, 63, 64, 65, 66, 67, 68, 69] (by decide +kernel) (by decide +kernel)
set_option maxRecDepth 20000 in
theorem gX5_of_X5_wrong : GoodIn wsX5_of (wsV RX5 103 RX5 yX5_wrong wsX5_wrong) := goodIn_app (goodIn_of _ (by decide +kernel)) ggX5_of_X5_wrong
set_option maxRecDepth 20000 in
theorem ggX5_of_X5_isRight : GoodIn wsX5_of wsX5_isRight := goodIn_r _ [52, 14, 15, 16, 4, 17, 18, 19, 20, 21, 22, 23, 24, 25, 26, 27, 28, 10, 11, 12, 13, 6, 29, 30, 31, 32, 33, 34, 35, 36, 37, 38, 39, 40, 41, 42, 43, 44, 45, 46, 47, 48, 57, 58, 59, 60, 61, 62, 63, 64, 65, 66, 67, 68, 69] (by decide +kernel) (by decide +kernel)
set_option maxRecDepth 20000 in
theorem gX5_of_X5_isRight : GoodIn wsX5_of (wsV RX5 154 RX5 yX5_isRight wsX5_isRight) := goodIn_app (goodIn_of _ (by decide +kernel)) ggX5_of_X5_isRight
set_option maxRecDepth 20000 in
theorem ggX5_of_X5_checkOf : GoodIn wsX5_of wsX5_checkOf := goodIn_r _ [56, 10, 11, 12, 4, 13, 6, 29, 30, 31, 32, 33, 34, 35, 36, 57, 58, 59, 60, 61, 62, 63, 64, 65, 66, 67, 68, 69] (by decide +kernel) (by decide +kernel)
set_option maxRecDepth 20000 in
theorem gX5_of_X5_checkOf : GoodIn wsX5_of (wsV RX5 157 RX5 yX5_checkOf wsX5_checkOf) := goodIn_app (goodIn_of _ (by decide +kernel)) ggX5_of_X5_checkOf
theorem dX5_of_0 : decode cX5_of 0 = .ok (.aload_n 0, 1) := by decide +kernel
theorem dX5_of_1 : decode cX5_of 1 = .ok (.iload_n 1, 1) := by decide +kernel
theorem dX5_of_2 : decode cX5_of 2 = .ok (.invokevirtual 123, 3) := by decide +kernel
theorem dX5_of_5 : decode cX5_of 5 = .ok (.ifCond .ne 5, 3) := by decide +kernel
theorem dX5_of_8 : decode cX5_of 8 = .ok (.iconst (-1), 1) := by decide +kernel
theorem dX5_of_9 : decode cX5_of 9 = .ok (.ireturn, 1) := by decide +kernel
theorem dX5_of_10 : decode cX5_of 10 = .ok (.iload_n 2, 1) := by decide +kernel
theorem dX5_of_11 : decode cX5_of 11 = .ok (.tableswitch 81 0 7 #[45, 45, 45, 52, 52, 52, 61, 75], 45) := by decide +kernel
theorem dX5_of_56 : decode cX5_of 56 = .ok (.aload_n 0, 1) := by decide +kernel
theorem dX5_of_57 : decode cX5_of 57 = .ok (.iload_n 1, 1) := by decide +kernel
theorem dX5_of_58 : decode cX5_of 58 = .ok (.iload_n 2, 1) := by decide +kernel
theorem dX5_of_59 : decode cX5_of 59 = .ok (.invokevirtual 52, 3) := by decide +kernel
theorem dX5_of_62 : decode cX5_of 62 = .ok (.ireturn, 1) := by decide +kernel
theorem dX5_of_63 : decode cX5_of 63 = .ok (.aload_n 0, 1) := by decide +kernel
theorem dX5_of_64 : decode cX5_of 64 = .ok (.iload_n 1, 1) := by decide +kernel
theorem dX5_of_65 : decode cX5_of 65 = .ok (.iload_n 2, 1) := by decide +kernel
theorem dX5_of_66 : decode cX5_of 66 = .ok (.iconst 3, 1) := by decide +kernel
theorem dX5_of_67 : decode cX5_of 67 = .ok (.isub, 1) := by decide +kernel
theorem dX5_of_68 : decode cX5_of 68 = .ok (.invokevirtual 103, 3) := by decide +kernel
theorem dX5_of_71 : decode cX5_of 71 = .ok (.ireturn, 1) := by decide +kernel
theorem dX5_of_72 : decode cX5_of 72 = .ok (.aload_n 0, 1) := by decide +kernel
theorem dX5_of_73 : decode cX5_of 73 = .ok (.iload_n 1, 1) := by decide +kernel
theorem dX5_of_74 : decode cX5_of 74 = .ok (.invokevirtual 154, 3) := by decide +kernel
theorem dX5_of_77 : decode cX5_of 77 = .ok (.ifCond .eq 7, 3) := by decide +kernel
theorem dX5_of_80 : decode cX5_of 80 = .ok (.iconst 1, 1) := by decide +kernel
theorem dX5_of_81 : decode cX5_of 81 = .ok (.goto 4, 3) := by decide +kernel
theorem dX5_of_84 : decode cX5_of 84 = .ok (.iconst 0, 1) := by decide +kernel
theorem dX5_of_85 : decode cX5_of 85 = .ok (.ireturn, 1) := by decide +kernel
theorem dX5_of_86 : decode cX5_of 86 = .ok (.aload_n 0, 1) := by decide +kernel
theorem dX5_of_87 : decode cX5_of 87 = .ok (.iload_n 1, 1) := by decide +kernel
theorem dX5_of_88 : decode cX5_of 88 = .ok (.invokevirtual 157, 3) := by decide +kernel
theorem dX5_of_91 : decode cX5_of 91 = .ok (.ireturn, 1) := by decide +kernel
theorem dX5_of_92 : decode cX5_of 92 = .ok (.bipush (-2), 2) := by decide +kernel
theorem dX5_of_94 : decode cX5_of 94 = .ok (.ireturn, 1) := by decide +kernel
set_option maxRecDepth 20000 in
theorem ggX5_rightOwners_X5_isRight : GoodIn wsX5_rightOwners wsX5_isRight := goodIn_r _ [6, 7, 8, 9, 5, 10, 11, 12, 13, 14, 15, 16, 17, 18, 19, 20, 21, 22, 23, 24, 25, 1, 26, 27, 28, 29, 30, 31, 32, 33, 34, 35, 36, 37, 38, 39, 40, 41, 42, 43, 44, 45, 46, 47, 48, 49, 50, 51, 52, 53, 54, 55, 56, 57, 58] (by decide +kernel) (by decide +kernel)
set_option maxRecDepth 20000 in
theorem gX5_rightOwners_X5_isRight : GoodIn wsX5_rightOwners (wsV RX5 154 RX5 yX5_isRight wsX5_isRight) := goodIn_app (goodIn_of _ (by decide +kernel)) ggX5_rightOwners_X5_isRight
theorem dX5_rightOwners_0 : decode cX5_rightOwners 0 = .ok (.iconst 0, 1) := by decide +kernel
theorem dX5_rightOwners_1 : decode cX5_rightOwners 1 = .ok (.istore_n 1, 1) := by decide +kernel
theorem dX5_rightOwners_2 : decode cX5_rightOwners 2 = .ok (.iconst 0, 1) := by decide +kernel
theorem dX5_rightOwners_3 : decode cX5_rightOwners 3 = .ok (.istore_n 2, 1) := by decide +kernel
theorem dX5_rightOwners_4 : decode cX5_rightOwners 4 = .ok (.iload_n 2, 1) := by decide +kernel
theorem dX5_rightOwners_5 : decode cX5_rightOwners 5 = .ok (.aload_n 0, 1) := by decide +kernel
theorem dX5_rightOwners_6 : decode cX5_rightOwners 6 = .ok (.getfield 7, 3) := by decide +kernel
theorem dX5_rightOwners_9 : decode cX5_rightOwners 9 = .ok (.iconst 1, 1) := by decide +kernel
theorem dX5_rightOwners_10 : decode cX5_rightOwners 10 = .ok (.iaload, 1) := by decide +kernel
theorem dX5_rightOwners_11 : decode cX5_rightOwners 11 = .ok (.if_icmp .ge 27, 3) := by decide +kernel
theorem dX5_rightOwners_14 : decode cX5_rightOwners 14 = .ok (.iload_n 1, 1) := by decide +kernel
theorem dX5_rightOwners_15 : decode cX5_rightOwners 15 = .ok (.aload_n 0, 1) := by decide +kernel
theorem dX5_rightOwners_16 : decode cX5_rightOwners 16 = .ok (.iload_n 2, 1) := by decide +kernel
theorem dX5_rightOwners_17 : decode cX5_rightOwners 17 = .ok (.invokevirtual 154, 3) := by decide +kernel
theorem dX5_rightOwners_20 : decode cX5_rightOwners 20 = .ok (.ifCond .eq 9, 3) := by decide +kernel
theorem dX5_rightOwners_23 : decode cX5_rightOwners 23 = .ok (.iconst 1, 1) := by decide +kernel
theorem dX5_rightOwners_24 : decode cX5_rightOwners 24 = .ok (.iload_n 2, 1) := by decide +kernel
theorem dX5_rightOwners_25 : decode cX5_rightOwners 25 = .ok (.ishl, 1) := by decide +kernel
theorem dX5_rightOwners_26 : decode cX5_rightOwners 26 = .ok (.goto 4, 3) := by decide +kernel
theorem dX5_rightOwners_29 : decode cX5_rightOwners 29 = .ok (.iconst 0, 1) := by decide +kernel
theorem dX5_rightOwners_30 : decode cX5_rightOwners 30 = .ok (.ior, 1) := by decide +kernel
theorem dX5_rightOwners_31 : decode cX5_rightOwners 31 = .ok (.istore_n 1, 1) := by decide +kernel
theorem dX5_rightOwners_32 : decode cX5_rightOwners 32 = .ok (.iinc 2 1, 3) := by decide +kernel
theorem dX5_rightOwners_35 : decode cX5_rightOwners 35 = .ok (.goto (-31), 3) := by decide +kernel
theorem dX5_rightOwners_38 : decode cX5_rightOwners 38 = .ok (.iload_n 1, 1) := by decide +kernel
theorem dX5_rightOwners_39 : decode cX5_rightOwners 39 = .ok (.ireturn, 1) := by decide +kernel
set_option maxRecDepth 20000 in
theorem ggX5_inText_X5_part : GoodIn wsX5_inText wsX5_part := goodIn_r _ [5, 6, 11, 12, 13, 14, 15, 16, 17, 18, 19, 20, 21, 22, 23] (by decide +kernel) (by decide +kernel)
set_option maxRecDepth 20000 in
theorem gX5_inText_X5_part : GoodIn wsX5_inText (wsV RX5 52 RX5 yX5_part wsX5_part) := goodIn_app (goodIn_of _ (by decide +kernel)) ggX5_inText_X5_part
set_option maxRecDepth 20000 in
theorem ggX5_inText_X5_issueOf : GoodIn wsX5_inText wsX5_issueOf := goodIn_r _ [10, 1, 2, 3, 4, 5, 6, 11, 12, 13, 14, 15, 16, 17, 18, 19, 20, 21, 22, 23] (by decide +kernel) (by decide +kernel)
set_option maxRecDepth 20000 in
theorem gX5_inText_X5_issueOf : GoodIn wsX5_inText (wsV RX5 67 RX5 yX5_issueOf wsX5_issueOf) := goodIn_app (goodIn_of _ (by decide +kernel)) ggX5_inText_X5_issueOf
theorem dX5_inText_0 : decode cX5_inText 0 = .ok (.iconst 0, 1) := by decide +kernel
theorem dX5_inText_1 : decode cX5_inText 1 = .ok (.istore_n 2, 1) := by decide +kernel
theorem dX5_inText_2 : decode cX5_inText 2 = .ok (.iconst 0, 1) := by decide +kernel
theorem dX5_inText_3 : decode cX5_inText 3 = .ok (.istore_n 3, 1) := by decide +kernel
theorem dX5_inText_4 : decode cX5_inText 4 = .ok (.iload_n 3, 1) := by decide +kernel
theorem dX5_inText_5 : decode cX5_inText 5 = .ok (.aload_n 0, 1) := by decide +kernel
theorem dX5_inText_6 : decode cX5_inText 6 = .ok (.bipush 8, 2) := by decide +kernel
theorem dX5_inText_8 : decode cX5_inText 8 = .ok (.iconst 0, 1) := by decide +kernel
theorem dX5_inText_9 : decode cX5_inText 9 = .ok (.invokevirtual 52, 3) := by decide +kernel
theorem dX5_inText_12 : decode cX5_inText 12 = .ok (.if_icmp .ge 28, 3) := by decide +kernel
theorem dX5_inText_15 : decode cX5_inText 15 = .ok (.iload_n 2, 1) := by decide +kernel
theorem dX5_inText_16 : decode cX5_inText 16 = .ok (.aload_n 0, 1) := by decide +kernel
theorem dX5_inText_17 : decode cX5_inText 17 = .ok (.bipush 8, 2) := by decide +kernel
theorem dX5_inText_19 : decode cX5_inText 19 = .ok (.iload_n 3, 1) := by decide +kernel
theorem dX5_inText_20 : decode cX5_inText 20 = .ok (.invokevirtual 67, 3) := by decide +kernel
theorem dX5_inText_23 : decode cX5_inText 23 = .ok (.iload_n 1, 1) := by decide +kernel
theorem dX5_inText_24 : decode cX5_inText 24 = .ok (.if_icmp .ne 7, 3) := by decide +kernel
theorem dX5_inText_27 : decode cX5_inText 27 = .ok (.iconst 1, 1) := by decide +kernel
theorem dX5_inText_28 : decode cX5_inText 28 = .ok (.goto 4, 3) := by decide +kernel
theorem dX5_inText_31 : decode cX5_inText 31 = .ok (.iconst 0, 1) := by decide +kernel
theorem dX5_inText_32 : decode cX5_inText 32 = .ok (.iadd, 1) := by decide +kernel
theorem dX5_inText_33 : decode cX5_inText 33 = .ok (.istore_n 2, 1) := by decide +kernel
theorem dX5_inText_34 : decode cX5_inText 34 = .ok (.iinc 3 1, 3) := by decide +kernel
theorem dX5_inText_37 : decode cX5_inText 37 = .ok (.goto (-33), 3) := by decide +kernel
theorem dX5_inText_40 : decode cX5_inText 40 = .ok (.iload_n 2, 1) := by decide +kernel
theorem dX5_inText_41 : decode cX5_inText 41 = .ok (.ireturn, 1) := by decide +kernel
set_option maxRecDepth 20000 in
theorem ggX5_mostInText_X5_inText : GoodIn wsX5_mostInText wsX5_inText := goodIn_r _ [6, 7, 8, 9, 5, 10, 1, 11, 12, 13, 14, 15, 16, 17, 18, 19, 20, 21, 22, 23, 24, 25, 26, 27] (by decide +kernel) (by decide +kernel)
set_option maxRecDepth 20000 in
theorem gX5_mostInText_X5_inText : GoodIn wsX5_mostInText (wsV RX5 160 RX5 yX5_inText wsX5_inText) := goodIn_app (goodIn_of _ (by decide +kernel)) ggX5_mostInText_X5_inText
theorem dX5_mostInText_0 : decode cX5_mostInText 0 = .ok (.bipush (-6), 2) := by decide +kernel
theorem dX5_mostInText_2 : decode cX5_mostInText 2 = .ok (.istore_n 1, 1) := by decide +kernel
theorem dX5_mostInText_3 : decode cX5_mostInText 3 = .ok (.iconst 0, 1) := by decide +kernel
theorem dX5_mostInText_4 : decode cX5_mostInText 4 = .ok (.istore_n 2, 1) := by decide +kernel
theorem dX5_mostInText_5 : decode cX5_mostInText 5 = .ok (.iconst 0, 1) := by decide +kernel
theorem dX5_mostInText_6 : decode cX5_mostInText 6 = .ok (.istore_n 3, 1) := by decide +kernel
theorem dX5_mostInText_7 : decode cX5_mostInText 7 = .ok (.iload_n 3, 1) := by decide +kernel
theorem dX5_mostInText_8 : decode cX5_mostInText 8 = .ok (.aload_n 0, 1) := by decide +kernel
end
section
theorem dX5_mostInText_9 : decode cX5_mostInText 9 = .ok (.getfield 7, 3) := by decide +kernel
theorem dX5_mostInText_12 : decode cX5_mostInText 12 = .ok (.iconst 0, 1) := by decide +kernel
theorem dX5_mostInText_13 : decode cX5_mostInText 13 = .ok (.iaload, 1) := by decide +kernel
theorem dX5_mostInText_14 : decode cX5_mostInText 14 = .ok (.if_icmp .ge 43, 3) := by decide +kernel
theorem dX5_mostInText_17 : decode cX5_mostInText 17 = .ok (.aload_n 0, 1) := by decide +kernel
theorem dX5_mostInText_18 : decode cX5_mostInText 18 = .ok (.iload_n 3, 1) := by decide +kernel
theorem dX5_mostInText_19 : decode cX5_mostInText 19 = .ok (.invokevirtual 160, 3) := by decide +kernel
theorem dX5_mostInText_22 : decode cX5_mostInText 22 = .ok (.iload_n 2, 1) := by decide +kernel
theorem dX5_mostInText_23 : decode cX5_mostInText 23 = .ok (.if_icmp .le 7, 3) := by decide +kernel
theorem dX5_mostInText_26 : decode cX5_mostInText 26 = .ok (.iload_n 3, 1) := by decide +kernel
theorem dX5_mostInText_27 : decode cX5_mostInText 27 = .ok (.goto 4, 3) := by decide +kernel
theorem dX5_mostInText_30 : decode cX5_mostInText 30 = .ok (.iload_n 1, 1) := by decide +kernel
theorem dX5_mostInText_31 : decode cX5_mostInText 31 = .ok (.istore_n 1, 1) := by decide +kernel
theorem dX5_mostInText_32 : decode cX5_mostInText 32 = .ok (.aload_n 0, 1) := by decide +kernel
theorem dX5_mostInText_33 : decode cX5_mostInText 33 = .ok (.iload_n 3, 1) := by decide +kernel
theorem dX5_mostInText_34 : decode cX5_mostInText 34 = .ok (.invokevirtual 160, 3) := by decide +kernel
theorem dX5_mostInText_37 : decode cX5_mostInText 37 = .ok (.iload_n 2, 1) := by decide +kernel
theorem dX5_mostInText_38 : decode cX5_mostInText 38 = .ok (.if_icmp .le 11, 3) := by decide +kernel
theorem dX5_mostInText_41 : decode cX5_mostInText 41 = .ok (.aload_n 0, 1) := by decide +kernel
theorem dX5_mostInText_42 : decode cX5_mostInText 42 = .ok (.iload_n 3, 1) := by decide +kernel
theorem dX5_mostInText_43 : decode cX5_mostInText 43 = .ok (.invokevirtual 160, 3) := by decide +kernel
theorem dX5_mostInText_46 : decode cX5_mostInText 46 = .ok (.goto 4, 3) := by decide +kernel
theorem dX5_mostInText_49 : decode cX5_mostInText 49 = .ok (.iload_n 2, 1) := by decide +kernel
theorem dX5_mostInText_50 : decode cX5_mostInText 50 = .ok (.istore_n 2, 1) := by decide +kernel
theorem dX5_mostInText_51 : decode cX5_mostInText 51 = .ok (.iinc 3 1, 3) := by decide +kernel
theorem dX5_mostInText_54 : decode cX5_mostInText 54 = .ok (.goto (-47), 3) := by decide +kernel
theorem dX5_mostInText_57 : decode cX5_mostInText 57 = .ok (.iload_n 1, 1) := by decide +kernel
theorem dX5_mostInText_58 : decode cX5_mostInText 58 = .ok (.ireturn, 1) := by decide +kernel
set_option maxRecDepth 20000 in
theorem ggX5_count_X5_part : GoodIn wsX5_count wsX5_part := goodIn_r _ [8, 1, 64, 65, 66, 67, 68, 69, 70, 71, 72, 73, 74, 75, 76] (by decide +kernel) (by decide +kernel)
set_option maxRecDepth 20000 in
theorem gX5_count_X5_part : GoodIn wsX5_count (wsV RX5 52 RX5 yX5_part wsX5_part) := goodIn_app (goodIn_of _ (by decide +kernel)) ggX5_count_X5_part
set_option maxRecDepth 20000 in
theorem ggX5_count_X5_checkOf : GoodIn wsX5_count wsX5_checkOf := goodIn_r _ [12, 4, 5, 6, 7, 8, 1, 13, 14, 15, 16, 17, 18, 19, 20, 64, 65, 66, 67, 68, 69, 70, 71, 72, 73, 74, 75, 76] (by decide +kernel) (by decide +kernel)
set_option maxRecDepth 20000 in
theorem gX5_count_X5_checkOf : GoodIn wsX5_count (wsV RX5 157 RX5 yX5_checkOf wsX5_checkOf) := goodIn_app (goodIn_of _ (by decide +kernel)) ggX5_count_X5_checkOf
set_option maxRecDepth 20000 in
theorem ggX5_count_X5_rightOwners : GoodIn wsX5_count wsX5_rightOwners := goodIn_r _ [24, 1, 25, 26, 27, 7, 28, 29, 30, 31, 32, 33, 34, 35, 36, 37, 38, 39, 40, 41, 42, 43, 4, 5, 6, 8, 13, 14, 15, 16, 17, 18, 19, 20, 44, 45, 46, 47, 48, 49, 50, 51, 52, 53, 54, 55, 64, 65, 66, 67, 68, 69, 70, 71, 72, 73, 74, 75, 76] (by decide +kernel) (by decide +kernel)
set_option maxRecDepth 20000 in
theorem gX5_count_X5_rightOwners : GoodIn wsX5_count (wsV RX5 163 RX5 yX5_rightOwners wsX5_rightOwners) := goodIn_app (goodIn_of _ (by decide +kernel)) ggX5_count_X5_rightOwners
set_option maxRecDepth 20000 in
theorem ggX5_count_X5_inText : GoodIn wsX5_count wsX5_inText := goodIn_r _ [59, 4, 5, 6, 7, 8, 1, 17, 18, 19, 20, 64, 65, 66, 67, 68, 69, 70, 71, 72, 73, 74, 75, 76] (by decide +kernel) (by decide +kernel)
set_option maxRecDepth 20000 in
theorem gX5_count_X5_inText : GoodIn wsX5_count (wsV RX5 160 RX5 yX5_inText wsX5_inText) := goodIn_app (goodIn_of _ (by decide +kernel)) ggX5_count_X5_inText
set_option maxRecDepth 20000 in
theorem ggX5_count_X5_mostInText : GoodIn wsX5_count wsX5_mostInText := goodIn_r _ [63, 1, 56, 57, 58, 7, 59, 4, 5, 6, 8, 17, 18, 19, 20, 64, 65, 66, 67, 68, 69, 70, 71, 72, 73, 74, 75, 76] (by decide +kernel) (by decide +kernel)
set_option maxRecDepth 20000 in
theorem gX5_count_X5_mostInText : GoodIn wsX5_count (wsV RX5 166 RX5 yX5_mostInText wsX5_mostInText) := goodIn_app (goodIn_of _ (by decide +kernel)) ggX5_count_X5_mostInText
theorem dX5_count_0 : decode cX5_count 0 = .ok (.iload_n 1, 1) := by decide +kernel
theorem dX5_count_1 : decode cX5_count 1 = .ok (.tableswitch 106 0 8 #[51, 58, 65, 73, 80, 85, 91, 96, 101], 51) := by decide +kernel
theorem dX5_count_52 : decode cX5_count 52 = .ok (.aload_n 0, 1) := by decide +kernel
theorem dX5_count_53 : decode cX5_count 53 = .ok (.getfield 7, 3) := by decide +kernel
theorem dX5_count_56 : decode cX5_count 56 = .ok (.iconst 0, 1) := by decide +kernel
theorem dX5_count_57 : decode cX5_count 57 = .ok (.iaload, 1) := by decide +kernel
theorem dX5_count_58 : decode cX5_count 58 = .ok (.ireturn, 1) := by decide +kernel
theorem dX5_count_59 : decode cX5_count 59 = .ok (.aload_n 0, 1) := by decide +kernel
theorem dX5_count_60 : decode cX5_count 60 = .ok (.getfield 7, 3) := by decide +kernel
theorem dX5_count_63 : decode cX5_count 63 = .ok (.iconst 1, 1) := by decide +kernel
theorem dX5_count_64 : decode cX5_count 64 = .ok (.iaload, 1) := by decide +kernel
theorem dX5_count_65 : decode cX5_count 65 = .ok (.ireturn, 1) := by decide +kernel
theorem dX5_count_66 : decode cX5_count 66 = .ok (.aload_n 0, 1) := by decide +kernel
theorem dX5_count_67 : decode cX5_count 67 = .ok (.bipush 8, 2) := by decide +kernel
theorem dX5_count_69 : decode cX5_count 69 = .ok (.iconst 0, 1) := by decide +kernel
theorem dX5_count_70 : decode cX5_count 70 = .ok (.invokevirtual 52, 3) := by decide +kernel
theorem dX5_count_73 : decode cX5_count 73 = .ok (.ireturn, 1) := by decide +kernel
theorem dX5_count_74 : decode cX5_count 74 = .ok (.aload_n 0, 1) := by decide +kernel
theorem dX5_count_75 : decode cX5_count 75 = .ok (.bipush 8, 2) := by decide +kernel
theorem dX5_count_77 : decode cX5_count 77 = .ok (.invokevirtual 157, 3) := by decide +kernel
theorem dX5_count_80 : decode cX5_count 80 = .ok (.ireturn, 1) := by decide +kernel
theorem dX5_count_81 : decode cX5_count 81 = .ok (.aload_n 0, 1) := by decide +kernel
theorem dX5_count_82 : decode cX5_count 82 = .ok (.invokevirtual 163, 3) := by decide +kernel
theorem dX5_count_85 : decode cX5_count 85 = .ok (.ireturn, 1) := by decide +kernel
theorem dX5_count_86 : decode cX5_count 86 = .ok (.aload_n 0, 1) := by decide +kernel
theorem dX5_count_87 : decode cX5_count 87 = .ok (.iconst 0, 1) := by decide +kernel
theorem dX5_count_88 : decode cX5_count 88 = .ok (.invokevirtual 160, 3) := by decide +kernel
theorem dX5_count_91 : decode cX5_count 91 = .ok (.ireturn, 1) := by decide +kernel
theorem dX5_count_92 : decode cX5_count 92 = .ok (.aload_n 0, 1) := by decide +kernel
theorem dX5_count_93 : decode cX5_count 93 = .ok (.invokevirtual 166, 3) := by decide +kernel
theorem dX5_count_96 : decode cX5_count 96 = .ok (.ireturn, 1) := by decide +kernel
theorem dX5_count_97 : decode cX5_count 97 = .ok (.aload_n 0, 1) := by decide +kernel
theorem dX5_count_98 : decode cX5_count 98 = .ok (.getfield 120, 3) := by decide +kernel
theorem dX5_count_101 : decode cX5_count 101 = .ok (.ireturn, 1) := by decide +kernel
theorem dX5_count_102 : decode cX5_count 102 = .ok (.aload_n 0, 1) := by decide +kernel
theorem dX5_count_103 : decode cX5_count 103 = .ok (.getfield 40, 3) := by decide +kernel
theorem dX5_count_106 : decode cX5_count 106 = .ok (.ireturn, 1) := by decide +kernel
theorem dX5_count_107 : decode cX5_count 107 = .ok (.bipush (-2), 2) := by decide +kernel
theorem dX5_count_109 : decode cX5_count 109 = .ok (.ireturn, 1) := by decide +kernel
set_option maxRecDepth 20000 in
theorem ggX5_wrongWith_X5_moves : GoodIn wsX5_wrongWith wsX5_moves := goodIn_r _ [6] (by decide +kernel) (by decide +kernel)
set_option maxRecDepth 20000 in
theorem gX5_wrongWith_X5_moves : GoodIn wsX5_wrongWith (va_wsS RX5 44 yX5_moves wsX5_moves) := goodIn_app (goodIn_of _ (by decide +kernel)) ggX5_wrongWith_X5_moves
set_option maxRecDepth 20000 in
theorem ggX5_wrongWith_X5_doSet : GoodIn wsX5_wrongWith wsX5_doSet := goodIn_r _ [10, 1, 11, 12, 13, 5, 14, 15, 16, 17, 18, 19, 20, 21, 22, 23, 24, 25, 26, 27, 28, 29, 30, 31, 32, 33, 34, 35, 36, 37, 38, 39, 40, 41, 42, 43, 44, 45, 46, 47, 48, 49, 50, 78, 79, 80, 81, 82, 83, 84, 85, 86, 87, 88, 89, 90] (by decide +kernel) (by decide +kernel)
set_option maxRecDepth 20000 in
theorem gX5_wrongWith_X5_doSet : GoodIn wsX5_wrongWith (wsV RX5 134 RX5 yX5_doSet wsX5_doSet) := goodIn_app (goodIn_of _ (by decide +kernel)) ggX5_wrongWith_X5_doSet
set_option maxRecDepth 20000 in
theorem ggX5_wrongWith_X5_wrong : GoodIn wsX5_wrongWith wsX5_wrong := goodIn_r _ [54, 55, 56, 57, 5, 58, 59, 60, 61, 62, 63, 64, 65, 23, 24, 25, 26, 1, 27, 28, 29, 30, 31, 32, 33, 34, 66, 67, 68, 69, 70, 71, 72, 73, 74, 75, 76, 77, 78, 79, 80, 81, 82, 83, 84, 85, 86, 87, 88, 89, 90] (by decide +kernel) (by decide +kernel)
set_option maxRecDepth 20000 in
theorem gX5_wrongWith_X5_wrong : GoodIn wsX5_wrongWith (wsV RX5 103 RX5 yX5_wrong wsX5_wrong) := goodIn_app (goodIn_of _ (by decide +kernel)) ggX5_wrongWith_X5_wrong
theorem dX5_wrongWith_0 : decode cX5_wrongWith 0 = .ok (.aload_n 0, 1) := by decide +kernel
theorem dX5_wrongWith_1 : decode cX5_wrongWith 1 = .ok (.getfield 7, 3) := by decide +kernel
theorem dX5_wrongWith_4 : decode cX5_wrongWith 4 = .ok (.iconst 0, 1) := by decide +kernel
theorem dX5_wrongWith_5 : decode cX5_wrongWith 5 = .ok (.aload_n 0, 1) := by decide +kernel
theorem dX5_wrongWith_6 : decode cX5_wrongWith 6 = .ok (.getfield 13, 3) := by decide +kernel
theorem dX5_wrongWith_9 : decode cX5_wrongWith 9 = .ok (.iconst 0, 1) := by decide +kernel
theorem dX5_wrongWith_10 : decode cX5_wrongWith 10 = .ok (.invokestatic 44, 3) := by decide +kernel
theorem dX5_wrongWith_13 : decode cX5_wrongWith 13 = .ok (.aload_n 0, 1) := by decide +kernel
theorem dX5_wrongWith_14 : decode cX5_wrongWith 14 = .ok (.iload_n 1, 1) := by decide +kernel
theorem dX5_wrongWith_15 : decode cX5_wrongWith 15 = .ok (.iload_n 2, 1) := by decide +kernel
theorem dX5_wrongWith_16 : decode cX5_wrongWith 16 = .ok (.invokevirtual 134, 3) := by decide +kernel
theorem dX5_wrongWith_19 : decode cX5_wrongWith 19 = .ok (.aload_n 0, 1) := by decide +kernel
theorem dX5_wrongWith_20 : decode cX5_wrongWith 20 = .ok (.iload_n 1, 1) := by decide +kernel
theorem dX5_wrongWith_21 : decode cX5_wrongWith 21 = .ok (.iconst 3, 1) := by decide +kernel
theorem dX5_wrongWith_22 : decode cX5_wrongWith 22 = .ok (.invokevirtual 103, 3) := by decide +kernel
theorem dX5_wrongWith_25 : decode cX5_wrongWith 25 = .ok (.istore_n 3, 1) := by decide +kernel
theorem dX5_wrongWith_26 : decode cX5_wrongWith 26 = .ok (.aload_n 0, 1) := by decide +kernel
theorem dX5_wrongWith_27 : decode cX5_wrongWith 27 = .ok (.getfield 13, 3) := by decide +kernel
theorem dX5_wrongWith_30 : decode cX5_wrongWith 30 = .ok (.iconst 0, 1) := by decide +kernel
theorem dX5_wrongWith_31 : decode cX5_wrongWith 31 = .ok (.aload_n 0, 1) := by decide +kernel
theorem dX5_wrongWith_32 : decode cX5_wrongWith 32 = .ok (.getfield 7, 3) := by decide +kernel
theorem dX5_wrongWith_35 : decode cX5_wrongWith 35 = .ok (.iconst 0, 1) := by decide +kernel
theorem dX5_wrongWith_36 : decode cX5_wrongWith 36 = .ok (.invokestatic 44, 3) := by decide +kernel
theorem dX5_wrongWith_39 : decode cX5_wrongWith 39 = .ok (.iload_n 3, 1) := by decide +kernel
theorem dX5_wrongWith_40 : decode cX5_wrongWith 40 = .ok (.ireturn, 1) := by decide +kernel
set_option maxRecDepth 20000 in
theorem ggX5_ifDone_X5_isOwner : GoodIn wsX5_ifDone wsX5_isOwner := goodIn_r _ [5, 6, 7, 8, 4, 9, 93, 94, 95, 96, 97, 98, 99, 100, 101, 102, 103, 104, 105] (by decide +kernel) (by decide +kernel)
set_option maxRecDepth 20000 in
theorem gX5_ifDone_X5_isOwner : GoodIn wsX5_ifDone (wsV RX5 123 RX5 yX5_isOwner wsX5_isOwner) := goodIn_app (goodIn_of _ (by decide +kernel)) ggX5_ifDone_X5_isOwner
set_option maxRecDepth 20000 in
theorem ggX5_ifDone_X5_isParcel : GoodIn wsX5_ifDone wsX5_isParcel := goodIn_r _ [13, 6, 7, 8, 4, 9, 93, 94, 95, 96, 97, 98, 99, 100, 101, 102, 103, 104, 105] (by decide +kernel) (by decide +kernel)
set_option maxRecDepth 20000 in
theorem gX5_ifDone_X5_isParcel : GoodIn wsX5_ifDone (wsV RX5 127 RX5 yX5_isParcel wsX5_isParcel) := goodIn_app (goodIn_of _ (by decide +kernel)) ggX5_ifDone_X5_isParcel
set_option maxRecDepth 20000 in
theorem ggX5_ifDone_X5_wrongWith : GoodIn wsX5_ifDone wsX5_wrongWith := goodIn_r _ [17, 6, 18, 19, 20, 4, 21, 22, 23, 24, 25, 26, 27, 28, 29, 30, 31, 32, 33, 34, 35, 36, 37, 38, 39, 40, 41, 42, 43, 44, 45, 46, 47, 48, 49, 50, 51, 52, 53, 54, 55, 56, 57, 58, 59, 60, 61, 62, 63, 64, 65, 66, 67, 68, 69, 70, 71, 72, 73, 74, 75, 76, 77, 78, 79, 80, 81, 82, 83, 84, 85, 86, 87, 88, 89, 90, 91, 92, 93, 94, 95, 96, 97, 98, 99, 100, 101, 102, 103, 104, 105] (by decide +kernel) (by decide +kernel)
set_option maxRecDepth 20000 in
theorem gX5_ifDone_X5_wrongWith : GoodIn wsX5_ifDone (wsV RX5 169 RX5 yX5_wrongWith wsX5_wrongWith) := goodIn_app (goodIn_of _ (by decide +kernel)) ggX5_ifDone_X5_wrongWith
theorem dX5_ifDone_0 : decode cX5_ifDone 0 = .ok (.aload_n 0, 1) := by decide +kernel
theorem dX5_ifDone_1 : decode cX5_ifDone 1 = .ok (.iload_n 1, 1) := by decide +kernel
theorem dX5_ifDone_2 : decode cX5_ifDone 2 = .ok (.invokevirtual 123, 3) := by decide +kernel
theorem dX5_ifDone_5 : decode cX5_ifDone 5 = .ok (.ifCond .eq 22, 3) := by decide +kernel
theorem dX5_ifDone_8 : decode cX5_ifDone 8 = .ok (.aload_n 0, 1) := by decide +kernel
theorem dX5_ifDone_9 : decode cX5_ifDone 9 = .ok (.iload_n 2, 1) := by decide +kernel
theorem dX5_ifDone_10 : decode cX5_ifDone 10 = .ok (.invokevirtual 127, 3) := by decide +kernel
theorem dX5_ifDone_13 : decode cX5_ifDone 13 = .ok (.ifCond .eq 14, 3) := by decide +kernel
theorem dX5_ifDone_16 : decode cX5_ifDone 16 = .ok (.aload_n 0, 1) := by decide +kernel
theorem dX5_ifDone_17 : decode cX5_ifDone 17 = .ok (.iload_n 1, 1) := by decide +kernel
theorem dX5_ifDone_18 : decode cX5_ifDone 18 = .ok (.iconst 1, 1) := by decide +kernel
theorem dX5_ifDone_19 : decode cX5_ifDone 19 = .ok (.iload_n 2, 1) := by decide +kernel
theorem dX5_ifDone_20 : decode cX5_ifDone 20 = .ok (.ishl, 1) := by decide +kernel
theorem dX5_ifDone_21 : decode cX5_ifDone 21 = .ok (.invokevirtual 169, 3) := by decide +kernel
theorem dX5_ifDone_24 : decode cX5_ifDone 24 = .ok (.goto 4, 3) := by decide +kernel
theorem dX5_ifDone_27 : decode cX5_ifDone 27 = .ok (.iconst (-1), 1) := by decide +kernel
theorem dX5_ifDone_28 : decode cX5_ifDone 28 = .ok (.ireturn, 1) := by decide +kernel
set_option maxRecDepth 20000 in
theorem ggX5_ifAllDone_X5_isOwner : GoodIn wsX5_ifAllDone wsX5_isOwner := goodIn_r _ [5, 6, 7, 8, 4, 9, 89, 90, 91, 92, 93, 94, 95, 96, 97, 98, 99, 100, 101] (by decide +kernel) (by decide +kernel)
set_option maxRecDepth 20000 in
theorem gX5_ifAllDone_X5_isOwner : GoodIn wsX5_ifAllDone (wsV RX5 123 RX5 yX5_isOwner wsX5_isOwner) := goodIn_app (goodIn_of _ (by decide +kernel)) ggX5_ifAllDone_X5_isOwner
set_option maxRecDepth 20000 in
theorem ggX5_ifAllDone_X5_part : GoodIn wsX5_ifAllDone wsX5_part := goodIn_r _ [13, 6, 89, 90, 91, 92, 93, 94, 95, 96, 97, 98, 99, 100, 101] (by decide +kernel) (by decide +kernel)
set_option maxRecDepth 20000 in
theorem gX5_ifAllDone_X5_part : GoodIn wsX5_ifAllDone (wsV RX5 52 RX5 yX5_part wsX5_part) := goodIn_app (goodIn_of _ (by decide +kernel)) ggX5_ifAllDone_X5_part
set_option maxRecDepth 20000 in
theorem ggX5_ifAllDone_X5_wrongWith : GoodIn wsX5_ifAllDone wsX5_wrongWith := goodIn_r _ [17, 6, 18, 19, 20, 4, 21, 22, 23, 24, 25, 26, 27, 28, 29, 30, 31, 32, 33, 34, 35, 36, 37, 10, 11, 12, 13, 38, 39, 40, 41, 42, 43, 44, 45, 46, 47, 48, 49, 50, 51, 52, 53, 54, 55, 56, 57, 58, 59, 60, 61, 62, 63, 64, 65, 66, 67, 68, 69, 70, 71, 72, 73, 74, 75, 76, 77, 78, 79, 80, 81, 82, 83, 84, 85, 86, 87, 88, 89, 90, 91, 92, 93, 94, 95, 96, 97, 98, 99, 100, 101] (by decide +kernel) (by decide +kernel)
set_option maxRecDepth 20000 in
theorem gX5_ifAllDone_X5_wrongWith : GoodIn wsX5_ifAllDone (wsV RX5 169 RX5 yX5_wrongWith wsX5_wrongWith) := goodIn_app (goodIn_of _ (by decide +kernel)) ggX5_ifAllDone_X5_wrongWith
theorem dX5_ifAllDone_0 : decode cX5_ifAllDone 0 = .ok (.aload_n 0, 1) := by decide +kernel
theorem dX5_ifAllDone_1 : decode cX5_ifAllDone 1 = .ok (.iload_n 1, 1) := by decide +kernel
theorem dX5_ifAllDone_2 : decode cX5_ifAllDone 2 = .ok (.invokevirtual 123, 3) := by decide +kernel
theorem dX5_ifAllDone_5 : decode cX5_ifAllDone 5 = .ok (.ifCond .eq 17, 3) := by decide +kernel
theorem dX5_ifAllDone_8 : decode cX5_ifAllDone 8 = .ok (.aload_n 0, 1) := by decide +kernel
theorem dX5_ifAllDone_9 : decode cX5_ifAllDone 9 = .ok (.iload_n 1, 1) := by decide +kernel
theorem dX5_ifAllDone_10 : decode cX5_ifAllDone 10 = .ok (.aload_n 0, 1) := by decide +kernel
theorem dX5_ifAllDone_11 : decode cX5_ifAllDone 11 = .ok (.iload_n 1, 1) := by decide +kernel
theorem dX5_ifAllDone_12 : decode cX5_ifAllDone 12 = .ok (.iconst 1, 1) := by decide +kernel
theorem dX5_ifAllDone_13 : decode cX5_ifAllDone 13 = .ok (.invokevirtual 52, 3) := by decide +kernel
theorem dX5_ifAllDone_16 : decode cX5_ifAllDone 16 = .ok (.invokevirtual 169, 3) := by decide +kernel
theorem dX5_ifAllDone_19 : decode cX5_ifAllDone 19 = .ok (.goto 4, 3) := by decide +kernel
theorem dX5_ifAllDone_22 : decode cX5_ifAllDone 22 = .ok (.iconst (-1), 1) := by decide +kernel
theorem dX5_ifAllDone_23 : decode cX5_ifAllDone 23 = .ok (.ireturn, 1) := by decide +kernel
set_option maxRecDepth 20000 in
theorem ggX5_mendingOf_X5_bits : GoodIn wsX5_mendingOf wsX5_bits := goodIn_r _ [5] (by decide +kernel) (by decide +kernel)
set_option maxRecDepth 20000 in
theorem gX5_mendingOf_X5_bits : GoodIn wsX5_mendingOf (va_wsS RX5 137 yX5_bits wsX5_bits) := goodIn_app (goodIn_of _ (by decide +kernel)) ggX5_mendingOf_X5_bits
set_option maxRecDepth 20000 in
theorem ggX5_mendingOf_X5_wrongWith : GoodIn wsX5_mendingOf wsX5_wrongWith := goodIn_r _ [9, 1, 10, 11, 12, 4, 13, 14, 15, 16, 17, 18, 19, 20, 21, 22, 23, 24, 25, 26, 27, 28, 29, 30, 31, 32, 33, 34, 35, 36, 37, 38, 39, 40, 41, 42, 43, 44, 45, 46, 47, 48, 49, 50, 51, 52, 53, 54, 55, 56, 57, 58, 59, 60, 61, 62, 63, 64, 65, 66, 67, 68, 69, 70, 71, 72, 73, 74, 75, 76, 77, 78, 79, 80, 81, 82, 83, 84, 85, 86, 87, 88, 89, 90, 91, 92, 93, 94, 95, 96, 97] (by decide +kernel) (by decide +kernel)
set_option maxRecDepth 20000 in
theorem gX5_mendingOf_X5_wrongWith : GoodIn wsX5_mendingOf (wsV RX5 169 RX5 yX5_wrongWith wsX5_wrongWith) := goodIn_app (goodIn_of _ (by decide +kernel)) ggX5_mendingOf_X5_wrongWith
theorem dX5_mendingOf_0 : decode cX5_mendingOf 0 = .ok (.iconst 0, 1) := by decide +kernel
theorem dX5_mendingOf_1 : decode cX5_mendingOf 1 = .ok (.istore_n 3, 1) := by decide +kernel
theorem dX5_mendingOf_2 : decode cX5_mendingOf 2 = .ok (.iload_n 3, 1) := by decide +kernel
theorem dX5_mendingOf_3 : decode cX5_mendingOf 3 = .ok (.iconst 1, 1) := by decide +kernel
theorem dX5_mendingOf_4 : decode cX5_mendingOf 4 = .ok (.aload_n 0, 1) := by decide +kernel
theorem dX5_mendingOf_5 : decode cX5_mendingOf 5 = .ok (.getfield 7, 3) := by decide +kernel
theorem dX5_mendingOf_8 : decode cX5_mendingOf 8 = .ok (.iconst 0, 1) := by decide +kernel
theorem dX5_mendingOf_9 : decode cX5_mendingOf 9 = .ok (.iaload, 1) := by decide +kernel
theorem dX5_mendingOf_10 : decode cX5_mendingOf 10 = .ok (.ishl, 1) := by decide +kernel
theorem dX5_mendingOf_11 : decode cX5_mendingOf 11 = .ok (.if_icmp .ge 28, 3) := by decide +kernel
theorem dX5_mendingOf_14 : decode cX5_mendingOf 14 = .ok (.iload_n 3, 1) := by decide +kernel
theorem dX5_mendingOf_15 : decode cX5_mendingOf 15 = .ok (.invokestatic 137, 3) := by decide +kernel
theorem dX5_mendingOf_18 : decode cX5_mendingOf 18 = .ok (.iload_n 2, 1) := by decide +kernel
theorem dX5_mendingOf_19 : decode cX5_mendingOf 19 = .ok (.if_icmp .ne 14, 3) := by decide +kernel
theorem dX5_mendingOf_22 : decode cX5_mendingOf 22 = .ok (.aload_n 0, 1) := by decide +kernel
theorem dX5_mendingOf_23 : decode cX5_mendingOf 23 = .ok (.iload_n 1, 1) := by decide +kernel
theorem dX5_mendingOf_24 : decode cX5_mendingOf 24 = .ok (.iload_n 3, 1) := by decide +kernel
theorem dX5_mendingOf_25 : decode cX5_mendingOf 25 = .ok (.invokevirtual 169, 3) := by decide +kernel
theorem dX5_mendingOf_28 : decode cX5_mendingOf 28 = .ok (.ifCond .ne 5, 3) := by decide +kernel
theorem dX5_mendingOf_31 : decode cX5_mendingOf 31 = .ok (.iload_n 3, 1) := by decide +kernel
theorem dX5_mendingOf_32 : decode cX5_mendingOf 32 = .ok (.ireturn, 1) := by decide +kernel
theorem dX5_mendingOf_33 : decode cX5_mendingOf 33 = .ok (.iinc 3 1, 3) := by decide +kernel
theorem dX5_mendingOf_36 : decode cX5_mendingOf 36 = .ok (.goto (-34), 3) := by decide +kernel
theorem dX5_mendingOf_39 : decode cX5_mendingOf 39 = .ok (.bipush (-6), 2) := by decide +kernel
theorem dX5_mendingOf_41 : decode cX5_mendingOf 41 = .ok (.ireturn, 1) := by decide +kernel
set_option maxRecDepth 20000 in
theorem ggX5_mending_X5_isOwner : GoodIn wsX5_mending wsX5_isOwner := goodIn_r _ [5, 6, 7, 8, 4, 9, 96, 97, 98, 99, 100, 101, 102, 103, 104, 105, 106, 107, 108] (by decide +kernel) (by decide +kernel)
set_option maxRecDepth 20000 in
theorem gX5_mending_X5_isOwner : GoodIn wsX5_mending (wsV RX5 123 RX5 yX5_isOwner wsX5_isOwner) := goodIn_app (goodIn_of _ (by decide +kernel)) ggX5_mending_X5_isOwner
set_option maxRecDepth 20000 in
theorem ggX5_mending_X5_mendingOf : GoodIn wsX5_mending wsX5_mendingOf := goodIn_r _ [13, 6, 14, 15, 4, 16, 17, 18, 19, 20, 21, 22, 23, 24, 25, 26, 27, 28, 29, 30, 31, 32, 33, 34, 35, 36, 37, 38, 39, 40, 41, 42, 43, 44, 45, 46, 47, 48, 49, 50, 51, 52, 53, 54, 55, 56, 57, 58, 59, 60, 61, 62, 63, 64, 65, 66, 67, 68, 69, 70, 71, 72, 73, 74, 75, 76, 77, 78, 79, 80, 81, 82, 83, 84, 85, 86, 87, 88, 89, 90, 91, 92, 93, 94, 95, 96, 97, 98, 99, 100, 101, 102, 103, 104, 105, 106, 107, 108] (by decide +kernel) (by decide +kernel)
set_option maxRecDepth 20000 in
theorem gX5_mending_X5_mendingOf : GoodIn wsX5_mending (wsV RX5 172 RX5 yX5_mendingOf wsX5_mendingOf) := goodIn_app (goodIn_of _ (by decide +kernel)) ggX5_mending_X5_mendingOf
theorem dX5_mending_0 : decode cX5_mending 0 = .ok (.aload_n 0, 1) := by decide +kernel
theorem dX5_mending_1 : decode cX5_mending 1 = .ok (.iload_n 1, 1) := by decide +kernel
theorem dX5_mending_2 : decode cX5_mending 2 = .ok (.invokevirtual 123, 3) := by decide +kernel
theorem dX5_mending_5 : decode cX5_mending 5 = .ok (.ifCond .ne 5, 3) := by decide +kernel
theorem dX5_mending_8 : decode cX5_mending 8 = .ok (.iconst (-1), 1) := by decide +kernel
theorem dX5_mending_9 : decode cX5_mending 9 = .ok (.ireturn, 1) := by decide +kernel
theorem dX5_mending_10 : decode cX5_mending 10 = .ok (.bipush (-6), 2) := by decide +kernel
theorem dX5_mending_12 : decode cX5_mending 12 = .ok (.istore_n 2, 1) := by decide +kernel
theorem dX5_mending_13 : decode cX5_mending 13 = .ok (.iconst 0, 1) := by decide +kernel
theorem dX5_mending_14 : decode cX5_mending 14 = .ok (.istore_n 3, 1) := by decide +kernel
theorem dX5_mending_15 : decode cX5_mending 15 = .ok (.iload_n 3, 1) := by decide +kernel
theorem dX5_mending_16 : decode cX5_mending 16 = .ok (.iconst 3, 1) := by decide +kernel
theorem dX5_mending_17 : decode cX5_mending 17 = .ok (.if_icmp .gt 22, 3) := by decide +kernel
theorem dX5_mending_20 : decode cX5_mending 20 = .ok (.iload_n 2, 1) := by decide +kernel
theorem dX5_mending_21 : decode cX5_mending 21 = .ok (.bipush (-6), 2) := by decide +kernel
theorem dX5_mending_23 : decode cX5_mending 23 = .ok (.if_icmp .ne 16, 3) := by decide +kernel
theorem dX5_mending_26 : decode cX5_mending 26 = .ok (.aload_n 0, 1) := by decide +kernel
theorem dX5_mending_27 : decode cX5_mending 27 = .ok (.iload_n 1, 1) := by decide +kernel
theorem dX5_mending_28 : decode cX5_mending 28 = .ok (.iload_n 3, 1) := by decide +kernel
theorem dX5_mending_29 : decode cX5_mending 29 = .ok (.invokevirtual 172, 3) := by decide +kernel
theorem dX5_mending_32 : decode cX5_mending 32 = .ok (.istore_n 2, 1) := by decide +kernel
theorem dX5_mending_33 : decode cX5_mending 33 = .ok (.iinc 3 1, 3) := by decide +kernel
theorem dX5_mending_36 : decode cX5_mending 36 = .ok (.goto (-21), 3) := by decide +kernel
theorem dX5_mending_39 : decode cX5_mending 39 = .ok (.iload_n 2, 1) := by decide +kernel
theorem dX5_mending_40 : decode cX5_mending 40 = .ok (.ireturn, 1) := by decide +kernel
set_option maxRecDepth 20000 in
theorem ggX5_rightFrom_X5_isOwner : GoodIn wsX5_rightFrom wsX5_isOwner := goodIn_r _ [6, 1, 7, 8, 5, 9, 89, 90, 91, 92, 93, 94, 95, 96, 97, 98, 99, 100, 101] (by decide +kernel) (by decide +kernel)
set_option maxRecDepth 20000 in
theorem gX5_rightFrom_X5_isOwner : GoodIn wsX5_rightFrom (wsV RX5 123 RX5 yX5_isOwner wsX5_isOwner) := goodIn_app (goodIn_of _ (by decide +kernel)) ggX5_rightFrom_X5_isOwner
set_option maxRecDepth 20000 in
theorem ggX5_rightFrom_X5_wrongWith : GoodIn wsX5_rightFrom wsX5_wrongWith := goodIn_r _ [13, 1, 14, 15, 16, 5, 17, 18, 19, 20, 21, 22, 23, 24, 25, 26, 27, 28, 29, 30, 31, 32, 33, 34, 35, 36, 37, 38, 39, 40, 41, 42, 43, 44, 45, 46, 47, 48, 49, 50, 51, 52, 53, 54, 55, 56, 57, 58, 59, 60, 61, 62, 63, 64, 65, 66, 67, 68, 69, 70, 71, 72, 73, 74, 75, 76, 77, 78, 79, 80, 81, 82, 83, 84, 85, 86, 87, 88, 89, 90, 91, 92, 93, 94, 95, 96, 97, 98, 99, 100, 101] (by decide +kernel) (by decide +kernel)
set_option maxRecDepth 20000 in
theorem gX5_rightFrom_X5_wrongWith : GoodIn wsX5_rightFrom (wsV RX5 169 RX5 yX5_wrongWith wsX5_wrongWith) := goodIn_app (goodIn_of _ (by decide +kernel)) ggX5_rightFrom_X5_wrongWith
theorem dX5_rightFrom_0 : decode cX5_rightFrom 0 = .ok (.aload_n 0, 1) := by decide +kernel
theorem dX5_rightFrom_1 : decode cX5_rightFrom 1 = .ok (.iload_n 1, 1) := by decide +kernel
theorem dX5_rightFrom_2 : decode cX5_rightFrom 2 = .ok (.invokevirtual 123, 3) := by decide +kernel
theorem dX5_rightFrom_5 : decode cX5_rightFrom 5 = .ok (.ifCond .ne 5, 3) := by decide +kernel
theorem dX5_rightFrom_8 : decode cX5_rightFrom 8 = .ok (.iconst (-1), 1) := by decide +kernel
theorem dX5_rightFrom_9 : decode cX5_rightFrom 9 = .ok (.ireturn, 1) := by decide +kernel
theorem dX5_rightFrom_10 : decode cX5_rightFrom 10 = .ok (.iconst 1, 1) := by decide +kernel
theorem dX5_rightFrom_11 : decode cX5_rightFrom 11 = .ok (.aload_n 0, 1) := by decide +kernel
theorem dX5_rightFrom_12 : decode cX5_rightFrom 12 = .ok (.getfield 7, 3) := by decide +kernel
theorem dX5_rightFrom_15 : decode cX5_rightFrom 15 = .ok (.iconst 0, 1) := by decide +kernel
theorem dX5_rightFrom_16 : decode cX5_rightFrom 16 = .ok (.iaload, 1) := by decide +kernel
theorem dX5_rightFrom_17 : decode cX5_rightFrom 17 = .ok (.ishl, 1) := by decide +kernel
theorem dX5_rightFrom_18 : decode cX5_rightFrom 18 = .ok (.iconst 1, 1) := by decide +kernel
theorem dX5_rightFrom_19 : decode cX5_rightFrom 19 = .ok (.isub, 1) := by decide +kernel
theorem dX5_rightFrom_20 : decode cX5_rightFrom 20 = .ok (.istore_n 2, 1) := by decide +kernel
theorem dX5_rightFrom_21 : decode cX5_rightFrom 21 = .ok (.aload_n 0, 1) := by decide +kernel
theorem dX5_rightFrom_22 : decode cX5_rightFrom 22 = .ok (.getfield 7, 3) := by decide +kernel
theorem dX5_rightFrom_25 : decode cX5_rightFrom 25 = .ok (.iconst 0, 1) := by decide +kernel
theorem dX5_rightFrom_26 : decode cX5_rightFrom 26 = .ok (.iaload, 1) := by decide +kernel
theorem dX5_rightFrom_27 : decode cX5_rightFrom 27 = .ok (.istore_n 3, 1) := by decide +kernel
theorem dX5_rightFrom_28 : decode cX5_rightFrom 28 = .ok (.iload_n 3, 1) := by decide +kernel
theorem dX5_rightFrom_29 : decode cX5_rightFrom 29 = .ok (.ifCond .lt 28, 3) := by decide +kernel
theorem dX5_rightFrom_32 : decode cX5_rightFrom 32 = .ok (.aload_n 0, 1) := by decide +kernel
theorem dX5_rightFrom_33 : decode cX5_rightFrom 33 = .ok (.iload_n 1, 1) := by decide +kernel
theorem dX5_rightFrom_34 : decode cX5_rightFrom 34 = .ok (.iload_n 2, 1) := by decide +kernel
theorem dX5_rightFrom_35 : decode cX5_rightFrom 35 = .ok (.iconst 1, 1) := by decide +kernel
theorem dX5_rightFrom_36 : decode cX5_rightFrom 36 = .ok (.iload_n 3, 1) := by decide +kernel
theorem dX5_rightFrom_37 : decode cX5_rightFrom 37 = .ok (.ishl, 1) := by decide +kernel
theorem dX5_rightFrom_38 : decode cX5_rightFrom 38 = .ok (.iconst 1, 1) := by decide +kernel
theorem dX5_rightFrom_39 : decode cX5_rightFrom 39 = .ok (.isub, 1) := by decide +kernel
theorem dX5_rightFrom_40 : decode cX5_rightFrom 40 = .ok (.iconst (-1), 1) := by decide +kernel
theorem dX5_rightFrom_41 : decode cX5_rightFrom 41 = .ok (.ixor, 1) := by decide +kernel
theorem dX5_rightFrom_42 : decode cX5_rightFrom 42 = .ok (.iand, 1) := by decide +kernel
theorem dX5_rightFrom_43 : decode cX5_rightFrom 43 = .ok (.invokevirtual 169, 3) := by decide +kernel
theorem dX5_rightFrom_46 : decode cX5_rightFrom 46 = .ok (.ifCond .ne 5, 3) := by decide +kernel
theorem dX5_rightFrom_49 : decode cX5_rightFrom 49 = .ok (.iload_n 3, 1) := by decide +kernel
theorem dX5_rightFrom_50 : decode cX5_rightFrom 50 = .ok (.ireturn, 1) := by decide +kernel
theorem dX5_rightFrom_51 : decode cX5_rightFrom 51 = .ok (.iinc 3 (-1), 3) := by decide +kernel
theorem dX5_rightFrom_54 : decode cX5_rightFrom 54 = .ok (.goto (-26), 3) := by decide +kernel
theorem dX5_rightFrom_57 : decode cX5_rightFrom 57 = .ok (.bipush (-6), 2) := by decide +kernel
theorem dX5_rightFrom_59 : decode cX5_rightFrom 59 = .ok (.ireturn, 1) := by decide +kernel
set_option maxRecDepth 20000 in
theorem ggX5_put_X5_within : GoodIn wsX5_put wsX5_within := goodIn_r _ [7] (by decide +kernel) (by decide +kernel)
set_option maxRecDepth 20000 in
theorem gX5_put_X5_within : GoodIn wsX5_put (va_wsS RX5 48 yX5_within wsX5_within) := goodIn_app (goodIn_of _ (by decide +kernel)) ggX5_put_X5_within
theorem dX5_put_0 : decode cX5_put 0 = .ok (.iconst 0, 1) := by decide +kernel
theorem dX5_put_1 : decode cX5_put 1 = .ok (.istore_n 3, 1) := by decide +kernel
theorem dX5_put_2 : decode cX5_put 2 = .ok (.lload_n 1, 1) := by decide +kernel
theorem dX5_put_3 : decode cX5_put 3 = .ok (.lstore 4, 2) := by decide +kernel
theorem dX5_put_5 : decode cX5_put 5 = .ok (.iconst 1, 1) := by decide +kernel
theorem dX5_put_6 : decode cX5_put 6 = .ok (.istore 6, 2) := by decide +kernel
theorem dX5_put_8 : decode cX5_put 8 = .ok (.iload_n 3, 1) := by decide +kernel
theorem dX5_put_9 : decode cX5_put 9 = .ok (.bipush 8, 2) := by decide +kernel
theorem dX5_put_11 : decode cX5_put 11 = .ok (.if_icmp .ge 56, 3) := by decide +kernel
theorem dX5_put_14 : decode cX5_put 14 = .ok (.lload 4, 2) := by decide +kernel
theorem dX5_put_16 : decode cX5_put 16 = .ok (.ldc2_w 175, 3) := by decide +kernel
theorem dX5_put_19 : decode cX5_put 19 = .ok (.land, 1) := by decide +kernel
theorem dX5_put_20 : decode cX5_put 20 = .ok (.lconst 0, 1) := by decide +kernel
theorem dX5_put_21 : decode cX5_put 21 = .ok (.lcmp, 1) := by decide +kernel
theorem dX5_put_22 : decode cX5_put 22 = .ok (.ifCond .eq 45, 3) := by decide +kernel
theorem dX5_put_25 : decode cX5_put 25 = .ok (.iload 6, 2) := by decide +kernel
theorem dX5_put_27 : decode cX5_put 27 = .ok (.ifCond .eq 24, 3) := by decide +kernel
theorem dX5_put_30 : decode cX5_put 30 = .ok (.lload 4, 2) := by decide +kernel
theorem dX5_put_32 : decode cX5_put 32 = .ok (.ldc2_w 175, 3) := by decide +kernel
theorem dX5_put_35 : decode cX5_put 35 = .ok (.land, 1) := by decide +kernel
theorem dX5_put_36 : decode cX5_put 36 = .ok (.l2i, 1) := by decide +kernel
theorem dX5_put_37 : decode cX5_put 37 = .ok (.bipush 33, 2) := by decide +kernel
theorem dX5_put_39 : decode cX5_put 39 = .ok (.bipush 126, 2) := by decide +kernel
theorem dX5_put_41 : decode cX5_put 41 = .ok (.invokestatic 48, 3) := by decide +kernel
theorem dX5_put_44 : decode cX5_put 44 = .ok (.ifCond .eq 7, 3) := by decide +kernel
theorem dX5_put_47 : decode cX5_put 47 = .ok (.iconst 1, 1) := by decide +kernel
theorem dX5_put_48 : decode cX5_put 48 = .ok (.goto 4, 3) := by decide +kernel
theorem dX5_put_51 : decode cX5_put 51 = .ok (.iconst 0, 1) := by decide +kernel
theorem dX5_put_52 : decode cX5_put 52 = .ok (.istore 6, 2) := by decide +kernel
theorem dX5_put_54 : decode cX5_put 54 = .ok (.lload 4, 2) := by decide +kernel
theorem dX5_put_56 : decode cX5_put 56 = .ok (.bipush 8, 2) := by decide +kernel
theorem dX5_put_58 : decode cX5_put 58 = .ok (.lushr, 1) := by decide +kernel
theorem dX5_put_59 : decode cX5_put 59 = .ok (.lstore 4, 2) := by decide +kernel
theorem dX5_put_61 : decode cX5_put 61 = .ok (.iinc 3 1, 3) := by decide +kernel
theorem dX5_put_64 : decode cX5_put 64 = .ok (.goto (-56), 3) := by decide +kernel
theorem dX5_put_67 : decode cX5_put 67 = .ok (.iload_n 3, 1) := by decide +kernel
theorem dX5_put_68 : decode cX5_put 68 = .ok (.ifCond .eq 15, 3) := by decide +kernel
theorem dX5_put_71 : decode cX5_put 71 = .ok (.iload 6, 2) := by decide +kernel
theorem dX5_put_73 : decode cX5_put 73 = .ok (.ifCond .eq 10, 3) := by decide +kernel
theorem dX5_put_76 : decode cX5_put 76 = .ok (.lload 4, 2) := by decide +kernel
theorem dX5_put_78 : decode cX5_put 78 = .ok (.lconst 0, 1) := by decide +kernel
theorem dX5_put_79 : decode cX5_put 79 = .ok (.lcmp, 1) := by decide +kernel
theorem dX5_put_80 : decode cX5_put 80 = .ok (.ifCond .eq 6, 3) := by decide +kernel
theorem dX5_put_83 : decode cX5_put 83 = .ok (.bipush (-2), 2) := by decide +kernel
theorem dX5_put_85 : decode cX5_put 85 = .ok (.ireturn, 1) := by decide +kernel
theorem dX5_put_86 : decode cX5_put 86 = .ok (.aload_n 0, 1) := by decide +kernel
theorem dX5_put_87 : decode cX5_put 87 = .ok (.getfield 120, 3) := by decide +kernel
theorem dX5_put_90 : decode cX5_put 90 = .ok (.iload_n 3, 1) := by decide +kernel
theorem dX5_put_91 : decode cX5_put 91 = .ok (.iadd, 1) := by decide +kernel
theorem dX5_put_92 : decode cX5_put 92 = .ok (.bipush 48, 2) := by decide +kernel
theorem dX5_put_94 : decode cX5_put 94 = .ok (.if_icmp .le 6, 3) := by decide +kernel
theorem dX5_put_97 : decode cX5_put 97 = .ok (.bipush (-4), 2) := by decide +kernel
theorem dX5_put_99 : decode cX5_put 99 = .ok (.ireturn, 1) := by decide +kernel
theorem dX5_put_100 : decode cX5_put 100 = .ok (.iload_n 3, 1) := by decide +kernel
theorem dX5_put_101 : decode cX5_put 101 = .ok (.iconst 1, 1) := by decide +kernel
theorem dX5_put_102 : decode cX5_put 102 = .ok (.isub, 1) := by decide +kernel
theorem dX5_put_103 : decode cX5_put 103 = .ok (.istore 7, 2) := by decide +kernel
theorem dX5_put_105 : decode cX5_put 105 = .ok (.iload 7, 2) := by decide +kernel
theorem dX5_put_107 : decode cX5_put 107 = .ok (.ifCond .lt 40, 3) := by decide +kernel
theorem dX5_put_110 : decode cX5_put 110 = .ok (.aload_n 0, 1) := by decide +kernel
theorem dX5_put_111 : decode cX5_put 111 = .ok (.getfield 25, 3) := by decide +kernel
theorem dX5_put_114 : decode cX5_put 114 = .ok (.aload_n 0, 1) := by decide +kernel
theorem dX5_put_115 : decode cX5_put 115 = .ok (.getfield 120, 3) := by decide +kernel
theorem dX5_put_118 : decode cX5_put 118 = .ok (.lload_n 1, 1) := by decide +kernel
theorem dX5_put_119 : decode cX5_put 119 = .ok (.bipush 8, 2) := by decide +kernel
theorem dX5_put_121 : decode cX5_put 121 = .ok (.iload 7, 2) := by decide +kernel
theorem dX5_put_123 : decode cX5_put 123 = .ok (.imul, 1) := by decide +kernel
theorem dX5_put_124 : decode cX5_put 124 = .ok (.lushr, 1) := by decide +kernel
theorem dX5_put_125 : decode cX5_put 125 = .ok (.ldc2_w 175, 3) := by decide +kernel
theorem dX5_put_128 : decode cX5_put 128 = .ok (.land, 1) := by decide +kernel
theorem dX5_put_129 : decode cX5_put 129 = .ok (.l2i, 1) := by decide +kernel
theorem dX5_put_130 : decode cX5_put 130 = .ok (.iastore, 1) := by decide +kernel
theorem dX5_put_131 : decode cX5_put 131 = .ok (.aload_n 0, 1) := by decide +kernel
theorem dX5_put_132 : decode cX5_put 132 = .ok (.dup, 1) := by decide +kernel
theorem dX5_put_133 : decode cX5_put 133 = .ok (.getfield 120, 3) := by decide +kernel
theorem dX5_put_136 : decode cX5_put 136 = .ok (.iconst 1, 1) := by decide +kernel
theorem dX5_put_137 : decode cX5_put 137 = .ok (.iadd, 1) := by decide +kernel
theorem dX5_put_138 : decode cX5_put 138 = .ok (.putfield 120, 3) := by decide +kernel
theorem dX5_put_141 : decode cX5_put 141 = .ok (.iinc 7 (-1), 3) := by decide +kernel
theorem dX5_put_144 : decode cX5_put 144 = .ok (.goto (-39), 3) := by decide +kernel
theorem dX5_put_147 : decode cX5_put 147 = .ok (.aload_n 0, 1) := by decide +kernel
theorem dX5_put_148 : decode cX5_put 148 = .ok (.getfield 120, 3) := by decide +kernel
theorem dX5_put_151 : decode cX5_put 151 = .ok (.ireturn, 1) := by decide +kernel
theorem dX5_wipe_0 : decode cX5_wipe 0 = .ok (.aload_n 0, 1) := by decide +kernel
theorem dX5_wipe_1 : decode cX5_wipe 1 = .ok (.getfield 120, 3) := by decide +kernel
theorem dX5_wipe_4 : decode cX5_wipe 4 = .ok (.istore_n 1, 1) := by decide +kernel
theorem dX5_wipe_5 : decode cX5_wipe 5 = .ok (.aload_n 0, 1) := by decide +kernel
theorem dX5_wipe_6 : decode cX5_wipe 6 = .ok (.iconst 0, 1) := by decide +kernel
theorem dX5_wipe_7 : decode cX5_wipe 7 = .ok (.putfield 120, 3) := by decide +kernel
theorem dX5_wipe_10 : decode cX5_wipe 10 = .ok (.iload_n 1, 1) := by decide +kernel
theorem dX5_wipe_11 : decode cX5_wipe 11 = .ok (.ireturn, 1) := by decide +kernel
set_option maxRecDepth 20000 in
theorem ggX5_canStand_X5_within : GoodIn wsX5_canStand wsX5_within := goodIn_r _ [4] (by decide +kernel) (by decide +kernel)
set_option maxRecDepth 20000 in
theorem gX5_canStand_X5_within : GoodIn wsX5_canStand (va_wsS RX5 48 yX5_within wsX5_within) := goodIn_app (goodIn_of _ (by decide +kernel)) ggX5_canStand_X5_within
theorem dX5_canStand_0 : decode cX5_canStand 0 = .ok (.iload_n 0, 1) := by decide +kernel
theorem dX5_canStand_1 : decode cX5_canStand 1 = .ok (.iconst 5, 1) := by decide +kernel
theorem dX5_canStand_2 : decode cX5_canStand 2 = .ok (.irem, 1) := by decide +kernel
theorem dX5_canStand_3 : decode cX5_canStand 3 = .ok (.tableswitch 83 0 3 #[29, 53, 62, 74], 29) := by decide +kernel
theorem dX5_canStand_32 : decode cX5_canStand 32 = .ok (.iload_n 0, 1) := by decide +kernel
theorem dX5_canStand_33 : decode cX5_canStand 33 = .ok (.bipush 40, 2) := by decide +kernel
theorem dX5_canStand_35 : decode cX5_canStand 35 = .ok (.if_icmp .ge 19, 3) := by decide +kernel
theorem dX5_canStand_38 : decode cX5_canStand 38 = .ok (.iload_n 1, 1) := by decide +kernel
theorem dX5_canStand_39 : decode cX5_canStand 39 = .ok (.bipush 43, 2) := by decide +kernel
theorem dX5_canStand_41 : decode cX5_canStand 41 = .ok (.if_icmp .eq 9, 3) := by decide +kernel
theorem dX5_canStand_44 : decode cX5_canStand 44 = .ok (.iload_n 1, 1) := by decide +kernel
theorem dX5_canStand_45 : decode cX5_canStand 45 = .ok (.bipush 45, 2) := by decide +kernel
theorem dX5_canStand_47 : decode cX5_canStand 47 = .ok (.if_icmp .ne 7, 3) := by decide +kernel
theorem dX5_canStand_50 : decode cX5_canStand 50 = .ok (.iconst 1, 1) := by decide +kernel
theorem dX5_canStand_51 : decode cX5_canStand 51 = .ok (.goto 4, 3) := by decide +kernel
theorem dX5_canStand_54 : decode cX5_canStand 54 = .ok (.iconst 0, 1) := by decide +kernel
theorem dX5_canStand_55 : decode cX5_canStand 55 = .ok (.ireturn, 1) := by decide +kernel
theorem dX5_canStand_56 : decode cX5_canStand 56 = .ok (.iload_n 1, 1) := by decide +kernel
theorem dX5_canStand_57 : decode cX5_canStand 57 = .ok (.bipush 49, 2) := by decide +kernel
theorem dX5_canStand_59 : decode cX5_canStand 59 = .ok (.bipush 57, 2) := by decide +kernel
theorem dX5_canStand_61 : decode cX5_canStand 61 = .ok (.invokestatic 48, 3) := by decide +kernel
theorem dX5_canStand_64 : decode cX5_canStand 64 = .ok (.ireturn, 1) := by decide +kernel
theorem dX5_canStand_65 : decode cX5_canStand 65 = .ok (.iload_n 1, 1) := by decide +kernel
theorem dX5_canStand_66 : decode cX5_canStand 66 = .ok (.bipush 46, 2) := by decide +kernel
theorem dX5_canStand_68 : decode cX5_canStand 68 = .ok (.if_icmp .ne 7, 3) := by decide +kernel
theorem dX5_canStand_71 : decode cX5_canStand 71 = .ok (.iconst 1, 1) := by decide +kernel
theorem dX5_canStand_72 : decode cX5_canStand 72 = .ok (.goto 4, 3) := by decide +kernel
theorem dX5_canStand_75 : decode cX5_canStand 75 = .ok (.iconst 0, 1) := by decide +kernel
theorem dX5_canStand_76 : decode cX5_canStand 76 = .ok (.ireturn, 1) := by decide +kernel
theorem dX5_canStand_77 : decode cX5_canStand 77 = .ok (.iload_n 1, 1) := by decide +kernel
theorem dX5_canStand_78 : decode cX5_canStand 78 = .ok (.bipush 48, 2) := by decide +kernel
theorem dX5_canStand_80 : decode cX5_canStand 80 = .ok (.bipush 57, 2) := by decide +kernel
theorem dX5_canStand_82 : decode cX5_canStand 82 = .ok (.invokestatic 48, 3) := by decide +kernel
theorem dX5_canStand_85 : decode cX5_canStand 85 = .ok (.ireturn, 1) := by decide +kernel
theorem dX5_canStand_86 : decode cX5_canStand 86 = .ok (.iload_n 1, 1) := by decide +kernel
theorem dX5_canStand_87 : decode cX5_canStand 87 = .ok (.bipush 44, 2) := by decide +kernel
theorem dX5_canStand_89 : decode cX5_canStand 89 = .ok (.if_icmp .ne 13, 3) := by decide +kernel
theorem dX5_canStand_92 : decode cX5_canStand 92 = .ok (.iload_n 0, 1) := by decide +kernel
theorem dX5_canStand_93 : decode cX5_canStand 93 = .ok (.bipush 39, 2) := by decide +kernel
theorem dX5_canStand_95 : decode cX5_canStand 95 = .ok (.if_icmp .ge 7, 3) := by decide +kernel
theorem dX5_canStand_98 : decode cX5_canStand 98 = .ok (.iconst 1, 1) := by decide +kernel
theorem dX5_canStand_99 : decode cX5_canStand 99 = .ok (.goto 4, 3) := by decide +kernel
theorem dX5_canStand_102 : decode cX5_canStand 102 = .ok (.iconst 0, 1) := by decide +kernel
theorem dX5_canStand_103 : decode cX5_canStand 103 = .ok (.ireturn, 1) := by decide +kernel
set_option maxRecDepth 20000 in
theorem ggX5_findFault_X5_canStand : GoodIn wsX5_findFault wsX5_canStand := goodIn_r _ [8, 9, 10, 7, 11] (by decide +kernel) (by decide +kernel)
set_option maxRecDepth 20000 in
theorem gX5_findFault_X5_canStand : GoodIn wsX5_findFault (va_wsS RX5 177 yX5_canStand wsX5_canStand) := goodIn_app (goodIn_of _ (by decide +kernel)) ggX5_findFault_X5_canStand
theorem dX5_findFault_0 : decode cX5_findFault 0 = .ok (.aload_n 0, 1) := by decide +kernel
theorem dX5_findFault_1 : decode cX5_findFault 1 = .ok (.iconst 0, 1) := by decide +kernel
theorem dX5_findFault_2 : decode cX5_findFault 2 = .ok (.putfield 106, 3) := by decide +kernel
theorem dX5_findFault_5 : decode cX5_findFault 5 = .ok (.iconst 0, 1) := by decide +kernel
theorem dX5_findFault_6 : decode cX5_findFault 6 = .ok (.istore_n 1, 1) := by decide +kernel
theorem dX5_findFault_7 : decode cX5_findFault 7 = .ok (.iload_n 1, 1) := by decide +kernel
theorem dX5_findFault_8 : decode cX5_findFault 8 = .ok (.aload_n 0, 1) := by decide +kernel
theorem dX5_findFault_9 : decode cX5_findFault 9 = .ok (.getfield 120, 3) := by decide +kernel
theorem dX5_findFault_12 : decode cX5_findFault 12 = .ok (.if_icmp .ge 94, 3) := by decide +kernel
theorem dX5_findFault_15 : decode cX5_findFault 15 = .ok (.iload_n 1, 1) := by decide +kernel
theorem dX5_findFault_16 : decode cX5_findFault 16 = .ok (.aload_n 0, 1) := by decide +kernel
theorem dX5_findFault_17 : decode cX5_findFault 17 = .ok (.getfield 25, 3) := by decide +kernel
theorem dX5_findFault_20 : decode cX5_findFault 20 = .ok (.iload_n 1, 1) := by decide +kernel
theorem dX5_findFault_21 : decode cX5_findFault 21 = .ok (.iaload, 1) := by decide +kernel
theorem dX5_findFault_22 : decode cX5_findFault 22 = .ok (.invokestatic 177, 3) := by decide +kernel
theorem dX5_findFault_25 : decode cX5_findFault 25 = .ok (.ifCond .ne 5, 3) := by decide +kernel
theorem dX5_findFault_28 : decode cX5_findFault 28 = .ok (.iload_n 1, 1) := by decide +kernel
theorem dX5_findFault_29 : decode cX5_findFault 29 = .ok (.ireturn, 1) := by decide +kernel
theorem dX5_findFault_30 : decode cX5_findFault 30 = .ok (.iload_n 1, 1) := by decide +kernel
theorem dX5_findFault_31 : decode cX5_findFault 31 = .ok (.iconst 5, 1) := by decide +kernel
theorem dX5_findFault_32 : decode cX5_findFault 32 = .ok (.irem, 1) := by decide +kernel
theorem dX5_findFault_33 : decode cX5_findFault 33 = .ok (.iconst 3, 1) := by decide +kernel
theorem dX5_findFault_34 : decode cX5_findFault 34 = .ok (.if_icmp .ne 66, 3) := by decide +kernel
theorem dX5_findFault_37 : decode cX5_findFault 37 = .ok (.aload_n 0, 1) := by decide +kernel
theorem dX5_findFault_38 : decode cX5_findFault 38 = .ok (.getfield 28, 3) := by decide +kernel
theorem dX5_findFault_41 : decode cX5_findFault 41 = .ok (.aload_n 0, 1) := by decide +kernel
theorem dX5_findFault_42 : decode cX5_findFault 42 = .ok (.getfield 106, 3) := by decide +kernel
theorem dX5_findFault_45 : decode cX5_findFault 45 = .ok (.bipush 10, 2) := by decide +kernel
theorem dX5_findFault_47 : decode cX5_findFault 47 = .ok (.aload_n 0, 1) := by decide +kernel
theorem dX5_findFault_48 : decode cX5_findFault 48 = .ok (.getfield 25, 3) := by decide +kernel
theorem dX5_findFault_51 : decode cX5_findFault 51 = .ok (.iload_n 1, 1) := by decide +kernel
theorem dX5_findFault_52 : decode cX5_findFault 52 = .ok (.iconst 2, 1) := by decide +kernel
theorem dX5_findFault_53 : decode cX5_findFault 53 = .ok (.isub, 1) := by decide +kernel
theorem dX5_findFault_54 : decode cX5_findFault 54 = .ok (.iaload, 1) := by decide +kernel
theorem dX5_findFault_55 : decode cX5_findFault 55 = .ok (.bipush 48, 2) := by decide +kernel
theorem dX5_findFault_57 : decode cX5_findFault 57 = .ok (.isub, 1) := by decide +kernel
theorem dX5_findFault_58 : decode cX5_findFault 58 = .ok (.imul, 1) := by decide +kernel
theorem dX5_findFault_59 : decode cX5_findFault 59 = .ok (.aload_n 0, 1) := by decide +kernel
theorem dX5_findFault_60 : decode cX5_findFault 60 = .ok (.getfield 25, 3) := by decide +kernel
theorem dX5_findFault_63 : decode cX5_findFault 63 = .ok (.iload_n 1, 1) := by decide +kernel
theorem dX5_findFault_64 : decode cX5_findFault 64 = .ok (.iaload, 1) := by decide +kernel
theorem dX5_findFault_65 : decode cX5_findFault 65 = .ok (.iadd, 1) := by decide +kernel
theorem dX5_findFault_66 : decode cX5_findFault 66 = .ok (.bipush 48, 2) := by decide +kernel
theorem dX5_findFault_68 : decode cX5_findFault 68 = .ok (.isub, 1) := by decide +kernel
theorem dX5_findFault_69 : decode cX5_findFault 69 = .ok (.aload_n 0, 1) := by decide +kernel
theorem dX5_findFault_70 : decode cX5_findFault 70 = .ok (.getfield 25, 3) := by decide +kernel
theorem dX5_findFault_73 : decode cX5_findFault 73 = .ok (.iload_n 1, 1) := by decide +kernel
theorem dX5_findFault_74 : decode cX5_findFault 74 = .ok (.iconst 3, 1) := by decide +kernel
theorem dX5_findFault_75 : decode cX5_findFault 75 = .ok (.isub, 1) := by decide +kernel
theorem dX5_findFault_76 : decode cX5_findFault 76 = .ok (.iaload, 1) := by decide +kernel
theorem dX5_findFault_77 : decode cX5_findFault 77 = .ok (.bipush 43, 2) := by decide +kernel
theorem dX5_findFault_79 : decode cX5_findFault 79 = .ok (.if_icmp .ne 8, 3) := by decide +kernel
theorem dX5_findFault_82 : decode cX5_findFault 82 = .ok (.bipush 100, 2) := by decide +kernel
theorem dX5_findFault_84 : decode cX5_findFault 84 = .ok (.goto 4, 3) := by decide +kernel
theorem dX5_findFault_87 : decode cX5_findFault 87 = .ok (.iconst 0, 1) := by decide +kernel
theorem dX5_findFault_88 : decode cX5_findFault 88 = .ok (.iadd, 1) := by decide +kernel
theorem dX5_findFault_89 : decode cX5_findFault 89 = .ok (.iastore, 1) := by decide +kernel
theorem dX5_findFault_90 : decode cX5_findFault 90 = .ok (.aload_n 0, 1) := by decide +kernel
theorem dX5_findFault_91 : decode cX5_findFault 91 = .ok (.dup, 1) := by decide +kernel
theorem dX5_findFault_92 : decode cX5_findFault 92 = .ok (.getfield 106, 3) := by decide +kernel
theorem dX5_findFault_95 : decode cX5_findFault 95 = .ok (.iconst 1, 1) := by decide +kernel
theorem dX5_findFault_96 : decode cX5_findFault 96 = .ok (.iadd, 1) := by decide +kernel
theorem dX5_findFault_97 : decode cX5_findFault 97 = .ok (.putfield 106, 3) := by decide +kernel
theorem dX5_findFault_100 : decode cX5_findFault 100 = .ok (.iinc 1 1, 3) := by decide +kernel
theorem dX5_findFault_103 : decode cX5_findFault 103 = .ok (.goto (-96), 3) := by decide +kernel
theorem dX5_findFault_106 : decode cX5_findFault 106 = .ok (.aload_n 0, 1) := by decide +kernel
theorem dX5_findFault_107 : decode cX5_findFault 107 = .ok (.getfield 120, 3) := by decide +kernel
theorem dX5_findFault_110 : decode cX5_findFault 110 = .ok (.iconst 5, 1) := by decide +kernel
theorem dX5_findFault_111 : decode cX5_findFault 111 = .ok (.irem, 1) := by decide +kernel
theorem dX5_findFault_112 : decode cX5_findFault 112 = .ok (.iconst 4, 1) := by decide +kernel
theorem dX5_findFault_113 : decode cX5_findFault 113 = .ok (.if_icmp .ne 8, 3) := by decide +kernel
theorem dX5_findFault_116 : decode cX5_findFault 116 = .ok (.bipush (-6), 2) := by decide +kernel
theorem dX5_findFault_118 : decode cX5_findFault 118 = .ok (.goto 7, 3) := by decide +kernel
theorem dX5_findFault_121 : decode cX5_findFault 121 = .ok (.aload_n 0, 1) := by decide +kernel
theorem dX5_findFault_122 : decode cX5_findFault 122 = .ok (.getfield 120, 3) := by decide +kernel
theorem dX5_findFault_125 : decode cX5_findFault 125 = .ok (.ireturn, 1) := by decide +kernel
set_option maxRecDepth 20000 in
theorem ggX5_fault_X5_findFault : GoodIn wsX5_fault wsX5_findFault := goodIn_r _ [5, 6, 7, 8, 9, 10, 11, 4, 12, 13, 14, 15, 16, 17, 18, 19, 20, 21, 22, 23, 24, 25, 26, 27, 28] (by decide +kernel) (by decide +kernel)
set_option maxRecDepth 20000 in
theorem gX5_fault_X5_findFault : GoodIn wsX5_fault (wsV RX5 109 RX5 yX5_findFault wsX5_findFault) := goodIn_app (goodIn_of _ (by decide +kernel)) ggX5_fault_X5_findFault
theorem dX5_fault_0 : decode cX5_fault 0 = .ok (.aload_n 0, 1) := by decide +kernel
theorem dX5_fault_1 : decode cX5_fault 1 = .ok (.invokevirtual 109, 3) := by decide +kernel
theorem dX5_fault_4 : decode cX5_fault 4 = .ok (.ireturn, 1) := by decide +kernel
set_option maxRecDepth 20000 in
theorem ggX5_undo_X5_moves : GoodIn wsX5_undo wsX5_moves := goodIn_r _ [7] (by decide +kernel) (by decide +kernel)
set_option maxRecDepth 20000 in
theorem gX5_undo_X5_moves : GoodIn wsX5_undo (va_wsS RX5 44 yX5_moves wsX5_moves) := goodIn_app (goodIn_of _ (by decide +kernel)) ggX5_undo_X5_moves
theorem dX5_undo_0 : decode cX5_undo 0 = .ok (.aload_n 0, 1) := by decide +kernel
theorem dX5_undo_1 : decode cX5_undo 1 = .ok (.getfield 40, 3) := by decide +kernel
theorem dX5_undo_4 : decode cX5_undo 4 = .ok (.ifCond .ne 6, 3) := by decide +kernel
theorem dX5_undo_7 : decode cX5_undo 7 = .ok (.bipush (-5), 2) := by decide +kernel
theorem dX5_undo_9 : decode cX5_undo 9 = .ok (.ireturn, 1) := by decide +kernel
theorem dX5_undo_10 : decode cX5_undo 10 = .ok (.aload_n 0, 1) := by decide +kernel
theorem dX5_undo_11 : decode cX5_undo 11 = .ok (.dup, 1) := by decide +kernel
theorem dX5_undo_12 : decode cX5_undo 12 = .ok (.getfield 40, 3) := by decide +kernel
theorem dX5_undo_15 : decode cX5_undo 15 = .ok (.iconst 1, 1) := by decide +kernel
theorem dX5_undo_16 : decode cX5_undo 16 = .ok (.isub, 1) := by decide +kernel
theorem dX5_undo_17 : decode cX5_undo 17 = .ok (.putfield 40, 3) := by decide +kernel
theorem dX5_undo_20 : decode cX5_undo 20 = .ok (.aload_n 0, 1) := by decide +kernel
theorem dX5_undo_21 : decode cX5_undo 21 = .ok (.getfield 16, 3) := by decide +kernel
theorem dX5_undo_24 : decode cX5_undo 24 = .ok (.aload_n 0, 1) := by decide +kernel
theorem dX5_undo_25 : decode cX5_undo 25 = .ok (.getfield 40, 3) := by decide +kernel
theorem dX5_undo_28 : decode cX5_undo 28 = .ok (.sipush 713, 3) := by decide +kernel
theorem dX5_undo_31 : decode cX5_undo 31 = .ok (.imul, 1) := by decide +kernel
theorem dX5_undo_32 : decode cX5_undo 32 = .ok (.aload_n 0, 1) := by decide +kernel
theorem dX5_undo_33 : decode cX5_undo 33 = .ok (.getfield 7, 3) := by decide +kernel
theorem dX5_undo_36 : decode cX5_undo 36 = .ok (.iconst 0, 1) := by decide +kernel
theorem dX5_undo_37 : decode cX5_undo 37 = .ok (.invokestatic 44, 3) := by decide +kernel
theorem dX5_undo_40 : decode cX5_undo 40 = .ok (.aload_n 0, 1) := by decide +kernel
theorem dX5_undo_41 : decode cX5_undo 41 = .ok (.getfield 40, 3) := by decide +kernel
theorem dX5_undo_44 : decode cX5_undo 44 = .ok (.ireturn, 1) := by decide +kernel
set_option maxRecDepth 20000 in
theorem ggX5_save_X5_within : GoodIn wsX5_save wsX5_within := goodIn_r _ [7] (by decide +kernel) (by decide +kernel)
set_option maxRecDepth 20000 in
theorem gX5_save_X5_within : GoodIn wsX5_save (va_wsS RX5 48 yX5_within wsX5_within) := goodIn_app (goodIn_of _ (by decide +kernel)) ggX5_save_X5_within
set_option maxRecDepth 20000 in
theorem ggX5_save_X5_moves : GoodIn wsX5_save wsX5_moves := goodIn_r _ [10] (by decide +kernel) (by decide +kernel)
set_option maxRecDepth 20000 in
theorem gX5_save_X5_moves : GoodIn wsX5_save (va_wsS RX5 44 yX5_moves wsX5_moves) := goodIn_app (goodIn_of _ (by decide +kernel)) ggX5_save_X5_moves
theorem dX5_save_0 : decode cX5_save 0 = .ok (.iload_n 1, 1) := by decide +kernel
theorem dX5_save_1 : decode cX5_save 1 = .ok (.iconst 0, 1) := by decide +kernel
theorem dX5_save_2 : decode cX5_save 2 = .ok (.iconst 1, 1) := by decide +kernel
theorem dX5_save_3 : decode cX5_save 3 = .ok (.invokestatic 48, 3) := by decide +kernel
theorem dX5_save_6 : decode cX5_save 6 = .ok (.ifCond .ne 6, 3) := by decide +kernel
theorem dX5_save_9 : decode cX5_save 9 = .ok (.bipush (-2), 2) := by decide +kernel
theorem dX5_save_11 : decode cX5_save 11 = .ok (.ireturn, 1) := by decide +kernel
theorem dX5_save_12 : decode cX5_save 12 = .ok (.aload_n 0, 1) := by decide +kernel
theorem dX5_save_13 : decode cX5_save 13 = .ok (.getfield 7, 3) := by decide +kernel
theorem dX5_save_16 : decode cX5_save 16 = .ok (.iconst 0, 1) := by decide +kernel
theorem dX5_save_17 : decode cX5_save 17 = .ok (.aload_n 0, 1) := by decide +kernel
theorem dX5_save_18 : decode cX5_save 18 = .ok (.getfield 19, 3) := by decide +kernel
theorem dX5_save_21 : decode cX5_save 21 = .ok (.sipush 713, 3) := by decide +kernel
theorem dX5_save_24 : decode cX5_save 24 = .ok (.iload_n 1, 1) := by decide +kernel
theorem dX5_save_25 : decode cX5_save 25 = .ok (.imul, 1) := by decide +kernel
theorem dX5_save_26 : decode cX5_save 26 = .ok (.invokestatic 44, 3) := by decide +kernel
theorem dX5_save_29 : decode cX5_save 29 = .ok (.aload_n 0, 1) := by decide +kernel
theorem dX5_save_30 : decode cX5_save 30 = .ok (.getfield 22, 3) := by decide +kernel
theorem dX5_save_33 : decode cX5_save 33 = .ok (.iload_n 1, 1) := by decide +kernel
theorem dX5_save_34 : decode cX5_save 34 = .ok (.iconst 1, 1) := by decide +kernel
theorem dX5_save_35 : decode cX5_save 35 = .ok (.iastore, 1) := by decide +kernel
theorem dX5_save_36 : decode cX5_save 36 = .ok (.aload_n 0, 1) := by decide +kernel
theorem dX5_save_37 : decode cX5_save 37 = .ok (.getfield 7, 3) := by decide +kernel
theorem dX5_save_40 : decode cX5_save 40 = .ok (.iconst 0, 1) := by decide +kernel
theorem dX5_save_41 : decode cX5_save 41 = .ok (.iaload, 1) := by decide +kernel
theorem dX5_save_42 : decode cX5_save 42 = .ok (.ireturn, 1) := by decide +kernel
set_option maxRecDepth 20000 in
theorem ggX5_restore_X5_within : GoodIn wsX5_restore wsX5_within := goodIn_r _ [7] (by decide +kernel) (by decide +kernel)
set_option maxRecDepth 20000 in
theorem gX5_restore_X5_within : GoodIn wsX5_restore (va_wsS RX5 48 yX5_within wsX5_within) := goodIn_app (goodIn_of _ (by decide +kernel)) ggX5_restore_X5_within
set_option maxRecDepth 20000 in
theorem ggX5_restore_X5_record : GoodIn wsX5_restore wsX5_record := goodIn_r _ [11, 12, 13, 3, 14, 15, 6, 16, 17, 18, 19, 20, 21, 22, 23, 24, 25, 26, 27, 28, 29] (by decide +kernel) (by decide +kernel)
set_option maxRecDepth 20000 in
theorem gX5_restore_X5_record : GoodIn wsX5_restore (wsV RX5 117 RX5 yX5_record wsX5_record) := goodIn_app (goodIn_of _ (by decide +kernel)) ggX5_restore_X5_record
set_option maxRecDepth 20000 in
theorem ggX5_restore_X5_moves : GoodIn wsX5_restore wsX5_moves := goodIn_r _ [16] (by decide +kernel) (by decide +kernel)
set_option maxRecDepth 20000 in
theorem gX5_restore_X5_moves : GoodIn wsX5_restore (va_wsS RX5 44 yX5_moves wsX5_moves) := goodIn_app (goodIn_of _ (by decide +kernel)) ggX5_restore_X5_moves
theorem dX5_restore_0 : decode cX5_restore 0 = .ok (.iload_n 1, 1) := by decide +kernel
theorem dX5_restore_1 : decode cX5_restore 1 = .ok (.iconst 0, 1) := by decide +kernel
theorem dX5_restore_2 : decode cX5_restore 2 = .ok (.iconst 1, 1) := by decide +kernel
theorem dX5_restore_3 : decode cX5_restore 3 = .ok (.invokestatic 48, 3) := by decide +kernel
theorem dX5_restore_6 : decode cX5_restore 6 = .ok (.ifCond .ne 6, 3) := by decide +kernel
theorem dX5_restore_9 : decode cX5_restore 9 = .ok (.bipush (-2), 2) := by decide +kernel
theorem dX5_restore_11 : decode cX5_restore 11 = .ok (.ireturn, 1) := by decide +kernel
theorem dX5_restore_12 : decode cX5_restore 12 = .ok (.aload_n 0, 1) := by decide +kernel
theorem dX5_restore_13 : decode cX5_restore 13 = .ok (.getfield 22, 3) := by decide +kernel
theorem dX5_restore_16 : decode cX5_restore 16 = .ok (.iload_n 1, 1) := by decide +kernel
theorem dX5_restore_17 : decode cX5_restore 17 = .ok (.iaload, 1) := by decide +kernel
theorem dX5_restore_18 : decode cX5_restore 18 = .ok (.ifCond .ne 6, 3) := by decide +kernel
theorem dX5_restore_21 : decode cX5_restore 21 = .ok (.bipush (-5), 2) := by decide +kernel
theorem dX5_restore_23 : decode cX5_restore 23 = .ok (.ireturn, 1) := by decide +kernel
theorem dX5_restore_24 : decode cX5_restore 24 = .ok (.aload_n 0, 1) := by decide +kernel
theorem dX5_restore_25 : decode cX5_restore 25 = .ok (.invokevirtual 117, 3) := by decide +kernel
theorem dX5_restore_28 : decode cX5_restore 28 = .ok (.aload_n 0, 1) := by decide +kernel
theorem dX5_restore_29 : decode cX5_restore 29 = .ok (.getfield 19, 3) := by decide +kernel
theorem dX5_restore_32 : decode cX5_restore 32 = .ok (.sipush 713, 3) := by decide +kernel
theorem dX5_restore_35 : decode cX5_restore 35 = .ok (.iload_n 1, 1) := by decide +kernel
theorem dX5_restore_36 : decode cX5_restore 36 = .ok (.imul, 1) := by decide +kernel
theorem dX5_restore_37 : decode cX5_restore 37 = .ok (.aload_n 0, 1) := by decide +kernel
theorem dX5_restore_38 : decode cX5_restore 38 = .ok (.getfield 7, 3) := by decide +kernel
theorem dX5_restore_41 : decode cX5_restore 41 = .ok (.iconst 0, 1) := by decide +kernel
theorem dX5_restore_42 : decode cX5_restore 42 = .ok (.invokestatic 44, 3) := by decide +kernel
theorem dX5_restore_45 : decode cX5_restore 45 = .ok (.aload_n 0, 1) := by decide +kernel
theorem dX5_restore_46 : decode cX5_restore 46 = .ok (.getfield 7, 3) := by decide +kernel
theorem dX5_restore_49 : decode cX5_restore 49 = .ok (.iconst 0, 1) := by decide +kernel
theorem dX5_restore_50 : decode cX5_restore 50 = .ok (.iaload, 1) := by decide +kernel
theorem dX5_restore_51 : decode cX5_restore 51 = .ok (.ireturn, 1) := by decide +kernel
theorem dJ6_bitCount_0f7a4_0 : decode cJ6_bitCount_0f7a4 0 = .ok (.iload_n 0, 1) := by decide +kernel
theorem dJ6_bitCount_0f7a4_1 : decode cJ6_bitCount_0f7a4 1 = .ok (.iload_n 0, 1) := by decide +kernel
theorem dJ6_bitCount_0f7a4_2 : decode cJ6_bitCount_0f7a4 2 = .ok (.iconst 1, 1) := by decide +kernel
theorem dJ6_bitCount_0f7a4_3 : decode cJ6_bitCount_0f7a4 3 = .ok (.iushr, 1) := by decide +kernel
theorem dJ6_bitCount_0f7a4_4 : decode cJ6_bitCount_0f7a4 4 = .ok (.ldc_w 265, 3) := by decide +kernel
theorem dJ6_bitCount_0f7a4_7 : decode cJ6_bitCount_0f7a4 7 = .ok (.iand, 1) := by decide +kernel
theorem dJ6_bitCount_0f7a4_8 : decode cJ6_bitCount_0f7a4 8 = .ok (.isub, 1) := by decide +kernel
theorem dJ6_bitCount_0f7a4_9 : decode cJ6_bitCount_0f7a4 9 = .ok (.istore_n 0, 1) := by decide +kernel
theorem dJ6_bitCount_0f7a4_10 : decode cJ6_bitCount_0f7a4 10 = .ok (.iload_n 0, 1) := by decide +kernel
theorem dJ6_bitCount_0f7a4_11 : decode cJ6_bitCount_0f7a4 11 = .ok (.ldc_w 266, 3) := by decide +kernel
theorem dJ6_bitCount_0f7a4_14 : decode cJ6_bitCount_0f7a4 14 = .ok (.iand, 1) := by decide +kernel
theorem dJ6_bitCount_0f7a4_15 : decode cJ6_bitCount_0f7a4 15 = .ok (.iload_n 0, 1) := by decide +kernel
theorem dJ6_bitCount_0f7a4_16 : decode cJ6_bitCount_0f7a4 16 = .ok (.iconst 2, 1) := by decide +kernel
theorem dJ6_bitCount_0f7a4_17 : decode cJ6_bitCount_0f7a4 17 = .ok (.iushr, 1) := by decide +kernel
theorem dJ6_bitCount_0f7a4_18 : decode cJ6_bitCount_0f7a4 18 = .ok (.ldc_w 266, 3) := by decide +kernel
theorem dJ6_bitCount_0f7a4_21 : decode cJ6_bitCount_0f7a4 21 = .ok (.iand, 1) := by decide +kernel
theorem dJ6_bitCount_0f7a4_22 : decode cJ6_bitCount_0f7a4 22 = .ok (.iadd, 1) := by decide +kernel
theorem dJ6_bitCount_0f7a4_23 : decode cJ6_bitCount_0f7a4 23 = .ok (.istore_n 0, 1) := by decide +kernel
theorem dJ6_bitCount_0f7a4_24 : decode cJ6_bitCount_0f7a4 24 = .ok (.iload_n 0, 1) := by decide +kernel
theorem dJ6_bitCount_0f7a4_25 : decode cJ6_bitCount_0f7a4 25 = .ok (.iload_n 0, 1) := by decide +kernel
theorem dJ6_bitCount_0f7a4_26 : decode cJ6_bitCount_0f7a4 26 = .ok (.iconst 4, 1) := by decide +kernel
theorem dJ6_bitCount_0f7a4_27 : decode cJ6_bitCount_0f7a4 27 = .ok (.iushr, 1) := by decide +kernel
theorem dJ6_bitCount_0f7a4_28 : decode cJ6_bitCount_0f7a4 28 = .ok (.iadd, 1) := by decide +kernel
theorem dJ6_bitCount_0f7a4_29 : decode cJ6_bitCount_0f7a4 29 = .ok (.ldc_w 267, 3) := by decide +kernel
theorem dJ6_bitCount_0f7a4_32 : decode cJ6_bitCount_0f7a4 32 = .ok (.iand, 1) := by decide +kernel
theorem dJ6_bitCount_0f7a4_33 : decode cJ6_bitCount_0f7a4 33 = .ok (.istore_n 0, 1) := by decide +kernel
theorem dJ6_bitCount_0f7a4_34 : decode cJ6_bitCount_0f7a4 34 = .ok (.iload_n 0, 1) := by decide +kernel
theorem dJ6_bitCount_0f7a4_35 : decode cJ6_bitCount_0f7a4 35 = .ok (.iload_n 0, 1) := by decide +kernel
theorem dJ6_bitCount_0f7a4_36 : decode cJ6_bitCount_0f7a4 36 = .ok (.bipush 8, 2) := by decide +kernel
theorem dJ6_bitCount_0f7a4_38 : decode cJ6_bitCount_0f7a4 38 = .ok (.iushr, 1) := by decide +kernel
theorem dJ6_bitCount_0f7a4_39 : decode cJ6_bitCount_0f7a4 39 = .ok (.iadd, 1) := by decide +kernel
theorem dJ6_bitCount_0f7a4_40 : decode cJ6_bitCount_0f7a4 40 = .ok (.istore_n 0, 1) := by decide +kernel
theorem dJ6_bitCount_0f7a4_41 : decode cJ6_bitCount_0f7a4 41 = .ok (.iload_n 0, 1) := by decide +kernel
theorem dJ6_bitCount_0f7a4_42 : decode cJ6_bitCount_0f7a4 42 = .ok (.iload_n 0, 1) := by decide +kernel
theorem dJ6_bitCount_0f7a4_43 : decode cJ6_bitCount_0f7a4 43 = .ok (.bipush 16, 2) := by decide +kernel
theorem dJ6_bitCount_0f7a4_45 : decode cJ6_bitCount_0f7a4 45 = .ok (.iushr, 1) := by decide +kernel
theorem dJ6_bitCount_0f7a4_46 : decode cJ6_bitCount_0f7a4 46 = .ok (.iadd, 1) := by decide +kernel
theorem dJ6_bitCount_0f7a4_47 : decode cJ6_bitCount_0f7a4 47 = .ok (.istore_n 0, 1) := by decide +kernel
theorem dJ6_bitCount_0f7a4_48 : decode cJ6_bitCount_0f7a4 48 = .ok (.iload_n 0, 1) := by decide +kernel
theorem dJ6_bitCount_0f7a4_49 : decode cJ6_bitCount_0f7a4 49 = .ok (.bipush 63, 2) := by decide +kernel
theorem dJ6_bitCount_0f7a4_51 : decode cJ6_bitCount_0f7a4 51 = .ok (.iand, 1) := by decide +kernel
theorem dJ6_bitCount_0f7a4_52 : decode cJ6_bitCount_0f7a4 52 = .ok (.ireturn, 1) := by decide +kernel
theorem dJ9_min_7cf53_0 : decode cJ9_min_7cf53 0 = .ok (.iload_n 0, 1) := by decide +kernel
theorem dJ9_min_7cf53_1 : decode cJ9_min_7cf53 1 = .ok (.iload_n 1, 1) := by decide +kernel
theorem dJ9_min_7cf53_2 : decode cJ9_min_7cf53 2 = .ok (.if_icmp .gt 7, 3) := by decide +kernel
theorem dJ9_min_7cf53_5 : decode cJ9_min_7cf53 5 = .ok (.iload_n 0, 1) := by decide +kernel
theorem dJ9_min_7cf53_6 : decode cJ9_min_7cf53 6 = .ok (.goto 4, 3) := by decide +kernel
theorem dJ9_min_7cf53_9 : decode cJ9_min_7cf53 9 = .ok (.iload_n 1, 1) := by decide +kernel
theorem dJ9_min_7cf53_10 : decode cJ9_min_7cf53 10 = .ok (.ireturn, 1) := by decide +kernel
set_option maxRecDepth 20000 in
theorem ggL_law_X4_init : GoodIn wsL_law wsX4_init := goodIn_r _ [9, 10, 11, 12, 13, 14, 15, 16, 17, 18, 19, 20, 21, 22, 23, 24, 25, 26, 27, 28, 29, 30, 31, 32, 33, 34, 35, 36, 37, 38, 39, 40, 41, 42, 43, 44, 45, 46, 47, 48, 49, 50, 51, 52, 53, 54, 55, 56, 57, 58, 59, 648, 649, 650, 651, 652, 653, 654, 655, 629, 630, 631, 632, 633, 634, 656, 657, 658, 659, 660, 661, 662] (by decide +kernel) (by decide +kernel)
set_option maxRecDepth 20000 in
theorem gL_law_X4_init : GoodIn wsL_law (wsX4_init) := ggL_law_X4_init
set_option maxRecDepth 20000 in
theorem ggL_law_X5_init : GoodIn wsL_law wsX5_init := goodIn_r _ [62, 63, 11, 12, 36, 64, 65, 66, 67, 68, 69, 70, 71, 72, 73, 635, 636, 637, 638, 639, 640, 641, 642, 643, 644, 645, 646, 647] (by decide +kernel) (by decide +kernel)
set_option maxRecDepth 20000 in
theorem gL_law_X5_init : GoodIn wsL_law (wsX5_init) := ggL_law_X5_init
set_option maxRecDepth 20000 in
theorem ggL_law_X4_issue : GoodIn wsL_law wsX4_issue := goodIn_r _ [77, 27, 16, 20, 78, 79, 80, 26, 81, 82, 59, 83, 84, 85, 86, 87, 88, 89, 90, 91, 92, 93, 94, 95, 96, 97, 98, 99, 100, 19, 101, 53, 102, 103, 104, 105, 106, 15, 107, 37, 108, 109, 110, 111, 38, 112, 40, 41, 42, 43, 113, 114, 115, 116, 31, 117, 47, 118, 119, 120, 121, 122, 123, 124, 125, 126, 127, 128, 129, 130, 131, 132, 133, 134, 135, 136, 137, 138, 139, 140, 141, 142, 143, 144, 145, 146, 147, 148, 149, 150, 151, 152, 153, 154, 155, 156, 157, 158, 159, 160, 161, 162, 163, 164, 165, 166, 167, 629, 630, 631, 632, 633, 634, 648, 649, 650, 651, 652, 653, 654, 655, 659, 660, 656, 657, 658, 661, 662] (by decide +kernel) (by decide +kernel)
set_option maxRecDepth 20000 in
theorem gL_law_X4_issue : GoodIn wsL_law (wsV RL 13 RX4 yX4_issue wsX4_issue) := goodIn_app (goodIn_of _ (by decide +kernel)) ggL_law_X4_issue
set_option maxRecDepth 20000 in
theorem ggL_law_X5_issue : GoodIn wsL_law wsX5_issue := goodIn_r _ [171, 64, 172, 70, 173, 174, 175, 176, 5, 177, 69, 178, 179, 180, 181, 182, 183, 184, 185, 186, 187, 188, 189, 190, 191, 192, 66, 193, 194, 195, 196, 197, 198, 199, 200, 201, 202, 203, 204, 205, 206, 207, 208, 209, 210, 211, 212, 213, 214, 215, 216, 217, 218, 219, 220, 221, 222, 223, 224, 225, 226, 227, 228, 229, 230, 231, 232, 233, 234, 235, 635, 636, 637, 638, 639, 640, 641, 642, 643, 644, 645, 646, 647] (by decide +kernel) (by decide +kernel)
set_option maxRecDepth 20000 in
theorem gL_law_X5_issue : GoodIn wsL_law (wsV RL 17 RX5 yX5_issue wsX5_issue) := goodIn_app (goodIn_of _ (by decide +kernel)) ggL_law_X5_issue
set_option maxRecDepth 20000 in
theorem ggL_law_X4_own : GoodIn wsL_law wsX4_own := goodIn_r _ [239, 16, 20, 98, 99, 100, 19, 101, 53, 102, 103, 104, 105, 106, 15, 107, 37, 108, 109, 110, 111, 38, 112, 40, 41, 42, 43, 113, 114, 115, 116, 31, 117, 47, 118, 119, 240, 241, 242, 243, 629, 630, 631, 632, 633, 634, 648, 649, 650, 651, 652, 653, 654, 655, 656, 657, 658, 661, 662] (by decide +kernel) (by decide +kernel)
set_option maxRecDepth 20000 in
theorem gL_law_X4_own : GoodIn wsL_law (wsV RL 18 RX4 yX4_own wsX4_own) := goodIn_app (goodIn_of _ (by decide +kernel)) ggL_law_X4_own
set_option maxRecDepth 20000 in
theorem ggL_law_X5_own : GoodIn wsL_law wsX5_own := goodIn_r _ [247, 64, 188, 189, 190, 5, 191, 192, 66, 193, 194, 195, 208, 209, 210, 211, 228, 229, 230, 231, 635, 636, 637, 638, 639, 640, 641, 642, 643, 644, 645, 646, 647] (by decide +kernel) (by decide +kernel)
set_option maxRecDepth 20000 in
theorem gL_law_X5_own : GoodIn wsL_law (wsV RL 21 RX5 yX5_own wsX5_own) := goodIn_app (goodIn_of _ (by decide +kernel)) ggL_law_X5_own
set_option maxRecDepth 20000 in
theorem ggL_law_X4_done : GoodIn wsL_law wsX4_done := goodIn_r _ [251, 16, 20, 252, 253, 254, 15, 255, 113, 256, 257, 258, 259, 112, 260, 261, 262, 263, 42, 98, 99, 100, 19, 101, 53, 102, 103, 104, 105, 106, 107, 37, 108, 109, 110, 111, 38, 40, 41, 43, 114, 115, 116, 31, 117, 47, 118, 119, 264, 127, 128, 129, 130, 131, 132, 133, 134, 135, 136, 137, 138, 139, 140, 141, 142, 143, 144, 145, 146, 147, 148, 149, 150, 151, 152, 153, 154, 155, 156, 157, 158, 159, 160, 161, 162, 163, 265, 266, 267, 268, 269, 270, 271, 272, 273, 274, 275, 276, 629, 630, 631, 632, 633, 634, 648, 649, 650, 651, 652, 653, 654, 655, 661, 662, 656, 657, 658] (by decide +kernel) (by decide +kernel)
set_option maxRecDepth 20000 in
theorem gL_law_X4_done : GoodIn wsL_law (wsV RL 22 RX4 yX4_done wsX4_done) := goodIn_app (goodIn_of _ (by decide +kernel)) ggL_law_X4_done
set_option maxRecDepth 20000 in
theorem ggL_law_X5_done : GoodIn wsL_law wsX5_done := goodIn_r _ [280, 281, 282, 283, 5, 284, 64, 181, 182, 183, 285, 286, 287, 288, 289, 290, 291, 292, 208, 209, 210, 211, 188, 189, 190, 191, 192, 66, 193, 194, 195, 196, 197, 198, 199, 200, 201, 202, 203, 204, 205, 206, 207, 212, 213, 214, 215, 216, 217, 218, 219, 220, 221, 222, 223, 224, 225, 226, 227, 228, 229, 230, 231, 232, 233, 234, 235, 635, 636, 637, 638, 639, 640, 641, 642, 643, 644, 645, 646, 647] (by decide +kernel) (by decide +kernel)
set_option maxRecDepth 20000 in
theorem gL_law_X5_done : GoodIn wsL_law (wsV RL 26 RX5 yX5_done wsX5_done) := goodIn_app (goodIn_of _ (by decide +kernel)) ggL_law_X5_done
set_option maxRecDepth 20000 in
theorem ggL_law_X4_doAll : GoodIn wsL_law wsX4_doAll := goodIn_r _ [296, 16, 20, 252, 253, 254, 15, 255, 113, 98, 99, 100, 19, 101, 53, 102, 103, 104, 105, 106, 107, 37, 108, 109, 110, 111, 38, 112, 40, 41, 42, 43, 114, 115, 116, 31, 117, 47, 118, 119, 297, 298, 299, 300, 126, 127, 128, 129, 130, 131, 132, 133, 134, 135, 136, 137, 138, 139, 140, 141, 142, 143, 144, 145, 146, 147, 148, 149, 150, 151, 152, 153, 154, 155, 156, 157, 158, 159, 160, 161, 162, 163, 301, 302, 303, 304, 305, 306, 307, 629, 630, 631, 632, 633, 634, 648, 649, 650, 651, 652, 653, 654, 655, 656, 657, 658, 661, 662] (by decide +kernel) (by decide +kernel)
set_option maxRecDepth 20000 in
theorem gL_law_X4_doAll : GoodIn wsL_law (wsV RL 27 RX4 yX4_doAll wsX4_doAll) := goodIn_app (goodIn_of _ (by decide +kernel)) ggL_law_X4_doAll
set_option maxRecDepth 20000 in
theorem ggL_law_X5_doAll : GoodIn wsL_law wsX5_doAll := goodIn_r _ [311, 281, 282, 283, 5, 284, 64, 181, 182, 183, 188, 189, 190, 191, 192, 66, 193, 194, 195, 208, 209, 210, 211, 312, 313, 314, 315, 196, 197, 198, 199, 200, 201, 202, 203, 204, 205, 206, 207, 212, 213, 214, 215, 216, 217, 218, 219, 220, 221, 222, 223, 224, 225, 226, 227, 228, 229, 230, 231, 232, 233, 234, 235, 316, 317, 318, 635, 636, 637, 638, 639, 640, 641, 642, 643, 644, 645, 646, 647] (by decide +kernel) (by decide +kernel)
set_option maxRecDepth 20000 in
theorem gL_law_X5_doAll : GoodIn wsL_law (wsV RL 31 RX5 yX5_doAll wsX5_doAll) := goodIn_app (goodIn_of _ (by decide +kernel)) ggL_law_X5_doAll
set_option maxRecDepth 20000 in
theorem ggL_law_X4_lose : GoodIn wsL_law wsX4_lose := goodIn_r _ [322, 16, 20, 252, 253, 254, 15, 255, 113, 256, 257, 258, 259, 112, 260, 261, 262, 263, 42, 98, 99, 100, 19, 101, 53, 102, 103, 104, 105, 106, 107, 37, 108, 109, 110, 111, 38, 40, 41, 43, 114, 115, 116, 31, 117, 47, 118, 119, 301, 302, 303, 304, 305, 306, 307, 629, 630, 631, 632, 633, 634, 648, 649, 650, 651, 652, 653, 654, 655, 656, 657, 658, 661, 662] (by decide +kernel) (by decide +kernel)
set_option maxRecDepth 20000 in
theorem gL_law_X4_lose : GoodIn wsL_law (wsV RL 32 RX4 yX4_lose wsX4_lose) := goodIn_app (goodIn_of _ (by decide +kernel)) ggL_law_X4_lose
set_option maxRecDepth 20000 in
theorem ggL_law_X5_lose : GoodIn wsL_law wsX5_lose := goodIn_r _ [326, 281, 282, 283, 5, 284, 64, 181, 182, 183, 285, 286, 287, 288, 289, 290, 291, 292, 208, 209, 210, 211, 188, 189, 190, 191, 192, 66, 193, 194, 195, 228, 229, 230, 231, 316, 317, 318, 635, 636, 637, 638, 639, 640, 641, 642, 643, 644, 645, 646, 647] (by decide +kernel) (by decide +kernel)
set_option maxRecDepth 20000 in
theorem gL_law_X5_lose : GoodIn wsL_law (wsV RL 36 RX5 yX5_lose wsX5_lose) := goodIn_app (goodIn_of _ (by decide +kernel)) ggL_law_X5_lose
set_option maxRecDepth 20000 in
theorem ggL_law_X4_again : GoodIn wsL_law wsX4_again := goodIn_r _ [330, 16, 20, 252, 253, 254, 15, 255, 113, 256, 257, 258, 259, 112, 260, 261, 262, 263, 42, 98, 99, 100, 19, 101, 53, 102, 103, 104, 105, 106, 107, 37, 108, 109, 110, 111, 38, 40, 41, 43, 114, 115, 116, 31, 117, 47, 118, 119, 301, 302, 303, 304, 305, 306, 307, 629, 630, 631, 632, 633, 634, 648, 649, 650, 651, 652, 653, 654, 655, 656, 657, 658, 661, 662] (by decide +kernel) (by decide +kernel)
set_option maxRecDepth 20000 in
theorem gL_law_X4_again : GoodIn wsL_law (wsV RL 37 RX4 yX4_again wsX4_again) := goodIn_app (goodIn_of _ (by decide +kernel)) ggL_law_X4_again
set_option maxRecDepth 20000 in
theorem ggL_law_X5_again : GoodIn wsL_law wsX5_again := goodIn_r _ [334, 281, 282, 283, 5, 284, 64, 181, 182, 183, 285, 286, 287, 288, 289, 290, 291, 292, 208, 209, 210, 211, 188, 189, 190, 191, 192, 66, 193, 194, 195, 228, 229, 230, 231, 316, 317, 318, 635, 636, 637, 638, 639, 640, 641, 642, 643, 644, 645, 646, 647] (by decide +kernel) (by decide +kernel)
set_option maxRecDepth 20000 in
theorem gL_law_X5_again : GoodIn wsL_law (wsV RL 40 RX5 yX5_again wsX5_again) := goodIn_app (goodIn_of _ (by decide +kernel)) ggL_law_X5_again
set_option maxRecDepth 20000 in
theorem ggL_law_X4_hand : GoodIn wsL_law wsX4_hand := goodIn_r _ [338, 16, 20, 252, 253, 254, 15, 255, 113, 256, 257, 258, 259, 112, 339, 340, 2, 341, 342, 343, 344, 31, 345, 118, 47, 142, 143, 144, 145, 146, 147, 148, 98, 99, 100, 19, 101, 53, 102, 103, 104, 105, 106, 107, 37, 108, 109, 110, 111, 38, 40, 41, 42, 43, 114, 115, 116, 117, 119, 346, 161, 162, 163, 347, 348, 349, 350, 351, 156, 157, 158, 159, 629, 630, 631, 632, 633, 634, 648, 649, 650, 651, 652, 653, 654, 655, 661, 662, 656, 657, 658] (by decide +kernel) (by decide +kernel)
set_option maxRecDepth 20000 in
theorem gL_law_X4_hand : GoodIn wsL_law (wsV RL 41 RX4 yX4_hand wsX4_hand) := goodIn_app (goodIn_of _ (by decide +kernel)) ggL_law_X4_hand
set_option maxRecDepth 20000 in
theorem ggL_law_X5_hand : GoodIn wsL_law wsX5_hand := goodIn_r _ [355, 281, 282, 283, 5, 284, 64, 181, 182, 183, 285, 286, 287, 288, 356, 357, 358, 359, 360, 361, 362, 208, 209, 210, 211, 212, 213, 214, 215, 216, 217, 218, 219, 188, 189, 190, 191, 192, 66, 193, 194, 195, 232, 233, 234, 235, 228, 229, 230, 231, 224, 225, 226, 227, 635, 636, 637, 638, 639, 640, 641, 642, 643, 644, 645, 646, 647] (by decide +kernel) (by decide +kernel)
set_option maxRecDepth 20000 in
theorem gL_law_X5_hand : GoodIn wsL_law (wsV RL 45 RX5 yX5_hand wsX5_hand) := goodIn_app (goodIn_of _ (by decide +kernel)) ggL_law_X5_hand
set_option maxRecDepth 20000 in
theorem ggL_law_X4_parcel : GoodIn wsL_law wsX4_parcel := goodIn_r _ [366, 16, 256, 257, 258, 15, 259, 112, 367, 131, 132, 133, 37, 368, 369, 370, 371, 113, 629, 630, 631, 632, 633, 634, 648, 649, 650, 651, 652, 653, 654, 655] (by decide +kernel) (by decide +kernel)
set_option maxRecDepth 20000 in
theorem gL_law_X4_parcel : GoodIn wsL_law (wsV RL 46 RX4 yX4_parcel wsX4_parcel) := goodIn_app (goodIn_of _ (by decide +kernel)) ggL_law_X4_parcel
set_option maxRecDepth 20000 in
theorem ggL_law_X5_parcel : GoodIn wsL_law wsX5_parcel := goodIn_r _ [375, 64, 285, 286, 287, 5, 288, 181, 182, 183, 376, 377, 378, 379, 208, 209, 210, 211, 200, 201, 202, 203, 635, 636, 637, 638, 639, 640, 641, 642, 643, 644, 645, 646, 647] (by decide +kernel) (by decide +kernel)
set_option maxRecDepth 20000 in
theorem gL_law_X5_parcel : GoodIn wsL_law (wsV RL 49 RX5 yX5_parcel wsX5_parcel) := goodIn_app (goodIn_of _ (by decide +kernel)) ggL_law_X5_parcel
set_option maxRecDepth 20000 in
theorem ggL_law_X4_text : GoodIn wsL_law wsX4_text := goodIn_r _ [383, 16, 339, 340, 2, 341, 384, 385, 386, 31, 387, 47, 138, 139, 140, 141, 142, 143, 144, 145, 146, 147, 148, 118, 149, 150, 151, 152, 153, 154, 155, 388, 389, 390, 629, 630, 631, 632, 633, 634, 648, 649, 650, 651, 652, 653, 654, 655, 661, 662] (by decide +kernel) (by decide +kernel)
end
section
set_option maxRecDepth 20000 in
theorem gL_law_X4_text : GoodIn wsL_law (wsV RL 50 RX4 yX4_text wsX4_text) := goodIn_app (goodIn_of _ (by decide +kernel)) ggL_law_X4_text
set_option maxRecDepth 20000 in
theorem ggL_law_X5_text : GoodIn wsL_law wsX5_text := goodIn_r _ [394, 73, 356, 357, 5, 358, 181, 182, 183, 395, 396, 397, 398, 208, 209, 210, 211, 64, 212, 213, 214, 215, 216, 217, 218, 219, 635, 636, 637, 638, 639, 640, 641, 642, 643, 644, 645, 646, 647] (by decide +kernel) (by decide +kernel)
set_option maxRecDepth 20000 in
theorem gL_law_X5_text : GoodIn wsL_law (wsV RL 53 RX5 yX5_text wsX5_text) := goodIn_app (goodIn_of _ (by decide +kernel)) ggL_law_X5_text
set_option maxRecDepth 20000 in
theorem ggL_law_X4_leaf : GoodIn wsL_law wsX4_leaf := goodIn_r _ [402, 16, 252, 253, 254, 15, 255, 113, 339, 340, 2, 341, 403, 404, 405, 31, 406, 138, 139, 140, 141, 142, 143, 144, 145, 146, 147, 148, 118, 47, 149, 150, 151, 152, 153, 154, 155, 384, 385, 386, 387, 388, 389, 390, 407, 408, 409, 410, 411, 412, 413, 414, 415, 416, 351, 343, 344, 345, 629, 630, 631, 632, 633, 634, 648, 649, 650, 651, 652, 653, 654, 655, 661, 662] (by decide +kernel) (by decide +kernel)
set_option maxRecDepth 20000 in
theorem gL_law_X4_leaf : GoodIn wsL_law (wsV RL 54 RX4 yX4_leaf wsX4_leaf) := goodIn_app (goodIn_of _ (by decide +kernel)) ggL_law_X4_leaf
set_option maxRecDepth 20000 in
theorem ggL_law_X5_leaf : GoodIn wsL_law wsX5_leaf := goodIn_r _ [420, 71, 281, 282, 283, 5, 284, 64, 181, 182, 183, 356, 357, 358, 421, 422, 423, 424, 72, 73, 395, 396, 397, 398, 208, 209, 210, 211, 212, 213, 214, 215, 216, 217, 218, 219, 425, 426, 427, 428, 429, 430, 431, 432, 433, 434, 435, 436, 437, 438, 439, 440, 635, 636, 637, 638, 639, 640, 641, 642, 643, 644, 645, 646, 647] (by decide +kernel) (by decide +kernel)
set_option maxRecDepth 20000 in
theorem gL_law_X5_leaf : GoodIn wsL_law (wsV RL 58 RX5 yX5_leaf wsX5_leaf) := goodIn_app (goodIn_of _ (by decide +kernel)) ggL_law_X5_leaf
set_option maxRecDepth 20000 in
theorem ggL_law_X4_of : GoodIn wsL_law wsX4_of := goodIn_r _ [444, 16, 252, 253, 254, 15, 255, 113, 445, 446, 447, 31, 448, 449, 412, 413, 414, 415, 404, 405, 406, 138, 139, 140, 141, 142, 143, 144, 145, 146, 147, 148, 118, 47, 149, 150, 151, 152, 153, 154, 155, 416, 385, 386, 387, 388, 389, 390, 351, 343, 344, 345, 450, 451, 452, 453, 454, 455, 456, 457, 629, 630, 631, 632, 633, 634, 648, 649, 650, 651, 652, 653, 654, 655, 661, 662] (by decide +kernel) (by decide +kernel)
set_option maxRecDepth 20000 in
theorem gL_law_X4_of : GoodIn wsL_law (wsV RL 59 RX4 yX4_of wsX4_of) := goodIn_app (goodIn_of _ (by decide +kernel)) ggL_law_X4_of
set_option maxRecDepth 20000 in
theorem ggL_law_X5_of : GoodIn wsL_law wsX5_of := goodIn_r _ [461, 281, 282, 283, 5, 284, 64, 181, 182, 183, 208, 209, 210, 211, 462, 463, 464, 465, 421, 422, 423, 424, 71, 72, 73, 395, 396, 397, 398, 212, 213, 214, 215, 216, 217, 218, 219, 429, 430, 431, 432, 433, 434, 435, 436, 437, 438, 439, 440, 466, 467, 468, 469, 470, 471, 472, 473, 635, 636, 637, 638, 639, 640, 641, 642, 643, 644, 645, 646, 647] (by decide +kernel) (by decide +kernel)
set_option maxRecDepth 20000 in
theorem gL_law_X5_of : GoodIn wsL_law (wsV RL 62 RX5 yX5_of wsX5_of) := goodIn_app (goodIn_of _ (by decide +kernel)) ggL_law_X5_of
set_option maxRecDepth 20000 in
theorem ggL_law_X4_count : GoodIn wsL_law wsX4_count := goodIn_r _ [477, 16, 27, 20, 454, 455, 456, 31, 457, 118, 47, 153, 154, 155, 388, 389, 390, 478, 479, 480, 15, 481, 113, 41, 40, 482, 451, 452, 453, 483, 484, 485, 486, 487, 488, 489, 490, 112, 491, 629, 630, 631, 632, 633, 634, 648, 649, 650, 651, 652, 653, 654, 655, 661, 662, 659, 660, 656, 657, 658] (by decide +kernel) (by decide +kernel)
set_option maxRecDepth 20000 in
theorem gL_law_X4_count : GoodIn wsL_law (wsV RL 63 RX4 yX4_count wsX4_count) := goodIn_app (goodIn_of _ (by decide +kernel)) ggL_law_X4_count
set_option maxRecDepth 20000 in
theorem ggL_law_X5_count : GoodIn wsL_law wsX5_count := goodIn_r _ [495, 64, 173, 192, 208, 209, 210, 5, 211, 470, 471, 472, 473, 212, 213, 214, 215, 216, 217, 218, 219, 496, 497, 498, 499, 466, 467, 468, 469, 462, 463, 464, 465, 421, 422, 423, 424, 71, 72, 73, 395, 396, 397, 398, 429, 430, 431, 432, 433, 434, 435, 436, 437, 438, 439, 440, 500, 501, 502, 503, 504, 505, 506, 507, 635, 636, 637, 638, 639, 640, 641, 642, 643, 644, 645, 646, 647] (by decide +kernel) (by decide +kernel)
set_option maxRecDepth 20000 in
theorem gL_law_X5_count : GoodIn wsL_law (wsV RL 66 RX5 yX5_count wsX5_count) := goodIn_app (goodIn_of _ (by decide +kernel)) ggL_law_X5_count
set_option maxRecDepth 20000 in
theorem ggL_law_X4_ifDone : GoodIn wsL_law wsX4_ifDone := goodIn_r _ [511, 16, 252, 253, 254, 15, 255, 113, 256, 257, 258, 259, 112, 512, 513, 514, 2, 515, 29, 516, 115, 116, 31, 117, 47, 118, 119, 109, 110, 111, 297, 298, 299, 300, 126, 127, 128, 129, 38, 130, 131, 132, 133, 37, 134, 135, 136, 137, 138, 139, 140, 141, 142, 143, 144, 145, 146, 147, 148, 149, 150, 151, 152, 153, 154, 155, 156, 157, 158, 159, 160, 161, 162, 163, 517, 518, 519, 520, 521, 446, 447, 448, 449, 412, 413, 414, 415, 404, 405, 406, 416, 385, 386, 387, 388, 389, 390, 351, 343, 344, 345, 629, 630, 631, 632, 633, 634, 648, 649, 650, 651, 652, 653, 654, 655, 661, 662] (by decide +kernel) (by decide +kernel)
set_option maxRecDepth 20000 in
theorem gL_law_X4_ifDone : GoodIn wsL_law (wsV RL 67 RX4 yX4_ifDone wsX4_ifDone) := goodIn_app (goodIn_of _ (by decide +kernel)) ggL_law_X4_ifDone
set_option maxRecDepth 20000 in
theorem ggL_law_X5_ifDone : GoodIn wsL_law wsX5_ifDone := goodIn_r _ [525, 281, 282, 283, 5, 284, 64, 181, 182, 183, 285, 286, 287, 288, 526, 527, 528, 529, 65, 193, 194, 195, 312, 313, 314, 315, 196, 197, 198, 199, 200, 201, 202, 203, 204, 205, 206, 207, 208, 209, 210, 211, 212, 213, 214, 215, 216, 217, 218, 219, 220, 221, 222, 223, 224, 225, 226, 227, 228, 229, 230, 231, 232, 233, 234, 235, 462, 463, 464, 465, 421, 422, 423, 424, 71, 72, 73, 395, 396, 397, 398, 429, 430, 431, 432, 433, 434, 435, 436, 437, 438, 439, 440, 635, 636, 637, 638, 639, 640, 641, 642, 643, 644, 645, 646, 647] (by decide +kernel) (by decide +kernel)
set_option maxRecDepth 20000 in
theorem gL_law_X5_ifDone : GoodIn wsL_law (wsV RL 70 RX5 yX5_ifDone wsX5_ifDone) := goodIn_app (goodIn_of _ (by decide +kernel)) ggL_law_X5_ifDone
set_option maxRecDepth 20000 in
theorem ggL_law_X4_ifAllDone : GoodIn wsL_law wsX4_ifAllDone := goodIn_r _ [533, 16, 252, 253, 254, 15, 255, 113, 512, 513, 514, 2, 515, 29, 516, 115, 116, 31, 117, 47, 118, 119, 109, 110, 111, 297, 298, 299, 300, 112, 126, 127, 128, 129, 38, 130, 131, 132, 133, 37, 134, 135, 136, 137, 138, 139, 140, 141, 142, 143, 144, 145, 146, 147, 148, 149, 150, 151, 152, 153, 154, 155, 156, 157, 158, 159, 160, 161, 162, 163, 517, 518, 519, 520, 521, 446, 447, 448, 449, 412, 413, 414, 415, 404, 405, 406, 416, 385, 386, 387, 388, 389, 390, 351, 343, 344, 345, 629, 630, 631, 632, 633, 634, 648, 649, 650, 651, 652, 653, 654, 655, 661, 662] (by decide +kernel) (by decide +kernel)
set_option maxRecDepth 20000 in
theorem gL_law_X4_ifAllDone : GoodIn wsL_law (wsV RL 71 RX4 yX4_ifAllDone wsX4_ifAllDone) := goodIn_app (goodIn_of _ (by decide +kernel)) ggL_law_X4_ifAllDone
set_option maxRecDepth 20000 in
theorem ggL_law_X5_ifAllDone : GoodIn wsL_law wsX5_ifAllDone := goodIn_r _ [537, 281, 282, 283, 5, 284, 64, 181, 182, 183, 208, 209, 210, 211, 526, 527, 528, 529, 65, 193, 194, 195, 312, 313, 314, 315, 196, 197, 198, 199, 200, 201, 202, 203, 204, 205, 206, 207, 212, 213, 214, 215, 216, 217, 218, 219, 220, 221, 222, 223, 224, 225, 226, 227, 228, 229, 230, 231, 232, 233, 234, 235, 462, 463, 464, 465, 421, 422, 423, 424, 71, 72, 73, 395, 396, 397, 398, 429, 430, 431, 432, 433, 434, 435, 436, 437, 438, 439, 440, 635, 636, 637, 638, 639, 640, 641, 642, 643, 644, 645, 646, 647] (by decide +kernel) (by decide +kernel)
set_option maxRecDepth 20000 in
theorem gL_law_X5_ifAllDone : GoodIn wsL_law (wsV RL 74 RX5 yX5_ifAllDone wsX5_ifAllDone) := goodIn_app (goodIn_of _ (by decide +kernel)) ggL_law_X5_ifAllDone
set_option maxRecDepth 20000 in
theorem ggL_law_X4_mending : GoodIn wsL_law wsX4_mending := goodIn_r _ [541, 16, 29, 252, 253, 254, 15, 255, 113, 516, 115, 116, 31, 117, 47, 118, 119, 109, 110, 111, 542, 543, 2, 544, 545, 274, 275, 276, 450, 451, 452, 453, 264, 127, 128, 129, 38, 130, 131, 132, 133, 37, 134, 135, 136, 137, 138, 139, 140, 141, 142, 143, 144, 145, 146, 147, 148, 149, 150, 151, 152, 153, 154, 155, 156, 157, 158, 159, 160, 161, 162, 163, 629, 630, 631, 632, 633, 634, 648, 649, 650, 651, 652, 653, 654, 655, 661, 662] (by decide +kernel) (by decide +kernel)
set_option maxRecDepth 20000 in
theorem gL_law_X4_mending : GoodIn wsL_law (wsV RL 75 RX4 yX4_mending wsX4_mending) := goodIn_app (goodIn_of _ (by decide +kernel)) ggL_law_X4_mending
set_option maxRecDepth 20000 in
theorem ggL_law_X5_mending : GoodIn wsL_law wsX5_mending := goodIn_r _ [549, 281, 282, 283, 5, 284, 64, 181, 182, 183, 550, 551, 552, 553, 316, 317, 318, 526, 527, 528, 529, 65, 193, 194, 195, 312, 313, 314, 315, 196, 197, 198, 199, 200, 201, 202, 203, 204, 205, 206, 207, 208, 209, 210, 211, 212, 213, 214, 215, 216, 217, 218, 219, 220, 221, 222, 223, 224, 225, 226, 227, 228, 229, 230, 231, 232, 233, 234, 235, 462, 463, 464, 465, 421, 422, 423, 424, 71, 72, 73, 395, 396, 397, 398, 429, 430, 431, 432, 433, 434, 435, 436, 437, 438, 439, 440, 635, 636, 637, 638, 639, 640, 641, 642, 643, 644, 645, 646, 647] (by decide +kernel) (by decide +kernel)
set_option maxRecDepth 20000 in
theorem gL_law_X5_mending : GoodIn wsL_law (wsV RL 78 RX5 yX5_mending wsX5_mending) := goodIn_app (goodIn_of _ (by decide +kernel)) ggL_law_X5_mending
set_option maxRecDepth 20000 in
theorem ggL_law_X4_rightFrom : GoodIn wsL_law wsX4_rightFrom := goodIn_r _ [557, 16, 252, 253, 254, 15, 255, 113, 512, 513, 514, 2, 515, 29, 516, 115, 116, 31, 117, 47, 118, 119, 109, 110, 111, 297, 298, 299, 300, 112, 126, 127, 128, 129, 38, 130, 131, 132, 133, 37, 134, 135, 136, 137, 138, 139, 140, 141, 142, 143, 144, 145, 146, 147, 148, 149, 150, 151, 152, 153, 154, 155, 156, 157, 158, 159, 160, 161, 162, 163, 450, 451, 452, 453, 629, 630, 631, 632, 633, 634, 648, 649, 650, 651, 652, 653, 654, 655, 661, 662] (by decide +kernel) (by decide +kernel)
set_option maxRecDepth 20000 in
theorem gL_law_X4_rightFrom : GoodIn wsL_law (wsV RL 79 RX4 yX4_rightFrom wsX4_rightFrom) := goodIn_app (goodIn_of _ (by decide +kernel)) ggL_law_X4_rightFrom
set_option maxRecDepth 20000 in
theorem ggL_law_X5_rightFrom : GoodIn wsL_law wsX5_rightFrom := goodIn_r _ [561, 64, 281, 282, 283, 5, 284, 181, 182, 183, 526, 527, 528, 529, 65, 193, 194, 195, 312, 313, 314, 315, 196, 197, 198, 199, 200, 201, 202, 203, 204, 205, 206, 207, 208, 209, 210, 211, 212, 213, 214, 215, 216, 217, 218, 219, 220, 221, 222, 223, 224, 225, 226, 227, 228, 229, 230, 231, 232, 233, 234, 235, 462, 463, 464, 465, 421, 422, 423, 424, 71, 72, 73, 395, 396, 397, 398, 429, 430, 431, 432, 433, 434, 435, 436, 437, 438, 439, 440, 635, 636, 637, 638, 639, 640, 641, 642, 643, 644, 645, 646, 647] (by decide +kernel) (by decide +kernel)
set_option maxRecDepth 20000 in
theorem gL_law_X5_rightFrom : GoodIn wsL_law (wsV RL 82 RX5 yX5_rightFrom wsX5_rightFrom) := goodIn_app (goodIn_of _ (by decide +kernel)) ggL_law_X5_rightFrom
set_option maxRecDepth 20000 in
theorem ggL_law_X4_put : GoodIn wsL_law wsX4_put := goodIn_r _ [565, 27, 566, 567, 26, 568, 569, 570, 571, 572, 573, 574, 575, 82, 59, 629, 630, 631, 632, 633, 634, 659, 660] (by decide +kernel) (by decide +kernel)
set_option maxRecDepth 20000 in
theorem gL_law_X4_put : GoodIn wsL_law (wsV RL 85 RX4 yX4_put wsX4_put) := goodIn_app (goodIn_of _ (by decide +kernel)) ggL_law_X4_put
set_option maxRecDepth 20000 in
theorem ggL_law_X5_put : GoodIn wsL_law wsX5_put := goodIn_r _ [579, 580, 173, 69, 181, 182, 5, 183, 635, 636, 637, 638, 639, 640, 641, 642, 643, 644, 645, 646, 647] (by decide +kernel) (by decide +kernel)
set_option maxRecDepth 20000 in
theorem gL_law_X5_put : GoodIn wsL_law (wsV RL 89 RX5 yX5_put wsX5_put) := goodIn_app (goodIn_of _ (by decide +kernel)) ggL_law_X5_put
set_option maxRecDepth 20000 in
theorem ggL_law_X4_wipe : GoodIn wsL_law wsX4_wipe := goodIn_r _ [584, 27, 164, 165, 166, 26, 167, 82, 629, 630, 631, 632, 633, 634, 659, 660] (by decide +kernel) (by decide +kernel)
set_option maxRecDepth 20000 in
theorem gL_law_X4_wipe : GoodIn wsL_law (wsV RL 90 RX4 yX4_wipe wsX4_wipe) := goodIn_app (goodIn_of _ (by decide +kernel)) ggL_law_X4_wipe
set_option maxRecDepth 20000 in
theorem ggL_law_X5_wipe : GoodIn wsL_law wsX5_wipe := goodIn_r _ [588, 173, 635, 636, 637, 638, 639, 640, 641, 642, 643, 644, 645, 646, 647] (by decide +kernel) (by decide +kernel)
set_option maxRecDepth 20000 in
theorem gL_law_X5_wipe : GoodIn wsL_law (wsV RL 93 RX5 yX5_wipe wsX5_wipe) := goodIn_app (goodIn_of _ (by decide +kernel)) ggL_law_X5_wipe
set_option maxRecDepth 20000 in
theorem ggL_law_X4_fault : GoodIn wsL_law wsX4_fault := goodIn_r _ [592, 27, 78, 79, 80, 26, 81, 82, 59, 83, 84, 85, 629, 630, 631, 632, 633, 634, 659, 660] (by decide +kernel) (by decide +kernel)
set_option maxRecDepth 20000 in
theorem gL_law_X4_fault : GoodIn wsL_law (wsV RL 94 RX4 yX4_fault wsX4_fault) := goodIn_app (goodIn_of _ (by decide +kernel)) ggL_law_X4_fault
set_option maxRecDepth 20000 in
theorem ggL_law_X5_fault : GoodIn wsL_law wsX5_fault := goodIn_r _ [596, 174, 175, 176, 5, 177, 172, 173, 69, 70, 178, 179, 180, 181, 182, 183, 635, 636, 637, 638, 639, 640, 641, 642, 643, 644, 645, 646, 647] (by decide +kernel) (by decide +kernel)
set_option maxRecDepth 20000 in
theorem gL_law_X5_fault : GoodIn wsL_law (wsV RL 97 RX5 yX5_fault wsX5_fault) := goodIn_app (goodIn_of _ (by decide +kernel)) ggL_law_X5_fault
set_option maxRecDepth 20000 in
theorem ggL_law_X4_undo : GoodIn wsL_law wsX4_undo := goodIn_r _ [600, 20, 16, 601, 602, 603, 19, 604, 103, 53, 102, 104, 105, 106, 15, 107, 37, 108, 109, 110, 111, 38, 112, 40, 41, 42, 43, 113, 114, 115, 116, 31, 117, 47, 118, 119, 629, 630, 631, 632, 633, 634, 656, 657, 658, 648, 649, 650, 651, 652, 653, 654, 655, 661, 662] (by decide +kernel) (by decide +kernel)
set_option maxRecDepth 20000 in
theorem gL_law_X4_undo : GoodIn wsL_law (wsV RL 98 RX4 yX4_undo wsX4_undo) := goodIn_app (goodIn_of _ (by decide +kernel)) ggL_law_X4_undo
set_option maxRecDepth 20000 in
theorem ggL_law_X5_undo : GoodIn wsL_law wsX5_undo := goodIn_r _ [608, 192, 66, 64, 193, 194, 5, 195, 635, 636, 637, 638, 639, 640, 641, 642, 643, 644, 645, 646, 647] (by decide +kernel) (by decide +kernel)
set_option maxRecDepth 20000 in
theorem gL_law_X5_undo : GoodIn wsL_law (wsV RL 101 RX5 yX5_undo wsX5_undo) := goodIn_app (goodIn_of _ (by decide +kernel)) ggL_law_X5_undo
set_option maxRecDepth 20000 in
theorem ggL_law_X4_save : GoodIn wsL_law wsX4_save := goodIn_r _ [612, 21, 16, 23, 613, 614, 2, 615, 616, 105, 106, 15, 107, 37, 108, 109, 110, 111, 38, 112, 40, 41, 42, 43, 113, 114, 115, 116, 31, 117, 47, 118, 119, 629, 630, 631, 632, 633, 634, 648, 649, 650, 651, 652, 653, 654, 655, 661, 662] (by decide +kernel) (by decide +kernel)
set_option maxRecDepth 20000 in
theorem gL_law_X4_save : GoodIn wsL_law (wsV RL 102 RX4 yX4_save wsX4_save) := goodIn_app (goodIn_of _ (by decide +kernel)) ggL_law_X4_save
set_option maxRecDepth 20000 in
theorem ggL_law_X5_save : GoodIn wsL_law wsX5_save := goodIn_r _ [620, 64, 67, 68, 181, 182, 5, 183, 193, 194, 195, 635, 636, 637, 638, 639, 640, 641, 642, 643, 644, 645, 646, 647] (by decide +kernel) (by decide +kernel)
set_option maxRecDepth 20000 in
theorem gL_law_X5_save : GoodIn wsL_law (wsV RL 105 RX5 yX5_save wsX5_save) := goodIn_app (goodIn_of _ (by decide +kernel)) ggL_law_X5_save
set_option maxRecDepth 20000 in
theorem ggL_law_X4_restore : GoodIn wsL_law wsX4_restore := goodIn_r _ [624, 23, 20, 16, 21, 613, 614, 2, 615, 98, 99, 100, 19, 101, 53, 102, 103, 104, 105, 106, 15, 107, 37, 108, 109, 110, 111, 38, 112, 40, 41, 42, 43, 113, 114, 115, 116, 31, 117, 47, 118, 119, 616, 629, 630, 631, 632, 633, 634, 648, 649, 650, 651, 652, 653, 654, 655, 656, 657, 658, 661, 662] (by decide +kernel) (by decide +kernel)
set_option maxRecDepth 20000 in
theorem gL_law_X4_restore : GoodIn wsL_law (wsV RL 106 RX4 yX4_restore wsX4_restore) := goodIn_app (goodIn_of _ (by decide +kernel)) ggL_law_X4_restore
set_option maxRecDepth 20000 in
theorem ggL_law_X5_restore : GoodIn wsL_law wsX5_restore := goodIn_r _ [628, 68, 67, 64, 181, 182, 5, 183, 188, 189, 190, 191, 192, 66, 193, 194, 195, 635, 636, 637, 638, 639, 640, 641, 642, 643, 644, 645, 646, 647] (by decide +kernel) (by decide +kernel)
set_option maxRecDepth 20000 in
theorem gL_law_X5_restore : GoodIn wsL_law (wsV RL 109 RX5 yX5_restore wsX5_restore) := goodIn_app (goodIn_of _ (by decide +kernel)) ggL_law_X5_restore
theorem dL_law_0 : decode cL_law 0 = .ok (.new 7, 3) := by decide +kernel
theorem dL_law_3 : decode cL_law 3 = .ok (.dup, 1) := by decide +kernel
theorem dL_law_4 : decode cL_law 4 = .ok (.invokespecial 9, 3) := by decide +kernel
theorem dL_law_7 : decode cL_law 7 = .ok (.astore_n 1, 1) := by decide +kernel
theorem dL_law_8 : decode cL_law 8 = .ok (.new 10, 3) := by decide +kernel
theorem dL_law_11 : decode cL_law 11 = .ok (.dup, 1) := by decide +kernel
theorem dL_law_12 : decode cL_law 12 = .ok (.invokespecial 12, 3) := by decide +kernel
theorem dL_law_15 : decode cL_law 15 = .ok (.astore_n 2, 1) := by decide +kernel
theorem dL_law_16 : decode cL_law 16 = .ok (.iconst 0, 1) := by decide +kernel
theorem dL_law_17 : decode cL_law 17 = .ok (.istore_n 3, 1) := by decide +kernel
theorem dL_law_18 : decode cL_law 18 = .ok (.iload_n 3, 1) := by decide +kernel
theorem dL_law_19 : decode cL_law 19 = .ok (.aload_n 0, 1) := by decide +kernel
theorem dL_law_20 : decode cL_law 20 = .ok (.arraylength, 1) := by decide +kernel
theorem dL_law_21 : decode cL_law 21 = .ok (.iconst 5, 1) := by decide +kernel
theorem dL_law_22 : decode cL_law 22 = .ok (.isub, 1) := by decide +kernel
theorem dL_law_23 : decode cL_law 23 = .ok (.if_icmp .gt 757, 3) := by decide +kernel
theorem dL_law_26 : decode cL_law 26 = .ok (.aload_n 0, 1) := by decide +kernel
theorem dL_law_27 : decode cL_law 27 = .ok (.iload_n 3, 1) := by decide +kernel
theorem dL_law_28 : decode cL_law 28 = .ok (.iaload, 1) := by decide +kernel
theorem dL_law_29 : decode cL_law 29 = .ok (.bipush 31, 2) := by decide +kernel
theorem dL_law_31 : decode cL_law 31 = .ok (.iand, 1) := by decide +kernel
theorem dL_law_32 : decode cL_law 32 = .ok (.tableswitch 742 0 21 #[104, 117, 130, 189, 212, 245, 278, 347, 380, 403, 446, 479, 502, 535, 558, 581, 604, 657, 670, 683, 696, 719], 104) := by decide +kernel
theorem dL_law_136 : decode cL_law 136 = .ok (.aload_n 1, 1) := by decide +kernel
theorem dL_law_137 : decode cL_law 137 = .ok (.invokevirtual 13, 3) := by decide +kernel
theorem dL_law_140 : decode cL_law 140 = .ok (.aload_n 2, 1) := by decide +kernel
theorem dL_law_141 : decode cL_law 141 = .ok (.invokevirtual 17, 3) := by decide +kernel
theorem dL_law_144 : decode cL_law 144 = .ok (.if_icmp .eq 630, 3) := by decide +kernel
theorem dL_law_147 : decode cL_law 147 = .ok (.iconst 0, 1) := by decide +kernel
theorem dL_law_148 : decode cL_law 148 = .ok (.ireturn, 1) := by decide +kernel
theorem dL_law_149 : decode cL_law 149 = .ok (.aload_n 1, 1) := by decide +kernel
theorem dL_law_150 : decode cL_law 150 = .ok (.invokevirtual 18, 3) := by decide +kernel
theorem dL_law_153 : decode cL_law 153 = .ok (.aload_n 2, 1) := by decide +kernel
theorem dL_law_154 : decode cL_law 154 = .ok (.invokevirtual 21, 3) := by decide +kernel
theorem dL_law_157 : decode cL_law 157 = .ok (.if_icmp .eq 617, 3) := by decide +kernel
theorem dL_law_160 : decode cL_law 160 = .ok (.iconst 0, 1) := by decide +kernel
theorem dL_law_161 : decode cL_law 161 = .ok (.ireturn, 1) := by decide +kernel
theorem dL_law_162 : decode cL_law 162 = .ok (.aload_n 1, 1) := by decide +kernel
theorem dL_law_163 : decode cL_law 163 = .ok (.aload_n 0, 1) := by decide +kernel
theorem dL_law_164 : decode cL_law 164 = .ok (.iload_n 3, 1) := by decide +kernel
theorem dL_law_165 : decode cL_law 165 = .ok (.iconst 1, 1) := by decide +kernel
theorem dL_law_166 : decode cL_law 166 = .ok (.iadd, 1) := by decide +kernel
theorem dL_law_167 : decode cL_law 167 = .ok (.iaload, 1) := by decide +kernel
theorem dL_law_168 : decode cL_law 168 = .ok (.aload_n 0, 1) := by decide +kernel
theorem dL_law_169 : decode cL_law 169 = .ok (.iload_n 3, 1) := by decide +kernel
theorem dL_law_170 : decode cL_law 170 = .ok (.iconst 2, 1) := by decide +kernel
theorem dL_law_171 : decode cL_law 171 = .ok (.iadd, 1) := by decide +kernel
theorem dL_law_172 : decode cL_law 172 = .ok (.iaload, 1) := by decide +kernel
theorem dL_law_173 : decode cL_law 173 = .ok (.aload_n 0, 1) := by decide +kernel
theorem dL_law_174 : decode cL_law 174 = .ok (.iload_n 3, 1) := by decide +kernel
theorem dL_law_175 : decode cL_law 175 = .ok (.iconst 3, 1) := by decide +kernel
theorem dL_law_176 : decode cL_law 176 = .ok (.iadd, 1) := by decide +kernel
theorem dL_law_177 : decode cL_law 177 = .ok (.iaload, 1) := by decide +kernel
theorem dL_law_178 : decode cL_law 178 = .ok (.ifCond .eq 7, 3) := by decide +kernel
theorem dL_law_181 : decode cL_law 181 = .ok (.iconst 1, 1) := by decide +kernel
theorem dL_law_182 : decode cL_law 182 = .ok (.goto 4, 3) := by decide +kernel
theorem dL_law_185 : decode cL_law 185 = .ok (.iconst 0, 1) := by decide +kernel
theorem dL_law_186 : decode cL_law 186 = .ok (.invokevirtual 22, 3) := by decide +kernel
theorem dL_law_189 : decode cL_law 189 = .ok (.aload_n 2, 1) := by decide +kernel
theorem dL_law_190 : decode cL_law 190 = .ok (.aload_n 0, 1) := by decide +kernel
theorem dL_law_191 : decode cL_law 191 = .ok (.iload_n 3, 1) := by decide +kernel
theorem dL_law_192 : decode cL_law 192 = .ok (.iconst 1, 1) := by decide +kernel
theorem dL_law_193 : decode cL_law 193 = .ok (.iadd, 1) := by decide +kernel
theorem dL_law_194 : decode cL_law 194 = .ok (.iaload, 1) := by decide +kernel
theorem dL_law_195 : decode cL_law 195 = .ok (.aload_n 0, 1) := by decide +kernel
theorem dL_law_196 : decode cL_law 196 = .ok (.iload_n 3, 1) := by decide +kernel
theorem dL_law_197 : decode cL_law 197 = .ok (.iconst 2, 1) := by decide +kernel
theorem dL_law_198 : decode cL_law 198 = .ok (.iadd, 1) := by decide +kernel
theorem dL_law_199 : decode cL_law 199 = .ok (.iaload, 1) := by decide +kernel
theorem dL_law_200 : decode cL_law 200 = .ok (.aload_n 0, 1) := by decide +kernel
theorem dL_law_201 : decode cL_law 201 = .ok (.iload_n 3, 1) := by decide +kernel
theorem dL_law_202 : decode cL_law 202 = .ok (.iconst 3, 1) := by decide +kernel
theorem dL_law_203 : decode cL_law 203 = .ok (.iadd, 1) := by decide +kernel
theorem dL_law_204 : decode cL_law 204 = .ok (.iaload, 1) := by decide +kernel
theorem dL_law_205 : decode cL_law 205 = .ok (.ifCond .eq 7, 3) := by decide +kernel
theorem dL_law_208 : decode cL_law 208 = .ok (.iconst 1, 1) := by decide +kernel
theorem dL_law_209 : decode cL_law 209 = .ok (.goto 4, 3) := by decide +kernel
theorem dL_law_212 : decode cL_law 212 = .ok (.iconst 0, 1) := by decide +kernel
theorem dL_law_213 : decode cL_law 213 = .ok (.invokevirtual 26, 3) := by decide +kernel
theorem dL_law_216 : decode cL_law 216 = .ok (.if_icmp .eq 558, 3) := by decide +kernel
theorem dL_law_219 : decode cL_law 219 = .ok (.iconst 0, 1) := by decide +kernel
theorem dL_law_220 : decode cL_law 220 = .ok (.ireturn, 1) := by decide +kernel
theorem dL_law_221 : decode cL_law 221 = .ok (.aload_n 1, 1) := by decide +kernel
theorem dL_law_222 : decode cL_law 222 = .ok (.aload_n 0, 1) := by decide +kernel
theorem dL_law_223 : decode cL_law 223 = .ok (.iload_n 3, 1) := by decide +kernel
theorem dL_law_224 : decode cL_law 224 = .ok (.iconst 1, 1) := by decide +kernel
theorem dL_law_225 : decode cL_law 225 = .ok (.iadd, 1) := by decide +kernel
theorem dL_law_226 : decode cL_law 226 = .ok (.iaload, 1) := by decide +kernel
theorem dL_law_227 : decode cL_law 227 = .ok (.invokevirtual 27, 3) := by decide +kernel
theorem dL_law_230 : decode cL_law 230 = .ok (.aload_n 2, 1) := by decide +kernel
theorem dL_law_231 : decode cL_law 231 = .ok (.aload_n 0, 1) := by decide +kernel
theorem dL_law_232 : decode cL_law 232 = .ok (.iload_n 3, 1) := by decide +kernel
theorem dL_law_233 : decode cL_law 233 = .ok (.iconst 1, 1) := by decide +kernel
theorem dL_law_234 : decode cL_law 234 = .ok (.iadd, 1) := by decide +kernel
theorem dL_law_235 : decode cL_law 235 = .ok (.iaload, 1) := by decide +kernel
theorem dL_law_236 : decode cL_law 236 = .ok (.invokevirtual 31, 3) := by decide +kernel
theorem dL_law_239 : decode cL_law 239 = .ok (.if_icmp .eq 535, 3) := by decide +kernel
theorem dL_law_242 : decode cL_law 242 = .ok (.iconst 0, 1) := by decide +kernel
theorem dL_law_243 : decode cL_law 243 = .ok (.ireturn, 1) := by decide +kernel
theorem dL_law_244 : decode cL_law 244 = .ok (.aload_n 1, 1) := by decide +kernel
theorem dL_law_245 : decode cL_law 245 = .ok (.aload_n 0, 1) := by decide +kernel
theorem dL_law_246 : decode cL_law 246 = .ok (.iload_n 3, 1) := by decide +kernel
theorem dL_law_247 : decode cL_law 247 = .ok (.iconst 1, 1) := by decide +kernel
theorem dL_law_248 : decode cL_law 248 = .ok (.iadd, 1) := by decide +kernel
theorem dL_law_249 : decode cL_law 249 = .ok (.iaload, 1) := by decide +kernel
theorem dL_law_250 : decode cL_law 250 = .ok (.aload_n 0, 1) := by decide +kernel
theorem dL_law_251 : decode cL_law 251 = .ok (.iload_n 3, 1) := by decide +kernel
theorem dL_law_252 : decode cL_law 252 = .ok (.iconst 2, 1) := by decide +kernel
theorem dL_law_253 : decode cL_law 253 = .ok (.iadd, 1) := by decide +kernel
theorem dL_law_254 : decode cL_law 254 = .ok (.iaload, 1) := by decide +kernel
theorem dL_law_255 : decode cL_law 255 = .ok (.invokevirtual 32, 3) := by decide +kernel
theorem dL_law_258 : decode cL_law 258 = .ok (.aload_n 2, 1) := by decide +kernel
theorem dL_law_259 : decode cL_law 259 = .ok (.aload_n 0, 1) := by decide +kernel
theorem dL_law_260 : decode cL_law 260 = .ok (.iload_n 3, 1) := by decide +kernel
theorem dL_law_261 : decode cL_law 261 = .ok (.iconst 1, 1) := by decide +kernel
theorem dL_law_262 : decode cL_law 262 = .ok (.iadd, 1) := by decide +kernel
theorem dL_law_263 : decode cL_law 263 = .ok (.iaload, 1) := by decide +kernel
theorem dL_law_264 : decode cL_law 264 = .ok (.aload_n 0, 1) := by decide +kernel
theorem dL_law_265 : decode cL_law 265 = .ok (.iload_n 3, 1) := by decide +kernel
theorem dL_law_266 : decode cL_law 266 = .ok (.iconst 2, 1) := by decide +kernel
theorem dL_law_267 : decode cL_law 267 = .ok (.iadd, 1) := by decide +kernel
theorem dL_law_268 : decode cL_law 268 = .ok (.iaload, 1) := by decide +kernel
theorem dL_law_269 : decode cL_law 269 = .ok (.invokevirtual 36, 3) := by decide +kernel
theorem dL_law_272 : decode cL_law 272 = .ok (.if_icmp .eq 502, 3) := by decide +kernel
theorem dL_law_275 : decode cL_law 275 = .ok (.iconst 0, 1) := by decide +kernel
theorem dL_law_276 : decode cL_law 276 = .ok (.ireturn, 1) := by decide +kernel
theorem dL_law_277 : decode cL_law 277 = .ok (.aload_n 1, 1) := by decide +kernel
theorem dL_law_278 : decode cL_law 278 = .ok (.aload_n 0, 1) := by decide +kernel
theorem dL_law_279 : decode cL_law 279 = .ok (.iload_n 3, 1) := by decide +kernel
theorem dL_law_280 : decode cL_law 280 = .ok (.iconst 1, 1) := by decide +kernel
theorem dL_law_281 : decode cL_law 281 = .ok (.iadd, 1) := by decide +kernel
theorem dL_law_282 : decode cL_law 282 = .ok (.iaload, 1) := by decide +kernel
theorem dL_law_283 : decode cL_law 283 = .ok (.aload_n 0, 1) := by decide +kernel
theorem dL_law_284 : decode cL_law 284 = .ok (.iload_n 3, 1) := by decide +kernel
theorem dL_law_285 : decode cL_law 285 = .ok (.iconst 2, 1) := by decide +kernel
theorem dL_law_286 : decode cL_law 286 = .ok (.iadd, 1) := by decide +kernel
theorem dL_law_287 : decode cL_law 287 = .ok (.iaload, 1) := by decide +kernel
theorem dL_law_288 : decode cL_law 288 = .ok (.invokevirtual 37, 3) := by decide +kernel
theorem dL_law_291 : decode cL_law 291 = .ok (.aload_n 2, 1) := by decide +kernel
theorem dL_law_292 : decode cL_law 292 = .ok (.aload_n 0, 1) := by decide +kernel
theorem dL_law_293 : decode cL_law 293 = .ok (.iload_n 3, 1) := by decide +kernel
theorem dL_law_294 : decode cL_law 294 = .ok (.iconst 1, 1) := by decide +kernel
theorem dL_law_295 : decode cL_law 295 = .ok (.iadd, 1) := by decide +kernel
theorem dL_law_296 : decode cL_law 296 = .ok (.iaload, 1) := by decide +kernel
theorem dL_law_297 : decode cL_law 297 = .ok (.aload_n 0, 1) := by decide +kernel
theorem dL_law_298 : decode cL_law 298 = .ok (.iload_n 3, 1) := by decide +kernel
theorem dL_law_299 : decode cL_law 299 = .ok (.iconst 2, 1) := by decide +kernel
theorem dL_law_300 : decode cL_law 300 = .ok (.iadd, 1) := by decide +kernel
theorem dL_law_301 : decode cL_law 301 = .ok (.iaload, 1) := by decide +kernel
theorem dL_law_302 : decode cL_law 302 = .ok (.invokevirtual 40, 3) := by decide +kernel
theorem dL_law_305 : decode cL_law 305 = .ok (.if_icmp .eq 469, 3) := by decide +kernel
theorem dL_law_308 : decode cL_law 308 = .ok (.iconst 0, 1) := by decide +kernel
theorem dL_law_309 : decode cL_law 309 = .ok (.ireturn, 1) := by decide +kernel
theorem dL_law_310 : decode cL_law 310 = .ok (.aload_n 1, 1) := by decide +kernel
theorem dL_law_311 : decode cL_law 311 = .ok (.aload_n 0, 1) := by decide +kernel
theorem dL_law_312 : decode cL_law 312 = .ok (.iload_n 3, 1) := by decide +kernel
theorem dL_law_313 : decode cL_law 313 = .ok (.iconst 1, 1) := by decide +kernel
theorem dL_law_314 : decode cL_law 314 = .ok (.iadd, 1) := by decide +kernel
theorem dL_law_315 : decode cL_law 315 = .ok (.iaload, 1) := by decide +kernel
theorem dL_law_316 : decode cL_law 316 = .ok (.aload_n 0, 1) := by decide +kernel
theorem dL_law_317 : decode cL_law 317 = .ok (.iload_n 3, 1) := by decide +kernel
theorem dL_law_318 : decode cL_law 318 = .ok (.iconst 2, 1) := by decide +kernel
theorem dL_law_319 : decode cL_law 319 = .ok (.iadd, 1) := by decide +kernel
theorem dL_law_320 : decode cL_law 320 = .ok (.iaload, 1) := by decide +kernel
theorem dL_law_321 : decode cL_law 321 = .ok (.aload_n 0, 1) := by decide +kernel
theorem dL_law_322 : decode cL_law 322 = .ok (.iload_n 3, 1) := by decide +kernel
theorem dL_law_323 : decode cL_law 323 = .ok (.iconst 3, 1) := by decide +kernel
theorem dL_law_324 : decode cL_law 324 = .ok (.iadd, 1) := by decide +kernel
theorem dL_law_325 : decode cL_law 325 = .ok (.iaload, 1) := by decide +kernel
theorem dL_law_326 : decode cL_law 326 = .ok (.aload_n 0, 1) := by decide +kernel
theorem dL_law_327 : decode cL_law 327 = .ok (.iload_n 3, 1) := by decide +kernel
theorem dL_law_328 : decode cL_law 328 = .ok (.iconst 4, 1) := by decide +kernel
theorem dL_law_329 : decode cL_law 329 = .ok (.iadd, 1) := by decide +kernel
theorem dL_law_330 : decode cL_law 330 = .ok (.iaload, 1) := by decide +kernel
theorem dL_law_331 : decode cL_law 331 = .ok (.ifCond .eq 7, 3) := by decide +kernel
theorem dL_law_334 : decode cL_law 334 = .ok (.iconst 1, 1) := by decide +kernel
theorem dL_law_335 : decode cL_law 335 = .ok (.goto 4, 3) := by decide +kernel
theorem dL_law_338 : decode cL_law 338 = .ok (.iconst 0, 1) := by decide +kernel
theorem dL_law_339 : decode cL_law 339 = .ok (.invokevirtual 41, 3) := by decide +kernel
theorem dL_law_342 : decode cL_law 342 = .ok (.aload_n 2, 1) := by decide +kernel
theorem dL_law_343 : decode cL_law 343 = .ok (.aload_n 0, 1) := by decide +kernel
theorem dL_law_344 : decode cL_law 344 = .ok (.iload_n 3, 1) := by decide +kernel
theorem dL_law_345 : decode cL_law 345 = .ok (.iconst 1, 1) := by decide +kernel
theorem dL_law_346 : decode cL_law 346 = .ok (.iadd, 1) := by decide +kernel
theorem dL_law_347 : decode cL_law 347 = .ok (.iaload, 1) := by decide +kernel
theorem dL_law_348 : decode cL_law 348 = .ok (.aload_n 0, 1) := by decide +kernel
theorem dL_law_349 : decode cL_law 349 = .ok (.iload_n 3, 1) := by decide +kernel
theorem dL_law_350 : decode cL_law 350 = .ok (.iconst 2, 1) := by decide +kernel
theorem dL_law_351 : decode cL_law 351 = .ok (.iadd, 1) := by decide +kernel
theorem dL_law_352 : decode cL_law 352 = .ok (.iaload, 1) := by decide +kernel
theorem dL_law_353 : decode cL_law 353 = .ok (.aload_n 0, 1) := by decide +kernel
theorem dL_law_354 : decode cL_law 354 = .ok (.iload_n 3, 1) := by decide +kernel
theorem dL_law_355 : decode cL_law 355 = .ok (.iconst 3, 1) := by decide +kernel
theorem dL_law_356 : decode cL_law 356 = .ok (.iadd, 1) := by decide +kernel
theorem dL_law_357 : decode cL_law 357 = .ok (.iaload, 1) := by decide +kernel
theorem dL_law_358 : decode cL_law 358 = .ok (.aload_n 0, 1) := by decide +kernel
theorem dL_law_359 : decode cL_law 359 = .ok (.iload_n 3, 1) := by decide +kernel
theorem dL_law_360 : decode cL_law 360 = .ok (.iconst 4, 1) := by decide +kernel
theorem dL_law_361 : decode cL_law 361 = .ok (.iadd, 1) := by decide +kernel
theorem dL_law_362 : decode cL_law 362 = .ok (.iaload, 1) := by decide +kernel
theorem dL_law_363 : decode cL_law 363 = .ok (.ifCond .eq 7, 3) := by decide +kernel
theorem dL_law_366 : decode cL_law 366 = .ok (.iconst 1, 1) := by decide +kernel
theorem dL_law_367 : decode cL_law 367 = .ok (.goto 4, 3) := by decide +kernel
theorem dL_law_370 : decode cL_law 370 = .ok (.iconst 0, 1) := by decide +kernel
theorem dL_law_371 : decode cL_law 371 = .ok (.invokevirtual 45, 3) := by decide +kernel
theorem dL_law_374 : decode cL_law 374 = .ok (.if_icmp .eq 400, 3) := by decide +kernel
theorem dL_law_377 : decode cL_law 377 = .ok (.iconst 0, 1) := by decide +kernel
theorem dL_law_378 : decode cL_law 378 = .ok (.ireturn, 1) := by decide +kernel
theorem dL_law_379 : decode cL_law 379 = .ok (.aload_n 1, 1) := by decide +kernel
theorem dL_law_380 : decode cL_law 380 = .ok (.aload_n 0, 1) := by decide +kernel
theorem dL_law_381 : decode cL_law 381 = .ok (.iload_n 3, 1) := by decide +kernel
theorem dL_law_382 : decode cL_law 382 = .ok (.iconst 1, 1) := by decide +kernel
theorem dL_law_383 : decode cL_law 383 = .ok (.iadd, 1) := by decide +kernel
theorem dL_law_384 : decode cL_law 384 = .ok (.iaload, 1) := by decide +kernel
theorem dL_law_385 : decode cL_law 385 = .ok (.aload_n 0, 1) := by decide +kernel
theorem dL_law_386 : decode cL_law 386 = .ok (.iload_n 3, 1) := by decide +kernel
theorem dL_law_387 : decode cL_law 387 = .ok (.iconst 2, 1) := by decide +kernel
theorem dL_law_388 : decode cL_law 388 = .ok (.iadd, 1) := by decide +kernel
theorem dL_law_389 : decode cL_law 389 = .ok (.iaload, 1) := by decide +kernel
theorem dL_law_390 : decode cL_law 390 = .ok (.invokevirtual 46, 3) := by decide +kernel
theorem dL_law_393 : decode cL_law 393 = .ok (.aload_n 2, 1) := by decide +kernel
theorem dL_law_394 : decode cL_law 394 = .ok (.aload_n 0, 1) := by decide +kernel
theorem dL_law_395 : decode cL_law 395 = .ok (.iload_n 3, 1) := by decide +kernel
theorem dL_law_396 : decode cL_law 396 = .ok (.iconst 1, 1) := by decide +kernel
theorem dL_law_397 : decode cL_law 397 = .ok (.iadd, 1) := by decide +kernel
theorem dL_law_398 : decode cL_law 398 = .ok (.iaload, 1) := by decide +kernel
theorem dL_law_399 : decode cL_law 399 = .ok (.aload_n 0, 1) := by decide +kernel
theorem dL_law_400 : decode cL_law 400 = .ok (.iload_n 3, 1) := by decide +kernel
theorem dL_law_401 : decode cL_law 401 = .ok (.iconst 2, 1) := by decide +kernel
theorem dL_law_402 : decode cL_law 402 = .ok (.iadd, 1) := by decide +kernel
theorem dL_law_403 : decode cL_law 403 = .ok (.iaload, 1) := by decide +kernel
theorem dL_law_404 : decode cL_law 404 = .ok (.invokevirtual 49, 3) := by decide +kernel
theorem dL_law_407 : decode cL_law 407 = .ok (.if_icmp .eq 367, 3) := by decide +kernel
theorem dL_law_410 : decode cL_law 410 = .ok (.iconst 0, 1) := by decide +kernel
theorem dL_law_411 : decode cL_law 411 = .ok (.ireturn, 1) := by decide +kernel
theorem dL_law_412 : decode cL_law 412 = .ok (.aload_n 1, 1) := by decide +kernel
theorem dL_law_413 : decode cL_law 413 = .ok (.aload_n 0, 1) := by decide +kernel
theorem dL_law_414 : decode cL_law 414 = .ok (.iload_n 3, 1) := by decide +kernel
theorem dL_law_415 : decode cL_law 415 = .ok (.iconst 1, 1) := by decide +kernel
theorem dL_law_416 : decode cL_law 416 = .ok (.iadd, 1) := by decide +kernel
theorem dL_law_417 : decode cL_law 417 = .ok (.iaload, 1) := by decide +kernel
theorem dL_law_418 : decode cL_law 418 = .ok (.invokevirtual 50, 3) := by decide +kernel
theorem dL_law_421 : decode cL_law 421 = .ok (.aload_n 2, 1) := by decide +kernel
theorem dL_law_422 : decode cL_law 422 = .ok (.aload_n 0, 1) := by decide +kernel
theorem dL_law_423 : decode cL_law 423 = .ok (.iload_n 3, 1) := by decide +kernel
theorem dL_law_424 : decode cL_law 424 = .ok (.iconst 1, 1) := by decide +kernel
theorem dL_law_425 : decode cL_law 425 = .ok (.iadd, 1) := by decide +kernel
theorem dL_law_426 : decode cL_law 426 = .ok (.iaload, 1) := by decide +kernel
theorem dL_law_427 : decode cL_law 427 = .ok (.invokevirtual 53, 3) := by decide +kernel
theorem dL_law_430 : decode cL_law 430 = .ok (.if_icmp .eq 344, 3) := by decide +kernel
theorem dL_law_433 : decode cL_law 433 = .ok (.iconst 0, 1) := by decide +kernel
theorem dL_law_434 : decode cL_law 434 = .ok (.ireturn, 1) := by decide +kernel
theorem dL_law_435 : decode cL_law 435 = .ok (.aload_n 1, 1) := by decide +kernel
theorem dL_law_436 : decode cL_law 436 = .ok (.aload_n 0, 1) := by decide +kernel
theorem dL_law_437 : decode cL_law 437 = .ok (.iload_n 3, 1) := by decide +kernel
theorem dL_law_438 : decode cL_law 438 = .ok (.iconst 1, 1) := by decide +kernel
theorem dL_law_439 : decode cL_law 439 = .ok (.iadd, 1) := by decide +kernel
theorem dL_law_440 : decode cL_law 440 = .ok (.iaload, 1) := by decide +kernel
theorem dL_law_441 : decode cL_law 441 = .ok (.aload_n 0, 1) := by decide +kernel
theorem dL_law_442 : decode cL_law 442 = .ok (.iload_n 3, 1) := by decide +kernel
theorem dL_law_443 : decode cL_law 443 = .ok (.iconst 2, 1) := by decide +kernel
theorem dL_law_444 : decode cL_law 444 = .ok (.iadd, 1) := by decide +kernel
theorem dL_law_445 : decode cL_law 445 = .ok (.iaload, 1) := by decide +kernel
theorem dL_law_446 : decode cL_law 446 = .ok (.aload_n 0, 1) := by decide +kernel
theorem dL_law_447 : decode cL_law 447 = .ok (.iload_n 3, 1) := by decide +kernel
theorem dL_law_448 : decode cL_law 448 = .ok (.iconst 3, 1) := by decide +kernel
theorem dL_law_449 : decode cL_law 449 = .ok (.iadd, 1) := by decide +kernel
theorem dL_law_450 : decode cL_law 450 = .ok (.iaload, 1) := by decide +kernel
theorem dL_law_451 : decode cL_law 451 = .ok (.invokevirtual 54, 3) := by decide +kernel
theorem dL_law_454 : decode cL_law 454 = .ok (.aload_n 2, 1) := by decide +kernel
theorem dL_law_455 : decode cL_law 455 = .ok (.aload_n 0, 1) := by decide +kernel
theorem dL_law_456 : decode cL_law 456 = .ok (.iload_n 3, 1) := by decide +kernel
theorem dL_law_457 : decode cL_law 457 = .ok (.iconst 1, 1) := by decide +kernel
theorem dL_law_458 : decode cL_law 458 = .ok (.iadd, 1) := by decide +kernel
theorem dL_law_459 : decode cL_law 459 = .ok (.iaload, 1) := by decide +kernel
theorem dL_law_460 : decode cL_law 460 = .ok (.aload_n 0, 1) := by decide +kernel
theorem dL_law_461 : decode cL_law 461 = .ok (.iload_n 3, 1) := by decide +kernel
theorem dL_law_462 : decode cL_law 462 = .ok (.iconst 2, 1) := by decide +kernel
theorem dL_law_463 : decode cL_law 463 = .ok (.iadd, 1) := by decide +kernel
theorem dL_law_464 : decode cL_law 464 = .ok (.iaload, 1) := by decide +kernel
theorem dL_law_465 : decode cL_law 465 = .ok (.aload_n 0, 1) := by decide +kernel
theorem dL_law_466 : decode cL_law 466 = .ok (.iload_n 3, 1) := by decide +kernel
theorem dL_law_467 : decode cL_law 467 = .ok (.iconst 3, 1) := by decide +kernel
theorem dL_law_468 : decode cL_law 468 = .ok (.iadd, 1) := by decide +kernel
theorem dL_law_469 : decode cL_law 469 = .ok (.iaload, 1) := by decide +kernel
theorem dL_law_470 : decode cL_law 470 = .ok (.invokevirtual 58, 3) := by decide +kernel
theorem dL_law_473 : decode cL_law 473 = .ok (.if_icmp .eq 301, 3) := by decide +kernel
theorem dL_law_476 : decode cL_law 476 = .ok (.iconst 0, 1) := by decide +kernel
theorem dL_law_477 : decode cL_law 477 = .ok (.ireturn, 1) := by decide +kernel
theorem dL_law_478 : decode cL_law 478 = .ok (.aload_n 1, 1) := by decide +kernel
theorem dL_law_479 : decode cL_law 479 = .ok (.aload_n 0, 1) := by decide +kernel
theorem dL_law_480 : decode cL_law 480 = .ok (.iload_n 3, 1) := by decide +kernel
theorem dL_law_481 : decode cL_law 481 = .ok (.iconst 1, 1) := by decide +kernel
theorem dL_law_482 : decode cL_law 482 = .ok (.iadd, 1) := by decide +kernel
theorem dL_law_483 : decode cL_law 483 = .ok (.iaload, 1) := by decide +kernel
theorem dL_law_484 : decode cL_law 484 = .ok (.aload_n 0, 1) := by decide +kernel
theorem dL_law_485 : decode cL_law 485 = .ok (.iload_n 3, 1) := by decide +kernel
theorem dL_law_486 : decode cL_law 486 = .ok (.iconst 2, 1) := by decide +kernel
theorem dL_law_487 : decode cL_law 487 = .ok (.iadd, 1) := by decide +kernel
theorem dL_law_488 : decode cL_law 488 = .ok (.iaload, 1) := by decide +kernel
theorem dL_law_489 : decode cL_law 489 = .ok (.invokevirtual 59, 3) := by decide +kernel
theorem dL_law_492 : decode cL_law 492 = .ok (.aload_n 2, 1) := by decide +kernel
theorem dL_law_493 : decode cL_law 493 = .ok (.aload_n 0, 1) := by decide +kernel
theorem dL_law_494 : decode cL_law 494 = .ok (.iload_n 3, 1) := by decide +kernel
theorem dL_law_495 : decode cL_law 495 = .ok (.iconst 1, 1) := by decide +kernel
theorem dL_law_496 : decode cL_law 496 = .ok (.iadd, 1) := by decide +kernel
theorem dL_law_497 : decode cL_law 497 = .ok (.iaload, 1) := by decide +kernel
theorem dL_law_498 : decode cL_law 498 = .ok (.aload_n 0, 1) := by decide +kernel
theorem dL_law_499 : decode cL_law 499 = .ok (.iload_n 3, 1) := by decide +kernel
theorem dL_law_500 : decode cL_law 500 = .ok (.iconst 2, 1) := by decide +kernel
theorem dL_law_501 : decode cL_law 501 = .ok (.iadd, 1) := by decide +kernel
theorem dL_law_502 : decode cL_law 502 = .ok (.iaload, 1) := by decide +kernel
theorem dL_law_503 : decode cL_law 503 = .ok (.invokevirtual 62, 3) := by decide +kernel
theorem dL_law_506 : decode cL_law 506 = .ok (.if_icmp .eq 268, 3) := by decide +kernel
theorem dL_law_509 : decode cL_law 509 = .ok (.iconst 0, 1) := by decide +kernel
theorem dL_law_510 : decode cL_law 510 = .ok (.ireturn, 1) := by decide +kernel
theorem dL_law_511 : decode cL_law 511 = .ok (.aload_n 1, 1) := by decide +kernel
theorem dL_law_512 : decode cL_law 512 = .ok (.aload_n 0, 1) := by decide +kernel
theorem dL_law_513 : decode cL_law 513 = .ok (.iload_n 3, 1) := by decide +kernel
theorem dL_law_514 : decode cL_law 514 = .ok (.iconst 1, 1) := by decide +kernel
theorem dL_law_515 : decode cL_law 515 = .ok (.iadd, 1) := by decide +kernel
theorem dL_law_516 : decode cL_law 516 = .ok (.iaload, 1) := by decide +kernel
theorem dL_law_517 : decode cL_law 517 = .ok (.invokevirtual 63, 3) := by decide +kernel
theorem dL_law_520 : decode cL_law 520 = .ok (.aload_n 2, 1) := by decide +kernel
theorem dL_law_521 : decode cL_law 521 = .ok (.aload_n 0, 1) := by decide +kernel
theorem dL_law_522 : decode cL_law 522 = .ok (.iload_n 3, 1) := by decide +kernel
theorem dL_law_523 : decode cL_law 523 = .ok (.iconst 1, 1) := by decide +kernel
theorem dL_law_524 : decode cL_law 524 = .ok (.iadd, 1) := by decide +kernel
theorem dL_law_525 : decode cL_law 525 = .ok (.iaload, 1) := by decide +kernel
theorem dL_law_526 : decode cL_law 526 = .ok (.invokevirtual 66, 3) := by decide +kernel
theorem dL_law_529 : decode cL_law 529 = .ok (.if_icmp .eq 245, 3) := by decide +kernel
theorem dL_law_532 : decode cL_law 532 = .ok (.iconst 0, 1) := by decide +kernel
theorem dL_law_533 : decode cL_law 533 = .ok (.ireturn, 1) := by decide +kernel
theorem dL_law_534 : decode cL_law 534 = .ok (.aload_n 1, 1) := by decide +kernel
theorem dL_law_535 : decode cL_law 535 = .ok (.aload_n 0, 1) := by decide +kernel
theorem dL_law_536 : decode cL_law 536 = .ok (.iload_n 3, 1) := by decide +kernel
theorem dL_law_537 : decode cL_law 537 = .ok (.iconst 1, 1) := by decide +kernel
theorem dL_law_538 : decode cL_law 538 = .ok (.iadd, 1) := by decide +kernel
theorem dL_law_539 : decode cL_law 539 = .ok (.iaload, 1) := by decide +kernel
theorem dL_law_540 : decode cL_law 540 = .ok (.aload_n 0, 1) := by decide +kernel
theorem dL_law_541 : decode cL_law 541 = .ok (.iload_n 3, 1) := by decide +kernel
theorem dL_law_542 : decode cL_law 542 = .ok (.iconst 2, 1) := by decide +kernel
theorem dL_law_543 : decode cL_law 543 = .ok (.iadd, 1) := by decide +kernel
theorem dL_law_544 : decode cL_law 544 = .ok (.iaload, 1) := by decide +kernel
theorem dL_law_545 : decode cL_law 545 = .ok (.invokevirtual 67, 3) := by decide +kernel
theorem dL_law_548 : decode cL_law 548 = .ok (.aload_n 2, 1) := by decide +kernel
theorem dL_law_549 : decode cL_law 549 = .ok (.aload_n 0, 1) := by decide +kernel
theorem dL_law_550 : decode cL_law 550 = .ok (.iload_n 3, 1) := by decide +kernel
theorem dL_law_551 : decode cL_law 551 = .ok (.iconst 1, 1) := by decide +kernel
theorem dL_law_552 : decode cL_law 552 = .ok (.iadd, 1) := by decide +kernel
theorem dL_law_553 : decode cL_law 553 = .ok (.iaload, 1) := by decide +kernel
theorem dL_law_554 : decode cL_law 554 = .ok (.aload_n 0, 1) := by decide +kernel
theorem dL_law_555 : decode cL_law 555 = .ok (.iload_n 3, 1) := by decide +kernel
theorem dL_law_556 : decode cL_law 556 = .ok (.iconst 2, 1) := by decide +kernel
theorem dL_law_557 : decode cL_law 557 = .ok (.iadd, 1) := by decide +kernel
theorem dL_law_558 : decode cL_law 558 = .ok (.iaload, 1) := by decide +kernel
theorem dL_law_559 : decode cL_law 559 = .ok (.invokevirtual 70, 3) := by decide +kernel
theorem dL_law_562 : decode cL_law 562 = .ok (.if_icmp .eq 212, 3) := by decide +kernel
theorem dL_law_565 : decode cL_law 565 = .ok (.iconst 0, 1) := by decide +kernel
theorem dL_law_566 : decode cL_law 566 = .ok (.ireturn, 1) := by decide +kernel
theorem dL_law_567 : decode cL_law 567 = .ok (.aload_n 1, 1) := by decide +kernel
theorem dL_law_568 : decode cL_law 568 = .ok (.aload_n 0, 1) := by decide +kernel
theorem dL_law_569 : decode cL_law 569 = .ok (.iload_n 3, 1) := by decide +kernel
theorem dL_law_570 : decode cL_law 570 = .ok (.iconst 1, 1) := by decide +kernel
theorem dL_law_571 : decode cL_law 571 = .ok (.iadd, 1) := by decide +kernel
theorem dL_law_572 : decode cL_law 572 = .ok (.iaload, 1) := by decide +kernel
theorem dL_law_573 : decode cL_law 573 = .ok (.invokevirtual 71, 3) := by decide +kernel
theorem dL_law_576 : decode cL_law 576 = .ok (.aload_n 2, 1) := by decide +kernel
theorem dL_law_577 : decode cL_law 577 = .ok (.aload_n 0, 1) := by decide +kernel
theorem dL_law_578 : decode cL_law 578 = .ok (.iload_n 3, 1) := by decide +kernel
theorem dL_law_579 : decode cL_law 579 = .ok (.iconst 1, 1) := by decide +kernel
theorem dL_law_580 : decode cL_law 580 = .ok (.iadd, 1) := by decide +kernel
theorem dL_law_581 : decode cL_law 581 = .ok (.iaload, 1) := by decide +kernel
theorem dL_law_582 : decode cL_law 582 = .ok (.invokevirtual 74, 3) := by decide +kernel
theorem dL_law_585 : decode cL_law 585 = .ok (.if_icmp .eq 189, 3) := by decide +kernel
theorem dL_law_588 : decode cL_law 588 = .ok (.iconst 0, 1) := by decide +kernel
theorem dL_law_589 : decode cL_law 589 = .ok (.ireturn, 1) := by decide +kernel
theorem dL_law_590 : decode cL_law 590 = .ok (.aload_n 1, 1) := by decide +kernel
theorem dL_law_591 : decode cL_law 591 = .ok (.aload_n 0, 1) := by decide +kernel
theorem dL_law_592 : decode cL_law 592 = .ok (.iload_n 3, 1) := by decide +kernel
theorem dL_law_593 : decode cL_law 593 = .ok (.iconst 1, 1) := by decide +kernel
theorem dL_law_594 : decode cL_law 594 = .ok (.iadd, 1) := by decide +kernel
theorem dL_law_595 : decode cL_law 595 = .ok (.iaload, 1) := by decide +kernel
theorem dL_law_596 : decode cL_law 596 = .ok (.invokevirtual 75, 3) := by decide +kernel
theorem dL_law_599 : decode cL_law 599 = .ok (.aload_n 2, 1) := by decide +kernel
theorem dL_law_600 : decode cL_law 600 = .ok (.aload_n 0, 1) := by decide +kernel
theorem dL_law_601 : decode cL_law 601 = .ok (.iload_n 3, 1) := by decide +kernel
theorem dL_law_602 : decode cL_law 602 = .ok (.iconst 1, 1) := by decide +kernel
theorem dL_law_603 : decode cL_law 603 = .ok (.iadd, 1) := by decide +kernel
theorem dL_law_604 : decode cL_law 604 = .ok (.iaload, 1) := by decide +kernel
theorem dL_law_605 : decode cL_law 605 = .ok (.invokevirtual 78, 3) := by decide +kernel
theorem dL_law_608 : decode cL_law 608 = .ok (.if_icmp .eq 166, 3) := by decide +kernel
theorem dL_law_611 : decode cL_law 611 = .ok (.iconst 0, 1) := by decide +kernel
theorem dL_law_612 : decode cL_law 612 = .ok (.ireturn, 1) := by decide +kernel
theorem dL_law_613 : decode cL_law 613 = .ok (.aload_n 1, 1) := by decide +kernel
theorem dL_law_614 : decode cL_law 614 = .ok (.aload_n 0, 1) := by decide +kernel
theorem dL_law_615 : decode cL_law 615 = .ok (.iload_n 3, 1) := by decide +kernel
theorem dL_law_616 : decode cL_law 616 = .ok (.iconst 1, 1) := by decide +kernel
theorem dL_law_617 : decode cL_law 617 = .ok (.iadd, 1) := by decide +kernel
theorem dL_law_618 : decode cL_law 618 = .ok (.iaload, 1) := by decide +kernel
theorem dL_law_619 : decode cL_law 619 = .ok (.invokevirtual 79, 3) := by decide +kernel
theorem dL_law_622 : decode cL_law 622 = .ok (.aload_n 2, 1) := by decide +kernel
theorem dL_law_623 : decode cL_law 623 = .ok (.aload_n 0, 1) := by decide +kernel
theorem dL_law_624 : decode cL_law 624 = .ok (.iload_n 3, 1) := by decide +kernel
theorem dL_law_625 : decode cL_law 625 = .ok (.iconst 1, 1) := by decide +kernel
theorem dL_law_626 : decode cL_law 626 = .ok (.iadd, 1) := by decide +kernel
theorem dL_law_627 : decode cL_law 627 = .ok (.iaload, 1) := by decide +kernel
theorem dL_law_628 : decode cL_law 628 = .ok (.invokevirtual 82, 3) := by decide +kernel
theorem dL_law_631 : decode cL_law 631 = .ok (.if_icmp .eq 143, 3) := by decide +kernel
theorem dL_law_634 : decode cL_law 634 = .ok (.iconst 0, 1) := by decide +kernel
theorem dL_law_635 : decode cL_law 635 = .ok (.ireturn, 1) := by decide +kernel
theorem dL_law_636 : decode cL_law 636 = .ok (.aload_n 1, 1) := by decide +kernel
theorem dL_law_637 : decode cL_law 637 = .ok (.aload_n 0, 1) := by decide +kernel
theorem dL_law_638 : decode cL_law 638 = .ok (.iload_n 3, 1) := by decide +kernel
theorem dL_law_639 : decode cL_law 639 = .ok (.iconst 1, 1) := by decide +kernel
theorem dL_law_640 : decode cL_law 640 = .ok (.iadd, 1) := by decide +kernel
theorem dL_law_641 : decode cL_law 641 = .ok (.iaload, 1) := by decide +kernel
theorem dL_law_642 : decode cL_law 642 = .ok (.i2l, 1) := by decide +kernel
theorem dL_law_643 : decode cL_law 643 = .ok (.bipush 32, 2) := by decide +kernel
theorem dL_law_645 : decode cL_law 645 = .ok (.lshl, 1) := by decide +kernel
theorem dL_law_646 : decode cL_law 646 = .ok (.aload_n 0, 1) := by decide +kernel
theorem dL_law_647 : decode cL_law 647 = .ok (.iload_n 3, 1) := by decide +kernel
theorem dL_law_648 : decode cL_law 648 = .ok (.iconst 2, 1) := by decide +kernel
theorem dL_law_649 : decode cL_law 649 = .ok (.iadd, 1) := by decide +kernel
theorem dL_law_650 : decode cL_law 650 = .ok (.iaload, 1) := by decide +kernel
theorem dL_law_651 : decode cL_law 651 = .ok (.i2l, 1) := by decide +kernel
theorem dL_law_652 : decode cL_law 652 = .ok (.ldc2_w 83, 3) := by decide +kernel
theorem dL_law_655 : decode cL_law 655 = .ok (.land, 1) := by decide +kernel
theorem dL_law_656 : decode cL_law 656 = .ok (.lor, 1) := by decide +kernel
theorem dL_law_657 : decode cL_law 657 = .ok (.invokevirtual 85, 3) := by decide +kernel
theorem dL_law_660 : decode cL_law 660 = .ok (.aload_n 2, 1) := by decide +kernel
theorem dL_law_661 : decode cL_law 661 = .ok (.aload_n 0, 1) := by decide +kernel
theorem dL_law_662 : decode cL_law 662 = .ok (.iload_n 3, 1) := by decide +kernel
theorem dL_law_663 : decode cL_law 663 = .ok (.iconst 1, 1) := by decide +kernel
theorem dL_law_664 : decode cL_law 664 = .ok (.iadd, 1) := by decide +kernel
theorem dL_law_665 : decode cL_law 665 = .ok (.iaload, 1) := by decide +kernel
theorem dL_law_666 : decode cL_law 666 = .ok (.i2l, 1) := by decide +kernel
theorem dL_law_667 : decode cL_law 667 = .ok (.bipush 32, 2) := by decide +kernel
theorem dL_law_669 : decode cL_law 669 = .ok (.lshl, 1) := by decide +kernel
theorem dL_law_670 : decode cL_law 670 = .ok (.aload_n 0, 1) := by decide +kernel
theorem dL_law_671 : decode cL_law 671 = .ok (.iload_n 3, 1) := by decide +kernel
theorem dL_law_672 : decode cL_law 672 = .ok (.iconst 2, 1) := by decide +kernel
theorem dL_law_673 : decode cL_law 673 = .ok (.iadd, 1) := by decide +kernel
theorem dL_law_674 : decode cL_law 674 = .ok (.iaload, 1) := by decide +kernel
theorem dL_law_675 : decode cL_law 675 = .ok (.i2l, 1) := by decide +kernel
theorem dL_law_676 : decode cL_law 676 = .ok (.ldc2_w 83, 3) := by decide +kernel
theorem dL_law_679 : decode cL_law 679 = .ok (.land, 1) := by decide +kernel
theorem dL_law_680 : decode cL_law 680 = .ok (.lor, 1) := by decide +kernel
theorem dL_law_681 : decode cL_law 681 = .ok (.invokevirtual 89, 3) := by decide +kernel
theorem dL_law_684 : decode cL_law 684 = .ok (.if_icmp .eq 90, 3) := by decide +kernel
theorem dL_law_687 : decode cL_law 687 = .ok (.iconst 0, 1) := by decide +kernel
theorem dL_law_688 : decode cL_law 688 = .ok (.ireturn, 1) := by decide +kernel
theorem dL_law_689 : decode cL_law 689 = .ok (.aload_n 1, 1) := by decide +kernel
theorem dL_law_690 : decode cL_law 690 = .ok (.invokevirtual 90, 3) := by decide +kernel
theorem dL_law_693 : decode cL_law 693 = .ok (.aload_n 2, 1) := by decide +kernel
theorem dL_law_694 : decode cL_law 694 = .ok (.invokevirtual 93, 3) := by decide +kernel
theorem dL_law_697 : decode cL_law 697 = .ok (.if_icmp .eq 77, 3) := by decide +kernel
theorem dL_law_700 : decode cL_law 700 = .ok (.iconst 0, 1) := by decide +kernel
theorem dL_law_701 : decode cL_law 701 = .ok (.ireturn, 1) := by decide +kernel
theorem dL_law_702 : decode cL_law 702 = .ok (.aload_n 1, 1) := by decide +kernel
theorem dL_law_703 : decode cL_law 703 = .ok (.invokevirtual 94, 3) := by decide +kernel
theorem dL_law_706 : decode cL_law 706 = .ok (.aload_n 2, 1) := by decide +kernel
theorem dL_law_707 : decode cL_law 707 = .ok (.invokevirtual 97, 3) := by decide +kernel
theorem dL_law_710 : decode cL_law 710 = .ok (.if_icmp .eq 64, 3) := by decide +kernel
theorem dL_law_713 : decode cL_law 713 = .ok (.iconst 0, 1) := by decide +kernel
theorem dL_law_714 : decode cL_law 714 = .ok (.ireturn, 1) := by decide +kernel
theorem dL_law_715 : decode cL_law 715 = .ok (.aload_n 1, 1) := by decide +kernel
theorem dL_law_716 : decode cL_law 716 = .ok (.invokevirtual 98, 3) := by decide +kernel
theorem dL_law_719 : decode cL_law 719 = .ok (.aload_n 2, 1) := by decide +kernel
theorem dL_law_720 : decode cL_law 720 = .ok (.invokevirtual 101, 3) := by decide +kernel
theorem dL_law_723 : decode cL_law 723 = .ok (.if_icmp .eq 51, 3) := by decide +kernel
theorem dL_law_726 : decode cL_law 726 = .ok (.iconst 0, 1) := by decide +kernel
theorem dL_law_727 : decode cL_law 727 = .ok (.ireturn, 1) := by decide +kernel
theorem dL_law_728 : decode cL_law 728 = .ok (.aload_n 1, 1) := by decide +kernel
theorem dL_law_729 : decode cL_law 729 = .ok (.aload_n 0, 1) := by decide +kernel
theorem dL_law_730 : decode cL_law 730 = .ok (.iload_n 3, 1) := by decide +kernel
theorem dL_law_731 : decode cL_law 731 = .ok (.iconst 1, 1) := by decide +kernel
theorem dL_law_732 : decode cL_law 732 = .ok (.iadd, 1) := by decide +kernel
theorem dL_law_733 : decode cL_law 733 = .ok (.iaload, 1) := by decide +kernel
theorem dL_law_734 : decode cL_law 734 = .ok (.invokevirtual 102, 3) := by decide +kernel
theorem dL_law_737 : decode cL_law 737 = .ok (.aload_n 2, 1) := by decide +kernel
theorem dL_law_738 : decode cL_law 738 = .ok (.aload_n 0, 1) := by decide +kernel
theorem dL_law_739 : decode cL_law 739 = .ok (.iload_n 3, 1) := by decide +kernel
theorem dL_law_740 : decode cL_law 740 = .ok (.iconst 1, 1) := by decide +kernel
theorem dL_law_741 : decode cL_law 741 = .ok (.iadd, 1) := by decide +kernel
theorem dL_law_742 : decode cL_law 742 = .ok (.iaload, 1) := by decide +kernel
theorem dL_law_743 : decode cL_law 743 = .ok (.invokevirtual 105, 3) := by decide +kernel
theorem dL_law_746 : decode cL_law 746 = .ok (.if_icmp .eq 28, 3) := by decide +kernel
theorem dL_law_749 : decode cL_law 749 = .ok (.iconst 0, 1) := by decide +kernel
theorem dL_law_750 : decode cL_law 750 = .ok (.ireturn, 1) := by decide +kernel
theorem dL_law_751 : decode cL_law 751 = .ok (.aload_n 1, 1) := by decide +kernel
theorem dL_law_752 : decode cL_law 752 = .ok (.aload_n 0, 1) := by decide +kernel
theorem dL_law_753 : decode cL_law 753 = .ok (.iload_n 3, 1) := by decide +kernel
theorem dL_law_754 : decode cL_law 754 = .ok (.iconst 1, 1) := by decide +kernel
theorem dL_law_755 : decode cL_law 755 = .ok (.iadd, 1) := by decide +kernel
theorem dL_law_756 : decode cL_law 756 = .ok (.iaload, 1) := by decide +kernel
theorem dL_law_757 : decode cL_law 757 = .ok (.invokevirtual 106, 3) := by decide +kernel
theorem dL_law_760 : decode cL_law 760 = .ok (.aload_n 2, 1) := by decide +kernel
theorem dL_law_761 : decode cL_law 761 = .ok (.aload_n 0, 1) := by decide +kernel
theorem dL_law_762 : decode cL_law 762 = .ok (.iload_n 3, 1) := by decide +kernel
theorem dL_law_763 : decode cL_law 763 = .ok (.iconst 1, 1) := by decide +kernel
theorem dL_law_764 : decode cL_law 764 = .ok (.iadd, 1) := by decide +kernel
theorem dL_law_765 : decode cL_law 765 = .ok (.iaload, 1) := by decide +kernel
theorem dL_law_766 : decode cL_law 766 = .ok (.invokevirtual 109, 3) := by decide +kernel
theorem dL_law_769 : decode cL_law 769 = .ok (.if_icmp .eq 5, 3) := by decide +kernel
theorem dL_law_772 : decode cL_law 772 = .ok (.iconst 0, 1) := by decide +kernel
theorem dL_law_773 : decode cL_law 773 = .ok (.ireturn, 1) := by decide +kernel
theorem dL_law_774 : decode cL_law 774 = .ok (.iinc 3 5, 3) := by decide +kernel
theorem dL_law_777 : decode cL_law 777 = .ok (.goto (-759), 3) := by decide +kernel
theorem dL_law_780 : decode cL_law 780 = .ok (.iconst 1, 1) := by decide +kernel
theorem dL_law_781 : decode cL_law 781 = .ok (.ireturn, 1) := by decide +kernel
end
section
/-! ===== lists of leaves, and how a binder's cells hold one ===== -/
def AL (r : Nat → Int) (L : List Nat) : Prop := ∀ (k : Nat) (h : k < L.length), r k = ((L[k]'h : Nat) : Int)
def Bd (D : va_G) (sk : Sk) (b : Nat) : Prop := sk b = some (eO 0 [some (.ref (b + 1)), none]) ∧ sk (b + 1) = some (eA D 10 60)
/-- the binder at b holds the row L, in order -/
def BA (v : Mem) (b : Nat) (L : List Nat) : Prop := v b 1 = (L.length : Int) ∧ L.length ≤ 60 ∧ AL (v (b + 1)) L ∧ L.Pairwise (· ≤ ·) ∧ ∀ x ∈ L, x < 1600
/-- nothing but the binder at b changed -/
def fr (v v' : Mem) (b : Nat) : Prop := ∀ a, a ≠ b → a ≠ b + 1 → v' a = v a
def isPl (L : List Nat) (x : Int) (p : Nat) : Prop := p ≤ L.length ∧ (∀ (k : Nat) (h : k < L.length), k < p → ((L[k]'h : Nat) : Int) < x) ∧ ∀ (k : Nat) (h : k < L.length), p ≤ k → x ≤ ((L[k]'h : Nat) : Int)
def insL (L : List Nat) (x : Nat) : List Nat := if L.length < 60 then L ++ [x] else L
def remA (L : List Nat) (n : Nat) : List Nat := L.filter (fun x => !(x / 16 == n))
def remE (L : List Nat) (n : Nat) : List Nat := match (L.filter (fun x => x / 16 == n)).min? with
  | none => L
  | some x => L.erase x
def cntN (L : List Nat) (n : Nat) : Nat := L.countP (fun x => x / 16 == n)
def isE (L : List Nat) (n : Nat) (z : Int) : Prop := (z = -6 ∧ ∀ x ∈ L, x / 16 ≠ n) ∨ ∃ x ∈ L, x / 16 = n ∧ z = ((x % 16 : Nat) : Int) ∧ ∀ y ∈ L, y / 16 = n → x % 16 ≤ y % 16
def isLt (L : List Nat) (n : Nat) (z : Int) : Prop := (z = -6 ∧ ∀ x ∈ L, x / 16 ≠ n) ∨ ∃ x ∈ L, x / 16 = n ∧ z = ((x % 16 : Nat) : Int) ∧ ∀ y ∈ L, y / 16 = n → y % 16 ≤ x % 16
def chk (L : List Nat) : Nat := (L.map (fun x => x / 16 * (x % 16 + 1))).sum
theorem fr.refl (v : Mem) (b : Nat) : fr v v b := fun _ _ _ => rfl
theorem fr.trans {v w u : Mem} {b : Nat} (h1 : fr v w b) (h2 : fr w u b) : fr v u b := fun a ha hb => (h2 a ha hb).trans (h1 a ha hb)
theorem AL.at {r : Nat → Int} {L : List Nat} (h : AL r L) {i : Int} (h0 : 0 ≤ i) (h1 : i < (L.length : Int)) : ∃ (hk : i.toNat < L.length), r i.toNat = ((L[i.toNat]'hk : Nat) : Int) := ⟨by omega, h _ _⟩
theorem BA.lt {v : Mem} {b : Nat} {L : List Nat} (h : BA v b L) {k : Nat} (hk : k < L.length) : L[k] < 1600 := h.2.2.2.2 _ (List.getElem_mem hk)
theorem BA.mono {v : Mem} {b : Nat} {L : List Nat} (h : BA v b L) {i j : Nat} (hi : i < L.length) (hj : j < L.length) (hij : i ≤ j) : L[i] ≤ L[j] := by
  rcases Nat.lt_or_ge i j with q | q
  · exact List.pairwise_iff_getElem.mp h.2.2.2.1 i j hi hj q
  · have : i = j := by omega
    subst this; exact Nat.le_refl _
theorem BA.kept {v w : Mem} {b : Nat} {L : List Nat} (h : BA v b L) (h1 : w b = v b) (h2 : w (b + 1) = v (b + 1)) : BA w b L := by
  unfold BA at h ⊢
  rw [h1, h2]
  exact h
theorem AL_cut {r : Nat → Int} {L : List Nat} (h : AL r L) {f t : Nat} (hft : f ≤ t) (ht : t ≤ L.length) : AL (cpy r r t f (L.length - t)) (L.take f ++ L.drop t) := by
  intro k hk
  have hlen : (L.take f ++ L.drop t).length = f + (L.length - t) := by simp; omega
  rw [List.getElem_append]
  by_cases q : k < f
  · have q' : k < (L.take f).length := by simp; omega
    rw [dif_pos q', List.getElem_take]
    unfold cpy
    rw [if_neg (by omega)]
    exact h k (by omega)
  · have q' : ¬ k < (L.take f).length := by simp; omega
    rw [dif_neg q', List.getElem_drop]
    unfold cpy
    rw [if_pos (by omega), h (t + (k - f)) (by omega)]
    congr 2
    simp
    omega
theorem AL_ins {r : Nat → Int} {L : List Nat} (h : AL r L) {p x : Nat} (hp : p ≤ L.length) : AL (upE (cpy r r p (p + 1) (L.length - p)) p (x : Int)) (L.take p ++ x :: L.drop p) := by
  intro k hk
  have hlen : (L.take p ++ x :: L.drop p).length = L.length + 1 := by simp; omega
  rw [List.getElem_append]
  by_cases q : k < p
  · have q' : k < (L.take p).length := by simp; omega
    rw [dif_pos q', List.getElem_take, upE_n _ _ (by omega)]
    unfold cpy
    rw [if_neg (by omega)]
    exact h k (by omega)
  · have q' : ¬ k < (L.take p).length := by simp; omega
    rw [dif_neg q']
    have hl : (L.take p).length = p := by simp; omega
    by_cases q2 : k = p
    · subst q2
      rw [upE_s]
      simp [hl]
    · obtain ⟨j, hj⟩ : ∃ j, k - (L.take p).length = j + 1 := ⟨k - p - 1, by omega⟩
      rw [upE_n _ _ q2]
      simp only [hj, List.getElem_cons_succ, List.getElem_drop]
      unfold cpy
      rw [if_pos (by omega), h (p + (k - (p + 1))) (by omega)]
      congr 2
      omega
theorem cut_perm (L : List Nat) (p x : Nat) : (L.take p ++ x :: L.drop p).Perm (L ++ [x]) := by
  have h1 : (L.take p ++ x :: L.drop p).Perm (x :: (L.take p ++ L.drop p)) := List.perm_middle
  rw [List.take_append_drop] at h1
  exact h1.trans (by simpa using (List.perm_append_comm (l₁ := [x]) (l₂ := L)))
theorem ins_sorted {L : List Nat} {p x : Nat} (hs : L.Pairwise (· ≤ ·)) (hp : isPl L (x : Int) p) : (L.take p ++ x :: L.drop p).Pairwise (· ≤ ·) := by
  obtain ⟨h1, h2, h3⟩ := hp
  have hs2 := hs
  rw [← List.take_append_drop p L, List.pairwise_append] at hs2
  rw [List.pairwise_append]
  refine ⟨hs2.1, List.pairwise_cons.mpr ⟨fun y hy => ?_, hs2.2.1⟩, fun y hy z hz => ?_⟩
  · obtain ⟨k, hk, rfl⟩ := List.getElem_of_mem hy
    rw [List.getElem_drop]
    have := h3 (p + k) (by simp at hk; omega) (by omega)
    omega
  · rcases List.mem_cons.mp hz with rfl | hz
    · obtain ⟨k, hk, rfl⟩ := List.getElem_of_mem hy
      rw [List.getElem_take]
      simp at hk
      have := h2 k (by omega) (by omega)
      omega
    · exact hs2.2.2 y hy z hz
theorem cut_sorted {L : List Nat} {f t : Nat} (hs : L.Pairwise (· ≤ ·)) (hft : f ≤ t) : (L.take f ++ L.drop t).Pairwise (· ≤ ·) := by
  refine List.Pairwise.sublist ?_ hs
  have h1 : (L.drop t).Sublist (L.drop f) := by
    rw [show t = f + (t - f) by omega, ← List.drop_drop]
    exact List.drop_sublist _ _
  have h2 := List.Sublist.append (List.Sublist.refl (L.take f)) h1
  rwa [List.take_append_drop] at h2
theorem cut_mem {L : List Nat} {f t y : Nat} (h : y ∈ L.take f ++ L.drop t) : y ∈ L := by
  rcases List.mem_append.mp h with h | h
  · exact List.mem_of_mem_take h
  · exact List.mem_of_mem_drop h
/-- the leaves with a number stand side by side -/
def isRg (L : List Nat) (n p q : Nat) : Prop := isPl L ((n : Int) * 16) p ∧ p ≤ q ∧ q ≤ L.length ∧ (∀ (k : Nat) (h : k < L.length), p ≤ k → k < q → (L[k]'h) / 16 = n) ∧ ∀ (k : Nat) (h : k < L.length), q ≤ k → n < (L[k]'h) / 16
theorem rg_split {L : List Nat} {n p q : Nat} (h : isRg L n p q) : L = L.take p ++ ((L.drop p).take (q - p) ++ L.drop q) := by
  have h1 : L.drop q = (L.drop p).drop (q - p) := by rw [List.drop_drop]; congr 1; have := h.2.1; omega
  rw [h1, List.take_append_drop, List.take_append_drop]
theorem rg_lo {L : List Nat} {n p q y : Nat} (h : isRg L n p q) (hy : y ∈ L.take p) : y / 16 < n := by
  obtain ⟨k, hk, rfl⟩ := List.getElem_of_mem hy
  rw [List.getElem_take]
  simp at hk
  have := h.1.2.1 k (by omega) (by omega)
  omega
theorem rg_mid {L : List Nat} {n p q y : Nat} (h : isRg L n p q) (hy : y ∈ (L.drop p).take (q - p)) : y / 16 = n := by
  obtain ⟨k, hk, rfl⟩ := List.getElem_of_mem hy
  rw [List.getElem_take, List.getElem_drop]
  simp at hk
  exact h.2.2.2.1 _ (by omega) (by omega) (by omega)
theorem rg_hi {L : List Nat} {n p q y : Nat} (h : isRg L n p q) (hy : y ∈ L.drop q) : n < y / 16 := by
  obtain ⟨k, hk, rfl⟩ := List.getElem_of_mem hy
  rw [List.getElem_drop]
  simp at hk
  exact h.2.2.2.2 _ (by omega) (by omega)
theorem rg_filter {L : List Nat} {n p q : Nat} (h : isRg L n p q) : L.filter (fun x => x / 16 == n) = (L.drop p).take (q - p) := by
  have e := rg_split h
  have h1 : (L.take p).filter (fun x => x / 16 == n) = [] := List.filter_eq_nil_iff.mpr (fun y hy => by have := rg_lo h hy; simp; omega)
  have h2 : ((L.drop p).take (q - p)).filter (fun x => x / 16 == n) = (L.drop p).take (q - p) := List.filter_eq_self.mpr (fun y hy => by have := rg_mid h hy; simp [this])
  have h3 : (L.drop q).filter (fun x => x / 16 == n) = [] := List.filter_eq_nil_iff.mpr (fun y hy => by have := rg_hi h hy; simp; omega)
  calc L.filter (fun x => x / 16 == n) = (L.take p ++ ((L.drop p).take (q - p) ++ L.drop q)).filter (fun x => x / 16 == n) := congrArg _ e
    _ = _ := by rw [List.filter_append, List.filter_append, h1, h2, h3]; simp
theorem rg_remA {L : List Nat} {n p q : Nat} (h : isRg L n p q) : L.take p ++ L.drop q = remA L n := by
  have e := rg_split h
  have h1 : (L.take p).filter (fun x => !(x / 16 == n)) = L.take p := List.filter_eq_self.mpr (fun y hy => by have := rg_lo h hy; simp; omega)
  have h2 : ((L.drop p).take (q - p)).filter (fun x => !(x / 16 == n)) = [] := List.filter_eq_nil_iff.mpr (fun y hy => by have := rg_mid h hy; simp [this])
  have h3 : (L.drop q).filter (fun x => !(x / 16 == n)) = L.drop q := List.filter_eq_self.mpr (fun y hy => by have := rg_hi h hy; simp; omega)
  have : remA L n = (L.take p ++ ((L.drop p).take (q - p) ++ L.drop q)).filter (fun x => !(x / 16 == n)) := congrArg _ e
  rw [this, List.filter_append, List.filter_append, h1, h2, h3]
  simp
theorem rg_cnt {L : List Nat} {n p q : Nat} (h : isRg L n p q) : cntN L n = q - p := by
  unfold cntN
  rw [List.countP_eq_length_filter, rg_filter h]
  have h1 := h.2.2.1
  simp
  omega
theorem rg_mem {L : List Nat} {n p q y : Nat} (h : isRg L n p q) (hy : y ∈ L) (hn : y / 16 = n) : ∃ (k : Nat) (hk : k < L.length), p ≤ k ∧ k < q ∧ y = L[k] := by
  obtain ⟨k, hk, rfl⟩ := List.getElem_of_mem hy
  refine ⟨k, hk, ?_, ?_, rfl⟩
  · rcases Nat.lt_or_ge k p with z | z
    · have := h.1.2.1 k hk z
      omega
    · exact z
  · rcases Nat.lt_or_ge k q with z | z
    · exact z
    · have := h.2.2.2.2 k hk z
      omega
theorem take1_drop {L : List Nat} {p : Nat} (hp : p < L.length) : L.take p ++ L.drop (p + 1) = L.eraseIdx p := by
  rw [List.eraseIdx_eq_take_drop_succ]
theorem erase_at {L : List Nat} {p x : Nat} (hp : p < L.length) (hx : L[p] = x) (hl : ∀ (k : Nat) (h : k < L.length), k < p → L[k] ≠ x) : L.take p ++ L.drop (p + 1) = L.erase x := by
  have e : L = L.take p ++ L.drop p := (List.take_append_drop p L).symm
  have e2 : L.drop p = x :: L.drop (p + 1) := by rw [← hx]; exact List.drop_eq_getElem_cons hp
  have hn : x ∉ L.take p := by
    intro hm
    obtain ⟨k, hk, hkx⟩ := List.getElem_of_mem hm
    rw [List.getElem_take] at hkx
    simp at hk
    exact hl k (by omega) (by omega) hkx
  have : L.erase x = (L.take p ++ x :: L.drop (p + 1)).erase x := by rw [← e2, ← e]
  rw [this, List.erase_append_right _ hn, List.erase_cons_head]
theorem rg_remE {L : List Nat} {n p q : Nat} (hs : L.Pairwise (· ≤ ·)) (h : isRg L n p q) : remE L n = if p < q then L.take p ++ L.drop (p + 1) else L := by
  unfold remE
  rw [rg_filter h]
  by_cases hpq : p < q
  · rw [if_pos hpq]
    have hq := h.2.2.1
    have e2 : L.drop p = L[p] :: L.drop (p + 1) := List.drop_eq_getElem_cons (by omega)
    have e3 : (L.drop p).take (q - p) = L[p] :: (L.drop (p + 1)).take (q - p - 1) := by
      rw [e2, show q - p = (q - p - 1) + 1 by omega, List.take_succ_cons]; simp
    have hm : ((L.drop p).take (q - p)).min? = some L[p] := by
      rw [List.min?_eq_some_iff]
      refine ⟨by rw [e3]; exact List.mem_cons_self, fun y hy => ?_⟩
      obtain ⟨k, hk, rfl⟩ := List.getElem_of_mem hy
      rw [List.getElem_take, List.getElem_drop]
      simp at hk
      rcases Nat.eq_zero_or_pos k with z | z
      · subst z; exact Nat.le_refl _
      · exact List.pairwise_iff_getElem.mp hs p (p + k) (by omega) (by omega) (by omega)
    rw [hm]
    refine (erase_at (by omega) rfl (fun k hk hkp z => ?_)).symm
    have h1 := h.1.2.1 k hk hkp
    have h2 := h.2.2.2.1 p (by omega) (Nat.le_refl _) hpq
    omega
  · rw [if_neg hpq]
    have : (L.drop p).take (q - p) = [] := by rw [show q - p = 0 by omega]; rfl
    rw [this]
    rfl
theorem rg_isE {L : List Nat} {n p q : Nat} (hs : L.Pairwise (· ≤ ·)) (h : isRg L n p q) : (∀ (hp : p < L.length), p < q → isE L n (((L[p]'hp) % 16 : Nat) : Int)) ∧ (¬ p < q → isE L n (-6)) := by
  refine ⟨fun hp hpq => Or.inr ⟨L[p], List.getElem_mem hp, h.2.2.2.1 p hp (Nat.le_refl _) hpq, rfl, fun y hy hn => ?_⟩, fun hpq => Or.inl ⟨rfl, fun x hx hn => ?_⟩⟩
  · obtain ⟨k, hk, k1, k2, rfl⟩ := rg_mem h hy hn
    have h2 := h.2.2.2.1 p hp (Nat.le_refl _) hpq
    rcases Nat.eq_or_lt_of_le k1 with z | z
    · subst z; exact Nat.le_refl _
    · have := List.pairwise_iff_getElem.mp hs p k hp hk z
      omega
  · obtain ⟨k, hk, k1, k2, rfl⟩ := rg_mem h hx hn
    omega
theorem rg_isLt {L : List Nat} {n p q : Nat} (hs : L.Pairwise (· ≤ ·)) (h : isRg L n p q) : (∀ (hp : q - 1 < L.length), p < q → isLt L n (((L[q - 1]'hp) % 16 : Nat) : Int)) ∧ (¬ p < q → isLt L n (-6)) := by
  refine ⟨fun hp hpq => Or.inr ⟨L[q - 1], List.getElem_mem hp, h.2.2.2.1 (q - 1) hp (by omega) (by omega), rfl, fun y hy hn => ?_⟩, fun hpq => Or.inl ⟨rfl, fun x hx hn => ?_⟩⟩
  · obtain ⟨k, hk, k1, k2, rfl⟩ := rg_mem h hy hn
    have h2 := h.2.2.2.1 (q - 1) hp (by omega) (by omega)
    rcases Nat.eq_or_lt_of_le (show k ≤ q - 1 by omega) with z | z
    · subst z; exact Nat.le_refl _
    · have := List.pairwise_iff_getElem.mp hs k (q - 1) hk hp z
      omega
  · obtain ⟨k, hk, k1, k2, rfl⟩ := rg_mem h hx hn
    omega
theorem pl_mem {L : List Nat} {x p : Nat} (hs : L.Pairwise (· ≤ ·)) (h : isPl L (x : Int) p) : x ∈ L ↔ ∃ hp : p < L.length, L[p] = x := by
  constructor
  · intro hm
    obtain ⟨k, hk, rfl⟩ := List.getElem_of_mem hm
    rcases Nat.lt_or_ge k p with z | z
    · have := h.2.1 k hk z
      omega
    · have hp : p < L.length := by omega
      refine ⟨hp, ?_⟩
      have h1 := h.2.2 p hp (Nat.le_refl _)
      rcases Nat.eq_or_lt_of_le z with y | y
      · subst y; rfl
      · have := List.pairwise_iff_getElem.mp hs p k hp hk y
        omega
  · rintro ⟨hp, rfl⟩
    exact List.getElem_mem hp
theorem isRg_of {L : List Nat} {n p q : Nat} (hs : L.Pairwise (· ≤ ·)) (h : isPl L ((n : Int) * 16) p) (h1 : p ≤ q) (h2 : q ≤ L.length) (h3 : ∀ (k : Nat) (h : k < L.length), p ≤ k → k < q → (L[k]'h) / 16 = n) (h4 : ∀ h : q < L.length, (L[q]'h) / 16 ≠ n) : isRg L n p q := by
  refine ⟨h, h1, h2, h3, fun k hk hqk => ?_⟩
  have hq : q < L.length := by omega
  have e1 := h.2.2 q hq h1
  have e2 := h4 hq
  rcases Nat.eq_or_lt_of_le hqk with y | y
  · subst y; omega
  · have := List.pairwise_iff_getElem.mp hs q k hq hk y
    omega
theorem eO_ne_eA {D : va_G} {ci k nn : Nat} {fs : List (Option Value)} (h : eO ci fs = eA D k nn) : False := by
  have := congrFun h (fun _ => 0)
  unfold eO eA at this
  cases this
theorem Bd.ne {D : va_G} {sk : Sk} {b o : Nat} (hb : Bd D sk b) (ho : Bd D sk o) : o ≠ b + 1 := by
  intro h
  have h1 := ho.1
  rw [h, hb.2] at h1
  exact eO_ne_eA (Option.some.inj h1).symm
theorem AL_cpy0 {r r' : Nat → Int} {L : List Nat} (h : AL r L) : AL (cpy r r' 0 0 L.length) L := by
  intro k hk
  unfold cpy
  rw [if_pos (by omega), show 0 + (k - 0) = k by omega]
  exact h k hk
def hasN (T : List Nat) (n : Nat) : Bool := T.any (fun x => x / 16 == n)
def surp (L T : List Nat) (n : Nat) : Nat := if hasN T n then cntN L n - 1 else cntN L n
def oldN (L T : List Nat) (n : Nat) : Nat := if hasN T n = true ∧ cntN L n ≠ 0 ∧ ∀ x ∈ T, x / 16 = n → x ∉ L then 1 else 0
def misN (L T : List Nat) (n : Nat) : Nat := if hasN T n = true ∧ cntN L n = 0 then 1 else 0
def dif (L T : List Nat) (n : Nat) (k : Int) : Nat := if k = 3 then surp L T n else if k = 4 then oldN L T n else misN L T n
def difU (L T : List Nat) (k : Int) (m : Nat) : Nat := ((List.range m).map (fun i => dif L T (i + 10) k)).sum
def difs (L T : List Nat) (k : Int) : Nat := difU L T k 90
def wrg (L T : List Nat) : Nat := difs L T 3 + difs L T 4 + difs L T 5
theorem difU_succ (L T : List Nat) (k : Int) (m : Nat) : difU L T k (m + 1) = difU L T k m + dif L T (m + 10) k := by
  unfold difU
  rw [List.range_succ, List.map_append, List.sum_append]
  simp
theorem hasN_of {T : List Nat} {n x : Nat} (h : x ∈ T) (hn : x / 16 = n) : hasN T n = true := List.any_eq_true.mpr ⟨x, h, by simp [hn]⟩
theorem hasN_no {T : List Nat} {n : Nat} (h : ∀ x ∈ T, x / 16 ≠ n) : hasN T n = false := by
  cases hh : hasN T n with
  | false => rfl
  | true =>
    obtain ⟨x, h1, h2⟩ := List.any_eq_true.mp hh
    exact absurd (by simpa using h2) (h x h1)
/-- the numbers of the text are apart -/
def unq (T : List Nat) : Prop := ∀ x ∈ T, ∀ y ∈ T, x / 16 = y / 16 → x = y
theorem chk_take {L : List Nat} {k : Nat} (h : k < L.length) : chk (L.take (k + 1)) = chk (L.take k) + L[k] / 16 * (L[k] % 16 + 1) := by
  unfold chk
  rw [List.take_succ_eq_append_getElem h, List.map_append, List.sum_append]
  simp
theorem cnt_take {L : List Nat} {P : Nat → Bool} {k : Nat} (h : k < L.length) : (L.take (k + 1)).countP P = (L.take k).countP P + if P L[k] then 1 else 0 := by
  rw [List.take_succ_eq_append_getElem h, List.countP_append]
  congr 1
  simp [List.countP_cons]
theorem chk_le {L : List Nat} (h : ∀ x ∈ L, x < 1600) : chk L ≤ L.length * 1600 := by
  induction L with
  | nil => simp [chk]
  | cons a t ih =>
    have h1 := ih (fun x hx => h x (List.mem_cons_of_mem _ hx))
    have h2 := h a List.mem_cons_self
    have h3 : a / 16 * (a % 16 + 1) ≤ 99 * 16 := Nat.mul_le_mul (by omega) (by omega)
    have h4 : chk (a :: t) = a / 16 * (a % 16 + 1) + chk t := by simp [chk]
    rw [h4, List.length_cons]
    omega
section JC
variable {p : Program} {l : Launch} {e : Env} {R : Room} {s : State} {m : MethodId} {args : Array Value} {below : List Frame} {meth : Method} {c : Code} {D : va_G} {A : Nat → Prop} {nL cells slots n pc : Nat} {Q : State → Prop} {sk : Sk} {L : List (Option Value)} {st : List Value} {cc : ByteArray} {own : String} {Ts : List Cond} {ret : Option FieldType}
theorem j_loop {σ : Type} (Inv : σ → Prop) (μ : σ → Nat) (F : σ → Mem × List (Option Value)) (hs : ∀ x, Inv x → (∀ y, Inv y → μ y < μ x → J p l e R s m args below meth c D A nL cells slots Q n sk (F y).1 pc (F y).2 []) → J p l e R s m args below meth c D A nL cells slots Q n sk (F x).1 pc (F x).2 []) (x : σ) (hx : Inv x) : J p l e R s m args below meth c D A nL cells slots Q n sk (F x).1 pc (F x).2 [] := by
  have key : ∀ (k : Nat) (x : σ), Inv x → μ x < k → J p l e R s m args below meth c D A nL cells slots Q n sk (F x).1 pc (F x).2 [] := by
    intro k
    induction k with
    | zero => intro x _ h; exact absurd h (Nat.not_lt_zero _)
    | succ k ih => intro x hx h; exact hs x hx (fun y hy hlt => ih y hy (by omega))
  exact key _ x hx (Nat.lt_succ_self _)
end JC
end
section
/-! ===== contracts of Binder ===== -/
def rmX0_leafWith : Room := { frames := 0, cells := 0, slots := 0, locals := 0 }
set_option maxHeartbeats 4000000 in
set_option maxRecDepth 100000 in
theorem c_X0_leafWith (l : Launch) (D : va_G) (nH : Nat) (sk : Sk) (v : Mem) (n i : Int)  : CtI l D yX0_leafWith wsX0_leafWith rmX0_leafWith [.int (I n), .int (I i)] nH sk v (fun z v' => z = n * 16 + i ∧ v = v') := by
  refine ct_of (cc := cX0_leafWith) (maxL := 2) (ret := (some .int)) rfl rfl (Nat.le_of_ble_eq_true rfl) ?_
  intro p e s m args below meth c X hmn hsz
  refine j_iload_n X dX0_leafWith_0 rfl ?_
  refine j_bipush X dX0_leafWith_1 (by decide) ?_
  refine j_imul X dX0_leafWith_3 ?_
  refine j_iload_n X dX0_leafWith_4 rfl ?_
  refine j_iadd X dX0_leafWith_5 ?_
  exact j_iret X dX0_leafWith_6 ⟨_, rfl, rfl, ⟨rfl, rfl⟩⟩
def rmX0_numberOf : Room := { frames := 0, cells := 0, slots := 0, locals := 0 }
set_option maxHeartbeats 4000000 in
set_option maxRecDepth 100000 in
theorem c_X0_numberOf (l : Launch) (D : va_G) (nH : Nat) (sk : Sk) (v : Mem) (x : Int) (hx : 0 ≤ x ∧ x ≤ 2147483647) : CtI l D yX0_numberOf wsX0_numberOf rmX0_numberOf [.int (I x)] nH sk v (fun z v' => z = x / 16 ∧ v = v') := by
  refine ct_of (cc := cX0_numberOf) (maxL := 1) (ret := (some .int)) rfl rfl (Nat.le_of_ble_eq_true rfl) ?_
  intro p e s m args below meth c X hmn hsz
  refine j_iload_n X dX0_numberOf_0 rfl ?_
  refine j_bipush X dX0_numberOf_1 (by decide) ?_
  refine j_idiv X dX0_numberOf_3 (by omega) (by omega) ?_
  exact j_iret X dX0_numberOf_4 ⟨_, rfl, rfl, ⟨rfl, rfl⟩⟩
def rmX0_issueOf : Room := { frames := 0, cells := 0, slots := 0, locals := 0 }
set_option maxHeartbeats 4000000 in
set_option maxRecDepth 100000 in
theorem c_X0_issueOf (l : Launch) (D : va_G) (nH : Nat) (sk : Sk) (v : Mem) (x : Int) (hx : 0 ≤ x ∧ x ≤ 2147483647) : CtI l D yX0_issueOf wsX0_issueOf rmX0_issueOf [.int (I x)] nH sk v (fun z v' => z = x % 16 ∧ v = v') := by
  refine ct_of (cc := cX0_issueOf) (maxL := 1) (ret := (some .int)) rfl rfl (Nat.le_of_ble_eq_true rfl) ?_
  intro p e s m args below meth c X hmn hsz
  refine j_iload_n X dX0_issueOf_0 rfl ?_
  refine j_bipush X dX0_issueOf_1 (by decide) ?_
  refine j_irem X dX0_issueOf_3 (by omega) (by omega) ?_
  exact j_iret X dX0_issueOf_4 ⟨_, rfl, rfl, ⟨rfl, rfl⟩⟩
def rmX0_copy : Room := { frames := 1, cells := 0, slots := 0, locals := 26 }
set_option maxHeartbeats 4000000 in
set_option maxRecDepth 100000 in
theorem c_X0_copy (l : Launch) (D : va_G) (nH : Nat) (sk : Sk) (v : Mem) (b o : Nat) (L : List Nat) (hb : Bd D sk b) (ho : Bd D sk o) (hL : BA v o L) : CtV l D yX0_copy wsX0_copy rmX0_copy [.ref b, .ref o] nH sk v (fun v' => BA v' b L ∧ fr v v' b) := by
  refine ct_of (cc := cX0_copy) (maxL := 2) (ret := none) rfl rfl (Nat.le_of_ble_eq_true rfl) ?_
  intro p e s m args below meth c X hmn hsz
  have hinX0 : ∀ w ∈ wsX00, w ∈ wsX0_copy := by decide +kernel
  have hne := Bd.ne hb ho
  obtain ⟨hb0, hb1⟩ := hb
  obtain ⟨ho0, ho1⟩ := ho
  obtain ⟨hl0, hl1, hl2, hl3, hl4⟩ := id hL
  refine j_aload_n X dX0_copy_0 rfl ?_
  refine j_getr X dX0_copy_1 (T := TX0) (N := 2) (C := RX0) hinX0 rfl (by assumption) 0 (by decide) (by decide +kernel) rfl ?_
  refine j_iconst X dX0_copy_4 ?_
  refine j_aload_n X dX0_copy_5 rfl ?_
  refine j_getr X dX0_copy_6 (T := TX0) (N := 2) (C := RX0) hinX0 rfl (by assumption) 0 (by decide) (by decide +kernel) rfl ?_
  refine j_iconst X dX0_copy_9 ?_
  refine j_aload_n X dX0_copy_10 rfl ?_
  refine j_geti X dX0_copy_11 (T := TX0) (N := 2) (C := RX0) hinX0 rfl (by assumption) 1 (by decide) (by decide +kernel) rfl ?_
  refine j_copy X dX0_copy_14 ⟨by decide +kernel, by decide +kernel, by decide +kernel, by decide +kernel⟩ (by assumption) (by assumption) (by omega) (by decide) (Nat.le_of_ble_eq_true rfl) (Nat.le_of_ble_eq_true rfl) ?_
  rw [hl0]
  rw [show ((0 : Int)).toNat = 0 from rfl, Int.toNat_natCast]
  refine j_aload_n X dX0_copy_17 rfl ?_
  refine j_aload_n X dX0_copy_18 rfl ?_
  refine j_geti X dX0_copy_19 (T := TX0) (N := 2) (C := RX0) hinX0 rfl (by assumption) 1 (by decide) (by decide +kernel) rfl ?_
  refine j_put X dX0_copy_22 (T := TX0) (N := 2) (C := RX0) hinX0 rfl (by assumption) 1 (by decide) tyX0 tyX0_ok nmX0 rfl rfl rfl (by decide +kernel) ?_
  have e9 : upR v (b + 1) (cpy (v (o + 1)) (v (b + 1)) 0 0 L.length) o 1 = (L.length : Int) := by rw [upR_n _ _ hne, hl0]
  rw [e9]
  exact j_vret X dX0_copy_25 ⟨rfl, rfl, ⟨⟨by rw [up2_s, upE_s], hl1, by rw [up2_n _ _ _ (by omega), upR_s]; exact AL_cpy0 hl2, hl3, hl4⟩, fun a ha hb => by rw [up2_n _ _ _ ha, upR_n _ _ hb]⟩⟩
def rmX0_placeOf : Room := { frames := 0, cells := 0, slots := 0, locals := 0 }
set_option maxHeartbeats 4000000 in
set_option maxRecDepth 100000 in
theorem c_X0_placeOf (l : Launch) (D : va_G) (nH : Nat) (sk : Sk) (v : Mem) (b : Nat) (x : Int) (L : List Nat) (hb : Bd D sk b) (hL : BA v b L) (hx : -2147483648 ≤ x ∧ x ≤ 2147483647) : CtI l D yX0_placeOf wsX0_placeOf rmX0_placeOf [.ref b, .int (I x)] nH sk v (fun z v' => ∃ p : Nat, z = (p : Int) ∧ isPl L x p ∧ v = v') := by
  refine ct_of (cc := cX0_placeOf) (maxL := 3) (ret := (some .int)) rfl rfl (Nat.le_of_ble_eq_true rfl) ?_
  intro p e s m args below meth c X hmn hsz
  have hinX0 : ∀ w ∈ wsX00, w ∈ wsX0_placeOf := by decide +kernel
  obtain ⟨hb0, hb1⟩ := hb
  obtain ⟨hl0, hl1, hl2, hl3, hl4⟩ := id hL
  refine j_iconst X dX0_placeOf_0 ?_
  refine j_istore_n X dX0_placeOf_1 rfl (Nat.le_of_ble_eq_true rfl) ?_
  refine j_loop (σ := Int) (fun (i : Int) => 0 ≤ i ∧ i ≤ (L.length : Int) ∧ ∀ (k : Nat) (h : k < L.length), (k : Int) < i → ((L[k]'h : Nat) : Int) < x) (fun (i : Int) => ((L.length : Int) - i).toNat) (fun (i : Int) => (v, [some (.ref b), some (.int (I x)), some (.int (I i))])) ?_ 0 ⟨by omega, by omega, fun k _ h => absurd h (by omega)⟩
  intro i hx ih2
  dsimp only at hx ih2 ⊢
  obtain ⟨hi0, hi1, hi2⟩ := hx
  refine j_iload_n X dX0_placeOf_2 rfl ?_
  refine j_aload_n X dX0_placeOf_3 rfl ?_
  refine j_geti X dX0_placeOf_4 (T := TX0) (N := 2) (C := RX0) hinX0 rfl (by assumption) 1 (by decide) (by decide +kernel) rfl ?_
  refine j_icmp_ge (tgt := 28) X dX0_placeOf_7 (by omega) (by decide) (fun c7 => ?_) (fun c7 => ?_)
  · refine j_aload_n X dX0_placeOf_28 rfl ?_
    refine j_geti X dX0_placeOf_29 (T := TX0) (N := 2) (C := RX0) hinX0 rfl (by assumption) 1 (by decide) (by decide +kernel) rfl ?_
    exact j_iret X dX0_placeOf_32 ⟨_, rfl, rfl, ⟨L.length, hl0, ⟨Nat.le_refl _, fun k h _ => hi2 k h (by omega), fun k h hk => absurd h (by omega)⟩, rfl⟩⟩
  · refine j_aload_n X dX0_placeOf_10 rfl ?_
    refine j_getr X dX0_placeOf_11 (T := TX0) (N := 2) (C := RX0) hinX0 rfl (by assumption) 0 (by decide) (by decide +kernel) rfl ?_
    refine j_iload_n X dX0_placeOf_14 rfl ?_
    refine j_iald X dX0_placeOf_15 (by assumption) (by omega) (by decide) ?_
    refine j_iload_n X dX0_placeOf_16 rfl ?_
    obtain ⟨hik, hir⟩ := hl2.at hi0 (by omega)
    have hib := hL.lt hik
    refine j_icmp_lt (tgt := 22) X dX0_placeOf_17 (by omega) (by decide) (fun c17 => ?_) (fun c17 => ?_)
    · refine j_iinc X dX0_placeOf_22 rfl rfl (Nat.le_of_ble_eq_true rfl) ?_
      refine j_goto (tgt := 2) X dX0_placeOf_25 (by decide) ?_
      exact ih2 (i + 1) ⟨by omega, by omega, fun k h hk => by rcases Int.lt_or_eq_of_le (show (k : Int) ≤ i by omega) with y | y; exact hi2 k h y; have hki : k = i.toNat := (by omega); subst hki; omega⟩ (by omega)
    · refine j_iload_n X dX0_placeOf_20 rfl ?_
      exact j_iret X dX0_placeOf_21 ⟨_, rfl, rfl, ⟨i.toNat, by omega, ⟨by omega, fun k h hk => hi2 k h (by omega), fun k h hk => by have := hL.mono hik h hk; omega⟩, rfl⟩⟩
def rmX0_start : Room := { frames := 1, cells := 0, slots := 0, locals := 22 }
set_option maxHeartbeats 4000000 in
set_option maxRecDepth 100000 in
theorem c_X0_start (l : Launch) (D : va_G) (nH : Nat) (sk : Sk) (v : Mem) (b n : Nat) (L : List Nat) (hb : Bd D sk b) (hL : BA v b L) (hn : n ≤ 100) : CtI l D yX0_start wsX0_start rmX0_start [.ref b, .int (I n)] nH sk v (fun z v' => ∃ p : Nat, z = (p : Int) ∧ isPl L ((n : Int) * 16) p ∧ v = v') := by
  refine ct_of (cc := cX0_start) (maxL := 2) (ret := (some .int)) rfl rfl (Nat.le_of_ble_eq_true rfl) ?_
  intro p e s m args below meth c X hmn hsz
  obtain ⟨hb0, hb1⟩ := id hb
  refine j_aload_n X dX0_start_0 rfl ?_
  refine j_iload_n X dX0_start_1 rfl ?_
  refine j_iconst X dX0_start_2 ?_
  refine j_callS (nn := 2) X dX0_start_3 (c_X0_leafWith l D nH sk v n 0) gX0_start_X0_leafWith rfl ⟨rfl, rfl⟩ (by decide +kernel) ⟨Nat.le_of_ble_eq_true rfl, Nat.le_of_ble_eq_true rfl⟩ rfl rfl (Nat.le_of_ble_eq_true rfl) ⟨Nat.zero_le _, Nat.zero_le _⟩ (kI (fun z3 v3 h3 => ?_))
  obtain ⟨rfl, rfl⟩ := h3
  rw [Int.add_zero]
  refine j_callV (nn := 1) X dX0_start_6 (c_X0_placeOf l D nH sk v b _ L hb hL (by omega)) gX0_start_X0_placeOf rfl ⟨rfl, rfl⟩ (by decide +kernel) ⟨Nat.le_of_ble_eq_true rfl, Nat.le_of_ble_eq_true rfl⟩ (by assumption) ⟨rfl, rfl⟩ rfl rfl (Nat.le_of_ble_eq_true rfl) ⟨Nat.zero_le _, Nat.zero_le _⟩ (kI (fun z6 v6 h6 => ?_))
  exact j_iret X dX0_start_9 ⟨_, rfl, rfl, h6⟩
def rmX0_end : Room := { frames := 1, cells := 0, slots := 0, locals := 20 }
set_option maxHeartbeats 4000000 in
set_option maxRecDepth 100000 in
theorem c_X0_end (l : Launch) (D : va_G) (nH : Nat) (sk : Sk) (v : Mem) (b n st : Nat) (L : List Nat) (hb : Bd D sk b) (hL : BA v b L) (hn : n ≤ 100) (hst : st ≤ L.length) : CtI l D yX0_end wsX0_end rmX0_end [.ref b, .int (I n), .int (I st)] nH sk v (fun z v' => ∃ q : Nat, z = (q : Int) ∧ st ≤ q ∧ q ≤ L.length ∧ (∀ (k : Nat) (h : k < L.length), st ≤ k → k < q → (L[k]'h) / 16 = n) ∧ (∀ h : q < L.length, (L[q]'h) / 16 ≠ n) ∧ v = v') := by
  refine ct_of (cc := cX0_end) (maxL := 4) (ret := (some .int)) rfl rfl (Nat.le_of_ble_eq_true rfl) ?_
  intro p e s m args below meth c X hmn hsz
  have hinX0 : ∀ w ∈ wsX00, w ∈ wsX0_end := by decide +kernel
  obtain ⟨hb0, hb1⟩ := hb
  obtain ⟨hl0, hl1, hl2, hl3, hl4⟩ := id hL
  refine j_iload_n X dX0_end_0 rfl ?_
  refine j_istore_n X dX0_end_1 rfl (Nat.le_of_ble_eq_true rfl) ?_
  refine j_loop (σ := Int) (fun (i : Int) => (st : Int) ≤ i ∧ i ≤ (L.length : Int) ∧ ∀ (k : Nat) (h : k < L.length), st ≤ k → (k : Int) < i → (L[k]'h) / 16 = n) (fun (i : Int) => ((L.length : Int) - i).toNat) (fun (i : Int) => (v, [some (.ref b), some (.int (I n)), some (.int (I st)), some (.int (I i))])) ?_ (st : Int) ⟨by omega, by omega, fun k _ h1 h2 => absurd h2 (by omega)⟩
  intro i hx ih2
  dsimp only at hx ih2 ⊢
  obtain ⟨hi0, hi1, hi2⟩ := hx
  refine j_iload_n X dX0_end_2 rfl ?_
  refine j_aload_n X dX0_end_3 rfl ?_
  refine j_geti X dX0_end_4 (T := TX0) (N := 2) (C := RX0) hinX0 rfl (by assumption) 1 (by decide) (by decide +kernel) rfl ?_
  refine j_icmp_ge (tgt := 31) X dX0_end_7 (by omega) (by decide) (fun c7 => ?_) (fun c7 => ?_)
  · refine j_aload_n X dX0_end_31 rfl ?_
    refine j_geti X dX0_end_32 (T := TX0) (N := 2) (C := RX0) hinX0 rfl (by assumption) 1 (by decide) (by decide +kernel) rfl ?_
    exact j_iret X dX0_end_35 ⟨_, rfl, rfl, ⟨L.length, hl0, by omega, Nat.le_refl _, fun k h h1 _ => hi2 k h h1 (by omega), fun h => absurd h (by omega), rfl⟩⟩
  · refine j_aload_n X dX0_end_10 rfl ?_
    refine j_getr X dX0_end_11 (T := TX0) (N := 2) (C := RX0) hinX0 rfl (by assumption) 0 (by decide) (by decide +kernel) rfl ?_
    refine j_iload_n X dX0_end_14 rfl ?_
    refine j_iald X dX0_end_15 (by assumption) (by omega) (by decide) ?_
    obtain ⟨hik, hir⟩ := hl2.at (show 0 ≤ i by omega) (by omega)
    have hib := hL.lt hik
    refine j_callS (nn := 1) X dX0_end_16 (c_X0_numberOf l D nH sk v _ (by omega)) gX0_end_X0_numberOf rfl ⟨rfl, rfl⟩ (by decide +kernel) ⟨Nat.le_of_ble_eq_true rfl, Nat.le_of_ble_eq_true rfl⟩ rfl rfl (Nat.le_of_ble_eq_true rfl) ⟨Nat.zero_le _, Nat.zero_le _⟩ (kI (fun z16 v16 h16 => ?_))
    obtain ⟨rfl, rfl⟩ := h16
    rw [hir]
    refine j_iload_n X dX0_end_19 rfl ?_
    refine j_icmp_eq (tgt := 25) X dX0_end_20 (by omega) (by decide) (fun c20 => ?_) (fun c20 => ?_)
    · refine j_iinc X dX0_end_25 rfl rfl (Nat.le_of_ble_eq_true rfl) ?_
      refine j_goto (tgt := 2) X dX0_end_28 (by decide) ?_
      exact ih2 (i + 1) ⟨by omega, by omega, fun k h h1 hk => by rcases Int.lt_or_eq_of_le (show (k : Int) ≤ i by omega) with y | y; exact hi2 k h h1 y; have hki : k = i.toNat := (by omega); subst hki; omega⟩ (by omega)
    · refine j_iload_n X dX0_end_23 rfl ?_
      exact j_iret X dX0_end_24 ⟨_, rfl, rfl, ⟨i.toNat, by omega, by omega, by omega, fun k h h1 hk => hi2 k h h1 (by omega), fun h => by omega, rfl⟩⟩
def rmX0_removeRange : Room := { frames := 1, cells := 0, slots := 0, locals := 26 }
set_option maxHeartbeats 4000000 in
set_option maxRecDepth 100000 in
theorem c_X0_removeRange (l : Launch) (D : va_G) (nH : Nat) (sk : Sk) (v : Mem) (b f t : Nat) (L : List Nat) (hb : Bd D sk b) (hL : BA v b L) (hft : f ≤ t) (ht : t ≤ L.length) : CtV l D yX0_removeRange wsX0_removeRange rmX0_removeRange [.ref b, .int (I f), .int (I t)] nH sk v (fun v' => BA v' b (L.take f ++ L.drop t) ∧ fr v v' b) := by
  refine ct_of (cc := cX0_removeRange) (maxL := 3) (ret := none) rfl rfl (Nat.le_of_ble_eq_true rfl) ?_
  intro p e s m args below meth c X hmn hsz
  have hinX0 : ∀ w ∈ wsX00, w ∈ wsX0_removeRange := by decide +kernel
  obtain ⟨hb0, hb1⟩ := hb
  obtain ⟨hl0, hl1, hl2, hl3, hl4⟩ := id hL
  refine j_aload_n X dX0_removeRange_0 rfl ?_
  refine j_getr X dX0_removeRange_1 (T := TX0) (N := 2) (C := RX0) hinX0 rfl (by assumption) 0 (by decide) (by decide +kernel) rfl ?_
  refine j_iload_n X dX0_removeRange_4 rfl ?_
  refine j_aload_n X dX0_removeRange_5 rfl ?_
  refine j_getr X dX0_removeRange_6 (T := TX0) (N := 2) (C := RX0) hinX0 rfl (by assumption) 0 (by decide) (by decide +kernel) rfl ?_
  refine j_iload_n X dX0_removeRange_9 rfl ?_
  refine j_aload_n X dX0_removeRange_10 rfl ?_
  refine j_geti X dX0_removeRange_11 (T := TX0) (N := 2) (C := RX0) hinX0 rfl (by assumption) 1 (by decide) (by decide +kernel) rfl ?_
  refine j_iload_n X dX0_removeRange_14 rfl ?_
  refine j_isub X dX0_removeRange_15 ?_
  rw [hl0]
  refine j_copy X dX0_removeRange_16 ⟨by decide +kernel, by decide +kernel, by decide +kernel, by decide +kernel⟩ (by assumption) (by assumption) (by omega) (by decide) (Nat.le_of_ble_eq_true rfl) (Nat.le_of_ble_eq_true rfl) ?_
  rw [Int.toNat_natCast, Int.toNat_natCast, show ((L.length : Int) - (t : Int)).toNat = L.length - t by omega]
  refine j_aload_n X dX0_removeRange_19 rfl ?_
  refine j_dup X dX0_removeRange_20 rfl ?_
  refine j_geti X dX0_removeRange_21 (T := TX0) (N := 2) (C := RX0) hinX0 rfl (by assumption) 1 (by decide) (by decide +kernel) rfl ?_
  refine j_iload_n X dX0_removeRange_24 rfl ?_
  refine j_iload_n X dX0_removeRange_25 rfl ?_
  refine j_isub X dX0_removeRange_26 ?_
  refine j_isub X dX0_removeRange_27 ?_
  refine j_put X dX0_removeRange_28 (T := TX0) (N := 2) (C := RX0) hinX0 rfl (by assumption) 1 (by decide) tyX0 tyX0_ok nmX0 rfl rfl rfl (by decide +kernel) ?_
  have e9 : upR v (b + 1) (cpy (v (b + 1)) (v (b + 1)) t f (L.length - t)) b 1 = (L.length : Int) := by rw [upR_n _ _ (by omega), hl0]
  rw [e9]
  exact j_vret X dX0_removeRange_31 ⟨rfl, rfl, ⟨⟨by rw [up2_s, upE_s]; simp; omega, by simp; omega, by rw [up2_n _ _ _ (by omega), upR_s]; exact AL_cut hl2 hft ht, cut_sorted hl3 hft, fun x hx => hl4 x (cut_mem hx)⟩, fun a ha hb => by rw [up2_n _ _ _ ha, upR_n _ _ hb]⟩⟩
def rmX0_insert : Room := { frames := 1, cells := 0, slots := 0, locals := 26 }
set_option maxHeartbeats 4000000 in
set_option maxRecDepth 100000 in
theorem c_X0_insert (l : Launch) (D : va_G) (nH : Nat) (sk : Sk) (v : Mem) (b n i : Nat) (L : List Nat) (hb : Bd D sk b) (hL : BA v b L) (hn : n * 16 + i < 1600) : CtV l D yX0_insert wsX0_insert rmX0_insert [.ref b, .int (I n), .int (I i)] nH sk v (fun v' => (∃ L' : List Nat, BA v' b L' ∧ L'.Perm (insL L (n * 16 + i))) ∧ fr v v' b) := by
  refine ct_of (cc := cX0_insert) (maxL := 5) (ret := none) rfl rfl (Nat.le_of_ble_eq_true rfl) ?_
  intro p e s m args below meth c X hmn hsz
  have hinX0 : ∀ w ∈ wsX00, w ∈ wsX0_insert := by decide +kernel
  obtain ⟨hb0, hb1⟩ := id hb
  obtain ⟨hl0, hl1, hl2, hl3, hl4⟩ := id hL
  refine j_aload_n X dX0_insert_0 rfl ?_
  refine j_geti X dX0_insert_1 (T := TX0) (N := 2) (C := RX0) hinX0 rfl (by assumption) 1 (by decide) (by decide +kernel) rfl ?_
  refine j_bipush X dX0_insert_4 (by decide) ?_
  refine j_icmp_lt (tgt := 10) X dX0_insert_6 (by omega) (by decide) (fun c6 => ?_) (fun c6 => ?_)
  · refine j_iload_n X dX0_insert_10 rfl ?_
    refine j_iload_n X dX0_insert_11 rfl ?_
    refine j_callS (nn := 2) X dX0_insert_12 (c_X0_leafWith l D nH sk v n i) gX0_insert_X0_leafWith rfl ⟨rfl, rfl⟩ (by decide +kernel) ⟨Nat.le_of_ble_eq_true rfl, Nat.le_of_ble_eq_true rfl⟩ rfl rfl (Nat.le_of_ble_eq_true rfl) ⟨Nat.zero_le _, Nat.zero_le _⟩ (kI (fun z12 v12 h12 => ?_))
    obtain ⟨rfl, rfl⟩ := h12
    rw [show (n : Int) * 16 + (i : Int) = ((n * 16 + i : Nat) : Int) by omega]
    generalize hx : n * 16 + i = x at hn ⊢
    refine j_istore_n X dX0_insert_15 rfl (Nat.le_of_ble_eq_true rfl) ?_
    refine j_aload_n X dX0_insert_16 rfl ?_
    refine j_iload_n X dX0_insert_17 rfl ?_
    refine j_callV (nn := 1) X dX0_insert_18 (c_X0_placeOf l D nH sk v b _ L hb hL (by omega)) gX0_insert_X0_placeOf rfl ⟨rfl, rfl⟩ (by decide +kernel) ⟨Nat.le_of_ble_eq_true rfl, Nat.le_of_ble_eq_true rfl⟩ (by assumption) ⟨rfl, rfl⟩ rfl rfl (Nat.le_of_ble_eq_true rfl) ⟨Nat.zero_le _, Nat.zero_le _⟩ (kI (fun z18 v18 h18 => ?_))
    obtain ⟨q, rfl, hq, rfl⟩ := h18
    have hq0 := hq.1
    refine j_istore X dX0_insert_21 rfl (Nat.le_of_ble_eq_true rfl) ?_
    refine j_aload_n X dX0_insert_23 rfl ?_
    refine j_getr X dX0_insert_24 (T := TX0) (N := 2) (C := RX0) hinX0 rfl (by assumption) 0 (by decide) (by decide +kernel) rfl ?_
    refine j_iload X dX0_insert_27 rfl ?_
    refine j_aload_n X dX0_insert_29 rfl ?_
    refine j_getr X dX0_insert_30 (T := TX0) (N := 2) (C := RX0) hinX0 rfl (by assumption) 0 (by decide) (by decide +kernel) rfl ?_
    refine j_iload X dX0_insert_33 rfl ?_
    refine j_iconst X dX0_insert_35 ?_
    refine j_iadd X dX0_insert_36 ?_
    refine j_aload_n X dX0_insert_37 rfl ?_
    refine j_geti X dX0_insert_38 (T := TX0) (N := 2) (C := RX0) hinX0 rfl (by assumption) 1 (by decide) (by decide +kernel) rfl ?_
    refine j_iload X dX0_insert_41 rfl ?_
    refine j_isub X dX0_insert_43 ?_
    rw [hl0]
    refine j_copy X dX0_insert_44 ⟨by decide +kernel, by decide +kernel, by decide +kernel, by decide +kernel⟩ (by assumption) (by assumption) (by omega) (by decide) (Nat.le_of_ble_eq_true rfl) (Nat.le_of_ble_eq_true rfl) ?_
    rw [Int.toNat_natCast, show ((q : Int) + 1).toNat = q + 1 by omega, show ((L.length : Int) - (q : Int)).toNat = L.length - q by omega]
    refine j_aload_n X dX0_insert_47 rfl ?_
    refine j_getr X dX0_insert_48 (T := TX0) (N := 2) (C := RX0) hinX0 rfl (by assumption) 0 (by decide) (by decide +kernel) rfl ?_
    refine j_iload X dX0_insert_51 rfl ?_
    refine j_iload_n X dX0_insert_53 rfl ?_
    refine j_iast X dX0_insert_54 (by assumption) (by omega) (by decide) ?_
    refine j_aload_n X dX0_insert_55 rfl ?_
    refine j_dup X dX0_insert_56 rfl ?_
    refine j_geti X dX0_insert_57 (T := TX0) (N := 2) (C := RX0) hinX0 rfl (by assumption) 1 (by decide) (by decide +kernel) rfl ?_
    refine j_iconst X dX0_insert_60 ?_
    refine j_iadd X dX0_insert_61 ?_
    refine j_put X dX0_insert_62 (T := TX0) (N := 2) (C := RX0) hinX0 rfl (by assumption) 1 (by decide) tyX0 tyX0_ok nmX0 rfl rfl rfl (by decide +kernel) ?_
    have e9 : up2 (upR v (b + 1) (cpy (v (b + 1)) (v (b + 1)) q (q + 1) (L.length - q))) (b + 1) (q : Int).toNat (x : Int) b 1 = (L.length : Int) := by rw [up2_n _ _ _ (by omega), upR_n _ _ (by omega), hl0]
    rw [e9, Int.toNat_natCast]
    exact j_vret X dX0_insert_65 ⟨rfl, rfl, ⟨⟨L.take q ++ x :: L.drop q, ⟨by rw [up2_s, upE_s]; simp; omega, by simp; omega, by rw [up2_n _ _ _ (by omega), up2_s, upR_s]; exact AL_ins hl2 hq0, ins_sorted hl3 hq, fun y hy => by rcases List.mem_append.mp hy with h | h; exact hl4 y (List.mem_of_mem_take h); rcases List.mem_cons.mp h with h | h; omega; exact hl4 y (List.mem_of_mem_drop h)⟩, by unfold insL; rw [if_pos (by omega)]; exact cut_perm L q x⟩, fun a ha hb => by rw [up2_n _ _ _ ha, up2_n _ _ _ hb, upR_n _ _ hb]⟩⟩
  · exact j_vret X dX0_insert_9 ⟨rfl, rfl, ⟨⟨L, hL, by unfold insL; rw [if_neg (by omega)]⟩, fr.refl _ _⟩⟩
def rmX0_removeAll : Room := { frames := 2, cells := 0, slots := 0, locals := 48 }
set_option maxHeartbeats 4000000 in
set_option maxRecDepth 100000 in
theorem c_X0_removeAll (l : Launch) (D : va_G) (nH : Nat) (sk : Sk) (v : Mem) (b n : Nat) (L : List Nat) (hb : Bd D sk b) (hL : BA v b L) (hn : n ≤ 100) : CtV l D yX0_removeAll wsX0_removeAll rmX0_removeAll [.ref b, .int (I n)] nH sk v (fun v' => BA v' b (remA L n) ∧ fr v v' b) := by
  refine ct_of (cc := cX0_removeAll) (maxL := 3) (ret := none) rfl rfl (Nat.le_of_ble_eq_true rfl) ?_
  intro p e s m args below meth c X hmn hsz
  obtain ⟨hb0, hb1⟩ := id hb
  obtain ⟨hl0, hl1, hl2, hl3, hl4⟩ := id hL
  refine j_aload_n X dX0_removeAll_0 rfl ?_
  refine j_iload_n X dX0_removeAll_1 rfl ?_
  refine j_callV (nn := 1) X dX0_removeAll_2 (c_X0_start l D nH sk v b n L hb hL hn) gX0_removeAll_X0_start rfl ⟨rfl, rfl⟩ (by decide +kernel) ⟨Nat.le_of_ble_eq_true rfl, Nat.le_of_ble_eq_true rfl⟩ (by assumption) ⟨rfl, rfl⟩ rfl rfl (Nat.le_of_ble_eq_true rfl) ⟨Nat.zero_le _, Nat.zero_le _⟩ (kI (fun z2 v2 h2 => ?_))
  obtain ⟨p0, rfl, hp0, rfl⟩ := h2
  have hp1 := hp0.1
  refine j_istore_n X dX0_removeAll_5 rfl (Nat.le_of_ble_eq_true rfl) ?_
  refine j_aload_n X dX0_removeAll_6 rfl ?_
  refine j_iload_n X dX0_removeAll_7 rfl ?_
  refine j_aload_n X dX0_removeAll_8 rfl ?_
  refine j_iload_n X dX0_removeAll_9 rfl ?_
  refine j_iload_n X dX0_removeAll_10 rfl ?_
  refine j_callV (nn := 2) X dX0_removeAll_11 (c_X0_end l D nH sk v b n p0 L hb hL hn hp1) gX0_removeAll_X0_end rfl ⟨rfl, rfl⟩ (by decide +kernel) ⟨Nat.le_of_ble_eq_true rfl, Nat.le_of_ble_eq_true rfl⟩ (by assumption) ⟨rfl, rfl⟩ rfl rfl (Nat.le_of_ble_eq_true rfl) ⟨Nat.zero_le _, Nat.zero_le _⟩ (kI (fun z11 v11 h11 => ?_))
  obtain ⟨q0, rfl, hq1, hq2, hq3, hq4, rfl⟩ := h11
  have hrg := isRg_of hL.2.2.2.1 hp0 hq1 hq2 hq3 hq4
  refine j_callV (nn := 2) X dX0_removeAll_14 (c_X0_removeRange l D nH sk v b p0 q0 L hb hL hq1 hq2) gX0_removeAll_X0_removeRange rfl ⟨rfl, rfl⟩ (by decide +kernel) ⟨Nat.le_of_ble_eq_true rfl, Nat.le_of_ble_eq_true rfl⟩ (by assumption) ⟨rfl, rfl⟩ rfl rfl (Nat.le_of_ble_eq_true rfl) ⟨Nat.zero_le _, Nat.zero_le _⟩ (kV (fun v14 h14 => ?_))
  rw [rg_remA hrg] at h14
  exact j_vret X dX0_removeAll_17 ⟨rfl, rfl, h14⟩
def rmX0_removeEarliest : Room := { frames := 2, cells := 0, slots := 0, locals := 48 }
set_option maxHeartbeats 4000000 in
set_option maxRecDepth 100000 in
theorem c_X0_removeEarliest (l : Launch) (D : va_G) (nH : Nat) (sk : Sk) (v : Mem) (b n : Nat) (L : List Nat) (hb : Bd D sk b) (hL : BA v b L) (hn : n ≤ 100) : CtV l D yX0_removeEarliest wsX0_removeEarliest rmX0_removeEarliest [.ref b, .int (I n)] nH sk v (fun v' => BA v' b (remE L n) ∧ fr v v' b) := by
  refine ct_of (cc := cX0_removeEarliest) (maxL := 3) (ret := none) rfl rfl (Nat.le_of_ble_eq_true rfl) ?_
  intro p e s m args below meth c X hmn hsz
  obtain ⟨hb0, hb1⟩ := id hb
  obtain ⟨hl0, hl1, hl2, hl3, hl4⟩ := id hL
  refine j_aload_n X dX0_removeEarliest_0 rfl ?_
  refine j_iload_n X dX0_removeEarliest_1 rfl ?_
  refine j_callV (nn := 1) X dX0_removeEarliest_2 (c_X0_start l D nH sk v b n L hb hL hn) gX0_removeEarliest_X0_start rfl ⟨rfl, rfl⟩ (by decide +kernel) ⟨Nat.le_of_ble_eq_true rfl, Nat.le_of_ble_eq_true rfl⟩ (by assumption) ⟨rfl, rfl⟩ rfl rfl (Nat.le_of_ble_eq_true rfl) ⟨Nat.zero_le _, Nat.zero_le _⟩ (kI (fun z2 v2 h2 => ?_))
  obtain ⟨p0, rfl, hp0, rfl⟩ := h2
  have hp1 := hp0.1
  refine j_istore_n X dX0_removeEarliest_5 rfl (Nat.le_of_ble_eq_true rfl) ?_
  refine j_aload_n X dX0_removeEarliest_6 rfl ?_
  refine j_iload_n X dX0_removeEarliest_7 rfl ?_
  refine j_iload_n X dX0_removeEarliest_8 rfl ?_
  refine j_iconst X dX0_removeEarliest_9 ?_
  refine j_iadd X dX0_removeEarliest_10 ?_
  refine j_aload_n X dX0_removeEarliest_11 rfl ?_
  refine j_iload_n X dX0_removeEarliest_12 rfl ?_
  refine j_iload_n X dX0_removeEarliest_13 rfl ?_
  refine j_callV (nn := 2) X dX0_removeEarliest_14 (c_X0_end l D nH sk v b n p0 L hb hL hn hp1) gX0_removeEarliest_X0_end rfl ⟨rfl, rfl⟩ (by decide +kernel) ⟨Nat.le_of_ble_eq_true rfl, Nat.le_of_ble_eq_true rfl⟩ (by assumption) ⟨rfl, rfl⟩ rfl rfl (Nat.le_of_ble_eq_true rfl) ⟨Nat.zero_le _, Nat.zero_le _⟩ (kI (fun z14 v14 h14 => ?_))
  obtain ⟨q0, rfl, hq1, hq2, hq3, hq4, rfl⟩ := h14
  have hrg := isRg_of hL.2.2.2.1 hp0 hq1 hq2 hq3 hq4
  refine j_min X dX0_removeEarliest_17 ⟨by decide +kernel, by decide +kernel, by decide +kernel, by decide +kernel⟩ (by omega) (Nat.le_of_ble_eq_true rfl) (Nat.le_of_ble_eq_true rfl) ⟨Nat.zero_le _, Nat.zero_le _⟩ (fun z17 hz17a hz17b => ?_)
  obtain ⟨r0, hr0⟩ : ∃ r0 : Nat, z17 = (r0 : Int) := ⟨z17.toNat, by omega⟩
  subst hr0
  refine j_callV (nn := 2) X dX0_removeEarliest_20 (c_X0_removeRange l D nH sk v b p0 r0 L hb hL (by omega) (by omega)) gX0_removeEarliest_X0_removeRange rfl ⟨rfl, rfl⟩ (by decide +kernel) ⟨Nat.le_of_ble_eq_true rfl, Nat.le_of_ble_eq_true rfl⟩ (by assumption) ⟨rfl, rfl⟩ rfl rfl (Nat.le_of_ble_eq_true rfl) ⟨Nat.zero_le _, Nat.zero_le _⟩ (kV (fun v20 h20 => ?_))
  have hre := rg_remE hl3 hrg
  have hret : BA v20 b (remE L n) ∧ fr v v20 b := by
    rw [hre]
    by_cases hpq : p0 < q0
    · rw [if_pos hpq]; rw [show r0 = p0 + 1 by omega] at h20; exact h20
    · rw [if_neg hpq]; rw [show r0 = p0 by omega, List.take_append_drop] at h20; exact h20
  exact j_vret X dX0_removeEarliest_23 ⟨rfl, rfl, hret⟩
def rmX0_holds : Room := { frames := 1, cells := 0, slots := 0, locals := 22 }
set_option maxHeartbeats 4000000 in
set_option maxRecDepth 100000 in
theorem c_X0_holds (l : Launch) (D : va_G) (nH : Nat) (sk : Sk) (v : Mem) (b n i : Nat) (L : List Nat) (hb : Bd D sk b) (hL : BA v b L) (hn : n * 16 + i < 1600) : CtI l D yX0_holds wsX0_holds rmX0_holds [.ref b, .int (I n), .int (I i)] nH sk v (fun z v' => (z = 0 ∨ z = 1) ∧ (z = 1 ↔ n * 16 + i ∈ L) ∧ v = v') := by
  refine ct_of (cc := cX0_holds) (maxL := 5) (ret := (some .boolean)) rfl rfl (Nat.le_of_ble_eq_true rfl) ?_
  intro p e s m args below meth c X hmn hsz
  have hinX0 : ∀ w ∈ wsX00, w ∈ wsX0_holds := by decide +kernel
  obtain ⟨hb0, hb1⟩ := id hb
  obtain ⟨hl0, hl1, hl2, hl3, hl4⟩ := id hL
  refine j_iload_n X dX0_holds_0 rfl ?_
  refine j_iload_n X dX0_holds_1 rfl ?_
  refine j_callS (nn := 2) X dX0_holds_2 (c_X0_leafWith l D nH sk v n i) gX0_holds_X0_leafWith rfl ⟨rfl, rfl⟩ (by decide +kernel) ⟨Nat.le_of_ble_eq_true rfl, Nat.le_of_ble_eq_true rfl⟩ rfl rfl (Nat.le_of_ble_eq_true rfl) ⟨Nat.zero_le _, Nat.zero_le _⟩ (kI (fun z2 v2 h2 => ?_))
  obtain ⟨rfl, rfl⟩ := h2
  rw [show (n : Int) * 16 + (i : Int) = ((n * 16 + i : Nat) : Int) by omega]
  generalize hx : n * 16 + i = x at hn ⊢
  refine j_istore_n X dX0_holds_5 rfl (Nat.le_of_ble_eq_true rfl) ?_
  refine j_aload_n X dX0_holds_6 rfl ?_
  refine j_iload_n X dX0_holds_7 rfl ?_
  refine j_callV (nn := 1) X dX0_holds_8 (c_X0_placeOf l D nH sk v b _ L hb hL (by omega)) gX0_holds_X0_placeOf rfl ⟨rfl, rfl⟩ (by decide +kernel) ⟨Nat.le_of_ble_eq_true rfl, Nat.le_of_ble_eq_true rfl⟩ (by assumption) ⟨rfl, rfl⟩ rfl rfl (Nat.le_of_ble_eq_true rfl) ⟨Nat.zero_le _, Nat.zero_le _⟩ (kI (fun z8 v8 h8 => ?_))
  obtain ⟨q, rfl, hq, rfl⟩ := h8
  have hq0 := hq.1
  have hme := pl_mem hl3 hq
  refine j_istore X dX0_holds_11 rfl (Nat.le_of_ble_eq_true rfl) ?_
  refine j_iload X dX0_holds_13 rfl ?_
  refine j_aload_n X dX0_holds_15 rfl ?_
  refine j_geti X dX0_holds_16 (T := TX0) (N := 2) (C := RX0) hinX0 rfl (by assumption) 1 (by decide) (by decide +kernel) rfl ?_
  refine j_icmp_ge (tgt := 37) X dX0_holds_19 (by omega) (by decide) (fun c19 => ?_) (fun c19 => ?_)
  · refine j_iconst X dX0_holds_37 ?_
    first
      | have hret : ((1 : Int) = 0 ∨ (1 : Int) = 1) ∧ ((1 : Int) = 1 ↔ x ∈ L) ∧ v = v := ⟨Or.inr rfl, ⟨fun _ => hme.mpr ⟨hik, by omega⟩, fun _ => rfl⟩, rfl⟩
      | have hret : ((0 : Int) = 0 ∨ (0 : Int) = 1) ∧ ((0 : Int) = 1 ↔ x ∈ L) ∧ v = v := ⟨Or.inl rfl, ⟨fun h => absurd h (by omega), fun h => by obtain ⟨h1, h2⟩ := hme.mp h; simp only [Int.toNat_natCast] at c30; omega⟩, rfl⟩
      | have hret : ((0 : Int) = 0 ∨ (0 : Int) = 1) ∧ ((0 : Int) = 1 ↔ x ∈ L) ∧ v = v := ⟨Or.inl rfl, ⟨fun h => absurd h (by omega), fun h => by obtain ⟨h1, h2⟩ := hme.mp h; omega⟩, rfl⟩
    exact j_zret X dX0_holds_38 (by omega) ⟨_, rfl, rfl, hret⟩
  · refine j_aload_n X dX0_holds_22 rfl ?_
    refine j_getr X dX0_holds_23 (T := TX0) (N := 2) (C := RX0) hinX0 rfl (by assumption) 0 (by decide) (by decide +kernel) rfl ?_
    refine j_iload X dX0_holds_26 rfl ?_
    refine j_iald X dX0_holds_28 (by assumption) (by omega) (by decide) ?_
    refine j_iload_n X dX0_holds_29 rfl ?_
    obtain ⟨hik, hir⟩ := hl2.at (show (0 : Int) ≤ (q : Int) by omega) (by omega)
    have hib := hL.lt hik
    simp only [Int.toNat_natCast] at hik hir hib ⊢
    refine j_icmp_ne (tgt := 37) X dX0_holds_30 (by omega) (by decide) (fun c30 => ?_) (fun c30 => ?_)
    · refine j_iconst X dX0_holds_37 ?_
      first
        | have hret : ((1 : Int) = 0 ∨ (1 : Int) = 1) ∧ ((1 : Int) = 1 ↔ x ∈ L) ∧ v = v := ⟨Or.inr rfl, ⟨fun _ => hme.mpr ⟨hik, by omega⟩, fun _ => rfl⟩, rfl⟩
        | have hret : ((0 : Int) = 0 ∨ (0 : Int) = 1) ∧ ((0 : Int) = 1 ↔ x ∈ L) ∧ v = v := ⟨Or.inl rfl, ⟨fun h => absurd h (by omega), fun h => by obtain ⟨h1, h2⟩ := hme.mp h; simp only [Int.toNat_natCast] at c30; omega⟩, rfl⟩
        | have hret : ((0 : Int) = 0 ∨ (0 : Int) = 1) ∧ ((0 : Int) = 1 ↔ x ∈ L) ∧ v = v := ⟨Or.inl rfl, ⟨fun h => absurd h (by omega), fun h => by obtain ⟨h1, h2⟩ := hme.mp h; omega⟩, rfl⟩
      exact j_zret X dX0_holds_38 (by omega) ⟨_, rfl, rfl, hret⟩
    · refine j_iconst X dX0_holds_33 ?_
      refine j_goto (tgt := 38) X dX0_holds_34 (by decide) ?_
      first
        | have hret : ((1 : Int) = 0 ∨ (1 : Int) = 1) ∧ ((1 : Int) = 1 ↔ x ∈ L) ∧ v = v := ⟨Or.inr rfl, ⟨fun _ => hme.mpr ⟨hik, by omega⟩, fun _ => rfl⟩, rfl⟩
        | have hret : ((0 : Int) = 0 ∨ (0 : Int) = 1) ∧ ((0 : Int) = 1 ↔ x ∈ L) ∧ v = v := ⟨Or.inl rfl, ⟨fun h => absurd h (by omega), fun h => by obtain ⟨h1, h2⟩ := hme.mp h; simp only [Int.toNat_natCast] at c30; omega⟩, rfl⟩
        | have hret : ((0 : Int) = 0 ∨ (0 : Int) = 1) ∧ ((0 : Int) = 1 ↔ x ∈ L) ∧ v = v := ⟨Or.inl rfl, ⟨fun h => absurd h (by omega), fun h => by obtain ⟨h1, h2⟩ := hme.mp h; omega⟩, rfl⟩
      exact j_zret X dX0_holds_38 (by omega) ⟨_, rfl, rfl, hret⟩
def rmX0_remove : Room := { frames := 2, cells := 0, slots := 0, locals := 48 }
set_option maxHeartbeats 4000000 in
set_option maxRecDepth 100000 in
theorem c_X0_remove (l : Launch) (D : va_G) (nH : Nat) (sk : Sk) (v : Mem) (b n i : Nat) (L : List Nat) (hb : Bd D sk b) (hL : BA v b L) (hn : n * 16 + i < 1600) : CtV l D yX0_remove wsX0_remove rmX0_remove [.ref b, .int (I n), .int (I i)] nH sk v (fun v' => BA v' b (L.erase (n * 16 + i)) ∧ fr v v' b) := by
  refine ct_of (cc := cX0_remove) (maxL := 4) (ret := none) rfl rfl (Nat.le_of_ble_eq_true rfl) ?_
  intro p e s m args below meth c X hmn hsz
  obtain ⟨hb0, hb1⟩ := id hb
  obtain ⟨hl0, hl1, hl2, hl3, hl4⟩ := id hL
  refine j_aload_n X dX0_remove_0 rfl ?_
  refine j_iload_n X dX0_remove_1 rfl ?_
  refine j_iload_n X dX0_remove_2 rfl ?_
  refine j_callV (nn := 2) X dX0_remove_3 (c_X0_holds l D nH sk v b n i L hb hL hn) gX0_remove_X0_holds rfl ⟨rfl, rfl⟩ (by decide +kernel) ⟨Nat.le_of_ble_eq_true rfl, Nat.le_of_ble_eq_true rfl⟩ (by assumption) ⟨rfl, rfl⟩ rfl rfl (Nat.le_of_ble_eq_true rfl) ⟨Nat.zero_le _, Nat.zero_le _⟩ (kI (fun z3 v3 h3 => ?_))
  obtain ⟨hz0, hz1, rfl⟩ := h3
  refine j_if_eq (tgt := 27) X dX0_remove_6 (by omega) (by decide) (fun c6 => ?_) (fun c6 => ?_)
  · first
      | have hret := h24
      | have hret : BA v b (L.erase (n * 16 + i)) ∧ fr v v b := ⟨by rw [List.erase_of_not_mem (fun h => by have := hz1.mpr h; omega)]; exact hL, fr.refl _ _⟩
    exact j_vret X dX0_remove_27 ⟨rfl, rfl, hret⟩
  · refine j_aload_n X dX0_remove_9 rfl ?_
    refine j_iload_n X dX0_remove_10 rfl ?_
    refine j_iload_n X dX0_remove_11 rfl ?_
    refine j_callS (nn := 2) X dX0_remove_12 (c_X0_leafWith l D nH sk v n i) gX0_remove_X0_leafWith rfl ⟨rfl, rfl⟩ (by decide +kernel) ⟨Nat.le_of_ble_eq_true rfl, Nat.le_of_ble_eq_true rfl⟩ rfl rfl (Nat.le_of_ble_eq_true rfl) ⟨Nat.zero_le _, Nat.zero_le _⟩ (kI (fun z12 v12 h12 => ?_))
    obtain ⟨rfl, rfl⟩ := h12
    rw [show (n : Int) * 16 + (i : Int) = ((n * 16 + i : Nat) : Int) by omega]
    generalize hx : n * 16 + i = x at hn hz1 ⊢
    refine j_callV (nn := 1) X dX0_remove_15 (c_X0_placeOf l D nH sk v b _ L hb hL (by omega)) gX0_remove_X0_placeOf rfl ⟨rfl, rfl⟩ (by decide +kernel) ⟨Nat.le_of_ble_eq_true rfl, Nat.le_of_ble_eq_true rfl⟩ (by assumption) ⟨rfl, rfl⟩ rfl rfl (Nat.le_of_ble_eq_true rfl) ⟨Nat.zero_le _, Nat.zero_le _⟩ (kI (fun z15 v15 h15 => ?_))
    obtain ⟨q, rfl, hq, rfl⟩ := h15
    have hq0 := hq.1
    obtain ⟨hq1, hq2⟩ := (pl_mem hl3 hq).mp (hz1.mp (by omega))
    refine j_istore_n X dX0_remove_18 rfl (Nat.le_of_ble_eq_true rfl) ?_
    refine j_aload_n X dX0_remove_19 rfl ?_
    refine j_iload_n X dX0_remove_20 rfl ?_
    refine j_iload_n X dX0_remove_21 rfl ?_
    refine j_iconst X dX0_remove_22 ?_
    refine j_iadd X dX0_remove_23 ?_
    rw [show (q : Int) + 1 = ((q + 1 : Nat) : Int) by omega]
    refine j_callV (nn := 2) X dX0_remove_24 (c_X0_removeRange l D nH sk v b q (q + 1) L hb hL (by omega) (by omega)) gX0_remove_X0_removeRange rfl ⟨rfl, rfl⟩ (by decide +kernel) ⟨Nat.le_of_ble_eq_true rfl, Nat.le_of_ble_eq_true rfl⟩ (by assumption) ⟨rfl, rfl⟩ rfl rfl (Nat.le_of_ble_eq_true rfl) ⟨Nat.zero_le _, Nat.zero_le _⟩ (kV (fun v24 h24 => ?_))
    rw [erase_at hq1 hq2 (fun k hk hkq z => by have := hq.2.1 k hk hkq; omega)] at h24
    first
      | have hret := h24
      | have hret : BA v b (L.erase (n * 16 + i)) ∧ fr v v b := ⟨by rw [List.erase_of_not_mem (fun h => by have := hz1.mpr h; omega)]; exact hL, fr.refl _ _⟩
    exact j_vret X dX0_remove_27 ⟨rfl, rfl, hret⟩
def rmX0_held : Room := { frames := 2, cells := 0, slots := 0, locals := 43 }
set_option maxHeartbeats 4000000 in
set_option maxRecDepth 100000 in
theorem c_X0_held (l : Launch) (D : va_G) (nH : Nat) (sk : Sk) (v : Mem) (b n : Nat) (L : List Nat) (hb : Bd D sk b) (hL : BA v b L) (hn : n ≤ 100) : CtI l D yX0_held wsX0_held rmX0_held [.ref b, .int (I n)] nH sk v (fun z v' => z = (cntN L n : Int) ∧ v = v') := by
  refine ct_of (cc := cX0_held) (maxL := 3) (ret := (some .int)) rfl rfl (Nat.le_of_ble_eq_true rfl) ?_
  intro p e s m args below meth c X hmn hsz
  obtain ⟨hb0, hb1⟩ := id hb
  obtain ⟨hl0, hl1, hl2, hl3, hl4⟩ := id hL
  refine j_aload_n X dX0_held_0 rfl ?_
  refine j_iload_n X dX0_held_1 rfl ?_
  refine j_callV (nn := 1) X dX0_held_2 (c_X0_start l D nH sk v b n L hb hL hn) gX0_held_X0_start rfl ⟨rfl, rfl⟩ (by decide +kernel) ⟨Nat.le_of_ble_eq_true rfl, Nat.le_of_ble_eq_true rfl⟩ (by assumption) ⟨rfl, rfl⟩ rfl rfl (Nat.le_of_ble_eq_true rfl) ⟨Nat.zero_le _, Nat.zero_le _⟩ (kI (fun z2 v2 h2 => ?_))
  obtain ⟨p0, rfl, hp0, rfl⟩ := h2
  have hp1 := hp0.1
  refine j_istore_n X dX0_held_5 rfl (Nat.le_of_ble_eq_true rfl) ?_
  refine j_aload_n X dX0_held_6 rfl ?_
  refine j_iload_n X dX0_held_7 rfl ?_
  refine j_iload_n X dX0_held_8 rfl ?_
  refine j_callV (nn := 2) X dX0_held_9 (c_X0_end l D nH sk v b n p0 L hb hL hn hp1) gX0_held_X0_end rfl ⟨rfl, rfl⟩ (by decide +kernel) ⟨Nat.le_of_ble_eq_true rfl, Nat.le_of_ble_eq_true rfl⟩ (by assumption) ⟨rfl, rfl⟩ rfl rfl (Nat.le_of_ble_eq_true rfl) ⟨Nat.zero_le _, Nat.zero_le _⟩ (kI (fun z9 v9 h9 => ?_))
  obtain ⟨q0, rfl, hq1, hq2, hq3, hq4, rfl⟩ := h9
  have hrg := isRg_of hL.2.2.2.1 hp0 hq1 hq2 hq3 hq4
  refine j_iload_n X dX0_held_12 rfl ?_
  refine j_isub X dX0_held_13 ?_
  exact j_iret X dX0_held_14 ⟨_, rfl, rfl, ⟨by rw [rg_cnt hrg]; omega, rfl⟩⟩
def rmX0_earliestIssue : Room := { frames := 2, cells := 0, slots := 0, locals := 43 }
set_option maxHeartbeats 4000000 in
set_option maxRecDepth 100000 in
theorem c_X0_earliestIssue (l : Launch) (D : va_G) (nH : Nat) (sk : Sk) (v : Mem) (b n : Nat) (L : List Nat) (hb : Bd D sk b) (hL : BA v b L) (hn : n ≤ 100) : CtI l D yX0_earliestIssue wsX0_earliestIssue rmX0_earliestIssue [.ref b, .int (I n)] nH sk v (fun z v' => isE L n z ∧ v = v') := by
  refine ct_of (cc := cX0_earliestIssue) (maxL := 3) (ret := (some .int)) rfl rfl (Nat.le_of_ble_eq_true rfl) ?_
  intro p e s m args below meth c X hmn hsz
  have hinX0 : ∀ w ∈ wsX00, w ∈ wsX0_earliestIssue := by decide +kernel
  obtain ⟨hb0, hb1⟩ := id hb
  obtain ⟨hl0, hl1, hl2, hl3, hl4⟩ := id hL
  refine j_aload_n X dX0_earliestIssue_0 rfl ?_
  refine j_iload_n X dX0_earliestIssue_1 rfl ?_
  refine j_callV (nn := 1) X dX0_earliestIssue_2 (c_X0_start l D nH sk v b n L hb hL hn) gX0_earliestIssue_X0_start rfl ⟨rfl, rfl⟩ (by decide +kernel) ⟨Nat.le_of_ble_eq_true rfl, Nat.le_of_ble_eq_true rfl⟩ (by assumption) ⟨rfl, rfl⟩ rfl rfl (Nat.le_of_ble_eq_true rfl) ⟨Nat.zero_le _, Nat.zero_le _⟩ (kI (fun z2 v2 h2 => ?_))
  obtain ⟨p0, rfl, hp0, rfl⟩ := h2
  have hp1 := hp0.1
  refine j_istore_n X dX0_earliestIssue_5 rfl (Nat.le_of_ble_eq_true rfl) ?_
  refine j_aload_n X dX0_earliestIssue_6 rfl ?_
  refine j_iload_n X dX0_earliestIssue_7 rfl ?_
  refine j_iload_n X dX0_earliestIssue_8 rfl ?_
  refine j_callV (nn := 2) X dX0_earliestIssue_9 (c_X0_end l D nH sk v b n p0 L hb hL hn hp1) gX0_earliestIssue_X0_end rfl ⟨rfl, rfl⟩ (by decide +kernel) ⟨Nat.le_of_ble_eq_true rfl, Nat.le_of_ble_eq_true rfl⟩ (by assumption) ⟨rfl, rfl⟩ rfl rfl (Nat.le_of_ble_eq_true rfl) ⟨Nat.zero_le _, Nat.zero_le _⟩ (kI (fun z9 v9 h9 => ?_))
  obtain ⟨q0, rfl, hq1, hq2, hq3, hq4, rfl⟩ := h9
  have hrg := isRg_of hL.2.2.2.1 hp0 hq1 hq2 hq3 hq4
  refine j_iload_n X dX0_earliestIssue_12 rfl ?_
  refine j_icmp_le (tgt := 28) X dX0_earliestIssue_13 (by omega) (by decide) (fun c13 => ?_) (fun c13 => ?_)
  · refine j_bipush X dX0_earliestIssue_28 (by decide) ?_
    first
      | have hret : isE L n (((L[p0]'hik : Nat) : Int) % 16) ∧ v = v := ⟨(rg_isE hl3 hrg).1 hik (by omega), rfl⟩
      | have hret : isE L n (-6) ∧ v = v := ⟨(rg_isE hl3 hrg).2 (by omega), rfl⟩
    exact j_iret X dX0_earliestIssue_30 ⟨_, rfl, rfl, hret⟩
  · refine j_aload_n X dX0_earliestIssue_16 rfl ?_
    refine j_getr X dX0_earliestIssue_17 (T := TX0) (N := 2) (C := RX0) hinX0 rfl (by assumption) 0 (by decide) (by decide +kernel) rfl ?_
    refine j_iload_n X dX0_earliestIssue_20 rfl ?_
    refine j_iald X dX0_earliestIssue_21 (by assumption) (by omega) (by decide) ?_
    obtain ⟨hik, hir⟩ := hl2.at (show (0 : Int) ≤ (p0 : Int) by omega) (by omega)
    have hib := hL.lt hik
    simp only [Int.toNat_natCast] at hik hir hib ⊢
    refine j_callS (nn := 1) X dX0_earliestIssue_22 (c_X0_issueOf l D nH sk v _ (by omega)) gX0_earliestIssue_X0_issueOf rfl ⟨rfl, rfl⟩ (by decide +kernel) ⟨Nat.le_of_ble_eq_true rfl, Nat.le_of_ble_eq_true rfl⟩ rfl rfl (Nat.le_of_ble_eq_true rfl) ⟨Nat.zero_le _, Nat.zero_le _⟩ (kI (fun z22 v22 h22 => ?_))
    obtain ⟨rfl, rfl⟩ := h22
    rw [hir]
    refine j_goto (tgt := 30) X dX0_earliestIssue_25 (by decide) ?_
    first
      | have hret : isE L n (((L[p0]'hik : Nat) : Int) % 16) ∧ v = v := ⟨(rg_isE hl3 hrg).1 hik (by omega), rfl⟩
      | have hret : isE L n (-6) ∧ v = v := ⟨(rg_isE hl3 hrg).2 (by omega), rfl⟩
    exact j_iret X dX0_earliestIssue_30 ⟨_, rfl, rfl, hret⟩
def rmX0_latestIssue : Room := { frames := 2, cells := 0, slots := 0, locals := 43 }
set_option maxHeartbeats 4000000 in
set_option maxRecDepth 100000 in
theorem c_X0_latestIssue (l : Launch) (D : va_G) (nH : Nat) (sk : Sk) (v : Mem) (b n : Nat) (L : List Nat) (hb : Bd D sk b) (hL : BA v b L) (hn : n ≤ 100) : CtI l D yX0_latestIssue wsX0_latestIssue rmX0_latestIssue [.ref b, .int (I n)] nH sk v (fun z v' => isLt L n z ∧ v = v') := by
  refine ct_of (cc := cX0_latestIssue) (maxL := 4) (ret := (some .int)) rfl rfl (Nat.le_of_ble_eq_true rfl) ?_
  intro p e s m args below meth c X hmn hsz
  have hinX0 : ∀ w ∈ wsX00, w ∈ wsX0_latestIssue := by decide +kernel
  obtain ⟨hb0, hb1⟩ := id hb
  obtain ⟨hl0, hl1, hl2, hl3, hl4⟩ := id hL
  refine j_aload_n X dX0_latestIssue_0 rfl ?_
  refine j_iload_n X dX0_latestIssue_1 rfl ?_
  refine j_callV (nn := 1) X dX0_latestIssue_2 (c_X0_start l D nH sk v b n L hb hL hn) gX0_latestIssue_X0_start rfl ⟨rfl, rfl⟩ (by decide +kernel) ⟨Nat.le_of_ble_eq_true rfl, Nat.le_of_ble_eq_true rfl⟩ (by assumption) ⟨rfl, rfl⟩ rfl rfl (Nat.le_of_ble_eq_true rfl) ⟨Nat.zero_le _, Nat.zero_le _⟩ (kI (fun z2 v2 h2 => ?_))
  obtain ⟨p0, rfl, hp0, rfl⟩ := h2
  have hp1 := hp0.1
  refine j_istore_n X dX0_latestIssue_5 rfl (Nat.le_of_ble_eq_true rfl) ?_
  refine j_aload_n X dX0_latestIssue_6 rfl ?_
  refine j_iload_n X dX0_latestIssue_7 rfl ?_
  refine j_iload_n X dX0_latestIssue_8 rfl ?_
  refine j_callV (nn := 2) X dX0_latestIssue_9 (c_X0_end l D nH sk v b n p0 L hb hL hn hp1) gX0_latestIssue_X0_end rfl ⟨rfl, rfl⟩ (by decide +kernel) ⟨Nat.le_of_ble_eq_true rfl, Nat.le_of_ble_eq_true rfl⟩ (by assumption) ⟨rfl, rfl⟩ rfl rfl (Nat.le_of_ble_eq_true rfl) ⟨Nat.zero_le _, Nat.zero_le _⟩ (kI (fun z9 v9 h9 => ?_))
  obtain ⟨q0, rfl, hq1, hq2, hq3, hq4, rfl⟩ := h9
  have hrg := isRg_of hL.2.2.2.1 hp0 hq1 hq2 hq3 hq4
  refine j_istore_n X dX0_latestIssue_12 rfl (Nat.le_of_ble_eq_true rfl) ?_
  refine j_iload_n X dX0_latestIssue_13 rfl ?_
  refine j_iload_n X dX0_latestIssue_14 rfl ?_
  refine j_icmp_le (tgt := 32) X dX0_latestIssue_15 (by omega) (by decide) (fun c15 => ?_) (fun c15 => ?_)
  · refine j_bipush X dX0_latestIssue_32 (by decide) ?_
    first
      | have hret : isLt L n (((L[q0 - 1]'hik : Nat) : Int) % 16) ∧ v = v := ⟨(rg_isLt hl3 hrg).1 hik (by omega), rfl⟩
      | have hret : isLt L n (-6) ∧ v = v := ⟨(rg_isLt hl3 hrg).2 (by omega), rfl⟩
    exact j_iret X dX0_latestIssue_34 ⟨_, rfl, rfl, hret⟩
  · refine j_aload_n X dX0_latestIssue_18 rfl ?_
    refine j_getr X dX0_latestIssue_19 (T := TX0) (N := 2) (C := RX0) hinX0 rfl (by assumption) 0 (by decide) (by decide +kernel) rfl ?_
    refine j_iload_n X dX0_latestIssue_22 rfl ?_
    refine j_iconst X dX0_latestIssue_23 ?_
    refine j_isub X dX0_latestIssue_24 ?_
    refine j_iald X dX0_latestIssue_25 (by assumption) (by omega) (by decide) ?_
    obtain ⟨hik, hir⟩ := hl2.at (show (0 : Int) ≤ (q0 : Int) - 1 by omega) (by omega)
    have hib := hL.lt hik
    simp only [show ((q0 : Int) - 1).toNat = q0 - 1 by omega] at hik hir hib ⊢
    refine j_callS (nn := 1) X dX0_latestIssue_26 (c_X0_issueOf l D nH sk v _ (by omega)) gX0_latestIssue_X0_issueOf rfl ⟨rfl, rfl⟩ (by decide +kernel) ⟨Nat.le_of_ble_eq_true rfl, Nat.le_of_ble_eq_true rfl⟩ rfl rfl (Nat.le_of_ble_eq_true rfl) ⟨Nat.zero_le _, Nat.zero_le _⟩ (kI (fun z26 v26 h26 => ?_))
    obtain ⟨rfl, rfl⟩ := h26
    rw [hir]
    refine j_goto (tgt := 34) X dX0_latestIssue_29 (by decide) ?_
    first
      | have hret : isLt L n (((L[q0 - 1]'hik : Nat) : Int) % 16) ∧ v = v := ⟨(rg_isLt hl3 hrg).1 hik (by omega), rfl⟩
      | have hret : isLt L n (-6) ∧ v = v := ⟨(rg_isLt hl3 hrg).2 (by omega), rfl⟩
    exact j_iret X dX0_latestIssue_34 ⟨_, rfl, rfl, hret⟩
end
section
/-! ===== how a binder differs ===== -/
theorem isE.bd {L : List Nat} {n : Nat} {z : Int} (h : isE L n z) : -6 ≤ z ∧ z ≤ 15 := by
  rcases h with h | ⟨x, h1, h2, h3, h4⟩ <;> omega
theorem isLt.bd {L : List Nat} {n : Nat} {z : Int} (h : isLt L n z) : -6 ≤ z ∧ z ≤ 15 := by
  rcases h with h | ⟨x, h1, h2, h3, h4⟩ <;> omega
theorem isE.uniq {L : List Nat} {n : Nat} {z w : Int} (h : isE L n z) (g : isE L n w) : z = w := by
  rcases h with h | ⟨x, h1, h2, h3, h4⟩ <;> rcases g with g | ⟨y, g1, g2, g3, g4⟩
  · omega
  · exact absurd g2 (h.2 y g1)
  · exact absurd h2 (g.2 x h1)
  · have := h4 y g1 g2
    have := g4 x h1 h2
    omega
theorem isLt.uniq {L : List Nat} {n : Nat} {z w : Int} (h : isLt L n z) (g : isLt L n w) : z = w := by
  rcases h with h | ⟨x, h1, h2, h3, h4⟩ <;> rcases g with g | ⟨y, g1, g2, g3, g4⟩
  · omega
  · exact absurd g2 (h.2 y g1)
  · exact absurd h2 (g.2 x h1)
  · have := h4 y g1 g2
    have := g4 x h1 h2
    omega
theorem cntN_le (L : List Nat) (n : Nat) : cntN L n ≤ L.length := List.countP_le_length
theorem dif_no {L T : List Nat} {n : Nat} (k : Int) (h : ∀ x ∈ T, x / 16 ≠ n) : dif L T n k = if k = 3 then cntN L n else 0 := by
  unfold dif surp oldN misN
  rw [hasN_no h]
  simp
theorem dif_0 {L T : List Nat} {n x : Nat} (k : Int) (hk : k = 3 ∨ k = 4 ∨ k = 5) (hx : x ∈ T) (hn : x / 16 = n) (h0 : cntN L n = 0) : dif L T n k = if k = 5 then 1 else 0 := by
  unfold dif surp oldN misN
  rw [hasN_of hx hn, h0]
  rcases hk with rfl | rfl | rfl <;> simp
theorem dif_s {L T : List Nat} {n x : Nat} (k : Int) (hu : unq T) (hk : k = 3 ∨ k = 4 ∨ k = 5) (hx : x ∈ T) (hn : x / 16 = n) (h0 : ¬ cntN L n = 0) : (k = 3 → dif L T n k = cntN L n - 1) ∧ (k = 5 → dif L T n k = 0) ∧ (k = 4 → x ∈ L → dif L T n k = 0) ∧ (k = 4 → x ∉ L → dif L T n k = 1) := by
  unfold dif surp oldN misN
  rw [hasN_of hx hn]
  refine ⟨?_, ?_, ?_, ?_⟩
  · rintro rfl; simp
  · rintro rfl; simp [h0]
  · rintro rfl h
    simp only [show ¬ (4 : Int) = 3 by omega, if_false, if_true]
    rw [if_neg]
    rintro ⟨-, -, h2⟩
    exact h2 x hx hn h
  · rintro rfl h
    simp only [show ¬ (4 : Int) = 3 by omega, if_false, if_true]
    rw [if_pos]
    refine ⟨by simp, h0, fun y hy hyn => ?_⟩
    rw [hu y hy x hx (by omega)]
    exact h
/-! ===== the pad ===== -/
def Pd (D : va_G) (sk : Sk) (b : Nat) : Prop := sk b = some (eO 2 [some (.ref (b + 1)), none]) ∧ sk (b + 1) = some (eA D 11 48)
def PA (v : Mem) (b : Nat) (P : List Nat) : Prop := v b 1 = (P.length : Int) ∧ P.length ≤ 48 ∧ AL (v (b + 1)) P ∧ ∀ x ∈ P, 33 ≤ x ∧ x ≤ 126
def stand (c i : Nat) : Prop := i < 39 ∧ ((i % 5 = 0 ∧ (c = 43 ∨ c = 45)) ∨ (i % 5 = 1 ∧ 49 ≤ c ∧ c ≤ 57) ∨ (i % 5 = 2 ∧ c = 46) ∨ (i % 5 = 3 ∧ 48 ≤ c ∧ c ≤ 57) ∨ (i % 5 = 4 ∧ c = 44))
def isF (P : List Nat) (z : Int) : Prop := (∃ (i : Nat) (h : i < P.length), ¬ stand (P[i]'h) i ∧ (∀ (j : Nat) (h : j < P.length), j < i → stand (P[j]'h) j) ∧ z = (i : Int)) ∨ ((∀ (j : Nat) (h : j < P.length), stand (P[j]'h) j) ∧ ((P.length % 5 = 4 ∧ z = -6) ∨ (P.length % 5 ≠ 4 ∧ z = (P.length : Int))))
theorem isF.uniq {P : List Nat} {z w : Int} (h : isF P z) (g : isF P w) : z = w := by
  rcases h with ⟨i, h1, h2, h3, h4⟩ | ⟨h1, h2⟩ <;> rcases g with ⟨j, g1, g2, g3, g4⟩ | ⟨g1, g2⟩
  · rcases Nat.lt_trichotomy i j with q | q | q
    · exact absurd (g3 i h1 q) h2
    · omega
    · exact absurd (h3 j g1 q) g2
  · exact absurd (g1 i h1) h2
  · exact absurd (h1 j g1) g2
  · omega
theorem isF.bd {P : List Nat} {z : Int} (h : isF P z) : -6 ≤ z ∧ z ≤ P.length := by
  rcases h with ⟨i, h1, h2, h3, h4⟩ | ⟨h1, h2⟩ <;> omega
/-- a pad that can be read has at most 39 characters -/
theorem isF.ok {P : List Nat} (h : isF P (-6)) : (∀ (j : Nat) (h : j < P.length), stand (P[j]'h) j) ∧ P.length % 5 = 4 ∧ P.length ≤ 39 := by
  rcases h with ⟨i, h1, h2, h3, h4⟩ | ⟨h1, h2⟩
  · omega
  · refine ⟨h1, by omega, ?_⟩
    rcases Nat.lt_or_ge 39 P.length with q | q
    · exact absurd (h1 39 q).1 (by omega)
    · exact q
/-- an order's number as the pad has it: from its place's four characters -/
def ordOf (a c d : Nat) : Nat := 10 * (c - 48) + (d - 48) + if a = 43 then 100 else 0
def ordAt (P : List Nat) (k : Nat) : Nat := ordOf (P.getD (5 * k) 0) (P.getD (5 * k + 1) 0) (P.getD (5 * k + 3) 0)
def ordsOf (P : List Nat) : List Nat := (List.range ((P.length + 1) / 5)).map (ordAt P)
/-- an order: a number from 10 to 99, and 100 if it is put in -/
def oko (x : Nat) : Prop := 10 ≤ x % 100 ∧ x < 200
theorem ordsOf_len (P : List Nat) : (ordsOf P).length = (P.length + 1) / 5 := by simp [ordsOf]
theorem ordsOf_get {P : List Nat} {k : Nat} (h : k < (ordsOf P).length) : (ordsOf P)[k] = ordAt P k := by simp [ordsOf]
theorem ord_facts {P : List Nat} (h : isF P (-6)) {k : Nat} (hk : k < (P.length + 1) / 5) : ∃ (h0 : 5 * k < P.length) (h1 : 5 * k + 1 < P.length) (h3 : 5 * k + 3 < P.length), (P[5 * k] = 43 ∨ P[5 * k] = 45) ∧ (49 ≤ P[5 * k + 1] ∧ P[5 * k + 1] ≤ 57) ∧ (48 ≤ P[5 * k + 3] ∧ P[5 * k + 3] ≤ 57) ∧ ordAt P k = ordOf P[5 * k] P[5 * k + 1] P[5 * k + 3] := by
  obtain ⟨hs, hm, hl⟩ := h.ok
  have h0 : 5 * k < P.length := by omega
  have h1 : 5 * k + 1 < P.length := by omega
  have h3 : 5 * k + 3 < P.length := by omega
  refine ⟨h0, h1, h3, ?_, ?_, ?_, ?_⟩
  · have := (hs _ h0).2
    omega
  · have := (hs _ h1).2
    omega
  · have := (hs _ h3).2
    omega
  · unfold ordAt
    rw [List.getD_eq_getElem?_getD, List.getD_eq_getElem?_getD, List.getD_eq_getElem?_getD, List.getElem?_eq_getElem h0, List.getElem?_eq_getElem h1, List.getElem?_eq_getElem h3]
    rfl
theorem ord_oko {P : List Nat} (h : isF P (-6)) {x : Nat} (hx : x ∈ ordsOf P) : oko x := by
  obtain ⟨k, hk, rfl⟩ := List.mem_map.mp hx
  obtain ⟨h0, h1, h3, g0, g1, g3, e⟩ := ord_facts h (List.mem_range.mp hk)
  rw [e]
  unfold oko ordOf
  split <;> omega
theorem ords_len8 {P : List Nat} (h : isF P (-6)) : 1 ≤ (ordsOf P).length ∧ (ordsOf P).length ≤ 8 := by
  obtain ⟨hs, hm, hl⟩ := h.ok
  rw [ordsOf_len]
  omega
def twice (O : List Nat) : Prop := ∃ (i j : Nat) (hi : i < O.length) (hj : j < O.length), j < i ∧ (O[i]'hi) % 100 = (O[j]'hj) % 100
/-- a number that is k characters, the last one lowest -/
def chOK (w k : Nat) : Prop := 0 < k ∧ k ≤ 8 ∧ (∀ j, j < k → 33 ≤ w / 256 ^ j % 256 ∧ w / 256 ^ j % 256 ≤ 126) ∧ w / 256 ^ k = 0
theorem chOK.uniq {w k j : Nat} (h : chOK w k) (g : chOK w j) : k = j := by
  have key : ∀ {k j : Nat}, chOK w k → chOK w j → ¬ k < j := by
    intro k j h g q
    have h1 := g.2.2.1 (j - 1) (by omega)
    have h2 : w / 256 ^ (j - 1) = 0 := by
      rw [show j - 1 = k + (j - 1 - k) by omega, Nat.pow_add, ← Nat.div_div_eq_div_mul, h.2.2.2, Nat.zero_div]
    rw [h2] at h1
    omega
  have h1 := key h g
  have h2 := key g h
  omega
def chs (w k : Nat) : List Nat := (List.range k).map (fun j => w / 256 ^ (k - 1 - j) % 256)
theorem chs_len (w k : Nat) : (chs w k).length = k := by simp [chs]
theorem chs_get {w k j : Nat} (h : j < (chs w k).length) : (chs w k)[j] = w / 256 ^ (k - 1 - j) % 256 := by simp [chs]
/-! ===== more contracts of Binder ===== -/
def rmX0_leavesOf : Room := { frames := 1, cells := 0, slots := 0, locals := 20 }
set_option maxHeartbeats 4000000 in
set_option maxRecDepth 100000 in
theorem c_X0_leavesOf (l : Launch) (D : va_G) (nH : Nat) (sk : Sk) (v : Mem) (b t : Nat) (L : List Nat) (hb : Bd D sk b) (hL : BA v b L) (ht : t < 16) : CtI l D yX0_leavesOf wsX0_leavesOf rmX0_leavesOf [.ref b, .int (I t)] nH sk v (fun z v' => z = (L.countP (fun x => x % 16 == t) : Int) ∧ v = v') := by
  refine ct_of (cc := cX0_leavesOf) (maxL := 4) (ret := (some .int)) rfl rfl (Nat.le_of_ble_eq_true rfl) ?_
  intro p e s m args below meth c X hmn hsz
  have hinX0 : ∀ w ∈ wsX00, w ∈ wsX0_leavesOf := by decide +kernel
  obtain ⟨hb0, hb1⟩ := id hb
  obtain ⟨hl0, hl1, hl2, hl3, hl4⟩ := id hL
  refine j_iconst X dX0_leavesOf_0 ?_
  refine j_istore_n X dX0_leavesOf_1 rfl (Nat.le_of_ble_eq_true rfl) ?_
  refine j_iconst X dX0_leavesOf_2 ?_
  refine j_istore_n X dX0_leavesOf_3 rfl (Nat.le_of_ble_eq_true rfl) ?_
  refine j_loop (σ := Int × Int) (fun (x : Int × Int) => match x with | (i, f) => 0 ≤ i ∧ i ≤ (L.length : Int) ∧ f = ((L.take i.toNat).countP (fun x => x % 16 == t) : Int)) (fun (x : Int × Int) => match x with | (i, f) => ((L.length : Int) - i).toNat) (fun (x : Int × Int) => match x with | (i, f) => (v, [some (.ref b), some (.int (I t)), some (.int (I f)), some (.int (I i))])) ?_ (0, 0) ⟨by omega, by omega, by simp⟩
  intro x hx ih4
  obtain ⟨i, f⟩ := x
  dsimp only at hx ih4 ⊢
  obtain ⟨hi0, hi1, hi2⟩ := hx
  refine j_iload_n X dX0_leavesOf_4 rfl ?_
  refine j_aload_n X dX0_leavesOf_5 rfl ?_
  refine j_geti X dX0_leavesOf_6 (T := TX0) (N := 2) (C := RX0) hinX0 rfl (by assumption) 1 (by decide) (by decide +kernel) rfl ?_
  refine j_icmp_ge (tgt := 34) X dX0_leavesOf_9 (by omega) (by decide) (fun c9 => ?_) (fun c9 => ?_)
  · refine j_iload_n X dX0_leavesOf_34 rfl ?_
    exact j_iret X dX0_leavesOf_35 ⟨_, rfl, rfl, ⟨by rw [List.take_of_length_le (by omega)] at hi2; exact hi2, rfl⟩⟩
  · refine j_aload_n X dX0_leavesOf_12 rfl ?_
    refine j_getr X dX0_leavesOf_13 (T := TX0) (N := 2) (C := RX0) hinX0 rfl (by assumption) 0 (by decide) (by decide +kernel) rfl ?_
    refine j_iload_n X dX0_leavesOf_16 rfl ?_
    refine j_iald X dX0_leavesOf_17 (by assumption) (by omega) (by decide) ?_
    obtain ⟨hik, hir⟩ := hl2.at hi0 (by omega)
    have hib := hL.lt hik
    have hct := cnt_take (P := fun x => x % 16 == t) hik
    refine j_callS (nn := 1) X dX0_leavesOf_18 (c_X0_issueOf l D nH sk v _ (by omega)) gX0_leavesOf_X0_issueOf rfl ⟨rfl, rfl⟩ (by decide +kernel) ⟨Nat.le_of_ble_eq_true rfl, Nat.le_of_ble_eq_true rfl⟩ rfl rfl (Nat.le_of_ble_eq_true rfl) ⟨Nat.zero_le _, Nat.zero_le _⟩ (kI (fun z18 v18 h18 => ?_))
    obtain ⟨rfl, rfl⟩ := h18
    rw [hir]
    refine j_iload_n X dX0_leavesOf_21 rfl ?_
    refine j_icmp_ne (tgt := 28) X dX0_leavesOf_22 (by omega) (by decide) (fun c22 => ?_) (fun c22 => ?_)
    · refine j_iinc X dX0_leavesOf_28 rfl rfl (Nat.le_of_ble_eq_true rfl) ?_
      refine j_goto (tgt := 4) X dX0_leavesOf_31 (by decide) ?_
      exact ih4 (i + 1, _) ⟨by omega, by omega, by rw [show (i + 1).toNat = i.toNat + 1 by omega, hct]; by_cases hh : L[i.toNat] % 16 = t <;> simp [hh] <;> omega⟩ (by omega)
    · refine j_iinc X dX0_leavesOf_25 rfl rfl (Nat.le_of_ble_eq_true rfl) ?_
      refine j_iinc X dX0_leavesOf_28 rfl rfl (Nat.le_of_ble_eq_true rfl) ?_
      refine j_goto (tgt := 4) X dX0_leavesOf_31 (by decide) ?_
      exact ih4 (i + 1, _) ⟨by omega, by omega, by rw [show (i + 1).toNat = i.toNat + 1 by omega, hct]; by_cases hh : L[i.toNat] % 16 = t <;> simp [hh] <;> omega⟩ (by omega)
def rmX0_checkNumber : Room := { frames := 1, cells := 0, slots := 0, locals := 20 }
set_option maxHeartbeats 4000000 in
set_option maxRecDepth 100000 in
theorem c_X0_checkNumber (l : Launch) (D : va_G) (nH : Nat) (sk : Sk) (v : Mem) (b : Nat) (L : List Nat) (hb : Bd D sk b) (hL : BA v b L) : CtI l D yX0_checkNumber wsX0_checkNumber rmX0_checkNumber [.ref b] nH sk v (fun z v' => z = ((chk L % 997 : Nat) : Int) ∧ v = v') := by
  refine ct_of (cc := cX0_checkNumber) (maxL := 3) (ret := (some .int)) rfl rfl (Nat.le_of_ble_eq_true rfl) ?_
  intro p e s m args below meth c X hmn hsz
  have hinX0 : ∀ w ∈ wsX00, w ∈ wsX0_checkNumber := by decide +kernel
  obtain ⟨hb0, hb1⟩ := id hb
  obtain ⟨hl0, hl1, hl2, hl3, hl4⟩ := id hL
  have hck := chk_le hl4
  refine j_iconst X dX0_checkNumber_0 ?_
  refine j_istore_n X dX0_checkNumber_1 rfl (Nat.le_of_ble_eq_true rfl) ?_
  refine j_iconst X dX0_checkNumber_2 ?_
  refine j_istore_n X dX0_checkNumber_3 rfl (Nat.le_of_ble_eq_true rfl) ?_
  refine j_loop (σ := Int × Int) (fun (x : Int × Int) => match x with | (i, f) => 0 ≤ i ∧ i ≤ (L.length : Int) ∧ f = (chk (L.take i.toNat) : Int)) (fun (x : Int × Int) => match x with | (i, f) => ((L.length : Int) - i).toNat) (fun (x : Int × Int) => match x with | (i, f) => (v, [some (.ref b), some (.int (I f)), some (.int (I i))])) ?_ (0, 0) ⟨by omega, by omega, by simp [chk]⟩
  intro x hx ih4
  obtain ⟨i, f⟩ := x
  dsimp only at hx ih4 ⊢
  obtain ⟨hi0, hi1, hi2⟩ := hx
  refine j_iload_n X dX0_checkNumber_4 rfl ?_
  refine j_aload_n X dX0_checkNumber_5 rfl ?_
  refine j_geti X dX0_checkNumber_6 (T := TX0) (N := 2) (C := RX0) hinX0 rfl (by assumption) 1 (by decide) (by decide +kernel) rfl ?_
  refine j_icmp_ge (tgt := 42) X dX0_checkNumber_9 (by omega) (by decide) (fun c9 => ?_) (fun c9 => ?_)
  · rw [List.take_of_length_le (by omega)] at hi2
    refine j_iload_n X dX0_checkNumber_42 rfl ?_
    refine j_sipush X dX0_checkNumber_43 (by decide) ?_
    refine j_irem X dX0_checkNumber_46 (by omega) (by omega) ?_
    exact j_iret X dX0_checkNumber_47 ⟨_, rfl, rfl, ⟨by rw [hi2]; rfl, rfl⟩⟩
  · refine j_iload_n X dX0_checkNumber_12 rfl ?_
    refine j_aload_n X dX0_checkNumber_13 rfl ?_
    refine j_getr X dX0_checkNumber_14 (T := TX0) (N := 2) (C := RX0) hinX0 rfl (by assumption) 0 (by decide) (by decide +kernel) rfl ?_
    refine j_iload_n X dX0_checkNumber_17 rfl ?_
    refine j_iald X dX0_checkNumber_18 (by assumption) (by omega) (by decide) ?_
    obtain ⟨hik, hir⟩ := hl2.at hi0 (by omega)
    have hib := hL.lt hik
    have hct := chk_take hik
    refine j_callS (nn := 1) X dX0_checkNumber_19 (c_X0_numberOf l D nH sk v _ (by omega)) gX0_checkNumber_X0_numberOf rfl ⟨rfl, rfl⟩ (by decide +kernel) ⟨Nat.le_of_ble_eq_true rfl, Nat.le_of_ble_eq_true rfl⟩ rfl rfl (Nat.le_of_ble_eq_true rfl) ⟨Nat.zero_le _, Nat.zero_le _⟩ (kI (fun z19 v19 h19 => ?_))
    obtain ⟨rfl, rfl⟩ := h19
    rw [hir]
    refine j_aload_n X dX0_checkNumber_22 rfl ?_
    refine j_getr X dX0_checkNumber_23 (T := TX0) (N := 2) (C := RX0) hinX0 rfl (by assumption) 0 (by decide) (by decide +kernel) rfl ?_
    refine j_iload_n X dX0_checkNumber_26 rfl ?_
    refine j_iald X dX0_checkNumber_27 (by assumption) (by omega) (by decide) ?_
    refine j_callS (nn := 1) X dX0_checkNumber_28 (c_X0_issueOf l D nH sk v _ (by omega)) gX0_checkNumber_X0_issueOf rfl ⟨rfl, rfl⟩ (by decide +kernel) ⟨Nat.le_of_ble_eq_true rfl, Nat.le_of_ble_eq_true rfl⟩ rfl rfl (Nat.le_of_ble_eq_true rfl) ⟨Nat.zero_le _, Nat.zero_le _⟩ (kI (fun z28 v28 h28 => ?_))
    obtain ⟨rfl, rfl⟩ := h28
    rw [hir]
    refine j_iconst X dX0_checkNumber_31 ?_
    refine j_iadd X dX0_checkNumber_32 ?_
    refine j_imul X dX0_checkNumber_33 ?_
    refine j_iadd X dX0_checkNumber_34 ?_
    refine j_istore_n X dX0_checkNumber_35 rfl (Nat.le_of_ble_eq_true rfl) ?_
    refine j_iinc X dX0_checkNumber_36 rfl rfl (Nat.le_of_ble_eq_true rfl) ?_
    refine j_goto (tgt := 4) X dX0_checkNumber_39 (by decide) ?_
    exact ih4 (i + 1, _) ⟨by omega, by omega, by rw [show (i + 1).toNat = i.toNat + 1 by omega, hct, hi2]; push_cast; rfl⟩ (by omega)
def rmX0_isSameAs : Room := { frames := 0, cells := 0, slots := 0, locals := 0 }
set_option maxHeartbeats 4000000 in
set_option maxRecDepth 100000 in
theorem c_X0_isSameAs (l : Launch) (D : va_G) (nH : Nat) (sk : Sk) (v : Mem) (b o : Nat) (L T : List Nat) (hb : Bd D sk b) (hL : BA v b L) (ho : Bd D sk o) (hT : BA v o T) : CtI l D yX0_isSameAs wsX0_isSameAs rmX0_isSameAs [.ref b, .ref o] nH sk v (fun z v' => (z = 0 ∨ z = 1) ∧ (z = 1 ↔ L = T) ∧ v = v') := by
  refine ct_of (cc := cX0_isSameAs) (maxL := 3) (ret := (some .boolean)) rfl rfl (Nat.le_of_ble_eq_true rfl) ?_
  intro p e s m args below meth c X hmn hsz
  have hinX0 : ∀ w ∈ wsX00, w ∈ wsX0_isSameAs := by decide +kernel
  obtain ⟨hb0, hb1⟩ := id hb
  obtain ⟨hl0, hl1, hl2, hl3, hl4⟩ := id hL
  obtain ⟨ho0, ho1⟩ := id ho
  obtain ⟨ht0, ht1, ht2, ht3, ht4⟩ := id hT
  refine j_aload_n X dX0_isSameAs_0 rfl ?_
  refine j_geti X dX0_isSameAs_1 (T := TX0) (N := 2) (C := RX0) hinX0 rfl (by assumption) 1 (by decide) (by decide +kernel) rfl ?_
  refine j_aload_n X dX0_isSameAs_4 rfl ?_
  refine j_geti X dX0_isSameAs_5 (T := TX0) (N := 2) (C := RX0) hinX0 rfl (by assumption) 1 (by decide) (by decide +kernel) rfl ?_
  refine j_icmp_eq (tgt := 13) X dX0_isSameAs_8 (by omega) (by decide) (fun c8 => ?_) (fun c8 => ?_)
  · refine j_iconst X dX0_isSameAs_13 ?_
    refine j_istore_n X dX0_isSameAs_14 rfl (Nat.le_of_ble_eq_true rfl) ?_
    refine j_loop (σ := Int) (fun (i : Int) => 0 ≤ i ∧ i ≤ (L.length : Int) ∧ ∀ (k : Nat) (h : k < L.length) (g : k < T.length), (k : Int) < i → L[k] = T[k]) (fun (i : Int) => ((L.length : Int) - i).toNat) (fun (i : Int) => (v, [some (.ref b), some (.ref o), some (.int (I i))])) ?_ 0 ⟨by omega, by omega, fun k _ _ h => absurd h (by omega)⟩
    intro i hx ih15
    dsimp only at hx ih15 ⊢
    obtain ⟨hi0, hi1, hi2⟩ := hx
    refine j_iload_n X dX0_isSameAs_15 rfl ?_
    refine j_aload_n X dX0_isSameAs_16 rfl ?_
    refine j_geti X dX0_isSameAs_17 (T := TX0) (N := 2) (C := RX0) hinX0 rfl (by assumption) 1 (by decide) (by decide +kernel) rfl ?_
    refine j_icmp_ge (tgt := 46) X dX0_isSameAs_20 (by omega) (by decide) (fun c20 => ?_) (fun c20 => ?_)
    · refine j_iconst X dX0_isSameAs_46 ?_
      exact j_zret X dX0_isSameAs_47 (by omega) ⟨_, rfl, rfl, ⟨Or.inr rfl, ⟨fun _ => List.ext_getElem (by omega) (fun k h g => hi2 k h g (by omega)), fun _ => rfl⟩, rfl⟩⟩
    · refine j_aload_n X dX0_isSameAs_23 rfl ?_
      refine j_getr X dX0_isSameAs_24 (T := TX0) (N := 2) (C := RX0) hinX0 rfl (by assumption) 0 (by decide) (by decide +kernel) rfl ?_
      refine j_iload_n X dX0_isSameAs_27 rfl ?_
      refine j_iald X dX0_isSameAs_28 (by assumption) (by omega) (by decide) ?_
      refine j_aload_n X dX0_isSameAs_29 rfl ?_
      refine j_getr X dX0_isSameAs_30 (T := TX0) (N := 2) (C := RX0) hinX0 rfl (by assumption) 0 (by decide) (by decide +kernel) rfl ?_
      refine j_iload_n X dX0_isSameAs_33 rfl ?_
      refine j_iald X dX0_isSameAs_34 (by assumption) (by omega) (by decide) ?_
      obtain ⟨hik, hir⟩ := hl2.at hi0 (by omega)
      have hib := hL.lt hik
      obtain ⟨hjk, hjr⟩ := ht2.at hi0 (by omega)
      have hjb := hT.lt hjk
      refine j_icmp_eq (tgt := 40) X dX0_isSameAs_35 (by omega) (by decide) (fun c35 => ?_) (fun c35 => ?_)
      · refine j_iinc X dX0_isSameAs_40 rfl rfl (Nat.le_of_ble_eq_true rfl) ?_
        refine j_goto (tgt := 15) X dX0_isSameAs_43 (by decide) ?_
        exact ih15 (i + 1) ⟨by omega, by omega, fun k h g hk => by rcases Int.lt_or_eq_of_le (show (k : Int) ≤ i by omega) with y | y; exact hi2 k h g y; have hki : k = i.toNat := (by omega); subst hki; omega⟩ (by omega)
      · refine j_iconst X dX0_isSameAs_38 ?_
        exact j_zret X dX0_isSameAs_39 (by omega) ⟨_, rfl, rfl, ⟨Or.inl rfl, ⟨fun h => absurd h (by omega), fun h => by subst h; omega⟩, rfl⟩⟩
  · refine j_iconst X dX0_isSameAs_11 ?_
    exact j_zret X dX0_isSameAs_12 (by omega) ⟨_, rfl, rfl, ⟨Or.inl rfl, ⟨fun h => absurd h (by omega), fun h => by subst h; omega⟩, rfl⟩⟩
def rmX0_difference : Room := { frames := 3, cells := 0, slots := 0, locals := 65 }
set_option maxHeartbeats 4000000 in
set_option maxRecDepth 100000 in
theorem c_X0_difference (l : Launch) (D : va_G) (nH : Nat) (sk : Sk) (v : Mem) (b o n : Nat) (k : Int) (L T : List Nat) (hb : Bd D sk b) (hL : BA v b L) (ho : Bd D sk o) (hT : BA v o T) (hu : unq T) (hn : n ≤ 99) (hk : k = 3 ∨ k = 4 ∨ k = 5) : CtI l D yX0_difference wsX0_difference rmX0_difference [.ref b, .ref o, .int (I n), .int (I k)] nH sk v (fun z v' => z = (dif L T n k : Int) ∧ v = v') := by
  refine ct_of (cc := cX0_difference) (maxL := 6) (ret := (some .int)) rfl rfl (Nat.le_of_ble_eq_true rfl) ?_
  intro p e s m args below meth c X hmn hsz
  obtain ⟨hb0, hb1⟩ := id hb
  obtain ⟨hl0, hl1, hl2, hl3, hl4⟩ := id hL
  obtain ⟨ho0, ho1⟩ := id ho
  have hcn := cntN_le L n
  refine j_aload_n X dX0_difference_0 rfl ?_
  refine j_iload_n X dX0_difference_1 rfl ?_
  refine j_callV (nn := 1) X dX0_difference_2 (c_X0_held l D nH sk v b n L hb hL (by omega)) gX0_difference_X0_held rfl ⟨rfl, rfl⟩ (by decide +kernel) ⟨Nat.le_of_ble_eq_true rfl, Nat.le_of_ble_eq_true rfl⟩ (by assumption) ⟨rfl, rfl⟩ rfl rfl (Nat.le_of_ble_eq_true rfl) ⟨Nat.zero_le _, Nat.zero_le _⟩ (kI (fun z2 v2 h2 => ?_))
  obtain ⟨rfl, rfl⟩ := h2
  refine j_istore X dX0_difference_5 rfl (Nat.le_of_ble_eq_true rfl) ?_
  refine j_aload_n X dX0_difference_7 rfl ?_
  refine j_iload_n X dX0_difference_8 rfl ?_
  refine j_callV (nn := 1) X dX0_difference_9 (c_X0_earliestIssue l D nH sk v o n T ho hT (by omega)) gX0_difference_X0_earliestIssue rfl ⟨rfl, rfl⟩ (by decide +kernel) ⟨Nat.le_of_ble_eq_true rfl, Nat.le_of_ble_eq_true rfl⟩ (by assumption) ⟨rfl, rfl⟩ rfl rfl (Nat.le_of_ble_eq_true rfl) ⟨Nat.zero_le _, Nat.zero_le _⟩ (kI (fun z9 v9 h9 => ?_))
  obtain ⟨h9, rfl⟩ := h9
  have h9b := h9.bd
  refine j_istore X dX0_difference_12 rfl (Nat.le_of_ble_eq_true rfl) ?_
  refine j_iload X dX0_difference_14 rfl ?_
  refine j_bipush X dX0_difference_16 (by decide) ?_
  refine j_icmp_ne (tgt := 33) X dX0_difference_18 (by omega) (by decide) (fun c18 => ?_) (fun c18 => ?_)
  · obtain ⟨x, hxT, hxn, rfl, -⟩ : ∃ x ∈ T, x / 16 = n ∧ z9 = ((x % 16 : Nat) : Int) ∧ ∀ y ∈ T, y / 16 = n → x % 16 ≤ y % 16 := by
      rcases h9 with h | h
      · exact absurd h.1 c18
      · exact h
    refine j_iload X dX0_difference_33 rfl ?_
    refine j_if_ne (tgt := 49) X dX0_difference_35 (by omega) (by decide) (fun c35 => ?_) (fun c35 => ?_)
    · have hdf := dif_s (L := L) k hu hk hxT hxn (by omega)
      refine j_iload_n X dX0_difference_49 rfl ?_
      refine j_iconst X dX0_difference_50 ?_
      refine j_icmp_ne (tgt := 59) X dX0_difference_51 (by omega) (by decide) (fun c51 => ?_) (fun c51 => ?_)
      · refine j_iload_n X dX0_difference_59 rfl ?_
        refine j_iconst X dX0_difference_60 ?_
        refine j_icmp_ne (tgt := 78) X dX0_difference_61 (by omega) (by decide) (fun c61 => ?_) (fun c61 => ?_)
        · refine j_iconst X dX0_difference_78 ?_
          exact j_iret X dX0_difference_79 ⟨_, rfl, rfl, ⟨by first | (rw [hdf.2.1 (by omega)]; rfl) | (rw [hdf.2.2.1 (by omega) (hz1.mp (by omega))]; rfl) | (rw [hdf.2.2.2 (by omega) (fun h => by have := hz1.mpr h; omega)]; rfl), rfl⟩⟩
        · refine j_aload_n X dX0_difference_64 rfl ?_
          refine j_iload_n X dX0_difference_65 rfl ?_
          refine j_iload X dX0_difference_66 rfl ?_
          refine j_callV (nn := 2) X dX0_difference_68 (c_X0_holds l D nH sk v b n (x % 16) L hb hL (by have := hT.2.2.2.2 x hxT; omega)) gX0_difference_X0_holds rfl ⟨rfl, rfl⟩ (by decide +kernel) ⟨Nat.le_of_ble_eq_true rfl, Nat.le_of_ble_eq_true rfl⟩ (by assumption) ⟨rfl, rfl⟩ rfl rfl (Nat.le_of_ble_eq_true rfl) ⟨Nat.zero_le _, Nat.zero_le _⟩ (kI (fun z68 v68 h68 => ?_))
          obtain ⟨hz0, hz1, rfl⟩ := h68
          rw [show n * 16 + x % 16 = x by omega] at hz1
          refine j_if_ne (tgt := 78) X dX0_difference_71 (by omega) (by decide) (fun c71 => ?_) (fun c71 => ?_)
          · refine j_iconst X dX0_difference_78 ?_
            exact j_iret X dX0_difference_79 ⟨_, rfl, rfl, ⟨by first | (rw [hdf.2.1 (by omega)]; rfl) | (rw [hdf.2.2.1 (by omega) (hz1.mp (by omega))]; rfl) | (rw [hdf.2.2.2 (by omega) (fun h => by have := hz1.mpr h; omega)]; rfl), rfl⟩⟩
          · refine j_iconst X dX0_difference_74 ?_
            refine j_goto (tgt := 79) X dX0_difference_75 (by decide) ?_
            exact j_iret X dX0_difference_79 ⟨_, rfl, rfl, ⟨by first | (rw [hdf.2.1 (by omega)]; rfl) | (rw [hdf.2.2.1 (by omega) (hz1.mp (by omega))]; rfl) | (rw [hdf.2.2.2 (by omega) (fun h => by have := hz1.mpr h; omega)]; rfl), rfl⟩⟩
      · refine j_iload X dX0_difference_54 rfl ?_
        refine j_iconst X dX0_difference_56 ?_
        refine j_isub X dX0_difference_57 ?_
        exact j_iret X dX0_difference_58 ⟨_, rfl, rfl, ⟨by rw [hdf.1 (by omega)]; omega, rfl⟩⟩
    · have hdf := dif_0 (L := L) k hk hxT hxn (by omega)
      refine j_iload_n X dX0_difference_38 rfl ?_
      refine j_iconst X dX0_difference_39 ?_
      refine j_icmp_ne (tgt := 47) X dX0_difference_40 (by omega) (by decide) (fun c40 => ?_) (fun c40 => ?_)
      · refine j_iconst X dX0_difference_47 ?_
        exact j_iret X dX0_difference_48 ⟨_, rfl, rfl, ⟨by first | (rw [hdf, if_pos (by omega)]; rfl) | (rw [hdf, if_neg (by omega)]; rfl), rfl⟩⟩
      · refine j_iconst X dX0_difference_43 ?_
        refine j_goto (tgt := 48) X dX0_difference_44 (by decide) ?_
        exact j_iret X dX0_difference_48 ⟨_, rfl, rfl, ⟨by first | (rw [hdf, if_pos (by omega)]; rfl) | (rw [hdf, if_neg (by omega)]; rfl), rfl⟩⟩
  · have hno : ∀ x ∈ T, x / 16 ≠ n := by
      rcases h9 with h | ⟨x, h1, h2, h3, h4⟩
      · exact h.2
      · omega
    have hdf := dif_no (L := L) k hno
    refine j_iload_n X dX0_difference_21 rfl ?_
    refine j_iconst X dX0_difference_22 ?_
    refine j_icmp_ne (tgt := 31) X dX0_difference_23 (by omega) (by decide) (fun c23 => ?_) (fun c23 => ?_)
    · refine j_iconst X dX0_difference_31 ?_
      exact j_iret X dX0_difference_32 ⟨_, rfl, rfl, ⟨by first | (rw [hdf, if_pos (by omega)]; done) | (rw [hdf, if_neg (by omega)]; rfl), rfl⟩⟩
    · refine j_iload X dX0_difference_26 rfl ?_
      refine j_goto (tgt := 32) X dX0_difference_28 (by decide) ?_
      exact j_iret X dX0_difference_32 ⟨_, rfl, rfl, ⟨by first | (rw [hdf, if_pos (by omega)]; done) | (rw [hdf, if_neg (by omega)]; rfl), rfl⟩⟩
def rmX0_differences : Room := { frames := 4, cells := 0, slots := 0, locals := 90 }
set_option maxHeartbeats 4000000 in
set_option maxRecDepth 100000 in
theorem c_X0_differences (l : Launch) (D : va_G) (nH : Nat) (sk : Sk) (v : Mem) (b o : Nat) (k : Int) (L T : List Nat) (hb : Bd D sk b) (hL : BA v b L) (ho : Bd D sk o) (hT : BA v o T) (hu : unq T) (hk : k = 3 ∨ k = 4 ∨ k = 5) : CtI l D yX0_differences wsX0_differences rmX0_differences [.ref b, .ref o, .int (I k)] nH sk v (fun z v' => z = (difs L T k : Int) ∧ v = v') := by
  refine ct_of (cc := cX0_differences) (maxL := 5) (ret := (some .int)) rfl rfl (Nat.le_of_ble_eq_true rfl) ?_
  intro p e s m args below meth c X hmn hsz
  obtain ⟨hb0, hb1⟩ := id hb
  refine j_iconst X dX0_differences_0 ?_
  refine j_istore_n X dX0_differences_1 rfl (Nat.le_of_ble_eq_true rfl) ?_
  refine j_bipush X dX0_differences_2 (by decide) ?_
  refine j_istore X dX0_differences_4 rfl (Nat.le_of_ble_eq_true rfl) ?_
  refine j_loop (σ := Nat × Int) (fun (x : Nat × Int) => match x with | (i, f) => i ≤ 90 ∧ f = (difU L T k i : Int)) (fun (x : Nat × Int) => match x with | (i, f) => 90 - i) (fun (x : Nat × Int) => match x with | (i, f) => (v, [some (.ref b), some (.ref o), some (.int (I k)), some (.int (I f)), some (.int (I (((i + 10 : Nat)) : Int)))])) ?_ (0, 0) ⟨by omega, by simp [difU]⟩
  intro x hx ih6
  obtain ⟨i, f⟩ := x
  dsimp only at hx ih6 ⊢
  obtain ⟨hi0, hi1⟩ := hx
  refine j_iload X dX0_differences_6 rfl ?_
  refine j_bipush X dX0_differences_8 (by decide) ?_
  refine j_icmp_gt (tgt := 30) X dX0_differences_10 (by omega) (by decide) (fun c10 => ?_) (fun c10 => ?_)
  · refine j_iload_n X dX0_differences_30 rfl ?_
    exact j_iret X dX0_differences_31 ⟨_, rfl, rfl, ⟨by have : i = 90 := (by omega); subst this; exact hi1, rfl⟩⟩
  · refine j_iload_n X dX0_differences_13 rfl ?_
    refine j_aload_n X dX0_differences_14 rfl ?_
    refine j_aload_n X dX0_differences_15 rfl ?_
    refine j_iload X dX0_differences_16 rfl ?_
    refine j_iload_n X dX0_differences_18 rfl ?_
    refine j_callV (nn := 3) X dX0_differences_19 (c_X0_difference l D nH sk v b o (i + 10) k L T hb hL ho hT hu (by omega) hk) gX0_differences_X0_difference rfl ⟨rfl, rfl⟩ (by decide +kernel) ⟨Nat.le_of_ble_eq_true rfl, Nat.le_of_ble_eq_true rfl⟩ (by assumption) ⟨rfl, rfl⟩ rfl rfl (Nat.le_of_ble_eq_true rfl) ⟨Nat.zero_le _, Nat.zero_le _⟩ (kI (fun z19 v19 h19 => ?_))
    obtain ⟨rfl, rfl⟩ := h19
    refine j_iadd X dX0_differences_22 ?_
    refine j_istore_n X dX0_differences_23 rfl (Nat.le_of_ble_eq_true rfl) ?_
    refine j_iinc X dX0_differences_24 rfl rfl (Nat.le_of_ble_eq_true rfl) ?_
    refine j_goto (tgt := 6) X dX0_differences_27 (by decide) ?_
    exact ih6 (i + 1, _) ⟨by omega, by rw [difU_succ, hi1]; push_cast; rfl⟩ (by omega)
def rmX0_wrong : Room := { frames := 5, cells := 0, slots := 0, locals := 114 }
set_option maxHeartbeats 4000000 in
set_option maxRecDepth 100000 in
theorem c_X0_wrong (l : Launch) (D : va_G) (nH : Nat) (sk : Sk) (v : Mem) (b o : Nat) (L T : List Nat) (hb : Bd D sk b) (hL : BA v b L) (ho : Bd D sk o) (hT : BA v o T) (hu : unq T) : CtI l D yX0_wrong wsX0_wrong rmX0_wrong [.ref b, .ref o] nH sk v (fun z v' => z = (wrg L T : Int) ∧ v = v') := by
  refine ct_of (cc := cX0_wrong) (maxL := 2) (ret := (some .int)) rfl rfl (Nat.le_of_ble_eq_true rfl) ?_
  intro p e s m args below meth c X hmn hsz
  obtain ⟨hb0, hb1⟩ := id hb
  refine j_aload_n X dX0_wrong_0 rfl ?_
  refine j_aload_n X dX0_wrong_1 rfl ?_
  refine j_iconst X dX0_wrong_2 ?_
  refine j_callV (nn := 2) X dX0_wrong_3 (c_X0_differences l D nH sk v b o 3 L T hb hL ho hT hu (by omega)) gX0_wrong_X0_differences rfl ⟨rfl, rfl⟩ (by decide +kernel) ⟨Nat.le_of_ble_eq_true rfl, Nat.le_of_ble_eq_true rfl⟩ (by assumption) ⟨rfl, rfl⟩ rfl rfl (Nat.le_of_ble_eq_true rfl) ⟨Nat.zero_le _, Nat.zero_le _⟩ (kI (fun z3 v3 h3 => ?_))
  obtain ⟨rfl, rfl⟩ := h3
  refine j_aload_n X dX0_wrong_6 rfl ?_
  refine j_aload_n X dX0_wrong_7 rfl ?_
  refine j_iconst X dX0_wrong_8 ?_
  refine j_callV (nn := 2) X dX0_wrong_9 (c_X0_differences l D nH sk v b o 4 L T hb hL ho hT hu (by omega)) gX0_wrong_X0_differences rfl ⟨rfl, rfl⟩ (by decide +kernel) ⟨Nat.le_of_ble_eq_true rfl, Nat.le_of_ble_eq_true rfl⟩ (by assumption) ⟨rfl, rfl⟩ rfl rfl (Nat.le_of_ble_eq_true rfl) ⟨Nat.zero_le _, Nat.zero_le _⟩ (kI (fun z9 v9 h9 => ?_))
  obtain ⟨rfl, rfl⟩ := h9
  refine j_iadd X dX0_wrong_12 ?_
  refine j_aload_n X dX0_wrong_13 rfl ?_
  refine j_aload_n X dX0_wrong_14 rfl ?_
  refine j_iconst X dX0_wrong_15 ?_
  refine j_callV (nn := 2) X dX0_wrong_16 (c_X0_differences l D nH sk v b o 5 L T hb hL ho hT hu (by omega)) gX0_wrong_X0_differences rfl ⟨rfl, rfl⟩ (by decide +kernel) ⟨Nat.le_of_ble_eq_true rfl, Nat.le_of_ble_eq_true rfl⟩ (by assumption) ⟨rfl, rfl⟩ rfl rfl (Nat.le_of_ble_eq_true rfl) ⟨Nat.zero_le _, Nat.zero_le _⟩ (kI (fun z16 v16 h16 => ?_))
  obtain ⟨rfl, rfl⟩ := h16
  refine j_iadd X dX0_wrong_19 ?_
  exact j_iret X dX0_wrong_20 ⟨_, rfl, rfl, ⟨by unfold wrg; push_cast; rfl, rfl⟩⟩
end
