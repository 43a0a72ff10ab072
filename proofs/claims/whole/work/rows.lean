section
-- ===== PART A: goes FIRST, ahead of the names: the tables' words, and 'selects' of the private methods out of them =====
/-- a private method of a class that the tables say can be made, by its rows of tables_1 -/
def lw_okq (q : MethodName × Nat) : Prop := (q.1.cls ≠ "java/lang/invoke/MethodHandle" ∧ q.1.cls ≠ "java/lang/invoke/VarHandle") ∧ Cond.instantiable q.1.cls q.2 ∈ tables_1 ∧ Cond.privateMethod q.1 ∈ tables_1 ∧ Cond.instanceMethod q.1 ∈ tables_1
theorem lw_p0 : lw_okq (⟨"BinderParcels$Binder", "start", "(I)I"⟩, 2) := ⟨⟨by decide +kernel, by decide +kernel⟩, List.mem_of_getElem? (i := 25) (by decide +kernel), List.mem_of_getElem? (i := 187) (by decide +kernel), List.mem_of_getElem? (i := 188) (by decide +kernel)⟩
theorem lw_p1 : lw_okq (⟨"BinderParcels$Binder", "placeOf", "(I)I"⟩, 2) := ⟨⟨by decide +kernel, by decide +kernel⟩, List.mem_of_getElem? (i := 25) (by decide +kernel), List.mem_of_getElem? (i := 194) (by decide +kernel), List.mem_of_getElem? (i := 195) (by decide +kernel)⟩
theorem lw_p2 : lw_okq (⟨"BinderParcels$Binder", "end", "(II)I"⟩, 2) := ⟨⟨by decide +kernel, by decide +kernel⟩, List.mem_of_getElem? (i := 25) (by decide +kernel), List.mem_of_getElem? (i := 198) (by decide +kernel), List.mem_of_getElem? (i := 199) (by decide +kernel)⟩
theorem lw_p3 : lw_okq (⟨"BinderParcels$Binder", "removeRange", "(II)V"⟩, 2) := ⟨⟨by decide +kernel, by decide +kernel⟩, List.mem_of_getElem? (i := 25) (by decide +kernel), List.mem_of_getElem? (i := 205) (by decide +kernel), List.mem_of_getElem? (i := 206) (by decide +kernel)⟩
theorem lw_p4 : lw_okq (⟨"BinderParcels", "tried", "(II)LBinderParcels$Binder;"⟩, 6) := ⟨⟨by decide +kernel, by decide +kernel⟩, List.mem_of_getElem? (i := 11) (by decide +kernel), List.mem_of_getElem? (i := 369) (by decide +kernel), List.mem_of_getElem? (i := 370) (by decide +kernel)⟩
theorem lw_p5 : lw_okq (⟨"BinderParcelsModel", "findFault", "()I"⟩, 13) := ⟨⟨by decide +kernel, by decide +kernel⟩, List.mem_of_getElem? (i := 437) (by decide +kernel), List.mem_of_getElem? (i := 487) (by decide +kernel), List.mem_of_getElem? (i := 488) (by decide +kernel)⟩
theorem lw_p6 : lw_okq (⟨"BinderParcelsModel", "comesTwice", "()Z"⟩, 13) := ⟨⟨by decide +kernel, by decide +kernel⟩, List.mem_of_getElem? (i := 437) (by decide +kernel), List.mem_of_getElem? (i := 497) (by decide +kernel), List.mem_of_getElem? (i := 498) (by decide +kernel)⟩
theorem lw_p7 : lw_okq (⟨"BinderParcelsModel", "record", "()V"⟩, 13) := ⟨⟨by decide +kernel, by decide +kernel⟩, List.mem_of_getElem? (i := 437) (by decide +kernel), List.mem_of_getElem? (i := 501) (by decide +kernel), List.mem_of_getElem? (i := 502) (by decide +kernel)⟩
theorem lw_p8 : lw_okq (⟨"BinderParcelsModel", "doParcel", "(IIZ)V"⟩, 13) := ⟨⟨by decide +kernel, by decide +kernel⟩, List.mem_of_getElem? (i := 437) (by decide +kernel), List.mem_of_getElem? (i := 508) (by decide +kernel), List.mem_of_getElem? (i := 509) (by decide +kernel)⟩
theorem lw_p9 : lw_okq (⟨"BinderParcelsModel", "orderOf", "(II)I"⟩, 13) := ⟨⟨by decide +kernel, by decide +kernel⟩, List.mem_of_getElem? (i := 437) (by decide +kernel), List.mem_of_getElem? (i := 512) (by decide +kernel), List.mem_of_getElem? (i := 513) (by decide +kernel)⟩
theorem lw_p10 : lw_okq (⟨"BinderParcelsModel", "earliest", "(II)I"⟩, 13) := ⟨⟨by decide +kernel, by decide +kernel⟩, List.mem_of_getElem? (i := 437) (by decide +kernel), List.mem_of_getElem? (i := 516) (by decide +kernel), List.mem_of_getElem? (i := 517) (by decide +kernel)⟩
theorem lw_p11 : lw_okq (⟨"BinderParcelsModel", "part", "(II)I"⟩, 13) := ⟨⟨by decide +kernel, by decide +kernel⟩, List.mem_of_getElem? (i := 437) (by decide +kernel), List.mem_of_getElem? (i := 520) (by decide +kernel), List.mem_of_getElem? (i := 521) (by decide +kernel)⟩
theorem lw_p12 : lw_okq (⟨"BinderParcelsModel", "numberOf", "(II)I"⟩, 13) := ⟨⟨by decide +kernel, by decide +kernel⟩, List.mem_of_getElem? (i := 437) (by decide +kernel), List.mem_of_getElem? (i := 524) (by decide +kernel), List.mem_of_getElem? (i := 525) (by decide +kernel)⟩
theorem lw_p13 : lw_okq (⟨"BinderParcelsModel", "issueOf", "(II)I"⟩, 13) := ⟨⟨by decide +kernel, by decide +kernel⟩, List.mem_of_getElem? (i := 437) (by decide +kernel), List.mem_of_getElem? (i := 528) (by decide +kernel), List.mem_of_getElem? (i := 529) (by decide +kernel)⟩
theorem lw_p14 : lw_okq (⟨"BinderParcelsModel", "removeAll", "(II)V"⟩, 13) := ⟨⟨by decide +kernel, by decide +kernel⟩, List.mem_of_getElem? (i := 437) (by decide +kernel), List.mem_of_getElem? (i := 532) (by decide +kernel), List.mem_of_getElem? (i := 533) (by decide +kernel)⟩
theorem lw_p15 : lw_okq (⟨"BinderParcelsModel", "remove", "(II)V"⟩, 13) := ⟨⟨by decide +kernel, by decide +kernel⟩, List.mem_of_getElem? (i := 437) (by decide +kernel), List.mem_of_getElem? (i := 536) (by decide +kernel), List.mem_of_getElem? (i := 537) (by decide +kernel)⟩
def lw_privs_1 : List (MethodName × Nat) := [(⟨"BinderParcels$Binder", "start", "(I)I"⟩, 2), (⟨"BinderParcels$Binder", "placeOf", "(I)I"⟩, 2), (⟨"BinderParcels$Binder", "end", "(II)I"⟩, 2), (⟨"BinderParcels$Binder", "removeRange", "(II)V"⟩, 2), (⟨"BinderParcels", "tried", "(II)LBinderParcels$Binder;"⟩, 6), (⟨"BinderParcelsModel", "findFault", "()I"⟩, 13), (⟨"BinderParcelsModel", "comesTwice", "()Z"⟩, 13), (⟨"BinderParcelsModel", "record", "()V"⟩, 13), (⟨"BinderParcelsModel", "doParcel", "(IIZ)V"⟩, 13), (⟨"BinderParcelsModel", "orderOf", "(II)I"⟩, 13), (⟨"BinderParcelsModel", "earliest", "(II)I"⟩, 13), (⟨"BinderParcelsModel", "part", "(II)I"⟩, 13), (⟨"BinderParcelsModel", "numberOf", "(II)I"⟩, 13), (⟨"BinderParcelsModel", "issueOf", "(II)I"⟩, 13), (⟨"BinderParcelsModel", "removeAll", "(II)V"⟩, 13), (⟨"BinderParcelsModel", "remove", "(II)V"⟩, 13)]
theorem lw_r1 : ∀ q ∈ lw_privs_1, lw_okq q := List.forall_mem_cons.mpr ⟨lw_p0, List.forall_mem_cons.mpr ⟨lw_p1, List.forall_mem_cons.mpr ⟨lw_p2, List.forall_mem_cons.mpr ⟨lw_p3, List.forall_mem_cons.mpr ⟨lw_p4, List.forall_mem_cons.mpr ⟨lw_p5, List.forall_mem_cons.mpr ⟨lw_p6, List.forall_mem_cons.mpr ⟨lw_p7, List.forall_mem_cons.mpr ⟨lw_p8, List.forall_mem_cons.mpr ⟨lw_p9, List.forall_mem_cons.mpr ⟨lw_p10, List.forall_mem_cons.mpr ⟨lw_p11, List.forall_mem_cons.mpr ⟨lw_p12, List.forall_mem_cons.mpr ⟨lw_p13, List.forall_mem_cons.mpr ⟨lw_p14, List.forall_mem_cons.mpr ⟨lw_p15, fun _ h => absurd h List.not_mem_nil⟩⟩⟩⟩⟩⟩⟩⟩⟩⟩⟩⟩⟩⟩⟩⟩
theorem lw_p16 : lw_okq (⟨"BinderParcelsModel", "setPart", "(III)V"⟩, 13) := ⟨⟨by decide +kernel, by decide +kernel⟩, List.mem_of_getElem? (i := 437) (by decide +kernel), List.mem_of_getElem? (i := 540) (by decide +kernel), List.mem_of_getElem? (i := 541) (by decide +kernel)⟩
theorem lw_p17 : lw_okq (⟨"BinderParcelsModel", "comes", "(III)V"⟩, 13) := ⟨⟨by decide +kernel, by decide +kernel⟩, List.mem_of_getElem? (i := 437) (by decide +kernel), List.mem_of_getElem? (i := 544) (by decide +kernel), List.mem_of_getElem? (i := 545) (by decide +kernel)⟩
theorem lw_p18 : lw_okq (⟨"BinderParcelsModel", "isOwner", "(I)Z"⟩, 13) := ⟨⟨by decide +kernel, by decide +kernel⟩, List.mem_of_getElem? (i := 437) (by decide +kernel), List.mem_of_getElem? (i := 556) (by decide +kernel), List.mem_of_getElem? (i := 557) (by decide +kernel)⟩
theorem lw_p19 : lw_okq (⟨"BinderParcelsModel", "isParcel", "(I)Z"⟩, 13) := ⟨⟨by decide +kernel, by decide +kernel⟩, List.mem_of_getElem? (i := 437) (by decide +kernel), List.mem_of_getElem? (i := 560) (by decide +kernel), List.mem_of_getElem? (i := 561) (by decide +kernel)⟩
theorem lw_p20 : lw_okq (⟨"BinderParcelsModel", "waits", "(II)Z"⟩, 13) := ⟨⟨by decide +kernel, by decide +kernel⟩, List.mem_of_getElem? (i := 437) (by decide +kernel), List.mem_of_getElem? (i := 564) (by decide +kernel), List.mem_of_getElem? (i := 565) (by decide +kernel)⟩
theorem lw_p21 : lw_okq (⟨"BinderParcelsModel", "doSet", "(II)V"⟩, 13) := ⟨⟨by decide +kernel, by decide +kernel⟩, List.mem_of_getElem? (i := 437) (by decide +kernel), List.mem_of_getElem? (i := 572) (by decide +kernel), List.mem_of_getElem? (i := 573) (by decide +kernel)⟩
theorem lw_p22 : lw_okq (⟨"BinderParcelsModel", "leafWith", "(III)I"⟩, 13) := ⟨⟨by decide +kernel, by decide +kernel⟩, List.mem_of_getElem? (i := 437) (by decide +kernel), List.mem_of_getElem? (i := 594) (by decide +kernel), List.mem_of_getElem? (i := 595) (by decide +kernel)⟩
theorem lw_p23 : lw_okq (⟨"BinderParcelsModel", "ownersWith", "(II)I"⟩, 13) := ⟨⟨by decide +kernel, by decide +kernel⟩, List.mem_of_getElem? (i := 437) (by decide +kernel), List.mem_of_getElem? (i := 602) (by decide +kernel), List.mem_of_getElem? (i := 603) (by decide +kernel)⟩
theorem lw_p24 : lw_okq (⟨"BinderParcelsModel", "findIssues", "()V"⟩, 13) := ⟨⟨by decide +kernel, by decide +kernel⟩, List.mem_of_getElem? (i := 437) (by decide +kernel), List.mem_of_getElem? (i := 610) (by decide +kernel), List.mem_of_getElem? (i := 611) (by decide +kernel)⟩
theorem lw_p25 : lw_okq (⟨"BinderParcelsModel", "findLeaves", "(I)V"⟩, 13) := ⟨⟨by decide +kernel, by decide +kernel⟩, List.mem_of_getElem? (i := 437) (by decide +kernel), List.mem_of_getElem? (i := 618) (by decide +kernel), List.mem_of_getElem? (i := 619) (by decide +kernel)⟩
theorem lw_p26 : lw_okq (⟨"BinderParcelsModel", "issueIn", "(IIZ)I"⟩, 13) := ⟨⟨by decide +kernel, by decide +kernel⟩, List.mem_of_getElem? (i := 437) (by decide +kernel), List.mem_of_getElem? (i := 622) (by decide +kernel), List.mem_of_getElem? (i := 623) (by decide +kernel)⟩
theorem lw_p27 : lw_okq (⟨"BinderParcelsModel", "surplusOf", "(I)I"⟩, 13) := ⟨⟨by decide +kernel, by decide +kernel⟩, List.mem_of_getElem? (i := 437) (by decide +kernel), List.mem_of_getElem? (i := 626) (by decide +kernel), List.mem_of_getElem? (i := 627) (by decide +kernel)⟩
theorem lw_p28 : lw_okq (⟨"BinderParcelsModel", "oldOf", "(I)I"⟩, 13) := ⟨⟨by decide +kernel, by decide +kernel⟩, List.mem_of_getElem? (i := 437) (by decide +kernel), List.mem_of_getElem? (i := 630) (by decide +kernel), List.mem_of_getElem? (i := 631) (by decide +kernel)⟩
theorem lw_p29 : lw_okq (⟨"BinderParcelsModel", "missingOf", "(I)I"⟩, 13) := ⟨⟨by decide +kernel, by decide +kernel⟩, List.mem_of_getElem? (i := 437) (by decide +kernel), List.mem_of_getElem? (i := 634) (by decide +kernel), List.mem_of_getElem? (i := 635) (by decide +kernel)⟩
theorem lw_p30 : lw_okq (⟨"BinderParcelsModel", "wrong", "(II)I"⟩, 13) := ⟨⟨by decide +kernel, by decide +kernel⟩, List.mem_of_getElem? (i := 437) (by decide +kernel), List.mem_of_getElem? (i := 642) (by decide +kernel), List.mem_of_getElem? (i := 643) (by decide +kernel)⟩
theorem lw_p31 : lw_okq (⟨"BinderParcelsModel", "isRight", "(I)Z"⟩, 13) := ⟨⟨by decide +kernel, by decide +kernel⟩, List.mem_of_getElem? (i := 437) (by decide +kernel), List.mem_of_getElem? (i := 646) (by decide +kernel), List.mem_of_getElem? (i := 647) (by decide +kernel)⟩
def lw_privs_2 : List (MethodName × Nat) := [(⟨"BinderParcelsModel", "setPart", "(III)V"⟩, 13), (⟨"BinderParcelsModel", "comes", "(III)V"⟩, 13), (⟨"BinderParcelsModel", "isOwner", "(I)Z"⟩, 13), (⟨"BinderParcelsModel", "isParcel", "(I)Z"⟩, 13), (⟨"BinderParcelsModel", "waits", "(II)Z"⟩, 13), (⟨"BinderParcelsModel", "doSet", "(II)V"⟩, 13), (⟨"BinderParcelsModel", "leafWith", "(III)I"⟩, 13), (⟨"BinderParcelsModel", "ownersWith", "(II)I"⟩, 13), (⟨"BinderParcelsModel", "findIssues", "()V"⟩, 13), (⟨"BinderParcelsModel", "findLeaves", "(I)V"⟩, 13), (⟨"BinderParcelsModel", "issueIn", "(IIZ)I"⟩, 13), (⟨"BinderParcelsModel", "surplusOf", "(I)I"⟩, 13), (⟨"BinderParcelsModel", "oldOf", "(I)I"⟩, 13), (⟨"BinderParcelsModel", "missingOf", "(I)I"⟩, 13), (⟨"BinderParcelsModel", "wrong", "(II)I"⟩, 13), (⟨"BinderParcelsModel", "isRight", "(I)Z"⟩, 13)]
theorem lw_r2 : ∀ q ∈ lw_privs_2, lw_okq q := List.forall_mem_cons.mpr ⟨lw_p16, List.forall_mem_cons.mpr ⟨lw_p17, List.forall_mem_cons.mpr ⟨lw_p18, List.forall_mem_cons.mpr ⟨lw_p19, List.forall_mem_cons.mpr ⟨lw_p20, List.forall_mem_cons.mpr ⟨lw_p21, List.forall_mem_cons.mpr ⟨lw_p22, List.forall_mem_cons.mpr ⟨lw_p23, List.forall_mem_cons.mpr ⟨lw_p24, List.forall_mem_cons.mpr ⟨lw_p25, List.forall_mem_cons.mpr ⟨lw_p26, List.forall_mem_cons.mpr ⟨lw_p27, List.forall_mem_cons.mpr ⟨lw_p28, List.forall_mem_cons.mpr ⟨lw_p29, List.forall_mem_cons.mpr ⟨lw_p30, List.forall_mem_cons.mpr ⟨lw_p31, fun _ h => absurd h List.not_mem_nil⟩⟩⟩⟩⟩⟩⟩⟩⟩⟩⟩⟩⟩⟩⟩⟩
theorem lw_p32 : lw_okq (⟨"BinderParcelsModel", "checkOf", "(I)I"⟩, 13) := ⟨⟨by decide +kernel, by decide +kernel⟩, List.mem_of_getElem? (i := 437) (by decide +kernel), List.mem_of_getElem? (i := 650) (by decide +kernel), List.mem_of_getElem? (i := 651) (by decide +kernel)⟩
theorem lw_p33 : lw_okq (⟨"BinderParcelsModel", "rightOwners", "()I"⟩, 13) := ⟨⟨by decide +kernel, by decide +kernel⟩, List.mem_of_getElem? (i := 437) (by decide +kernel), List.mem_of_getElem? (i := 658) (by decide +kernel), List.mem_of_getElem? (i := 659) (by decide +kernel)⟩
theorem lw_p34 : lw_okq (⟨"BinderParcelsModel", "inText", "(I)I"⟩, 13) := ⟨⟨by decide +kernel, by decide +kernel⟩, List.mem_of_getElem? (i := 437) (by decide +kernel), List.mem_of_getElem? (i := 662) (by decide +kernel), List.mem_of_getElem? (i := 663) (by decide +kernel)⟩
theorem lw_p35 : lw_okq (⟨"BinderParcelsModel", "mostInText", "()I"⟩, 13) := ⟨⟨by decide +kernel, by decide +kernel⟩, List.mem_of_getElem? (i := 437) (by decide +kernel), List.mem_of_getElem? (i := 666) (by decide +kernel), List.mem_of_getElem? (i := 667) (by decide +kernel)⟩
theorem lw_p36 : lw_okq (⟨"BinderParcelsModel", "wrongWith", "(II)I"⟩, 13) := ⟨⟨by decide +kernel, by decide +kernel⟩, List.mem_of_getElem? (i := 437) (by decide +kernel), List.mem_of_getElem? (i := 674) (by decide +kernel), List.mem_of_getElem? (i := 675) (by decide +kernel)⟩
theorem lw_p37 : lw_okq (⟨"BinderParcelsModel", "mendingOf", "(II)I"⟩, 13) := ⟨⟨by decide +kernel, by decide +kernel⟩, List.mem_of_getElem? (i := 437) (by decide +kernel), List.mem_of_getElem? (i := 686) (by decide +kernel), List.mem_of_getElem? (i := 687) (by decide +kernel)⟩
def lw_privs_3 : List (MethodName × Nat) := [(⟨"BinderParcelsModel", "checkOf", "(I)I"⟩, 13), (⟨"BinderParcelsModel", "rightOwners", "()I"⟩, 13), (⟨"BinderParcelsModel", "inText", "(I)I"⟩, 13), (⟨"BinderParcelsModel", "mostInText", "()I"⟩, 13), (⟨"BinderParcelsModel", "wrongWith", "(II)I"⟩, 13), (⟨"BinderParcelsModel", "mendingOf", "(II)I"⟩, 13)]
theorem lw_r3 : ∀ q ∈ lw_privs_3, lw_okq q := List.forall_mem_cons.mpr ⟨lw_p32, List.forall_mem_cons.mpr ⟨lw_p33, List.forall_mem_cons.mpr ⟨lw_p34, List.forall_mem_cons.mpr ⟨lw_p35, List.forall_mem_cons.mpr ⟨lw_p36, List.forall_mem_cons.mpr ⟨lw_p37, fun _ h => absurd h List.not_mem_nil⟩⟩⟩⟩⟩⟩
def lw_privs : List (MethodName × Nat) := lw_privs_1 ++ (lw_privs_2 ++ (lw_privs_3))
def lw_tbl : List Cond := k2_sels lw_privs ++ tables_1
theorem lw_privs_ok : ∀ q ∈ lw_privs, lw_okq q := by
  show ∀ q ∈ lw_privs_1 ++ (lw_privs_2 ++ (lw_privs_3)), lw_okq q
  exact List.forall_mem_append.mpr ⟨lw_r1, List.forall_mem_append.mpr ⟨lw_r2, lw_r3⟩⟩
end
section
/-! ===== BEGIN words of one list among another's, by their places ===== -/
theorem goodIn_r {big : List Cond} (ws : List Cond) (ps : List Nat) (hp : ws = ps.filterMap (fun i => big[i]?)) (h : ws.all goodWord = true) : GoodIn big ws := by
  intro w hw
  have h1 := List.all_eq_true.mp h w hw
  rw [hp] at hw
  obtain ⟨i, -, hi⟩ := List.mem_filterMap.mp hw
  have hm : w ∈ big := by first | exact List.mem_of_getElem? hi | exact List.getElem?_mem hi
  exact ⟨hm, good_of_word h1⟩
theorem goodIn_app {big a b : List Cond} (ha : GoodIn big a) (hb : GoodIn big b) : GoodIn big (a ++ b) := fun w h => (List.mem_append.mp h).elim (ha w) (hb w)
theorem goodIn_ca {big a b : List Cond} {c : Cond} (ha : GoodIn big (c :: a)) (hb : GoodIn big b) : GoodIn big (c :: (a ++ b)) := fun w h => (List.mem_cons.mp h).elim (fun e => ha w (List.mem_cons.mpr (Or.inl e))) (fun h => (List.mem_append.mp h).elim (fun h => ha w (List.mem_cons.mpr (Or.inr h))) (hb w))
theorem goodIn_sub {big ws : List Cond} (hm : ∀ w ∈ ws, w ∈ big) (h : ws.all goodWord = true) : GoodIn big ws := fun w hw => ⟨hm w hw, good_of_word (List.all_eq_true.mp h w hw)⟩
/-! ===== END ===== -/

/-! ===== BEGIN printed: names, fields, word lists, decode rows ===== -/
def RX0 : String := "BinderParcels$Binder"
def TX0 : u_T := fun k => match k with
  | 0 => ("BinderParcels$Binder", "leaves", "[I", true)
  | _ => ("BinderParcels$Binder", "size", "I", false)
def tyX0 : Nat → FieldType := fun k => match k with
  | 0 => .array .int
  | _ => .int
abbrev wsX00 : List Cond := u_ws RX0 TX0 2
theorem nmX0 : ∀ a, a < 2 → ∀ b, b < 2 → a ≠ b → (TX0 a).2.1 ≠ (TX0 b).2.1 := by decide +kernel
theorem tyX0_ok : ∀ k, k < 2 → parseFieldDescriptor (TX0 k).2.2.1 = some (tyX0 k) := by decide +kernel
abbrev cX0_init : ByteArray := prog_2_method_1_code
def yX0_init : MethodName := ⟨RX0, "<init>", "()V"⟩
abbrev cX0_leafWith : ByteArray := prog_2_method_2_code
def yX0_leafWith : MethodName := ⟨RX0, "leafWith", "(II)I"⟩
abbrev cX0_numberOf : ByteArray := prog_2_method_3_code
def yX0_numberOf : MethodName := ⟨RX0, "numberOf", "(I)I"⟩
abbrev cX0_issueOf : ByteArray := prog_2_method_4_code
def yX0_issueOf : MethodName := ⟨RX0, "issueOf", "(I)I"⟩
abbrev cX0_copy : ByteArray := prog_2_method_5_code
def yX0_copy : MethodName := ⟨RX0, "copy", "(LBinderParcels$Binder;)V"⟩
abbrev cX0_placeOf : ByteArray := prog_2_method_6_code
def yX0_placeOf : MethodName := ⟨RX0, "placeOf", "(I)I"⟩
abbrev cX0_start : ByteArray := prog_2_method_7_code
def yX0_start : MethodName := ⟨RX0, "start", "(I)I"⟩
abbrev cX0_end : ByteArray := prog_2_method_8_code
def yX0_end : MethodName := ⟨RX0, "end", "(II)I"⟩
abbrev cX0_removeRange : ByteArray := prog_2_method_9_code
def yX0_removeRange : MethodName := ⟨RX0, "removeRange", "(II)V"⟩
abbrev cX0_insert : ByteArray := prog_2_method_10_code
def yX0_insert : MethodName := ⟨RX0, "insert", "(II)V"⟩
abbrev cX0_removeAll : ByteArray := prog_2_method_11_code
def yX0_removeAll : MethodName := ⟨RX0, "removeAll", "(I)V"⟩
abbrev cX0_removeEarliest : ByteArray := prog_2_method_12_code
def yX0_removeEarliest : MethodName := ⟨RX0, "removeEarliest", "(I)V"⟩
abbrev cX0_remove : ByteArray := prog_2_method_13_code
def yX0_remove : MethodName := ⟨RX0, "remove", "(II)V"⟩
abbrev cX0_holds : ByteArray := prog_2_method_14_code
def yX0_holds : MethodName := ⟨RX0, "holds", "(II)Z"⟩
abbrev cX0_held : ByteArray := prog_2_method_15_code
def yX0_held : MethodName := ⟨RX0, "held", "(I)I"⟩
abbrev cX0_earliestIssue : ByteArray := prog_2_method_16_code
def yX0_earliestIssue : MethodName := ⟨RX0, "earliestIssue", "(I)I"⟩
abbrev cX0_latestIssue : ByteArray := prog_2_method_17_code
def yX0_latestIssue : MethodName := ⟨RX0, "latestIssue", "(I)I"⟩
abbrev cX0_leavesOf : ByteArray := prog_2_method_18_code
def yX0_leavesOf : MethodName := ⟨RX0, "leavesOf", "(I)I"⟩
abbrev cX0_checkNumber : ByteArray := prog_2_method_19_code
def yX0_checkNumber : MethodName := ⟨RX0, "checkNumber", "()I"⟩
abbrev cX0_isSameAs : ByteArray := prog_2_method_20_code
def yX0_isSameAs : MethodName := ⟨RX0, "isSameAs", "(LBinderParcels$Binder;)Z"⟩
abbrev cX0_difference : ByteArray := prog_2_method_21_code
def yX0_difference : MethodName := ⟨RX0, "difference", "(LBinderParcels$Binder;II)I"⟩
abbrev cX0_differences : ByteArray := prog_2_method_22_code
def yX0_differences : MethodName := ⟨RX0, "differences", "(LBinderParcels$Binder;I)I"⟩
abbrev cX0_wrong : ByteArray := prog_2_method_23_code
def yX0_wrong : MethodName := ⟨RX0, "wrong", "(LBinderParcels$Binder;)I"⟩
def RX1 : String := "BinderParcels$History"
def TX1 : u_T := fun k => match k with
  | 0 => ("BinderParcels$History", "states", "[LBinderParcels$State;", true)
  | 1 => ("BinderParcels$History", "oldest", "I", false)
  | _ => ("BinderParcels$History", "size", "I", false)
def tyX1 : Nat → FieldType := fun k => match k with
  | 0 => .array (.object "BinderParcels$State")
  | 1 => .int
  | _ => .int
abbrev wsX10 : List Cond := u_ws RX1 TX1 3
theorem nmX1 : ∀ a, a < 3 → ∀ b, b < 3 → a ≠ b → (TX1 a).2.1 ≠ (TX1 b).2.1 := by decide +kernel
theorem tyX1_ok : ∀ k, k < 3 → parseFieldDescriptor (TX1 k).2.2.1 = some (tyX1 k) := by decide +kernel
abbrev cX1_init : ByteArray := prog_3_method_1_code
def yX1_init : MethodName := ⟨RX1, "<init>", "()V"⟩
abbrev cX1_record : ByteArray := prog_3_method_2_code
def yX1_record : MethodName := ⟨RX1, "record", "(LBinderParcels$State;)V"⟩
abbrev cX1_takeBack : ByteArray := prog_3_method_3_code
def yX1_takeBack : MethodName := ⟨RX1, "takeBack", "(LBinderParcels$State;)V"⟩
def RX2 : String := "BinderParcels$Pad"
def TX2 : u_T := fun k => match k with
  | 0 => ("BinderParcels$Pad", "characters", "[C", true)
  | _ => ("BinderParcels$Pad", "length", "I", false)
def tyX2 : Nat → FieldType := fun k => match k with
  | 0 => .array .char
  | _ => .int
abbrev wsX20 : List Cond := u_ws RX2 TX2 2
theorem nmX2 : ∀ a, a < 2 → ∀ b, b < 2 → a ≠ b → (TX2 a).2.1 ≠ (TX2 b).2.1 := by decide +kernel
theorem tyX2_ok : ∀ k, k < 2 → parseFieldDescriptor (TX2 k).2.2.1 = some (tyX2 k) := by decide +kernel
abbrev cX2_init : ByteArray := prog_4_method_1_code
def yX2_init : MethodName := ⟨RX2, "<init>", "()V"⟩
abbrev cX2_charactersIn : ByteArray := prog_4_method_2_code
def yX2_charactersIn : MethodName := ⟨RX2, "charactersIn", "(J)I"⟩
abbrev cX2_append : ByteArray := prog_4_method_3_code
def yX2_append : MethodName := ⟨RX2, "append", "(JI)V"⟩
abbrev cX2_empty : ByteArray := prog_4_method_4_code
def yX2_empty : MethodName := ⟨RX2, "empty", "()V"⟩
abbrev cX2_firstFault : ByteArray := prog_4_method_5_code
def yX2_firstFault : MethodName := ⟨RX2, "firstFault", "()I"⟩
abbrev cX2_canStand : ByteArray := prog_4_method_6_code
def yX2_canStand : MethodName := ⟨RX2, "canStand", "(CI)Z"⟩
abbrev cX2_orders : ByteArray := prog_4_method_7_code
def yX2_orders : MethodName := ⟨RX2, "orders", "()I"⟩
abbrev cX2_order : ByteArray := prog_4_method_8_code
def yX2_order : MethodName := ⟨RX2, "order", "(I)I"⟩
abbrev cX2_hasNumberTwice : ByteArray := prog_4_method_9_code
def yX2_hasNumberTwice : MethodName := ⟨RX2, "hasNumberTwice", "()Z"⟩
def RX3 : String := "BinderParcels$State"
def TX3 : u_T := fun k => match k with
  | 0 => ("BinderParcels$State", "orders", "[I", true)
  | 1 => ("BinderParcels$State", "orderCounts", "[I", true)
  | 2 => ("BinderParcels$State", "parcels", "I", false)
  | 3 => ("BinderParcels$State", "text", "LBinderParcels$Binder;", true)
  | 4 => ("BinderParcels$State", "binders", "[LBinderParcels$Binder;", true)
  | 5 => ("BinderParcels$State", "waiting", "[I", true)
  | 6 => ("BinderParcels$State", "lost", "[I", true)
  | _ => ("BinderParcels$State", "owners", "I", false)
def tyX3 : Nat → FieldType := fun k => match k with
  | 0 => .array .int
  | 1 => .array .int
  | 2 => .int
  | 3 => .object "BinderParcels$Binder"
  | 4 => .array (.object "BinderParcels$Binder")
  | 5 => .array .int
  | 6 => .array .int
  | _ => .int
abbrev wsX30 : List Cond := u_ws RX3 TX3 8
theorem nmX3 : ∀ a, a < 8 → ∀ b, b < 8 → a ≠ b → (TX3 a).2.1 ≠ (TX3 b).2.1 := by decide +kernel
theorem tyX3_ok : ∀ k, k < 8 → parseFieldDescriptor (TX3 k).2.2.1 = some (tyX3 k) := by decide +kernel
abbrev cX3_init : ByteArray := prog_5_method_1_code
def yX3_init : MethodName := ⟨RX3, "<init>", "()V"⟩
abbrev cX3_copy : ByteArray := prog_5_method_2_code
def yX3_copy : MethodName := ⟨RX3, "copy", "(LBinderParcels$State;)V"⟩
abbrev cX3_hasOwner : ByteArray := prog_5_method_3_code
def yX3_hasOwner : MethodName := ⟨RX3, "hasOwner", "(I)Z"⟩
abbrev cX3_hasParcel : ByteArray := prog_5_method_4_code
def yX3_hasParcel : MethodName := ⟨RX3, "hasParcel", "(I)Z"⟩
abbrev cX3_isWaiting : ByteArray := prog_5_method_5_code
def yX3_isWaiting : MethodName := ⟨RX3, "isWaiting", "(II)Z"⟩
abbrev cX3_order : ByteArray := prog_5_method_6_code
def yX3_order : MethodName := ⟨RX3, "order", "(II)I"⟩
abbrev cX3_addParcel : ByteArray := prog_5_method_7_code
def yX3_addParcel : MethodName := ⟨RX3, "addParcel", "(LBinderParcels$Pad;)I"⟩
abbrev cX3_addOwner : ByteArray := prog_5_method_8_code
def yX3_addOwner : MethodName := ⟨RX3, "addOwner", "()I"⟩
abbrev cX3_doWithCare : ByteArray := prog_5_method_9_code
def yX3_doWithCare : MethodName := ⟨RX3, "doWithCare", "(LBinderParcels$Binder;I)V"⟩
abbrev cX3_doCarelessly : ByteArray := prog_5_method_10_code
def yX3_doCarelessly : MethodName := ⟨RX3, "doCarelessly", "(LBinderParcels$Binder;I)V"⟩
abbrev cX3_doSetWithCare : ByteArray := prog_5_method_11_code
def yX3_doSetWithCare : MethodName := ⟨RX3, "doSetWithCare", "(LBinderParcels$Binder;I)V"⟩
abbrev cX3_ownersOf : ByteArray := prog_5_method_12_code
def yX3_ownersOf : MethodName := ⟨RX3, "ownersOf", "([II)I"⟩
abbrev cX3_ownersWithRightBinders : ByteArray := prog_5_method_13_code
def yX3_ownersWithRightBinders : MethodName := ⟨RX3, "ownersWithRightBinders", "()I"⟩
abbrev cX3_parcelWithMostLeaves : ByteArray := prog_5_method_14_code
def yX3_parcelWithMostLeaves : MethodName := ⟨RX3, "parcelWithMostLeaves", "()I"⟩
def RX4 : String := "BinderParcels"
def TX4 : u_T := fun k => match k with
  | 0 => ("BinderParcels", "now", "LBinderParcels$State;", true)
  | 1 => ("BinderParcels", "history", "LBinderParcels$History;", true)
  | 2 => ("BinderParcels", "slots", "[LBinderParcels$State;", true)
  | 3 => ("BinderParcels", "isSaved", "[Z", true)
  | 4 => ("BinderParcels", "pad", "LBinderParcels$Pad;", true)
  | _ => ("BinderParcels", "trials", "[LBinderParcels$Binder;", true)
def tyX4 : Nat → FieldType := fun k => match k with
  | 0 => .object "BinderParcels$State"
  | 1 => .object "BinderParcels$History"
  | 2 => .array (.object "BinderParcels$State")
  | 3 => .array .boolean
  | 4 => .object "BinderParcels$Pad"
  | _ => .array (.object "BinderParcels$Binder")
abbrev wsX40 : List Cond := u_ws RX4 TX4 6
theorem nmX4 : ∀ a, a < 6 → ∀ b, b < 6 → a ≠ b → (TX4 a).2.1 ≠ (TX4 b).2.1 := by decide +kernel
theorem tyX4_ok : ∀ k, k < 6 → parseFieldDescriptor (TX4 k).2.2.1 = some (tyX4 k) := by decide +kernel
abbrev cX4_init : ByteArray := prog_1_method_1_code
def yX4_init : MethodName := ⟨RX4, "<init>", "()V"⟩
abbrev cX4_issue : ByteArray := prog_1_method_2_code
def yX4_issue : MethodName := ⟨RX4, "issue", "()I"⟩
abbrev cX4_own : ByteArray := prog_1_method_3_code
def yX4_own : MethodName := ⟨RX4, "own", "()I"⟩
abbrev cX4_done : ByteArray := prog_1_method_4_code
def yX4_done : MethodName := ⟨RX4, "done", "(IIZ)I"⟩
abbrev cX4_doAll : ByteArray := prog_1_method_5_code
def yX4_doAll : MethodName := ⟨RX4, "doAll", "(I)I"⟩
abbrev cX4_lose : ByteArray := prog_1_method_6_code
def yX4_lose : MethodName := ⟨RX4, "lose", "(II)I"⟩
abbrev cX4_again : ByteArray := prog_1_method_7_code
def yX4_again : MethodName := ⟨RX4, "again", "(II)I"⟩
abbrev cX4_hand : ByteArray := prog_1_method_8_code
def yX4_hand : MethodName := ⟨RX4, "hand", "(IIIZ)I"⟩
abbrev cX4_parcel : ByteArray := prog_1_method_9_code
def yX4_parcel : MethodName := ⟨RX4, "parcel", "(II)I"⟩
abbrev cX4_text : ByteArray := prog_1_method_10_code
def yX4_text : MethodName := ⟨RX4, "text", "(I)I"⟩
abbrev cX4_leaf : ByteArray := prog_1_method_11_code
def yX4_leaf : MethodName := ⟨RX4, "leaf", "(III)I"⟩
abbrev cX4_of : ByteArray := prog_1_method_12_code
def yX4_of : MethodName := ⟨RX4, "of", "(II)I"⟩
abbrev cX4_count : ByteArray := prog_1_method_13_code
def yX4_count : MethodName := ⟨RX4, "count", "(I)I"⟩
abbrev cX4_ifDone : ByteArray := prog_1_method_14_code
def yX4_ifDone : MethodName := ⟨RX4, "ifDone", "(II)I"⟩
abbrev cX4_ifAllDone : ByteArray := prog_1_method_15_code
def yX4_ifAllDone : MethodName := ⟨RX4, "ifAllDone", "(I)I"⟩
abbrev cX4_mending : ByteArray := prog_1_method_16_code
def yX4_mending : MethodName := ⟨RX4, "mending", "(I)I"⟩
abbrev cX4_rightFrom : ByteArray := prog_1_method_17_code
def yX4_rightFrom : MethodName := ⟨RX4, "rightFrom", "(I)I"⟩
abbrev cX4_put : ByteArray := prog_1_method_18_code
def yX4_put : MethodName := ⟨RX4, "put", "(J)I"⟩
abbrev cX4_wipe : ByteArray := prog_1_method_19_code
def yX4_wipe : MethodName := ⟨RX4, "wipe", "()I"⟩
abbrev cX4_fault : ByteArray := prog_1_method_20_code
def yX4_fault : MethodName := ⟨RX4, "fault", "()I"⟩
abbrev cX4_undo : ByteArray := prog_1_method_21_code
def yX4_undo : MethodName := ⟨RX4, "undo", "()I"⟩
abbrev cX4_save : ByteArray := prog_1_method_22_code
def yX4_save : MethodName := ⟨RX4, "save", "(I)I"⟩
abbrev cX4_restore : ByteArray := prog_1_method_23_code
def yX4_restore : MethodName := ⟨RX4, "restore", "(I)I"⟩
abbrev cX4_isNumber : ByteArray := prog_1_method_24_code
def yX4_isNumber : MethodName := ⟨RX4, "isNumber", "(I)Z"⟩
abbrev cX4_isSlot : ByteArray := prog_1_method_25_code
def yX4_isSlot : MethodName := ⟨RX4, "isSlot", "(I)Z"⟩
abbrev cX4_tried : ByteArray := prog_1_method_26_code
def yX4_tried : MethodName := ⟨RX4, "tried", "(II)LBinderParcels$Binder;"⟩
abbrev cX4_lowestMending : ByteArray := prog_1_method_27_code
def yX4_lowestMending : MethodName := ⟨RX4, "lowestMending", "(LBinderParcels$State;[LBinderParcels$Binder;III)I"⟩
def RX5 : String := "BinderParcelsModel"
def TX5 : u_T := fun k => match k with
  | 0 => ("BinderParcelsModel", "state", "[I", true)
  | 1 => ("BinderParcelsModel", "kept", "[I", true)
  | 2 => ("BinderParcelsModel", "history", "[I", true)
  | 3 => ("BinderParcelsModel", "recorded", "I", false)
  | 4 => ("BinderParcelsModel", "slots", "[I", true)
  | 5 => ("BinderParcelsModel", "isSaved", "[I", true)
  | 6 => ("BinderParcelsModel", "pad", "[I", true)
  | 7 => ("BinderParcelsModel", "padLength", "I", false)
  | 8 => ("BinderParcelsModel", "orders", "[I", true)
  | 9 => ("BinderParcelsModel", "ordersMany", "I", false)
  | 10 => ("BinderParcelsModel", "leaves", "[I", true)
  | 11 => ("BinderParcelsModel", "rightOnes", "[I", true)
  | _ => ("BinderParcelsModel", "issues", "[I", true)
def tyX5 : Nat → FieldType := fun k => match k with
  | 0 => .array .int
  | 1 => .array .int
  | 2 => .array .int
  | 3 => .int
  | 4 => .array .int
  | 5 => .array .int
  | 6 => .array .int
  | 7 => .int
  | 8 => .array .int
  | 9 => .int
  | 10 => .array .int
  | 11 => .array .int
  | _ => .array .int
abbrev wsX50 : List Cond := u_ws RX5 TX5 13
theorem nmX5 : ∀ a, a < 13 → ∀ b, b < 13 → a ≠ b → (TX5 a).2.1 ≠ (TX5 b).2.1 := by decide +kernel
theorem tyX5_ok : ∀ k, k < 13 → parseFieldDescriptor (TX5 k).2.2.1 = some (tyX5 k) := by decide +kernel
abbrev cX5_init : ByteArray := prog_7_method_1_code
def yX5_init : MethodName := ⟨RX5, "<init>", "()V"⟩
abbrev cX5_moves : ByteArray := prog_7_method_3_code
def yX5_moves : MethodName := ⟨RX5, "moves", "([II[II)V"⟩
abbrev cX5_within : ByteArray := prog_7_method_4_code
def yX5_within : MethodName := ⟨RX5, "within", "(III)Z"⟩
abbrev cX5_record : ByteArray := prog_7_method_5_code
def yX5_record : MethodName := ⟨RX5, "record", "()V"⟩
abbrev cX5_isOwner : ByteArray := prog_7_method_6_code
def yX5_isOwner : MethodName := ⟨RX5, "isOwner", "(I)Z"⟩
abbrev cX5_isParcel : ByteArray := prog_7_method_7_code
def yX5_isParcel : MethodName := ⟨RX5, "isParcel", "(I)Z"⟩
abbrev cX5_part : ByteArray := prog_7_method_8_code
def yX5_part : MethodName := ⟨RX5, "part", "(II)I"⟩
abbrev cX5_setPart : ByteArray := prog_7_method_9_code
def yX5_setPart : MethodName := ⟨RX5, "setPart", "(III)V"⟩
abbrev cX5_numberOf : ByteArray := prog_7_method_10_code
def yX5_numberOf : MethodName := ⟨RX5, "numberOf", "(II)I"⟩
abbrev cX5_issueOf : ByteArray := prog_7_method_11_code
def yX5_issueOf : MethodName := ⟨RX5, "issueOf", "(II)I"⟩
abbrev cX5_orderOf : ByteArray := prog_7_method_12_code
def yX5_orderOf : MethodName := ⟨RX5, "orderOf", "(II)I"⟩
abbrev cX5_bits : ByteArray := prog_7_method_13_code
def yX5_bits : MethodName := ⟨RX5, "bits", "(I)I"⟩
abbrev cX5_remove : ByteArray := prog_7_method_14_code
def yX5_remove : MethodName := ⟨RX5, "remove", "(II)V"⟩
abbrev cX5_comes : ByteArray := prog_7_method_15_code
def yX5_comes : MethodName := ⟨RX5, "comes", "(III)V"⟩
abbrev cX5_removeAll : ByteArray := prog_7_method_16_code
def yX5_removeAll : MethodName := ⟨RX5, "removeAll", "(II)V"⟩
abbrev cX5_earliest : ByteArray := prog_7_method_17_code
def yX5_earliest : MethodName := ⟨RX5, "earliest", "(II)I"⟩
abbrev cX5_doParcel : ByteArray := prog_7_method_18_code
def yX5_doParcel : MethodName := ⟨RX5, "doParcel", "(IIZ)V"⟩
abbrev cX5_doSet : ByteArray := prog_7_method_19_code
def yX5_doSet : MethodName := ⟨RX5, "doSet", "(II)V"⟩
abbrev cX5_findIssues : ByteArray := prog_7_method_20_code
def yX5_findIssues : MethodName := ⟨RX5, "findIssues", "()V"⟩
abbrev cX5_findLeaves : ByteArray := prog_7_method_21_code
def yX5_findLeaves : MethodName := ⟨RX5, "findLeaves", "(I)V"⟩
abbrev cX5_surplusOf : ByteArray := prog_7_method_22_code
def yX5_surplusOf : MethodName := ⟨RX5, "surplusOf", "(I)I"⟩
abbrev cX5_oldOf : ByteArray := prog_7_method_23_code
def yX5_oldOf : MethodName := ⟨RX5, "oldOf", "(I)I"⟩
abbrev cX5_missingOf : ByteArray := prog_7_method_24_code
def yX5_missingOf : MethodName := ⟨RX5, "missingOf", "(I)I"⟩
abbrev cX5_wrong : ByteArray := prog_7_method_25_code
def yX5_wrong : MethodName := ⟨RX5, "wrong", "(II)I"⟩
abbrev cX5_isRight : ByteArray := prog_7_method_26_code
def yX5_isRight : MethodName := ⟨RX5, "isRight", "(I)Z"⟩
abbrev cX5_checkOf : ByteArray := prog_7_method_27_code
def yX5_checkOf : MethodName := ⟨RX5, "checkOf", "(I)I"⟩
abbrev cX5_comesTwice : ByteArray := prog_7_method_28_code
def yX5_comesTwice : MethodName := ⟨RX5, "comesTwice", "()Z"⟩
abbrev cX5_issue : ByteArray := prog_7_method_29_code
def yX5_issue : MethodName := ⟨RX5, "issue", "()I"⟩
abbrev cX5_own : ByteArray := prog_7_method_30_code
def yX5_own : MethodName := ⟨RX5, "own", "()I"⟩
abbrev cX5_waits : ByteArray := prog_7_method_31_code
def yX5_waits : MethodName := ⟨RX5, "waits", "(II)Z"⟩
abbrev cX5_done : ByteArray := prog_7_method_32_code
def yX5_done : MethodName := ⟨RX5, "done", "(IIZ)I"⟩
abbrev cX5_doAll : ByteArray := prog_7_method_33_code
def yX5_doAll : MethodName := ⟨RX5, "doAll", "(I)I"⟩
abbrev cX5_lose : ByteArray := prog_7_method_34_code
def yX5_lose : MethodName := ⟨RX5, "lose", "(II)I"⟩
abbrev cX5_again : ByteArray := prog_7_method_35_code
def yX5_again : MethodName := ⟨RX5, "again", "(II)I"⟩
abbrev cX5_leafWith : ByteArray := prog_7_method_36_code
def yX5_leafWith : MethodName := ⟨RX5, "leafWith", "(III)I"⟩
abbrev cX5_isNumber : ByteArray := prog_7_method_37_code
def yX5_isNumber : MethodName := ⟨RX5, "isNumber", "(I)Z"⟩
abbrev cX5_hand : ByteArray := prog_7_method_38_code
def yX5_hand : MethodName := ⟨RX5, "hand", "(IIIZ)I"⟩
abbrev cX5_ownersWith : ByteArray := prog_7_method_39_code
def yX5_ownersWith : MethodName := ⟨RX5, "ownersWith", "(II)I"⟩
abbrev cX5_parcel : ByteArray := prog_7_method_40_code
def yX5_parcel : MethodName := ⟨RX5, "parcel", "(II)I"⟩
abbrev cX5_text : ByteArray := prog_7_method_41_code
def yX5_text : MethodName := ⟨RX5, "text", "(I)I"⟩
abbrev cX5_issueIn : ByteArray := prog_7_method_42_code
def yX5_issueIn : MethodName := ⟨RX5, "issueIn", "(IIZ)I"⟩
abbrev cX5_leaf : ByteArray := prog_7_method_43_code
def yX5_leaf : MethodName := ⟨RX5, "leaf", "(III)I"⟩
abbrev cX5_of : ByteArray := prog_7_method_44_code
def yX5_of : MethodName := ⟨RX5, "of", "(II)I"⟩
abbrev cX5_rightOwners : ByteArray := prog_7_method_45_code
def yX5_rightOwners : MethodName := ⟨RX5, "rightOwners", "()I"⟩
abbrev cX5_inText : ByteArray := prog_7_method_46_code
def yX5_inText : MethodName := ⟨RX5, "inText", "(I)I"⟩
abbrev cX5_mostInText : ByteArray := prog_7_method_47_code
def yX5_mostInText : MethodName := ⟨RX5, "mostInText", "()I"⟩
abbrev cX5_count : ByteArray := prog_7_method_48_code
def yX5_count : MethodName := ⟨RX5, "count", "(I)I"⟩
abbrev cX5_wrongWith : ByteArray := prog_7_method_49_code
def yX5_wrongWith : MethodName := ⟨RX5, "wrongWith", "(II)I"⟩
abbrev cX5_ifDone : ByteArray := prog_7_method_50_code
def yX5_ifDone : MethodName := ⟨RX5, "ifDone", "(II)I"⟩
abbrev cX5_ifAllDone : ByteArray := prog_7_method_51_code
def yX5_ifAllDone : MethodName := ⟨RX5, "ifAllDone", "(I)I"⟩
abbrev cX5_mendingOf : ByteArray := prog_7_method_52_code
def yX5_mendingOf : MethodName := ⟨RX5, "mendingOf", "(II)I"⟩
abbrev cX5_mending : ByteArray := prog_7_method_53_code
def yX5_mending : MethodName := ⟨RX5, "mending", "(I)I"⟩
abbrev cX5_rightFrom : ByteArray := prog_7_method_54_code
def yX5_rightFrom : MethodName := ⟨RX5, "rightFrom", "(I)I"⟩
abbrev cX5_put : ByteArray := prog_7_method_55_code
def yX5_put : MethodName := ⟨RX5, "put", "(J)I"⟩
abbrev cX5_wipe : ByteArray := prog_7_method_56_code
def yX5_wipe : MethodName := ⟨RX5, "wipe", "()I"⟩
abbrev cX5_canStand : ByteArray := prog_7_method_57_code
def yX5_canStand : MethodName := ⟨RX5, "canStand", "(II)Z"⟩
abbrev cX5_findFault : ByteArray := prog_7_method_58_code
def yX5_findFault : MethodName := ⟨RX5, "findFault", "()I"⟩
abbrev cX5_fault : ByteArray := prog_7_method_59_code
def yX5_fault : MethodName := ⟨RX5, "fault", "()I"⟩
abbrev cX5_undo : ByteArray := prog_7_method_60_code
def yX5_undo : MethodName := ⟨RX5, "undo", "()I"⟩
abbrev cX5_save : ByteArray := prog_7_method_61_code
def yX5_save : MethodName := ⟨RX5, "save", "(I)I"⟩
abbrev cX5_restore : ByteArray := prog_7_method_62_code
def yX5_restore : MethodName := ⟨RX5, "restore", "(I)I"⟩
def RJ6 : String := "java/lang/Integer"
def TJ6 : u_T := fun k => match k with
  | _ => ("", "", "", false)
def tyJ6 : Nat → FieldType := fun k => match k with
  | _ => .int
abbrev wsJ60 : List Cond := u_ws RJ6 TJ6 0
theorem nmJ6 : ∀ a, a < 0 → ∀ b, b < 0 → a ≠ b → (TJ6 a).2.1 ≠ (TJ6 b).2.1 := by decide +kernel
theorem tyJ6_ok : ∀ k, k < 0 → parseFieldDescriptor (TJ6 k).2.2.1 = some (tyJ6 k) := by decide +kernel
abbrev cJ6_bitCount_0f7a4 : ByteArray := prog_8_method_49_code
def yJ6_bitCount_0f7a4 : MethodName := ⟨RJ6, "bitCount", "(I)I"⟩
def RJ9 : String := "java/lang/Math"
def TJ9 : u_T := fun k => match k with
  | _ => ("", "", "", false)
def tyJ9 : Nat → FieldType := fun k => match k with
  | _ => .int
abbrev wsJ90 : List Cond := u_ws RJ9 TJ9 0
theorem nmJ9 : ∀ a, a < 0 → ∀ b, b < 0 → a ≠ b → (TJ9 a).2.1 ≠ (TJ9 b).2.1 := by decide +kernel
theorem tyJ9_ok : ∀ k, k < 0 → parseFieldDescriptor (TJ9 k).2.2.1 = some (tyJ9 k) := by decide +kernel
abbrev cJ9_min_7cf53 : ByteArray := prog_9_method_69_code
def yJ9_min_7cf53 : MethodName := ⟨RJ9, "min", "(II)I"⟩
def RJ10 : String := "java/lang/System"
def TJ10 : u_T := fun k => match k with
  | _ => ("", "", "", false)
def tyJ10 : Nat → FieldType := fun k => match k with
  | _ => .int
abbrev wsJ100 : List Cond := u_ws RJ10 TJ10 0
theorem nmJ10 : ∀ a, a < 0 → ∀ b, b < 0 → a ≠ b → (TJ10 a).2.1 ≠ (TJ10 b).2.1 := by decide +kernel
theorem tyJ10_ok : ∀ k, k < 0 → parseFieldDescriptor (TJ10 k).2.2.1 = some (tyJ10 k) := by decide +kernel
def RL : String := "BinderParcelsLaw"
abbrev cL_law : ByteArray := code
def yL_law : MethodName := ⟨RL, "law", "([I)Z"⟩
def wsX0_init : List Cond := .code yX0_init cX0_init 1 none :: ([.methodLink RX0 3 objectInit, .instanceMethod objectInit, .code objectInit ⟨#[0xb1]⟩ 1 none, .arrayClass .int, .fieldLink RX0 9 "BinderParcels$Binder" "leaves" "[I"] ++ wsX00)
def wsX0_leafWith : List Cond := .code yX0_leafWith cX0_leafWith 2 (some .int) :: ([])
def wsX0_numberOf : List Cond := .code yX0_numberOf cX0_numberOf 1 (some .int) :: ([])
def wsX0_issueOf : List Cond := .code yX0_issueOf cX0_issueOf 1 (some .int) :: ([])
def wsX0_copy : List Cond := .code yX0_copy cX0_copy 2 none :: ([.fieldLink RX0 9 "BinderParcels$Binder" "leaves" "[I", .fieldLink RX0 15 "BinderParcels$Binder" "size" "I", .methodLink RX0 19 arraycopyName, .native arraycopyName, .static arraycopyName, .initialized "java/lang/System"] ++ wsX00)
def wsX0_placeOf : List Cond := .code yX0_placeOf cX0_placeOf 3 (some .int) :: ([.fieldLink RX0 15 "BinderParcels$Binder" "size" "I", .fieldLink RX0 9 "BinderParcels$Binder" "leaves" "[I"] ++ wsX00)
def wsX0_start : List Cond := .code yX0_start cX0_start 2 (some .int) :: ([.methodLink RX0 25 yX0_leafWith, .static yX0_leafWith, .initialized RX0, .code yX0_leafWith cX0_leafWith 2 (some .int), .methodLink RX0 29 yX0_placeOf, .instanceMethod yX0_placeOf, .selects RX0 yX0_placeOf yX0_placeOf, .code yX0_placeOf cX0_placeOf 3 (some .int), .fieldLink RX0 15 "BinderParcels$Binder" "size" "I", .fieldLink RX0 9 "BinderParcels$Binder" "leaves" "[I"] ++ wsX00)
def wsX0_end : List Cond := .code yX0_end cX0_end 4 (some .int) :: ([.fieldLink RX0 15 "BinderParcels$Binder" "size" "I", .fieldLink RX0 9 "BinderParcels$Binder" "leaves" "[I", .methodLink RX0 33 yX0_numberOf, .static yX0_numberOf, .initialized RX0, .code yX0_numberOf cX0_numberOf 1 (some .int)] ++ wsX00)
def wsX0_removeRange : List Cond := .code yX0_removeRange cX0_removeRange 3 none :: ([.fieldLink RX0 9 "BinderParcels$Binder" "leaves" "[I", .fieldLink RX0 15 "BinderParcels$Binder" "size" "I", .methodLink RX0 19 arraycopyName, .native arraycopyName, .static arraycopyName, .initialized "java/lang/System"] ++ wsX00)
def wsX0_insert : List Cond := .code yX0_insert cX0_insert 5 none :: ([.fieldLink RX0 15 "BinderParcels$Binder" "size" "I", .fieldLink RX0 9 "BinderParcels$Binder" "leaves" "[I", .methodLink RX0 19 arraycopyName, .native arraycopyName, .static arraycopyName, .initialized "java/lang/System", .methodLink RX0 25 yX0_leafWith, .static yX0_leafWith, .initialized RX0, .code yX0_leafWith cX0_leafWith 2 (some .int), .methodLink RX0 29 yX0_placeOf, .instanceMethod yX0_placeOf, .selects RX0 yX0_placeOf yX0_placeOf, .code yX0_placeOf cX0_placeOf 3 (some .int)] ++ wsX00)
def wsX0_removeAll_r1 : List Cond := [Cond.methodLink RX0 36 yX0_start, Cond.instanceMethod yX0_start, Cond.selects RX0 yX0_start yX0_start, Cond.initialized RX0, Cond.code yX0_start cX0_start 2 (some .int), Cond.methodLink RX0 25 yX0_leafWith, Cond.static yX0_leafWith, Cond.code yX0_leafWith cX0_leafWith 2 (some .int), Cond.methodLink RX0 29 yX0_placeOf, Cond.instanceMethod yX0_placeOf, Cond.selects RX0 yX0_placeOf yX0_placeOf, Cond.code yX0_placeOf cX0_placeOf 3 (some .int), Cond.fieldLink RX0 15 "BinderParcels$Binder" "size" "I", Cond.fieldLink RX0 9 "BinderParcels$Binder" "leaves" "[I", Cond.methodLink RX0 39 yX0_end, Cond.instanceMethod yX0_end, Cond.selects RX0 yX0_end yX0_end, Cond.code yX0_end cX0_end 4 (some .int), Cond.methodLink RX0 33 yX0_numberOf, Cond.static yX0_numberOf, Cond.code yX0_numberOf cX0_numberOf 1 (some .int), Cond.methodLink RX0 42 yX0_removeRange, Cond.instanceMethod yX0_removeRange, Cond.selects RX0 yX0_removeRange yX0_removeRange]
def wsX0_removeAll_r2 : List Cond := [Cond.code yX0_removeRange cX0_removeRange 3 none, Cond.methodLink RX0 19 arraycopyName, Cond.native arraycopyName, Cond.static arraycopyName, Cond.initialized "java/lang/System"]
def wsX0_removeAll : List Cond := .code yX0_removeAll cX0_removeAll 3 none :: ((wsX0_removeAll_r1 ++ wsX0_removeAll_r2) ++ wsX00)
def wsX0_removeEarliest_r1 : List Cond := [Cond.methodLink RX0 46 Lib.Math.min.name, Cond.static Lib.Math.min.name, Cond.initialized "java/lang/Math", Cond.code Lib.Math.min.name Lib.Math.min.code 2 (some .int), Cond.methodLink RX0 36 yX0_start, Cond.instanceMethod yX0_start, Cond.selects RX0 yX0_start yX0_start, Cond.initialized RX0, Cond.code yX0_start cX0_start 2 (some .int), Cond.methodLink RX0 25 yX0_leafWith, Cond.static yX0_leafWith, Cond.code yX0_leafWith cX0_leafWith 2 (some .int), Cond.methodLink RX0 29 yX0_placeOf, Cond.instanceMethod yX0_placeOf, Cond.selects RX0 yX0_placeOf yX0_placeOf, Cond.code yX0_placeOf cX0_placeOf 3 (some .int), Cond.fieldLink RX0 15 "BinderParcels$Binder" "size" "I", Cond.fieldLink RX0 9 "BinderParcels$Binder" "leaves" "[I", Cond.methodLink RX0 39 yX0_end, Cond.instanceMethod yX0_end, Cond.selects RX0 yX0_end yX0_end, Cond.code yX0_end cX0_end 4 (some .int), Cond.methodLink RX0 33 yX0_numberOf, Cond.static yX0_numberOf]
def wsX0_removeEarliest_r2 : List Cond := [Cond.code yX0_numberOf cX0_numberOf 1 (some .int), Cond.methodLink RX0 42 yX0_removeRange, Cond.instanceMethod yX0_removeRange, Cond.selects RX0 yX0_removeRange yX0_removeRange, Cond.code yX0_removeRange cX0_removeRange 3 none, Cond.methodLink RX0 19 arraycopyName, Cond.native arraycopyName, Cond.static arraycopyName, Cond.initialized "java/lang/System"]
def wsX0_removeEarliest : List Cond := .code yX0_removeEarliest cX0_removeEarliest 3 none :: ((wsX0_removeEarliest_r1 ++ wsX0_removeEarliest_r2) ++ wsX00)
def wsX0_holds : List Cond := .code yX0_holds cX0_holds 5 (some .boolean) :: ([.fieldLink RX0 15 "BinderParcels$Binder" "size" "I", .fieldLink RX0 9 "BinderParcels$Binder" "leaves" "[I", .methodLink RX0 25 yX0_leafWith, .static yX0_leafWith, .initialized RX0, .code yX0_leafWith cX0_leafWith 2 (some .int), .methodLink RX0 29 yX0_placeOf, .instanceMethod yX0_placeOf, .selects RX0 yX0_placeOf yX0_placeOf, .code yX0_placeOf cX0_placeOf 3 (some .int)] ++ wsX00)
def wsX0_remove : List Cond := .code yX0_remove cX0_remove 4 none :: ([.methodLink RX0 51 yX0_holds, .instanceMethod yX0_holds, .selects RX0 yX0_holds yX0_holds, .initialized RX0, .code yX0_holds cX0_holds 5 (some .boolean), .fieldLink RX0 15 "BinderParcels$Binder" "size" "I", .fieldLink RX0 9 "BinderParcels$Binder" "leaves" "[I", .methodLink RX0 25 yX0_leafWith, .static yX0_leafWith, .code yX0_leafWith cX0_leafWith 2 (some .int), .methodLink RX0 29 yX0_placeOf, .instanceMethod yX0_placeOf, .selects RX0 yX0_placeOf yX0_placeOf, .code yX0_placeOf cX0_placeOf 3 (some .int), .methodLink RX0 42 yX0_removeRange, .instanceMethod yX0_removeRange, .selects RX0 yX0_removeRange yX0_removeRange, .code yX0_removeRange cX0_removeRange 3 none, .methodLink RX0 19 arraycopyName, .native arraycopyName, .static arraycopyName, .initialized "java/lang/System"] ++ wsX00)
def wsX0_held : List Cond := .code yX0_held cX0_held 3 (some .int) :: ([.methodLink RX0 36 yX0_start, .instanceMethod yX0_start, .selects RX0 yX0_start yX0_start, .initialized RX0, .code yX0_start cX0_start 2 (some .int), .methodLink RX0 25 yX0_leafWith, .static yX0_leafWith, .code yX0_leafWith cX0_leafWith 2 (some .int), .methodLink RX0 29 yX0_placeOf, .instanceMethod yX0_placeOf, .selects RX0 yX0_placeOf yX0_placeOf, .code yX0_placeOf cX0_placeOf 3 (some .int), .fieldLink RX0 15 "BinderParcels$Binder" "size" "I", .fieldLink RX0 9 "BinderParcels$Binder" "leaves" "[I", .methodLink RX0 39 yX0_end, .instanceMethod yX0_end, .selects RX0 yX0_end yX0_end, .code yX0_end cX0_end 4 (some .int), .methodLink RX0 33 yX0_numberOf, .static yX0_numberOf, .code yX0_numberOf cX0_numberOf 1 (some .int)] ++ wsX00)
def wsX0_earliestIssue : List Cond := .code yX0_earliestIssue cX0_earliestIssue 3 (some .int) :: ([.fieldLink RX0 9 "BinderParcels$Binder" "leaves" "[I", .methodLink RX0 36 yX0_start, .instanceMethod yX0_start, .selects RX0 yX0_start yX0_start, .initialized RX0, .code yX0_start cX0_start 2 (some .int), .methodLink RX0 25 yX0_leafWith, .static yX0_leafWith, .code yX0_leafWith cX0_leafWith 2 (some .int), .methodLink RX0 29 yX0_placeOf, .instanceMethod yX0_placeOf, .selects RX0 yX0_placeOf yX0_placeOf, .code yX0_placeOf cX0_placeOf 3 (some .int), .fieldLink RX0 15 "BinderParcels$Binder" "size" "I", .methodLink RX0 39 yX0_end, .instanceMethod yX0_end, .selects RX0 yX0_end yX0_end, .code yX0_end cX0_end 4 (some .int), .methodLink RX0 33 yX0_numberOf, .static yX0_numberOf, .code yX0_numberOf cX0_numberOf 1 (some .int), .methodLink RX0 55 yX0_issueOf, .static yX0_issueOf, .code yX0_issueOf cX0_issueOf 1 (some .int)] ++ wsX00)
def wsX0_latestIssue : List Cond := .code yX0_latestIssue cX0_latestIssue 4 (some .int) :: ([.fieldLink RX0 9 "BinderParcels$Binder" "leaves" "[I", .methodLink RX0 36 yX0_start, .instanceMethod yX0_start, .selects RX0 yX0_start yX0_start, .initialized RX0, .code yX0_start cX0_start 2 (some .int), .methodLink RX0 25 yX0_leafWith, .static yX0_leafWith, .code yX0_leafWith cX0_leafWith 2 (some .int), .methodLink RX0 29 yX0_placeOf, .instanceMethod yX0_placeOf, .selects RX0 yX0_placeOf yX0_placeOf, .code yX0_placeOf cX0_placeOf 3 (some .int), .fieldLink RX0 15 "BinderParcels$Binder" "size" "I", .methodLink RX0 39 yX0_end, .instanceMethod yX0_end, .selects RX0 yX0_end yX0_end, .code yX0_end cX0_end 4 (some .int), .methodLink RX0 33 yX0_numberOf, .static yX0_numberOf, .code yX0_numberOf cX0_numberOf 1 (some .int), .methodLink RX0 55 yX0_issueOf, .static yX0_issueOf, .code yX0_issueOf cX0_issueOf 1 (some .int)] ++ wsX00)
def wsX0_leavesOf : List Cond := .code yX0_leavesOf cX0_leavesOf 4 (some .int) :: ([.fieldLink RX0 15 "BinderParcels$Binder" "size" "I", .fieldLink RX0 9 "BinderParcels$Binder" "leaves" "[I", .methodLink RX0 55 yX0_issueOf, .static yX0_issueOf, .initialized RX0, .code yX0_issueOf cX0_issueOf 1 (some .int)] ++ wsX00)
def wsX0_checkNumber : List Cond := .code yX0_checkNumber cX0_checkNumber 3 (some .int) :: ([.fieldLink RX0 15 "BinderParcels$Binder" "size" "I", .fieldLink RX0 9 "BinderParcels$Binder" "leaves" "[I", .methodLink RX0 33 yX0_numberOf, .static yX0_numberOf, .initialized RX0, .code yX0_numberOf cX0_numberOf 1 (some .int), .methodLink RX0 55 yX0_issueOf, .static yX0_issueOf, .code yX0_issueOf cX0_issueOf 1 (some .int)] ++ wsX00)
def wsX0_isSameAs : List Cond := .code yX0_isSameAs cX0_isSameAs 3 (some .boolean) :: ([.fieldLink RX0 15 "BinderParcels$Binder" "size" "I", .fieldLink RX0 9 "BinderParcels$Binder" "leaves" "[I"] ++ wsX00)
def wsX0_difference_r1 : List Cond := [Cond.methodLink RX0 58 yX0_held, Cond.instanceMethod yX0_held, Cond.selects RX0 yX0_held yX0_held, Cond.initialized RX0, Cond.code yX0_held cX0_held 3 (some .int), Cond.methodLink RX0 36 yX0_start, Cond.instanceMethod yX0_start, Cond.selects RX0 yX0_start yX0_start, Cond.code yX0_start cX0_start 2 (some .int), Cond.methodLink RX0 25 yX0_leafWith, Cond.static yX0_leafWith, Cond.code yX0_leafWith cX0_leafWith 2 (some .int), Cond.methodLink RX0 29 yX0_placeOf, Cond.instanceMethod yX0_placeOf, Cond.selects RX0 yX0_placeOf yX0_placeOf, Cond.code yX0_placeOf cX0_placeOf 3 (some .int), Cond.fieldLink RX0 15 "BinderParcels$Binder" "size" "I", Cond.fieldLink RX0 9 "BinderParcels$Binder" "leaves" "[I", Cond.methodLink RX0 39 yX0_end, Cond.instanceMethod yX0_end, Cond.selects RX0 yX0_end yX0_end, Cond.code yX0_end cX0_end 4 (some .int), Cond.methodLink RX0 33 yX0_numberOf, Cond.static yX0_numberOf]
def wsX0_difference_r2 : List Cond := [Cond.code yX0_numberOf cX0_numberOf 1 (some .int), Cond.methodLink RX0 61 yX0_earliestIssue, Cond.instanceMethod yX0_earliestIssue, Cond.selects RX0 yX0_earliestIssue yX0_earliestIssue, Cond.code yX0_earliestIssue cX0_earliestIssue 3 (some .int), Cond.methodLink RX0 55 yX0_issueOf, Cond.static yX0_issueOf, Cond.code yX0_issueOf cX0_issueOf 1 (some .int), Cond.methodLink RX0 51 yX0_holds, Cond.instanceMethod yX0_holds, Cond.selects RX0 yX0_holds yX0_holds, Cond.code yX0_holds cX0_holds 5 (some .boolean)]
def wsX0_difference : List Cond := .code yX0_difference cX0_difference 6 (some .int) :: ((wsX0_difference_r1 ++ wsX0_difference_r2) ++ wsX00)
def wsX0_differences_r1 : List Cond := [Cond.methodLink RX0 64 yX0_difference, Cond.instanceMethod yX0_difference, Cond.selects RX0 yX0_difference yX0_difference, Cond.initialized RX0, Cond.code yX0_difference cX0_difference 6 (some .int), Cond.methodLink RX0 58 yX0_held, Cond.instanceMethod yX0_held, Cond.selects RX0 yX0_held yX0_held, Cond.code yX0_held cX0_held 3 (some .int), Cond.methodLink RX0 36 yX0_start, Cond.instanceMethod yX0_start, Cond.selects RX0 yX0_start yX0_start, Cond.code yX0_start cX0_start 2 (some .int), Cond.methodLink RX0 25 yX0_leafWith, Cond.static yX0_leafWith, Cond.code yX0_leafWith cX0_leafWith 2 (some .int), Cond.methodLink RX0 29 yX0_placeOf, Cond.instanceMethod yX0_placeOf, Cond.selects RX0 yX0_placeOf yX0_placeOf, Cond.code yX0_placeOf cX0_placeOf 3 (some .int), Cond.fieldLink RX0 15 "BinderParcels$Binder" "size" "I", Cond.fieldLink RX0 9 "BinderParcels$Binder" "leaves" "[I", Cond.methodLink RX0 39 yX0_end, Cond.instanceMethod yX0_end]
def wsX0_differences_r2 : List Cond := [Cond.selects RX0 yX0_end yX0_end, Cond.code yX0_end cX0_end 4 (some .int), Cond.methodLink RX0 33 yX0_numberOf, Cond.static yX0_numberOf, Cond.code yX0_numberOf cX0_numberOf 1 (some .int), Cond.methodLink RX0 61 yX0_earliestIssue, Cond.instanceMethod yX0_earliestIssue, Cond.selects RX0 yX0_earliestIssue yX0_earliestIssue, Cond.code yX0_earliestIssue cX0_earliestIssue 3 (some .int), Cond.methodLink RX0 55 yX0_issueOf, Cond.static yX0_issueOf, Cond.code yX0_issueOf cX0_issueOf 1 (some .int), Cond.methodLink RX0 51 yX0_holds, Cond.instanceMethod yX0_holds, Cond.selects RX0 yX0_holds yX0_holds, Cond.code yX0_holds cX0_holds 5 (some .boolean)]
def wsX0_differences : List Cond := .code yX0_differences cX0_differences 5 (some .int) :: ((wsX0_differences_r1 ++ wsX0_differences_r2) ++ wsX00)
def wsX0_wrong_r1 : List Cond := [Cond.methodLink RX0 68 yX0_differences, Cond.instanceMethod yX0_differences, Cond.selects RX0 yX0_differences yX0_differences, Cond.initialized RX0, Cond.code yX0_differences cX0_differences 5 (some .int), Cond.methodLink RX0 64 yX0_difference, Cond.instanceMethod yX0_difference, Cond.selects RX0 yX0_difference yX0_difference, Cond.code yX0_difference cX0_difference 6 (some .int), Cond.methodLink RX0 58 yX0_held, Cond.instanceMethod yX0_held, Cond.selects RX0 yX0_held yX0_held, Cond.code yX0_held cX0_held 3 (some .int), Cond.methodLink RX0 36 yX0_start, Cond.instanceMethod yX0_start, Cond.selects RX0 yX0_start yX0_start, Cond.code yX0_start cX0_start 2 (some .int), Cond.methodLink RX0 25 yX0_leafWith, Cond.static yX0_leafWith, Cond.code yX0_leafWith cX0_leafWith 2 (some .int), Cond.methodLink RX0 29 yX0_placeOf, Cond.instanceMethod yX0_placeOf, Cond.selects RX0 yX0_placeOf yX0_placeOf, Cond.code yX0_placeOf cX0_placeOf 3 (some .int)]
def wsX0_wrong_r2 : List Cond := [Cond.fieldLink RX0 15 "BinderParcels$Binder" "size" "I", Cond.fieldLink RX0 9 "BinderParcels$Binder" "leaves" "[I", Cond.methodLink RX0 39 yX0_end, Cond.instanceMethod yX0_end, Cond.selects RX0 yX0_end yX0_end, Cond.code yX0_end cX0_end 4 (some .int), Cond.methodLink RX0 33 yX0_numberOf, Cond.static yX0_numberOf, Cond.code yX0_numberOf cX0_numberOf 1 (some .int), Cond.methodLink RX0 61 yX0_earliestIssue, Cond.instanceMethod yX0_earliestIssue, Cond.selects RX0 yX0_earliestIssue yX0_earliestIssue, Cond.code yX0_earliestIssue cX0_earliestIssue 3 (some .int), Cond.methodLink RX0 55 yX0_issueOf, Cond.static yX0_issueOf, Cond.code yX0_issueOf cX0_issueOf 1 (some .int), Cond.methodLink RX0 51 yX0_holds, Cond.instanceMethod yX0_holds, Cond.selects RX0 yX0_holds yX0_holds, Cond.code yX0_holds cX0_holds 5 (some .boolean)]
def wsX0_wrong : List Cond := .code yX0_wrong cX0_wrong 2 (some .int) :: ((wsX0_wrong_r1 ++ wsX0_wrong_r2) ++ wsX00)
def wsX3_init : List Cond := .code yX3_init cX3_init 2 none :: ([.methodLink RX3 3 objectInit, .instanceMethod objectInit, .code objectInit ⟨#[0xb1]⟩ 1 none, .arrayClass .int, .fieldLink RX3 9 "BinderParcels$State" "orders" "[I", .fieldLink RX3 15 "BinderParcels$State" "orderCounts" "[I", .classLink RX3 18 RX0, .instantiable RX0 2, .initialized RX0, .fieldLink RX3 21 "BinderParcels$State" "text" "LBinderParcels$Binder;", .fieldLink RX3 25 "BinderParcels$State" "binders" "[LBinderParcels$Binder;", .fieldLink RX3 29 "BinderParcels$State" "waiting" "[I", .fieldLink RX3 32 "BinderParcels$State" "lost" "[I", .instanceMethod yX0_init, .code yX0_init cX0_init 1 none, .methodLink RX0 3 objectInit, .fieldLink RX0 9 "BinderParcels$Binder" "leaves" "[I"] ++ wsX30 ++ wsX00)
def wsX1_init_r1 : List Cond := [Cond.methodLink RX1 3 objectInit, Cond.instanceMethod objectInit, Cond.code objectInit ⟨#[0xb1]⟩ 1 none, Cond.classLink RX1 9 RX3, Cond.fieldLink RX1 11 "BinderParcels$History" "states" "[LBinderParcels$State;", Cond.instantiable RX3 8, Cond.initialized RX3, Cond.methodLink RX1 17 yX3_init, Cond.instanceMethod yX3_init, Cond.code yX3_init cX3_init 2 none, Cond.methodLink RX3 3 objectInit, Cond.arrayClass .int, Cond.fieldLink RX3 9 "BinderParcels$State" "orders" "[I", Cond.fieldLink RX3 15 "BinderParcels$State" "orderCounts" "[I", Cond.classLink RX3 18 RX0, Cond.instantiable RX0 2, Cond.initialized RX0, Cond.fieldLink RX3 21 "BinderParcels$State" "text" "LBinderParcels$Binder;", Cond.fieldLink RX3 25 "BinderParcels$State" "binders" "[LBinderParcels$Binder;", Cond.fieldLink RX3 29 "BinderParcels$State" "waiting" "[I", Cond.fieldLink RX3 32 "BinderParcels$State" "lost" "[I", Cond.instanceMethod yX0_init, Cond.code yX0_init cX0_init 1 none, Cond.methodLink RX0 3 objectInit]
def wsX1_init_r2 : List Cond := [Cond.fieldLink RX0 9 "BinderParcels$Binder" "leaves" "[I"]
def wsX1_init : List Cond := .code yX1_init cX1_init 2 none :: ((wsX1_init_r1 ++ wsX1_init_r2) ++ wsX10 ++ wsX30 ++ wsX00)
def wsX3_copy : List Cond := .code yX3_copy cX3_copy 3 none :: ([.fieldLink RX3 9 "BinderParcels$State" "orders" "[I", .methodLink RX3 35 arraycopyName, .native arraycopyName, .static arraycopyName, .initialized "java/lang/System", .fieldLink RX3 15 "BinderParcels$State" "orderCounts" "[I", .fieldLink RX3 41 "BinderParcels$State" "parcels" "I", .fieldLink RX3 21 "BinderParcels$State" "text" "LBinderParcels$Binder;", .fieldLink RX3 25 "BinderParcels$State" "binders" "[LBinderParcels$Binder;", .fieldLink RX3 29 "BinderParcels$State" "waiting" "[I", .fieldLink RX3 32 "BinderParcels$State" "lost" "[I", .fieldLink RX3 49 "BinderParcels$State" "owners" "I", .methodLink RX3 45 yX0_copy, .instanceMethod yX0_copy, .selects RX0 yX0_copy yX0_copy, .initialized RX0, .code yX0_copy cX0_copy 2 none, .fieldLink RX0 9 "BinderParcels$Binder" "leaves" "[I", .fieldLink RX0 15 "BinderParcels$Binder" "size" "I", .methodLink RX0 19 arraycopyName] ++ wsX30 ++ wsX00)
def wsX1_record_r1 : List Cond := [Cond.fieldLink RX1 11 "BinderParcels$History" "states" "[LBinderParcels$State;", Cond.fieldLink RX1 18 "BinderParcels$History" "oldest" "I", Cond.fieldLink RX1 22 "BinderParcels$History" "size" "I", Cond.methodLink RX1 25 yX3_copy, Cond.instanceMethod yX3_copy, Cond.selects RX3 yX3_copy yX3_copy, Cond.initialized RX3, Cond.code yX3_copy cX3_copy 3 none, Cond.fieldLink RX3 9 "BinderParcels$State" "orders" "[I", Cond.methodLink RX3 35 arraycopyName, Cond.native arraycopyName, Cond.static arraycopyName, Cond.initialized "java/lang/System", Cond.fieldLink RX3 15 "BinderParcels$State" "orderCounts" "[I", Cond.fieldLink RX3 41 "BinderParcels$State" "parcels" "I", Cond.fieldLink RX3 21 "BinderParcels$State" "text" "LBinderParcels$Binder;", Cond.fieldLink RX3 25 "BinderParcels$State" "binders" "[LBinderParcels$Binder;", Cond.fieldLink RX3 29 "BinderParcels$State" "waiting" "[I", Cond.fieldLink RX3 32 "BinderParcels$State" "lost" "[I", Cond.fieldLink RX3 49 "BinderParcels$State" "owners" "I", Cond.methodLink RX3 45 yX0_copy, Cond.instanceMethod yX0_copy, Cond.selects RX0 yX0_copy yX0_copy, Cond.initialized RX0]
def wsX1_record_r2 : List Cond := [Cond.code yX0_copy cX0_copy 2 none, Cond.fieldLink RX0 9 "BinderParcels$Binder" "leaves" "[I", Cond.fieldLink RX0 15 "BinderParcels$Binder" "size" "I", Cond.methodLink RX0 19 arraycopyName]
def wsX1_record : List Cond := .code yX1_record cX1_record 2 none :: ((wsX1_record_r1 ++ wsX1_record_r2) ++ wsX10 ++ wsX30 ++ wsX00)
def wsX1_takeBack_r1 : List Cond := [Cond.fieldLink RX1 22 "BinderParcels$History" "size" "I", Cond.fieldLink RX1 11 "BinderParcels$History" "states" "[LBinderParcels$State;", Cond.fieldLink RX1 18 "BinderParcels$History" "oldest" "I", Cond.methodLink RX1 25 yX3_copy, Cond.instanceMethod yX3_copy, Cond.selects RX3 yX3_copy yX3_copy, Cond.initialized RX3, Cond.code yX3_copy cX3_copy 3 none, Cond.fieldLink RX3 9 "BinderParcels$State" "orders" "[I", Cond.methodLink RX3 35 arraycopyName, Cond.native arraycopyName, Cond.static arraycopyName, Cond.initialized "java/lang/System", Cond.fieldLink RX3 15 "BinderParcels$State" "orderCounts" "[I", Cond.fieldLink RX3 41 "BinderParcels$State" "parcels" "I", Cond.fieldLink RX3 21 "BinderParcels$State" "text" "LBinderParcels$Binder;", Cond.fieldLink RX3 25 "BinderParcels$State" "binders" "[LBinderParcels$Binder;", Cond.fieldLink RX3 29 "BinderParcels$State" "waiting" "[I", Cond.fieldLink RX3 32 "BinderParcels$State" "lost" "[I", Cond.fieldLink RX3 49 "BinderParcels$State" "owners" "I", Cond.methodLink RX3 45 yX0_copy, Cond.instanceMethod yX0_copy, Cond.selects RX0 yX0_copy yX0_copy, Cond.initialized RX0]
def wsX1_takeBack_r2 : List Cond := [Cond.code yX0_copy cX0_copy 2 none, Cond.fieldLink RX0 9 "BinderParcels$Binder" "leaves" "[I", Cond.fieldLink RX0 15 "BinderParcels$Binder" "size" "I", Cond.methodLink RX0 19 arraycopyName]
def wsX1_takeBack : List Cond := .code yX1_takeBack cX1_takeBack 2 none :: ((wsX1_takeBack_r1 ++ wsX1_takeBack_r2) ++ wsX10 ++ wsX30 ++ wsX00)
def wsX2_init : List Cond := .code yX2_init cX2_init 1 none :: ([.methodLink RX2 5 objectInit, .instanceMethod objectInit, .code objectInit ⟨#[0xb1]⟩ 1 none, .arrayClass .char, .fieldLink RX2 11 "BinderParcels$Pad" "characters" "[C"] ++ wsX20)
def wsX2_charactersIn : List Cond := .code yX2_charactersIn cX2_charactersIn 7 (some .int) :: ([.constantLong RX2 15 (255), .constantLong RX2 17 (33), .constantLong RX2 19 (126)])
def wsX2_append : List Cond := .code yX2_append cX2_append 7 none :: ([.fieldLink RX2 21 "BinderParcels$Pad" "length" "I", .fieldLink RX2 11 "BinderParcels$Pad" "characters" "[C", .constantLong RX2 15 (255)] ++ wsX20)
def wsX2_empty : List Cond := .code yX2_empty cX2_empty 1 none :: ([.fieldLink RX2 21 "BinderParcels$Pad" "length" "I"] ++ wsX20)
def wsX2_canStand : List Cond := .code yX2_canStand cX2_canStand 2 (some .boolean) :: ([])
def wsX2_firstFault : List Cond := .code yX2_firstFault cX2_firstFault 2 (some .int) :: ([.fieldLink RX2 21 "BinderParcels$Pad" "length" "I", .fieldLink RX2 11 "BinderParcels$Pad" "characters" "[C", .methodLink RX2 25 yX2_canStand, .static yX2_canStand, .initialized RX2, .code yX2_canStand cX2_canStand 2 (some .boolean)] ++ wsX20)
def wsX2_orders : List Cond := .code yX2_orders cX2_orders 1 (some .int) :: ([.fieldLink RX2 21 "BinderParcels$Pad" "length" "I"] ++ wsX20)
def wsX2_order : List Cond := .code yX2_order cX2_order 4 (some .int) :: ([.fieldLink RX2 11 "BinderParcels$Pad" "characters" "[C"] ++ wsX20)
def wsX2_hasNumberTwice : List Cond := .code yX2_hasNumberTwice cX2_hasNumberTwice 3 (some .boolean) :: ([.methodLink RX2 29 yX2_orders, .instanceMethod yX2_orders, .selects RX2 yX2_orders yX2_orders, .initialized RX2, .code yX2_orders cX2_orders 1 (some .int), .fieldLink RX2 21 "BinderParcels$Pad" "length" "I", .methodLink RX2 33 yX2_order, .instanceMethod yX2_order, .selects RX2 yX2_order yX2_order, .code yX2_order cX2_order 4 (some .int), .fieldLink RX2 11 "BinderParcels$Pad" "characters" "[C"] ++ wsX20)
def wsX3_hasOwner : List Cond := .code yX3_hasOwner cX3_hasOwner 2 (some .boolean) :: ([.fieldLink RX3 49 "BinderParcels$State" "owners" "I"] ++ wsX30)
def wsX3_hasParcel : List Cond := .code yX3_hasParcel cX3_hasParcel 2 (some .boolean) :: ([.fieldLink RX3 41 "BinderParcels$State" "parcels" "I"] ++ wsX30)
def wsX3_isWaiting : List Cond := .code yX3_isWaiting cX3_isWaiting 3 (some .boolean) :: ([.fieldLink RX3 29 "BinderParcels$State" "waiting" "[I"] ++ wsX30)
def wsX3_order : List Cond := .code yX3_order cX3_order 3 (some .int) :: ([.fieldLink RX3 9 "BinderParcels$State" "orders" "[I"] ++ wsX30)
def wsX3_doWithCare_r1 : List Cond := [Cond.fieldLink RX3 15 "BinderParcels$State" "orderCounts" "[I", Cond.methodLink RX3 65 yX3_order, Cond.instanceMethod yX3_order, Cond.selects RX3 yX3_order yX3_order, Cond.initialized RX3, Cond.code yX3_order cX3_order 3 (some .int), Cond.fieldLink RX3 9 "BinderParcels$State" "orders" "[I", Cond.methodLink RX3 68 yX0_removeAll, Cond.instanceMethod yX0_removeAll, Cond.selects RX0 yX0_removeAll yX0_removeAll, Cond.initialized RX0, Cond.code yX0_removeAll cX0_removeAll 3 none, Cond.methodLink RX0 36 yX0_start, Cond.instanceMethod yX0_start, Cond.selects RX0 yX0_start yX0_start, Cond.code yX0_start cX0_start 2 (some .int), Cond.methodLink RX0 25 yX0_leafWith, Cond.static yX0_leafWith, Cond.code yX0_leafWith cX0_leafWith 2 (some .int), Cond.methodLink RX0 29 yX0_placeOf, Cond.instanceMethod yX0_placeOf, Cond.selects RX0 yX0_placeOf yX0_placeOf, Cond.code yX0_placeOf cX0_placeOf 3 (some .int), Cond.fieldLink RX0 15 "BinderParcels$Binder" "size" "I"]
def wsX3_doWithCare_r2 : List Cond := [Cond.fieldLink RX0 9 "BinderParcels$Binder" "leaves" "[I", Cond.methodLink RX0 39 yX0_end, Cond.instanceMethod yX0_end, Cond.selects RX0 yX0_end yX0_end, Cond.code yX0_end cX0_end 4 (some .int), Cond.methodLink RX0 33 yX0_numberOf, Cond.static yX0_numberOf, Cond.code yX0_numberOf cX0_numberOf 1 (some .int), Cond.methodLink RX0 42 yX0_removeRange, Cond.instanceMethod yX0_removeRange, Cond.selects RX0 yX0_removeRange yX0_removeRange, Cond.code yX0_removeRange cX0_removeRange 3 none, Cond.methodLink RX0 19 arraycopyName, Cond.native arraycopyName, Cond.static arraycopyName, Cond.initialized "java/lang/System", Cond.methodLink RX3 72 yX0_insert, Cond.instanceMethod yX0_insert, Cond.selects RX0 yX0_insert yX0_insert, Cond.code yX0_insert cX0_insert 5 none]
def wsX3_doWithCare : List Cond := .code yX3_doWithCare cX3_doWithCare 5 none :: ((wsX3_doWithCare_r1 ++ wsX3_doWithCare_r2) ++ wsX30 ++ wsX00)
def wsX3_addParcel_r1 : List Cond := [Cond.fieldLink RX3 41 "BinderParcels$State" "parcels" "I", Cond.fieldLink RX3 15 "BinderParcels$State" "orderCounts" "[I", Cond.fieldLink RX3 9 "BinderParcels$State" "orders" "[I", Cond.fieldLink RX3 21 "BinderParcels$State" "text" "LBinderParcels$Binder;", Cond.fieldLink RX3 49 "BinderParcels$State" "owners" "I", Cond.fieldLink RX3 29 "BinderParcels$State" "waiting" "[I", Cond.methodLink RX3 52 yX2_orders, Cond.instanceMethod yX2_orders, Cond.selects RX2 yX2_orders yX2_orders, Cond.initialized RX2, Cond.code yX2_orders cX2_orders 1 (some .int), Cond.fieldLink RX2 21 "BinderParcels$Pad" "length" "I", Cond.methodLink RX3 57 yX2_order, Cond.instanceMethod yX2_order, Cond.selects RX2 yX2_order yX2_order, Cond.code yX2_order cX2_order 4 (some .int), Cond.fieldLink RX2 11 "BinderParcels$Pad" "characters" "[C", Cond.methodLink RX3 61 yX3_doWithCare, Cond.instanceMethod yX3_doWithCare, Cond.selects RX3 yX3_doWithCare yX3_doWithCare, Cond.initialized RX3, Cond.code yX3_doWithCare cX3_doWithCare 5 none, Cond.methodLink RX3 65 yX3_order, Cond.instanceMethod yX3_order]
def wsX3_addParcel_r2 : List Cond := [Cond.selects RX3 yX3_order yX3_order, Cond.code yX3_order cX3_order 3 (some .int), Cond.methodLink RX3 68 yX0_removeAll, Cond.instanceMethod yX0_removeAll, Cond.selects RX0 yX0_removeAll yX0_removeAll, Cond.initialized RX0, Cond.code yX0_removeAll cX0_removeAll 3 none, Cond.methodLink RX0 36 yX0_start, Cond.instanceMethod yX0_start, Cond.selects RX0 yX0_start yX0_start, Cond.code yX0_start cX0_start 2 (some .int), Cond.methodLink RX0 25 yX0_leafWith, Cond.static yX0_leafWith, Cond.code yX0_leafWith cX0_leafWith 2 (some .int), Cond.methodLink RX0 29 yX0_placeOf, Cond.instanceMethod yX0_placeOf, Cond.selects RX0 yX0_placeOf yX0_placeOf, Cond.code yX0_placeOf cX0_placeOf 3 (some .int), Cond.fieldLink RX0 15 "BinderParcels$Binder" "size" "I", Cond.fieldLink RX0 9 "BinderParcels$Binder" "leaves" "[I", Cond.methodLink RX0 39 yX0_end, Cond.instanceMethod yX0_end, Cond.selects RX0 yX0_end yX0_end, Cond.code yX0_end cX0_end 4 (some .int)]
def wsX3_addParcel_r3 : List Cond := [Cond.methodLink RX0 33 yX0_numberOf, Cond.static yX0_numberOf, Cond.code yX0_numberOf cX0_numberOf 1 (some .int), Cond.methodLink RX0 42 yX0_removeRange, Cond.instanceMethod yX0_removeRange, Cond.selects RX0 yX0_removeRange yX0_removeRange, Cond.code yX0_removeRange cX0_removeRange 3 none, Cond.methodLink RX0 19 arraycopyName, Cond.native arraycopyName, Cond.static arraycopyName, Cond.initialized "java/lang/System", Cond.methodLink RX3 72 yX0_insert, Cond.instanceMethod yX0_insert, Cond.selects RX0 yX0_insert yX0_insert, Cond.code yX0_insert cX0_insert 5 none]
def wsX3_addParcel : List Cond := .code yX3_addParcel cX3_addParcel 4 (some .int) :: ((wsX3_addParcel_r1 ++ (wsX3_addParcel_r2 ++ wsX3_addParcel_r3)) ++ wsX30 ++ wsX20 ++ wsX00)
def wsX3_addOwner : List Cond := .code yX3_addOwner cX3_addOwner 2 (some .int) :: ([.fieldLink RX3 49 "BinderParcels$State" "owners" "I", .fieldLink RX3 25 "BinderParcels$State" "binders" "[LBinderParcels$Binder;", .fieldLink RX3 21 "BinderParcels$State" "text" "LBinderParcels$Binder;", .fieldLink RX3 29 "BinderParcels$State" "waiting" "[I", .fieldLink RX3 32 "BinderParcels$State" "lost" "[I", .methodLink RX3 45 yX0_copy, .instanceMethod yX0_copy, .selects RX0 yX0_copy yX0_copy, .initialized RX0, .code yX0_copy cX0_copy 2 none, .fieldLink RX0 9 "BinderParcels$Binder" "leaves" "[I", .fieldLink RX0 15 "BinderParcels$Binder" "size" "I", .methodLink RX0 19 arraycopyName, .native arraycopyName, .static arraycopyName, .initialized "java/lang/System"] ++ wsX30 ++ wsX00)
def wsX3_doCarelessly_r1 : List Cond := [Cond.fieldLink RX3 15 "BinderParcels$State" "orderCounts" "[I", Cond.methodLink RX3 65 yX3_order, Cond.instanceMethod yX3_order, Cond.selects RX3 yX3_order yX3_order, Cond.initialized RX3, Cond.code yX3_order cX3_order 3 (some .int), Cond.fieldLink RX3 9 "BinderParcels$State" "orders" "[I", Cond.methodLink RX3 72 yX0_insert, Cond.instanceMethod yX0_insert, Cond.selects RX0 yX0_insert yX0_insert, Cond.initialized RX0, Cond.code yX0_insert cX0_insert 5 none, Cond.fieldLink RX0 15 "BinderParcels$Binder" "size" "I", Cond.fieldLink RX0 9 "BinderParcels$Binder" "leaves" "[I", Cond.methodLink RX0 19 arraycopyName, Cond.native arraycopyName, Cond.static arraycopyName, Cond.initialized "java/lang/System", Cond.methodLink RX0 25 yX0_leafWith, Cond.static yX0_leafWith, Cond.code yX0_leafWith cX0_leafWith 2 (some .int), Cond.methodLink RX0 29 yX0_placeOf, Cond.instanceMethod yX0_placeOf, Cond.selects RX0 yX0_placeOf yX0_placeOf]
def wsX3_doCarelessly_r2 : List Cond := [Cond.code yX0_placeOf cX0_placeOf 3 (some .int), Cond.methodLink RX3 76 yX0_removeEarliest, Cond.instanceMethod yX0_removeEarliest, Cond.selects RX0 yX0_removeEarliest yX0_removeEarliest, Cond.code yX0_removeEarliest cX0_removeEarliest 3 none, Cond.methodLink RX0 46 Lib.Math.min.name, Cond.static Lib.Math.min.name, Cond.initialized "java/lang/Math", Cond.code Lib.Math.min.name Lib.Math.min.code 2 (some .int), Cond.methodLink RX0 36 yX0_start, Cond.instanceMethod yX0_start, Cond.selects RX0 yX0_start yX0_start, Cond.code yX0_start cX0_start 2 (some .int), Cond.methodLink RX0 39 yX0_end, Cond.instanceMethod yX0_end, Cond.selects RX0 yX0_end yX0_end, Cond.code yX0_end cX0_end 4 (some .int), Cond.methodLink RX0 33 yX0_numberOf, Cond.static yX0_numberOf, Cond.code yX0_numberOf cX0_numberOf 1 (some .int), Cond.methodLink RX0 42 yX0_removeRange, Cond.instanceMethod yX0_removeRange, Cond.selects RX0 yX0_removeRange yX0_removeRange, Cond.code yX0_removeRange cX0_removeRange 3 none]
def wsX3_doCarelessly : List Cond := .code yX3_doCarelessly cX3_doCarelessly 5 none :: ((wsX3_doCarelessly_r1 ++ wsX3_doCarelessly_r2) ++ wsX30 ++ wsX00)
def wsX3_doSetWithCare_r1 : List Cond := [Cond.fieldLink RX3 41 "BinderParcels$State" "parcels" "I", Cond.methodLink RX3 61 yX3_doWithCare, Cond.instanceMethod yX3_doWithCare, Cond.selects RX3 yX3_doWithCare yX3_doWithCare, Cond.initialized RX3, Cond.code yX3_doWithCare cX3_doWithCare 5 none, Cond.fieldLink RX3 15 "BinderParcels$State" "orderCounts" "[I", Cond.methodLink RX3 65 yX3_order, Cond.instanceMethod yX3_order, Cond.selects RX3 yX3_order yX3_order, Cond.code yX3_order cX3_order 3 (some .int), Cond.fieldLink RX3 9 "BinderParcels$State" "orders" "[I", Cond.methodLink RX3 68 yX0_removeAll, Cond.instanceMethod yX0_removeAll, Cond.selects RX0 yX0_removeAll yX0_removeAll, Cond.initialized RX0, Cond.code yX0_removeAll cX0_removeAll 3 none, Cond.methodLink RX0 36 yX0_start, Cond.instanceMethod yX0_start, Cond.selects RX0 yX0_start yX0_start, Cond.code yX0_start cX0_start 2 (some .int), Cond.methodLink RX0 25 yX0_leafWith, Cond.static yX0_leafWith, Cond.code yX0_leafWith cX0_leafWith 2 (some .int)]
def wsX3_doSetWithCare_r2 : List Cond := [Cond.methodLink RX0 29 yX0_placeOf, Cond.instanceMethod yX0_placeOf, Cond.selects RX0 yX0_placeOf yX0_placeOf, Cond.code yX0_placeOf cX0_placeOf 3 (some .int), Cond.fieldLink RX0 15 "BinderParcels$Binder" "size" "I", Cond.fieldLink RX0 9 "BinderParcels$Binder" "leaves" "[I", Cond.methodLink RX0 39 yX0_end, Cond.instanceMethod yX0_end, Cond.selects RX0 yX0_end yX0_end, Cond.code yX0_end cX0_end 4 (some .int), Cond.methodLink RX0 33 yX0_numberOf, Cond.static yX0_numberOf, Cond.code yX0_numberOf cX0_numberOf 1 (some .int), Cond.methodLink RX0 42 yX0_removeRange, Cond.instanceMethod yX0_removeRange, Cond.selects RX0 yX0_removeRange yX0_removeRange, Cond.code yX0_removeRange cX0_removeRange 3 none, Cond.methodLink RX0 19 arraycopyName, Cond.native arraycopyName, Cond.static arraycopyName, Cond.initialized "java/lang/System", Cond.methodLink RX3 72 yX0_insert, Cond.instanceMethod yX0_insert, Cond.selects RX0 yX0_insert yX0_insert]
def wsX3_doSetWithCare_r3 : List Cond := [Cond.code yX0_insert cX0_insert 5 none]
def wsX3_doSetWithCare : List Cond := .code yX3_doSetWithCare cX3_doSetWithCare 4 none :: ((wsX3_doSetWithCare_r1 ++ (wsX3_doSetWithCare_r2 ++ wsX3_doSetWithCare_r3)) ++ wsX30 ++ wsX00)
def wsX3_ownersOf : List Cond := .code yX3_ownersOf cX3_ownersOf 5 (some .int) :: ([.fieldLink RX3 49 "BinderParcels$State" "owners" "I"] ++ wsX30)
def wsX3_ownersWithRightBinders : List Cond := .code yX3_ownersWithRightBinders cX3_ownersWithRightBinders 3 (some .int) :: ([.fieldLink RX3 49 "BinderParcels$State" "owners" "I", .fieldLink RX3 25 "BinderParcels$State" "binders" "[LBinderParcels$Binder;", .fieldLink RX3 21 "BinderParcels$State" "text" "LBinderParcels$Binder;", .methodLink RX3 79 yX0_isSameAs, .instanceMethod yX0_isSameAs, .selects RX0 yX0_isSameAs yX0_isSameAs, .initialized RX0, .code yX0_isSameAs cX0_isSameAs 3 (some .boolean), .fieldLink RX0 15 "BinderParcels$Binder" "size" "I", .fieldLink RX0 9 "BinderParcels$Binder" "leaves" "[I"] ++ wsX30 ++ wsX00)
def wsX3_parcelWithMostLeaves : List Cond := .code yX3_parcelWithMostLeaves cX3_parcelWithMostLeaves 5 (some .int) :: ([.fieldLink RX3 41 "BinderParcels$State" "parcels" "I", .fieldLink RX3 21 "BinderParcels$State" "text" "LBinderParcels$Binder;", .methodLink RX3 83 yX0_leavesOf, .instanceMethod yX0_leavesOf, .selects RX0 yX0_leavesOf yX0_leavesOf, .initialized RX0, .code yX0_leavesOf cX0_leavesOf 4 (some .int), .fieldLink RX0 15 "BinderParcels$Binder" "size" "I", .fieldLink RX0 9 "BinderParcels$Binder" "leaves" "[I", .methodLink RX0 55 yX0_issueOf, .static yX0_issueOf, .code yX0_issueOf cX0_issueOf 1 (some .int)] ++ wsX30 ++ wsX00)
def wsX4_init_r1 : List Cond := [Cond.methodLink RX4 1 objectInit, Cond.instanceMethod objectInit, Cond.code objectInit ⟨#[0xb1]⟩ 1 none, Cond.classLink RX4 7 RX3, Cond.instantiable RX3 8, Cond.initialized RX3, Cond.fieldLink RX4 10 "BinderParcels" "now" "LBinderParcels$State;", Cond.classLink RX4 16 RX1, Cond.instantiable RX1 3, Cond.initialized RX1, Cond.fieldLink RX4 19 "BinderParcels" "history" "LBinderParcels$History;", Cond.fieldLink RX4 23 "BinderParcels" "slots" "[LBinderParcels$State;", Cond.arrayClass .boolean, Cond.fieldLink RX4 27 "BinderParcels" "isSaved" "[Z", Cond.classLink RX4 31 RX2, Cond.instantiable RX2 2, Cond.initialized RX2, Cond.fieldLink RX4 34 "BinderParcels" "pad" "LBinderParcels$Pad;", Cond.classLink RX4 38 RX0, Cond.fieldLink RX4 40 "BinderParcels" "trials" "[LBinderParcels$Binder;", Cond.instantiable RX0 2, Cond.initialized RX0, Cond.methodLink RX4 9 yX3_init, Cond.instanceMethod yX3_init]
def wsX4_init_r2 : List Cond := [Cond.code yX3_init cX3_init 2 none, Cond.methodLink RX3 3 objectInit, Cond.arrayClass .int, Cond.fieldLink RX3 9 "BinderParcels$State" "orders" "[I", Cond.fieldLink RX3 15 "BinderParcels$State" "orderCounts" "[I", Cond.classLink RX3 18 RX0, Cond.fieldLink RX3 21 "BinderParcels$State" "text" "LBinderParcels$Binder;", Cond.fieldLink RX3 25 "BinderParcels$State" "binders" "[LBinderParcels$Binder;", Cond.fieldLink RX3 29 "BinderParcels$State" "waiting" "[I", Cond.fieldLink RX3 32 "BinderParcels$State" "lost" "[I", Cond.instanceMethod yX0_init, Cond.code yX0_init cX0_init 1 none, Cond.methodLink RX0 3 objectInit, Cond.fieldLink RX0 9 "BinderParcels$Binder" "leaves" "[I", Cond.methodLink RX4 18 yX1_init, Cond.instanceMethod yX1_init, Cond.code yX1_init cX1_init 2 none, Cond.methodLink RX1 3 objectInit, Cond.classLink RX1 9 RX3, Cond.fieldLink RX1 11 "BinderParcels$History" "states" "[LBinderParcels$State;", Cond.methodLink RX1 17 yX3_init, Cond.instanceMethod yX2_init, Cond.code yX2_init cX2_init 1 none, Cond.methodLink RX2 5 objectInit]
def wsX4_init_r3 : List Cond := [Cond.arrayClass .char, Cond.fieldLink RX2 11 "BinderParcels$Pad" "characters" "[C"]
def wsX4_init : List Cond := .code yX4_init cX4_init 2 none :: ((wsX4_init_r1 ++ (wsX4_init_r2 ++ wsX4_init_r3)) ++ wsX30 ++ wsX40 ++ wsX10 ++ wsX20 ++ wsX00)
def wsX4_issue_r1 : List Cond := [Cond.fieldLink RX4 34 "BinderParcels" "pad" "LBinderParcels$Pad;", Cond.fieldLink RX4 10 "BinderParcels" "now" "LBinderParcels$State;", Cond.fieldLink RX4 19 "BinderParcels" "history" "LBinderParcels$History;", Cond.methodLink RX4 45 yX2_firstFault, Cond.instanceMethod yX2_firstFault, Cond.selects RX2 yX2_firstFault yX2_firstFault, Cond.initialized RX2, Cond.code yX2_firstFault cX2_firstFault 2 (some .int), Cond.fieldLink RX2 21 "BinderParcels$Pad" "length" "I", Cond.fieldLink RX2 11 "BinderParcels$Pad" "characters" "[C", Cond.methodLink RX2 25 yX2_canStand, Cond.static yX2_canStand, Cond.code yX2_canStand cX2_canStand 2 (some .boolean), Cond.methodLink RX4 49 yX2_hasNumberTwice, Cond.instanceMethod yX2_hasNumberTwice, Cond.selects RX2 yX2_hasNumberTwice yX2_hasNumberTwice, Cond.code yX2_hasNumberTwice cX2_hasNumberTwice 3 (some .boolean), Cond.methodLink RX2 29 yX2_orders, Cond.instanceMethod yX2_orders, Cond.selects RX2 yX2_orders yX2_orders, Cond.code yX2_orders cX2_orders 1 (some .int), Cond.methodLink RX2 33 yX2_order, Cond.instanceMethod yX2_order, Cond.selects RX2 yX2_order yX2_order]
def wsX4_issue_r2 : List Cond := [Cond.code yX2_order cX2_order 4 (some .int), Cond.methodLink RX4 57 yX1_record, Cond.instanceMethod yX1_record, Cond.selects RX1 yX1_record yX1_record, Cond.initialized RX1, Cond.code yX1_record cX1_record 2 none, Cond.fieldLink RX1 11 "BinderParcels$History" "states" "[LBinderParcels$State;", Cond.fieldLink RX1 18 "BinderParcels$History" "oldest" "I", Cond.fieldLink RX1 22 "BinderParcels$History" "size" "I", Cond.methodLink RX1 25 yX3_copy, Cond.instanceMethod yX3_copy, Cond.selects RX3 yX3_copy yX3_copy, Cond.initialized RX3, Cond.code yX3_copy cX3_copy 3 none, Cond.fieldLink RX3 9 "BinderParcels$State" "orders" "[I", Cond.methodLink RX3 35 arraycopyName, Cond.native arraycopyName, Cond.static arraycopyName, Cond.initialized "java/lang/System", Cond.fieldLink RX3 15 "BinderParcels$State" "orderCounts" "[I", Cond.fieldLink RX3 41 "BinderParcels$State" "parcels" "I", Cond.fieldLink RX3 21 "BinderParcels$State" "text" "LBinderParcels$Binder;", Cond.fieldLink RX3 25 "BinderParcels$State" "binders" "[LBinderParcels$Binder;", Cond.fieldLink RX3 29 "BinderParcels$State" "waiting" "[I"]
def wsX4_issue_r3 : List Cond := [Cond.fieldLink RX3 32 "BinderParcels$State" "lost" "[I", Cond.fieldLink RX3 49 "BinderParcels$State" "owners" "I", Cond.methodLink RX3 45 yX0_copy, Cond.instanceMethod yX0_copy, Cond.selects RX0 yX0_copy yX0_copy, Cond.initialized RX0, Cond.code yX0_copy cX0_copy 2 none, Cond.fieldLink RX0 9 "BinderParcels$Binder" "leaves" "[I", Cond.fieldLink RX0 15 "BinderParcels$Binder" "size" "I", Cond.methodLink RX0 19 arraycopyName, Cond.methodLink RX4 61 yX3_addParcel, Cond.instanceMethod yX3_addParcel, Cond.selects RX3 yX3_addParcel yX3_addParcel, Cond.code yX3_addParcel cX3_addParcel 4 (some .int), Cond.methodLink RX3 52 yX2_orders, Cond.methodLink RX3 57 yX2_order, Cond.methodLink RX3 61 yX3_doWithCare, Cond.instanceMethod yX3_doWithCare, Cond.selects RX3 yX3_doWithCare yX3_doWithCare, Cond.code yX3_doWithCare cX3_doWithCare 5 none, Cond.methodLink RX3 65 yX3_order, Cond.instanceMethod yX3_order, Cond.selects RX3 yX3_order yX3_order, Cond.code yX3_order cX3_order 3 (some .int)]
def wsX4_issue_r4 : List Cond := [Cond.methodLink RX3 68 yX0_removeAll, Cond.instanceMethod yX0_removeAll, Cond.selects RX0 yX0_removeAll yX0_removeAll, Cond.code yX0_removeAll cX0_removeAll 3 none, Cond.methodLink RX0 36 yX0_start, Cond.instanceMethod yX0_start, Cond.selects RX0 yX0_start yX0_start, Cond.code yX0_start cX0_start 2 (some .int), Cond.methodLink RX0 25 yX0_leafWith, Cond.static yX0_leafWith, Cond.code yX0_leafWith cX0_leafWith 2 (some .int), Cond.methodLink RX0 29 yX0_placeOf, Cond.instanceMethod yX0_placeOf, Cond.selects RX0 yX0_placeOf yX0_placeOf, Cond.code yX0_placeOf cX0_placeOf 3 (some .int), Cond.methodLink RX0 39 yX0_end, Cond.instanceMethod yX0_end, Cond.selects RX0 yX0_end yX0_end, Cond.code yX0_end cX0_end 4 (some .int), Cond.methodLink RX0 33 yX0_numberOf, Cond.static yX0_numberOf, Cond.code yX0_numberOf cX0_numberOf 1 (some .int), Cond.methodLink RX0 42 yX0_removeRange, Cond.instanceMethod yX0_removeRange]
def wsX4_issue_r5 : List Cond := [Cond.selects RX0 yX0_removeRange yX0_removeRange, Cond.code yX0_removeRange cX0_removeRange 3 none, Cond.methodLink RX3 72 yX0_insert, Cond.instanceMethod yX0_insert, Cond.selects RX0 yX0_insert yX0_insert, Cond.code yX0_insert cX0_insert 5 none, Cond.methodLink RX4 65 yX2_empty, Cond.instanceMethod yX2_empty, Cond.selects RX2 yX2_empty yX2_empty, Cond.code yX2_empty cX2_empty 1 none]
def wsX4_issue : List Cond := .code yX4_issue cX4_issue 2 (some .int) :: ((wsX4_issue_r1 ++ (wsX4_issue_r2 ++ (wsX4_issue_r3 ++ (wsX4_issue_r4 ++ wsX4_issue_r5)))) ++ wsX40 ++ wsX30 ++ wsX20 ++ wsX10 ++ wsX00)
def wsX4_own_r1 : List Cond := [Cond.fieldLink RX4 10 "BinderParcels" "now" "LBinderParcels$State;", Cond.fieldLink RX4 19 "BinderParcels" "history" "LBinderParcels$History;", Cond.methodLink RX4 57 yX1_record, Cond.instanceMethod yX1_record, Cond.selects RX1 yX1_record yX1_record, Cond.initialized RX1, Cond.code yX1_record cX1_record 2 none, Cond.fieldLink RX1 11 "BinderParcels$History" "states" "[LBinderParcels$State;", Cond.fieldLink RX1 18 "BinderParcels$History" "oldest" "I", Cond.fieldLink RX1 22 "BinderParcels$History" "size" "I", Cond.methodLink RX1 25 yX3_copy, Cond.instanceMethod yX3_copy, Cond.selects RX3 yX3_copy yX3_copy, Cond.initialized RX3, Cond.code yX3_copy cX3_copy 3 none, Cond.fieldLink RX3 9 "BinderParcels$State" "orders" "[I", Cond.methodLink RX3 35 arraycopyName, Cond.native arraycopyName, Cond.static arraycopyName, Cond.initialized "java/lang/System", Cond.fieldLink RX3 15 "BinderParcels$State" "orderCounts" "[I", Cond.fieldLink RX3 41 "BinderParcels$State" "parcels" "I", Cond.fieldLink RX3 21 "BinderParcels$State" "text" "LBinderParcels$Binder;", Cond.fieldLink RX3 25 "BinderParcels$State" "binders" "[LBinderParcels$Binder;"]
def wsX4_own_r2 : List Cond := [Cond.fieldLink RX3 29 "BinderParcels$State" "waiting" "[I", Cond.fieldLink RX3 32 "BinderParcels$State" "lost" "[I", Cond.fieldLink RX3 49 "BinderParcels$State" "owners" "I", Cond.methodLink RX3 45 yX0_copy, Cond.instanceMethod yX0_copy, Cond.selects RX0 yX0_copy yX0_copy, Cond.initialized RX0, Cond.code yX0_copy cX0_copy 2 none, Cond.fieldLink RX0 9 "BinderParcels$Binder" "leaves" "[I", Cond.fieldLink RX0 15 "BinderParcels$Binder" "size" "I", Cond.methodLink RX0 19 arraycopyName, Cond.methodLink RX4 71 yX3_addOwner, Cond.instanceMethod yX3_addOwner, Cond.selects RX3 yX3_addOwner yX3_addOwner, Cond.code yX3_addOwner cX3_addOwner 2 (some .int)]
def wsX4_own : List Cond := .code yX4_own cX4_own 1 (some .int) :: ((wsX4_own_r1 ++ wsX4_own_r2) ++ wsX40 ++ wsX30 ++ wsX10 ++ wsX00)
def wsX4_done_r1 : List Cond := [Cond.fieldLink RX4 10 "BinderParcels" "now" "LBinderParcels$State;", Cond.fieldLink RX4 19 "BinderParcels" "history" "LBinderParcels$History;", Cond.methodLink RX4 74 yX3_hasOwner, Cond.instanceMethod yX3_hasOwner, Cond.selects RX3 yX3_hasOwner yX3_hasOwner, Cond.initialized RX3, Cond.code yX3_hasOwner cX3_hasOwner 2 (some .boolean), Cond.fieldLink RX3 49 "BinderParcels$State" "owners" "I", Cond.methodLink RX4 78 yX3_hasParcel, Cond.instanceMethod yX3_hasParcel, Cond.selects RX3 yX3_hasParcel yX3_hasParcel, Cond.code yX3_hasParcel cX3_hasParcel 2 (some .boolean), Cond.fieldLink RX3 41 "BinderParcels$State" "parcels" "I", Cond.methodLink RX4 81 yX3_isWaiting, Cond.instanceMethod yX3_isWaiting, Cond.selects RX3 yX3_isWaiting yX3_isWaiting, Cond.code yX3_isWaiting cX3_isWaiting 3 (some .boolean), Cond.fieldLink RX3 29 "BinderParcels$State" "waiting" "[I", Cond.methodLink RX4 57 yX1_record, Cond.instanceMethod yX1_record, Cond.selects RX1 yX1_record yX1_record, Cond.initialized RX1, Cond.code yX1_record cX1_record 2 none, Cond.fieldLink RX1 11 "BinderParcels$History" "states" "[LBinderParcels$State;"]
def wsX4_done_r2 : List Cond := [Cond.fieldLink RX1 18 "BinderParcels$History" "oldest" "I", Cond.fieldLink RX1 22 "BinderParcels$History" "size" "I", Cond.methodLink RX1 25 yX3_copy, Cond.instanceMethod yX3_copy, Cond.selects RX3 yX3_copy yX3_copy, Cond.code yX3_copy cX3_copy 3 none, Cond.fieldLink RX3 9 "BinderParcels$State" "orders" "[I", Cond.methodLink RX3 35 arraycopyName, Cond.native arraycopyName, Cond.static arraycopyName, Cond.initialized "java/lang/System", Cond.fieldLink RX3 15 "BinderParcels$State" "orderCounts" "[I", Cond.fieldLink RX3 21 "BinderParcels$State" "text" "LBinderParcels$Binder;", Cond.fieldLink RX3 25 "BinderParcels$State" "binders" "[LBinderParcels$Binder;", Cond.fieldLink RX3 32 "BinderParcels$State" "lost" "[I", Cond.methodLink RX3 45 yX0_copy, Cond.instanceMethod yX0_copy, Cond.selects RX0 yX0_copy yX0_copy, Cond.initialized RX0, Cond.code yX0_copy cX0_copy 2 none, Cond.fieldLink RX0 9 "BinderParcels$Binder" "leaves" "[I", Cond.fieldLink RX0 15 "BinderParcels$Binder" "size" "I", Cond.methodLink RX0 19 arraycopyName, Cond.methodLink RX4 92 yX3_doWithCare]
def wsX4_done_r3 : List Cond := [Cond.instanceMethod yX3_doWithCare, Cond.selects RX3 yX3_doWithCare yX3_doWithCare, Cond.code yX3_doWithCare cX3_doWithCare 5 none, Cond.methodLink RX3 65 yX3_order, Cond.instanceMethod yX3_order, Cond.selects RX3 yX3_order yX3_order, Cond.code yX3_order cX3_order 3 (some .int), Cond.methodLink RX3 68 yX0_removeAll, Cond.instanceMethod yX0_removeAll, Cond.selects RX0 yX0_removeAll yX0_removeAll, Cond.code yX0_removeAll cX0_removeAll 3 none, Cond.methodLink RX0 36 yX0_start, Cond.instanceMethod yX0_start, Cond.selects RX0 yX0_start yX0_start, Cond.code yX0_start cX0_start 2 (some .int), Cond.methodLink RX0 25 yX0_leafWith, Cond.static yX0_leafWith, Cond.code yX0_leafWith cX0_leafWith 2 (some .int), Cond.methodLink RX0 29 yX0_placeOf, Cond.instanceMethod yX0_placeOf, Cond.selects RX0 yX0_placeOf yX0_placeOf, Cond.code yX0_placeOf cX0_placeOf 3 (some .int), Cond.methodLink RX0 39 yX0_end, Cond.instanceMethod yX0_end]
def wsX4_done_r4 : List Cond := [Cond.selects RX0 yX0_end yX0_end, Cond.code yX0_end cX0_end 4 (some .int), Cond.methodLink RX0 33 yX0_numberOf, Cond.static yX0_numberOf, Cond.code yX0_numberOf cX0_numberOf 1 (some .int), Cond.methodLink RX0 42 yX0_removeRange, Cond.instanceMethod yX0_removeRange, Cond.selects RX0 yX0_removeRange yX0_removeRange, Cond.code yX0_removeRange cX0_removeRange 3 none, Cond.methodLink RX3 72 yX0_insert, Cond.instanceMethod yX0_insert, Cond.selects RX0 yX0_insert yX0_insert, Cond.code yX0_insert cX0_insert 5 none, Cond.methodLink RX4 96 yX3_doCarelessly, Cond.instanceMethod yX3_doCarelessly, Cond.selects RX3 yX3_doCarelessly yX3_doCarelessly, Cond.code yX3_doCarelessly cX3_doCarelessly 5 none, Cond.methodLink RX3 76 yX0_removeEarliest, Cond.instanceMethod yX0_removeEarliest, Cond.selects RX0 yX0_removeEarliest yX0_removeEarliest, Cond.code yX0_removeEarliest cX0_removeEarliest 3 none, Cond.methodLink RX0 46 Lib.Math.min.name, Cond.static Lib.Math.min.name, Cond.initialized "java/lang/Math"]
def wsX4_done_r5 : List Cond := [Cond.code Lib.Math.min.name Lib.Math.min.code 2 (some .int)]
def wsX4_done : List Cond := .code yX4_done cX4_done 5 (some .int) :: ((wsX4_done_r1 ++ (wsX4_done_r2 ++ (wsX4_done_r3 ++ (wsX4_done_r4 ++ wsX4_done_r5)))) ++ wsX40 ++ wsX30 ++ wsX00 ++ wsX10)
def wsJ6_bitCount_0f7a4 : List Cond := .code yJ6_bitCount_0f7a4 cJ6_bitCount_0f7a4 1 (some .int) :: ([.constant RJ6 265 (1431655765), .constant RJ6 266 (858993459), .constant RJ6 267 (252645135)])
def wsX4_doAll_r1 : List Cond := [Cond.fieldLink RX4 10 "BinderParcels" "now" "LBinderParcels$State;", Cond.fieldLink RX4 19 "BinderParcels" "history" "LBinderParcels$History;", Cond.methodLink RX4 74 yX3_hasOwner, Cond.instanceMethod yX3_hasOwner, Cond.selects RX3 yX3_hasOwner yX3_hasOwner, Cond.initialized RX3, Cond.code yX3_hasOwner cX3_hasOwner 2 (some .boolean), Cond.fieldLink RX3 49 "BinderParcels$State" "owners" "I", Cond.methodLink RX4 57 yX1_record, Cond.instanceMethod yX1_record, Cond.selects RX1 yX1_record yX1_record, Cond.initialized RX1, Cond.code yX1_record cX1_record 2 none, Cond.fieldLink RX1 11 "BinderParcels$History" "states" "[LBinderParcels$State;", Cond.fieldLink RX1 18 "BinderParcels$History" "oldest" "I", Cond.fieldLink RX1 22 "BinderParcels$History" "size" "I", Cond.methodLink RX1 25 yX3_copy, Cond.instanceMethod yX3_copy, Cond.selects RX3 yX3_copy yX3_copy, Cond.code yX3_copy cX3_copy 3 none, Cond.fieldLink RX3 9 "BinderParcels$State" "orders" "[I", Cond.methodLink RX3 35 arraycopyName, Cond.native arraycopyName, Cond.static arraycopyName]
def wsX4_doAll_r2 : List Cond := [Cond.initialized "java/lang/System", Cond.fieldLink RX3 15 "BinderParcels$State" "orderCounts" "[I", Cond.fieldLink RX3 41 "BinderParcels$State" "parcels" "I", Cond.fieldLink RX3 21 "BinderParcels$State" "text" "LBinderParcels$Binder;", Cond.fieldLink RX3 25 "BinderParcels$State" "binders" "[LBinderParcels$Binder;", Cond.fieldLink RX3 29 "BinderParcels$State" "waiting" "[I", Cond.fieldLink RX3 32 "BinderParcels$State" "lost" "[I", Cond.methodLink RX3 45 yX0_copy, Cond.instanceMethod yX0_copy, Cond.selects RX0 yX0_copy yX0_copy, Cond.initialized RX0, Cond.code yX0_copy cX0_copy 2 none, Cond.fieldLink RX0 9 "BinderParcels$Binder" "leaves" "[I", Cond.fieldLink RX0 15 "BinderParcels$Binder" "size" "I", Cond.methodLink RX0 19 arraycopyName, Cond.methodLink RX4 102 yX3_doSetWithCare, Cond.instanceMethod yX3_doSetWithCare, Cond.selects RX3 yX3_doSetWithCare yX3_doSetWithCare, Cond.code yX3_doSetWithCare cX3_doSetWithCare 4 none, Cond.methodLink RX3 61 yX3_doWithCare, Cond.instanceMethod yX3_doWithCare, Cond.selects RX3 yX3_doWithCare yX3_doWithCare, Cond.code yX3_doWithCare cX3_doWithCare 5 none, Cond.methodLink RX3 65 yX3_order]
def wsX4_doAll_r3 : List Cond := [Cond.instanceMethod yX3_order, Cond.selects RX3 yX3_order yX3_order, Cond.code yX3_order cX3_order 3 (some .int), Cond.methodLink RX3 68 yX0_removeAll, Cond.instanceMethod yX0_removeAll, Cond.selects RX0 yX0_removeAll yX0_removeAll, Cond.code yX0_removeAll cX0_removeAll 3 none, Cond.methodLink RX0 36 yX0_start, Cond.instanceMethod yX0_start, Cond.selects RX0 yX0_start yX0_start, Cond.code yX0_start cX0_start 2 (some .int), Cond.methodLink RX0 25 yX0_leafWith, Cond.static yX0_leafWith, Cond.code yX0_leafWith cX0_leafWith 2 (some .int), Cond.methodLink RX0 29 yX0_placeOf, Cond.instanceMethod yX0_placeOf, Cond.selects RX0 yX0_placeOf yX0_placeOf, Cond.code yX0_placeOf cX0_placeOf 3 (some .int), Cond.methodLink RX0 39 yX0_end, Cond.instanceMethod yX0_end, Cond.selects RX0 yX0_end yX0_end, Cond.code yX0_end cX0_end 4 (some .int), Cond.methodLink RX0 33 yX0_numberOf, Cond.static yX0_numberOf]
def wsX4_doAll_r4 : List Cond := [Cond.code yX0_numberOf cX0_numberOf 1 (some .int), Cond.methodLink RX0 42 yX0_removeRange, Cond.instanceMethod yX0_removeRange, Cond.selects RX0 yX0_removeRange yX0_removeRange, Cond.code yX0_removeRange cX0_removeRange 3 none, Cond.methodLink RX3 72 yX0_insert, Cond.instanceMethod yX0_insert, Cond.selects RX0 yX0_insert yX0_insert, Cond.code yX0_insert cX0_insert 5 none, Cond.methodLink RX4 105 yJ6_bitCount_0f7a4, Cond.static yJ6_bitCount_0f7a4, Cond.initialized RJ6, Cond.code yJ6_bitCount_0f7a4 cJ6_bitCount_0f7a4 1 (some .int), Cond.constant RJ6 265 (1431655765), Cond.constant RJ6 266 (858993459), Cond.constant RJ6 267 (252645135)]
def wsX4_doAll : List Cond := .code yX4_doAll cX4_doAll 3 (some .int) :: ((wsX4_doAll_r1 ++ (wsX4_doAll_r2 ++ (wsX4_doAll_r3 ++ wsX4_doAll_r4))) ++ wsX40 ++ wsX30 ++ wsX10 ++ wsX00)
def wsX4_lose_r1 : List Cond := [Cond.fieldLink RX4 10 "BinderParcels" "now" "LBinderParcels$State;", Cond.fieldLink RX4 19 "BinderParcels" "history" "LBinderParcels$History;", Cond.methodLink RX4 74 yX3_hasOwner, Cond.instanceMethod yX3_hasOwner, Cond.selects RX3 yX3_hasOwner yX3_hasOwner, Cond.initialized RX3, Cond.code yX3_hasOwner cX3_hasOwner 2 (some .boolean), Cond.fieldLink RX3 49 "BinderParcels$State" "owners" "I", Cond.methodLink RX4 78 yX3_hasParcel, Cond.instanceMethod yX3_hasParcel, Cond.selects RX3 yX3_hasParcel yX3_hasParcel, Cond.code yX3_hasParcel cX3_hasParcel 2 (some .boolean), Cond.fieldLink RX3 41 "BinderParcels$State" "parcels" "I", Cond.methodLink RX4 81 yX3_isWaiting, Cond.instanceMethod yX3_isWaiting, Cond.selects RX3 yX3_isWaiting yX3_isWaiting, Cond.code yX3_isWaiting cX3_isWaiting 3 (some .boolean), Cond.fieldLink RX3 29 "BinderParcels$State" "waiting" "[I", Cond.methodLink RX4 57 yX1_record, Cond.instanceMethod yX1_record, Cond.selects RX1 yX1_record yX1_record, Cond.initialized RX1, Cond.code yX1_record cX1_record 2 none, Cond.fieldLink RX1 11 "BinderParcels$History" "states" "[LBinderParcels$State;"]
def wsX4_lose_r2 : List Cond := [Cond.fieldLink RX1 18 "BinderParcels$History" "oldest" "I", Cond.fieldLink RX1 22 "BinderParcels$History" "size" "I", Cond.methodLink RX1 25 yX3_copy, Cond.instanceMethod yX3_copy, Cond.selects RX3 yX3_copy yX3_copy, Cond.code yX3_copy cX3_copy 3 none, Cond.fieldLink RX3 9 "BinderParcels$State" "orders" "[I", Cond.methodLink RX3 35 arraycopyName, Cond.native arraycopyName, Cond.static arraycopyName, Cond.initialized "java/lang/System", Cond.fieldLink RX3 15 "BinderParcels$State" "orderCounts" "[I", Cond.fieldLink RX3 21 "BinderParcels$State" "text" "LBinderParcels$Binder;", Cond.fieldLink RX3 25 "BinderParcels$State" "binders" "[LBinderParcels$Binder;", Cond.fieldLink RX3 32 "BinderParcels$State" "lost" "[I", Cond.methodLink RX3 45 yX0_copy, Cond.instanceMethod yX0_copy, Cond.selects RX0 yX0_copy yX0_copy, Cond.initialized RX0, Cond.code yX0_copy cX0_copy 2 none, Cond.fieldLink RX0 9 "BinderParcels$Binder" "leaves" "[I", Cond.fieldLink RX0 15 "BinderParcels$Binder" "size" "I", Cond.methodLink RX0 19 arraycopyName, Cond.methodLink RX4 105 yJ6_bitCount_0f7a4]
def wsX4_lose_r3 : List Cond := [Cond.static yJ6_bitCount_0f7a4, Cond.initialized RJ6, Cond.code yJ6_bitCount_0f7a4 cJ6_bitCount_0f7a4 1 (some .int), Cond.constant RJ6 265 (1431655765), Cond.constant RJ6 266 (858993459), Cond.constant RJ6 267 (252645135)]
def wsX4_lose : List Cond := .code yX4_lose cX4_lose 3 (some .int) :: ((wsX4_lose_r1 ++ (wsX4_lose_r2 ++ wsX4_lose_r3)) ++ wsX40 ++ wsX30 ++ wsX10 ++ wsX00)
def wsX4_again_r1 : List Cond := [Cond.fieldLink RX4 10 "BinderParcels" "now" "LBinderParcels$State;", Cond.fieldLink RX4 19 "BinderParcels" "history" "LBinderParcels$History;", Cond.methodLink RX4 74 yX3_hasOwner, Cond.instanceMethod yX3_hasOwner, Cond.selects RX3 yX3_hasOwner yX3_hasOwner, Cond.initialized RX3, Cond.code yX3_hasOwner cX3_hasOwner 2 (some .boolean), Cond.fieldLink RX3 49 "BinderParcels$State" "owners" "I", Cond.methodLink RX4 78 yX3_hasParcel, Cond.instanceMethod yX3_hasParcel, Cond.selects RX3 yX3_hasParcel yX3_hasParcel, Cond.code yX3_hasParcel cX3_hasParcel 2 (some .boolean), Cond.fieldLink RX3 41 "BinderParcels$State" "parcels" "I", Cond.methodLink RX4 81 yX3_isWaiting, Cond.instanceMethod yX3_isWaiting, Cond.selects RX3 yX3_isWaiting yX3_isWaiting, Cond.code yX3_isWaiting cX3_isWaiting 3 (some .boolean), Cond.fieldLink RX3 29 "BinderParcels$State" "waiting" "[I", Cond.methodLink RX4 57 yX1_record, Cond.instanceMethod yX1_record, Cond.selects RX1 yX1_record yX1_record, Cond.initialized RX1, Cond.code yX1_record cX1_record 2 none, Cond.fieldLink RX1 11 "BinderParcels$History" "states" "[LBinderParcels$State;"]
def wsX4_again_r2 : List Cond := [Cond.fieldLink RX1 18 "BinderParcels$History" "oldest" "I", Cond.fieldLink RX1 22 "BinderParcels$History" "size" "I", Cond.methodLink RX1 25 yX3_copy, Cond.instanceMethod yX3_copy, Cond.selects RX3 yX3_copy yX3_copy, Cond.code yX3_copy cX3_copy 3 none, Cond.fieldLink RX3 9 "BinderParcels$State" "orders" "[I", Cond.methodLink RX3 35 arraycopyName, Cond.native arraycopyName, Cond.static arraycopyName, Cond.initialized "java/lang/System", Cond.fieldLink RX3 15 "BinderParcels$State" "orderCounts" "[I", Cond.fieldLink RX3 21 "BinderParcels$State" "text" "LBinderParcels$Binder;", Cond.fieldLink RX3 25 "BinderParcels$State" "binders" "[LBinderParcels$Binder;", Cond.fieldLink RX3 32 "BinderParcels$State" "lost" "[I", Cond.methodLink RX3 45 yX0_copy, Cond.instanceMethod yX0_copy, Cond.selects RX0 yX0_copy yX0_copy, Cond.initialized RX0, Cond.code yX0_copy cX0_copy 2 none, Cond.fieldLink RX0 9 "BinderParcels$Binder" "leaves" "[I", Cond.fieldLink RX0 15 "BinderParcels$Binder" "size" "I", Cond.methodLink RX0 19 arraycopyName, Cond.methodLink RX4 105 yJ6_bitCount_0f7a4]
def wsX4_again_r3 : List Cond := [Cond.static yJ6_bitCount_0f7a4, Cond.initialized RJ6, Cond.code yJ6_bitCount_0f7a4 cJ6_bitCount_0f7a4 1 (some .int), Cond.constant RJ6 265 (1431655765), Cond.constant RJ6 266 (858993459), Cond.constant RJ6 267 (252645135)]
def wsX4_again : List Cond := .code yX4_again cX4_again 3 (some .int) :: ((wsX4_again_r1 ++ (wsX4_again_r2 ++ wsX4_again_r3)) ++ wsX40 ++ wsX30 ++ wsX10 ++ wsX00)
def wsX4_isNumber : List Cond := .code yX4_isNumber cX4_isNumber 1 (some .boolean) :: ([])
def wsX4_hand_r1 : List Cond := [Cond.fieldLink RX4 10 "BinderParcels" "now" "LBinderParcels$State;", Cond.fieldLink RX4 19 "BinderParcels" "history" "LBinderParcels$History;", Cond.methodLink RX4 74 yX3_hasOwner, Cond.instanceMethod yX3_hasOwner, Cond.selects RX3 yX3_hasOwner yX3_hasOwner, Cond.initialized RX3, Cond.code yX3_hasOwner cX3_hasOwner 2 (some .boolean), Cond.fieldLink RX3 49 "BinderParcels$State" "owners" "I", Cond.methodLink RX4 78 yX3_hasParcel, Cond.instanceMethod yX3_hasParcel, Cond.selects RX3 yX3_hasParcel yX3_hasParcel, Cond.code yX3_hasParcel cX3_hasParcel 2 (some .boolean), Cond.fieldLink RX3 41 "BinderParcels$State" "parcels" "I", Cond.methodLink RX4 114 yX4_isNumber, Cond.static yX4_isNumber, Cond.initialized RX4, Cond.code yX4_isNumber cX4_isNumber 1 (some .boolean), Cond.methodLink RX4 117 yX0_holds, Cond.instanceMethod yX0_holds, Cond.selects RX0 yX0_holds yX0_holds, Cond.initialized RX0, Cond.code yX0_holds cX0_holds 5 (some .boolean), Cond.fieldLink RX0 15 "BinderParcels$Binder" "size" "I", Cond.fieldLink RX0 9 "BinderParcels$Binder" "leaves" "[I"]
def wsX4_hand_r2 : List Cond := [Cond.methodLink RX0 25 yX0_leafWith, Cond.static yX0_leafWith, Cond.code yX0_leafWith cX0_leafWith 2 (some .int), Cond.methodLink RX0 29 yX0_placeOf, Cond.instanceMethod yX0_placeOf, Cond.selects RX0 yX0_placeOf yX0_placeOf, Cond.code yX0_placeOf cX0_placeOf 3 (some .int), Cond.methodLink RX4 57 yX1_record, Cond.instanceMethod yX1_record, Cond.selects RX1 yX1_record yX1_record, Cond.initialized RX1, Cond.code yX1_record cX1_record 2 none, Cond.fieldLink RX1 11 "BinderParcels$History" "states" "[LBinderParcels$State;", Cond.fieldLink RX1 18 "BinderParcels$History" "oldest" "I", Cond.fieldLink RX1 22 "BinderParcels$History" "size" "I", Cond.methodLink RX1 25 yX3_copy, Cond.instanceMethod yX3_copy, Cond.selects RX3 yX3_copy yX3_copy, Cond.code yX3_copy cX3_copy 3 none, Cond.fieldLink RX3 9 "BinderParcels$State" "orders" "[I", Cond.methodLink RX3 35 arraycopyName, Cond.native arraycopyName, Cond.static arraycopyName, Cond.initialized "java/lang/System"]
def wsX4_hand_r3 : List Cond := [Cond.fieldLink RX3 15 "BinderParcels$State" "orderCounts" "[I", Cond.fieldLink RX3 21 "BinderParcels$State" "text" "LBinderParcels$Binder;", Cond.fieldLink RX3 25 "BinderParcels$State" "binders" "[LBinderParcels$Binder;", Cond.fieldLink RX3 29 "BinderParcels$State" "waiting" "[I", Cond.fieldLink RX3 32 "BinderParcels$State" "lost" "[I", Cond.methodLink RX3 45 yX0_copy, Cond.instanceMethod yX0_copy, Cond.selects RX0 yX0_copy yX0_copy, Cond.code yX0_copy cX0_copy 2 none, Cond.methodLink RX0 19 arraycopyName, Cond.methodLink RX4 120 yX0_insert, Cond.instanceMethod yX0_insert, Cond.selects RX0 yX0_insert yX0_insert, Cond.code yX0_insert cX0_insert 5 none, Cond.methodLink RX4 124 yX0_remove, Cond.instanceMethod yX0_remove, Cond.selects RX0 yX0_remove yX0_remove, Cond.code yX0_remove cX0_remove 4 none, Cond.methodLink RX0 51 yX0_holds, Cond.methodLink RX0 42 yX0_removeRange, Cond.instanceMethod yX0_removeRange, Cond.selects RX0 yX0_removeRange yX0_removeRange, Cond.code yX0_removeRange cX0_removeRange 3 none]
def wsX4_hand : List Cond := .code yX4_hand cX4_hand 7 (some .int) :: ((wsX4_hand_r1 ++ (wsX4_hand_r2 ++ wsX4_hand_r3)) ++ wsX40 ++ wsX30 ++ wsX00 ++ wsX10)
def wsX4_parcel : List Cond := .code yX4_parcel cX4_parcel 3 (some .int) :: ([.fieldLink RX4 10 "BinderParcels" "now" "LBinderParcels$State;", .methodLink RX4 78 yX3_hasParcel, .instanceMethod yX3_hasParcel, .selects RX3 yX3_hasParcel yX3_hasParcel, .initialized RX3, .code yX3_hasParcel cX3_hasParcel 2 (some .boolean), .fieldLink RX3 41 "BinderParcels$State" "parcels" "I", .methodLink RX4 130 yX3_order, .instanceMethod yX3_order, .selects RX3 yX3_order yX3_order, .code yX3_order cX3_order 3 (some .int), .fieldLink RX3 9 "BinderParcels$State" "orders" "[I", .methodLink RX4 134 yX3_ownersOf, .instanceMethod yX3_ownersOf, .selects RX3 yX3_ownersOf yX3_ownersOf, .code yX3_ownersOf cX3_ownersOf 5 (some .int), .fieldLink RX3 49 "BinderParcels$State" "owners" "I"] ++ wsX40 ++ wsX30)
def wsX4_text_r1 : List Cond := [Cond.fieldLink RX4 10 "BinderParcels" "now" "LBinderParcels$State;", Cond.methodLink RX4 114 yX4_isNumber, Cond.static yX4_isNumber, Cond.initialized RX4, Cond.code yX4_isNumber cX4_isNumber 1 (some .boolean), Cond.methodLink RX4 142 yX0_earliestIssue, Cond.instanceMethod yX0_earliestIssue, Cond.selects RX0 yX0_earliestIssue yX0_earliestIssue, Cond.initialized RX0, Cond.code yX0_earliestIssue cX0_earliestIssue 3 (some .int), Cond.fieldLink RX0 9 "BinderParcels$Binder" "leaves" "[I", Cond.methodLink RX0 36 yX0_start, Cond.instanceMethod yX0_start, Cond.selects RX0 yX0_start yX0_start, Cond.code yX0_start cX0_start 2 (some .int), Cond.methodLink RX0 25 yX0_leafWith, Cond.static yX0_leafWith, Cond.code yX0_leafWith cX0_leafWith 2 (some .int), Cond.methodLink RX0 29 yX0_placeOf, Cond.instanceMethod yX0_placeOf, Cond.selects RX0 yX0_placeOf yX0_placeOf, Cond.code yX0_placeOf cX0_placeOf 3 (some .int), Cond.fieldLink RX0 15 "BinderParcels$Binder" "size" "I", Cond.methodLink RX0 39 yX0_end]
def wsX4_text_r2 : List Cond := [Cond.instanceMethod yX0_end, Cond.selects RX0 yX0_end yX0_end, Cond.code yX0_end cX0_end 4 (some .int), Cond.methodLink RX0 33 yX0_numberOf, Cond.static yX0_numberOf, Cond.code yX0_numberOf cX0_numberOf 1 (some .int), Cond.methodLink RX0 55 yX0_issueOf, Cond.static yX0_issueOf, Cond.code yX0_issueOf cX0_issueOf 1 (some .int)]
def wsX4_text : List Cond := .code yX4_text cX4_text 2 (some .int) :: ((wsX4_text_r1 ++ wsX4_text_r2) ++ wsX40 ++ wsX30 ++ wsX00)
def wsX4_leaf_r1 : List Cond := [Cond.fieldLink RX4 10 "BinderParcels" "now" "LBinderParcels$State;", Cond.methodLink RX4 74 yX3_hasOwner, Cond.instanceMethod yX3_hasOwner, Cond.selects RX3 yX3_hasOwner yX3_hasOwner, Cond.initialized RX3, Cond.code yX3_hasOwner cX3_hasOwner 2 (some .boolean), Cond.fieldLink RX3 49 "BinderParcels$State" "owners" "I", Cond.methodLink RX4 114 yX4_isNumber, Cond.static yX4_isNumber, Cond.initialized RX4, Cond.code yX4_isNumber cX4_isNumber 1 (some .boolean), Cond.methodLink RX4 145 yX0_held, Cond.instanceMethod yX0_held, Cond.selects RX0 yX0_held yX0_held, Cond.initialized RX0, Cond.code yX0_held cX0_held 3 (some .int), Cond.methodLink RX0 36 yX0_start, Cond.instanceMethod yX0_start, Cond.selects RX0 yX0_start yX0_start, Cond.code yX0_start cX0_start 2 (some .int), Cond.methodLink RX0 25 yX0_leafWith, Cond.static yX0_leafWith, Cond.code yX0_leafWith cX0_leafWith 2 (some .int), Cond.methodLink RX0 29 yX0_placeOf]
def wsX4_leaf_r2 : List Cond := [Cond.instanceMethod yX0_placeOf, Cond.selects RX0 yX0_placeOf yX0_placeOf, Cond.code yX0_placeOf cX0_placeOf 3 (some .int), Cond.fieldLink RX0 15 "BinderParcels$Binder" "size" "I", Cond.fieldLink RX0 9 "BinderParcels$Binder" "leaves" "[I", Cond.methodLink RX0 39 yX0_end, Cond.instanceMethod yX0_end, Cond.selects RX0 yX0_end yX0_end, Cond.code yX0_end cX0_end 4 (some .int), Cond.methodLink RX0 33 yX0_numberOf, Cond.static yX0_numberOf, Cond.code yX0_numberOf cX0_numberOf 1 (some .int), Cond.methodLink RX4 142 yX0_earliestIssue, Cond.instanceMethod yX0_earliestIssue, Cond.selects RX0 yX0_earliestIssue yX0_earliestIssue, Cond.code yX0_earliestIssue cX0_earliestIssue 3 (some .int), Cond.methodLink RX0 55 yX0_issueOf, Cond.static yX0_issueOf, Cond.code yX0_issueOf cX0_issueOf 1 (some .int), Cond.methodLink RX4 148 yX0_latestIssue, Cond.instanceMethod yX0_latestIssue, Cond.selects RX0 yX0_latestIssue yX0_latestIssue, Cond.code yX0_latestIssue cX0_latestIssue 4 (some .int), Cond.methodLink RX4 151 yX0_difference]
def wsX4_leaf_r3 : List Cond := [Cond.instanceMethod yX0_difference, Cond.selects RX0 yX0_difference yX0_difference, Cond.code yX0_difference cX0_difference 6 (some .int), Cond.methodLink RX0 58 yX0_held, Cond.methodLink RX0 61 yX0_earliestIssue, Cond.methodLink RX0 51 yX0_holds, Cond.instanceMethod yX0_holds, Cond.selects RX0 yX0_holds yX0_holds, Cond.code yX0_holds cX0_holds 5 (some .boolean)]
def wsX4_leaf : List Cond := .code yX4_leaf cX4_leaf 5 (some .int) :: ((wsX4_leaf_r1 ++ (wsX4_leaf_r2 ++ wsX4_leaf_r3)) ++ wsX40 ++ wsX30 ++ wsX00)
def wsX4_of_r1 : List Cond := [Cond.fieldLink RX4 10 "BinderParcels" "now" "LBinderParcels$State;", Cond.methodLink RX4 74 yX3_hasOwner, Cond.instanceMethod yX3_hasOwner, Cond.selects RX3 yX3_hasOwner yX3_hasOwner, Cond.initialized RX3, Cond.code yX3_hasOwner cX3_hasOwner 2 (some .boolean), Cond.fieldLink RX3 49 "BinderParcels$State" "owners" "I", Cond.methodLink RX4 155 yX0_differences, Cond.instanceMethod yX0_differences, Cond.selects RX0 yX0_differences yX0_differences, Cond.initialized RX0, Cond.code yX0_differences cX0_differences 5 (some .int), Cond.methodLink RX0 64 yX0_difference, Cond.instanceMethod yX0_difference, Cond.selects RX0 yX0_difference yX0_difference, Cond.code yX0_difference cX0_difference 6 (some .int), Cond.methodLink RX0 58 yX0_held, Cond.instanceMethod yX0_held, Cond.selects RX0 yX0_held yX0_held, Cond.code yX0_held cX0_held 3 (some .int), Cond.methodLink RX0 36 yX0_start, Cond.instanceMethod yX0_start, Cond.selects RX0 yX0_start yX0_start, Cond.code yX0_start cX0_start 2 (some .int)]
def wsX4_of_r2 : List Cond := [Cond.methodLink RX0 25 yX0_leafWith, Cond.static yX0_leafWith, Cond.code yX0_leafWith cX0_leafWith 2 (some .int), Cond.methodLink RX0 29 yX0_placeOf, Cond.instanceMethod yX0_placeOf, Cond.selects RX0 yX0_placeOf yX0_placeOf, Cond.code yX0_placeOf cX0_placeOf 3 (some .int), Cond.fieldLink RX0 15 "BinderParcels$Binder" "size" "I", Cond.fieldLink RX0 9 "BinderParcels$Binder" "leaves" "[I", Cond.methodLink RX0 39 yX0_end, Cond.instanceMethod yX0_end, Cond.selects RX0 yX0_end yX0_end, Cond.code yX0_end cX0_end 4 (some .int), Cond.methodLink RX0 33 yX0_numberOf, Cond.static yX0_numberOf, Cond.code yX0_numberOf cX0_numberOf 1 (some .int), Cond.methodLink RX0 61 yX0_earliestIssue, Cond.instanceMethod yX0_earliestIssue, Cond.selects RX0 yX0_earliestIssue yX0_earliestIssue, Cond.code yX0_earliestIssue cX0_earliestIssue 3 (some .int), Cond.methodLink RX0 55 yX0_issueOf, Cond.static yX0_issueOf, Cond.code yX0_issueOf cX0_issueOf 1 (some .int), Cond.methodLink RX0 51 yX0_holds]
def wsX4_of_r3 : List Cond := [Cond.instanceMethod yX0_holds, Cond.selects RX0 yX0_holds yX0_holds, Cond.code yX0_holds cX0_holds 5 (some .boolean), Cond.methodLink RX4 159 yX0_isSameAs, Cond.instanceMethod yX0_isSameAs, Cond.selects RX0 yX0_isSameAs yX0_isSameAs, Cond.code yX0_isSameAs cX0_isSameAs 3 (some .boolean), Cond.methodLink RX4 163 yX0_checkNumber, Cond.instanceMethod yX0_checkNumber, Cond.selects RX0 yX0_checkNumber yX0_checkNumber, Cond.code yX0_checkNumber cX0_checkNumber 3 (some .int)]
def wsX4_of : List Cond := .code yX4_of cX4_of 4 (some .int) :: ((wsX4_of_r1 ++ (wsX4_of_r2 ++ wsX4_of_r3)) ++ wsX40 ++ wsX30 ++ wsX00)
def wsX4_count_r1 : List Cond := [Cond.fieldLink RX4 10 "BinderParcels" "now" "LBinderParcels$State;", Cond.fieldLink RX4 34 "BinderParcels" "pad" "LBinderParcels$Pad;", Cond.fieldLink RX4 19 "BinderParcels" "history" "LBinderParcels$History;", Cond.methodLink RX4 163 yX0_checkNumber, Cond.instanceMethod yX0_checkNumber, Cond.selects RX0 yX0_checkNumber yX0_checkNumber, Cond.initialized RX0, Cond.code yX0_checkNumber cX0_checkNumber 3 (some .int), Cond.fieldLink RX0 15 "BinderParcels$Binder" "size" "I", Cond.fieldLink RX0 9 "BinderParcels$Binder" "leaves" "[I", Cond.methodLink RX0 33 yX0_numberOf, Cond.static yX0_numberOf, Cond.code yX0_numberOf cX0_numberOf 1 (some .int), Cond.methodLink RX0 55 yX0_issueOf, Cond.static yX0_issueOf, Cond.code yX0_issueOf cX0_issueOf 1 (some .int), Cond.methodLink RX4 166 yX3_ownersWithRightBinders, Cond.instanceMethod yX3_ownersWithRightBinders, Cond.selects RX3 yX3_ownersWithRightBinders yX3_ownersWithRightBinders, Cond.initialized RX3, Cond.code yX3_ownersWithRightBinders cX3_ownersWithRightBinders 3 (some .int), Cond.fieldLink RX3 49 "BinderParcels$State" "owners" "I", Cond.fieldLink RX3 25 "BinderParcels$State" "binders" "[LBinderParcels$Binder;", Cond.fieldLink RX3 21 "BinderParcels$State" "text" "LBinderParcels$Binder;"]
def wsX4_count_r2 : List Cond := [Cond.methodLink RX3 79 yX0_isSameAs, Cond.instanceMethod yX0_isSameAs, Cond.selects RX0 yX0_isSameAs yX0_isSameAs, Cond.code yX0_isSameAs cX0_isSameAs 3 (some .boolean), Cond.methodLink RX4 169 yX0_leavesOf, Cond.instanceMethod yX0_leavesOf, Cond.selects RX0 yX0_leavesOf yX0_leavesOf, Cond.code yX0_leavesOf cX0_leavesOf 4 (some .int), Cond.methodLink RX4 172 yX3_parcelWithMostLeaves, Cond.instanceMethod yX3_parcelWithMostLeaves, Cond.selects RX3 yX3_parcelWithMostLeaves yX3_parcelWithMostLeaves, Cond.code yX3_parcelWithMostLeaves cX3_parcelWithMostLeaves 5 (some .int), Cond.fieldLink RX3 41 "BinderParcels$State" "parcels" "I", Cond.methodLink RX3 83 yX0_leavesOf]
def wsX4_count : List Cond := .code yX4_count cX4_count 2 (some .int) :: ((wsX4_count_r1 ++ wsX4_count_r2) ++ wsX40 ++ wsX30 ++ wsX00 ++ wsX20 ++ wsX10)
def wsX4_tried_r1 : List Cond := [Cond.fieldLink RX4 40 "BinderParcels" "trials" "[LBinderParcels$Binder;", Cond.fieldLink RX4 10 "BinderParcels" "now" "LBinderParcels$State;", Cond.methodLink RX4 187 yX0_copy, Cond.instanceMethod yX0_copy, Cond.selects RX0 yX0_copy yX0_copy, Cond.initialized RX0, Cond.code yX0_copy cX0_copy 2 none, Cond.fieldLink RX0 9 "BinderParcels$Binder" "leaves" "[I", Cond.fieldLink RX0 15 "BinderParcels$Binder" "size" "I", Cond.methodLink RX0 19 arraycopyName, Cond.native arraycopyName, Cond.static arraycopyName, Cond.initialized "java/lang/System", Cond.methodLink RX4 102 yX3_doSetWithCare, Cond.instanceMethod yX3_doSetWithCare, Cond.selects RX3 yX3_doSetWithCare yX3_doSetWithCare, Cond.initialized RX3, Cond.code yX3_doSetWithCare cX3_doSetWithCare 4 none, Cond.fieldLink RX3 41 "BinderParcels$State" "parcels" "I", Cond.methodLink RX3 61 yX3_doWithCare, Cond.instanceMethod yX3_doWithCare, Cond.selects RX3 yX3_doWithCare yX3_doWithCare, Cond.code yX3_doWithCare cX3_doWithCare 5 none, Cond.fieldLink RX3 15 "BinderParcels$State" "orderCounts" "[I"]
def wsX4_tried_r2 : List Cond := [Cond.methodLink RX3 65 yX3_order, Cond.instanceMethod yX3_order, Cond.selects RX3 yX3_order yX3_order, Cond.code yX3_order cX3_order 3 (some .int), Cond.fieldLink RX3 9 "BinderParcels$State" "orders" "[I", Cond.methodLink RX3 68 yX0_removeAll, Cond.instanceMethod yX0_removeAll, Cond.selects RX0 yX0_removeAll yX0_removeAll, Cond.code yX0_removeAll cX0_removeAll 3 none, Cond.methodLink RX0 36 yX0_start, Cond.instanceMethod yX0_start, Cond.selects RX0 yX0_start yX0_start, Cond.code yX0_start cX0_start 2 (some .int), Cond.methodLink RX0 25 yX0_leafWith, Cond.static yX0_leafWith, Cond.code yX0_leafWith cX0_leafWith 2 (some .int), Cond.methodLink RX0 29 yX0_placeOf, Cond.instanceMethod yX0_placeOf, Cond.selects RX0 yX0_placeOf yX0_placeOf, Cond.code yX0_placeOf cX0_placeOf 3 (some .int), Cond.methodLink RX0 39 yX0_end, Cond.instanceMethod yX0_end, Cond.selects RX0 yX0_end yX0_end, Cond.code yX0_end cX0_end 4 (some .int)]
def wsX4_tried_r3 : List Cond := [Cond.methodLink RX0 33 yX0_numberOf, Cond.static yX0_numberOf, Cond.code yX0_numberOf cX0_numberOf 1 (some .int), Cond.methodLink RX0 42 yX0_removeRange, Cond.instanceMethod yX0_removeRange, Cond.selects RX0 yX0_removeRange yX0_removeRange, Cond.code yX0_removeRange cX0_removeRange 3 none, Cond.methodLink RX3 72 yX0_insert, Cond.instanceMethod yX0_insert, Cond.selects RX0 yX0_insert yX0_insert, Cond.code yX0_insert cX0_insert 5 none]
def wsX4_tried : List Cond := .code yX4_tried cX4_tried 4 (some (.object "BinderParcels$Binder")) :: ((wsX4_tried_r1 ++ (wsX4_tried_r2 ++ wsX4_tried_r3)) ++ wsX40 ++ wsX30 ++ wsX00)
def wsX4_ifDone_r1 : List Cond := [Cond.fieldLink RX4 10 "BinderParcels" "now" "LBinderParcels$State;", Cond.methodLink RX4 74 yX3_hasOwner, Cond.instanceMethod yX3_hasOwner, Cond.selects RX3 yX3_hasOwner yX3_hasOwner, Cond.initialized RX3, Cond.code yX3_hasOwner cX3_hasOwner 2 (some .boolean), Cond.fieldLink RX3 49 "BinderParcels$State" "owners" "I", Cond.methodLink RX4 78 yX3_hasParcel, Cond.instanceMethod yX3_hasParcel, Cond.selects RX3 yX3_hasParcel yX3_hasParcel, Cond.code yX3_hasParcel cX3_hasParcel 2 (some .boolean), Cond.fieldLink RX3 41 "BinderParcels$State" "parcels" "I", Cond.methodLink RX4 179 yX4_tried, Cond.instanceMethod yX4_tried, Cond.selects RX4 yX4_tried yX4_tried, Cond.initialized RX4, Cond.code yX4_tried cX4_tried 4 (some (.object "BinderParcels$Binder")), Cond.fieldLink RX4 40 "BinderParcels" "trials" "[LBinderParcels$Binder;", Cond.methodLink RX4 187 yX0_copy, Cond.instanceMethod yX0_copy, Cond.selects RX0 yX0_copy yX0_copy, Cond.initialized RX0, Cond.code yX0_copy cX0_copy 2 none, Cond.fieldLink RX0 9 "BinderParcels$Binder" "leaves" "[I"]
def wsX4_ifDone_r2 : List Cond := [Cond.fieldLink RX0 15 "BinderParcels$Binder" "size" "I", Cond.methodLink RX0 19 arraycopyName, Cond.native arraycopyName, Cond.static arraycopyName, Cond.initialized "java/lang/System", Cond.methodLink RX4 102 yX3_doSetWithCare, Cond.instanceMethod yX3_doSetWithCare, Cond.selects RX3 yX3_doSetWithCare yX3_doSetWithCare, Cond.code yX3_doSetWithCare cX3_doSetWithCare 4 none, Cond.methodLink RX3 61 yX3_doWithCare, Cond.instanceMethod yX3_doWithCare, Cond.selects RX3 yX3_doWithCare yX3_doWithCare, Cond.code yX3_doWithCare cX3_doWithCare 5 none, Cond.fieldLink RX3 15 "BinderParcels$State" "orderCounts" "[I", Cond.methodLink RX3 65 yX3_order, Cond.instanceMethod yX3_order, Cond.selects RX3 yX3_order yX3_order, Cond.code yX3_order cX3_order 3 (some .int), Cond.fieldLink RX3 9 "BinderParcels$State" "orders" "[I", Cond.methodLink RX3 68 yX0_removeAll, Cond.instanceMethod yX0_removeAll, Cond.selects RX0 yX0_removeAll yX0_removeAll, Cond.code yX0_removeAll cX0_removeAll 3 none, Cond.methodLink RX0 36 yX0_start]
def wsX4_ifDone_r3 : List Cond := [Cond.instanceMethod yX0_start, Cond.selects RX0 yX0_start yX0_start, Cond.code yX0_start cX0_start 2 (some .int), Cond.methodLink RX0 25 yX0_leafWith, Cond.static yX0_leafWith, Cond.code yX0_leafWith cX0_leafWith 2 (some .int), Cond.methodLink RX0 29 yX0_placeOf, Cond.instanceMethod yX0_placeOf, Cond.selects RX0 yX0_placeOf yX0_placeOf, Cond.code yX0_placeOf cX0_placeOf 3 (some .int), Cond.methodLink RX0 39 yX0_end, Cond.instanceMethod yX0_end, Cond.selects RX0 yX0_end yX0_end, Cond.code yX0_end cX0_end 4 (some .int), Cond.methodLink RX0 33 yX0_numberOf, Cond.static yX0_numberOf, Cond.code yX0_numberOf cX0_numberOf 1 (some .int), Cond.methodLink RX0 42 yX0_removeRange, Cond.instanceMethod yX0_removeRange, Cond.selects RX0 yX0_removeRange yX0_removeRange, Cond.code yX0_removeRange cX0_removeRange 3 none, Cond.methodLink RX3 72 yX0_insert, Cond.instanceMethod yX0_insert, Cond.selects RX0 yX0_insert yX0_insert]
def wsX4_ifDone_r4 : List Cond := [Cond.code yX0_insert cX0_insert 5 none, Cond.methodLink RX4 183 yX0_wrong, Cond.instanceMethod yX0_wrong, Cond.selects RX0 yX0_wrong yX0_wrong, Cond.code yX0_wrong cX0_wrong 2 (some .int), Cond.methodLink RX0 68 yX0_differences, Cond.instanceMethod yX0_differences, Cond.selects RX0 yX0_differences yX0_differences, Cond.code yX0_differences cX0_differences 5 (some .int), Cond.methodLink RX0 64 yX0_difference, Cond.instanceMethod yX0_difference, Cond.selects RX0 yX0_difference yX0_difference, Cond.code yX0_difference cX0_difference 6 (some .int), Cond.methodLink RX0 58 yX0_held, Cond.instanceMethod yX0_held, Cond.selects RX0 yX0_held yX0_held, Cond.code yX0_held cX0_held 3 (some .int), Cond.methodLink RX0 61 yX0_earliestIssue, Cond.instanceMethod yX0_earliestIssue, Cond.selects RX0 yX0_earliestIssue yX0_earliestIssue, Cond.code yX0_earliestIssue cX0_earliestIssue 3 (some .int), Cond.methodLink RX0 55 yX0_issueOf, Cond.static yX0_issueOf, Cond.code yX0_issueOf cX0_issueOf 1 (some .int)]
def wsX4_ifDone_r5 : List Cond := [Cond.methodLink RX0 51 yX0_holds, Cond.instanceMethod yX0_holds, Cond.selects RX0 yX0_holds yX0_holds, Cond.code yX0_holds cX0_holds 5 (some .boolean)]
def wsX4_ifDone : List Cond := .code yX4_ifDone cX4_ifDone 3 (some .int) :: ((wsX4_ifDone_r1 ++ (wsX4_ifDone_r2 ++ (wsX4_ifDone_r3 ++ (wsX4_ifDone_r4 ++ wsX4_ifDone_r5)))) ++ wsX40 ++ wsX30 ++ wsX00)
def wsX4_ifAllDone_r1 : List Cond := [Cond.fieldLink RX4 10 "BinderParcels" "now" "LBinderParcels$State;", Cond.methodLink RX4 74 yX3_hasOwner, Cond.instanceMethod yX3_hasOwner, Cond.selects RX3 yX3_hasOwner yX3_hasOwner, Cond.initialized RX3, Cond.code yX3_hasOwner cX3_hasOwner 2 (some .boolean), Cond.fieldLink RX3 49 "BinderParcels$State" "owners" "I", Cond.methodLink RX4 179 yX4_tried, Cond.instanceMethod yX4_tried, Cond.selects RX4 yX4_tried yX4_tried, Cond.initialized RX4, Cond.code yX4_tried cX4_tried 4 (some (.object "BinderParcels$Binder")), Cond.fieldLink RX4 40 "BinderParcels" "trials" "[LBinderParcels$Binder;", Cond.methodLink RX4 187 yX0_copy, Cond.instanceMethod yX0_copy, Cond.selects RX0 yX0_copy yX0_copy, Cond.initialized RX0, Cond.code yX0_copy cX0_copy 2 none, Cond.fieldLink RX0 9 "BinderParcels$Binder" "leaves" "[I", Cond.fieldLink RX0 15 "BinderParcels$Binder" "size" "I", Cond.methodLink RX0 19 arraycopyName, Cond.native arraycopyName, Cond.static arraycopyName, Cond.initialized "java/lang/System"]
def wsX4_ifAllDone_r2 : List Cond := [Cond.methodLink RX4 102 yX3_doSetWithCare, Cond.instanceMethod yX3_doSetWithCare, Cond.selects RX3 yX3_doSetWithCare yX3_doSetWithCare, Cond.code yX3_doSetWithCare cX3_doSetWithCare 4 none, Cond.fieldLink RX3 41 "BinderParcels$State" "parcels" "I", Cond.methodLink RX3 61 yX3_doWithCare, Cond.instanceMethod yX3_doWithCare, Cond.selects RX3 yX3_doWithCare yX3_doWithCare, Cond.code yX3_doWithCare cX3_doWithCare 5 none, Cond.fieldLink RX3 15 "BinderParcels$State" "orderCounts" "[I", Cond.methodLink RX3 65 yX3_order, Cond.instanceMethod yX3_order, Cond.selects RX3 yX3_order yX3_order, Cond.code yX3_order cX3_order 3 (some .int), Cond.fieldLink RX3 9 "BinderParcels$State" "orders" "[I", Cond.methodLink RX3 68 yX0_removeAll, Cond.instanceMethod yX0_removeAll, Cond.selects RX0 yX0_removeAll yX0_removeAll, Cond.code yX0_removeAll cX0_removeAll 3 none, Cond.methodLink RX0 36 yX0_start, Cond.instanceMethod yX0_start, Cond.selects RX0 yX0_start yX0_start, Cond.code yX0_start cX0_start 2 (some .int), Cond.methodLink RX0 25 yX0_leafWith]
def wsX4_ifAllDone_r3 : List Cond := [Cond.static yX0_leafWith, Cond.code yX0_leafWith cX0_leafWith 2 (some .int), Cond.methodLink RX0 29 yX0_placeOf, Cond.instanceMethod yX0_placeOf, Cond.selects RX0 yX0_placeOf yX0_placeOf, Cond.code yX0_placeOf cX0_placeOf 3 (some .int), Cond.methodLink RX0 39 yX0_end, Cond.instanceMethod yX0_end, Cond.selects RX0 yX0_end yX0_end, Cond.code yX0_end cX0_end 4 (some .int), Cond.methodLink RX0 33 yX0_numberOf, Cond.static yX0_numberOf, Cond.code yX0_numberOf cX0_numberOf 1 (some .int), Cond.methodLink RX0 42 yX0_removeRange, Cond.instanceMethod yX0_removeRange, Cond.selects RX0 yX0_removeRange yX0_removeRange, Cond.code yX0_removeRange cX0_removeRange 3 none, Cond.methodLink RX3 72 yX0_insert, Cond.instanceMethod yX0_insert, Cond.selects RX0 yX0_insert yX0_insert, Cond.code yX0_insert cX0_insert 5 none, Cond.methodLink RX4 183 yX0_wrong, Cond.instanceMethod yX0_wrong, Cond.selects RX0 yX0_wrong yX0_wrong]
def wsX4_ifAllDone_r4 : List Cond := [Cond.code yX0_wrong cX0_wrong 2 (some .int), Cond.methodLink RX0 68 yX0_differences, Cond.instanceMethod yX0_differences, Cond.selects RX0 yX0_differences yX0_differences, Cond.code yX0_differences cX0_differences 5 (some .int), Cond.methodLink RX0 64 yX0_difference, Cond.instanceMethod yX0_difference, Cond.selects RX0 yX0_difference yX0_difference, Cond.code yX0_difference cX0_difference 6 (some .int), Cond.methodLink RX0 58 yX0_held, Cond.instanceMethod yX0_held, Cond.selects RX0 yX0_held yX0_held, Cond.code yX0_held cX0_held 3 (some .int), Cond.methodLink RX0 61 yX0_earliestIssue, Cond.instanceMethod yX0_earliestIssue, Cond.selects RX0 yX0_earliestIssue yX0_earliestIssue, Cond.code yX0_earliestIssue cX0_earliestIssue 3 (some .int), Cond.methodLink RX0 55 yX0_issueOf, Cond.static yX0_issueOf, Cond.code yX0_issueOf cX0_issueOf 1 (some .int), Cond.methodLink RX0 51 yX0_holds, Cond.instanceMethod yX0_holds, Cond.selects RX0 yX0_holds yX0_holds, Cond.code yX0_holds cX0_holds 5 (some .boolean)]
def wsX4_ifAllDone : List Cond := .code yX4_ifAllDone cX4_ifAllDone 2 (some .int) :: ((wsX4_ifAllDone_r1 ++ (wsX4_ifAllDone_r2 ++ (wsX4_ifAllDone_r3 ++ wsX4_ifAllDone_r4))) ++ wsX40 ++ wsX30 ++ wsX00)
def wsX4_lowestMending_r1 : List Cond := [Cond.methodLink RX4 211 Lib.Math.min.name, Cond.static Lib.Math.min.name, Cond.initialized "java/lang/Math", Cond.code Lib.Math.min.name Lib.Math.min.code 2 (some .int), Cond.methodLink RX4 159 yX0_isSameAs, Cond.instanceMethod yX0_isSameAs, Cond.selects RX0 yX0_isSameAs yX0_isSameAs, Cond.initialized RX0, Cond.code yX0_isSameAs cX0_isSameAs 3 (some .boolean), Cond.fieldLink RX0 15 "BinderParcels$Binder" "size" "I", Cond.fieldLink RX0 9 "BinderParcels$Binder" "leaves" "[I", Cond.methodLink RX4 187 yX0_copy, Cond.instanceMethod yX0_copy, Cond.selects RX0 yX0_copy yX0_copy, Cond.code yX0_copy cX0_copy 2 none, Cond.methodLink RX0 19 arraycopyName, Cond.native arraycopyName, Cond.static arraycopyName, Cond.initialized "java/lang/System", Cond.methodLink RX4 92 yX3_doWithCare, Cond.instanceMethod yX3_doWithCare, Cond.selects RX3 yX3_doWithCare yX3_doWithCare, Cond.initialized RX3, Cond.code yX3_doWithCare cX3_doWithCare 5 none]
def wsX4_lowestMending_r2 : List Cond := [Cond.fieldLink RX3 15 "BinderParcels$State" "orderCounts" "[I", Cond.methodLink RX3 65 yX3_order, Cond.instanceMethod yX3_order, Cond.selects RX3 yX3_order yX3_order, Cond.code yX3_order cX3_order 3 (some .int), Cond.fieldLink RX3 9 "BinderParcels$State" "orders" "[I", Cond.methodLink RX3 68 yX0_removeAll, Cond.instanceMethod yX0_removeAll, Cond.selects RX0 yX0_removeAll yX0_removeAll, Cond.code yX0_removeAll cX0_removeAll 3 none, Cond.methodLink RX0 36 yX0_start, Cond.instanceMethod yX0_start, Cond.selects RX0 yX0_start yX0_start, Cond.code yX0_start cX0_start 2 (some .int), Cond.methodLink RX0 25 yX0_leafWith, Cond.static yX0_leafWith, Cond.code yX0_leafWith cX0_leafWith 2 (some .int), Cond.methodLink RX0 29 yX0_placeOf, Cond.instanceMethod yX0_placeOf, Cond.selects RX0 yX0_placeOf yX0_placeOf, Cond.code yX0_placeOf cX0_placeOf 3 (some .int), Cond.methodLink RX0 39 yX0_end, Cond.instanceMethod yX0_end, Cond.selects RX0 yX0_end yX0_end]
def wsX4_lowestMending_r3 : List Cond := [Cond.code yX0_end cX0_end 4 (some .int), Cond.methodLink RX0 33 yX0_numberOf, Cond.static yX0_numberOf, Cond.code yX0_numberOf cX0_numberOf 1 (some .int), Cond.methodLink RX0 42 yX0_removeRange, Cond.instanceMethod yX0_removeRange, Cond.selects RX0 yX0_removeRange yX0_removeRange, Cond.code yX0_removeRange cX0_removeRange 3 none, Cond.methodLink RX3 72 yX0_insert, Cond.instanceMethod yX0_insert, Cond.selects RX0 yX0_insert yX0_insert, Cond.code yX0_insert cX0_insert 5 none, Cond.methodLink RX4 191 yX4_lowestMending, Cond.static yX4_lowestMending, Cond.initialized RX4]
def wsX4_lowestMending : List Cond := .code yX4_lowestMending cX4_lowestMending 9 (some .int) :: ((wsX4_lowestMending_r1 ++ (wsX4_lowestMending_r2 ++ wsX4_lowestMending_r3)) ++ wsX30 ++ wsX00)
def wsX4_mending_r1 : List Cond := [Cond.fieldLink RX4 10 "BinderParcels" "now" "LBinderParcels$State;", Cond.fieldLink RX4 40 "BinderParcels" "trials" "[LBinderParcels$Binder;", Cond.methodLink RX4 74 yX3_hasOwner, Cond.instanceMethod yX3_hasOwner, Cond.selects RX3 yX3_hasOwner yX3_hasOwner, Cond.initialized RX3, Cond.code yX3_hasOwner cX3_hasOwner 2 (some .boolean), Cond.fieldLink RX3 49 "BinderParcels$State" "owners" "I", Cond.methodLink RX4 187 yX0_copy, Cond.instanceMethod yX0_copy, Cond.selects RX0 yX0_copy yX0_copy, Cond.initialized RX0, Cond.code yX0_copy cX0_copy 2 none, Cond.fieldLink RX0 9 "BinderParcels$Binder" "leaves" "[I", Cond.fieldLink RX0 15 "BinderParcels$Binder" "size" "I", Cond.methodLink RX0 19 arraycopyName, Cond.native arraycopyName, Cond.static arraycopyName, Cond.initialized "java/lang/System", Cond.methodLink RX4 191 yX4_lowestMending, Cond.static yX4_lowestMending, Cond.initialized RX4, Cond.code yX4_lowestMending cX4_lowestMending 9 (some .int), Cond.methodLink RX4 211 Lib.Math.min.name]
def wsX4_mending_r2 : List Cond := [Cond.static Lib.Math.min.name, Cond.initialized "java/lang/Math", Cond.code Lib.Math.min.name Lib.Math.min.code 2 (some .int), Cond.methodLink RX4 159 yX0_isSameAs, Cond.instanceMethod yX0_isSameAs, Cond.selects RX0 yX0_isSameAs yX0_isSameAs, Cond.code yX0_isSameAs cX0_isSameAs 3 (some .boolean), Cond.methodLink RX4 92 yX3_doWithCare, Cond.instanceMethod yX3_doWithCare, Cond.selects RX3 yX3_doWithCare yX3_doWithCare, Cond.code yX3_doWithCare cX3_doWithCare 5 none, Cond.fieldLink RX3 15 "BinderParcels$State" "orderCounts" "[I", Cond.methodLink RX3 65 yX3_order, Cond.instanceMethod yX3_order, Cond.selects RX3 yX3_order yX3_order, Cond.code yX3_order cX3_order 3 (some .int), Cond.fieldLink RX3 9 "BinderParcels$State" "orders" "[I", Cond.methodLink RX3 68 yX0_removeAll, Cond.instanceMethod yX0_removeAll, Cond.selects RX0 yX0_removeAll yX0_removeAll, Cond.code yX0_removeAll cX0_removeAll 3 none, Cond.methodLink RX0 36 yX0_start, Cond.instanceMethod yX0_start, Cond.selects RX0 yX0_start yX0_start]
def wsX4_mending_r3 : List Cond := [Cond.code yX0_start cX0_start 2 (some .int), Cond.methodLink RX0 25 yX0_leafWith, Cond.static yX0_leafWith, Cond.code yX0_leafWith cX0_leafWith 2 (some .int), Cond.methodLink RX0 29 yX0_placeOf, Cond.instanceMethod yX0_placeOf, Cond.selects RX0 yX0_placeOf yX0_placeOf, Cond.code yX0_placeOf cX0_placeOf 3 (some .int), Cond.methodLink RX0 39 yX0_end, Cond.instanceMethod yX0_end, Cond.selects RX0 yX0_end yX0_end, Cond.code yX0_end cX0_end 4 (some .int), Cond.methodLink RX0 33 yX0_numberOf, Cond.static yX0_numberOf, Cond.code yX0_numberOf cX0_numberOf 1 (some .int), Cond.methodLink RX0 42 yX0_removeRange, Cond.instanceMethod yX0_removeRange, Cond.selects RX0 yX0_removeRange yX0_removeRange, Cond.code yX0_removeRange cX0_removeRange 3 none, Cond.methodLink RX3 72 yX0_insert, Cond.instanceMethod yX0_insert, Cond.selects RX0 yX0_insert yX0_insert, Cond.code yX0_insert cX0_insert 5 none]
def wsX4_mending : List Cond := .code yX4_mending cX4_mending 4 (some .int) :: ((wsX4_mending_r1 ++ (wsX4_mending_r2 ++ wsX4_mending_r3)) ++ wsX40 ++ wsX30 ++ wsX00)
def wsX4_rightFrom_r1 : List Cond := [Cond.fieldLink RX4 10 "BinderParcels" "now" "LBinderParcels$State;", Cond.methodLink RX4 74 yX3_hasOwner, Cond.instanceMethod yX3_hasOwner, Cond.selects RX3 yX3_hasOwner yX3_hasOwner, Cond.initialized RX3, Cond.code yX3_hasOwner cX3_hasOwner 2 (some .boolean), Cond.fieldLink RX3 49 "BinderParcels$State" "owners" "I", Cond.methodLink RX4 179 yX4_tried, Cond.instanceMethod yX4_tried, Cond.selects RX4 yX4_tried yX4_tried, Cond.initialized RX4, Cond.code yX4_tried cX4_tried 4 (some (.object "BinderParcels$Binder")), Cond.fieldLink RX4 40 "BinderParcels" "trials" "[LBinderParcels$Binder;", Cond.methodLink RX4 187 yX0_copy, Cond.instanceMethod yX0_copy, Cond.selects RX0 yX0_copy yX0_copy, Cond.initialized RX0, Cond.code yX0_copy cX0_copy 2 none, Cond.fieldLink RX0 9 "BinderParcels$Binder" "leaves" "[I", Cond.fieldLink RX0 15 "BinderParcels$Binder" "size" "I", Cond.methodLink RX0 19 arraycopyName, Cond.native arraycopyName, Cond.static arraycopyName, Cond.initialized "java/lang/System"]
def wsX4_rightFrom_r2 : List Cond := [Cond.methodLink RX4 102 yX3_doSetWithCare, Cond.instanceMethod yX3_doSetWithCare, Cond.selects RX3 yX3_doSetWithCare yX3_doSetWithCare, Cond.code yX3_doSetWithCare cX3_doSetWithCare 4 none, Cond.fieldLink RX3 41 "BinderParcels$State" "parcels" "I", Cond.methodLink RX3 61 yX3_doWithCare, Cond.instanceMethod yX3_doWithCare, Cond.selects RX3 yX3_doWithCare yX3_doWithCare, Cond.code yX3_doWithCare cX3_doWithCare 5 none, Cond.fieldLink RX3 15 "BinderParcels$State" "orderCounts" "[I", Cond.methodLink RX3 65 yX3_order, Cond.instanceMethod yX3_order, Cond.selects RX3 yX3_order yX3_order, Cond.code yX3_order cX3_order 3 (some .int), Cond.fieldLink RX3 9 "BinderParcels$State" "orders" "[I", Cond.methodLink RX3 68 yX0_removeAll, Cond.instanceMethod yX0_removeAll, Cond.selects RX0 yX0_removeAll yX0_removeAll, Cond.code yX0_removeAll cX0_removeAll 3 none, Cond.methodLink RX0 36 yX0_start, Cond.instanceMethod yX0_start, Cond.selects RX0 yX0_start yX0_start, Cond.code yX0_start cX0_start 2 (some .int), Cond.methodLink RX0 25 yX0_leafWith]
def wsX4_rightFrom_r3 : List Cond := [Cond.static yX0_leafWith, Cond.code yX0_leafWith cX0_leafWith 2 (some .int), Cond.methodLink RX0 29 yX0_placeOf, Cond.instanceMethod yX0_placeOf, Cond.selects RX0 yX0_placeOf yX0_placeOf, Cond.code yX0_placeOf cX0_placeOf 3 (some .int), Cond.methodLink RX0 39 yX0_end, Cond.instanceMethod yX0_end, Cond.selects RX0 yX0_end yX0_end, Cond.code yX0_end cX0_end 4 (some .int), Cond.methodLink RX0 33 yX0_numberOf, Cond.static yX0_numberOf, Cond.code yX0_numberOf cX0_numberOf 1 (some .int), Cond.methodLink RX0 42 yX0_removeRange, Cond.instanceMethod yX0_removeRange, Cond.selects RX0 yX0_removeRange yX0_removeRange, Cond.code yX0_removeRange cX0_removeRange 3 none, Cond.methodLink RX3 72 yX0_insert, Cond.instanceMethod yX0_insert, Cond.selects RX0 yX0_insert yX0_insert, Cond.code yX0_insert cX0_insert 5 none, Cond.methodLink RX4 159 yX0_isSameAs, Cond.instanceMethod yX0_isSameAs, Cond.selects RX0 yX0_isSameAs yX0_isSameAs]
def wsX4_rightFrom_r4 : List Cond := [Cond.code yX0_isSameAs cX0_isSameAs 3 (some .boolean)]
def wsX4_rightFrom : List Cond := .code yX4_rightFrom cX4_rightFrom 4 (some .int) :: ((wsX4_rightFrom_r1 ++ (wsX4_rightFrom_r2 ++ (wsX4_rightFrom_r3 ++ wsX4_rightFrom_r4))) ++ wsX40 ++ wsX30 ++ wsX00)
def wsX4_put : List Cond := .code yX4_put cX4_put 4 (some .int) :: ([.fieldLink RX4 34 "BinderParcels" "pad" "LBinderParcels$Pad;", .methodLink RX4 195 yX2_charactersIn, .static yX2_charactersIn, .initialized RX2, .code yX2_charactersIn cX2_charactersIn 7 (some .int), .constantLong RX2 15 (255), .constantLong RX2 17 (33), .constantLong RX2 19 (126), .methodLink RX4 199 yX2_append, .instanceMethod yX2_append, .selects RX2 yX2_append yX2_append, .code yX2_append cX2_append 7 none, .fieldLink RX2 21 "BinderParcels$Pad" "length" "I", .fieldLink RX2 11 "BinderParcels$Pad" "characters" "[C"] ++ wsX40 ++ wsX20)
def wsX4_wipe : List Cond := .code yX4_wipe cX4_wipe 2 (some .int) :: ([.fieldLink RX4 34 "BinderParcels" "pad" "LBinderParcels$Pad;", .methodLink RX4 65 yX2_empty, .instanceMethod yX2_empty, .selects RX2 yX2_empty yX2_empty, .initialized RX2, .code yX2_empty cX2_empty 1 none, .fieldLink RX2 21 "BinderParcels$Pad" "length" "I"] ++ wsX40 ++ wsX20)
def wsX4_fault : List Cond := .code yX4_fault cX4_fault 1 (some .int) :: ([.fieldLink RX4 34 "BinderParcels" "pad" "LBinderParcels$Pad;", .methodLink RX4 45 yX2_firstFault, .instanceMethod yX2_firstFault, .selects RX2 yX2_firstFault yX2_firstFault, .initialized RX2, .code yX2_firstFault cX2_firstFault 2 (some .int), .fieldLink RX2 21 "BinderParcels$Pad" "length" "I", .fieldLink RX2 11 "BinderParcels$Pad" "characters" "[C", .methodLink RX2 25 yX2_canStand, .static yX2_canStand, .code yX2_canStand cX2_canStand 2 (some .boolean)] ++ wsX40 ++ wsX20)
def wsX4_undo_r1 : List Cond := [Cond.fieldLink RX4 19 "BinderParcels" "history" "LBinderParcels$History;", Cond.fieldLink RX4 10 "BinderParcels" "now" "LBinderParcels$State;", Cond.methodLink RX4 203 yX1_takeBack, Cond.instanceMethod yX1_takeBack, Cond.selects RX1 yX1_takeBack yX1_takeBack, Cond.initialized RX1, Cond.code yX1_takeBack cX1_takeBack 2 none, Cond.fieldLink RX1 22 "BinderParcels$History" "size" "I", Cond.fieldLink RX1 11 "BinderParcels$History" "states" "[LBinderParcels$State;", Cond.fieldLink RX1 18 "BinderParcels$History" "oldest" "I", Cond.methodLink RX1 25 yX3_copy, Cond.instanceMethod yX3_copy, Cond.selects RX3 yX3_copy yX3_copy, Cond.initialized RX3, Cond.code yX3_copy cX3_copy 3 none, Cond.fieldLink RX3 9 "BinderParcels$State" "orders" "[I", Cond.methodLink RX3 35 arraycopyName, Cond.native arraycopyName, Cond.static arraycopyName, Cond.initialized "java/lang/System", Cond.fieldLink RX3 15 "BinderParcels$State" "orderCounts" "[I", Cond.fieldLink RX3 41 "BinderParcels$State" "parcels" "I", Cond.fieldLink RX3 21 "BinderParcels$State" "text" "LBinderParcels$Binder;", Cond.fieldLink RX3 25 "BinderParcels$State" "binders" "[LBinderParcels$Binder;"]
def wsX4_undo_r2 : List Cond := [Cond.fieldLink RX3 29 "BinderParcels$State" "waiting" "[I", Cond.fieldLink RX3 32 "BinderParcels$State" "lost" "[I", Cond.fieldLink RX3 49 "BinderParcels$State" "owners" "I", Cond.methodLink RX3 45 yX0_copy, Cond.instanceMethod yX0_copy, Cond.selects RX0 yX0_copy yX0_copy, Cond.initialized RX0, Cond.code yX0_copy cX0_copy 2 none, Cond.fieldLink RX0 9 "BinderParcels$Binder" "leaves" "[I", Cond.fieldLink RX0 15 "BinderParcels$Binder" "size" "I", Cond.methodLink RX0 19 arraycopyName]
def wsX4_undo : List Cond := .code yX4_undo cX4_undo 1 (some .int) :: ((wsX4_undo_r1 ++ wsX4_undo_r2) ++ wsX40 ++ wsX10 ++ wsX30 ++ wsX00)
def wsX4_isSlot : List Cond := .code yX4_isSlot cX4_isSlot 1 (some .boolean) :: ([])
def wsX4_save_r1 : List Cond := [Cond.fieldLink RX4 23 "BinderParcels" "slots" "[LBinderParcels$State;", Cond.fieldLink RX4 10 "BinderParcels" "now" "LBinderParcels$State;", Cond.fieldLink RX4 27 "BinderParcels" "isSaved" "[Z", Cond.methodLink RX4 206 yX4_isSlot, Cond.static yX4_isSlot, Cond.initialized RX4, Cond.code yX4_isSlot cX4_isSlot 1 (some .boolean), Cond.methodLink RX4 209 yX3_copy, Cond.instanceMethod yX3_copy, Cond.selects RX3 yX3_copy yX3_copy, Cond.initialized RX3, Cond.code yX3_copy cX3_copy 3 none, Cond.fieldLink RX3 9 "BinderParcels$State" "orders" "[I", Cond.methodLink RX3 35 arraycopyName, Cond.native arraycopyName, Cond.static arraycopyName, Cond.initialized "java/lang/System", Cond.fieldLink RX3 15 "BinderParcels$State" "orderCounts" "[I", Cond.fieldLink RX3 41 "BinderParcels$State" "parcels" "I", Cond.fieldLink RX3 21 "BinderParcels$State" "text" "LBinderParcels$Binder;", Cond.fieldLink RX3 25 "BinderParcels$State" "binders" "[LBinderParcels$Binder;", Cond.fieldLink RX3 29 "BinderParcels$State" "waiting" "[I", Cond.fieldLink RX3 32 "BinderParcels$State" "lost" "[I", Cond.fieldLink RX3 49 "BinderParcels$State" "owners" "I"]
def wsX4_save_r2 : List Cond := [Cond.methodLink RX3 45 yX0_copy, Cond.instanceMethod yX0_copy, Cond.selects RX0 yX0_copy yX0_copy, Cond.initialized RX0, Cond.code yX0_copy cX0_copy 2 none, Cond.fieldLink RX0 9 "BinderParcels$Binder" "leaves" "[I", Cond.fieldLink RX0 15 "BinderParcels$Binder" "size" "I", Cond.methodLink RX0 19 arraycopyName]
def wsX4_save : List Cond := .code yX4_save cX4_save 2 (some .int) :: ((wsX4_save_r1 ++ wsX4_save_r2) ++ wsX40 ++ wsX30 ++ wsX00)
def wsX4_restore_r1 : List Cond := [Cond.fieldLink RX4 27 "BinderParcels" "isSaved" "[Z", Cond.fieldLink RX4 19 "BinderParcels" "history" "LBinderParcels$History;", Cond.fieldLink RX4 10 "BinderParcels" "now" "LBinderParcels$State;", Cond.fieldLink RX4 23 "BinderParcels" "slots" "[LBinderParcels$State;", Cond.methodLink RX4 206 yX4_isSlot, Cond.static yX4_isSlot, Cond.initialized RX4, Cond.code yX4_isSlot cX4_isSlot 1 (some .boolean), Cond.methodLink RX4 57 yX1_record, Cond.instanceMethod yX1_record, Cond.selects RX1 yX1_record yX1_record, Cond.initialized RX1, Cond.code yX1_record cX1_record 2 none, Cond.fieldLink RX1 11 "BinderParcels$History" "states" "[LBinderParcels$State;", Cond.fieldLink RX1 18 "BinderParcels$History" "oldest" "I", Cond.fieldLink RX1 22 "BinderParcels$History" "size" "I", Cond.methodLink RX1 25 yX3_copy, Cond.instanceMethod yX3_copy, Cond.selects RX3 yX3_copy yX3_copy, Cond.initialized RX3, Cond.code yX3_copy cX3_copy 3 none, Cond.fieldLink RX3 9 "BinderParcels$State" "orders" "[I", Cond.methodLink RX3 35 arraycopyName, Cond.native arraycopyName]
def wsX4_restore_r2 : List Cond := [Cond.static arraycopyName, Cond.initialized "java/lang/System", Cond.fieldLink RX3 15 "BinderParcels$State" "orderCounts" "[I", Cond.fieldLink RX3 41 "BinderParcels$State" "parcels" "I", Cond.fieldLink RX3 21 "BinderParcels$State" "text" "LBinderParcels$Binder;", Cond.fieldLink RX3 25 "BinderParcels$State" "binders" "[LBinderParcels$Binder;", Cond.fieldLink RX3 29 "BinderParcels$State" "waiting" "[I", Cond.fieldLink RX3 32 "BinderParcels$State" "lost" "[I", Cond.fieldLink RX3 49 "BinderParcels$State" "owners" "I", Cond.methodLink RX3 45 yX0_copy, Cond.instanceMethod yX0_copy, Cond.selects RX0 yX0_copy yX0_copy, Cond.initialized RX0, Cond.code yX0_copy cX0_copy 2 none, Cond.fieldLink RX0 9 "BinderParcels$Binder" "leaves" "[I", Cond.fieldLink RX0 15 "BinderParcels$Binder" "size" "I", Cond.methodLink RX0 19 arraycopyName, Cond.methodLink RX4 209 yX3_copy]
def wsX4_restore : List Cond := .code yX4_restore cX4_restore 2 (some .int) :: ((wsX4_restore_r1 ++ wsX4_restore_r2) ++ wsX40 ++ wsX30 ++ wsX10 ++ wsX00)
def wsX5_init : List Cond := .code yX5_init cX5_init 1 none :: ([.methodLink RX5 1 objectInit, .instanceMethod objectInit, .code objectInit ⟨#[0xb1]⟩ 1 none, .arrayClass .int, .fieldLink RX5 7 "BinderParcelsModel" "state" "[I", .fieldLink RX5 13 "BinderParcelsModel" "kept" "[I", .fieldLink RX5 16 "BinderParcelsModel" "history" "[I", .fieldLink RX5 19 "BinderParcelsModel" "slots" "[I", .fieldLink RX5 22 "BinderParcelsModel" "isSaved" "[I", .fieldLink RX5 25 "BinderParcelsModel" "pad" "[I", .fieldLink RX5 28 "BinderParcelsModel" "orders" "[I", .fieldLink RX5 31 "BinderParcelsModel" "leaves" "[I", .fieldLink RX5 34 "BinderParcelsModel" "rightOnes" "[I", .fieldLink RX5 37 "BinderParcelsModel" "issues" "[I"] ++ wsX50)
def wsX5_moves : List Cond := .code yX5_moves cX5_moves 5 none :: ([])
def wsX5_within : List Cond := .code yX5_within cX5_within 3 (some .boolean) :: ([])
def wsX5_record : List Cond := .code yX5_record cX5_record 2 none :: ([.fieldLink RX5 40 "BinderParcelsModel" "recorded" "I", .fieldLink RX5 16 "BinderParcelsModel" "history" "[I", .fieldLink RX5 7 "BinderParcelsModel" "state" "[I", .methodLink RX5 44 yX5_moves, .static yX5_moves, .initialized RX5, .code yX5_moves cX5_moves 5 none] ++ wsX50)
def wsX5_isOwner : List Cond := .code yX5_isOwner cX5_isOwner 2 (some .boolean) :: ([.fieldLink RX5 7 "BinderParcelsModel" "state" "[I", .methodLink RX5 48 yX5_within, .static yX5_within, .initialized RX5, .code yX5_within cX5_within 3 (some .boolean)] ++ wsX50)
def wsX5_isParcel : List Cond := .code yX5_isParcel cX5_isParcel 2 (some .boolean) :: ([.fieldLink RX5 7 "BinderParcelsModel" "state" "[I", .methodLink RX5 48 yX5_within, .static yX5_within, .initialized RX5, .code yX5_within cX5_within 3 (some .boolean)] ++ wsX50)
def wsX5_part : List Cond := .code yX5_part cX5_part 3 (some .int) :: ([.fieldLink RX5 7 "BinderParcelsModel" "state" "[I"] ++ wsX50)
def wsX5_setPart : List Cond := .code yX5_setPart cX5_setPart 4 none :: ([.fieldLink RX5 7 "BinderParcelsModel" "state" "[I"] ++ wsX50)
def wsX5_numberOf : List Cond := .code yX5_numberOf cX5_numberOf 3 (some .int) :: ([.methodLink RX5 52 yX5_part, .instanceMethod yX5_part, .selects RX5 yX5_part yX5_part, .initialized RX5, .code yX5_part cX5_part 3 (some .int), .fieldLink RX5 7 "BinderParcelsModel" "state" "[I"] ++ wsX50)
def wsX5_issueOf : List Cond := .code yX5_issueOf cX5_issueOf 3 (some .int) :: ([.methodLink RX5 52 yX5_part, .instanceMethod yX5_part, .selects RX5 yX5_part yX5_part, .initialized RX5, .code yX5_part cX5_part 3 (some .int), .fieldLink RX5 7 "BinderParcelsModel" "state" "[I"] ++ wsX50)
def wsX5_orderOf : List Cond := .code yX5_orderOf cX5_orderOf 3 (some .int) :: ([.fieldLink RX5 7 "BinderParcelsModel" "state" "[I"] ++ wsX50)
def wsX5_bits : List Cond := .code yX5_bits cX5_bits 3 (some .int) :: ([])
def wsX5_remove : List Cond := .code yX5_remove cX5_remove 4 none :: ([.methodLink RX5 52 yX5_part, .instanceMethod yX5_part, .selects RX5 yX5_part yX5_part, .initialized RX5, .code yX5_part cX5_part 3 (some .int), .fieldLink RX5 7 "BinderParcelsModel" "state" "[I", .methodLink RX5 56 yX5_setPart, .instanceMethod yX5_setPart, .selects RX5 yX5_setPart yX5_setPart, .code yX5_setPart cX5_setPart 4 none] ++ wsX50)
def wsX5_comes : List Cond := .code yX5_comes cX5_comes 4 none :: ([.methodLink RX5 52 yX5_part, .instanceMethod yX5_part, .selects RX5 yX5_part yX5_part, .initialized RX5, .code yX5_part cX5_part 3 (some .int), .fieldLink RX5 7 "BinderParcelsModel" "state" "[I", .methodLink RX5 56 yX5_setPart, .instanceMethod yX5_setPart, .selects RX5 yX5_setPart yX5_setPart, .code yX5_setPart cX5_setPart 4 none] ++ wsX50)
def wsX5_removeAll : List Cond := .code yX5_removeAll cX5_removeAll 4 none :: ([.methodLink RX5 52 yX5_part, .instanceMethod yX5_part, .selects RX5 yX5_part yX5_part, .initialized RX5, .code yX5_part cX5_part 3 (some .int), .fieldLink RX5 7 "BinderParcelsModel" "state" "[I", .methodLink RX5 60 yX5_numberOf, .instanceMethod yX5_numberOf, .selects RX5 yX5_numberOf yX5_numberOf, .code yX5_numberOf cX5_numberOf 3 (some .int), .methodLink RX5 63 yX5_remove, .instanceMethod yX5_remove, .selects RX5 yX5_remove yX5_remove, .code yX5_remove cX5_remove 4 none, .methodLink RX5 56 yX5_setPart, .instanceMethod yX5_setPart, .selects RX5 yX5_setPart yX5_setPart, .code yX5_setPart cX5_setPart 4 none] ++ wsX50)
def wsX5_earliest : List Cond := .code yX5_earliest cX5_earliest 5 (some .int) :: ([.methodLink RX5 52 yX5_part, .instanceMethod yX5_part, .selects RX5 yX5_part yX5_part, .initialized RX5, .code yX5_part cX5_part 3 (some .int), .fieldLink RX5 7 "BinderParcelsModel" "state" "[I", .methodLink RX5 60 yX5_numberOf, .instanceMethod yX5_numberOf, .selects RX5 yX5_numberOf yX5_numberOf, .code yX5_numberOf cX5_numberOf 3 (some .int), .methodLink RX5 67 yX5_issueOf, .instanceMethod yX5_issueOf, .selects RX5 yX5_issueOf yX5_issueOf, .code yX5_issueOf cX5_issueOf 3 (some .int)] ++ wsX50)
def wsX5_doParcel_r1 : List Cond := [Cond.fieldLink RX5 7 "BinderParcelsModel" "state" "[I", Cond.methodLink RX5 70 yX5_orderOf, Cond.instanceMethod yX5_orderOf, Cond.selects RX5 yX5_orderOf yX5_orderOf, Cond.initialized RX5, Cond.code yX5_orderOf cX5_orderOf 3 (some .int), Cond.methodLink RX5 73 yX5_earliest, Cond.instanceMethod yX5_earliest, Cond.selects RX5 yX5_earliest yX5_earliest, Cond.code yX5_earliest cX5_earliest 5 (some .int), Cond.methodLink RX5 52 yX5_part, Cond.instanceMethod yX5_part, Cond.selects RX5 yX5_part yX5_part, Cond.code yX5_part cX5_part 3 (some .int), Cond.methodLink RX5 60 yX5_numberOf, Cond.instanceMethod yX5_numberOf, Cond.selects RX5 yX5_numberOf yX5_numberOf, Cond.code yX5_numberOf cX5_numberOf 3 (some .int), Cond.methodLink RX5 67 yX5_issueOf, Cond.instanceMethod yX5_issueOf, Cond.selects RX5 yX5_issueOf yX5_issueOf, Cond.code yX5_issueOf cX5_issueOf 3 (some .int), Cond.methodLink RX5 76 yX5_removeAll, Cond.instanceMethod yX5_removeAll]
def wsX5_doParcel_r2 : List Cond := [Cond.selects RX5 yX5_removeAll yX5_removeAll, Cond.code yX5_removeAll cX5_removeAll 4 none, Cond.methodLink RX5 63 yX5_remove, Cond.instanceMethod yX5_remove, Cond.selects RX5 yX5_remove yX5_remove, Cond.code yX5_remove cX5_remove 4 none, Cond.methodLink RX5 56 yX5_setPart, Cond.instanceMethod yX5_setPart, Cond.selects RX5 yX5_setPart yX5_setPart, Cond.code yX5_setPart cX5_setPart 4 none, Cond.methodLink RX5 79 yX5_comes, Cond.instanceMethod yX5_comes, Cond.selects RX5 yX5_comes yX5_comes, Cond.code yX5_comes cX5_comes 4 none]
def wsX5_doParcel : List Cond := .code yX5_doParcel cX5_doParcel 8 none :: ((wsX5_doParcel_r1 ++ wsX5_doParcel_r2) ++ wsX50)
def wsX5_doSet_r1 : List Cond := [Cond.fieldLink RX5 7 "BinderParcelsModel" "state" "[I", Cond.methodLink RX5 82 yX5_doParcel, Cond.instanceMethod yX5_doParcel, Cond.selects RX5 yX5_doParcel yX5_doParcel, Cond.initialized RX5, Cond.code yX5_doParcel cX5_doParcel 8 none, Cond.methodLink RX5 70 yX5_orderOf, Cond.instanceMethod yX5_orderOf, Cond.selects RX5 yX5_orderOf yX5_orderOf, Cond.code yX5_orderOf cX5_orderOf 3 (some .int), Cond.methodLink RX5 73 yX5_earliest, Cond.instanceMethod yX5_earliest, Cond.selects RX5 yX5_earliest yX5_earliest, Cond.code yX5_earliest cX5_earliest 5 (some .int), Cond.methodLink RX5 52 yX5_part, Cond.instanceMethod yX5_part, Cond.selects RX5 yX5_part yX5_part, Cond.code yX5_part cX5_part 3 (some .int), Cond.methodLink RX5 60 yX5_numberOf, Cond.instanceMethod yX5_numberOf, Cond.selects RX5 yX5_numberOf yX5_numberOf, Cond.code yX5_numberOf cX5_numberOf 3 (some .int), Cond.methodLink RX5 67 yX5_issueOf, Cond.instanceMethod yX5_issueOf]
def wsX5_doSet_r2 : List Cond := [Cond.selects RX5 yX5_issueOf yX5_issueOf, Cond.code yX5_issueOf cX5_issueOf 3 (some .int), Cond.methodLink RX5 76 yX5_removeAll, Cond.instanceMethod yX5_removeAll, Cond.selects RX5 yX5_removeAll yX5_removeAll, Cond.code yX5_removeAll cX5_removeAll 4 none, Cond.methodLink RX5 63 yX5_remove, Cond.instanceMethod yX5_remove, Cond.selects RX5 yX5_remove yX5_remove, Cond.code yX5_remove cX5_remove 4 none, Cond.methodLink RX5 56 yX5_setPart, Cond.instanceMethod yX5_setPart, Cond.selects RX5 yX5_setPart yX5_setPart, Cond.code yX5_setPart cX5_setPart 4 none, Cond.methodLink RX5 79 yX5_comes, Cond.instanceMethod yX5_comes, Cond.selects RX5 yX5_comes yX5_comes, Cond.code yX5_comes cX5_comes 4 none]
def wsX5_doSet : List Cond := .code yX5_doSet cX5_doSet 4 none :: ((wsX5_doSet_r1 ++ wsX5_doSet_r2) ++ wsX50)
def wsX5_findIssues : List Cond := .code yX5_findIssues cX5_findIssues 2 none :: ([.fieldLink RX5 37 "BinderParcelsModel" "issues" "[I", .methodLink RX5 52 yX5_part, .instanceMethod yX5_part, .selects RX5 yX5_part yX5_part, .initialized RX5, .code yX5_part cX5_part 3 (some .int), .fieldLink RX5 7 "BinderParcelsModel" "state" "[I", .methodLink RX5 60 yX5_numberOf, .instanceMethod yX5_numberOf, .selects RX5 yX5_numberOf yX5_numberOf, .code yX5_numberOf cX5_numberOf 3 (some .int), .methodLink RX5 67 yX5_issueOf, .instanceMethod yX5_issueOf, .selects RX5 yX5_issueOf yX5_issueOf, .code yX5_issueOf cX5_issueOf 3 (some .int)] ++ wsX50)
def wsX5_findLeaves : List Cond := .code yX5_findLeaves cX5_findLeaves 4 none :: ([.fieldLink RX5 31 "BinderParcelsModel" "leaves" "[I", .fieldLink RX5 34 "BinderParcelsModel" "rightOnes" "[I", .fieldLink RX5 37 "BinderParcelsModel" "issues" "[I", .methodLink RX5 86 yX5_findIssues, .instanceMethod yX5_findIssues, .selects RX5 yX5_findIssues yX5_findIssues, .initialized RX5, .code yX5_findIssues cX5_findIssues 2 none, .methodLink RX5 52 yX5_part, .instanceMethod yX5_part, .selects RX5 yX5_part yX5_part, .code yX5_part cX5_part 3 (some .int), .fieldLink RX5 7 "BinderParcelsModel" "state" "[I", .methodLink RX5 60 yX5_numberOf, .instanceMethod yX5_numberOf, .selects RX5 yX5_numberOf yX5_numberOf, .code yX5_numberOf cX5_numberOf 3 (some .int), .methodLink RX5 67 yX5_issueOf, .instanceMethod yX5_issueOf, .selects RX5 yX5_issueOf yX5_issueOf, .code yX5_issueOf cX5_issueOf 3 (some .int)] ++ wsX50)
def wsX5_surplusOf : List Cond := .code yX5_surplusOf cX5_surplusOf 2 (some .int) :: ([.fieldLink RX5 37 "BinderParcelsModel" "issues" "[I", .fieldLink RX5 31 "BinderParcelsModel" "leaves" "[I"] ++ wsX50)
def wsX5_oldOf : List Cond := .code yX5_oldOf cX5_oldOf 2 (some .int) :: ([.fieldLink RX5 37 "BinderParcelsModel" "issues" "[I", .fieldLink RX5 31 "BinderParcelsModel" "leaves" "[I", .fieldLink RX5 34 "BinderParcelsModel" "rightOnes" "[I"] ++ wsX50)
def wsX5_missingOf : List Cond := .code yX5_missingOf cX5_missingOf 2 (some .int) :: ([.fieldLink RX5 37 "BinderParcelsModel" "issues" "[I", .fieldLink RX5 31 "BinderParcelsModel" "leaves" "[I"] ++ wsX50)
def wsX5_wrong_r1 : List Cond := [Cond.methodLink RX5 89 yX5_findLeaves, Cond.instanceMethod yX5_findLeaves, Cond.selects RX5 yX5_findLeaves yX5_findLeaves, Cond.initialized RX5, Cond.code yX5_findLeaves cX5_findLeaves 4 none, Cond.fieldLink RX5 31 "BinderParcelsModel" "leaves" "[I", Cond.fieldLink RX5 34 "BinderParcelsModel" "rightOnes" "[I", Cond.fieldLink RX5 37 "BinderParcelsModel" "issues" "[I", Cond.methodLink RX5 86 yX5_findIssues, Cond.instanceMethod yX5_findIssues, Cond.selects RX5 yX5_findIssues yX5_findIssues, Cond.code yX5_findIssues cX5_findIssues 2 none, Cond.methodLink RX5 52 yX5_part, Cond.instanceMethod yX5_part, Cond.selects RX5 yX5_part yX5_part, Cond.code yX5_part cX5_part 3 (some .int), Cond.fieldLink RX5 7 "BinderParcelsModel" "state" "[I", Cond.methodLink RX5 60 yX5_numberOf, Cond.instanceMethod yX5_numberOf, Cond.selects RX5 yX5_numberOf yX5_numberOf, Cond.code yX5_numberOf cX5_numberOf 3 (some .int), Cond.methodLink RX5 67 yX5_issueOf, Cond.instanceMethod yX5_issueOf, Cond.selects RX5 yX5_issueOf yX5_issueOf]
def wsX5_wrong_r2 : List Cond := [Cond.code yX5_issueOf cX5_issueOf 3 (some .int), Cond.methodLink RX5 93 yX5_surplusOf, Cond.instanceMethod yX5_surplusOf, Cond.selects RX5 yX5_surplusOf yX5_surplusOf, Cond.code yX5_surplusOf cX5_surplusOf 2 (some .int), Cond.methodLink RX5 97 yX5_oldOf, Cond.instanceMethod yX5_oldOf, Cond.selects RX5 yX5_oldOf yX5_oldOf, Cond.code yX5_oldOf cX5_oldOf 2 (some .int), Cond.methodLink RX5 100 yX5_missingOf, Cond.instanceMethod yX5_missingOf, Cond.selects RX5 yX5_missingOf yX5_missingOf, Cond.code yX5_missingOf cX5_missingOf 2 (some .int)]
def wsX5_wrong : List Cond := .code yX5_wrong cX5_wrong 7 (some .int) :: ((wsX5_wrong_r1 ++ wsX5_wrong_r2) ++ wsX50)
def wsX5_isRight_r1 : List Cond := [Cond.methodLink RX5 103 yX5_wrong, Cond.instanceMethod yX5_wrong, Cond.selects RX5 yX5_wrong yX5_wrong, Cond.initialized RX5, Cond.code yX5_wrong cX5_wrong 7 (some .int), Cond.methodLink RX5 89 yX5_findLeaves, Cond.instanceMethod yX5_findLeaves, Cond.selects RX5 yX5_findLeaves yX5_findLeaves, Cond.code yX5_findLeaves cX5_findLeaves 4 none, Cond.fieldLink RX5 31 "BinderParcelsModel" "leaves" "[I", Cond.fieldLink RX5 34 "BinderParcelsModel" "rightOnes" "[I", Cond.fieldLink RX5 37 "BinderParcelsModel" "issues" "[I", Cond.methodLink RX5 86 yX5_findIssues, Cond.instanceMethod yX5_findIssues, Cond.selects RX5 yX5_findIssues yX5_findIssues, Cond.code yX5_findIssues cX5_findIssues 2 none, Cond.methodLink RX5 52 yX5_part, Cond.instanceMethod yX5_part, Cond.selects RX5 yX5_part yX5_part, Cond.code yX5_part cX5_part 3 (some .int), Cond.fieldLink RX5 7 "BinderParcelsModel" "state" "[I", Cond.methodLink RX5 60 yX5_numberOf, Cond.instanceMethod yX5_numberOf, Cond.selects RX5 yX5_numberOf yX5_numberOf]
def wsX5_isRight_r2 : List Cond := [Cond.code yX5_numberOf cX5_numberOf 3 (some .int), Cond.methodLink RX5 67 yX5_issueOf, Cond.instanceMethod yX5_issueOf, Cond.selects RX5 yX5_issueOf yX5_issueOf, Cond.code yX5_issueOf cX5_issueOf 3 (some .int), Cond.methodLink RX5 93 yX5_surplusOf, Cond.instanceMethod yX5_surplusOf, Cond.selects RX5 yX5_surplusOf yX5_surplusOf, Cond.code yX5_surplusOf cX5_surplusOf 2 (some .int), Cond.methodLink RX5 97 yX5_oldOf, Cond.instanceMethod yX5_oldOf, Cond.selects RX5 yX5_oldOf yX5_oldOf, Cond.code yX5_oldOf cX5_oldOf 2 (some .int), Cond.methodLink RX5 100 yX5_missingOf, Cond.instanceMethod yX5_missingOf, Cond.selects RX5 yX5_missingOf yX5_missingOf, Cond.code yX5_missingOf cX5_missingOf 2 (some .int)]
def wsX5_isRight : List Cond := .code yX5_isRight cX5_isRight 2 (some .boolean) :: ((wsX5_isRight_r1 ++ wsX5_isRight_r2) ++ wsX50)
def wsX5_checkOf : List Cond := .code yX5_checkOf cX5_checkOf 4 (some .int) :: ([.methodLink RX5 52 yX5_part, .instanceMethod yX5_part, .selects RX5 yX5_part yX5_part, .initialized RX5, .code yX5_part cX5_part 3 (some .int), .fieldLink RX5 7 "BinderParcelsModel" "state" "[I", .methodLink RX5 60 yX5_numberOf, .instanceMethod yX5_numberOf, .selects RX5 yX5_numberOf yX5_numberOf, .code yX5_numberOf cX5_numberOf 3 (some .int), .methodLink RX5 67 yX5_issueOf, .instanceMethod yX5_issueOf, .selects RX5 yX5_issueOf yX5_issueOf, .code yX5_issueOf cX5_issueOf 3 (some .int)] ++ wsX50)
def wsX5_comesTwice : List Cond := .code yX5_comesTwice cX5_comesTwice 4 (some .boolean) :: ([.fieldLink RX5 106 "BinderParcelsModel" "ordersMany" "I", .fieldLink RX5 28 "BinderParcelsModel" "orders" "[I"] ++ wsX50)
def wsX5_canStand : List Cond := .code yX5_canStand cX5_canStand 2 (some .boolean) :: ([.methodLink RX5 48 yX5_within, .static yX5_within, .initialized RX5, .code yX5_within cX5_within 3 (some .boolean)])
def wsX5_findFault : List Cond := .code yX5_findFault cX5_findFault 2 (some .int) :: ([.fieldLink RX5 106 "BinderParcelsModel" "ordersMany" "I", .fieldLink RX5 120 "BinderParcelsModel" "padLength" "I", .fieldLink RX5 25 "BinderParcelsModel" "pad" "[I", .fieldLink RX5 28 "BinderParcelsModel" "orders" "[I", .methodLink RX5 177 yX5_canStand, .static yX5_canStand, .initialized RX5, .code yX5_canStand cX5_canStand 2 (some .boolean), .methodLink RX5 48 yX5_within, .static yX5_within, .code yX5_within cX5_within 3 (some .boolean)] ++ wsX50)
def wsX5_issue_r1 : List Cond := [Cond.fieldLink RX5 7 "BinderParcelsModel" "state" "[I", Cond.fieldLink RX5 106 "BinderParcelsModel" "ordersMany" "I", Cond.fieldLink RX5 28 "BinderParcelsModel" "orders" "[I", Cond.fieldLink RX5 120 "BinderParcelsModel" "padLength" "I", Cond.methodLink RX5 109 yX5_findFault, Cond.instanceMethod yX5_findFault, Cond.selects RX5 yX5_findFault yX5_findFault, Cond.initialized RX5, Cond.code yX5_findFault cX5_findFault 2 (some .int), Cond.fieldLink RX5 25 "BinderParcelsModel" "pad" "[I", Cond.methodLink RX5 177 yX5_canStand, Cond.static yX5_canStand, Cond.code yX5_canStand cX5_canStand 2 (some .boolean), Cond.methodLink RX5 48 yX5_within, Cond.static yX5_within, Cond.code yX5_within cX5_within 3 (some .boolean), Cond.methodLink RX5 113 yX5_comesTwice, Cond.instanceMethod yX5_comesTwice, Cond.selects RX5 yX5_comesTwice yX5_comesTwice, Cond.code yX5_comesTwice cX5_comesTwice 4 (some .boolean), Cond.methodLink RX5 117 yX5_record, Cond.instanceMethod yX5_record, Cond.selects RX5 yX5_record yX5_record, Cond.code yX5_record cX5_record 2 none]
def wsX5_issue_r2 : List Cond := [Cond.fieldLink RX5 40 "BinderParcelsModel" "recorded" "I", Cond.fieldLink RX5 16 "BinderParcelsModel" "history" "[I", Cond.methodLink RX5 44 yX5_moves, Cond.static yX5_moves, Cond.code yX5_moves cX5_moves 5 none, Cond.methodLink RX5 82 yX5_doParcel, Cond.instanceMethod yX5_doParcel, Cond.selects RX5 yX5_doParcel yX5_doParcel, Cond.code yX5_doParcel cX5_doParcel 8 none, Cond.methodLink RX5 70 yX5_orderOf, Cond.instanceMethod yX5_orderOf, Cond.selects RX5 yX5_orderOf yX5_orderOf, Cond.code yX5_orderOf cX5_orderOf 3 (some .int), Cond.methodLink RX5 73 yX5_earliest, Cond.instanceMethod yX5_earliest, Cond.selects RX5 yX5_earliest yX5_earliest, Cond.code yX5_earliest cX5_earliest 5 (some .int), Cond.methodLink RX5 52 yX5_part, Cond.instanceMethod yX5_part, Cond.selects RX5 yX5_part yX5_part, Cond.code yX5_part cX5_part 3 (some .int), Cond.methodLink RX5 60 yX5_numberOf, Cond.instanceMethod yX5_numberOf, Cond.selects RX5 yX5_numberOf yX5_numberOf]
def wsX5_issue_r3 : List Cond := [Cond.code yX5_numberOf cX5_numberOf 3 (some .int), Cond.methodLink RX5 67 yX5_issueOf, Cond.instanceMethod yX5_issueOf, Cond.selects RX5 yX5_issueOf yX5_issueOf, Cond.code yX5_issueOf cX5_issueOf 3 (some .int), Cond.methodLink RX5 76 yX5_removeAll, Cond.instanceMethod yX5_removeAll, Cond.selects RX5 yX5_removeAll yX5_removeAll, Cond.code yX5_removeAll cX5_removeAll 4 none, Cond.methodLink RX5 63 yX5_remove, Cond.instanceMethod yX5_remove, Cond.selects RX5 yX5_remove yX5_remove, Cond.code yX5_remove cX5_remove 4 none, Cond.methodLink RX5 56 yX5_setPart, Cond.instanceMethod yX5_setPart, Cond.selects RX5 yX5_setPart yX5_setPart, Cond.code yX5_setPart cX5_setPart 4 none, Cond.methodLink RX5 79 yX5_comes, Cond.instanceMethod yX5_comes, Cond.selects RX5 yX5_comes yX5_comes, Cond.code yX5_comes cX5_comes 4 none]
def wsX5_issue : List Cond := .code yX5_issue cX5_issue 3 (some .int) :: ((wsX5_issue_r1 ++ (wsX5_issue_r2 ++ wsX5_issue_r3)) ++ wsX50)
def wsX5_own : List Cond := .code yX5_own cX5_own 3 (some .int) :: ([.fieldLink RX5 7 "BinderParcelsModel" "state" "[I", .methodLink RX5 117 yX5_record, .instanceMethod yX5_record, .selects RX5 yX5_record yX5_record, .initialized RX5, .code yX5_record cX5_record 2 none, .fieldLink RX5 40 "BinderParcelsModel" "recorded" "I", .fieldLink RX5 16 "BinderParcelsModel" "history" "[I", .methodLink RX5 44 yX5_moves, .static yX5_moves, .code yX5_moves cX5_moves 5 none, .methodLink RX5 52 yX5_part, .instanceMethod yX5_part, .selects RX5 yX5_part yX5_part, .code yX5_part cX5_part 3 (some .int), .methodLink RX5 56 yX5_setPart, .instanceMethod yX5_setPart, .selects RX5 yX5_setPart yX5_setPart, .code yX5_setPart cX5_setPart 4 none] ++ wsX50)
def wsX5_waits : List Cond := .code yX5_waits cX5_waits 3 (some .boolean) :: ([.methodLink RX5 52 yX5_part, .instanceMethod yX5_part, .selects RX5 yX5_part yX5_part, .initialized RX5, .code yX5_part cX5_part 3 (some .int), .fieldLink RX5 7 "BinderParcelsModel" "state" "[I"] ++ wsX50)
def wsX5_done_r1 : List Cond := [Cond.methodLink RX5 123 yX5_isOwner, Cond.instanceMethod yX5_isOwner, Cond.selects RX5 yX5_isOwner yX5_isOwner, Cond.initialized RX5, Cond.code yX5_isOwner cX5_isOwner 2 (some .boolean), Cond.fieldLink RX5 7 "BinderParcelsModel" "state" "[I", Cond.methodLink RX5 48 yX5_within, Cond.static yX5_within, Cond.code yX5_within cX5_within 3 (some .boolean), Cond.methodLink RX5 127 yX5_isParcel, Cond.instanceMethod yX5_isParcel, Cond.selects RX5 yX5_isParcel yX5_isParcel, Cond.code yX5_isParcel cX5_isParcel 2 (some .boolean), Cond.methodLink RX5 130 yX5_waits, Cond.instanceMethod yX5_waits, Cond.selects RX5 yX5_waits yX5_waits, Cond.code yX5_waits cX5_waits 3 (some .boolean), Cond.methodLink RX5 52 yX5_part, Cond.instanceMethod yX5_part, Cond.selects RX5 yX5_part yX5_part, Cond.code yX5_part cX5_part 3 (some .int), Cond.methodLink RX5 117 yX5_record, Cond.instanceMethod yX5_record, Cond.selects RX5 yX5_record yX5_record]
def wsX5_done_r2 : List Cond := [Cond.code yX5_record cX5_record 2 none, Cond.fieldLink RX5 40 "BinderParcelsModel" "recorded" "I", Cond.fieldLink RX5 16 "BinderParcelsModel" "history" "[I", Cond.methodLink RX5 44 yX5_moves, Cond.static yX5_moves, Cond.code yX5_moves cX5_moves 5 none, Cond.methodLink RX5 82 yX5_doParcel, Cond.instanceMethod yX5_doParcel, Cond.selects RX5 yX5_doParcel yX5_doParcel, Cond.code yX5_doParcel cX5_doParcel 8 none, Cond.methodLink RX5 70 yX5_orderOf, Cond.instanceMethod yX5_orderOf, Cond.selects RX5 yX5_orderOf yX5_orderOf, Cond.code yX5_orderOf cX5_orderOf 3 (some .int), Cond.methodLink RX5 73 yX5_earliest, Cond.instanceMethod yX5_earliest, Cond.selects RX5 yX5_earliest yX5_earliest, Cond.code yX5_earliest cX5_earliest 5 (some .int), Cond.methodLink RX5 60 yX5_numberOf, Cond.instanceMethod yX5_numberOf, Cond.selects RX5 yX5_numberOf yX5_numberOf, Cond.code yX5_numberOf cX5_numberOf 3 (some .int), Cond.methodLink RX5 67 yX5_issueOf, Cond.instanceMethod yX5_issueOf]
def wsX5_done_r3 : List Cond := [Cond.selects RX5 yX5_issueOf yX5_issueOf, Cond.code yX5_issueOf cX5_issueOf 3 (some .int), Cond.methodLink RX5 76 yX5_removeAll, Cond.instanceMethod yX5_removeAll, Cond.selects RX5 yX5_removeAll yX5_removeAll, Cond.code yX5_removeAll cX5_removeAll 4 none, Cond.methodLink RX5 63 yX5_remove, Cond.instanceMethod yX5_remove, Cond.selects RX5 yX5_remove yX5_remove, Cond.code yX5_remove cX5_remove 4 none, Cond.methodLink RX5 56 yX5_setPart, Cond.instanceMethod yX5_setPart, Cond.selects RX5 yX5_setPart yX5_setPart, Cond.code yX5_setPart cX5_setPart 4 none, Cond.methodLink RX5 79 yX5_comes, Cond.instanceMethod yX5_comes, Cond.selects RX5 yX5_comes yX5_comes, Cond.code yX5_comes cX5_comes 4 none]
def wsX5_done : List Cond := .code yX5_done cX5_done 4 (some .int) :: ((wsX5_done_r1 ++ (wsX5_done_r2 ++ wsX5_done_r3)) ++ wsX50)
def wsX5_doAll_r1 : List Cond := [Cond.methodLink RX5 123 yX5_isOwner, Cond.instanceMethod yX5_isOwner, Cond.selects RX5 yX5_isOwner yX5_isOwner, Cond.initialized RX5, Cond.code yX5_isOwner cX5_isOwner 2 (some .boolean), Cond.fieldLink RX5 7 "BinderParcelsModel" "state" "[I", Cond.methodLink RX5 48 yX5_within, Cond.static yX5_within, Cond.code yX5_within cX5_within 3 (some .boolean), Cond.methodLink RX5 117 yX5_record, Cond.instanceMethod yX5_record, Cond.selects RX5 yX5_record yX5_record, Cond.code yX5_record cX5_record 2 none, Cond.fieldLink RX5 40 "BinderParcelsModel" "recorded" "I", Cond.fieldLink RX5 16 "BinderParcelsModel" "history" "[I", Cond.methodLink RX5 44 yX5_moves, Cond.static yX5_moves, Cond.code yX5_moves cX5_moves 5 none, Cond.methodLink RX5 52 yX5_part, Cond.instanceMethod yX5_part, Cond.selects RX5 yX5_part yX5_part, Cond.code yX5_part cX5_part 3 (some .int), Cond.methodLink RX5 134 yX5_doSet, Cond.instanceMethod yX5_doSet]
def wsX5_doAll_r2 : List Cond := [Cond.selects RX5 yX5_doSet yX5_doSet, Cond.code yX5_doSet cX5_doSet 4 none, Cond.methodLink RX5 82 yX5_doParcel, Cond.instanceMethod yX5_doParcel, Cond.selects RX5 yX5_doParcel yX5_doParcel, Cond.code yX5_doParcel cX5_doParcel 8 none, Cond.methodLink RX5 70 yX5_orderOf, Cond.instanceMethod yX5_orderOf, Cond.selects RX5 yX5_orderOf yX5_orderOf, Cond.code yX5_orderOf cX5_orderOf 3 (some .int), Cond.methodLink RX5 73 yX5_earliest, Cond.instanceMethod yX5_earliest, Cond.selects RX5 yX5_earliest yX5_earliest, Cond.code yX5_earliest cX5_earliest 5 (some .int), Cond.methodLink RX5 60 yX5_numberOf, Cond.instanceMethod yX5_numberOf, Cond.selects RX5 yX5_numberOf yX5_numberOf, Cond.code yX5_numberOf cX5_numberOf 3 (some .int), Cond.methodLink RX5 67 yX5_issueOf, Cond.instanceMethod yX5_issueOf, Cond.selects RX5 yX5_issueOf yX5_issueOf, Cond.code yX5_issueOf cX5_issueOf 3 (some .int), Cond.methodLink RX5 76 yX5_removeAll, Cond.instanceMethod yX5_removeAll]
def wsX5_doAll_r3 : List Cond := [Cond.selects RX5 yX5_removeAll yX5_removeAll, Cond.code yX5_removeAll cX5_removeAll 4 none, Cond.methodLink RX5 63 yX5_remove, Cond.instanceMethod yX5_remove, Cond.selects RX5 yX5_remove yX5_remove, Cond.code yX5_remove cX5_remove 4 none, Cond.methodLink RX5 56 yX5_setPart, Cond.instanceMethod yX5_setPart, Cond.selects RX5 yX5_setPart yX5_setPart, Cond.code yX5_setPart cX5_setPart 4 none, Cond.methodLink RX5 79 yX5_comes, Cond.instanceMethod yX5_comes, Cond.selects RX5 yX5_comes yX5_comes, Cond.code yX5_comes cX5_comes 4 none, Cond.methodLink RX5 137 yX5_bits, Cond.static yX5_bits, Cond.code yX5_bits cX5_bits 3 (some .int)]
def wsX5_doAll : List Cond := .code yX5_doAll cX5_doAll 3 (some .int) :: ((wsX5_doAll_r1 ++ (wsX5_doAll_r2 ++ wsX5_doAll_r3)) ++ wsX50)
def wsX5_lose_r1 : List Cond := [Cond.methodLink RX5 123 yX5_isOwner, Cond.instanceMethod yX5_isOwner, Cond.selects RX5 yX5_isOwner yX5_isOwner, Cond.initialized RX5, Cond.code yX5_isOwner cX5_isOwner 2 (some .boolean), Cond.fieldLink RX5 7 "BinderParcelsModel" "state" "[I", Cond.methodLink RX5 48 yX5_within, Cond.static yX5_within, Cond.code yX5_within cX5_within 3 (some .boolean), Cond.methodLink RX5 127 yX5_isParcel, Cond.instanceMethod yX5_isParcel, Cond.selects RX5 yX5_isParcel yX5_isParcel, Cond.code yX5_isParcel cX5_isParcel 2 (some .boolean), Cond.methodLink RX5 130 yX5_waits, Cond.instanceMethod yX5_waits, Cond.selects RX5 yX5_waits yX5_waits, Cond.code yX5_waits cX5_waits 3 (some .boolean), Cond.methodLink RX5 52 yX5_part, Cond.instanceMethod yX5_part, Cond.selects RX5 yX5_part yX5_part, Cond.code yX5_part cX5_part 3 (some .int), Cond.methodLink RX5 117 yX5_record, Cond.instanceMethod yX5_record, Cond.selects RX5 yX5_record yX5_record]
def wsX5_lose_r2 : List Cond := [Cond.code yX5_record cX5_record 2 none, Cond.fieldLink RX5 40 "BinderParcelsModel" "recorded" "I", Cond.fieldLink RX5 16 "BinderParcelsModel" "history" "[I", Cond.methodLink RX5 44 yX5_moves, Cond.static yX5_moves, Cond.code yX5_moves cX5_moves 5 none, Cond.methodLink RX5 56 yX5_setPart, Cond.instanceMethod yX5_setPart, Cond.selects RX5 yX5_setPart yX5_setPart, Cond.code yX5_setPart cX5_setPart 4 none, Cond.methodLink RX5 137 yX5_bits, Cond.static yX5_bits, Cond.code yX5_bits cX5_bits 3 (some .int)]
def wsX5_lose : List Cond := .code yX5_lose cX5_lose 3 (some .int) :: ((wsX5_lose_r1 ++ wsX5_lose_r2) ++ wsX50)
def wsX5_again_r1 : List Cond := [Cond.methodLink RX5 123 yX5_isOwner, Cond.instanceMethod yX5_isOwner, Cond.selects RX5 yX5_isOwner yX5_isOwner, Cond.initialized RX5, Cond.code yX5_isOwner cX5_isOwner 2 (some .boolean), Cond.fieldLink RX5 7 "BinderParcelsModel" "state" "[I", Cond.methodLink RX5 48 yX5_within, Cond.static yX5_within, Cond.code yX5_within cX5_within 3 (some .boolean), Cond.methodLink RX5 127 yX5_isParcel, Cond.instanceMethod yX5_isParcel, Cond.selects RX5 yX5_isParcel yX5_isParcel, Cond.code yX5_isParcel cX5_isParcel 2 (some .boolean), Cond.methodLink RX5 130 yX5_waits, Cond.instanceMethod yX5_waits, Cond.selects RX5 yX5_waits yX5_waits, Cond.code yX5_waits cX5_waits 3 (some .boolean), Cond.methodLink RX5 52 yX5_part, Cond.instanceMethod yX5_part, Cond.selects RX5 yX5_part yX5_part, Cond.code yX5_part cX5_part 3 (some .int), Cond.methodLink RX5 117 yX5_record, Cond.instanceMethod yX5_record, Cond.selects RX5 yX5_record yX5_record]
def wsX5_again_r2 : List Cond := [Cond.code yX5_record cX5_record 2 none, Cond.fieldLink RX5 40 "BinderParcelsModel" "recorded" "I", Cond.fieldLink RX5 16 "BinderParcelsModel" "history" "[I", Cond.methodLink RX5 44 yX5_moves, Cond.static yX5_moves, Cond.code yX5_moves cX5_moves 5 none, Cond.methodLink RX5 56 yX5_setPart, Cond.instanceMethod yX5_setPart, Cond.selects RX5 yX5_setPart yX5_setPart, Cond.code yX5_setPart cX5_setPart 4 none, Cond.methodLink RX5 137 yX5_bits, Cond.static yX5_bits, Cond.code yX5_bits cX5_bits 3 (some .int)]
def wsX5_again : List Cond := .code yX5_again cX5_again 3 (some .int) :: ((wsX5_again_r1 ++ wsX5_again_r2) ++ wsX50)
def wsX5_leafWith : List Cond := .code yX5_leafWith cX5_leafWith 6 (some .int) :: ([.methodLink RX5 52 yX5_part, .instanceMethod yX5_part, .selects RX5 yX5_part yX5_part, .initialized RX5, .code yX5_part cX5_part 3 (some .int), .fieldLink RX5 7 "BinderParcelsModel" "state" "[I", .methodLink RX5 60 yX5_numberOf, .instanceMethod yX5_numberOf, .selects RX5 yX5_numberOf yX5_numberOf, .code yX5_numberOf cX5_numberOf 3 (some .int), .methodLink RX5 67 yX5_issueOf, .instanceMethod yX5_issueOf, .selects RX5 yX5_issueOf yX5_issueOf, .code yX5_issueOf cX5_issueOf 3 (some .int)] ++ wsX50)
def wsX5_isNumber : List Cond := .code yX5_isNumber cX5_isNumber 1 (some .boolean) :: ([.methodLink RX5 48 yX5_within, .static yX5_within, .initialized RX5, .code yX5_within cX5_within 3 (some .boolean)])
def wsX5_hand_r1 : List Cond := [Cond.methodLink RX5 123 yX5_isOwner, Cond.instanceMethod yX5_isOwner, Cond.selects RX5 yX5_isOwner yX5_isOwner, Cond.initialized RX5, Cond.code yX5_isOwner cX5_isOwner 2 (some .boolean), Cond.fieldLink RX5 7 "BinderParcelsModel" "state" "[I", Cond.methodLink RX5 48 yX5_within, Cond.static yX5_within, Cond.code yX5_within cX5_within 3 (some .boolean), Cond.methodLink RX5 127 yX5_isParcel, Cond.instanceMethod yX5_isParcel, Cond.selects RX5 yX5_isParcel yX5_isParcel, Cond.code yX5_isParcel cX5_isParcel 2 (some .boolean), Cond.methodLink RX5 140 yX5_isNumber, Cond.static yX5_isNumber, Cond.code yX5_isNumber cX5_isNumber 1 (some .boolean), Cond.methodLink RX5 143 yX5_leafWith, Cond.instanceMethod yX5_leafWith, Cond.selects RX5 yX5_leafWith yX5_leafWith, Cond.code yX5_leafWith cX5_leafWith 6 (some .int), Cond.methodLink RX5 52 yX5_part, Cond.instanceMethod yX5_part, Cond.selects RX5 yX5_part yX5_part, Cond.code yX5_part cX5_part 3 (some .int)]
def wsX5_hand_r2 : List Cond := [Cond.methodLink RX5 60 yX5_numberOf, Cond.instanceMethod yX5_numberOf, Cond.selects RX5 yX5_numberOf yX5_numberOf, Cond.code yX5_numberOf cX5_numberOf 3 (some .int), Cond.methodLink RX5 67 yX5_issueOf, Cond.instanceMethod yX5_issueOf, Cond.selects RX5 yX5_issueOf yX5_issueOf, Cond.code yX5_issueOf cX5_issueOf 3 (some .int), Cond.methodLink RX5 117 yX5_record, Cond.instanceMethod yX5_record, Cond.selects RX5 yX5_record yX5_record, Cond.code yX5_record cX5_record 2 none, Cond.fieldLink RX5 40 "BinderParcelsModel" "recorded" "I", Cond.fieldLink RX5 16 "BinderParcelsModel" "history" "[I", Cond.methodLink RX5 44 yX5_moves, Cond.static yX5_moves, Cond.code yX5_moves cX5_moves 5 none, Cond.methodLink RX5 79 yX5_comes, Cond.instanceMethod yX5_comes, Cond.selects RX5 yX5_comes yX5_comes, Cond.code yX5_comes cX5_comes 4 none, Cond.methodLink RX5 56 yX5_setPart, Cond.instanceMethod yX5_setPart, Cond.selects RX5 yX5_setPart yX5_setPart]
def wsX5_hand_r3 : List Cond := [Cond.code yX5_setPart cX5_setPart 4 none, Cond.methodLink RX5 63 yX5_remove, Cond.instanceMethod yX5_remove, Cond.selects RX5 yX5_remove yX5_remove, Cond.code yX5_remove cX5_remove 4 none]
def wsX5_hand : List Cond := .code yX5_hand cX5_hand 6 (some .int) :: ((wsX5_hand_r1 ++ (wsX5_hand_r2 ++ wsX5_hand_r3)) ++ wsX50)
def wsX5_ownersWith : List Cond := .code yX5_ownersWith cX5_ownersWith 5 (some .int) :: ([.fieldLink RX5 7 "BinderParcelsModel" "state" "[I", .methodLink RX5 52 yX5_part, .instanceMethod yX5_part, .selects RX5 yX5_part yX5_part, .initialized RX5, .code yX5_part cX5_part 3 (some .int)] ++ wsX50)
def wsX5_parcel : List Cond := .code yX5_parcel cX5_parcel 4 (some .int) :: ([.fieldLink RX5 7 "BinderParcelsModel" "state" "[I", .methodLink RX5 127 yX5_isParcel, .instanceMethod yX5_isParcel, .selects RX5 yX5_isParcel yX5_isParcel, .initialized RX5, .code yX5_isParcel cX5_isParcel 2 (some .boolean), .methodLink RX5 48 yX5_within, .static yX5_within, .code yX5_within cX5_within 3 (some .boolean), .methodLink RX5 147 yX5_ownersWith, .instanceMethod yX5_ownersWith, .selects RX5 yX5_ownersWith yX5_ownersWith, .code yX5_ownersWith cX5_ownersWith 5 (some .int), .methodLink RX5 52 yX5_part, .instanceMethod yX5_part, .selects RX5 yX5_part yX5_part, .code yX5_part cX5_part 3 (some .int), .methodLink RX5 70 yX5_orderOf, .instanceMethod yX5_orderOf, .selects RX5 yX5_orderOf yX5_orderOf, .code yX5_orderOf cX5_orderOf 3 (some .int)] ++ wsX50)
def wsX5_text_r1 : List Cond := [Cond.fieldLink RX5 37 "BinderParcelsModel" "issues" "[I", Cond.methodLink RX5 140 yX5_isNumber, Cond.static yX5_isNumber, Cond.initialized RX5, Cond.code yX5_isNumber cX5_isNumber 1 (some .boolean), Cond.methodLink RX5 48 yX5_within, Cond.static yX5_within, Cond.code yX5_within cX5_within 3 (some .boolean), Cond.methodLink RX5 86 yX5_findIssues, Cond.instanceMethod yX5_findIssues, Cond.selects RX5 yX5_findIssues yX5_findIssues, Cond.code yX5_findIssues cX5_findIssues 2 none, Cond.methodLink RX5 52 yX5_part, Cond.instanceMethod yX5_part, Cond.selects RX5 yX5_part yX5_part, Cond.code yX5_part cX5_part 3 (some .int), Cond.fieldLink RX5 7 "BinderParcelsModel" "state" "[I", Cond.methodLink RX5 60 yX5_numberOf, Cond.instanceMethod yX5_numberOf, Cond.selects RX5 yX5_numberOf yX5_numberOf, Cond.code yX5_numberOf cX5_numberOf 3 (some .int), Cond.methodLink RX5 67 yX5_issueOf, Cond.instanceMethod yX5_issueOf, Cond.selects RX5 yX5_issueOf yX5_issueOf]
def wsX5_text_r2 : List Cond := [Cond.code yX5_issueOf cX5_issueOf 3 (some .int)]
def wsX5_text : List Cond := .code yX5_text cX5_text 2 (some .int) :: ((wsX5_text_r1 ++ wsX5_text_r2) ++ wsX50)
def wsX5_issueIn : List Cond := .code yX5_issueIn cX5_issueIn 8 (some .int) :: ([.methodLink RX5 52 yX5_part, .instanceMethod yX5_part, .selects RX5 yX5_part yX5_part, .initialized RX5, .code yX5_part cX5_part 3 (some .int), .fieldLink RX5 7 "BinderParcelsModel" "state" "[I", .methodLink RX5 67 yX5_issueOf, .instanceMethod yX5_issueOf, .selects RX5 yX5_issueOf yX5_issueOf, .code yX5_issueOf cX5_issueOf 3 (some .int), .methodLink RX5 60 yX5_numberOf, .instanceMethod yX5_numberOf, .selects RX5 yX5_numberOf yX5_numberOf, .code yX5_numberOf cX5_numberOf 3 (some .int)] ++ wsX50)
def wsX5_leaf_r1 : List Cond := [Cond.fieldLink RX5 31 "BinderParcelsModel" "leaves" "[I", Cond.methodLink RX5 123 yX5_isOwner, Cond.instanceMethod yX5_isOwner, Cond.selects RX5 yX5_isOwner yX5_isOwner, Cond.initialized RX5, Cond.code yX5_isOwner cX5_isOwner 2 (some .boolean), Cond.fieldLink RX5 7 "BinderParcelsModel" "state" "[I", Cond.methodLink RX5 48 yX5_within, Cond.static yX5_within, Cond.code yX5_within cX5_within 3 (some .boolean), Cond.methodLink RX5 140 yX5_isNumber, Cond.static yX5_isNumber, Cond.code yX5_isNumber cX5_isNumber 1 (some .boolean), Cond.methodLink RX5 89 yX5_findLeaves, Cond.instanceMethod yX5_findLeaves, Cond.selects RX5 yX5_findLeaves yX5_findLeaves, Cond.code yX5_findLeaves cX5_findLeaves 4 none, Cond.fieldLink RX5 34 "BinderParcelsModel" "rightOnes" "[I", Cond.fieldLink RX5 37 "BinderParcelsModel" "issues" "[I", Cond.methodLink RX5 86 yX5_findIssues, Cond.instanceMethod yX5_findIssues, Cond.selects RX5 yX5_findIssues yX5_findIssues, Cond.code yX5_findIssues cX5_findIssues 2 none, Cond.methodLink RX5 52 yX5_part]
def wsX5_leaf_r2 : List Cond := [Cond.instanceMethod yX5_part, Cond.selects RX5 yX5_part yX5_part, Cond.code yX5_part cX5_part 3 (some .int), Cond.methodLink RX5 60 yX5_numberOf, Cond.instanceMethod yX5_numberOf, Cond.selects RX5 yX5_numberOf yX5_numberOf, Cond.code yX5_numberOf cX5_numberOf 3 (some .int), Cond.methodLink RX5 67 yX5_issueOf, Cond.instanceMethod yX5_issueOf, Cond.selects RX5 yX5_issueOf yX5_issueOf, Cond.code yX5_issueOf cX5_issueOf 3 (some .int), Cond.methodLink RX5 150 yX5_issueIn, Cond.instanceMethod yX5_issueIn, Cond.selects RX5 yX5_issueIn yX5_issueIn, Cond.code yX5_issueIn cX5_issueIn 8 (some .int), Cond.methodLink RX5 93 yX5_surplusOf, Cond.instanceMethod yX5_surplusOf, Cond.selects RX5 yX5_surplusOf yX5_surplusOf, Cond.code yX5_surplusOf cX5_surplusOf 2 (some .int), Cond.methodLink RX5 97 yX5_oldOf, Cond.instanceMethod yX5_oldOf, Cond.selects RX5 yX5_oldOf yX5_oldOf, Cond.code yX5_oldOf cX5_oldOf 2 (some .int), Cond.methodLink RX5 100 yX5_missingOf]
def wsX5_leaf_r3 : List Cond := [Cond.instanceMethod yX5_missingOf, Cond.selects RX5 yX5_missingOf yX5_missingOf, Cond.code yX5_missingOf cX5_missingOf 2 (some .int)]
def wsX5_leaf : List Cond := .code yX5_leaf cX5_leaf 4 (some .int) :: ((wsX5_leaf_r1 ++ (wsX5_leaf_r2 ++ wsX5_leaf_r3)) ++ wsX50)
def wsX5_of_r1 : List Cond := [Cond.methodLink RX5 123 yX5_isOwner, Cond.instanceMethod yX5_isOwner, Cond.selects RX5 yX5_isOwner yX5_isOwner, Cond.initialized RX5, Cond.code yX5_isOwner cX5_isOwner 2 (some .boolean), Cond.fieldLink RX5 7 "BinderParcelsModel" "state" "[I", Cond.methodLink RX5 48 yX5_within, Cond.static yX5_within, Cond.code yX5_within cX5_within 3 (some .boolean), Cond.methodLink RX5 52 yX5_part, Cond.instanceMethod yX5_part, Cond.selects RX5 yX5_part yX5_part, Cond.code yX5_part cX5_part 3 (some .int), Cond.methodLink RX5 103 yX5_wrong, Cond.instanceMethod yX5_wrong, Cond.selects RX5 yX5_wrong yX5_wrong, Cond.code yX5_wrong cX5_wrong 7 (some .int), Cond.methodLink RX5 89 yX5_findLeaves, Cond.instanceMethod yX5_findLeaves, Cond.selects RX5 yX5_findLeaves yX5_findLeaves, Cond.code yX5_findLeaves cX5_findLeaves 4 none, Cond.fieldLink RX5 31 "BinderParcelsModel" "leaves" "[I", Cond.fieldLink RX5 34 "BinderParcelsModel" "rightOnes" "[I", Cond.fieldLink RX5 37 "BinderParcelsModel" "issues" "[I"]
def wsX5_of_r2 : List Cond := [Cond.methodLink RX5 86 yX5_findIssues, Cond.instanceMethod yX5_findIssues, Cond.selects RX5 yX5_findIssues yX5_findIssues, Cond.code yX5_findIssues cX5_findIssues 2 none, Cond.methodLink RX5 60 yX5_numberOf, Cond.instanceMethod yX5_numberOf, Cond.selects RX5 yX5_numberOf yX5_numberOf, Cond.code yX5_numberOf cX5_numberOf 3 (some .int), Cond.methodLink RX5 67 yX5_issueOf, Cond.instanceMethod yX5_issueOf, Cond.selects RX5 yX5_issueOf yX5_issueOf, Cond.code yX5_issueOf cX5_issueOf 3 (some .int), Cond.methodLink RX5 93 yX5_surplusOf, Cond.instanceMethod yX5_surplusOf, Cond.selects RX5 yX5_surplusOf yX5_surplusOf, Cond.code yX5_surplusOf cX5_surplusOf 2 (some .int), Cond.methodLink RX5 97 yX5_oldOf, Cond.instanceMethod yX5_oldOf, Cond.selects RX5 yX5_oldOf yX5_oldOf, Cond.code yX5_oldOf cX5_oldOf 2 (some .int), Cond.methodLink RX5 100 yX5_missingOf, Cond.instanceMethod yX5_missingOf, Cond.selects RX5 yX5_missingOf yX5_missingOf, Cond.code yX5_missingOf cX5_missingOf 2 (some .int)]
def wsX5_of_r3 : List Cond := [Cond.methodLink RX5 154 yX5_isRight, Cond.instanceMethod yX5_isRight, Cond.selects RX5 yX5_isRight yX5_isRight, Cond.code yX5_isRight cX5_isRight 2 (some .boolean), Cond.methodLink RX5 157 yX5_checkOf, Cond.instanceMethod yX5_checkOf, Cond.selects RX5 yX5_checkOf yX5_checkOf, Cond.code yX5_checkOf cX5_checkOf 4 (some .int)]
def wsX5_of : List Cond := .code yX5_of cX5_of 3 (some .int) :: ((wsX5_of_r1 ++ (wsX5_of_r2 ++ wsX5_of_r3)) ++ wsX50)
def wsX5_rightOwners_r1 : List Cond := [Cond.fieldLink RX5 7 "BinderParcelsModel" "state" "[I", Cond.methodLink RX5 154 yX5_isRight, Cond.instanceMethod yX5_isRight, Cond.selects RX5 yX5_isRight yX5_isRight, Cond.initialized RX5, Cond.code yX5_isRight cX5_isRight 2 (some .boolean), Cond.methodLink RX5 103 yX5_wrong, Cond.instanceMethod yX5_wrong, Cond.selects RX5 yX5_wrong yX5_wrong, Cond.code yX5_wrong cX5_wrong 7 (some .int), Cond.methodLink RX5 89 yX5_findLeaves, Cond.instanceMethod yX5_findLeaves, Cond.selects RX5 yX5_findLeaves yX5_findLeaves, Cond.code yX5_findLeaves cX5_findLeaves 4 none, Cond.fieldLink RX5 31 "BinderParcelsModel" "leaves" "[I", Cond.fieldLink RX5 34 "BinderParcelsModel" "rightOnes" "[I", Cond.fieldLink RX5 37 "BinderParcelsModel" "issues" "[I", Cond.methodLink RX5 86 yX5_findIssues, Cond.instanceMethod yX5_findIssues, Cond.selects RX5 yX5_findIssues yX5_findIssues, Cond.code yX5_findIssues cX5_findIssues 2 none, Cond.methodLink RX5 52 yX5_part, Cond.instanceMethod yX5_part, Cond.selects RX5 yX5_part yX5_part]
def wsX5_rightOwners_r2 : List Cond := [Cond.code yX5_part cX5_part 3 (some .int), Cond.methodLink RX5 60 yX5_numberOf, Cond.instanceMethod yX5_numberOf, Cond.selects RX5 yX5_numberOf yX5_numberOf, Cond.code yX5_numberOf cX5_numberOf 3 (some .int), Cond.methodLink RX5 67 yX5_issueOf, Cond.instanceMethod yX5_issueOf, Cond.selects RX5 yX5_issueOf yX5_issueOf, Cond.code yX5_issueOf cX5_issueOf 3 (some .int), Cond.methodLink RX5 93 yX5_surplusOf, Cond.instanceMethod yX5_surplusOf, Cond.selects RX5 yX5_surplusOf yX5_surplusOf, Cond.code yX5_surplusOf cX5_surplusOf 2 (some .int), Cond.methodLink RX5 97 yX5_oldOf, Cond.instanceMethod yX5_oldOf, Cond.selects RX5 yX5_oldOf yX5_oldOf, Cond.code yX5_oldOf cX5_oldOf 2 (some .int), Cond.methodLink RX5 100 yX5_missingOf, Cond.instanceMethod yX5_missingOf, Cond.selects RX5 yX5_missingOf yX5_missingOf, Cond.code yX5_missingOf cX5_missingOf 2 (some .int)]
def wsX5_rightOwners : List Cond := .code yX5_rightOwners cX5_rightOwners 3 (some .int) :: ((wsX5_rightOwners_r1 ++ wsX5_rightOwners_r2) ++ wsX50)
def wsX5_inText : List Cond := .code yX5_inText cX5_inText 4 (some .int) :: ([.methodLink RX5 52 yX5_part, .instanceMethod yX5_part, .selects RX5 yX5_part yX5_part, .initialized RX5, .code yX5_part cX5_part 3 (some .int), .fieldLink RX5 7 "BinderParcelsModel" "state" "[I", .methodLink RX5 67 yX5_issueOf, .instanceMethod yX5_issueOf, .selects RX5 yX5_issueOf yX5_issueOf, .code yX5_issueOf cX5_issueOf 3 (some .int)] ++ wsX50)
def wsX5_mostInText : List Cond := .code yX5_mostInText cX5_mostInText 4 (some .int) :: ([.fieldLink RX5 7 "BinderParcelsModel" "state" "[I", .methodLink RX5 160 yX5_inText, .instanceMethod yX5_inText, .selects RX5 yX5_inText yX5_inText, .initialized RX5, .code yX5_inText cX5_inText 4 (some .int), .methodLink RX5 52 yX5_part, .instanceMethod yX5_part, .selects RX5 yX5_part yX5_part, .code yX5_part cX5_part 3 (some .int), .methodLink RX5 67 yX5_issueOf, .instanceMethod yX5_issueOf, .selects RX5 yX5_issueOf yX5_issueOf, .code yX5_issueOf cX5_issueOf 3 (some .int)] ++ wsX50)
def wsX5_count_r1 : List Cond := [Cond.fieldLink RX5 7 "BinderParcelsModel" "state" "[I", Cond.fieldLink RX5 120 "BinderParcelsModel" "padLength" "I", Cond.fieldLink RX5 40 "BinderParcelsModel" "recorded" "I", Cond.methodLink RX5 52 yX5_part, Cond.instanceMethod yX5_part, Cond.selects RX5 yX5_part yX5_part, Cond.initialized RX5, Cond.code yX5_part cX5_part 3 (some .int), Cond.methodLink RX5 157 yX5_checkOf, Cond.instanceMethod yX5_checkOf, Cond.selects RX5 yX5_checkOf yX5_checkOf, Cond.code yX5_checkOf cX5_checkOf 4 (some .int), Cond.methodLink RX5 60 yX5_numberOf, Cond.instanceMethod yX5_numberOf, Cond.selects RX5 yX5_numberOf yX5_numberOf, Cond.code yX5_numberOf cX5_numberOf 3 (some .int), Cond.methodLink RX5 67 yX5_issueOf, Cond.instanceMethod yX5_issueOf, Cond.selects RX5 yX5_issueOf yX5_issueOf, Cond.code yX5_issueOf cX5_issueOf 3 (some .int), Cond.methodLink RX5 163 yX5_rightOwners, Cond.instanceMethod yX5_rightOwners, Cond.selects RX5 yX5_rightOwners yX5_rightOwners, Cond.code yX5_rightOwners cX5_rightOwners 3 (some .int)]
def wsX5_count_r2 : List Cond := [Cond.methodLink RX5 154 yX5_isRight, Cond.instanceMethod yX5_isRight, Cond.selects RX5 yX5_isRight yX5_isRight, Cond.code yX5_isRight cX5_isRight 2 (some .boolean), Cond.methodLink RX5 103 yX5_wrong, Cond.instanceMethod yX5_wrong, Cond.selects RX5 yX5_wrong yX5_wrong, Cond.code yX5_wrong cX5_wrong 7 (some .int), Cond.methodLink RX5 89 yX5_findLeaves, Cond.instanceMethod yX5_findLeaves, Cond.selects RX5 yX5_findLeaves yX5_findLeaves, Cond.code yX5_findLeaves cX5_findLeaves 4 none, Cond.fieldLink RX5 31 "BinderParcelsModel" "leaves" "[I", Cond.fieldLink RX5 34 "BinderParcelsModel" "rightOnes" "[I", Cond.fieldLink RX5 37 "BinderParcelsModel" "issues" "[I", Cond.methodLink RX5 86 yX5_findIssues, Cond.instanceMethod yX5_findIssues, Cond.selects RX5 yX5_findIssues yX5_findIssues, Cond.code yX5_findIssues cX5_findIssues 2 none, Cond.methodLink RX5 93 yX5_surplusOf, Cond.instanceMethod yX5_surplusOf, Cond.selects RX5 yX5_surplusOf yX5_surplusOf, Cond.code yX5_surplusOf cX5_surplusOf 2 (some .int), Cond.methodLink RX5 97 yX5_oldOf]
def wsX5_count_r3 : List Cond := [Cond.instanceMethod yX5_oldOf, Cond.selects RX5 yX5_oldOf yX5_oldOf, Cond.code yX5_oldOf cX5_oldOf 2 (some .int), Cond.methodLink RX5 100 yX5_missingOf, Cond.instanceMethod yX5_missingOf, Cond.selects RX5 yX5_missingOf yX5_missingOf, Cond.code yX5_missingOf cX5_missingOf 2 (some .int), Cond.methodLink RX5 160 yX5_inText, Cond.instanceMethod yX5_inText, Cond.selects RX5 yX5_inText yX5_inText, Cond.code yX5_inText cX5_inText 4 (some .int), Cond.methodLink RX5 166 yX5_mostInText, Cond.instanceMethod yX5_mostInText, Cond.selects RX5 yX5_mostInText yX5_mostInText, Cond.code yX5_mostInText cX5_mostInText 4 (some .int)]
def wsX5_count : List Cond := .code yX5_count cX5_count 2 (some .int) :: ((wsX5_count_r1 ++ (wsX5_count_r2 ++ wsX5_count_r3)) ++ wsX50)
def wsX5_wrongWith_r1 : List Cond := [Cond.fieldLink RX5 7 "BinderParcelsModel" "state" "[I", Cond.fieldLink RX5 13 "BinderParcelsModel" "kept" "[I", Cond.methodLink RX5 44 yX5_moves, Cond.static yX5_moves, Cond.initialized RX5, Cond.code yX5_moves cX5_moves 5 none, Cond.methodLink RX5 134 yX5_doSet, Cond.instanceMethod yX5_doSet, Cond.selects RX5 yX5_doSet yX5_doSet, Cond.code yX5_doSet cX5_doSet 4 none, Cond.methodLink RX5 82 yX5_doParcel, Cond.instanceMethod yX5_doParcel, Cond.selects RX5 yX5_doParcel yX5_doParcel, Cond.code yX5_doParcel cX5_doParcel 8 none, Cond.methodLink RX5 70 yX5_orderOf, Cond.instanceMethod yX5_orderOf, Cond.selects RX5 yX5_orderOf yX5_orderOf, Cond.code yX5_orderOf cX5_orderOf 3 (some .int), Cond.methodLink RX5 73 yX5_earliest, Cond.instanceMethod yX5_earliest, Cond.selects RX5 yX5_earliest yX5_earliest, Cond.code yX5_earliest cX5_earliest 5 (some .int), Cond.methodLink RX5 52 yX5_part, Cond.instanceMethod yX5_part]
def wsX5_wrongWith_r2 : List Cond := [Cond.selects RX5 yX5_part yX5_part, Cond.code yX5_part cX5_part 3 (some .int), Cond.methodLink RX5 60 yX5_numberOf, Cond.instanceMethod yX5_numberOf, Cond.selects RX5 yX5_numberOf yX5_numberOf, Cond.code yX5_numberOf cX5_numberOf 3 (some .int), Cond.methodLink RX5 67 yX5_issueOf, Cond.instanceMethod yX5_issueOf, Cond.selects RX5 yX5_issueOf yX5_issueOf, Cond.code yX5_issueOf cX5_issueOf 3 (some .int), Cond.methodLink RX5 76 yX5_removeAll, Cond.instanceMethod yX5_removeAll, Cond.selects RX5 yX5_removeAll yX5_removeAll, Cond.code yX5_removeAll cX5_removeAll 4 none, Cond.methodLink RX5 63 yX5_remove, Cond.instanceMethod yX5_remove, Cond.selects RX5 yX5_remove yX5_remove, Cond.code yX5_remove cX5_remove 4 none, Cond.methodLink RX5 56 yX5_setPart, Cond.instanceMethod yX5_setPart, Cond.selects RX5 yX5_setPart yX5_setPart, Cond.code yX5_setPart cX5_setPart 4 none, Cond.methodLink RX5 79 yX5_comes, Cond.instanceMethod yX5_comes]
def wsX5_wrongWith_r3 : List Cond := [Cond.selects RX5 yX5_comes yX5_comes, Cond.code yX5_comes cX5_comes 4 none, Cond.methodLink RX5 103 yX5_wrong, Cond.instanceMethod yX5_wrong, Cond.selects RX5 yX5_wrong yX5_wrong, Cond.code yX5_wrong cX5_wrong 7 (some .int), Cond.methodLink RX5 89 yX5_findLeaves, Cond.instanceMethod yX5_findLeaves, Cond.selects RX5 yX5_findLeaves yX5_findLeaves, Cond.code yX5_findLeaves cX5_findLeaves 4 none, Cond.fieldLink RX5 31 "BinderParcelsModel" "leaves" "[I", Cond.fieldLink RX5 34 "BinderParcelsModel" "rightOnes" "[I", Cond.fieldLink RX5 37 "BinderParcelsModel" "issues" "[I", Cond.methodLink RX5 86 yX5_findIssues, Cond.instanceMethod yX5_findIssues, Cond.selects RX5 yX5_findIssues yX5_findIssues, Cond.code yX5_findIssues cX5_findIssues 2 none, Cond.methodLink RX5 93 yX5_surplusOf, Cond.instanceMethod yX5_surplusOf, Cond.selects RX5 yX5_surplusOf yX5_surplusOf, Cond.code yX5_surplusOf cX5_surplusOf 2 (some .int), Cond.methodLink RX5 97 yX5_oldOf, Cond.instanceMethod yX5_oldOf, Cond.selects RX5 yX5_oldOf yX5_oldOf]
def wsX5_wrongWith_r4 : List Cond := [Cond.code yX5_oldOf cX5_oldOf 2 (some .int), Cond.methodLink RX5 100 yX5_missingOf, Cond.instanceMethod yX5_missingOf, Cond.selects RX5 yX5_missingOf yX5_missingOf, Cond.code yX5_missingOf cX5_missingOf 2 (some .int)]
def wsX5_wrongWith : List Cond := .code yX5_wrongWith cX5_wrongWith 4 (some .int) :: ((wsX5_wrongWith_r1 ++ (wsX5_wrongWith_r2 ++ (wsX5_wrongWith_r3 ++ wsX5_wrongWith_r4))) ++ wsX50)
def wsX5_ifDone_r1 : List Cond := [Cond.methodLink RX5 123 yX5_isOwner, Cond.instanceMethod yX5_isOwner, Cond.selects RX5 yX5_isOwner yX5_isOwner, Cond.initialized RX5, Cond.code yX5_isOwner cX5_isOwner 2 (some .boolean), Cond.fieldLink RX5 7 "BinderParcelsModel" "state" "[I", Cond.methodLink RX5 48 yX5_within, Cond.static yX5_within, Cond.code yX5_within cX5_within 3 (some .boolean), Cond.methodLink RX5 127 yX5_isParcel, Cond.instanceMethod yX5_isParcel, Cond.selects RX5 yX5_isParcel yX5_isParcel, Cond.code yX5_isParcel cX5_isParcel 2 (some .boolean), Cond.methodLink RX5 169 yX5_wrongWith, Cond.instanceMethod yX5_wrongWith, Cond.selects RX5 yX5_wrongWith yX5_wrongWith, Cond.code yX5_wrongWith cX5_wrongWith 4 (some .int), Cond.fieldLink RX5 13 "BinderParcelsModel" "kept" "[I", Cond.methodLink RX5 44 yX5_moves, Cond.static yX5_moves, Cond.code yX5_moves cX5_moves 5 none, Cond.methodLink RX5 134 yX5_doSet, Cond.instanceMethod yX5_doSet, Cond.selects RX5 yX5_doSet yX5_doSet]
def wsX5_ifDone_r2 : List Cond := [Cond.code yX5_doSet cX5_doSet 4 none, Cond.methodLink RX5 82 yX5_doParcel, Cond.instanceMethod yX5_doParcel, Cond.selects RX5 yX5_doParcel yX5_doParcel, Cond.code yX5_doParcel cX5_doParcel 8 none, Cond.methodLink RX5 70 yX5_orderOf, Cond.instanceMethod yX5_orderOf, Cond.selects RX5 yX5_orderOf yX5_orderOf, Cond.code yX5_orderOf cX5_orderOf 3 (some .int), Cond.methodLink RX5 73 yX5_earliest, Cond.instanceMethod yX5_earliest, Cond.selects RX5 yX5_earliest yX5_earliest, Cond.code yX5_earliest cX5_earliest 5 (some .int), Cond.methodLink RX5 52 yX5_part, Cond.instanceMethod yX5_part, Cond.selects RX5 yX5_part yX5_part, Cond.code yX5_part cX5_part 3 (some .int), Cond.methodLink RX5 60 yX5_numberOf, Cond.instanceMethod yX5_numberOf, Cond.selects RX5 yX5_numberOf yX5_numberOf, Cond.code yX5_numberOf cX5_numberOf 3 (some .int), Cond.methodLink RX5 67 yX5_issueOf, Cond.instanceMethod yX5_issueOf, Cond.selects RX5 yX5_issueOf yX5_issueOf]
def wsX5_ifDone_r3 : List Cond := [Cond.code yX5_issueOf cX5_issueOf 3 (some .int), Cond.methodLink RX5 76 yX5_removeAll, Cond.instanceMethod yX5_removeAll, Cond.selects RX5 yX5_removeAll yX5_removeAll, Cond.code yX5_removeAll cX5_removeAll 4 none, Cond.methodLink RX5 63 yX5_remove, Cond.instanceMethod yX5_remove, Cond.selects RX5 yX5_remove yX5_remove, Cond.code yX5_remove cX5_remove 4 none, Cond.methodLink RX5 56 yX5_setPart, Cond.instanceMethod yX5_setPart, Cond.selects RX5 yX5_setPart yX5_setPart, Cond.code yX5_setPart cX5_setPart 4 none, Cond.methodLink RX5 79 yX5_comes, Cond.instanceMethod yX5_comes, Cond.selects RX5 yX5_comes yX5_comes, Cond.code yX5_comes cX5_comes 4 none, Cond.methodLink RX5 103 yX5_wrong, Cond.instanceMethod yX5_wrong, Cond.selects RX5 yX5_wrong yX5_wrong, Cond.code yX5_wrong cX5_wrong 7 (some .int), Cond.methodLink RX5 89 yX5_findLeaves, Cond.instanceMethod yX5_findLeaves, Cond.selects RX5 yX5_findLeaves yX5_findLeaves]
def wsX5_ifDone_r4 : List Cond := [Cond.code yX5_findLeaves cX5_findLeaves 4 none, Cond.fieldLink RX5 31 "BinderParcelsModel" "leaves" "[I", Cond.fieldLink RX5 34 "BinderParcelsModel" "rightOnes" "[I", Cond.fieldLink RX5 37 "BinderParcelsModel" "issues" "[I", Cond.methodLink RX5 86 yX5_findIssues, Cond.instanceMethod yX5_findIssues, Cond.selects RX5 yX5_findIssues yX5_findIssues, Cond.code yX5_findIssues cX5_findIssues 2 none, Cond.methodLink RX5 93 yX5_surplusOf, Cond.instanceMethod yX5_surplusOf, Cond.selects RX5 yX5_surplusOf yX5_surplusOf, Cond.code yX5_surplusOf cX5_surplusOf 2 (some .int), Cond.methodLink RX5 97 yX5_oldOf, Cond.instanceMethod yX5_oldOf, Cond.selects RX5 yX5_oldOf yX5_oldOf, Cond.code yX5_oldOf cX5_oldOf 2 (some .int), Cond.methodLink RX5 100 yX5_missingOf, Cond.instanceMethod yX5_missingOf, Cond.selects RX5 yX5_missingOf yX5_missingOf, Cond.code yX5_missingOf cX5_missingOf 2 (some .int)]
def wsX5_ifDone : List Cond := .code yX5_ifDone cX5_ifDone 3 (some .int) :: ((wsX5_ifDone_r1 ++ (wsX5_ifDone_r2 ++ (wsX5_ifDone_r3 ++ wsX5_ifDone_r4))) ++ wsX50)
def wsX5_ifAllDone_r1 : List Cond := [Cond.methodLink RX5 123 yX5_isOwner, Cond.instanceMethod yX5_isOwner, Cond.selects RX5 yX5_isOwner yX5_isOwner, Cond.initialized RX5, Cond.code yX5_isOwner cX5_isOwner 2 (some .boolean), Cond.fieldLink RX5 7 "BinderParcelsModel" "state" "[I", Cond.methodLink RX5 48 yX5_within, Cond.static yX5_within, Cond.code yX5_within cX5_within 3 (some .boolean), Cond.methodLink RX5 52 yX5_part, Cond.instanceMethod yX5_part, Cond.selects RX5 yX5_part yX5_part, Cond.code yX5_part cX5_part 3 (some .int), Cond.methodLink RX5 169 yX5_wrongWith, Cond.instanceMethod yX5_wrongWith, Cond.selects RX5 yX5_wrongWith yX5_wrongWith, Cond.code yX5_wrongWith cX5_wrongWith 4 (some .int), Cond.fieldLink RX5 13 "BinderParcelsModel" "kept" "[I", Cond.methodLink RX5 44 yX5_moves, Cond.static yX5_moves, Cond.code yX5_moves cX5_moves 5 none, Cond.methodLink RX5 134 yX5_doSet, Cond.instanceMethod yX5_doSet, Cond.selects RX5 yX5_doSet yX5_doSet]
def wsX5_ifAllDone_r2 : List Cond := [Cond.code yX5_doSet cX5_doSet 4 none, Cond.methodLink RX5 82 yX5_doParcel, Cond.instanceMethod yX5_doParcel, Cond.selects RX5 yX5_doParcel yX5_doParcel, Cond.code yX5_doParcel cX5_doParcel 8 none, Cond.methodLink RX5 70 yX5_orderOf, Cond.instanceMethod yX5_orderOf, Cond.selects RX5 yX5_orderOf yX5_orderOf, Cond.code yX5_orderOf cX5_orderOf 3 (some .int), Cond.methodLink RX5 73 yX5_earliest, Cond.instanceMethod yX5_earliest, Cond.selects RX5 yX5_earliest yX5_earliest, Cond.code yX5_earliest cX5_earliest 5 (some .int), Cond.methodLink RX5 60 yX5_numberOf, Cond.instanceMethod yX5_numberOf, Cond.selects RX5 yX5_numberOf yX5_numberOf, Cond.code yX5_numberOf cX5_numberOf 3 (some .int), Cond.methodLink RX5 67 yX5_issueOf, Cond.instanceMethod yX5_issueOf, Cond.selects RX5 yX5_issueOf yX5_issueOf, Cond.code yX5_issueOf cX5_issueOf 3 (some .int), Cond.methodLink RX5 76 yX5_removeAll, Cond.instanceMethod yX5_removeAll, Cond.selects RX5 yX5_removeAll yX5_removeAll]
def wsX5_ifAllDone_r3 : List Cond := [Cond.code yX5_removeAll cX5_removeAll 4 none, Cond.methodLink RX5 63 yX5_remove, Cond.instanceMethod yX5_remove, Cond.selects RX5 yX5_remove yX5_remove, Cond.code yX5_remove cX5_remove 4 none, Cond.methodLink RX5 56 yX5_setPart, Cond.instanceMethod yX5_setPart, Cond.selects RX5 yX5_setPart yX5_setPart, Cond.code yX5_setPart cX5_setPart 4 none, Cond.methodLink RX5 79 yX5_comes, Cond.instanceMethod yX5_comes, Cond.selects RX5 yX5_comes yX5_comes, Cond.code yX5_comes cX5_comes 4 none, Cond.methodLink RX5 103 yX5_wrong, Cond.instanceMethod yX5_wrong, Cond.selects RX5 yX5_wrong yX5_wrong, Cond.code yX5_wrong cX5_wrong 7 (some .int), Cond.methodLink RX5 89 yX5_findLeaves, Cond.instanceMethod yX5_findLeaves, Cond.selects RX5 yX5_findLeaves yX5_findLeaves, Cond.code yX5_findLeaves cX5_findLeaves 4 none, Cond.fieldLink RX5 31 "BinderParcelsModel" "leaves" "[I", Cond.fieldLink RX5 34 "BinderParcelsModel" "rightOnes" "[I", Cond.fieldLink RX5 37 "BinderParcelsModel" "issues" "[I"]
def wsX5_ifAllDone_r4 : List Cond := [Cond.methodLink RX5 86 yX5_findIssues, Cond.instanceMethod yX5_findIssues, Cond.selects RX5 yX5_findIssues yX5_findIssues, Cond.code yX5_findIssues cX5_findIssues 2 none, Cond.methodLink RX5 93 yX5_surplusOf, Cond.instanceMethod yX5_surplusOf, Cond.selects RX5 yX5_surplusOf yX5_surplusOf, Cond.code yX5_surplusOf cX5_surplusOf 2 (some .int), Cond.methodLink RX5 97 yX5_oldOf, Cond.instanceMethod yX5_oldOf, Cond.selects RX5 yX5_oldOf yX5_oldOf, Cond.code yX5_oldOf cX5_oldOf 2 (some .int), Cond.methodLink RX5 100 yX5_missingOf, Cond.instanceMethod yX5_missingOf, Cond.selects RX5 yX5_missingOf yX5_missingOf, Cond.code yX5_missingOf cX5_missingOf 2 (some .int)]
def wsX5_ifAllDone : List Cond := .code yX5_ifAllDone cX5_ifAllDone 2 (some .int) :: ((wsX5_ifAllDone_r1 ++ (wsX5_ifAllDone_r2 ++ (wsX5_ifAllDone_r3 ++ wsX5_ifAllDone_r4))) ++ wsX50)
def wsX5_mendingOf_r1 : List Cond := [Cond.fieldLink RX5 7 "BinderParcelsModel" "state" "[I", Cond.methodLink RX5 137 yX5_bits, Cond.static yX5_bits, Cond.initialized RX5, Cond.code yX5_bits cX5_bits 3 (some .int), Cond.methodLink RX5 169 yX5_wrongWith, Cond.instanceMethod yX5_wrongWith, Cond.selects RX5 yX5_wrongWith yX5_wrongWith, Cond.code yX5_wrongWith cX5_wrongWith 4 (some .int), Cond.fieldLink RX5 13 "BinderParcelsModel" "kept" "[I", Cond.methodLink RX5 44 yX5_moves, Cond.static yX5_moves, Cond.code yX5_moves cX5_moves 5 none, Cond.methodLink RX5 134 yX5_doSet, Cond.instanceMethod yX5_doSet, Cond.selects RX5 yX5_doSet yX5_doSet, Cond.code yX5_doSet cX5_doSet 4 none, Cond.methodLink RX5 82 yX5_doParcel, Cond.instanceMethod yX5_doParcel, Cond.selects RX5 yX5_doParcel yX5_doParcel, Cond.code yX5_doParcel cX5_doParcel 8 none, Cond.methodLink RX5 70 yX5_orderOf, Cond.instanceMethod yX5_orderOf, Cond.selects RX5 yX5_orderOf yX5_orderOf]
def wsX5_mendingOf_r2 : List Cond := [Cond.code yX5_orderOf cX5_orderOf 3 (some .int), Cond.methodLink RX5 73 yX5_earliest, Cond.instanceMethod yX5_earliest, Cond.selects RX5 yX5_earliest yX5_earliest, Cond.code yX5_earliest cX5_earliest 5 (some .int), Cond.methodLink RX5 52 yX5_part, Cond.instanceMethod yX5_part, Cond.selects RX5 yX5_part yX5_part, Cond.code yX5_part cX5_part 3 (some .int), Cond.methodLink RX5 60 yX5_numberOf, Cond.instanceMethod yX5_numberOf, Cond.selects RX5 yX5_numberOf yX5_numberOf, Cond.code yX5_numberOf cX5_numberOf 3 (some .int), Cond.methodLink RX5 67 yX5_issueOf, Cond.instanceMethod yX5_issueOf, Cond.selects RX5 yX5_issueOf yX5_issueOf, Cond.code yX5_issueOf cX5_issueOf 3 (some .int), Cond.methodLink RX5 76 yX5_removeAll, Cond.instanceMethod yX5_removeAll, Cond.selects RX5 yX5_removeAll yX5_removeAll, Cond.code yX5_removeAll cX5_removeAll 4 none, Cond.methodLink RX5 63 yX5_remove, Cond.instanceMethod yX5_remove, Cond.selects RX5 yX5_remove yX5_remove]
def wsX5_mendingOf_r3 : List Cond := [Cond.code yX5_remove cX5_remove 4 none, Cond.methodLink RX5 56 yX5_setPart, Cond.instanceMethod yX5_setPart, Cond.selects RX5 yX5_setPart yX5_setPart, Cond.code yX5_setPart cX5_setPart 4 none, Cond.methodLink RX5 79 yX5_comes, Cond.instanceMethod yX5_comes, Cond.selects RX5 yX5_comes yX5_comes, Cond.code yX5_comes cX5_comes 4 none, Cond.methodLink RX5 103 yX5_wrong, Cond.instanceMethod yX5_wrong, Cond.selects RX5 yX5_wrong yX5_wrong, Cond.code yX5_wrong cX5_wrong 7 (some .int), Cond.methodLink RX5 89 yX5_findLeaves, Cond.instanceMethod yX5_findLeaves, Cond.selects RX5 yX5_findLeaves yX5_findLeaves, Cond.code yX5_findLeaves cX5_findLeaves 4 none, Cond.fieldLink RX5 31 "BinderParcelsModel" "leaves" "[I", Cond.fieldLink RX5 34 "BinderParcelsModel" "rightOnes" "[I", Cond.fieldLink RX5 37 "BinderParcelsModel" "issues" "[I", Cond.methodLink RX5 86 yX5_findIssues, Cond.instanceMethod yX5_findIssues, Cond.selects RX5 yX5_findIssues yX5_findIssues, Cond.code yX5_findIssues cX5_findIssues 2 none]
def wsX5_mendingOf_r4 : List Cond := [Cond.methodLink RX5 93 yX5_surplusOf, Cond.instanceMethod yX5_surplusOf, Cond.selects RX5 yX5_surplusOf yX5_surplusOf, Cond.code yX5_surplusOf cX5_surplusOf 2 (some .int), Cond.methodLink RX5 97 yX5_oldOf, Cond.instanceMethod yX5_oldOf, Cond.selects RX5 yX5_oldOf yX5_oldOf, Cond.code yX5_oldOf cX5_oldOf 2 (some .int), Cond.methodLink RX5 100 yX5_missingOf, Cond.instanceMethod yX5_missingOf, Cond.selects RX5 yX5_missingOf yX5_missingOf, Cond.code yX5_missingOf cX5_missingOf 2 (some .int)]
def wsX5_mendingOf : List Cond := .code yX5_mendingOf cX5_mendingOf 4 (some .int) :: ((wsX5_mendingOf_r1 ++ (wsX5_mendingOf_r2 ++ (wsX5_mendingOf_r3 ++ wsX5_mendingOf_r4))) ++ wsX50)
def wsX5_mending_r1 : List Cond := [Cond.methodLink RX5 123 yX5_isOwner, Cond.instanceMethod yX5_isOwner, Cond.selects RX5 yX5_isOwner yX5_isOwner, Cond.initialized RX5, Cond.code yX5_isOwner cX5_isOwner 2 (some .boolean), Cond.fieldLink RX5 7 "BinderParcelsModel" "state" "[I", Cond.methodLink RX5 48 yX5_within, Cond.static yX5_within, Cond.code yX5_within cX5_within 3 (some .boolean), Cond.methodLink RX5 172 yX5_mendingOf, Cond.instanceMethod yX5_mendingOf, Cond.selects RX5 yX5_mendingOf yX5_mendingOf, Cond.code yX5_mendingOf cX5_mendingOf 4 (some .int), Cond.methodLink RX5 137 yX5_bits, Cond.static yX5_bits, Cond.code yX5_bits cX5_bits 3 (some .int), Cond.methodLink RX5 169 yX5_wrongWith, Cond.instanceMethod yX5_wrongWith, Cond.selects RX5 yX5_wrongWith yX5_wrongWith, Cond.code yX5_wrongWith cX5_wrongWith 4 (some .int), Cond.fieldLink RX5 13 "BinderParcelsModel" "kept" "[I", Cond.methodLink RX5 44 yX5_moves, Cond.static yX5_moves, Cond.code yX5_moves cX5_moves 5 none]
def wsX5_mending_r2 : List Cond := [Cond.methodLink RX5 134 yX5_doSet, Cond.instanceMethod yX5_doSet, Cond.selects RX5 yX5_doSet yX5_doSet, Cond.code yX5_doSet cX5_doSet 4 none, Cond.methodLink RX5 82 yX5_doParcel, Cond.instanceMethod yX5_doParcel, Cond.selects RX5 yX5_doParcel yX5_doParcel, Cond.code yX5_doParcel cX5_doParcel 8 none, Cond.methodLink RX5 70 yX5_orderOf, Cond.instanceMethod yX5_orderOf, Cond.selects RX5 yX5_orderOf yX5_orderOf, Cond.code yX5_orderOf cX5_orderOf 3 (some .int), Cond.methodLink RX5 73 yX5_earliest, Cond.instanceMethod yX5_earliest, Cond.selects RX5 yX5_earliest yX5_earliest, Cond.code yX5_earliest cX5_earliest 5 (some .int), Cond.methodLink RX5 52 yX5_part, Cond.instanceMethod yX5_part, Cond.selects RX5 yX5_part yX5_part, Cond.code yX5_part cX5_part 3 (some .int), Cond.methodLink RX5 60 yX5_numberOf, Cond.instanceMethod yX5_numberOf, Cond.selects RX5 yX5_numberOf yX5_numberOf, Cond.code yX5_numberOf cX5_numberOf 3 (some .int)]
def wsX5_mending_r3 : List Cond := [Cond.methodLink RX5 67 yX5_issueOf, Cond.instanceMethod yX5_issueOf, Cond.selects RX5 yX5_issueOf yX5_issueOf, Cond.code yX5_issueOf cX5_issueOf 3 (some .int), Cond.methodLink RX5 76 yX5_removeAll, Cond.instanceMethod yX5_removeAll, Cond.selects RX5 yX5_removeAll yX5_removeAll, Cond.code yX5_removeAll cX5_removeAll 4 none, Cond.methodLink RX5 63 yX5_remove, Cond.instanceMethod yX5_remove, Cond.selects RX5 yX5_remove yX5_remove, Cond.code yX5_remove cX5_remove 4 none, Cond.methodLink RX5 56 yX5_setPart, Cond.instanceMethod yX5_setPart, Cond.selects RX5 yX5_setPart yX5_setPart, Cond.code yX5_setPart cX5_setPart 4 none, Cond.methodLink RX5 79 yX5_comes, Cond.instanceMethod yX5_comes, Cond.selects RX5 yX5_comes yX5_comes, Cond.code yX5_comes cX5_comes 4 none, Cond.methodLink RX5 103 yX5_wrong, Cond.instanceMethod yX5_wrong, Cond.selects RX5 yX5_wrong yX5_wrong, Cond.code yX5_wrong cX5_wrong 7 (some .int)]
def wsX5_mending_r4 : List Cond := [Cond.methodLink RX5 89 yX5_findLeaves, Cond.instanceMethod yX5_findLeaves, Cond.selects RX5 yX5_findLeaves yX5_findLeaves, Cond.code yX5_findLeaves cX5_findLeaves 4 none, Cond.fieldLink RX5 31 "BinderParcelsModel" "leaves" "[I", Cond.fieldLink RX5 34 "BinderParcelsModel" "rightOnes" "[I", Cond.fieldLink RX5 37 "BinderParcelsModel" "issues" "[I", Cond.methodLink RX5 86 yX5_findIssues, Cond.instanceMethod yX5_findIssues, Cond.selects RX5 yX5_findIssues yX5_findIssues, Cond.code yX5_findIssues cX5_findIssues 2 none, Cond.methodLink RX5 93 yX5_surplusOf, Cond.instanceMethod yX5_surplusOf, Cond.selects RX5 yX5_surplusOf yX5_surplusOf, Cond.code yX5_surplusOf cX5_surplusOf 2 (some .int), Cond.methodLink RX5 97 yX5_oldOf, Cond.instanceMethod yX5_oldOf, Cond.selects RX5 yX5_oldOf yX5_oldOf, Cond.code yX5_oldOf cX5_oldOf 2 (some .int), Cond.methodLink RX5 100 yX5_missingOf, Cond.instanceMethod yX5_missingOf, Cond.selects RX5 yX5_missingOf yX5_missingOf, Cond.code yX5_missingOf cX5_missingOf 2 (some .int)]
def wsX5_mending : List Cond := .code yX5_mending cX5_mending 4 (some .int) :: ((wsX5_mending_r1 ++ (wsX5_mending_r2 ++ (wsX5_mending_r3 ++ wsX5_mending_r4))) ++ wsX50)
def wsX5_rightFrom_r1 : List Cond := [Cond.fieldLink RX5 7 "BinderParcelsModel" "state" "[I", Cond.methodLink RX5 123 yX5_isOwner, Cond.instanceMethod yX5_isOwner, Cond.selects RX5 yX5_isOwner yX5_isOwner, Cond.initialized RX5, Cond.code yX5_isOwner cX5_isOwner 2 (some .boolean), Cond.methodLink RX5 48 yX5_within, Cond.static yX5_within, Cond.code yX5_within cX5_within 3 (some .boolean), Cond.methodLink RX5 169 yX5_wrongWith, Cond.instanceMethod yX5_wrongWith, Cond.selects RX5 yX5_wrongWith yX5_wrongWith, Cond.code yX5_wrongWith cX5_wrongWith 4 (some .int), Cond.fieldLink RX5 13 "BinderParcelsModel" "kept" "[I", Cond.methodLink RX5 44 yX5_moves, Cond.static yX5_moves, Cond.code yX5_moves cX5_moves 5 none, Cond.methodLink RX5 134 yX5_doSet, Cond.instanceMethod yX5_doSet, Cond.selects RX5 yX5_doSet yX5_doSet, Cond.code yX5_doSet cX5_doSet 4 none, Cond.methodLink RX5 82 yX5_doParcel, Cond.instanceMethod yX5_doParcel, Cond.selects RX5 yX5_doParcel yX5_doParcel]
def wsX5_rightFrom_r2 : List Cond := [Cond.code yX5_doParcel cX5_doParcel 8 none, Cond.methodLink RX5 70 yX5_orderOf, Cond.instanceMethod yX5_orderOf, Cond.selects RX5 yX5_orderOf yX5_orderOf, Cond.code yX5_orderOf cX5_orderOf 3 (some .int), Cond.methodLink RX5 73 yX5_earliest, Cond.instanceMethod yX5_earliest, Cond.selects RX5 yX5_earliest yX5_earliest, Cond.code yX5_earliest cX5_earliest 5 (some .int), Cond.methodLink RX5 52 yX5_part, Cond.instanceMethod yX5_part, Cond.selects RX5 yX5_part yX5_part, Cond.code yX5_part cX5_part 3 (some .int), Cond.methodLink RX5 60 yX5_numberOf, Cond.instanceMethod yX5_numberOf, Cond.selects RX5 yX5_numberOf yX5_numberOf, Cond.code yX5_numberOf cX5_numberOf 3 (some .int), Cond.methodLink RX5 67 yX5_issueOf, Cond.instanceMethod yX5_issueOf, Cond.selects RX5 yX5_issueOf yX5_issueOf, Cond.code yX5_issueOf cX5_issueOf 3 (some .int), Cond.methodLink RX5 76 yX5_removeAll, Cond.instanceMethod yX5_removeAll, Cond.selects RX5 yX5_removeAll yX5_removeAll]
def wsX5_rightFrom_r3 : List Cond := [Cond.code yX5_removeAll cX5_removeAll 4 none, Cond.methodLink RX5 63 yX5_remove, Cond.instanceMethod yX5_remove, Cond.selects RX5 yX5_remove yX5_remove, Cond.code yX5_remove cX5_remove 4 none, Cond.methodLink RX5 56 yX5_setPart, Cond.instanceMethod yX5_setPart, Cond.selects RX5 yX5_setPart yX5_setPart, Cond.code yX5_setPart cX5_setPart 4 none, Cond.methodLink RX5 79 yX5_comes, Cond.instanceMethod yX5_comes, Cond.selects RX5 yX5_comes yX5_comes, Cond.code yX5_comes cX5_comes 4 none, Cond.methodLink RX5 103 yX5_wrong, Cond.instanceMethod yX5_wrong, Cond.selects RX5 yX5_wrong yX5_wrong, Cond.code yX5_wrong cX5_wrong 7 (some .int), Cond.methodLink RX5 89 yX5_findLeaves, Cond.instanceMethod yX5_findLeaves, Cond.selects RX5 yX5_findLeaves yX5_findLeaves, Cond.code yX5_findLeaves cX5_findLeaves 4 none, Cond.fieldLink RX5 31 "BinderParcelsModel" "leaves" "[I", Cond.fieldLink RX5 34 "BinderParcelsModel" "rightOnes" "[I", Cond.fieldLink RX5 37 "BinderParcelsModel" "issues" "[I"]
def wsX5_rightFrom_r4 : List Cond := [Cond.methodLink RX5 86 yX5_findIssues, Cond.instanceMethod yX5_findIssues, Cond.selects RX5 yX5_findIssues yX5_findIssues, Cond.code yX5_findIssues cX5_findIssues 2 none, Cond.methodLink RX5 93 yX5_surplusOf, Cond.instanceMethod yX5_surplusOf, Cond.selects RX5 yX5_surplusOf yX5_surplusOf, Cond.code yX5_surplusOf cX5_surplusOf 2 (some .int), Cond.methodLink RX5 97 yX5_oldOf, Cond.instanceMethod yX5_oldOf, Cond.selects RX5 yX5_oldOf yX5_oldOf, Cond.code yX5_oldOf cX5_oldOf 2 (some .int), Cond.methodLink RX5 100 yX5_missingOf, Cond.instanceMethod yX5_missingOf, Cond.selects RX5 yX5_missingOf yX5_missingOf, Cond.code yX5_missingOf cX5_missingOf 2 (some .int)]
def wsX5_rightFrom : List Cond := .code yX5_rightFrom cX5_rightFrom 4 (some .int) :: ((wsX5_rightFrom_r1 ++ (wsX5_rightFrom_r2 ++ (wsX5_rightFrom_r3 ++ wsX5_rightFrom_r4))) ++ wsX50)
def wsX5_put : List Cond := .code yX5_put cX5_put 8 (some .int) :: ([.constantLong RX5 175 (255), .fieldLink RX5 120 "BinderParcelsModel" "padLength" "I", .fieldLink RX5 25 "BinderParcelsModel" "pad" "[I", .methodLink RX5 48 yX5_within, .static yX5_within, .initialized RX5, .code yX5_within cX5_within 3 (some .boolean)] ++ wsX50)
def wsX5_wipe : List Cond := .code yX5_wipe cX5_wipe 2 (some .int) :: ([.fieldLink RX5 120 "BinderParcelsModel" "padLength" "I"] ++ wsX50)
def wsX5_fault : List Cond := .code yX5_fault cX5_fault 1 (some .int) :: ([.methodLink RX5 109 yX5_findFault, .instanceMethod yX5_findFault, .selects RX5 yX5_findFault yX5_findFault, .initialized RX5, .code yX5_findFault cX5_findFault 2 (some .int), .fieldLink RX5 106 "BinderParcelsModel" "ordersMany" "I", .fieldLink RX5 120 "BinderParcelsModel" "padLength" "I", .fieldLink RX5 25 "BinderParcelsModel" "pad" "[I", .fieldLink RX5 28 "BinderParcelsModel" "orders" "[I", .methodLink RX5 177 yX5_canStand, .static yX5_canStand, .code yX5_canStand cX5_canStand 2 (some .boolean), .methodLink RX5 48 yX5_within, .static yX5_within, .code yX5_within cX5_within 3 (some .boolean)] ++ wsX50)
def wsX5_undo : List Cond := .code yX5_undo cX5_undo 1 (some .int) :: ([.fieldLink RX5 40 "BinderParcelsModel" "recorded" "I", .fieldLink RX5 16 "BinderParcelsModel" "history" "[I", .fieldLink RX5 7 "BinderParcelsModel" "state" "[I", .methodLink RX5 44 yX5_moves, .static yX5_moves, .initialized RX5, .code yX5_moves cX5_moves 5 none] ++ wsX50)
def wsX5_save : List Cond := .code yX5_save cX5_save 2 (some .int) :: ([.fieldLink RX5 7 "BinderParcelsModel" "state" "[I", .fieldLink RX5 19 "BinderParcelsModel" "slots" "[I", .fieldLink RX5 22 "BinderParcelsModel" "isSaved" "[I", .methodLink RX5 48 yX5_within, .static yX5_within, .initialized RX5, .code yX5_within cX5_within 3 (some .boolean), .methodLink RX5 44 yX5_moves, .static yX5_moves, .code yX5_moves cX5_moves 5 none] ++ wsX50)
def wsX5_restore : List Cond := .code yX5_restore cX5_restore 2 (some .int) :: ([.fieldLink RX5 22 "BinderParcelsModel" "isSaved" "[I", .fieldLink RX5 19 "BinderParcelsModel" "slots" "[I", .fieldLink RX5 7 "BinderParcelsModel" "state" "[I", .methodLink RX5 48 yX5_within, .static yX5_within, .initialized RX5, .code yX5_within cX5_within 3 (some .boolean), .methodLink RX5 117 yX5_record, .instanceMethod yX5_record, .selects RX5 yX5_record yX5_record, .code yX5_record cX5_record 2 none, .fieldLink RX5 40 "BinderParcelsModel" "recorded" "I", .fieldLink RX5 16 "BinderParcelsModel" "history" "[I", .methodLink RX5 44 yX5_moves, .static yX5_moves, .code yX5_moves cX5_moves 5 none] ++ wsX50)
def wsJ9_min_7cf53 : List Cond := .code yJ9_min_7cf53 cJ9_min_7cf53 2 (some .int) :: ([])
def wsL_law_r1 : List Cond := [Cond.classLink RL 7 RX4, Cond.instantiable RX4 6, Cond.initialized RX4, Cond.classLink RL 10 RX5, Cond.instantiable RX5 13, Cond.initialized RX5, Cond.constantLong RL 83 (4294967295), Cond.methodLink RL 9 yX4_init, Cond.instanceMethod yX4_init, Cond.code yX4_init cX4_init 2 none, Cond.methodLink RX4 1 objectInit, Cond.instanceMethod objectInit, Cond.code objectInit ⟨#[0xb1]⟩ 1 none, Cond.classLink RX4 7 RX3, Cond.instantiable RX3 8, Cond.initialized RX3, Cond.fieldLink RX4 10 "BinderParcels" "now" "LBinderParcels$State;", Cond.classLink RX4 16 RX1, Cond.instantiable RX1 3, Cond.initialized RX1, Cond.fieldLink RX4 19 "BinderParcels" "history" "LBinderParcels$History;", Cond.fieldLink RX4 23 "BinderParcels" "slots" "[LBinderParcels$State;", Cond.arrayClass .boolean, Cond.fieldLink RX4 27 "BinderParcels" "isSaved" "[Z"]
def wsL_law_r2 : List Cond := [Cond.classLink RX4 31 RX2, Cond.instantiable RX2 2, Cond.initialized RX2, Cond.fieldLink RX4 34 "BinderParcels" "pad" "LBinderParcels$Pad;", Cond.classLink RX4 38 RX0, Cond.fieldLink RX4 40 "BinderParcels" "trials" "[LBinderParcels$Binder;", Cond.instantiable RX0 2, Cond.initialized RX0, Cond.methodLink RX4 9 yX3_init, Cond.instanceMethod yX3_init, Cond.code yX3_init cX3_init 2 none, Cond.methodLink RX3 3 objectInit, Cond.arrayClass .int, Cond.fieldLink RX3 9 "BinderParcels$State" "orders" "[I", Cond.fieldLink RX3 15 "BinderParcels$State" "orderCounts" "[I", Cond.classLink RX3 18 RX0, Cond.fieldLink RX3 21 "BinderParcels$State" "text" "LBinderParcels$Binder;", Cond.fieldLink RX3 25 "BinderParcels$State" "binders" "[LBinderParcels$Binder;", Cond.fieldLink RX3 29 "BinderParcels$State" "waiting" "[I", Cond.fieldLink RX3 32 "BinderParcels$State" "lost" "[I", Cond.instanceMethod yX0_init, Cond.code yX0_init cX0_init 1 none, Cond.methodLink RX0 3 objectInit, Cond.fieldLink RX0 9 "BinderParcels$Binder" "leaves" "[I"]
def wsL_law_r3 : List Cond := [Cond.methodLink RX4 18 yX1_init, Cond.instanceMethod yX1_init, Cond.code yX1_init cX1_init 2 none, Cond.methodLink RX1 3 objectInit, Cond.classLink RX1 9 RX3, Cond.fieldLink RX1 11 "BinderParcels$History" "states" "[LBinderParcels$State;", Cond.methodLink RX1 17 yX3_init, Cond.instanceMethod yX2_init, Cond.code yX2_init cX2_init 1 none, Cond.methodLink RX2 5 objectInit, Cond.arrayClass .char, Cond.fieldLink RX2 11 "BinderParcels$Pad" "characters" "[C", Cond.methodLink RL 12 yX5_init, Cond.instanceMethod yX5_init, Cond.code yX5_init cX5_init 1 none, Cond.methodLink RX5 1 objectInit, Cond.fieldLink RX5 7 "BinderParcelsModel" "state" "[I", Cond.fieldLink RX5 13 "BinderParcelsModel" "kept" "[I", Cond.fieldLink RX5 16 "BinderParcelsModel" "history" "[I", Cond.fieldLink RX5 19 "BinderParcelsModel" "slots" "[I", Cond.fieldLink RX5 22 "BinderParcelsModel" "isSaved" "[I", Cond.fieldLink RX5 25 "BinderParcelsModel" "pad" "[I", Cond.fieldLink RX5 28 "BinderParcelsModel" "orders" "[I", Cond.fieldLink RX5 31 "BinderParcelsModel" "leaves" "[I"]
def wsL_law_r4 : List Cond := [Cond.fieldLink RX5 34 "BinderParcelsModel" "rightOnes" "[I", Cond.fieldLink RX5 37 "BinderParcelsModel" "issues" "[I", Cond.methodLink RL 13 yX4_issue, Cond.instanceMethod yX4_issue, Cond.selects RX4 yX4_issue yX4_issue, Cond.code yX4_issue cX4_issue 2 (some .int), Cond.methodLink RX4 45 yX2_firstFault, Cond.instanceMethod yX2_firstFault, Cond.selects RX2 yX2_firstFault yX2_firstFault, Cond.code yX2_firstFault cX2_firstFault 2 (some .int), Cond.fieldLink RX2 21 "BinderParcels$Pad" "length" "I", Cond.methodLink RX2 25 yX2_canStand, Cond.static yX2_canStand, Cond.code yX2_canStand cX2_canStand 2 (some .boolean), Cond.methodLink RX4 49 yX2_hasNumberTwice, Cond.instanceMethod yX2_hasNumberTwice, Cond.selects RX2 yX2_hasNumberTwice yX2_hasNumberTwice, Cond.code yX2_hasNumberTwice cX2_hasNumberTwice 3 (some .boolean), Cond.methodLink RX2 29 yX2_orders, Cond.instanceMethod yX2_orders, Cond.selects RX2 yX2_orders yX2_orders, Cond.code yX2_orders cX2_orders 1 (some .int), Cond.methodLink RX2 33 yX2_order, Cond.instanceMethod yX2_order]
def wsL_law_r5 : List Cond := [Cond.selects RX2 yX2_order yX2_order, Cond.code yX2_order cX2_order 4 (some .int), Cond.methodLink RX4 57 yX1_record, Cond.instanceMethod yX1_record, Cond.selects RX1 yX1_record yX1_record, Cond.code yX1_record cX1_record 2 none, Cond.fieldLink RX1 18 "BinderParcels$History" "oldest" "I", Cond.fieldLink RX1 22 "BinderParcels$History" "size" "I", Cond.methodLink RX1 25 yX3_copy, Cond.instanceMethod yX3_copy, Cond.selects RX3 yX3_copy yX3_copy, Cond.code yX3_copy cX3_copy 3 none, Cond.methodLink RX3 35 arraycopyName, Cond.native arraycopyName, Cond.static arraycopyName, Cond.initialized "java/lang/System", Cond.fieldLink RX3 41 "BinderParcels$State" "parcels" "I", Cond.fieldLink RX3 49 "BinderParcels$State" "owners" "I", Cond.methodLink RX3 45 yX0_copy, Cond.instanceMethod yX0_copy, Cond.selects RX0 yX0_copy yX0_copy, Cond.code yX0_copy cX0_copy 2 none, Cond.fieldLink RX0 15 "BinderParcels$Binder" "size" "I", Cond.methodLink RX0 19 arraycopyName]
def wsL_law_r6 : List Cond := [Cond.methodLink RX4 61 yX3_addParcel, Cond.instanceMethod yX3_addParcel, Cond.selects RX3 yX3_addParcel yX3_addParcel, Cond.code yX3_addParcel cX3_addParcel 4 (some .int), Cond.methodLink RX3 52 yX2_orders, Cond.methodLink RX3 57 yX2_order, Cond.methodLink RX3 61 yX3_doWithCare, Cond.instanceMethod yX3_doWithCare, Cond.selects RX3 yX3_doWithCare yX3_doWithCare, Cond.code yX3_doWithCare cX3_doWithCare 5 none, Cond.methodLink RX3 65 yX3_order, Cond.instanceMethod yX3_order, Cond.selects RX3 yX3_order yX3_order, Cond.code yX3_order cX3_order 3 (some .int), Cond.methodLink RX3 68 yX0_removeAll, Cond.instanceMethod yX0_removeAll, Cond.selects RX0 yX0_removeAll yX0_removeAll, Cond.code yX0_removeAll cX0_removeAll 3 none, Cond.methodLink RX0 36 yX0_start, Cond.instanceMethod yX0_start, Cond.selects RX0 yX0_start yX0_start, Cond.code yX0_start cX0_start 2 (some .int), Cond.methodLink RX0 25 yX0_leafWith, Cond.static yX0_leafWith]
def wsL_law_r7 : List Cond := [Cond.code yX0_leafWith cX0_leafWith 2 (some .int), Cond.methodLink RX0 29 yX0_placeOf, Cond.instanceMethod yX0_placeOf, Cond.selects RX0 yX0_placeOf yX0_placeOf, Cond.code yX0_placeOf cX0_placeOf 3 (some .int), Cond.methodLink RX0 39 yX0_end, Cond.instanceMethod yX0_end, Cond.selects RX0 yX0_end yX0_end, Cond.code yX0_end cX0_end 4 (some .int), Cond.methodLink RX0 33 yX0_numberOf, Cond.static yX0_numberOf, Cond.code yX0_numberOf cX0_numberOf 1 (some .int), Cond.methodLink RX0 42 yX0_removeRange, Cond.instanceMethod yX0_removeRange, Cond.selects RX0 yX0_removeRange yX0_removeRange, Cond.code yX0_removeRange cX0_removeRange 3 none, Cond.methodLink RX3 72 yX0_insert, Cond.instanceMethod yX0_insert, Cond.selects RX0 yX0_insert yX0_insert, Cond.code yX0_insert cX0_insert 5 none, Cond.methodLink RX4 65 yX2_empty, Cond.instanceMethod yX2_empty, Cond.selects RX2 yX2_empty yX2_empty, Cond.code yX2_empty cX2_empty 1 none]
def wsL_law_r8 : List Cond := [Cond.methodLink RL 17 yX5_issue, Cond.instanceMethod yX5_issue, Cond.selects RX5 yX5_issue yX5_issue, Cond.code yX5_issue cX5_issue 3 (some .int), Cond.fieldLink RX5 106 "BinderParcelsModel" "ordersMany" "I", Cond.fieldLink RX5 120 "BinderParcelsModel" "padLength" "I", Cond.methodLink RX5 109 yX5_findFault, Cond.instanceMethod yX5_findFault, Cond.selects RX5 yX5_findFault yX5_findFault, Cond.code yX5_findFault cX5_findFault 2 (some .int), Cond.methodLink RX5 177 yX5_canStand, Cond.static yX5_canStand, Cond.code yX5_canStand cX5_canStand 2 (some .boolean), Cond.methodLink RX5 48 yX5_within, Cond.static yX5_within, Cond.code yX5_within cX5_within 3 (some .boolean), Cond.methodLink RX5 113 yX5_comesTwice, Cond.instanceMethod yX5_comesTwice, Cond.selects RX5 yX5_comesTwice yX5_comesTwice, Cond.code yX5_comesTwice cX5_comesTwice 4 (some .boolean), Cond.methodLink RX5 117 yX5_record, Cond.instanceMethod yX5_record, Cond.selects RX5 yX5_record yX5_record, Cond.code yX5_record cX5_record 2 none]
def wsL_law_r9 : List Cond := [Cond.fieldLink RX5 40 "BinderParcelsModel" "recorded" "I", Cond.methodLink RX5 44 yX5_moves, Cond.static yX5_moves, Cond.code yX5_moves cX5_moves 5 none, Cond.methodLink RX5 82 yX5_doParcel, Cond.instanceMethod yX5_doParcel, Cond.selects RX5 yX5_doParcel yX5_doParcel, Cond.code yX5_doParcel cX5_doParcel 8 none, Cond.methodLink RX5 70 yX5_orderOf, Cond.instanceMethod yX5_orderOf, Cond.selects RX5 yX5_orderOf yX5_orderOf, Cond.code yX5_orderOf cX5_orderOf 3 (some .int), Cond.methodLink RX5 73 yX5_earliest, Cond.instanceMethod yX5_earliest, Cond.selects RX5 yX5_earliest yX5_earliest, Cond.code yX5_earliest cX5_earliest 5 (some .int), Cond.methodLink RX5 52 yX5_part, Cond.instanceMethod yX5_part, Cond.selects RX5 yX5_part yX5_part, Cond.code yX5_part cX5_part 3 (some .int), Cond.methodLink RX5 60 yX5_numberOf, Cond.instanceMethod yX5_numberOf, Cond.selects RX5 yX5_numberOf yX5_numberOf, Cond.code yX5_numberOf cX5_numberOf 3 (some .int)]
def wsL_law_r10 : List Cond := [Cond.methodLink RX5 67 yX5_issueOf, Cond.instanceMethod yX5_issueOf, Cond.selects RX5 yX5_issueOf yX5_issueOf, Cond.code yX5_issueOf cX5_issueOf 3 (some .int), Cond.methodLink RX5 76 yX5_removeAll, Cond.instanceMethod yX5_removeAll, Cond.selects RX5 yX5_removeAll yX5_removeAll, Cond.code yX5_removeAll cX5_removeAll 4 none, Cond.methodLink RX5 63 yX5_remove, Cond.instanceMethod yX5_remove, Cond.selects RX5 yX5_remove yX5_remove, Cond.code yX5_remove cX5_remove 4 none, Cond.methodLink RX5 56 yX5_setPart, Cond.instanceMethod yX5_setPart, Cond.selects RX5 yX5_setPart yX5_setPart, Cond.code yX5_setPart cX5_setPart 4 none, Cond.methodLink RX5 79 yX5_comes, Cond.instanceMethod yX5_comes, Cond.selects RX5 yX5_comes yX5_comes, Cond.code yX5_comes cX5_comes 4 none, Cond.methodLink RL 18 yX4_own, Cond.instanceMethod yX4_own, Cond.selects RX4 yX4_own yX4_own, Cond.code yX4_own cX4_own 1 (some .int)]
def wsL_law_r11 : List Cond := [Cond.methodLink RX4 71 yX3_addOwner, Cond.instanceMethod yX3_addOwner, Cond.selects RX3 yX3_addOwner yX3_addOwner, Cond.code yX3_addOwner cX3_addOwner 2 (some .int), Cond.methodLink RL 21 yX5_own, Cond.instanceMethod yX5_own, Cond.selects RX5 yX5_own yX5_own, Cond.code yX5_own cX5_own 3 (some .int), Cond.methodLink RL 22 yX4_done, Cond.instanceMethod yX4_done, Cond.selects RX4 yX4_done yX4_done, Cond.code yX4_done cX4_done 5 (some .int), Cond.methodLink RX4 74 yX3_hasOwner, Cond.instanceMethod yX3_hasOwner, Cond.selects RX3 yX3_hasOwner yX3_hasOwner, Cond.code yX3_hasOwner cX3_hasOwner 2 (some .boolean), Cond.methodLink RX4 78 yX3_hasParcel, Cond.instanceMethod yX3_hasParcel, Cond.selects RX3 yX3_hasParcel yX3_hasParcel, Cond.code yX3_hasParcel cX3_hasParcel 2 (some .boolean), Cond.methodLink RX4 81 yX3_isWaiting, Cond.instanceMethod yX3_isWaiting, Cond.selects RX3 yX3_isWaiting yX3_isWaiting, Cond.code yX3_isWaiting cX3_isWaiting 3 (some .boolean)]
def wsL_law_r12 : List Cond := [Cond.methodLink RX4 92 yX3_doWithCare, Cond.methodLink RX4 96 yX3_doCarelessly, Cond.instanceMethod yX3_doCarelessly, Cond.selects RX3 yX3_doCarelessly yX3_doCarelessly, Cond.code yX3_doCarelessly cX3_doCarelessly 5 none, Cond.methodLink RX3 76 yX0_removeEarliest, Cond.instanceMethod yX0_removeEarliest, Cond.selects RX0 yX0_removeEarliest yX0_removeEarliest, Cond.code yX0_removeEarliest cX0_removeEarliest 3 none, Cond.methodLink RX0 46 Lib.Math.min.name, Cond.static Lib.Math.min.name, Cond.initialized "java/lang/Math", Cond.code Lib.Math.min.name Lib.Math.min.code 2 (some .int), Cond.methodLink RL 26 yX5_done, Cond.instanceMethod yX5_done, Cond.selects RX5 yX5_done yX5_done, Cond.code yX5_done cX5_done 4 (some .int), Cond.methodLink RX5 123 yX5_isOwner, Cond.instanceMethod yX5_isOwner, Cond.selects RX5 yX5_isOwner yX5_isOwner, Cond.code yX5_isOwner cX5_isOwner 2 (some .boolean), Cond.methodLink RX5 127 yX5_isParcel, Cond.instanceMethod yX5_isParcel, Cond.selects RX5 yX5_isParcel yX5_isParcel]
def wsL_law_r13 : List Cond := [Cond.code yX5_isParcel cX5_isParcel 2 (some .boolean), Cond.methodLink RX5 130 yX5_waits, Cond.instanceMethod yX5_waits, Cond.selects RX5 yX5_waits yX5_waits, Cond.code yX5_waits cX5_waits 3 (some .boolean), Cond.methodLink RL 27 yX4_doAll, Cond.instanceMethod yX4_doAll, Cond.selects RX4 yX4_doAll yX4_doAll, Cond.code yX4_doAll cX4_doAll 3 (some .int), Cond.methodLink RX4 102 yX3_doSetWithCare, Cond.instanceMethod yX3_doSetWithCare, Cond.selects RX3 yX3_doSetWithCare yX3_doSetWithCare, Cond.code yX3_doSetWithCare cX3_doSetWithCare 4 none, Cond.methodLink RX4 105 yJ6_bitCount_0f7a4, Cond.static yJ6_bitCount_0f7a4, Cond.initialized RJ6, Cond.code yJ6_bitCount_0f7a4 cJ6_bitCount_0f7a4 1 (some .int), Cond.constant RJ6 265 (1431655765), Cond.constant RJ6 266 (858993459), Cond.constant RJ6 267 (252645135), Cond.methodLink RL 31 yX5_doAll, Cond.instanceMethod yX5_doAll, Cond.selects RX5 yX5_doAll yX5_doAll, Cond.code yX5_doAll cX5_doAll 3 (some .int)]
def wsL_law_r14 : List Cond := [Cond.methodLink RX5 134 yX5_doSet, Cond.instanceMethod yX5_doSet, Cond.selects RX5 yX5_doSet yX5_doSet, Cond.code yX5_doSet cX5_doSet 4 none, Cond.methodLink RX5 137 yX5_bits, Cond.static yX5_bits, Cond.code yX5_bits cX5_bits 3 (some .int), Cond.methodLink RL 32 yX4_lose, Cond.instanceMethod yX4_lose, Cond.selects RX4 yX4_lose yX4_lose, Cond.code yX4_lose cX4_lose 3 (some .int), Cond.methodLink RL 36 yX5_lose, Cond.instanceMethod yX5_lose, Cond.selects RX5 yX5_lose yX5_lose, Cond.code yX5_lose cX5_lose 3 (some .int), Cond.methodLink RL 37 yX4_again, Cond.instanceMethod yX4_again, Cond.selects RX4 yX4_again yX4_again, Cond.code yX4_again cX4_again 3 (some .int), Cond.methodLink RL 40 yX5_again, Cond.instanceMethod yX5_again, Cond.selects RX5 yX5_again yX5_again, Cond.code yX5_again cX5_again 3 (some .int), Cond.methodLink RL 41 yX4_hand]
def wsL_law_r15 : List Cond := [Cond.instanceMethod yX4_hand, Cond.selects RX4 yX4_hand yX4_hand, Cond.code yX4_hand cX4_hand 7 (some .int), Cond.methodLink RX4 114 yX4_isNumber, Cond.static yX4_isNumber, Cond.code yX4_isNumber cX4_isNumber 1 (some .boolean), Cond.methodLink RX4 117 yX0_holds, Cond.instanceMethod yX0_holds, Cond.selects RX0 yX0_holds yX0_holds, Cond.code yX0_holds cX0_holds 5 (some .boolean), Cond.methodLink RX4 120 yX0_insert, Cond.methodLink RX4 124 yX0_remove, Cond.instanceMethod yX0_remove, Cond.selects RX0 yX0_remove yX0_remove, Cond.code yX0_remove cX0_remove 4 none, Cond.methodLink RX0 51 yX0_holds, Cond.methodLink RL 45 yX5_hand, Cond.instanceMethod yX5_hand, Cond.selects RX5 yX5_hand yX5_hand, Cond.code yX5_hand cX5_hand 6 (some .int), Cond.methodLink RX5 140 yX5_isNumber, Cond.static yX5_isNumber, Cond.code yX5_isNumber cX5_isNumber 1 (some .boolean), Cond.methodLink RX5 143 yX5_leafWith]
def wsL_law_r16 : List Cond := [Cond.instanceMethod yX5_leafWith, Cond.selects RX5 yX5_leafWith yX5_leafWith, Cond.code yX5_leafWith cX5_leafWith 6 (some .int), Cond.methodLink RL 46 yX4_parcel, Cond.instanceMethod yX4_parcel, Cond.selects RX4 yX4_parcel yX4_parcel, Cond.code yX4_parcel cX4_parcel 3 (some .int), Cond.methodLink RX4 130 yX3_order, Cond.methodLink RX4 134 yX3_ownersOf, Cond.instanceMethod yX3_ownersOf, Cond.selects RX3 yX3_ownersOf yX3_ownersOf, Cond.code yX3_ownersOf cX3_ownersOf 5 (some .int), Cond.methodLink RL 49 yX5_parcel, Cond.instanceMethod yX5_parcel, Cond.selects RX5 yX5_parcel yX5_parcel, Cond.code yX5_parcel cX5_parcel 4 (some .int), Cond.methodLink RX5 147 yX5_ownersWith, Cond.instanceMethod yX5_ownersWith, Cond.selects RX5 yX5_ownersWith yX5_ownersWith, Cond.code yX5_ownersWith cX5_ownersWith 5 (some .int), Cond.methodLink RL 50 yX4_text, Cond.instanceMethod yX4_text, Cond.selects RX4 yX4_text yX4_text, Cond.code yX4_text cX4_text 2 (some .int)]
def wsL_law_r17 : List Cond := [Cond.methodLink RX4 142 yX0_earliestIssue, Cond.instanceMethod yX0_earliestIssue, Cond.selects RX0 yX0_earliestIssue yX0_earliestIssue, Cond.code yX0_earliestIssue cX0_earliestIssue 3 (some .int), Cond.methodLink RX0 55 yX0_issueOf, Cond.static yX0_issueOf, Cond.code yX0_issueOf cX0_issueOf 1 (some .int), Cond.methodLink RL 53 yX5_text, Cond.instanceMethod yX5_text, Cond.selects RX5 yX5_text yX5_text, Cond.code yX5_text cX5_text 2 (some .int), Cond.methodLink RX5 86 yX5_findIssues, Cond.instanceMethod yX5_findIssues, Cond.selects RX5 yX5_findIssues yX5_findIssues, Cond.code yX5_findIssues cX5_findIssues 2 none, Cond.methodLink RL 54 yX4_leaf, Cond.instanceMethod yX4_leaf, Cond.selects RX4 yX4_leaf yX4_leaf, Cond.code yX4_leaf cX4_leaf 5 (some .int), Cond.methodLink RX4 145 yX0_held, Cond.instanceMethod yX0_held, Cond.selects RX0 yX0_held yX0_held, Cond.code yX0_held cX0_held 3 (some .int), Cond.methodLink RX4 148 yX0_latestIssue]
def wsL_law_r18 : List Cond := [Cond.instanceMethod yX0_latestIssue, Cond.selects RX0 yX0_latestIssue yX0_latestIssue, Cond.code yX0_latestIssue cX0_latestIssue 4 (some .int), Cond.methodLink RX4 151 yX0_difference, Cond.instanceMethod yX0_difference, Cond.selects RX0 yX0_difference yX0_difference, Cond.code yX0_difference cX0_difference 6 (some .int), Cond.methodLink RX0 58 yX0_held, Cond.methodLink RX0 61 yX0_earliestIssue, Cond.methodLink RL 58 yX5_leaf, Cond.instanceMethod yX5_leaf, Cond.selects RX5 yX5_leaf yX5_leaf, Cond.code yX5_leaf cX5_leaf 4 (some .int), Cond.methodLink RX5 89 yX5_findLeaves, Cond.instanceMethod yX5_findLeaves, Cond.selects RX5 yX5_findLeaves yX5_findLeaves, Cond.code yX5_findLeaves cX5_findLeaves 4 none, Cond.methodLink RX5 150 yX5_issueIn, Cond.instanceMethod yX5_issueIn, Cond.selects RX5 yX5_issueIn yX5_issueIn, Cond.code yX5_issueIn cX5_issueIn 8 (some .int), Cond.methodLink RX5 93 yX5_surplusOf, Cond.instanceMethod yX5_surplusOf, Cond.selects RX5 yX5_surplusOf yX5_surplusOf]
def wsL_law_r19 : List Cond := [Cond.code yX5_surplusOf cX5_surplusOf 2 (some .int), Cond.methodLink RX5 97 yX5_oldOf, Cond.instanceMethod yX5_oldOf, Cond.selects RX5 yX5_oldOf yX5_oldOf, Cond.code yX5_oldOf cX5_oldOf 2 (some .int), Cond.methodLink RX5 100 yX5_missingOf, Cond.instanceMethod yX5_missingOf, Cond.selects RX5 yX5_missingOf yX5_missingOf, Cond.code yX5_missingOf cX5_missingOf 2 (some .int), Cond.methodLink RL 59 yX4_of, Cond.instanceMethod yX4_of, Cond.selects RX4 yX4_of yX4_of, Cond.code yX4_of cX4_of 4 (some .int), Cond.methodLink RX4 155 yX0_differences, Cond.instanceMethod yX0_differences, Cond.selects RX0 yX0_differences yX0_differences, Cond.code yX0_differences cX0_differences 5 (some .int), Cond.methodLink RX0 64 yX0_difference, Cond.methodLink RX4 159 yX0_isSameAs, Cond.instanceMethod yX0_isSameAs, Cond.selects RX0 yX0_isSameAs yX0_isSameAs, Cond.code yX0_isSameAs cX0_isSameAs 3 (some .boolean), Cond.methodLink RX4 163 yX0_checkNumber, Cond.instanceMethod yX0_checkNumber]
def wsL_law_r20 : List Cond := [Cond.selects RX0 yX0_checkNumber yX0_checkNumber, Cond.code yX0_checkNumber cX0_checkNumber 3 (some .int), Cond.methodLink RL 62 yX5_of, Cond.instanceMethod yX5_of, Cond.selects RX5 yX5_of yX5_of, Cond.code yX5_of cX5_of 3 (some .int), Cond.methodLink RX5 103 yX5_wrong, Cond.instanceMethod yX5_wrong, Cond.selects RX5 yX5_wrong yX5_wrong, Cond.code yX5_wrong cX5_wrong 7 (some .int), Cond.methodLink RX5 154 yX5_isRight, Cond.instanceMethod yX5_isRight, Cond.selects RX5 yX5_isRight yX5_isRight, Cond.code yX5_isRight cX5_isRight 2 (some .boolean), Cond.methodLink RX5 157 yX5_checkOf, Cond.instanceMethod yX5_checkOf, Cond.selects RX5 yX5_checkOf yX5_checkOf, Cond.code yX5_checkOf cX5_checkOf 4 (some .int), Cond.methodLink RL 63 yX4_count, Cond.instanceMethod yX4_count, Cond.selects RX4 yX4_count yX4_count, Cond.code yX4_count cX4_count 2 (some .int), Cond.methodLink RX4 166 yX3_ownersWithRightBinders, Cond.instanceMethod yX3_ownersWithRightBinders]
def wsL_law_r21 : List Cond := [Cond.selects RX3 yX3_ownersWithRightBinders yX3_ownersWithRightBinders, Cond.code yX3_ownersWithRightBinders cX3_ownersWithRightBinders 3 (some .int), Cond.methodLink RX3 79 yX0_isSameAs, Cond.methodLink RX4 169 yX0_leavesOf, Cond.instanceMethod yX0_leavesOf, Cond.selects RX0 yX0_leavesOf yX0_leavesOf, Cond.code yX0_leavesOf cX0_leavesOf 4 (some .int), Cond.methodLink RX4 172 yX3_parcelWithMostLeaves, Cond.instanceMethod yX3_parcelWithMostLeaves, Cond.selects RX3 yX3_parcelWithMostLeaves yX3_parcelWithMostLeaves, Cond.code yX3_parcelWithMostLeaves cX3_parcelWithMostLeaves 5 (some .int), Cond.methodLink RX3 83 yX0_leavesOf, Cond.methodLink RL 66 yX5_count, Cond.instanceMethod yX5_count, Cond.selects RX5 yX5_count yX5_count, Cond.code yX5_count cX5_count 2 (some .int), Cond.methodLink RX5 163 yX5_rightOwners, Cond.instanceMethod yX5_rightOwners, Cond.selects RX5 yX5_rightOwners yX5_rightOwners, Cond.code yX5_rightOwners cX5_rightOwners 3 (some .int), Cond.methodLink RX5 160 yX5_inText, Cond.instanceMethod yX5_inText, Cond.selects RX5 yX5_inText yX5_inText, Cond.code yX5_inText cX5_inText 4 (some .int)]
def wsL_law_r22 : List Cond := [Cond.methodLink RX5 166 yX5_mostInText, Cond.instanceMethod yX5_mostInText, Cond.selects RX5 yX5_mostInText yX5_mostInText, Cond.code yX5_mostInText cX5_mostInText 4 (some .int), Cond.methodLink RL 67 yX4_ifDone, Cond.instanceMethod yX4_ifDone, Cond.selects RX4 yX4_ifDone yX4_ifDone, Cond.code yX4_ifDone cX4_ifDone 3 (some .int), Cond.methodLink RX4 179 yX4_tried, Cond.instanceMethod yX4_tried, Cond.selects RX4 yX4_tried yX4_tried, Cond.code yX4_tried cX4_tried 4 (some (.object "BinderParcels$Binder")), Cond.methodLink RX4 187 yX0_copy, Cond.methodLink RX4 183 yX0_wrong, Cond.instanceMethod yX0_wrong, Cond.selects RX0 yX0_wrong yX0_wrong, Cond.code yX0_wrong cX0_wrong 2 (some .int), Cond.methodLink RX0 68 yX0_differences, Cond.methodLink RL 70 yX5_ifDone, Cond.instanceMethod yX5_ifDone, Cond.selects RX5 yX5_ifDone yX5_ifDone, Cond.code yX5_ifDone cX5_ifDone 3 (some .int), Cond.methodLink RX5 169 yX5_wrongWith, Cond.instanceMethod yX5_wrongWith]
def wsL_law_r23 : List Cond := [Cond.selects RX5 yX5_wrongWith yX5_wrongWith, Cond.code yX5_wrongWith cX5_wrongWith 4 (some .int), Cond.methodLink RL 71 yX4_ifAllDone, Cond.instanceMethod yX4_ifAllDone, Cond.selects RX4 yX4_ifAllDone yX4_ifAllDone, Cond.code yX4_ifAllDone cX4_ifAllDone 2 (some .int), Cond.methodLink RL 74 yX5_ifAllDone, Cond.instanceMethod yX5_ifAllDone, Cond.selects RX5 yX5_ifAllDone yX5_ifAllDone, Cond.code yX5_ifAllDone cX5_ifAllDone 2 (some .int), Cond.methodLink RL 75 yX4_mending, Cond.instanceMethod yX4_mending, Cond.selects RX4 yX4_mending yX4_mending, Cond.code yX4_mending cX4_mending 4 (some .int), Cond.methodLink RX4 191 yX4_lowestMending, Cond.static yX4_lowestMending, Cond.code yX4_lowestMending cX4_lowestMending 9 (some .int), Cond.methodLink RX4 211 Lib.Math.min.name, Cond.methodLink RL 78 yX5_mending, Cond.instanceMethod yX5_mending, Cond.selects RX5 yX5_mending yX5_mending, Cond.code yX5_mending cX5_mending 4 (some .int), Cond.methodLink RX5 172 yX5_mendingOf, Cond.instanceMethod yX5_mendingOf]
def wsL_law_r24 : List Cond := [Cond.selects RX5 yX5_mendingOf yX5_mendingOf, Cond.code yX5_mendingOf cX5_mendingOf 4 (some .int), Cond.methodLink RL 79 yX4_rightFrom, Cond.instanceMethod yX4_rightFrom, Cond.selects RX4 yX4_rightFrom yX4_rightFrom, Cond.code yX4_rightFrom cX4_rightFrom 4 (some .int), Cond.methodLink RL 82 yX5_rightFrom, Cond.instanceMethod yX5_rightFrom, Cond.selects RX5 yX5_rightFrom yX5_rightFrom, Cond.code yX5_rightFrom cX5_rightFrom 4 (some .int), Cond.methodLink RL 85 yX4_put, Cond.instanceMethod yX4_put, Cond.selects RX4 yX4_put yX4_put, Cond.code yX4_put cX4_put 4 (some .int), Cond.methodLink RX4 195 yX2_charactersIn, Cond.static yX2_charactersIn, Cond.code yX2_charactersIn cX2_charactersIn 7 (some .int), Cond.constantLong RX2 15 (255), Cond.constantLong RX2 17 (33), Cond.constantLong RX2 19 (126), Cond.methodLink RX4 199 yX2_append, Cond.instanceMethod yX2_append, Cond.selects RX2 yX2_append yX2_append, Cond.code yX2_append cX2_append 7 none]
def wsL_law_r25 : List Cond := [Cond.methodLink RL 89 yX5_put, Cond.instanceMethod yX5_put, Cond.selects RX5 yX5_put yX5_put, Cond.code yX5_put cX5_put 8 (some .int), Cond.constantLong RX5 175 (255), Cond.methodLink RL 90 yX4_wipe, Cond.instanceMethod yX4_wipe, Cond.selects RX4 yX4_wipe yX4_wipe, Cond.code yX4_wipe cX4_wipe 2 (some .int), Cond.methodLink RL 93 yX5_wipe, Cond.instanceMethod yX5_wipe, Cond.selects RX5 yX5_wipe yX5_wipe, Cond.code yX5_wipe cX5_wipe 2 (some .int), Cond.methodLink RL 94 yX4_fault, Cond.instanceMethod yX4_fault, Cond.selects RX4 yX4_fault yX4_fault, Cond.code yX4_fault cX4_fault 1 (some .int), Cond.methodLink RL 97 yX5_fault, Cond.instanceMethod yX5_fault, Cond.selects RX5 yX5_fault yX5_fault, Cond.code yX5_fault cX5_fault 1 (some .int), Cond.methodLink RL 98 yX4_undo, Cond.instanceMethod yX4_undo, Cond.selects RX4 yX4_undo yX4_undo]
def wsL_law_r26 : List Cond := [Cond.code yX4_undo cX4_undo 1 (some .int), Cond.methodLink RX4 203 yX1_takeBack, Cond.instanceMethod yX1_takeBack, Cond.selects RX1 yX1_takeBack yX1_takeBack, Cond.code yX1_takeBack cX1_takeBack 2 none, Cond.methodLink RL 101 yX5_undo, Cond.instanceMethod yX5_undo, Cond.selects RX5 yX5_undo yX5_undo, Cond.code yX5_undo cX5_undo 1 (some .int), Cond.methodLink RL 102 yX4_save, Cond.instanceMethod yX4_save, Cond.selects RX4 yX4_save yX4_save, Cond.code yX4_save cX4_save 2 (some .int), Cond.methodLink RX4 206 yX4_isSlot, Cond.static yX4_isSlot, Cond.code yX4_isSlot cX4_isSlot 1 (some .boolean), Cond.methodLink RX4 209 yX3_copy, Cond.methodLink RL 105 yX5_save, Cond.instanceMethod yX5_save, Cond.selects RX5 yX5_save yX5_save, Cond.code yX5_save cX5_save 2 (some .int), Cond.methodLink RL 106 yX4_restore, Cond.instanceMethod yX4_restore, Cond.selects RX4 yX4_restore yX4_restore]
def wsL_law_r27 : List Cond := [Cond.code yX4_restore cX4_restore 2 (some .int), Cond.methodLink RL 109 yX5_restore, Cond.instanceMethod yX5_restore, Cond.selects RX5 yX5_restore yX5_restore, Cond.code yX5_restore cX5_restore 2 (some .int)]
def wsL_law : List Cond := (wsL_law_r1 ++ (wsL_law_r2 ++ (wsL_law_r3 ++ (wsL_law_r4 ++ (wsL_law_r5 ++ (wsL_law_r6 ++ (wsL_law_r7 ++ (wsL_law_r8 ++ (wsL_law_r9 ++ (wsL_law_r10 ++ (wsL_law_r11 ++ (wsL_law_r12 ++ (wsL_law_r13 ++ (wsL_law_r14 ++ (wsL_law_r15 ++ (wsL_law_r16 ++ (wsL_law_r17 ++ (wsL_law_r18 ++ (wsL_law_r19 ++ (wsL_law_r20 ++ (wsL_law_r21 ++ (wsL_law_r22 ++ (wsL_law_r23 ++ (wsL_law_r24 ++ (wsL_law_r25 ++ (wsL_law_r26 ++ wsL_law_r27)))))))))))))))))))))))))) ++ wsX40 ++ wsX50 ++ wsX30 ++ wsX10 ++ wsX20 ++ wsX00 ++ ([] : List Cond)
abbrev vwCl : List vw_C := [(RX0, TX0, 2), (RX1, TX1, 3), (RX2, TX2, 2), (RX3, TX3, 8), (RX4, TX4, 6), (RX5, TX5, 13)]
end
section
/-! ===== the layer J: ints by their values, one memory for all cells, locals by their places ===== -/
def I (z : Int) : Int32 := Int32.ofInt z
theorem I_toInt {z : Int} (h : -2147483648 ≤ z ∧ z ≤ 2147483647) : (I z).toInt = z := Int32.toInt_ofInt_of_le (by omega) (by omega)
theorem I_of (x : Int32) : ∃ z : Int, (-2147483648 ≤ z ∧ z ≤ 2147483647) ∧ x = I z := ⟨x.toInt, ⟨by have := x.le_toInt; omega, by have := x.toInt_lt; omega⟩, (Int32.ofInt_toInt x).symm⟩
theorem I_nat (k : Nat) : I (k : Int) = nI k := Int32.ofInt_eq_ofNat
theorem I_add (a b : Int) : I a + I b = I (a + b) := (Int32.ofInt_add a b).symm
theorem I_sub (a b : Int) : I a - I b = I (a - b) := (Int32.ofInt_sub a b).symm
theorem I_mul (a b : Int) : I a * I b = I (a * b) := (Int32.ofInt_mul a b).symm
theorem I_lt {a b : Int} (ha : -2147483648 ≤ a ∧ a ≤ 2147483647) (hb : -2147483648 ≤ b ∧ b ≤ 2147483647) : I a < I b ↔ a < b := by rw [Int32.lt_iff_toInt_lt, I_toInt ha, I_toInt hb]
theorem I_le {a b : Int} (ha : -2147483648 ≤ a ∧ a ≤ 2147483647) (hb : -2147483648 ≤ b ∧ b ≤ 2147483647) : I a ≤ I b ↔ a ≤ b := by rw [Int32.le_iff_toInt_le, I_toInt ha, I_toInt hb]
theorem I_eq {a b : Int} (ha : -2147483648 ≤ a ∧ a ≤ 2147483647) (hb : -2147483648 ≤ b ∧ b ≤ 2147483647) : I a = I b ↔ a = b := by rw [← Int32.toInt_inj, I_toInt ha, I_toInt hb]
theorem I_0 : (0 : Int32) = I 0 := rfl
theorem I_1 : (1 : Int32) = I 1 := rfl
theorem I_ne0 {b : Int} (hb : 0 < b ∧ b ≤ 2147483647) : ¬ I b = 0 := by rw [I_0, I_eq (by omega) (by omega)]; omega
theorem I_div {a b : Int} (ha : 0 ≤ a ∧ a ≤ 2147483647) (hb : 0 < b ∧ b ≤ 2147483647) : I a / I b = I (a / b) := by
  obtain ⟨x, rfl⟩ := Int.eq_ofNat_of_zero_le ha.1
  obtain ⟨y, rfl⟩ := Int.eq_ofNat_of_zero_le (Int.le_of_lt hb.1)
  rw [I_nat, I_nat, pk_div (by omega) (by omega) (by omega), ← I_nat]; rfl
theorem I_rem {a b : Int} (ha : 0 ≤ a ∧ a ≤ 2147483647) (hb : 0 < b ∧ b ≤ 2147483647) : I a - I a / I b * I b = I (a % b) := by
  rw [I_div ha hb, I_mul, I_sub]
  congr 1
  have := Int.emod_add_mul_ediv a b
  rw [Int.mul_comm] at this
  omega
theorem I_clamp {a : Int} (ha : 0 ≤ a ∧ a ≤ 2147483647) : (I a).toNatClampNeg = a.toNat := by
  obtain ⟨x, rfl⟩ := Int.eq_ofNat_of_zero_le ha.1
  rw [I_nat, nI_clamp (by omega)]; rfl
theorem I_in {a : Int} {N : Nat} (ha : 0 ≤ a ∧ a < N) (hN : N ≤ 2147483647) : vp_in (I a) N := by
  obtain ⟨x, rfl⟩ := Int.eq_ofNat_of_zero_le ha.1
  rw [I_nat]; exact vp_in_nI (by omega) (by omega)
theorem I_nneg {a : Int} (ha : 0 ≤ a ∧ a ≤ 2147483647) : ¬ I a < 0 := by rw [I_0, I_lt (by omega) (by omega)]; omega
-- memory
abbrev Mem : Type := Nat → Nat → Int
abbrev Sk : Type := Nat → Option ((Nat → Int) → va_E)
def upE (r : Nat → Int) (k : Nat) (z : Int) : Nat → Int := fun j => if j = k then z else r j
def upR (v : Mem) (a : Nat) (r : Nat → Int) : Mem := fun b => if b = a then r else v b
def up2 (v : Mem) (a k : Nat) (z : Int) : Mem := upR v a (upE (v a) k z)
def upS (sk : Sk) (a : Nat) (f : (Nat → Int) → va_E) : Sk := fun b => if b = a then some f else sk b
theorem upE_s (r : Nat → Int) (k : Nat) (z : Int) : upE r k z k = z := if_pos rfl
theorem upE_n (r : Nat → Int) {j k : Nat} (z : Int) (h : j ≠ k) : upE r k z j = r j := if_neg h
theorem upR_s (v : Mem) (a : Nat) (r : Nat → Int) : upR v a r a = r := if_pos rfl
theorem upR_n (v : Mem) {a b : Nat} (r : Nat → Int) (h : b ≠ a) : upR v a r b = v b := if_neg h
theorem up2_s (v : Mem) (a k : Nat) (z : Int) : up2 v a k z a = upE (v a) k z := if_pos rfl
theorem up2_n (v : Mem) {a b : Nat} (k : Nat) (z : Int) (h : b ≠ a) : up2 v a k z b = v b := if_neg h
theorem upS_s (sk : Sk) (a : Nat) (f : (Nat → Int) → va_E) : upS sk a f a = some f := if_pos rfl
theorem upS_n (sk : Sk) {a b : Nat} (f : (Nat → Int) → va_E) (h : b ≠ a) : upS sk a f b = sk b := if_neg h
def Wd (D : va_G) (sk : Sk) (v : Mem) (H : Heap) : Prop := ∀ (a : Nat) (f : (Nat → Int) → va_E), sk a = some f → va_at D vwCl (a, f (v a)) H
-- the kinds of cells
def flds (r : Nat → Int) : Nat → List (Option Value) → List Value
  | _, [] => []
  | k, o :: t => (o.getD (.int (I (r k)))) :: flds r (k + 1) t
def eO (ci : Nat) (fs : List (Option Value)) : (Nat → Int) → va_E := fun r => .inr (ci, flds r 0 fs)
def eA (D : va_G) (k nn : Nat) : (Nat → Int) → va_E := fun r => .inl (D.1 k, nn, .inl (fun j => I (r j)))
def eQ (D : va_G) (k nn : Nat) (g : Nat → Option Nat) : (Nat → Int) → va_E := fun _ => .inl (D.1 k, nn, .inr (.inr (.inr (.inr g))))
theorem flds_get (r : Nat → Int) : ∀ (fs : List (Option Value)) (j k : Nat), (flds r j fs)[k]? = (fs[k]?).map (fun o => o.getD (.int (I (r (j + k)))))
  | [], j, k => by simp [flds]
  | o :: t, j, 0 => by simp [flds]
  | o :: t, j, k + 1 => by
    simp only [flds, List.getElem?_cons_succ]
    rw [flds_get r t (j + 1) k, show j + 1 + k = j + (k + 1) by omega]
theorem flds_len (r : Nat → Int) : ∀ (fs : List (Option Value)) (j : Nat), (flds r j fs).length = fs.length
  | [], j => rfl
  | o :: t, j => by simp [flds, flds_len r t (j + 1)]
theorem flds_put (r : Nat → Int) (z : Int) (fs : List (Option Value)) (k : Nat) (h : fs[k]? = some none) : flds (upE r k z) 0 fs = (flds r 0 fs).set k (.int (I z)) := by
  apply List.ext_getElem?
  intro i
  rw [List.getElem?_set, flds_get, flds_get, flds_len]
  by_cases hi : k = i
  · subst hi
    have hl := (List.getElem?_eq_some_iff.mp h).1
    rw [if_pos rfl, if_pos hl, h]
    simp [upE]
  · rw [if_neg hi]
    rw [show upE r k z (0 + i) = r (0 + i) from upE_n r z (by omega)]
theorem flds_ref (r : Nat → Int) (x : Value) (fs : List (Option Value)) (k : Nat) (h : k < fs.length) : flds r 0 (fs.set k (some x)) = (flds r 0 fs).set k x := by
  apply List.ext_getElem?
  intro i
  rw [List.getElem?_set, flds_get, flds_get, flds_len, List.getElem?_set]
  by_cases hi : k = i
  · subst hi
    simp [h]
  · simp [hi]
def tysA (D : va_G) : List (ClassId × FieldType) := [(D.1 10, .int), (D.1 11, .char), (D.1 12, .boolean), (D.1 13, .object RX0), (D.1 14, .object RX3)]
/-- private members of nest mates: the tables' words that are not among a method's own -/
def nestF : List (Nat × String × String × String) := [(99, RX0, "size", "I"), (127, RX3, "orderCounts", "[I"), (53, RX3, "parcels", "I"), (138, RX3, "text", "LBinderParcels$Binder;"), (89, RX3, "binders", "[LBinderParcels$Binder;"), (85, RX3, "waiting", "[I"), (111, RX3, "lost", "[I"), (68, RX3, "owners", "I"), (178, RX1, "size", "I"), (175, RX2, "length", "I")]
def nestM : List (String × Nat × MethodName) := [(RX3, 20, yX0_init), (RX4, 33, yX2_init), (RX4, 44, yX0_init)]
def NX (s : State) : Prop := (∀ q ∈ nestF, va_Nw (.fieldLinkNest RX4 q.1 q.2.1 q.2.2.1 q.2.2.2 RX4) s) ∧ (∀ q ∈ nestM, va_Nw (.methodLinkNest q.1 q.2.1 q.2.2 RX4) s) ∧ va_AO RX0 s ∧ va_AO RX3 s
theorem NX.warm {s U : State} (hW : s.WarmedH U.vm) (h : NX s) : NX U := ⟨fun q hq => va_Nw.warmF hW (h.1 q hq), fun q hq => va_Nw.warmM hW (h.2.1 q hq), va_AO.moved hW.alike h.2.2.1, va_AO.moved hW.alike h.2.2.2⟩
theorem NX.same {u U : State} (hv : u.vm = U.vm) (h : NX u) : NX U := ⟨fun q hq => va_Nw.same rfl hv (h.1 q hq), fun q hq => va_Nw.same rfl hv (h.2.1 q hq), va_AO.moved (by rw [hv]; exact Vm.Alike.refl _) h.2.2.1, va_AO.moved (by rw [hv]; exact Vm.Alike.refl _) h.2.2.2⟩
-- locals
def lh (ls : Array Slot) (nL : Nat) (L : List (Option Value)) : Prop := ls.size = nL ∧ lv_wf ls ∧ ∀ (k : Nat) (x : Value), L[k]? = some (some x) → ls[k]? = some (.val x)
def aL (L : List (Option Value)) : List (Nat × Value) := (List.range L.length).filterMap (fun k => (L[k]?).bind (fun o => o.map (fun x => (k, x))))
theorem aL_mem {L : List (Option Value)} {k : Nat} {x : Value} (h : L[k]? = some (some x)) : (k, x) ∈ aL L := by
  refine List.mem_filterMap.mpr ⟨k, List.mem_range.mpr (List.getElem?_eq_some_iff.mp h).1, ?_⟩
  simp [h]
theorem aL_of {L : List (Option Value)} {k : Nat} {x : Value} (h : (k, x) ∈ aL L) : L[k]? = some (some x) := by
  obtain ⟨i, -, hi⟩ := List.mem_filterMap.mp h
  cases hL : L[i]? with
  | none => simp [hL] at hi
  | some o =>
    cases o with
    | none => simp [hL] at hi
    | some y =>
      simp only [hL, Option.bind_some, Option.map_some, Option.some.injEq, Prod.mk.injEq] at hi
      obtain ⟨rfl, rfl⟩ := hi
      exact hL
theorem lh.has {ls : Array Slot} {nL : Nat} {L : List (Option Value)} (h : lh ls nL L) : lv_has ls nL (aL L) := ⟨h.1, h.2.1, fun q hq => h.2.2 q.1 q.2 (aL_of hq)⟩
/-- no long stands right ahead -/
def okst (L : List (Option Value)) : Nat → Bool
  | 0 => true
  | j + 1 => match L[j]? with
    | some (some (.long _)) => false
    | some (some (.double _)) => false
    | _ => true
theorem okst_1 {L : List (Option Value)} {i k : Nat} {y : Value} (ho : okst L i = true) (h : L[k]? = some (some y)) (hk : k + 1 = i) : (y.category == 2) = false := by
  subst hk
  simp only [okst, h] at ho
  cases y <;> first | rfl | cases ho
theorem lh.store {ls' : Array Slot} {nL i : Nat} {x : Value} {L : List (Option Value)} (ho : okst L i = true) (h : lv_has ls' nL ((i, x) :: (aL L).filter (fun q => !(q.1 == i) && !(q.1 + 1 == i && q.2.category == 2)))) : lh ls' nL (L.set i (some x)) := by
  refine ⟨h.1, h.2.1, fun k y hk => ?_⟩
  rw [List.getElem?_set] at hk
  by_cases hi : i = k
  · subst hi
    rw [if_pos rfl] at hk
    split at hk
    · cases hk
      exact h.2.2 (i, x) List.mem_cons_self
    · cases hk
  · rw [if_neg hi] at hk
    refine h.2.2 (k, y) (List.mem_cons_of_mem _ (List.mem_filter.mpr ⟨aL_mem hk, ?_⟩))
    have h1 : (k == i) = false := by simpa using fun q : k = i => hi q.symm
    by_cases h2 : k + 1 = i
    · rw [show (k, y).2.category = y.category from rfl, okst_1 ho hk h2]
      simp [h1]
    · have h3 : (k + 1 == i) = false := by simpa using h2
      simp [h1, h3]
theorem lh.store2 {ls' : Array Slot} {nL i : Nat} {x : Value} {L : List (Option Value)} (ho : okst L i = true) (h : lv_has ls' nL ((i, x) :: (aL L).filter (fun q => !(q.1 == i) && (!(q.1 == i + 1) && !(q.1 + 1 == i && q.2.category == 2))))) : lh ls' nL ((L.set i (some x)).set (i + 1) none) := by
  refine ⟨h.1, h.2.1, fun k y hk => ?_⟩
  rw [List.getElem?_set] at hk
  by_cases hj : i + 1 = k
  · rw [if_pos hj] at hk
    split at hk <;> cases hk
  · rw [if_neg hj, List.getElem?_set] at hk
    by_cases hi : i = k
    · subst hi
      rw [if_pos rfl] at hk
      split at hk
      · cases hk
        exact h.2.2 (i, x) List.mem_cons_self
      · cases hk
    · rw [if_neg hi] at hk
      refine h.2.2 (k, y) (List.mem_cons_of_mem _ (List.mem_filter.mpr ⟨aL_mem hk, ?_⟩))
      have h1 : (k == i) = false := by simpa using fun q : k = i => hi q.symm
      have h4 : (k == i + 1) = false := by simpa using fun q : k = i + 1 => hj q.symm
      by_cases h2 : k + 1 = i
      · rw [show (k, y).2.category = y.category from rfl, okst_1 ho hk h2]
        simp [h1, h4]
      · have h3 : (k + 1 == i) = false := by simpa using h2
        simp [h1, h3, h4]
def lo1 : List Value → List (Option Value)
  | [] => []
  | x :: t => if x.category = 2 then some x :: none :: lo1 t else some x :: lo1 t
def lo (vs : List Value) (n : Nat) : List (Option Value) := lo1 vs ++ List.replicate (n - (lo1 vs).length) none
theorem lo1_args : ∀ (vs : List Value) (i k : Nat) (x : Value), (lo1 vs)[k]? = some (some x) → (i + k, x) ∈ lv_args i vs
  | [], i, k, x, h => by simp [lo1] at h
  | y :: t, i, k, x, h => by
    by_cases hy : y.category = 2
    · rw [lo1, if_pos hy] at h
      match k, h with
      | 0, h => simp at h; subst h; simp [lv_args]
      | 1, h => simp at h
      | k + 2, h =>
        simp at h
        have := lo1_args t (i + 2) k x h
        rw [show i + 2 + k = i + (k + 2) by omega] at this
        simp [lv_args, hy]
        exact this
    · rw [lo1, if_neg hy] at h
      match k, h with
      | 0, h => simp at h; subst h; simp [lv_args]
      | k + 1, h =>
        simp at h
        have := lo1_args t (i + 1) k x h
        rw [show i + 1 + k = i + (k + 1) by omega] at this
        simp [lv_args, hy]
        exact this
theorem lo_lh {vs : List Value} {n : Nat} {ls : Array Slot} (h : lv_has ls n (lv_args 0 vs)) : lh ls n (lo vs n) := by
  refine ⟨h.1, h.2.1, fun k x hk => ?_⟩
  unfold lo at hk
  by_cases hl : k < (lo1 vs).length
  · rw [List.getElem?_append_left hl] at hk
    have := h.2.2 (0 + k, x) (lo1_args vs 0 k x hk)
    simpa using this
  · rw [List.getElem?_append_right (by omega)] at hk
    have := List.mem_of_getElem? hk
    simp at this
-- the context, the judgement, the contract
abbrev Cx (p : Program) (s : State) (m : MethodId) (args : Array Value) (meth : Method) (c : Code) (D : va_G) (cc : ByteArray) (nL : Nat) (own : String) (Ts : List Cond) (ret : Option FieldType) : Prop :=
  p.tables.exec = Jvm.exec ∧ c.code = cc ∧ c.maxLocals = nL ∧ s.vm.findClass own = some m.cls ∧ (∀ w ∈ Ts, w.before args s = true) ∧ va_K D vwCl (tysA D) s ∧ NX s ∧ meth.sig.returnType = ret ∧ meth.locks = false
def AJ (sk : Sk) (n : Nat) : Nat → Prop := fun q => sk q ≠ none ∨ n ≤ q
def J (p : Program) (l : Launch) (e : Env) (R : Room) (s : State) (m : MethodId) (args : Array Value) (below : List Frame) (meth : Method) (c : Code) (D : va_G) (A : Nat → Prop) (nL : Nat) (cells slots : Nat) (Q : State → Prop) (n : Nat) (sk : Sk) (v : Mem) (pc : Nat) (L : List (Option Value)) (st : List Value) : Prop :=
  ∀ (H : Heap) (locs : List Loc) (ls : Array Slot), H.size = n → (∀ a, sk a ≠ none → A a) → (∀ q, s.heap.size ≤ q → A q) → Wd D sk v H → va_S A s.heap H locs → lh ls nL L → W p l e R s m args below meth c H locs cells slots Q (F0 m pc ls st)
def QcJ (D : va_G) (n mc : Nat) (sk : Sk) (post : Option Value → Sk → Mem → Prop) : Array Value → State → Outcome → State → Prop := fun _ st oc t =>
  (∃ (r : Option Value) (sk' : Sk) (v' : Mem), oc = .returned r ∧ post r sk' v' ∧ (∀ a, sk' a ≠ none → AJ sk n a) ∧ t.heap.size = n + mc ∧ Wd D sk' v' t.heap) ∧ va_F (AJ sk n) st t
def Ct (l : Launch) (D : va_G) (y : MethodName) (ws : List Cond) (rm : Room) (mc ms : Nat) (av : List Value) (n : Nat) (sk : Sk) (v : Mem) (post : Option Value → Sk → Mem → Prop) : Prop :=
  Met l y ws rm (va_Pc av (fun U => U.heap.size = n ∧ Wd D sk v U.heap ∧ va_K D vwCl (tysA D) U ∧ NX U)) (QcJ D n mc sk post) mc ms (AJ sk n)
theorem j_narc {z : Int} (hz : 0 ≤ z ∧ z < 65536) : narrow .char (.int (I z)) = .int (I z) := by
  obtain ⟨x, rfl⟩ := Int.eq_ofNat_of_zero_le hz.1
  rw [I_nat]; exact (pk_charN (by omega)).1
theorem j_narz {z : Int} (hz : z = 0 ∨ z = 1) : narrow .boolean (.int (I z)) = .int (I z) := by
  rcases hz with rfl | rfl <;> rfl
section JA
variable {p : Program} {l : Launch} {e : Env} {R : Room} {s : State} {m : MethodId} {args : Array Value} {below : List Frame} {meth : Method} {c : Code} {D : va_G} {A : Nat → Prop} {nL cells slots n pc : Nat} {Q : State → Prop} {sk : Sk} {v : Mem} {L : List (Option Value)} {st : List Value} {cc : ByteArray} {own : String} {Ts : List Cond} {ret : Option FieldType}
theorem j_iconst (X : Cx p s m args meth c D cc nL own Ts ret) {k : Int} (d : decode cc pc = .ok (.iconst k, 1)) 
    (K : J p l e R s m args below meth c D A nL cells slots Q n sk v (pc + 1) L (.int (I k) :: st)) : J p l e R s m args below meth c D A nL cells slots Q n sk v pc L (st) := by
  intro H locs ls h1 h2 h3 h4 h5 h6
  exact lv_iconst X.1 X.2.1 d rfl (K H locs ls h1 h2 h3 h4 h5 h6)
theorem j_bipush (X : Cx p s m args meth c D cc nL own Ts ret) {k : Int} (d : decode cc pc = .ok (.bipush k, 2)) (hv : (Int8.ofInt k).toInt32 = I k)
    (K : J p l e R s m args below meth c D A nL cells slots Q n sk v (pc + 2) L (.int (I k) :: st)) : J p l e R s m args below meth c D A nL cells slots Q n sk v pc L (st) := by
  intro H locs ls h1 h2 h3 h4 h5 h6
  exact lv_bipush X.1 X.2.1 d hv (K H locs ls h1 h2 h3 h4 h5 h6)
theorem j_sipush (X : Cx p s m args meth c D cc nL own Ts ret) {k : Int} (d : decode cc pc = .ok (.sipush k, 3)) (hv : (Int16.ofInt k).toInt32 = I k)
    (K : J p l e R s m args below meth c D A nL cells slots Q n sk v (pc + 3) L (.int (I k) :: st)) : J p l e R s m args below meth c D A nL cells slots Q n sk v pc L (st) := by
  intro H locs ls h1 h2 h3 h4 h5 h6
  exact lv_sipush X.1 X.2.1 d hv (K H locs ls h1 h2 h3 h4 h5 h6)
theorem j_lconst (X : Cx p s m args meth c D cc nL own Ts ret) {k : Fin 2} (d : decode cc pc = .ok (.lconst k, 1)) 
    (K : J p l e R s m args below meth c D A nL cells slots Q n sk v (pc + 1) L (.long (lN (k : Nat)) :: st)) : J p l e R s m args below meth c D A nL cells slots Q n sk v pc L (st) := by
  intro H locs ls h1 h2 h3 h4 h5 h6
  exact lv_lconst X.1 X.2.1 d rfl (K H locs ls h1 h2 h3 h4 h5 h6)
theorem j_iload_n (X : Cx p s m args meth c D cc nL own Ts ret) {k : Fin 4} {x : Int32} (d : decode cc pc = .ok (.iload_n k, 1)) (h : L[(k : Nat)]? = some (some (.int x)))
    (K : J p l e R s m args below meth c D A nL cells slots Q n sk v (pc + 1) L (.int x :: st)) : J p l e R s m args below meth c D A nL cells slots Q n sk v pc L (st) := by
  intro H locs ls h1 h2 h3 h4 h5 h6
  exact lv_iload_n X.1 X.2.1 d rfl (h6.2.2 _ _ h) (K H locs ls h1 h2 h3 h4 h5 h6)
theorem j_iload (X : Cx p s m args meth c D cc nL own Ts ret) {k : Nat} {x : Int32} (d : decode cc pc = .ok (.iload k, 2)) (h : L[k]? = some (some (.int x)))
    (K : J p l e R s m args below meth c D A nL cells slots Q n sk v (pc + 2) L (.int x :: st)) : J p l e R s m args below meth c D A nL cells slots Q n sk v pc L (st) := by
  intro H locs ls h1 h2 h3 h4 h5 h6
  exact lv_iload X.1 X.2.1 d (h6.2.2 _ _ h) (K H locs ls h1 h2 h3 h4 h5 h6)
theorem j_aload_n (X : Cx p s m args meth c D cc nL own Ts ret) {k : Fin 4} {x : Nat} (d : decode cc pc = .ok (.aload_n k, 1)) (h : L[(k : Nat)]? = some (some (.ref x)))
    (K : J p l e R s m args below meth c D A nL cells slots Q n sk v (pc + 1) L (.ref x :: st)) : J p l e R s m args below meth c D A nL cells slots Q n sk v pc L (st) := by
  intro H locs ls h1 h2 h3 h4 h5 h6
  exact lv_aload_n X.1 X.2.1 d rfl (h6.2.2 _ _ h) (K H locs ls h1 h2 h3 h4 h5 h6)
theorem j_aload (X : Cx p s m args meth c D cc nL own Ts ret) {k : Nat} {x : Nat} (d : decode cc pc = .ok (.aload k, 2)) (h : L[k]? = some (some (.ref x)))
    (K : J p l e R s m args below meth c D A nL cells slots Q n sk v (pc + 2) L (.ref x :: st)) : J p l e R s m args below meth c D A nL cells slots Q n sk v pc L (st) := by
  intro H locs ls h1 h2 h3 h4 h5 h6
  exact lv_aload X.1 X.2.1 d (h6.2.2 _ _ h) (K H locs ls h1 h2 h3 h4 h5 h6)
theorem j_lload_n (X : Cx p s m args meth c D cc nL own Ts ret) {k : Fin 4} {x : Int64} (d : decode cc pc = .ok (.lload_n k, 1)) (h : L[(k : Nat)]? = some (some (.long x)))
    (K : J p l e R s m args below meth c D A nL cells slots Q n sk v (pc + 1) L (.long x :: st)) : J p l e R s m args below meth c D A nL cells slots Q n sk v pc L (st) := by
  intro H locs ls h1 h2 h3 h4 h5 h6
  exact lv_lload_n X.1 X.2.1 d rfl (h6.2.2 _ _ h) (K H locs ls h1 h2 h3 h4 h5 h6)
theorem j_lload (X : Cx p s m args meth c D cc nL own Ts ret) {k : Nat} {x : Int64} (d : decode cc pc = .ok (.lload k, 2)) (h : L[k]? = some (some (.long x)))
    (K : J p l e R s m args below meth c D A nL cells slots Q n sk v (pc + 2) L (.long x :: st)) : J p l e R s m args below meth c D A nL cells slots Q n sk v pc L (st) := by
  intro H locs ls h1 h2 h3 h4 h5 h6
  exact lv_lload X.1 X.2.1 d (h6.2.2 _ _ h) (K H locs ls h1 h2 h3 h4 h5 h6)
theorem j_istore_n (X : Cx p s m args meth c D cc nL own Ts ret) {k : Fin 4} {x : Int32} (d : decode cc pc = .ok (.istore_n k, 1)) (ho : okst L (k : Nat) = true) (hn : (k : Nat) < nL)
    (K : J p l e R s m args below meth c D A nL cells slots Q n sk v (pc + 1) (L.set (k : Nat) (some (.int x))) st) : J p l e R s m args below meth c D A nL cells slots Q n sk v pc L (.int x :: st) := by
  intro H locs ls h1 h2 h3 h4 h5 h6
  exact lv_istore_n X.1 X.2.1 d rfl h6.has hn rfl (fun ls' h' => K H locs ls' h1 h2 h3 h4 h5 (lh.store ho h'))
theorem j_istore (X : Cx p s m args meth c D cc nL own Ts ret) {k : Nat} {x : Int32} (d : decode cc pc = .ok (.istore k, 2)) (ho : okst L k = true) (hn : k < nL)
    (K : J p l e R s m args below meth c D A nL cells slots Q n sk v (pc + 2) (L.set k (some (.int x))) st) : J p l e R s m args below meth c D A nL cells slots Q n sk v pc L (.int x :: st) := by
  intro H locs ls h1 h2 h3 h4 h5 h6
  exact lv_istore X.1 X.2.1 d h6.has hn rfl (fun ls' h' => K H locs ls' h1 h2 h3 h4 h5 (lh.store ho h'))
theorem j_astore_n (X : Cx p s m args meth c D cc nL own Ts ret) {k : Fin 4} {x : Nat} (d : decode cc pc = .ok (.astore_n k, 1)) (ho : okst L (k : Nat) = true) (hn : (k : Nat) < nL)
    (K : J p l e R s m args below meth c D A nL cells slots Q n sk v (pc + 1) (L.set (k : Nat) (some (.ref x))) st) : J p l e R s m args below meth c D A nL cells slots Q n sk v pc L (.ref x :: st) := by
  intro H locs ls h1 h2 h3 h4 h5 h6
  exact lv_astore_n X.1 X.2.1 d rfl h6.has hn rfl (fun ls' h' => K H locs ls' h1 h2 h3 h4 h5 (lh.store ho h'))
theorem j_astore (X : Cx p s m args meth c D cc nL own Ts ret) {k : Nat} {x : Nat} (d : decode cc pc = .ok (.astore k, 2)) (ho : okst L k = true) (hn : k < nL)
    (K : J p l e R s m args below meth c D A nL cells slots Q n sk v (pc + 2) (L.set k (some (.ref x))) st) : J p l e R s m args below meth c D A nL cells slots Q n sk v pc L (.ref x :: st) := by
  intro H locs ls h1 h2 h3 h4 h5 h6
  exact lv_astore X.1 X.2.1 d h6.has hn rfl (fun ls' h' => K H locs ls' h1 h2 h3 h4 h5 (lh.store ho h'))
theorem j_lstore_n (X : Cx p s m args meth c D cc nL own Ts ret) {k : Fin 4} {x : Int64} (d : decode cc pc = .ok (.lstore_n k, 1)) (ho : okst L (k : Nat) = true) (hn : (k : Nat) + 1 < nL)
    (K : J p l e R s m args below meth c D A nL cells slots Q n sk v (pc + 1) ((L.set (k : Nat) (some (.long x))).set ((k : Nat) + 1) none) st) : J p l e R s m args below meth c D A nL cells slots Q n sk v pc L (.long x :: st) := by
  intro H locs ls h1 h2 h3 h4 h5 h6
  exact lv_lstore_n X.1 X.2.1 d rfl h6.has hn rfl (fun ls' h' => K H locs ls' h1 h2 h3 h4 h5 (lh.store2 ho h'))
theorem j_lstore (X : Cx p s m args meth c D cc nL own Ts ret) {k : Nat} {x : Int64} (d : decode cc pc = .ok (.lstore k, 2)) (ho : okst L k = true) (hn : k + 1 < nL)
    (K : J p l e R s m args below meth c D A nL cells slots Q n sk v (pc + 2) ((L.set k (some (.long x))).set (k + 1) none) st) : J p l e R s m args below meth c D A nL cells slots Q n sk v pc L (.long x :: st) := by
  intro H locs ls h1 h2 h3 h4 h5 h6
  exact lv_lstore X.1 X.2.1 d h6.has hn rfl (fun ls' h' => K H locs ls' h1 h2 h3 h4 h5 (lh.store2 ho h'))
theorem aL_place {L : List (Option Value)} {i : Nat} {x : Value} (h : L[i]? = some (some x)) : ∃ k : Nat, (aL L)[k]? = some (i, x) := List.getElem?_of_mem (aL_mem h)
theorem j_iinc (X : Cx p s m args meth c D cc nL own Ts ret) {k : Nat} {z w : Int} (d : decode cc pc = .ok (.iinc k w, 3)) (h : L[k]? = some (some (.int (I z)))) (ho : okst L k = true) (hn : k < nL)
    (K : J p l e R s m args below meth c D A nL cells slots Q n sk v (pc + 3) (L.set k (some (.int (I (z + w))))) st) : J p l e R s m args below meth c D A nL cells slots Q n sk v pc L st := by
  intro H locs ls h1 h2 h3 h4 h5 h6
  obtain ⟨j, hj⟩ := aL_place h
  exact lv_iinc X.1 X.2.1 d h6.has hj (I_add z w) hn rfl (fun ls' h' => K H locs ls' h1 h2 h3 h4 h5 (lh.store ho h'))
theorem j_iadd (X : Cx p s m args meth c D cc nL own Ts ret) {x y : Int} (d : decode cc pc = .ok (.iadd, 1)) 
    (K : J p l e R s m args below meth c D A nL cells slots Q n sk v (pc + 1) L (.int (I (x + y)) :: st)) : J p l e R s m args below meth c D A nL cells slots Q n sk v pc L (.int (I y) :: .int (I x) :: st) := by
  intro H locs ls h1 h2 h3 h4 h5 h6
  exact lv_iadd X.1 X.2.1 d (by rw [I_add]; exact K H locs ls h1 h2 h3 h4 h5 h6)
theorem j_isub (X : Cx p s m args meth c D cc nL own Ts ret) {x y : Int} (d : decode cc pc = .ok (.isub, 1)) 
    (K : J p l e R s m args below meth c D A nL cells slots Q n sk v (pc + 1) L (.int (I (x - y)) :: st)) : J p l e R s m args below meth c D A nL cells slots Q n sk v pc L (.int (I y) :: .int (I x) :: st) := by
  intro H locs ls h1 h2 h3 h4 h5 h6
  exact lv_isub X.1 X.2.1 d (by rw [I_sub]; exact K H locs ls h1 h2 h3 h4 h5 h6)
theorem j_imul (X : Cx p s m args meth c D cc nL own Ts ret) {x y : Int} (d : decode cc pc = .ok (.imul, 1)) 
    (K : J p l e R s m args below meth c D A nL cells slots Q n sk v (pc + 1) L (.int (I (x * y)) :: st)) : J p l e R s m args below meth c D A nL cells slots Q n sk v pc L (.int (I y) :: .int (I x) :: st) := by
  intro H locs ls h1 h2 h3 h4 h5 h6
  exact lv_imul X.1 X.2.1 d (by rw [I_mul]; exact K H locs ls h1 h2 h3 h4 h5 h6)
theorem j_idiv (X : Cx p s m args meth c D cc nL own Ts ret) {x y : Int} (d : decode cc pc = .ok (.idiv, 1)) (hx : 0 ≤ x ∧ x ≤ 2147483647) (hy : 0 < y ∧ y ≤ 2147483647)
    (K : J p l e R s m args below meth c D A nL cells slots Q n sk v (pc + 1) L (.int (I (x / y)) :: st)) : J p l e R s m args below meth c D A nL cells slots Q n sk v pc L (.int (I y) :: .int (I x) :: st) := by
  intro H locs ls h1 h2 h3 h4 h5 h6
  exact lv_idiv X.1 X.2.1 d (I_ne0 hy) (by rw [I_div hx hy]; exact K H locs ls h1 h2 h3 h4 h5 h6)
theorem j_irem (X : Cx p s m args meth c D cc nL own Ts ret) {x y : Int} (d : decode cc pc = .ok (.irem, 1)) (hx : 0 ≤ x ∧ x ≤ 2147483647) (hy : 0 < y ∧ y ≤ 2147483647)
    (K : J p l e R s m args below meth c D A nL cells slots Q n sk v (pc + 1) L (.int (I (x % y)) :: st)) : J p l e R s m args below meth c D A nL cells slots Q n sk v pc L (.int (I y) :: .int (I x) :: st) := by
  intro H locs ls h1 h2 h3 h4 h5 h6
  exact lv_irem X.1 X.2.1 d (I_ne0 hy) (by rw [I_rem hx hy]; exact K H locs ls h1 h2 h3 h4 h5 h6)
theorem j_iand (X : Cx p s m args meth c D cc nL own Ts ret) {x y : Int32} {z : Int} (d : decode cc pc = .ok (.iand, 1)) (hv : x &&& y = I z)
    (K : J p l e R s m args below meth c D A nL cells slots Q n sk v (pc + 1) L (.int (I z) :: st)) : J p l e R s m args below meth c D A nL cells slots Q n sk v pc L (.int y :: .int x :: st) := by
  intro H locs ls h1 h2 h3 h4 h5 h6
  exact lv_iand X.1 X.2.1 d (by rw [hv]; exact K H locs ls h1 h2 h3 h4 h5 h6)
theorem j_ior (X : Cx p s m args meth c D cc nL own Ts ret) {x y : Int32} {z : Int} (d : decode cc pc = .ok (.ior, 1)) (hv : x ||| y = I z)
    (K : J p l e R s m args below meth c D A nL cells slots Q n sk v (pc + 1) L (.int (I z) :: st)) : J p l e R s m args below meth c D A nL cells slots Q n sk v pc L (.int y :: .int x :: st) := by
  intro H locs ls h1 h2 h3 h4 h5 h6
  exact lv_ior X.1 X.2.1 d (by rw [hv]; exact K H locs ls h1 h2 h3 h4 h5 h6)
theorem j_ixor (X : Cx p s m args meth c D cc nL own Ts ret) {x y : Int32} {z : Int} (d : decode cc pc = .ok (.ixor, 1)) (hv : x ^^^ y = I z)
    (K : J p l e R s m args below meth c D A nL cells slots Q n sk v (pc + 1) L (.int (I z) :: st)) : J p l e R s m args below meth c D A nL cells slots Q n sk v pc L (.int y :: .int x :: st) := by
  intro H locs ls h1 h2 h3 h4 h5 h6
  exact lv_ixor X.1 X.2.1 d (by rw [hv]; exact K H locs ls h1 h2 h3 h4 h5 h6)
theorem j_ishl (X : Cx p s m args meth c D cc nL own Ts ret) {x y : Int32} {z : Int} (d : decode cc pc = .ok (.ishl, 1)) (hv : x <<< (y &&& 31) = I z)
    (K : J p l e R s m args below meth c D A nL cells slots Q n sk v (pc + 1) L (.int (I z) :: st)) : J p l e R s m args below meth c D A nL cells slots Q n sk v pc L (.int y :: .int x :: st) := by
  intro H locs ls h1 h2 h3 h4 h5 h6
  exact lv_ishl X.1 X.2.1 d (by rw [hv]; exact K H locs ls h1 h2 h3 h4 h5 h6)
theorem j_ishr (X : Cx p s m args meth c D cc nL own Ts ret) {x y : Int32} {z : Int} (d : decode cc pc = .ok (.ishr, 1)) (hv : x >>> (y &&& 31) = I z)
    (K : J p l e R s m args below meth c D A nL cells slots Q n sk v (pc + 1) L (.int (I z) :: st)) : J p l e R s m args below meth c D A nL cells slots Q n sk v pc L (.int y :: .int x :: st) := by
  intro H locs ls h1 h2 h3 h4 h5 h6
  exact lv_ishr X.1 X.2.1 d (by rw [hv]; exact K H locs ls h1 h2 h3 h4 h5 h6)
theorem j_iushr (X : Cx p s m args meth c D cc nL own Ts ret) {x y : Int32} {z : Int32} (d : decode cc pc = .ok (.iushr, 1)) (hv : (x.toUInt32 >>> (y.toUInt32 &&& Int32.toUInt32 31)).toInt32 = z)
    (K : J p l e R s m args below meth c D A nL cells slots Q n sk v (pc + 1) L (.int z :: st)) : J p l e R s m args below meth c D A nL cells slots Q n sk v pc L (.int y :: .int x :: st) := by
  intro H locs ls h1 h2 h3 h4 h5 h6
  exact lv_iushr X.1 X.2.1 d hv (K H locs ls h1 h2 h3 h4 h5 h6)
theorem jr_iadd (X : Cx p s m args meth c D cc nL own Ts ret) {x y : Int32} (d : decode cc pc = .ok (.iadd, 1)) 
    (K : J p l e R s m args below meth c D A nL cells slots Q n sk v (pc + 1) L (.int (x + y) :: st)) : J p l e R s m args below meth c D A nL cells slots Q n sk v pc L (.int y :: .int x :: st) := by
  intro H locs ls h1 h2 h3 h4 h5 h6
  exact lv_iadd X.1 X.2.1 d (K H locs ls h1 h2 h3 h4 h5 h6)
theorem jr_isub (X : Cx p s m args meth c D cc nL own Ts ret) {x y : Int32} (d : decode cc pc = .ok (.isub, 1)) 
    (K : J p l e R s m args below meth c D A nL cells slots Q n sk v (pc + 1) L (.int (x - y) :: st)) : J p l e R s m args below meth c D A nL cells slots Q n sk v pc L (.int y :: .int x :: st) := by
  intro H locs ls h1 h2 h3 h4 h5 h6
  exact lv_isub X.1 X.2.1 d (K H locs ls h1 h2 h3 h4 h5 h6)
theorem jr_iand (X : Cx p s m args meth c D cc nL own Ts ret) {x y : Int32} (d : decode cc pc = .ok (.iand, 1)) 
    (K : J p l e R s m args below meth c D A nL cells slots Q n sk v (pc + 1) L (.int (x &&& y) :: st)) : J p l e R s m args below meth c D A nL cells slots Q n sk v pc L (.int y :: .int x :: st) := by
  intro H locs ls h1 h2 h3 h4 h5 h6
  exact lv_iand X.1 X.2.1 d (K H locs ls h1 h2 h3 h4 h5 h6)
theorem j_i2l (X : Cx p s m args meth c D cc nL own Ts ret) {x : Int32} {z : Int64} (d : decode cc pc = .ok (.i2l, 1)) (hv : x.toInt64 = z)
    (K : J p l e R s m args below meth c D A nL cells slots Q n sk v (pc + 1) L (.long z :: st)) : J p l e R s m args below meth c D A nL cells slots Q n sk v pc L (.int x :: st) := by
  intro H locs ls h1 h2 h3 h4 h5 h6
  exact lv_i2l X.1 X.2.1 d hv (K H locs ls h1 h2 h3 h4 h5 h6)
theorem j_l2i (X : Cx p s m args meth c D cc nL own Ts ret) {x : Int64} {z : Int} (d : decode cc pc = .ok (.l2i, 1)) (hv : x.toInt32 = I z)
    (K : J p l e R s m args below meth c D A nL cells slots Q n sk v (pc + 1) L (.int (I z) :: st)) : J p l e R s m args below meth c D A nL cells slots Q n sk v pc L (.long x :: st) := by
  intro H locs ls h1 h2 h3 h4 h5 h6
  exact lv_l2i X.1 X.2.1 d hv (K H locs ls h1 h2 h3 h4 h5 h6)
theorem j_i2c (X : Cx p s m args meth c D cc nL own Ts ret) {x : Int32} {z : Int} (d : decode cc pc = .ok (.i2c, 1)) (hv : (x.toUInt32 % 65536).toInt32 = I z)
    (K : J p l e R s m args below meth c D A nL cells slots Q n sk v (pc + 1) L (.int (I z) :: st)) : J p l e R s m args below meth c D A nL cells slots Q n sk v pc L (.int x :: st) := by
  intro H locs ls h1 h2 h3 h4 h5 h6
  exact lv_i2c X.1 X.2.1 d hv (K H locs ls h1 h2 h3 h4 h5 h6)
theorem j_land (X : Cx p s m args meth c D cc nL own Ts ret) {x y z : Int64} (d : decode cc pc = .ok (.land, 1)) (hv : x &&& y = z)
    (K : J p l e R s m args below meth c D A nL cells slots Q n sk v (pc + 1) L (.long z :: st)) : J p l e R s m args below meth c D A nL cells slots Q n sk v pc L (.long y :: .long x :: st) := by
  intro H locs ls h1 h2 h3 h4 h5 h6
  exact lv_land X.1 X.2.1 d (by rw [hv]; exact K H locs ls h1 h2 h3 h4 h5 h6)
theorem j_lor (X : Cx p s m args meth c D cc nL own Ts ret) {x y z : Int64} (d : decode cc pc = .ok (.lor, 1)) (hv : x ||| y = z)
    (K : J p l e R s m args below meth c D A nL cells slots Q n sk v (pc + 1) L (.long z :: st)) : J p l e R s m args below meth c D A nL cells slots Q n sk v pc L (.long y :: .long x :: st) := by
  intro H locs ls h1 h2 h3 h4 h5 h6
  exact lv_lor X.1 X.2.1 d (by rw [hv]; exact K H locs ls h1 h2 h3 h4 h5 h6)
theorem j_lushr (X : Cx p s m args meth c D cc nL own Ts ret) {x z : Int64} {y : Int32} (d : decode cc pc = .ok (.lushr, 1)) (hv : (x.toUInt64 >>> (y.toInt64.toUInt64 &&& Int64.toUInt64 63)).toInt64 = z)
    (K : J p l e R s m args below meth c D A nL cells slots Q n sk v (pc + 1) L (.long z :: st)) : J p l e R s m args below meth c D A nL cells slots Q n sk v pc L (.int y :: .long x :: st) := by
  intro H locs ls h1 h2 h3 h4 h5 h6
  exact lv_lushr X.1 X.2.1 d hv (K H locs ls h1 h2 h3 h4 h5 h6)
theorem j_lshl (X : Cx p s m args meth c D cc nL own Ts ret) {x z : Int64} {y : Int32} (d : decode cc pc = .ok (.lshl, 1)) (hv : x <<< (y.toInt64 &&& 63) = z)
    (K : J p l e R s m args below meth c D A nL cells slots Q n sk v (pc + 1) L (.long z :: st)) : J p l e R s m args below meth c D A nL cells slots Q n sk v pc L (.int y :: .long x :: st) := by
  intro H locs ls h1 h2 h3 h4 h5 h6
  exact lv_lshl X.1 X.2.1 d hv (K H locs ls h1 h2 h3 h4 h5 h6)
theorem j_dup (X : Cx p s m args meth c D cc nL own Ts ret) {x : Value} (d : decode cc pc = .ok (.dup, 1)) (hx : x.category = 1)
    (K : J p l e R s m args below meth c D A nL cells slots Q n sk v (pc + 1) L (x :: x :: st)) : J p l e R s m args below meth c D A nL cells slots Q n sk v pc L (x :: st) := by
  intro H locs ls h1 h2 h3 h4 h5 h6
  exact lv_dup X.1 X.2.1 d hx (K H locs ls h1 h2 h3 h4 h5 h6)
theorem j_dup2 (X : Cx p s m args meth c D cc nL own Ts ret) {x y : Value} (d : decode cc pc = .ok (.dup2, 1)) (hx : x.category = 1) (hy : y.category = 1)
    (K : J p l e R s m args below meth c D A nL cells slots Q n sk v (pc + 1) L (y :: x :: y :: x :: st)) : J p l e R s m args below meth c D A nL cells slots Q n sk v pc L (y :: x :: st) := by
  intro H locs ls h1 h2 h3 h4 h5 h6
  exact lv_dup2_11 X.1 X.2.1 d (by first | exact hx | exact hy) (by first | exact hy | exact hx) (K H locs ls h1 h2 h3 h4 h5 h6)
theorem j_icmp_eq (X : Cx p s m args meth c D cc nL own Ts ret) {x y off : Int} {tgt : Nat} (d : decode cc pc = .ok (.if_icmp .eq off, 3)) (hB : (-2147483648 ≤ x ∧ x ≤ 2147483647) ∧ (-2147483648 ≤ y ∧ y ≤ 2147483647)) (ht : (pc : Int) + off = (tgt : Int))
    (Kt : x = y → J p l e R s m args below meth c D A nL cells slots Q n sk v tgt L st) (Kf : ¬ x = y → J p l e R s m args below meth c D A nL cells slots Q n sk v (pc + 3) L st) : J p l e R s m args below meth c D A nL cells slots Q n sk v pc L (.int (I y) :: .int (I x) :: st) := by
  intro H locs ls h1 h2 h3 h4 h5 h6
  exact lv_icmp_eq X.1 X.2.1 d ht (fun q => Kt ((I_eq hB.1 hB.2).mp q) H locs ls h1 h2 h3 h4 h5 h6) (fun q => Kf (fun z => q ((I_eq hB.1 hB.2).mpr z)) H locs ls h1 h2 h3 h4 h5 h6)
theorem j_if_eq (X : Cx p s m args meth c D cc nL own Ts ret) {x off : Int} {tgt : Nat} (d : decode cc pc = .ok (.ifCond .eq off, 3)) (hB : -2147483648 ≤ x ∧ x ≤ 2147483647) (ht : (pc : Int) + off = (tgt : Int))
    (Kt : x = 0 → J p l e R s m args below meth c D A nL cells slots Q n sk v tgt L st) (Kf : ¬ x = 0 → J p l e R s m args below meth c D A nL cells slots Q n sk v (pc + 3) L st) : J p l e R s m args below meth c D A nL cells slots Q n sk v pc L (.int (I x) :: st) := by
  intro H locs ls h1 h2 h3 h4 h5 h6
  exact lv_if_eq X.1 X.2.1 d ht (fun q => Kt ((I_eq (b := 0) hB (by omega)).mp q) H locs ls h1 h2 h3 h4 h5 h6) (fun q => Kf (fun z => q ((I_eq (b := 0) hB (by omega)).mpr z)) H locs ls h1 h2 h3 h4 h5 h6)
theorem j_icmp_ne (X : Cx p s m args meth c D cc nL own Ts ret) {x y off : Int} {tgt : Nat} (d : decode cc pc = .ok (.if_icmp .ne off, 3)) (hB : (-2147483648 ≤ x ∧ x ≤ 2147483647) ∧ (-2147483648 ≤ y ∧ y ≤ 2147483647)) (ht : (pc : Int) + off = (tgt : Int))
    (Kt : ¬ x = y → J p l e R s m args below meth c D A nL cells slots Q n sk v tgt L st) (Kf : x = y → J p l e R s m args below meth c D A nL cells slots Q n sk v (pc + 3) L st) : J p l e R s m args below meth c D A nL cells slots Q n sk v pc L (.int (I y) :: .int (I x) :: st) := by
  intro H locs ls h1 h2 h3 h4 h5 h6
  exact lv_icmp_ne X.1 X.2.1 d ht (fun q => Kt (fun z => q ((I_eq hB.1 hB.2).mpr z)) H locs ls h1 h2 h3 h4 h5 h6) (fun q => Kf ((I_eq hB.1 hB.2).mp q) H locs ls h1 h2 h3 h4 h5 h6)
theorem j_if_ne (X : Cx p s m args meth c D cc nL own Ts ret) {x off : Int} {tgt : Nat} (d : decode cc pc = .ok (.ifCond .ne off, 3)) (hB : -2147483648 ≤ x ∧ x ≤ 2147483647) (ht : (pc : Int) + off = (tgt : Int))
    (Kt : ¬ x = 0 → J p l e R s m args below meth c D A nL cells slots Q n sk v tgt L st) (Kf : x = 0 → J p l e R s m args below meth c D A nL cells slots Q n sk v (pc + 3) L st) : J p l e R s m args below meth c D A nL cells slots Q n sk v pc L (.int (I x) :: st) := by
  intro H locs ls h1 h2 h3 h4 h5 h6
  exact lv_if_ne X.1 X.2.1 d ht (fun q => Kt (fun z => q ((I_eq (b := 0) hB (by omega)).mpr z)) H locs ls h1 h2 h3 h4 h5 h6) (fun q => Kf ((I_eq (b := 0) hB (by omega)).mp q) H locs ls h1 h2 h3 h4 h5 h6)
theorem j_icmp_lt (X : Cx p s m args meth c D cc nL own Ts ret) {x y off : Int} {tgt : Nat} (d : decode cc pc = .ok (.if_icmp .lt off, 3)) (hB : (-2147483648 ≤ x ∧ x ≤ 2147483647) ∧ (-2147483648 ≤ y ∧ y ≤ 2147483647)) (ht : (pc : Int) + off = (tgt : Int))
    (Kt : x < y → J p l e R s m args below meth c D A nL cells slots Q n sk v tgt L st) (Kf : ¬ x < y → J p l e R s m args below meth c D A nL cells slots Q n sk v (pc + 3) L st) : J p l e R s m args below meth c D A nL cells slots Q n sk v pc L (.int (I y) :: .int (I x) :: st) := by
  intro H locs ls h1 h2 h3 h4 h5 h6
  exact lv_icmp_lt X.1 X.2.1 d ht (fun q => Kt ((I_lt hB.1 hB.2).mp q) H locs ls h1 h2 h3 h4 h5 h6) (fun q => Kf (fun z => q ((I_lt hB.1 hB.2).mpr z)) H locs ls h1 h2 h3 h4 h5 h6)
theorem j_if_lt (X : Cx p s m args meth c D cc nL own Ts ret) {x off : Int} {tgt : Nat} (d : decode cc pc = .ok (.ifCond .lt off, 3)) (hB : -2147483648 ≤ x ∧ x ≤ 2147483647) (ht : (pc : Int) + off = (tgt : Int))
    (Kt : x < 0 → J p l e R s m args below meth c D A nL cells slots Q n sk v tgt L st) (Kf : ¬ x < 0 → J p l e R s m args below meth c D A nL cells slots Q n sk v (pc + 3) L st) : J p l e R s m args below meth c D A nL cells slots Q n sk v pc L (.int (I x) :: st) := by
  intro H locs ls h1 h2 h3 h4 h5 h6
  exact lv_if_lt X.1 X.2.1 d ht (fun q => Kt ((I_lt (b := 0) hB (by omega)).mp q) H locs ls h1 h2 h3 h4 h5 h6) (fun q => Kf (fun z => q ((I_lt (b := 0) hB (by omega)).mpr z)) H locs ls h1 h2 h3 h4 h5 h6)
theorem j_icmp_ge (X : Cx p s m args meth c D cc nL own Ts ret) {x y off : Int} {tgt : Nat} (d : decode cc pc = .ok (.if_icmp .ge off, 3)) (hB : (-2147483648 ≤ x ∧ x ≤ 2147483647) ∧ (-2147483648 ≤ y ∧ y ≤ 2147483647)) (ht : (pc : Int) + off = (tgt : Int))
    (Kt : y ≤ x → J p l e R s m args below meth c D A nL cells slots Q n sk v tgt L st) (Kf : ¬ y ≤ x → J p l e R s m args below meth c D A nL cells slots Q n sk v (pc + 3) L st) : J p l e R s m args below meth c D A nL cells slots Q n sk v pc L (.int (I y) :: .int (I x) :: st) := by
  intro H locs ls h1 h2 h3 h4 h5 h6
  exact lv_icmp_ge X.1 X.2.1 d ht (fun q => Kt ((I_le hB.2 hB.1).mp q) H locs ls h1 h2 h3 h4 h5 h6) (fun q => Kf (fun z => q ((I_le hB.2 hB.1).mpr z)) H locs ls h1 h2 h3 h4 h5 h6)
theorem j_if_ge (X : Cx p s m args meth c D cc nL own Ts ret) {x off : Int} {tgt : Nat} (d : decode cc pc = .ok (.ifCond .ge off, 3)) (hB : -2147483648 ≤ x ∧ x ≤ 2147483647) (ht : (pc : Int) + off = (tgt : Int))
    (Kt : 0 ≤ x → J p l e R s m args below meth c D A nL cells slots Q n sk v tgt L st) (Kf : ¬ 0 ≤ x → J p l e R s m args below meth c D A nL cells slots Q n sk v (pc + 3) L st) : J p l e R s m args below meth c D A nL cells slots Q n sk v pc L (.int (I x) :: st) := by
  intro H locs ls h1 h2 h3 h4 h5 h6
  exact lv_if_ge X.1 X.2.1 d ht (fun q => Kt ((I_le (a := 0) (by omega) hB).mp q) H locs ls h1 h2 h3 h4 h5 h6) (fun q => Kf (fun z => q ((I_le (a := 0) (by omega) hB).mpr z)) H locs ls h1 h2 h3 h4 h5 h6)
theorem j_icmp_gt (X : Cx p s m args meth c D cc nL own Ts ret) {x y off : Int} {tgt : Nat} (d : decode cc pc = .ok (.if_icmp .gt off, 3)) (hB : (-2147483648 ≤ x ∧ x ≤ 2147483647) ∧ (-2147483648 ≤ y ∧ y ≤ 2147483647)) (ht : (pc : Int) + off = (tgt : Int))
    (Kt : y < x → J p l e R s m args below meth c D A nL cells slots Q n sk v tgt L st) (Kf : ¬ y < x → J p l e R s m args below meth c D A nL cells slots Q n sk v (pc + 3) L st) : J p l e R s m args below meth c D A nL cells slots Q n sk v pc L (.int (I y) :: .int (I x) :: st) := by
  intro H locs ls h1 h2 h3 h4 h5 h6
  exact lv_icmp_gt X.1 X.2.1 d ht (fun q => Kt ((I_lt hB.2 hB.1).mp q) H locs ls h1 h2 h3 h4 h5 h6) (fun q => Kf (fun z => q ((I_lt hB.2 hB.1).mpr z)) H locs ls h1 h2 h3 h4 h5 h6)
theorem j_if_gt (X : Cx p s m args meth c D cc nL own Ts ret) {x off : Int} {tgt : Nat} (d : decode cc pc = .ok (.ifCond .gt off, 3)) (hB : -2147483648 ≤ x ∧ x ≤ 2147483647) (ht : (pc : Int) + off = (tgt : Int))
    (Kt : 0 < x → J p l e R s m args below meth c D A nL cells slots Q n sk v tgt L st) (Kf : ¬ 0 < x → J p l e R s m args below meth c D A nL cells slots Q n sk v (pc + 3) L st) : J p l e R s m args below meth c D A nL cells slots Q n sk v pc L (.int (I x) :: st) := by
  intro H locs ls h1 h2 h3 h4 h5 h6
  exact lv_if_gt X.1 X.2.1 d ht (fun q => Kt ((I_lt (a := 0) (by omega) hB).mp q) H locs ls h1 h2 h3 h4 h5 h6) (fun q => Kf (fun z => q ((I_lt (a := 0) (by omega) hB).mpr z)) H locs ls h1 h2 h3 h4 h5 h6)
theorem j_icmp_le (X : Cx p s m args meth c D cc nL own Ts ret) {x y off : Int} {tgt : Nat} (d : decode cc pc = .ok (.if_icmp .le off, 3)) (hB : (-2147483648 ≤ x ∧ x ≤ 2147483647) ∧ (-2147483648 ≤ y ∧ y ≤ 2147483647)) (ht : (pc : Int) + off = (tgt : Int))
    (Kt : x ≤ y → J p l e R s m args below meth c D A nL cells slots Q n sk v tgt L st) (Kf : ¬ x ≤ y → J p l e R s m args below meth c D A nL cells slots Q n sk v (pc + 3) L st) : J p l e R s m args below meth c D A nL cells slots Q n sk v pc L (.int (I y) :: .int (I x) :: st) := by
  intro H locs ls h1 h2 h3 h4 h5 h6
  exact lv_icmp_le X.1 X.2.1 d ht (fun q => Kt ((I_le hB.1 hB.2).mp q) H locs ls h1 h2 h3 h4 h5 h6) (fun q => Kf (fun z => q ((I_le hB.1 hB.2).mpr z)) H locs ls h1 h2 h3 h4 h5 h6)
theorem j_if_le (X : Cx p s m args meth c D cc nL own Ts ret) {x off : Int} {tgt : Nat} (d : decode cc pc = .ok (.ifCond .le off, 3)) (hB : -2147483648 ≤ x ∧ x ≤ 2147483647) (ht : (pc : Int) + off = (tgt : Int))
    (Kt : x ≤ 0 → J p l e R s m args below meth c D A nL cells slots Q n sk v tgt L st) (Kf : ¬ x ≤ 0 → J p l e R s m args below meth c D A nL cells slots Q n sk v (pc + 3) L st) : J p l e R s m args below meth c D A nL cells slots Q n sk v pc L (.int (I x) :: st) := by
  intro H locs ls h1 h2 h3 h4 h5 h6
  exact lv_if_le X.1 X.2.1 d ht (fun q => Kt ((I_le (b := 0) hB (by omega)).mp q) H locs ls h1 h2 h3 h4 h5 h6) (fun q => Kf (fun z => q ((I_le (b := 0) hB (by omega)).mpr z)) H locs ls h1 h2 h3 h4 h5 h6)
theorem j_goto (X : Cx p s m args meth c D cc nL own Ts ret) {off : Int} {tgt : Nat} (d : decode cc pc = .ok (.goto off, 3)) (ht : (pc : Int) + off = (tgt : Int))
    (K : J p l e R s m args below meth c D A nL cells slots Q n sk v tgt L st) : J p l e R s m args below meth c D A nL cells slots Q n sk v pc L st := by
  intro H locs ls h1 h2 h3 h4 h5 h6
  exact lv_goto X.1 X.2.1 d ht (K H locs ls h1 h2 h3 h4 h5 h6)
theorem j_tabOut (X : Cx p s m args meth c D cc nL own Ts ret) {x dflt lo hi : Int} {offs : Array Int} {len tgt : Nat} (d : decode cc pc = .ok (.tableswitch dflt lo hi offs, len)) (hB : -2147483648 ≤ x ∧ x ≤ 2147483647) (h : x < lo ∨ hi < x) (ht : (pc : Int) + dflt = (tgt : Int))
    (K : J p l e R s m args below meth c D A nL cells slots Q n sk v tgt L st) : J p l e R s m args below meth c D A nL cells slots Q n sk v pc L (.int (I x) :: st) := by
  intro H locs ls h1 h2 h3 h4 h5 h6
  exact lv_tableOut X.1 X.2.1 d (by rw [I_toInt hB]; exact h) ht (K H locs ls h1 h2 h3 h4 h5 h6)
theorem j_tabIn (X : Cx p s m args meth c D cc nL own Ts ret) {x dflt lo hi off : Int} {offs : Array Int} {len tgt : Nat} (d : decode cc pc = .ok (.tableswitch dflt lo hi offs, len)) (hB : -2147483648 ≤ x ∧ x ≤ 2147483647) (h : lo ≤ x ∧ x ≤ hi) (ho : offs[(x - lo).toNat]? = some off) (ht : (pc : Int) + off = (tgt : Int))
    (K : J p l e R s m args below meth c D A nL cells slots Q n sk v tgt L st) : J p l e R s m args below meth c D A nL cells slots Q n sk v pc L (.int (I x) :: st) := by
  intro H locs ls h1 h2 h3 h4 h5 h6
  exact lv_tableIn X.1 X.2.1 d (by rw [I_toInt hB]; omega) (by rw [I_toInt hB]; omega) (by rw [I_toInt hB]; exact ho) ht (K H locs ls h1 h2 h3 h4 h5 h6)
theorem Wd.one {H : Heap} {a : Nat} {f : (Nat → Int) → va_E} {x : va_E} (h : Wd D sk v H) (hs : sk a = some f) (hx : f (v a) = x) : va_P D vwCl [(a, x)] H := by
  subst hx
  intro k q hk
  cases k with
  | zero => cases hk; exact h _ _ hs
  | succ k => simp at hk
theorem Wd.set {H H1 : Heap} {a : Nat} {f g : (Nat → Int) → va_E} {r : Nat → Int} (h : Wd D sk v H) (hs : sk a = some f) (he : va_at D vwCl (a, g r) H1) (oq : ∀ q : Nat, q ≠ a → H1[q]? = H[q]?) : Wd D (upS sk a g) (upR v a r) H1 := by
  intro b f' hb
  by_cases hq : b = a
  · subst hq
    rw [upS_s] at hb
    cases hb
    rw [upR_s]
    exact he
  · rw [upS_n _ _ hq] at hb
    rw [upR_n _ _ hq]
    exact (h b f' hb).kept (oq b hq)
theorem upS_id {a : Nat} {f : (Nat → Int) → va_E} (hs : sk a = some f) : upS sk a f = sk := by
  funext b
  by_cases hq : b = a
  · subst hq; rw [upS_s, hs]
  · rw [upS_n _ _ hq]
theorem Wd.setv {H H1 : Heap} {a : Nat} {f : (Nat → Int) → va_E} {r : Nat → Int} (h : Wd D sk v H) (hs : sk a = some f) (he : va_at D vwCl (a, f r) H1) (oq : ∀ q : Nat, q ≠ a → H1[q]? = H[q]?) : Wd D sk (upR v a r) H1 := by
  have := h.set (g := f) hs he oq
  rwa [upS_id hs] at this
theorem j_geti (X : Cx p s m args meth c D cc nL own Ts ret) {C : String} {T : u_T} {N ci index a : Nat} {fs : List (Option Value)} (d : decode cc pc = .ok (.getfield index, 3)) (hin : ∀ w ∈ u_ws C T N, w ∈ Ts) (hc : vwCl[ci]? = some (C, T, N)) (hs : sk a = some (eO ci fs)) (k : Nat) (hk : k < N) (hlink : Cond.fieldLink own index (T k).1 (T k).2.1 (T k).2.2.1 ∈ Ts) (hf : fs[k]? = some none)
    (K : J p l e R s m args below meth c D A nL cells slots Q n sk v (pc + 3) L (.int (I (v a k)) :: st)) : J p l e R s m args below meth c D A nL cells slots Q n sk v pc L (.ref a :: st) := by
  intro H locs ls h1 h2 h3 h4 h5 h6
  exact va_get  X.1 X.2.1 X.2.2.2.2.1 hin X.2.2.2.1 X.2.2.2.2.2.1 (h4.one hs rfl) 0 rfl hc k hk (X.2.2.2.2.1 _ hlink) (fun _ h9 => h9) (by rw [flds_get, hf]; simp) d (K H locs ls h1 h2 h3 h4 h5 h6)
theorem j_getr (X : Cx p s m args meth c D cc nL own Ts ret) {C : String} {T : u_T} {N ci index a : Nat} {fs : List (Option Value)} {x : Value} (d : decode cc pc = .ok (.getfield index, 3)) (hin : ∀ w ∈ u_ws C T N, w ∈ Ts) (hc : vwCl[ci]? = some (C, T, N)) (hs : sk a = some (eO ci fs)) (k : Nat) (hk : k < N) (hlink : Cond.fieldLink own index (T k).1 (T k).2.1 (T k).2.2.1 ∈ Ts) (hf : fs[k]? = some (some x))
    (K : J p l e R s m args below meth c D A nL cells slots Q n sk v (pc + 3) L (x :: st)) : J p l e R s m args below meth c D A nL cells slots Q n sk v pc L (.ref a :: st) := by
  intro H locs ls h1 h2 h3 h4 h5 h6
  exact va_get  X.1 X.2.1 X.2.2.2.2.1 hin X.2.2.2.1 X.2.2.2.2.2.1 (h4.one hs rfl) 0 rfl hc k hk (X.2.2.2.2.1 _ hlink) (fun _ h9 => h9) (by rw [flds_get, hf]; simp) d (K H locs ls h1 h2 h3 h4 h5 h6)
theorem j_getiN (X : Cx p s m args meth c D cc nL own Ts ret) {C : String} {T : u_T} {N ci index a : Nat} {fs : List (Option Value)} (d : decode cc pc = .ok (.getfield index, 3)) (hin : ∀ w ∈ u_ws C T N, w ∈ Ts) (hc : vwCl[ci]? = some (C, T, N)) (hs : sk a = some (eO ci fs)) (k : Nat) (hk : k < N) (hlink : (index, (T k).1, (T k).2.1, (T k).2.2.1) ∈ nestF) (how : own = RX4) (hf : fs[k]? = some none)
    (K : J p l e R s m args below meth c D A nL cells slots Q n sk v (pc + 3) L (.int (I (v a k)) :: st)) : J p l e R s m args below meth c D A nL cells slots Q n sk v pc L (.ref a :: st) := by
  intro H locs ls h1 h2 h3 h4 h5 h6
  exact va_getN (host := RX4) X.1 X.2.1 X.2.2.2.2.1 hin X.2.2.2.1 X.2.2.2.2.2.1 (h4.one hs rfl) 0 rfl hc k hk (by rw [how]; exact va_Nw.use rfl (X.2.2.2.2.2.2.1.1 _ hlink)) (fun _ h9 => h9) (by rw [flds_get, hf]; simp) d (K H locs ls h1 h2 h3 h4 h5 h6)
theorem j_getrN (X : Cx p s m args meth c D cc nL own Ts ret) {C : String} {T : u_T} {N ci index a : Nat} {fs : List (Option Value)} {x : Value} (d : decode cc pc = .ok (.getfield index, 3)) (hin : ∀ w ∈ u_ws C T N, w ∈ Ts) (hc : vwCl[ci]? = some (C, T, N)) (hs : sk a = some (eO ci fs)) (k : Nat) (hk : k < N) (hlink : (index, (T k).1, (T k).2.1, (T k).2.2.1) ∈ nestF) (how : own = RX4) (hf : fs[k]? = some (some x))
    (K : J p l e R s m args below meth c D A nL cells slots Q n sk v (pc + 3) L (x :: st)) : J p l e R s m args below meth c D A nL cells slots Q n sk v pc L (.ref a :: st) := by
  intro H locs ls h1 h2 h3 h4 h5 h6
  exact va_getN (host := RX4) X.1 X.2.1 X.2.2.2.2.1 hin X.2.2.2.1 X.2.2.2.2.2.1 (h4.one hs rfl) 0 rfl hc k hk (by rw [how]; exact va_Nw.use rfl (X.2.2.2.2.2.2.1.1 _ hlink)) (fun _ h9 => h9) (by rw [flds_get, hf]; simp) d (K H locs ls h1 h2 h3 h4 h5 h6)
theorem j_put (X : Cx p s m args meth c D cc nL own Ts ret) {C : String} {T : u_T} {N ci index a : Nat} {fs : List (Option Value)} {z : Int} (d : decode cc pc = .ok (.putfield index, 3)) (hin : ∀ w ∈ u_ws C T N, w ∈ Ts) (hc : vwCl[ci]? = some (C, T, N)) (hs : sk a = some (eO ci fs)) (k : Nat) (hk : k < N) (ty0 : Nat → FieldType) (hty : ∀ k, k < N → parseFieldDescriptor (T k).2.2.1 = some (ty0 k)) (hnm : ∀ a, a < N → ∀ b, b < N → a ≠ b → (T a).2.1 ≠ (T b).2.1) (hfin : (T k).2.2.2 = false) (hint : ty0 k = .int) (hf : fs[k]? = some none) (hlink : Cond.fieldLink own index (T k).1 (T k).2.1 (T k).2.2.1 ∈ Ts)
    (K : J p l e R s m args below meth c D A nL cells slots Q n sk (up2 v a k z) (pc + 3) L st) : J p l e R s m args below meth c D A nL cells slots Q n sk v pc L (.int (I z) :: .ref a :: st) := by
  intro H locs ls h1 h2 h3 h4 h5 h6
  have hap := va_apart (own := own) X.2.2.2.2.1 hin ty0 hty hnm X.2.2.2.2.2.1 hc
  obtain ⟨r, g1, cell, q1, q2, q3, q4⟩ := h4 a _ hs
  have hr : r = (C, T, N) := Option.some.inj (g1.symm.trans hc)
  subst hr
  obtain ⟨hS, hfc, kC, hkC, hkind⟩ := X.2.2.2.2.2.1.1 ci _ hc
  obtain ⟨cf, kf, fi, f, hi, hsl⟩ := hS k hk
  have hlay := X.2.2.2.2.1 _ (hin _ (u_in_lay hk))
  unfold u_lay at hlay
  rw [if_neg (by rw [hfin]; decide)] at hlay
  have hst := (u_facts hfc hkC (u_lays X.2.2.2.2.1 hin hk) hi).1
  have hk6 := u_store hfc hkC hkind hlay hi (hty k hk) (v := .int (I z)) (by rw [hint]; rfl) (by rw [hint]; rfl)
  refine W.putK X.1 X.2.1 (f := f) ⟨X.2.2.2.1, X.2.2.2.2.1 _ hlink, ⟨_, _, _, hi⟩, hst⟩ (by rw [q2]; exact hk6) q1 q3 (by rw [hsl]; exact k2_hasslot (q4 k hk)) rfl rfl d fun H' e1 e2 e3 => ?_
  rw [hsl] at e1 ⊢
  refine K H' _ ls (e2.trans h1) h2 h3 (h4.setv hs (r := upE (v a) k z) ⟨_, hc, ?_⟩ e3) (h5.put e2 e3 (h2 a (by rw [hs]; exact fun q => by cases q))) h6
  show t_OB a _ _ _ _ (vp_V (flds (upE (v a) k z) 0 fs))
  rw [flds_put _ _ _ _ hf]
  have hl : k < (flds (v a) 0 fs).length := by rw [flds_len]; exact (List.getElem?_eq_some_iff.mp hf).1
  exact t_OB.to (V := updV (vp_V (flds (v a) 0 fs)) k (.int (I z))) ⟨_, e1, q2, q3, t_set q4 hap hk (.int (I z))⟩ (fun j _ => vp_updV_set hl _ j)
theorem j_putN (X : Cx p s m args meth c D cc nL own Ts ret) {C : String} {T : u_T} {N ci index a : Nat} {fs : List (Option Value)} {z : Int} (d : decode cc pc = .ok (.putfield index, 3)) (hin : ∀ w ∈ u_ws C T N, w ∈ Ts) (hc : vwCl[ci]? = some (C, T, N)) (hs : sk a = some (eO ci fs)) (k : Nat) (hk : k < N) (ty0 : Nat → FieldType) (hty : ∀ k, k < N → parseFieldDescriptor (T k).2.2.1 = some (ty0 k)) (hnm : ∀ a, a < N → ∀ b, b < N → a ≠ b → (T a).2.1 ≠ (T b).2.1) (hfin : (T k).2.2.2 = false) (hint : ty0 k = .int) (hf : fs[k]? = some none) (hlink : (index, (T k).1, (T k).2.1, (T k).2.2.1) ∈ nestF) (how : own = RX4)
    (K : J p l e R s m args below meth c D A nL cells slots Q n sk (up2 v a k z) (pc + 3) L st) : J p l e R s m args below meth c D A nL cells slots Q n sk v pc L (.int (I z) :: .ref a :: st) := by
  intro H locs ls h1 h2 h3 h4 h5 h6
  have hap := va_apart (own := own) X.2.2.2.2.1 hin ty0 hty hnm X.2.2.2.2.2.1 hc
  obtain ⟨r, g1, cell, q1, q2, q3, q4⟩ := h4 a _ hs
  have hr : r = (C, T, N) := Option.some.inj (g1.symm.trans hc)
  subst hr
  obtain ⟨hS, hfc, kC, hkC, hkind⟩ := X.2.2.2.2.2.1.1 ci _ hc
  obtain ⟨cf, kf, fi, f, hi, hsl⟩ := hS k hk
  have hlay := X.2.2.2.2.1 _ (hin _ (u_in_lay hk))
  unfold u_lay at hlay
  rw [if_neg (by rw [hfin]; decide)] at hlay
  have hst := (u_facts hfc hkC (u_lays X.2.2.2.2.1 hin hk) hi).1
  have hk6 := u_store hfc hkC hkind hlay hi (hty k hk) (v := .int (I z)) (by rw [hint]; rfl) (by rw [hint]; rfl)
  refine va_WputK (host := RX4) X.1 X.2.1 (f := f) X.2.2.2.1 (by rw [how]; exact va_Nw.use rfl (X.2.2.2.2.2.2.1.1 _ hlink)) hi hst (by rw [q2]; exact hk6) q1 q3 (by rw [hsl]; exact k2_hasslot (q4 k hk)) rfl rfl d fun H' e1 e2 e3 => ?_
  rw [hsl] at e1 ⊢
  refine K H' _ ls (e2.trans h1) h2 h3 (h4.setv hs (r := upE (v a) k z) ⟨_, hc, ?_⟩ e3) (h5.put e2 e3 (h2 a (by rw [hs]; exact fun q => by cases q))) h6
  show t_OB a _ _ _ _ (vp_V (flds (upE (v a) k z) 0 fs))
  rw [flds_put _ _ _ _ hf]
  have hl : k < (flds (v a) 0 fs).length := by rw [flds_len]; exact (List.getElem?_eq_some_iff.mp hf).1
  exact t_OB.to (V := updV (vp_V (flds (v a) 0 fs)) k (.int (I z))) ⟨_, e1, q2, q3, t_set q4 hap hk (.int (I z))⟩ (fun j _ => vp_updV_set hl _ j)
theorem j_iald (X : Cx p s m args meth c D cc nL own Ts ret) {a nn : Nat} {i : Int} (d : decode cc pc = .ok (.iaload, 1)) (hs : sk a = some (eA D 10 nn)) (hi : 0 ≤ i ∧ i < nn) (hnn : nn ≤ 2147483647)
    (K : J p l e R s m args below meth c D A nL cells slots Q n sk v (pc + 1) L (.int (I (v a i.toNat)) :: st)) : J p l e R s m args below meth c D A nL cells slots Q n sk v pc L (.int (I i) :: .ref a :: st) := by
  intro H locs ls h1 h2 h3 h4 h5 h6
  refine va_iald X.1 X.2.1 X.2.2.2.2.2.1 (h4.one hs rfl) 0 0 rfl rfl (I_in hi hnn) d ?_
  rw [I_clamp (by omega)]
  exact K H locs ls h1 h2 h3 h4 h5 h6
theorem j_cald (X : Cx p s m args meth c D cc nL own Ts ret) {a nn : Nat} {i : Int} (d : decode cc pc = .ok (.caload, 1)) (hs : sk a = some (eA D 11 nn)) (hi : 0 ≤ i ∧ i < nn) (hnn : nn ≤ 2147483647)
    (K : J p l e R s m args below meth c D A nL cells slots Q n sk v (pc + 1) L (.int (I (v a i.toNat)) :: st)) : J p l e R s m args below meth c D A nL cells slots Q n sk v pc L (.int (I i) :: .ref a :: st) := by
  intro H locs ls h1 h2 h3 h4 h5 h6
  refine va_cald X.1 X.2.1 X.2.2.2.2.2.1 (h4.one hs rfl) 0 1 rfl rfl (I_in hi hnn) d ?_
  rw [I_clamp (by omega)]
  exact K H locs ls h1 h2 h3 h4 h5 h6
theorem j_zald (X : Cx p s m args meth c D cc nL own Ts ret) {a nn : Nat} {i : Int} (d : decode cc pc = .ok (.baload, 1)) (hs : sk a = some (eA D 12 nn)) (hi : 0 ≤ i ∧ i < nn) (hnn : nn ≤ 2147483647)
    (K : J p l e R s m args below meth c D A nL cells slots Q n sk v (pc + 1) L (.int (I (v a i.toNat)) :: st)) : J p l e R s m args below meth c D A nL cells slots Q n sk v pc L (.int (I i) :: .ref a :: st) := by
  intro H locs ls h1 h2 h3 h4 h5 h6
  refine va_zald X.1 X.2.1 X.2.2.2.2.2.1 (h4.one hs rfl) 0 2 rfl rfl (I_in hi hnn) d ?_
  rw [I_clamp (by omega)]
  exact K H locs ls h1 h2 h3 h4 h5 h6
theorem j_aald (X : Cx p s m args meth c D cc nL own Ts ret) {a nn k b : Nat} {i : Int} {C : String} {t0 : Nat} {g : Nat → Option Nat} (d : decode cc pc = .ok (.aaload, 1)) (hs : sk a = some (eQ D k nn g)) (ht0 : (tysA D)[t0]? = some (D.1 k, .object C)) (hi : 0 ≤ i ∧ i < nn) (hnn : nn ≤ 2147483647) (hb : g i.toNat = some b)
    (K : J p l e R s m args below meth c D A nL cells slots Q n sk v (pc + 1) L (.ref b :: st)) : J p l e R s m args below meth c D A nL cells slots Q n sk v pc L (.int (I i) :: .ref a :: st) := by
  intro H locs ls h1 h2 h3 h4 h5 h6
  refine va_aldq X.1 X.2.1 X.2.2.2.2.2.1 (h4.one hs rfl) 0 t0 rfl ht0 (I_in hi hnn) d ?_
  rw [I_clamp (by omega), hb]
  exact K H locs ls h1 h2 h3 h4 h5 h6
theorem j_alen (X : Cx p s m args meth c D cc nL own Ts ret) {a nn k t0 : Nat} {ty : FieldType} (d : decode cc pc = .ok (.arraylength, 1)) (hs : sk a = some (eA D k nn)) (ht0 : (tysA D)[t0]? = some (D.1 k, ty))
    (K : J p l e R s m args below meth c D A nL cells slots Q n sk v (pc + 1) L (.int (I nn) :: st)) : J p l e R s m args below meth c D A nL cells slots Q n sk v pc L (.ref a :: st) := by
  intro H locs ls h1 h2 h3 h4 h5 h6
  exact va_alen X.1 X.2.1 X.2.2.2.2.2.1 (h4.one hs rfl) 0 t0 rfl ht0 (I_nat nn).symm d (K H locs ls h1 h2 h3 h4 h5 h6)
theorem j_alenQ (X : Cx p s m args meth c D cc nL own Ts ret) {a nn k t0 : Nat} {ty : FieldType} {g : Nat → Option Nat} (d : decode cc pc = .ok (.arraylength, 1)) (hs : sk a = some (eQ D k nn g)) (ht0 : (tysA D)[t0]? = some (D.1 k, ty))
    (K : J p l e R s m args below meth c D A nL cells slots Q n sk v (pc + 1) L (.int (I nn) :: st)) : J p l e R s m args below meth c D A nL cells slots Q n sk v pc L (.ref a :: st) := by
  intro H locs ls h1 h2 h3 h4 h5 h6
  exact va_alen X.1 X.2.1 X.2.2.2.2.2.1 (h4.one hs rfl) 0 t0 rfl ht0 (I_nat nn).symm d (K H locs ls h1 h2 h3 h4 h5 h6)
theorem j_iast (X : Cx p s m args meth c D cc nL own Ts ret) {a nn : Nat} {i z : Int} (d : decode cc pc = .ok (.iastore, 1)) (hs : sk a = some (eA D 10 nn)) (hi : 0 ≤ i ∧ i < nn) (hnn : nn ≤ 2147483647)
    (K : J p l e R s m args below meth c D A nL cells slots Q n sk (up2 v a i.toNat z) (pc + 1) L st) : J p l e R s m args below meth c D A nL cells slots Q n sk v pc L (.int (I z) :: .int (I i) :: .ref a :: st) := by
  intro H locs ls h1 h2 h3 h4 h5 h6
  have hn := I_in hi hnn
  have hcl : (I i).toNatClampNeg = i.toNat := I_clamp (by omega)
  refine W.iast X.1 X.2.1 (h4 a _ hs) ((X.2.2.2.2.2.1.2 0 _ rfl).1 nn (fun j => .int (I (v a j)))) (fun q => by cases q) (by show ¬ (I i < 0 ∨ (arrV _ _ _).slots.size ≤ _); rw [arrV_size]; exact hn) rfl rfl d fun H1 e1 e2 e3 => ?_
  refine K H1 _ ls (e2.trans h1) h2 h3 (h4.setv hs (r := upE (v a) i.toNat z) ?_ e3) (h5.put e2 e3 (h2 a (by rw [hs]; exact fun q => by cases q))) h6
  show H1[a]? = some (vp_cell _ (nn, .inl (fun j => I (upE (v a) i.toNat z j))))
  rw [e1, vp_cell_i]
  show some (Cell.setSlot (vp_cell (D.1 10) (nn, .inl (fun j => I (v a j)))) _ _) = _
  rw [vp_cell_i, arrV_store, hcl]
  show some (arrV (D.1 10) nn _) = some (arrV (D.1 10) nn (fun j => .int (I (upE (v a) i.toNat z j))))
  refine congrArg some (congrArg (arrV _ nn) ?_)
  funext q
  by_cases hq : q = i.toNat
  · subst hq
    simp [updV, upE]
  · simp [updV, upE, hq]
theorem j_cast (X : Cx p s m args meth c D cc nL own Ts ret) {a nn : Nat} {i z : Int} (d : decode cc pc = .ok (.castore, 1)) (hs : sk a = some (eA D 11 nn)) (hi : 0 ≤ i ∧ i < nn) (hnn : nn ≤ 2147483647) (hz : 0 ≤ z ∧ z < 65536)
    (K : J p l e R s m args below meth c D A nL cells slots Q n sk (up2 v a i.toNat z) (pc + 1) L st) : J p l e R s m args below meth c D A nL cells slots Q n sk v pc L (.int (I z) :: .int (I i) :: .ref a :: st) := by
  intro H locs ls h1 h2 h3 h4 h5 h6
  have hn := I_in hi hnn
  have hcl : (I i).toNatClampNeg = i.toNat := I_clamp (by omega)
  refine W.cast X.1 X.2.1 (h4 a _ hs) ((X.2.2.2.2.2.1.2 1 _ rfl).1 nn (fun j => .int (I (v a j)))) (fun q => by cases q) (by show ¬ (I i < 0 ∨ (arrV _ _ _).slots.size ≤ _); rw [arrV_size]; exact hn) rfl rfl d fun H1 e1 e2 e3 => ?_
  refine K H1 _ ls (e2.trans h1) h2 h3 (h4.setv hs (r := upE (v a) i.toNat z) ?_ e3) (h5.put e2 e3 (h2 a (by rw [hs]; exact fun q => by cases q))) h6
  show H1[a]? = some (vp_cell _ (nn, .inl (fun j => I (upE (v a) i.toNat z j))))
  rw [e1, vp_cell_i]
  show some (Cell.setSlot (vp_cell (D.1 11) (nn, .inl (fun j => I (v a j)))) _ _) = _
  rw [vp_cell_i, arrV_store, hcl]
  show some (arrV (D.1 11) nn _) = some (arrV (D.1 11) nn (fun j => .int (I (upE (v a) i.toNat z j))))
  refine congrArg some (congrArg (arrV _ nn) ?_)
  funext q
  by_cases hq : q = i.toNat
  · subst hq
    simp only [updV, upE, if_true]
    rw [j_narc hz]
  · simp [updV, upE, hq]
theorem j_zast (X : Cx p s m args meth c D cc nL own Ts ret) {a nn : Nat} {i z : Int} (d : decode cc pc = .ok (.bastore, 1)) (hs : sk a = some (eA D 12 nn)) (hi : 0 ≤ i ∧ i < nn) (hnn : nn ≤ 2147483647) (hz : z = 0 ∨ z = 1)
    (K : J p l e R s m args below meth c D A nL cells slots Q n sk (up2 v a i.toNat z) (pc + 1) L st) : J p l e R s m args below meth c D A nL cells slots Q n sk v pc L (.int (I z) :: .int (I i) :: .ref a :: st) := by
  intro H locs ls h1 h2 h3 h4 h5 h6
  have hn := I_in hi hnn
  have hcl : (I i).toNatClampNeg = i.toNat := I_clamp (by omega)
  refine W.zast X.1 X.2.1 (h4 a _ hs) ((X.2.2.2.2.2.1.2 2 _ rfl).1 nn (fun j => .int (I (v a j)))) (fun q => by cases q) (by show ¬ (I i < 0 ∨ (arrV _ _ _).slots.size ≤ _); rw [arrV_size]; exact hn) rfl rfl d fun H1 e1 e2 e3 => ?_
  refine K H1 _ ls (e2.trans h1) h2 h3 (h4.setv hs (r := upE (v a) i.toNat z) ?_ e3) (h5.put e2 e3 (h2 a (by rw [hs]; exact fun q => by cases q))) h6
  show H1[a]? = some (vp_cell _ (nn, .inl (fun j => I (upE (v a) i.toNat z j))))
  rw [e1, vp_cell_i]
  show some (Cell.setSlot (vp_cell (D.1 12) (nn, .inl (fun j => I (v a j)))) _ _) = _
  rw [vp_cell_i, arrV_store, hcl]
  show some (arrV (D.1 12) nn _) = some (arrV (D.1 12) nn (fun j => .int (I (upE (v a) i.toNat z j))))
  refine congrArg some (congrArg (arrV _ nn) ?_)
  funext q
  by_cases hq : q = i.toNat
  · subst hq
    simp only [updV, upE, if_true]
    rw [j_narz hz]
  · simp [updV, upE, hq]
end JA
end
section
/-! ===== the layer J: contracts, calls, copies, makings ===== -/
def PostI (sk : Sk) (P : Int → Mem → Prop) : Option Value → Sk → Mem → Prop := fun r sk' v' => ∃ z : Int, r = some (.int (I z)) ∧ sk' = sk ∧ P z v'
def PostV (sk : Sk) (P : Mem → Prop) : Option Value → Sk → Mem → Prop := fun r sk' v' => r = none ∧ sk' = sk ∧ P v'
def PostA (sk : Sk) (P : Nat → Mem → Prop) : Option Value → Sk → Mem → Prop := fun r sk' v' => ∃ a : Nat, r = some (.ref a) ∧ sk' = sk ∧ P a v'
def PostN (P : Sk → Mem → Prop) : Option Value → Sk → Mem → Prop := fun r sk' v' => r = none ∧ P sk' v'
abbrev CtI (l : Launch) (D : va_G) (y : MethodName) (ws : List Cond) (rm : Room) (av : List Value) (n : Nat) (sk : Sk) (v : Mem) (P : Int → Mem → Prop) : Prop := Ct l D y ws rm 0 0 av n sk v (PostI sk P)
abbrev CtV (l : Launch) (D : va_G) (y : MethodName) (ws : List Cond) (rm : Room) (av : List Value) (n : Nat) (sk : Sk) (v : Mem) (P : Mem → Prop) : Prop := Ct l D y ws rm 0 0 av n sk v (PostV sk P)
abbrev CtA (l : Launch) (D : va_G) (y : MethodName) (ws : List Cond) (rm : Room) (av : List Value) (n : Nat) (sk : Sk) (v : Mem) (P : Nat → Mem → Prop) : Prop := Ct l D y ws rm 0 0 av n sk v (PostA sk P)
abbrev CtN (l : Launch) (D : va_G) (y : MethodName) (ws : List Cond) (rm : Room) (mc ms : Nat) (av : List Value) (n : Nat) (sk : Sk) (v : Mem) (P : Sk → Mem → Prop) : Prop := Ct l D y ws rm mc ms av n sk v (PostN P)
theorem ct_blind {D : va_G} {n : Nat} {sk : Sk} {v : Mem} {av : List Value} : FrameBlind (va_Pc av (fun U => U.heap.size = n ∧ Wd D sk v U.heap ∧ va_K D vwCl (tysA D) U ∧ NX U)) := fun a U g mk q => ⟨q.1, q.2.1, q.2.2.1, va_K.moved (u := U) (U := U.calling g mk a) (Vm.Alike.refl U.vm) q.2.2.2.1, NX.same (u := U) (U := U.calling g mk a) rfl q.2.2.2.2⟩
theorem ct_of {l : Launch} {D : va_G} {y : MethodName} {ws ws' : List Cond} {rm : Room} {mc ms : Nat} {av : List Value} {n : Nat} {sk : Sk} {v : Mem} {post : Option Value → Sk → Mem → Prop} {cc : ByteArray} {maxL : Nat} {ret : Option FieldType} (hy : plainName y.cls = true) (hw : ws = Cond.code y cc maxL ret :: ws') (hlen : (lg_sl av).length ≤ maxL)
    (body : ∀ (p : Program) (e : Env) (s : State) (m : MethodId) (args : Array Value) (below : List Frame) (meth : Method) (c : Code), Cx p s m args meth c D cc maxL y.cls ws ret → meth.name = y.name → s.heap.size = n → J p l e rm s m args below meth c D (AJ sk n) maxL 0 0 (MQ below (QcJ D n mc sk post) args s mc ms (AJ sk n)) n sk v 0 (lo av maxL) []) : Ct l D y ws rm mc ms av n sk v post := by
  refine Met.ofW (cc := cc) (maxL := maxL) (ret := ret) hy hw ?_
  intro p e s m args below meth c s₁ B hml hv
  obtain ⟨rfl, hsz, hW, hK, hN⟩ := hv
  have hts := atoms_spec (ws := ws) B.pre
  have X : Cx p s m av.toArray meth c D cc maxL y.cls ws ret := ⟨B.exec, B.bytes, hml, findClass_of_methodNamed B.named, hts, hK, hN, B.returns, B.notSynchronized⟩
  have hl := lv_entry av (n := maxL) hlen
  rw [lg_entry_eq]
  exact body p e s m _ below meth c X (name_of_methodNamed B.named B.method).1 hsz s.heap [] _ hsz (fun a h => Or.inl h) (fun q h => Or.inr (by omega)) hW va_S.rf (lo_lh hl)
section JB
variable {p : Program} {l : Launch} {e : Env} {R : Room} {s : State} {m : MethodId} {args : Array Value} {below : List Frame} {meth : Method} {c : Code} {D : va_G} {A : Nat → Prop} {nL cells slots n pc : Nat} {Q : State → Prop} {sk : Sk} {v : Mem} {L : List (Option Value)} {st : List Value} {cc : ByteArray} {own : String} {Ts : List Cond} {ret : Option FieldType}
theorem j_end {n0 mc : Nat} {sk0 : Sk} {post : Option Value → Sk → Mem → Prop} {r : Option Value} (hp : post r sk v) {H : Heap} {locs : List Loc} (h1 : H.size = n0 + mc) (h2 : ∀ a, sk a ≠ none → AJ sk0 n0 a) (h4 : Wd D sk v H) (h5 : va_S (AJ sk0 n0) s.heap H locs) (t : State) (ht : t.heap = H) : QcJ D n0 mc sk0 post args s (.returned r) t := ⟨⟨r, sk, v, rfl, hp, h2, by rw [ht]; exact h1, by rw [ht]; exact h4⟩, h5.F ht⟩
theorem j_iret (X : Cx p s m args meth c D cc nL own Ts (some .int)) {n0 mc ms : Nat} {sk0 : Sk} {post : Option Value → Sk → Mem → Prop} {z : Int} (d : decode cc pc = .ok (.ireturn, 1)) (hp : post (some (.int (I z))) sk v) : J p l e R s m args below meth c D (AJ sk0 n0) nL mc ms (MQ below (QcJ D n0 mc sk0 post) args s mc ms (AJ sk0 n0)) (n0 + mc) sk v pc L [.int (I z)] := by
  intro H locs ls h1 h2 h3 h4 h5 h6
  have hlk := X.2.2.2.2.2.2.2.2
  exact W.iret X.1 X.2.1 X.2.2.2.2.2.2.2.1 (fun t ht hW => j_end hp h1 h2 h4 h5 t ht) h5.2.2 d
theorem j_zret (X : Cx p s m args meth c D cc nL own Ts (some .boolean)) {n0 mc ms : Nat} {sk0 : Sk} {post : Option Value → Sk → Mem → Prop} {z : Int} (d : decode cc pc = .ok (.ireturn, 1)) (hz : z = 0 ∨ z = 1) (hp : post (some (.int (I z))) sk v) : J p l e R s m args below meth c D (AJ sk0 n0) nL mc ms (MQ below (QcJ D n0 mc sk0 post) args s mc ms (AJ sk0 n0)) (n0 + mc) sk v pc L [.int (I z)] := by
  intro H locs ls h1 h2 h3 h4 h5 h6
  have hlk := X.2.2.2.2.2.2.2.2
  exact W.zret X.1 X.2.1 X.2.2.2.2.2.2.2.1 (j_narz hz) (fun t ht hW => j_end hp h1 h2 h4 h5 t ht) h5.2.2 d
theorem j_vret (X : Cx p s m args meth c D cc nL own Ts none) {n0 mc ms : Nat} {sk0 : Sk} {post : Option Value → Sk → Mem → Prop} (d : decode cc pc = .ok (.return_, 1)) (hp : post none sk v) : J p l e R s m args below meth c D (AJ sk0 n0) nL mc ms (MQ below (QcJ D n0 mc sk0 post) args s mc ms (AJ sk0 n0)) (n0 + mc) sk v pc L [] := by
  intro H locs ls h1 h2 h3 h4 h5 h6
  have hlk := X.2.2.2.2.2.2.2.2
  exact W.vret X.1 X.2.1 X.2.2.2.2.2.2.2.1 (fun t ht hW => j_end hp h1 h2 h4 h5 t ht) h5.2.2 d
theorem j_aret {nm : String} (X : Cx p s m args meth c D cc nL own Ts (some (.object nm))) {n0 mc ms : Nat} {sk0 : Sk} {post : Option Value → Sk → Mem → Prop} {a : Nat} (d : decode cc pc = .ok (.areturn, 1)) (hp : post (some (.ref a)) sk v) : J p l e R s m args below meth c D (AJ sk0 n0) nL mc ms (MQ below (QcJ D n0 mc sk0 post) args s mc ms (AJ sk0 n0)) (n0 + mc) sk v pc L [.ref a] := by
  intro H locs ls h1 h2 h3 h4 h5 h6
  have hlk := X.2.2.2.2.2.2.2.2
  exact W.aret X.1 X.2.1 X.2.2.2.2.2.2.2.1 (Or.inl ⟨_, rfl⟩) (Or.inr ⟨_, rfl⟩) (fun t ht hW => j_end hp h1 h2 h4 h5 t ht) h5.2.2 d
theorem j_run {mc ms : Nat} {post : Option Value → Sk → Mem → Prop} {a0 : Array Value} {rest : List Value} (hr : ∀ (H : Heap) (locs : List Loc) (ls : Array Slot), H.size = n → Wd D sk v H → lh ls nL L → va_Run p l e R s m args below meth c H locs cells slots mc ms (F0 m pc ls st) rest (QcJ D n mc sk post a0) (AJ sk n))
    (K : ∀ (r : Option Value) (sk' : Sk) (v' : Mem), post r sk' v' → J p l e R s m args below meth c D A nL (cells + mc) (slots + ms) Q (n + mc) sk' v' (pc + 3) L (r.toList ++ rest)) : J p l e R s m args below meth c D A nL cells slots Q n sk v pc L st := by
  intro H locs ls h1 h2 h3 h4 h5 h6
  intro T hT XS
  obtain ⟨r, st₀, t, T', LL, h0, X', hL, e1, e2, ⟨⟨r', sk', v', hv, hp, hd, hz, hw⟩, hz2, hk⟩, hst⟩ := hr H locs ls h1 h4 h6 T hT XS
  cases hv
  rw [h0] at hz2 hk
  have hAJ : ∀ q, AJ sk n q → A q := fun q hq => by
    rcases hq with hq | hq
    · exact h2 q hq
    · exact h3 q (Nat.le_trans h5.1 (by omega))
  obtain ⟨t2, a1, b1⟩ := K r sk' v' hp T'.heap (locs ++ LL) ls (by rw [e1]; exact hz) (fun a ha => hAJ a (hd a ha)) h3 (by rw [e1]; exact hw)
    ⟨Nat.le_trans h5.1 (by rw [e1]; exact hz2), fun q g1 g2 => by rw [e1, hk q (Nat.lt_of_lt_of_le g1 h5.1) (fun z => g2 (hAJ q z))]; exact h5.2.1 q g1 g2, fun q hq => by
      rcases List.mem_append.mp hq with h | h
      · exact h5.2.2 q h
      · exact hAJ _ (hL q h)⟩ h6 T' rfl X'
  exact ⟨t2, hst t2 a1, b1⟩
theorem Wd.recv {H : Heap} {b ci : Nat} {fs : List (Option Value)} {q : vw_C} (hK : va_K D vwCl (tysA D) s) (h4 : Wd D sk v H) (hs : sk b = some (eO ci fs)) (hc : vwCl[ci]? = some q) : ∃ cell : Cell, H[b]? = some cell ∧ cell.vm.isStatics = false ∧ s.vm.findClass q.1 = some cell.cls := va_recv hK (h4.one hs rfl) (q0 := 0) (ci := ci) (fs := flds (v b) 0 fs) hc rfl
theorem Cx.pre {H : Heap} (X : Cx p s m args meth c D cc nL own Ts ret) (h1 : H.size = n) (h4 : Wd D sk v H) {As : List Value} : ∀ U : State, U.heap = H → s.WarmedH U.vm → va_Pc As (fun U => U.heap.size = n ∧ Wd D sk v U.heap ∧ va_K D vwCl (tysA D) U ∧ NX U) As.toArray U := fun U hU hW => ⟨rfl, by rw [hU]; exact h1, by rw [hU]; exact h4, va_K.moved hW.alike X.2.2.2.2.2.1, NX.warm hW X.2.2.2.2.2.2.1⟩
theorem j_callV (X : Cx p s m args meth c D cc nL own Ts ret) {y : MethodName} {ws ws' : List Cond} {rm : Room} {bytes : ByteArray} {maxL index nn b ci mc ms : Nat} {rt : Option FieldType} {C : String} {As rest : List Value} {fs : List (Option Value)} {q : vw_C} {post : Option Value → Sk → Mem → Prop} (d : decode cc pc = .ok (.invokevirtual index, 3)) (hM : Ct l D y ws rm mc ms (.ref b :: As) n sk v post) (hG : GoodIn Ts (wsV own index C y ws)) (hw : ws = Cond.code y bytes maxL rt :: ws') (hrm : rm.cells = mc ∧ rm.slots = ms) (hd : y.cls = C ∧ y.cls ≠ "java/lang/invoke/MethodHandle" ∧ y.cls ≠ "java/lang/invoke/VarHandle" ∧ (parseMethodDescriptor y.desc).map (fun d => d.parameters.length) = some nn) (hR : rm.frames + 1 ≤ R.frames ∧ 8 + (maxL + 11) + rm.locals ≤ R.locals) (hs : sk b = some (eO ci fs)) (hc : vwCl[ci]? = some q ∧ q.1 = C) (hn : As.length = nn) (hst : st = As.reverse ++ .ref b :: rest) (hW : (rest.map fun v => v.category).sum ≤ 8) (hf : cells + mc ≤ R.cells ∧ slots + ms ≤ R.slots)
    (K : ∀ (r : Option Value) (sk' : Sk) (v' : Mem), post r sk' v' → J p l e R s m args below meth c D A nL (cells + mc) (slots + ms) Q (n + mc) sk' v' (pc + 3) L (r.toList ++ rest)) : J p l e R s m args below meth c D A nL cells slots Q n sk v pc L st := by
  subst hst
  refine j_run (a0 := (Value.ref b :: As).toArray) (fun H locs ls h1 h4 h6 => ?_) K
  exact va_runV ⟨X.1, X.2.1, X.2.2.1, X.2.2.2.1, X.2.2.2.2.1⟩ hM (cwV nn X.2.2.2.2.1 hG hw hrm.1 hrm.2 hd hR) ⟨ct_blind, by rw [← hc.2]; exact h4.recv X.2.2.2.2.2.1 hs hc.1, X.pre h1 h4⟩ rfl hn h6.1 rfl (lv_room hW) d hf
theorem j_callS (X : Cx p s m args meth c D cc nL own Ts ret) {y : MethodName} {ws ws' : List Cond} {rm : Room} {bytes : ByteArray} {maxL index nn mc ms : Nat} {rt : Option FieldType} {As rest : List Value} {post : Option Value → Sk → Mem → Prop} (d : decode cc pc = .ok (.invokestatic index, 3)) (hM : Ct l D y ws rm mc ms As n sk v post) (hG : GoodIn Ts (va_wsS own index y ws)) (hw : ws = Cond.code y bytes maxL rt :: ws') (hrm : rm.cells = mc ∧ rm.slots = ms) (hd : y.cls ≠ "java/lang/invoke/MethodHandle" ∧ y.cls ≠ "java/lang/invoke/VarHandle" ∧ (parseMethodDescriptor y.desc).map (fun d => d.parameters.length) = some nn) (hR : rm.frames + 1 ≤ R.frames ∧ 8 + (maxL + 11) + rm.locals ≤ R.locals) (hn : As.length = nn) (hst : st = As.reverse ++ rest) (hW : (rest.map fun v => v.category).sum ≤ 8) (hf : cells + mc ≤ R.cells ∧ slots + ms ≤ R.slots)
    (K : ∀ (r : Option Value) (sk' : Sk) (v' : Mem), post r sk' v' → J p l e R s m args below meth c D A nL (cells + mc) (slots + ms) Q (n + mc) sk' v' (pc + 3) L (r.toList ++ rest)) : J p l e R s m args below meth c D A nL cells slots Q n sk v pc L st := by
  subst hst
  refine j_run (a0 := As.toArray) (fun H locs ls h1 h4 h6 => ?_) K
  exact va_runS ⟨X.1, X.2.1, X.2.2.1, X.2.2.2.1, X.2.2.2.2.1⟩ hM (va_cwS nn X.2.2.2.2.1 hG hw hrm.1 hrm.2 hd hR) ⟨ct_blind, X.pre h1 h4⟩ rfl hn h6.1 rfl (lv_room hW) d hf
theorem j_callI (X : Cx p s m args meth c D cc nL own Ts ret) {y : MethodName} {ws ws' : List Cond} {rm : Room} {bytes : ByteArray} {maxL index nn b mc ms : Nat} {As rest : List Value} {post : Option Value → Sk → Mem → Prop} (d : decode cc pc = .ok (.invokespecial index, 3)) (hM : Ct l D y ws rm mc ms (.ref b :: As) n sk v post) (hG : GoodIn Ts ws) (hw : ws = Cond.code y bytes maxL none :: ws') (hrm : rm.cells = mc ∧ rm.slots = ms) (hini : Cond.initialized y.cls ∈ Ts) (hin : Cond.instanceMethod y ∈ Ts) (hy1 : y.name = "<init>") (hd : y.cls ≠ "java/lang/invoke/MethodHandle" ∧ y.cls ≠ "java/lang/invoke/VarHandle" ∧ (parseMethodDescriptor y.desc).map (fun d => d.parameters.length) = some nn) (hR : rm.frames + 1 ≤ R.frames ∧ 8 + (maxL + 11) + rm.locals ≤ R.locals) (hn : As.length = nn) (hst : st = As.reverse ++ .ref b :: rest) (hW : (rest.map fun v => v.category).sum ≤ 8) (hf : cells + mc ≤ R.cells ∧ slots + ms ≤ R.slots) (hl : Cond.methodLink own index y ∈ Ts)
    (K : ∀ (r : Option Value) (sk' : Sk) (v' : Mem), post r sk' v' → J p l e R s m args below meth c D A nL (cells + mc) (slots + ms) Q (n + mc) sk' v' (pc + 3) L (r.toList ++ rest)) : J p l e R s m args below meth c D A nL cells slots Q n sk v pc L st := by
  subst hst
  refine j_run (a0 := (Value.ref b :: As).toArray) (fun H locs ls h1 h4 h6 => ?_) K
  exact va_runI ⟨X.1, X.2.1, X.2.2.1, X.2.2.2.1, X.2.2.2.2.1⟩ hM (cwI nn X.2.2.2.2.1 hG hw hrm.1 hrm.2 (X.2.2.2.2.1 _ hini) (X.2.2.2.2.1 _ hl) (X.2.2.2.2.1 _ hin) hy1 hd hR) ⟨ct_blind, X.pre h1 h4⟩ rfl hn h6.1 rfl (lv_room hW) d hf
theorem j_callIN (X : Cx p s m args meth c D cc nL own Ts ret) {y : MethodName} {ws ws' : List Cond} {rm : Room} {bytes : ByteArray} {maxL index nn b mc ms : Nat} {As rest : List Value} {post : Option Value → Sk → Mem → Prop} (d : decode cc pc = .ok (.invokespecial index, 3)) (hM : Ct l D y ws rm mc ms (.ref b :: As) n sk v post) (hG : GoodIn Ts ws) (hw : ws = Cond.code y bytes maxL none :: ws') (hrm : rm.cells = mc ∧ rm.slots = ms) (hini : Cond.initialized y.cls ∈ Ts) (hin : Cond.instanceMethod y ∈ Ts) (hy1 : y.name = "<init>") (hd : y.cls ≠ "java/lang/invoke/MethodHandle" ∧ y.cls ≠ "java/lang/invoke/VarHandle" ∧ (parseMethodDescriptor y.desc).map (fun d => d.parameters.length) = some nn) (hR : rm.frames + 1 ≤ R.frames ∧ 8 + (maxL + 11) + rm.locals ≤ R.locals) (hn : As.length = nn) (hst : st = As.reverse ++ .ref b :: rest) (hW : (rest.map fun v => v.category).sum ≤ 8) (hf : cells + mc ≤ R.cells ∧ slots + ms ≤ R.slots) (hl : (own, index, y) ∈ nestM)
    (K : ∀ (r : Option Value) (sk' : Sk) (v' : Mem), post r sk' v' → J p l e R s m args below meth c D A nL (cells + mc) (slots + ms) Q (n + mc) sk' v' (pc + 3) L (r.toList ++ rest)) : J p l e R s m args below meth c D A nL cells slots Q n sk v pc L st := by
  subst hst
  refine j_run (a0 := (Value.ref b :: As).toArray) (fun H locs ls h1 h4 h6 => ?_) K
  exact va_runIN ⟨X.1, X.2.1, X.2.2.1, X.2.2.2.1, X.2.2.2.2.1⟩ hM ⟨va_cnB (host := RX4) nn X.2.2.2.2.1 hG hw hrm.1 hrm.2 (X.2.2.2.2.2.2.1.2.1 _ hl) (X.2.2.2.2.1 _ hini) hd hR, hy1, X.2.2.2.2.1 _ hin⟩ ⟨ct_blind, X.pre h1 h4⟩ rfl hn h6.1 rfl (lv_room hW) d hf
theorem kI {post : Int → Mem → Prop} {rest : List Value} (K : ∀ (z : Int) (v' : Mem), post z v' → J p l e R s m args below meth c D A nL cells slots Q n sk v' pc L (.int (I z) :: rest)) : ∀ (r : Option Value) (sk' : Sk) (v' : Mem), PostI sk post r sk' v' → J p l e R s m args below meth c D A nL (cells + 0) (slots + 0) Q (n + 0) sk' v' pc L (r.toList ++ rest) := by
  rintro r sk' v' ⟨z, rfl, rfl, h⟩
  exact K z v' h
theorem kV {post : Mem → Prop} {rest : List Value} (K : ∀ (v' : Mem), post v' → J p l e R s m args below meth c D A nL cells slots Q n sk v' pc L rest) : ∀ (r : Option Value) (sk' : Sk) (v' : Mem), PostV sk post r sk' v' → J p l e R s m args below meth c D A nL (cells + 0) (slots + 0) Q (n + 0) sk' v' pc L (r.toList ++ rest) := by
  rintro r sk' v' ⟨rfl, rfl, h⟩
  exact K v' h
theorem kA {post : Nat → Mem → Prop} {rest : List Value} (K : ∀ (a : Nat) (v' : Mem), post a v' → J p l e R s m args below meth c D A nL cells slots Q n sk v' pc L (.ref a :: rest)) : ∀ (r : Option Value) (sk' : Sk) (v' : Mem), PostA sk post r sk' v' → J p l e R s m args below meth c D A nL (cells + 0) (slots + 0) Q (n + 0) sk' v' pc L (r.toList ++ rest) := by
  rintro r sk' v' ⟨z, rfl, rfl, h⟩
  exact K z v' h
theorem kN {mc ms : Nat} {post : Sk → Mem → Prop} {rest : List Value} (K : ∀ (sk' : Sk) (v' : Mem), post sk' v' → J p l e R s m args below meth c D A nL (cells + mc) (slots + ms) Q (n + mc) sk' v' pc L rest) : ∀ (r : Option Value) (sk' : Sk) (v' : Mem), PostN post r sk' v' → J p l e R s m args below meth c D A nL (cells + mc) (slots + ms) Q (n + mc) sk' v' pc L (r.toList ++ rest) := by
  rintro r sk' v' ⟨rfl, h⟩
  exact K sk' v' h
def cpy (f g : Nat → Int) (sp dp n : Nat) : Nat → Int := fun k => if dp ≤ k ∧ k < dp + n then f (sp + (k - dp)) else g k
theorem cpy_I (f g : Nat → Int) (sp dp n : Nat) : va_cpy (fun j => I (f j)) (fun j => I (g j)) sp dp n = fun j => I (cpy f g sp dp n j) := by
  funext j
  unfold va_cpy cpy
  split <;> rfl
theorem j_copy (X : Cx p s m args meth c D cc nL own Ts ret) {index a a0 n0 n1 : Nat} {sp dp k : Int} {rest : List Value} (d : decode cc pc = .ok (.invokestatic index, 3)) (hl : Cond.methodLink own index arraycopyName ∈ Ts ∧ Cond.native arraycopyName ∈ Ts ∧ Cond.static arraycopyName ∈ Ts ∧ Cond.initialized "java/lang/System" ∈ Ts) (hs0 : sk a0 = some (eA D 10 n0)) (hs : sk a = some (eA D 10 n1)) (hk : 0 ≤ k ∧ (0 ≤ sp ∧ sp + k ≤ n0) ∧ (0 ≤ dp ∧ dp + k ≤ n1)) (hnn : n0 ≤ 2147483647 ∧ n1 ≤ 2147483647) (hfr : 1 ≤ R.frames) (hlo : (rest.map fun v => v.category).sum + 18 ≤ R.locals)
    (K : J p l e R s m args below meth c D A nL cells slots Q n sk (upR v a (cpy (v a0) (v a) sp.toNat dp.toNat k.toNat)) (pc + 3) L rest) : J p l e R s m args below meth c D A nL cells slots Q n sk v pc L (.int (I k) :: .int (I dp) :: .ref a :: .int (I sp) :: .ref a0 :: rest) := by
  intro H locs ls h1 h2 h3 h4 h5 h6
  intro T hT XS
  have hb := X.2.1
  have hml := X.2.2.1
  have csp : (I sp).toNatClampNeg = sp.toNat := I_clamp (by omega)
  have cdp : (I dp).toNatClampNeg = dp.toNat := I_clamp (by omega)
  have ck : (I k).toNatClampNeg = k.toNat := I_clamp (by omega)
  have hc0 : H[a0]? = some (vp_cell (D.1 10) (n0, .inl (fun j => I (v a0 j)))) := h4 a0 _ hs0
  have hc1 : H[a]? = some (vp_cell (D.1 10) (n1, .inl (fun j => I (v a j)))) := h4 a _ hs
  obtain ⟨-, k0, hk0, cm0, hkk0⟩ := (X.2.2.2.2.2.1.2 0 _ rfl).1 n0 (fun j => .int (I (v a0 j)))
  obtain ⟨-, k1, hk1, cm1, hkk1⟩ := (X.2.2.2.2.2.1.2 0 _ rfl).1 n1 (fun j => .int (I (v a j)))
  obtain ⟨vm', X', step⟩ := XS.arraycopy X.1 X.2.2.2.1 (X.2.2.2.2.1 _ hl.1) (X.2.2.2.2.1 _ hl.2.1) (X.2.2.2.2.1 _ hl.2.2.1) (X.2.2.2.2.1 _ hl.2.2.2) (src := a0) (dst := a) (cs := vp_cell (D.1 10) (n0, .inl (fun j => I (v a0 j)))) (cd := vp_cell (D.1 10) (n1, .inl (fun j => I (v a j)))) (srcPos := I sp) (destPos := I dp) (n := I k) (by rw [hT]; exact hc0) (by rw [hT]; exact hc1)
    (fun _ h => by cases h) (fun _ h => by cases h) (fun h => by cases h) (fun h => by cases h) hk0 hk1 hkk0 hkk1 (by simp [refKind]) (I_nneg (by omega)) (I_nneg (by omega)) (I_nneg (by omega))
    (by rw [I_toInt (by omega), I_toInt (by omega)]; show ¬ _ > ((arrV (D.1 10) n0 (fun j => .int (I (v a0 j)))).slots.size : Int); rw [arrV_size]; omega)
    (by rw [I_toInt (by omega), I_toInt (by omega)]; show ¬ _ > ((arrV (D.1 10) n1 (fun j => .int (I (v a j)))).slots.size : Int); rw [arrV_size]; omega)
    (fun vm₁ _ i hi => by
      rw [ck] at hi
      rw [csp]
      have e : (vp_cell (D.1 10) (n0, .inl (fun j => I (v a0 j)))).slots.getD (sp.toNat + i) .null = .int (I (v a0 (sp.toNat + i))) := by
        show (arrV (D.1 10) n0 (fun j => .int (I (v a0 j)))).slots.getD _ _ = _
        rw [Array.getD_eq_getD_getElem?, arrV_read _ _ (by omega)]
        rfl
      refine ⟨?_, ?_⟩
      · rw [e]; rfl
      · rw [e]; exact trivial)
    (g := F0 m pc ls (.int (I k) :: .int (I dp) :: .ref a :: .int (I sp) :: .ref a0 :: rest)) rfl (by rw [hml]; exact h6.1) (rest := rest) rfl (by rw [hb]; exact d) hfr (by show 2 * 0 + _ + _ ≤ _; have : nativeFrameWords "java/lang/System" "arraycopy" 5 = 7 := (by decide +kernel); omega)
  have e1 : copied (vp_cell (D.1 10) (n0, .inl (fun j => I (v a0 j)))) (vp_cell (D.1 10) (n1, .inl (fun j => I (v a j)))) (I sp) (I dp) (I k) = vp_cell (D.1 10) (n1, .inl (fun j => I (cpy (v a0) (v a) sp.toNat dp.toNat k.toNat j))) := by
    refine (va_copied (fun z => .int z) (D.1 10) (D.1 10) (fun j => I (v a0 j)) (fun j => I (v a j)) (by rw [csp, ck]; omega)).trans ?_
    rw [csp, cdp, ck, cpy_I]
    rfl
  rw [e1] at X' step
  have hl2 : a < H.size := (Array.getElem?_eq_some_iff.mp hc1).1
  generalize hcl : vp_cell (D.1 10) (n1, .inl (fun j => I (cpy (v a0) (v a) sp.toNat dp.toNat k.toNat j))) = cel at X' step
  have hheap : ((T.setVm vm').setCell a cel).heap = H.setIfInBounds a cel := by rw [← hT]; rfl
  have oq : ∀ q : Nat, q ≠ a → (H.setIfInBounds a cel)[q]? = H[q]? := fun q hq => by simp [Array.getElem?_setIfInBounds, Ne.symm hq]
  have haA : A a := h2 a (by rw [hs]; exact fun q => by cases q)
  obtain ⟨t, a1, b1⟩ := K (H.setIfInBounds a cel) _ ls (by simp [h1]) h2 h3 (h4.setv hs (by show (H.setIfInBounds a cel)[a]? = some _; rw [← hcl]; simp [Array.getElem?_setIfInBounds, hl2, eA]) oq) ⟨by simp; exact h5.1, fun q g1 g2 => by
      rw [oq q (fun e => g2 (by rw [e]; exact haA))]
      exact h5.2.1 q g1 g2, fun q hq => by
      rcases List.mem_append.mp hq with h | h
      · exact h5.2.2 q h
      · obtain ⟨z, -, hz⟩ := List.mem_map.mp h
        rw [← hz]
        exact haA⟩ h6 _ hheap X'
  exact ⟨t, step t a1, b1⟩
theorem j_min (X : Cx p s m args meth c D cc nL own Ts ret) {index : Nat} {x y : Int} {rest : List Value} (d : decode cc pc = .ok (.invokestatic index, 3)) (hl : Cond.methodLink own index Lib.Math.min.name ∈ Ts ∧ Cond.static Lib.Math.min.name ∈ Ts ∧ Cond.initialized "java/lang/Math" ∈ Ts ∧ Cond.code Lib.Math.min.name Lib.Math.min.code 2 (some .int) ∈ Ts) (hB : (-2147483648 ≤ x ∧ x ≤ 2147483647) ∧ (-2147483648 ≤ y ∧ y ≤ 2147483647)) (hfr : 1 ≤ R.frames) (hlo : (rest.map fun v => v.category).sum + 13 ≤ R.locals) (hf : cells ≤ R.cells ∧ slots ≤ R.slots)
    (K : ∀ z : Int, (y < x → z = y) → (¬ y < x → z = x) → J p l e R s m args below meth c D A nL cells slots Q n sk v (pc + 3) L (.int (I z) :: rest)) : J p l e R s m args below meth c D A nL cells slots Q n sk v pc L (.int (I y) :: .int (I x) :: rest) := by
  intro H locs ls h1 h2 h3 h4 h5 h6
  refine va_mmin X.1 X.2.1 (X.2.2.1.trans h6.1.symm) X.2.2.2.1 (X.2.2.2.2.1 _ hl.1) (X.2.2.2.2.1 _ hl.2.1) (X.2.2.2.2.1 _ hl.2.2.1) (X.2.2.2.2.1 _ hl.2.2.2) hfr hlo hf.1 hf.2 d ?_
  by_cases h : y < x
  · rw [if_pos ((I_lt hB.2 hB.1).mpr h)]
    exact K y (fun _ => rfl) (fun q => absurd h q) H locs ls h1 h2 h3 h4 h5 h6
  · rw [if_neg (fun q => h ((I_lt hB.2 hB.1).mp q))]
    exact K x (fun q => absurd q h) (fun _ => rfl) H locs ls h1 h2 h3 h4 h5 h6
theorem j_obj (X : Cx p s m args meth c D cc nL own Ts ret) {index b : Nat} {rest : List Value} (d : decode cc pc = .ok (.invokespecial index, 3)) (hl : Cond.methodLink own index objectInit ∈ Ts ∧ Cond.instanceMethod objectInit ∈ Ts ∧ Cond.code objectInit ⟨#[0xb1]⟩ 1 none ∈ Ts) (hfr : 1 ≤ R.frames) (hlo : (rest.map fun v => v.category).sum + 12 ≤ R.locals)
    (K : J p l e R s m args below meth c D A nL cells slots Q n sk v (pc + 3) L rest) : J p l e R s m args below meth c D A nL cells slots Q n sk v pc L (.ref b :: rest) := by
  intro H locs ls h1 h2 h3 h4 h5 h6
  exact W.objInit X.1 X.2.1 X.2.2.2.1 (X.2.2.2.2.1 _ hl.1) (X.2.2.2.2.1 _ hl.2.1) (X.2.2.2.2.1 _ hl.2.2) rfl (h6.1.trans X.2.2.1.symm) rfl d hfr (by show 2 * 0 + _ + 12 ≤ _; omega) (K H locs ls h1 h2 h3 h4 h5 h6)
theorem Wd.push {H H1 : Heap} {g : (Nat → Int) → va_E} {r : Nat → Int} (h1 : H.size = n) (h : Wd D sk v H) (he : va_at D vwCl (n, g r) H1) (oq : ∀ q : Nat, q < n → H1[q]? = H[q]?) : Wd D (upS sk n g) (upR v n r) H1 := by
  intro b f' hb
  by_cases hq : b = n
  · subst hq
    rw [upS_s] at hb
    cases hb
    rw [upR_s]
    exact he
  · rw [upS_n _ _ hq] at hb
    rw [upR_n _ _ hq]
    have hl := (h b f' hb).lt
    exact (h b f' hb).kept (oq b (by rw [← h1]; exact hl))
theorem va_S.push {H0 H H1 : Heap} {locs : List Loc} (h1 : H.size = n) (h5 : va_S A H0 H locs) (z : H1.size = n + 1) (oq : ∀ q : Nat, q < n → H1[q]? = H[q]?) : va_S A H0 H1 locs := ⟨Nat.le_trans h5.1 (by omega), fun q g1 g2 => (oq q (by rw [← h1]; exact Nat.lt_of_lt_of_le g1 h5.1)).trans (h5.2.1 q g1 g2), h5.2.2⟩
theorem dom_push {g : (Nat → Int) → va_E} (h2 : ∀ a, sk a ≠ none → A a) (hn : A n) : ∀ a, upS sk n g a ≠ none → A a := fun a ha => by
  by_cases hq : a = n
  · rw [hq]; exact hn
  · rw [upS_n _ _ hq] at ha; exact h2 a ha
theorem j_new (X : Cx p s m args meth c D cc nL own Ts ret) {C : String} {T : u_T} {N ci index : Nat} {fs : List (Option Value)} (d : decode cc pc = .ok (.new index, 3)) (hin : ∀ w ∈ u_ws C T N, w ∈ Ts) (hc : vwCl[ci]? = some (C, T, N)) (ty0 : Nat → FieldType) (hty : ∀ k, k < N → parseFieldDescriptor (T k).2.2.1 = some (ty0 k)) (hl : Cond.classLink own index C ∈ Ts ∧ Cond.instantiable C N ∈ Ts ∧ Cond.initialized C ∈ Ts) (hfs : ∀ j, j < N → defaultValue (ty0 j) = vp_V (flds (fun _ => 0) 0 fs) j) (hf : cells + 1 ≤ R.cells ∧ slots + N ≤ R.slots)
    (K : J p l e R s m args below meth c D A nL (cells + 1) (slots + N) Q (n + 1) (upS sk n (eO ci fs)) (upR v n (fun _ => 0)) (pc + 3) L (.ref n :: st)) : J p l e R s m args below meth c D A nL cells slots Q n sk v pc L st := by
  intro H locs ls h1 h2 h3 h4 h5 h6
  have hKn := X.2.2.2.2.2.1.1 ci _ hc
  refine W.newcK X.1 X.2.1 X.2.2.2.1 (X.2.2.2.2.1 _ hl.1) (X.2.2.2.2.1 _ hl.2.1) (X.2.2.2.2.1 _ hl.2.2) rfl d hf.1 hf.2 hKn.2.1 h1 fun H1 kC hkC e1 z1 o1 => ?_
  exact K H1 locs ls z1 (dom_push h2 (h3 _ (h1 ▸ h5.1))) h3 (h4.push h1 ⟨_, hc, (u_born ty0 X.2.2.2.2.1 hin hKn hkC e1 hty).to hfs⟩ o1) (va_S.push h1 h5 z1 o1) h6
theorem j_newa (X : Cx p s m args meth c D cc nL own Ts ret) {atype : ArrayType} {k t0 N' : Nat} {z : Int} {ty : FieldType} (d : decode cc pc = .ok (.newarray atype, 2)) (hty : newarray.typeOf atype = ty) (harr : Cond.arrayClass ty ∈ Ts) (ht0 : (tysA D)[t0]? = some (D.1 k, ty)) (hra : ∀ C, ty ≠ .object C) (hdv : defaultValue ty = .int 0) (hz : z = (N' : Int)) (hN : N' * componentBytes ty ≤ 536870912 ∧ N' ≤ 2147483647) (hf : cells + 1 ≤ R.cells ∧ slots + N' ≤ R.slots)
    (K : J p l e R s m args below meth c D A nL (cells + 1) (slots + N') Q (n + 1) (upS sk n (eA D k N')) (upR v n (fun _ => 0)) (pc + 2) L (.ref n :: st)) : J p l e R s m args below meth c D A nL cells slots Q n sk v pc L (.int (I z) :: st) := by
  subst hty
  subst hz
  intro H locs ls h1 h2 h3 h4 h5 h6
  refine va_newaK X.1 X.2.1 (X.2.2.2.2.1 _ harr) rfl d rfl (I_nneg (by omega)) (N := N') (by rw [I_clamp (by omega)]; rfl) hN.1 hf.1 hf.2 h1 fun H1 cA e1 z1 o1 hAr hNm => ?_
  have hRA := (X.2.2.2.2.2.1.2 t0 _ ht0).2
  have hcA : cA = D.1 k := by
    have h9 : s.vm.findClass ("[" ++ (newarray.typeOf atype).toString) = some (D.1 k) := by
      cases atype <;> exact hRA
    exact Option.some.inj (hNm.symm.trans h9)
  subst hcA
  refine K H1 locs ls z1 (dom_push h2 (h3 _ (h1 ▸ h5.1))) h3 (h4.push h1 ?_ o1) (va_S.push h1 h5 z1 o1) h6
  show H1[n]? = some (vp_cell _ _)
  rw [e1, hdv]
  rfl
theorem j_newq (X : Cx p s m args meth c D cc nL own Ts ret) {C : String} {index k t0 N' : Nat} {z : Int} (d : decode cc pc = .ok (.anewarray index, 3)) (hl : Cond.classLink own index C ∈ Ts) (ho : va_AO C s) (ht0 : (tysA D)[t0]? = some (D.1 k, .object C)) (hz : z = (N' : Int)) (hN : N' * 4 ≤ 536870912) (hf : cells + 1 ≤ R.cells ∧ slots + N' ≤ R.slots)
    (K : J p l e R s m args below meth c D A nL (cells + 1) (slots + N') Q (n + 1) (upS sk n (eQ D k N' (fun _ => none))) (upR v n (fun _ => 0)) (pc + 3) L (.ref n :: st)) : J p l e R s m args below meth c D A nL cells slots Q n sk v pc L (.int (I z) :: st) := by
  subst hz
  intro H locs ls h1 h2 h3 h4 h5 h6
  have hcl : (I (N' : Int)).toNatClampNeg = N' := by rw [I_clamp (by omega)]; rfl
  refine W.anew X.1 X.2.1 X.2.2.2.1 (X.2.2.2.2.1 _ hl) (va_AO.use ho) rfl d rfl (I_nneg (by omega)) (by rw [hcl]; exact hN) hf.1 (by rw [hcl]; exact hf.2) fun cA kA comp f1 f2 f3 f4 => ?_
  obtain ⟨kA', comp', g1, g2, g3, g4⟩ := (X.2.2.2.2.2.1.2 t0 _ ht0).2
  have hcA : cA = D.1 k := Option.some.inj (f1.symm.trans g4)
  subst hcA
  rw [hcl]
  generalize hH1 : H.push ({ cls := D.1 k, slots := Array.replicate N' .null, vm := .none } : Cell) = H1
  have z1 : H1.size = n + 1 := by rw [← hH1, Array.size_push, h1]
  have e1 : H1[n]? = some (arrV (D.1 k) N' (fun _ => .null)) := by rw [← hH1, ← h1, Array.getElem?_push_size, ← arrV_new]
  have o1 : ∀ q : Nat, q < n → H1[q]? = H[q]? := fun q hq => by rw [← hH1, Array.getElem?_push, if_neg (by omega)]
  rw [h1]
  refine K H1 locs ls z1 (dom_push h2 (h3 _ (h1 ▸ h5.1))) h3 (h4.push h1 ?_ o1) (va_S.push h1 h5 z1 o1) h6
  show H1[n]? = some (vp_cell _ _)
  rw [e1]
  rfl
theorem j_aast (X : Cx p s m args meth c D cc nL own Ts ret) {a nn k b t0 ci : Nat} {i : Int} {g : Nat → Option Nat} {r : vw_C} {fs : List (Option Value)} (d : decode cc pc = .ok (.aastore, 1)) (hs : sk a = some (eQ D k nn g)) (ht0 : (tysA D)[t0]? = some (D.1 k, .object r.1)) (hv : sk b = some (eO ci fs)) (hc : vwCl[ci]? = some r) (hi : 0 ≤ i ∧ i < nn) (hnn : nn ≤ 2147483647)
    (K : J p l e R s m args below meth c D A nL cells slots Q n (upS sk a (eQ D k nn (va_up g i.toNat (some b)))) (upR v a (v a)) (pc + 1) L st) : J p l e R s m args below meth c D A nL cells slots Q n sk v pc L (.ref b :: .int (I i) :: .ref a :: st) := by
  intro H locs ls h1 h2 h3 h4 h5 h6
  have hcl : (I i).toNatClampNeg = i.toNat := I_clamp (by omega)
  obtain ⟨r', hr', cellV, g1, g2, g3, -⟩ := h4 b _ hv
  have hcls := (X.2.2.2.2.2.1.1 ci r hc).2
  obtain ⟨kA, comp, k1, k2, k3, -⟩ := (X.2.2.2.2.2.1.2 t0 _ ht0).2
  have hcomp : comp = D.1 ci := Option.some.inj (k3.symm.trans hcls.1)
  subst hcomp
  obtain ⟨kC, hkC, -⟩ := hcls.2
  have hin9 : ¬ I i < 0 ∧ (I i).toNatClampNeg < (arrV (D.1 k) nn (fun j => va_rf (g j))).slots.size := ⟨I_nneg (by omega), by rw [arrV_size, hcl]; omega⟩
  refine W.aast X.1 X.2.1 (h4 a _ hs) (fun q h => by cases h) (fun h => by cases h) k1 k2 rfl hkC hin9 g1 (fun q h => by rw [g3] at h; cases h) (by rw [g2]; exact hkC) (by rw [g2]; exact va_assign hcls) rfl rfl d fun H1 e1 e2 e3 => ?_
  refine K H1 _ ls (e2.trans h1) ?_ h3 (h4.set (g := eQ D k nn (va_up g i.toNat (some b))) hs ?_ e3) (h5.put e2 e3 (h2 a (by rw [hs]; exact fun q => by cases q))) h6
  · intro x hx
    by_cases hq : x = a
    · rw [hq]; exact h2 a (by rw [hs]; exact fun q => by cases q)
    · rw [upS_n _ _ hq] at hx; exact h2 x hx
  · show H1[a]? = some (vp_cell _ _)
    rw [e1]
    show some (Cell.setSlot (vp_cell (D.1 k) (nn, .inr (.inr (.inr (.inr g))))) _ _) = _
    rw [vp_cell_q, arrV_store, hcl]
    show some (arrV (D.1 k) nn _) = some (arrV (D.1 k) nn (fun j => va_rf (va_up g i.toNat (some b) j)))
    refine congrArg some (congrArg (arrV _ nn) ?_)
    funext q
    by_cases hq : q = i.toNat
    · subst hq
      simp [updV, va_up, va_rf]
    · simp [updV, va_up, hq]
theorem j_putF (X : Cx p s m args meth c D cc nL own Ts ret) {C : String} {T : u_T} {N ci index a : Nat} {fs : List (Option Value)} {b : Nat} (d : decode cc pc = .ok (.putfield index, 3)) (hin : ∀ w ∈ u_ws C T N, w ∈ Ts) (hc : vwCl[ci]? = some (C, T, N)) (hs : sk a = some (eO ci fs)) (k : Nat) (hk : k < N) (ty0 : Nat → FieldType) (hty : ∀ k, k < N → parseFieldDescriptor (T k).2.2.1 = some (ty0 k)) (hnm : ∀ a, a < N → ∀ b, b < N → a ≠ b → (T a).2.1 ≠ (T b).2.1) (hfin : (T k).2.2.2 = true) (hin2 : meth.name = "<init>") (hdecl : (T k).1 = own) (hnf : narrow (ty0 k) (.ref b) = .ref b ∧ fits (ty0 k) (.ref b) = true) (hl : k < fs.length) (hlink : Cond.fieldLink own index (T k).1 (T k).2.1 (T k).2.2.1 ∈ Ts)
    (K : J p l e R s m args below meth c D A nL cells slots Q n (upS sk a (eO ci (fs.set k (some (.ref b))))) (upR v a (v a)) (pc + 3) L st) : J p l e R s m args below meth c D A nL cells slots Q n sk v pc L (.ref b :: .ref a :: st) := by
  intro H locs ls h1 h2 h3 h4 h5 h6
  have hap := va_apart (own := own) X.2.2.2.2.1 hin ty0 hty hnm X.2.2.2.2.2.1 hc
  obtain ⟨r, g1, cell, q1, q2, q3, q4⟩ := h4 a _ hs
  have hr : r = (C, T, N) := Option.some.inj (g1.symm.trans hc)
  subst hr
  obtain ⟨hS, hfc, kC, hkC, hkind⟩ := X.2.2.2.2.2.1.1 ci _ hc
  obtain ⟨cf, kf, fi, f, hi, hsl⟩ := hS k hk
  have hlay := X.2.2.2.2.1 _ (hin _ (u_in_lay hk))
  unfold u_lay at hlay
  rw [if_pos hfin] at hlay
  have hst := (u_facts hfc hkC (u_lays X.2.2.2.2.1 hin hk) hi).1
  have hcf : m.cls = cf := by
    obtain ⟨_, _, c', _, _, _, -, -, hf', -, -, -, hown2, -⟩ := Cond.laysFinal_spec hlay
    have e1 : c' = cf := by have := hi.symm.trans hf'; simp at this; exact this.1.symm
    rw [hdecl] at hown2
    rw [← e1]; exact Option.some.inj (X.2.2.2.1.symm.trans hown2)
  have hk6 := u_fits hfc hkC hkind (Or.inr hlay) hi (hty k hk) hnf.1 hnf.2
  refine W.putFinK X.1 X.2.1 X.2.2.2.1 (X.2.2.2.2.1 _ hlink) hi hst hcf hin2 (by rw [q2]; exact hk6) q1 q3 (by rw [hsl]; exact k2_hasslot (q4 k hk)) rfl rfl d fun H' e1 e2 e3 => ?_
  rw [hsl] at e1 ⊢
  have haA : A a := h2 a (by rw [hs]; exact fun q => by cases q)
  refine K H' _ ls (e2.trans h1) (fun x hx => ?_) h3 (h4.set (g := eO ci (fs.set k (some (.ref b)))) (r := v a) hs ⟨_, hc, ?_⟩ e3) (h5.put e2 e3 haA) h6
  · by_cases hq : x = a
    · rw [hq]; exact haA
    · rw [upS_n _ _ hq] at hx; exact h2 x hx
  show t_OB a _ _ _ _ (vp_V (flds (v a) 0 (fs.set k (some (.ref b)))))
  rw [flds_ref _ _ _ _ hl]
  have hl2 : k < (flds (v a) 0 fs).length := by rw [flds_len]; exact hl
  exact t_OB.to (V := updV (vp_V (flds (v a) 0 fs)) k (.ref b)) ⟨_, e1, q2, q3, t_set q4 hap hk (.ref b)⟩ (fun j _ => vp_updV_set hl2 _ j)
end JB
end
