section JD
variable {p : Program} {l : Launch} {e : Env} {R : Room} {s : State} {m : MethodId} {args : Array Value} {below : List Frame} {meth : Method} {c : Code} {D : va_G} {A : Nat → Prop} {nL cells slots n pc : Nat} {Q : State → Prop} {sk : Sk} {v : Mem} {L : List (Option Value)} {st : List Value} {cc : ByteArray} {own : String} {Ts : List Cond} {ret : Option FieldType}
theorem j_ldc2 (X : Cx p s m args meth c D cc nL own Ts ret) {index w : Nat} (d : decode cc pc = .ok (.ldc2_w index, 3)) (hl : Cond.constantLong own index (lN w) ∈ Ts) (K : J p l e R s m args below meth c D A nL cells slots Q n sk v (pc + 3) L (.long (lN w) :: st)) : J p l e R s m args below meth c D A nL cells slots Q n sk v pc L st := by
  intro H locs ls h1 h2 h3 h4 h5 h6
  exact lv_ldc2 X.1 X.2.1 X.2.2.2.1 (X.2.2.2.2.1 _ hl) d (K H locs ls h1 h2 h3 h4 h5 h6)
theorem j_ldcw (X : Cx p s m args meth c D cc nL own Ts ret) {index : Nat} {x : Int32} (d : decode cc pc = .ok (.ldc_w index, 3)) (hl : Cond.constant own index x ∈ Ts) (K : J p l e R s m args below meth c D A nL cells slots Q n sk v (pc + 3) L (.int x :: st)) : J p l e R s m args below meth c D A nL cells slots Q n sk v pc L st := by
  intro H locs ls h1 h2 h3 h4 h5 h6
  exact lv_ldcw X.1 X.2.1 X.2.2.2.1 (X.2.2.2.2.1 _ hl) d (K H locs ls h1 h2 h3 h4 h5 h6)
theorem j_lcmp (X : Cx p s m args meth c D cc nL own Ts ret) {x y : Int64} (d : decode cc pc = .ok (.lcmp, 1)) (K : ∀ z : Int, (-1 ≤ z ∧ z ≤ 1) → (z = 0 ↔ x = y) → (0 < z ↔ y < x) → J p l e R s m args below meth c D A nL cells slots Q n sk v (pc + 1) L (.int (I z) :: st)) : J p l e R s m args below meth c D A nL cells slots Q n sk v pc L (.long y :: .long x :: st) := by
  intro H locs ls h1 h2 h3 h4 h5 h6
  obtain ⟨z, e, g1, g2, g3⟩ := lcmp_z x y
  refine W.lcmp X.1 X.2.1 d ?_
  rw [e]
  exact K z g1 g2 g3 H locs ls h1 h2 h3 h4 h5 h6
theorem j_topr {x y : Int32} (h : x = y) (K : J p l e R s m args below meth c D A nL cells slots Q n sk v pc L (.int y :: st)) : J p l e R s m args below meth c D A nL cells slots Q n sk v pc L (.int x :: st) := by
  subst h; exact K
end JD
def rmJ6_bitCount_0f7a4 : Room := { frames := 0, cells := 0, slots := 0, locals := 0 }
set_option maxHeartbeats 4000000 in
set_option maxRecDepth 100000 in
theorem c_bitCount (l : Launch) (D : va_G) (nH : Nat) (sk : Sk) (v : Mem) (w : Nat) (hw : w < 65536) : CtI l D yJ6_bitCount_0f7a4 wsJ6_bitCount_0f7a4 rmJ6_bitCount_0f7a4 [.int (nI w)] nH sk v (fun z v' => z = (pop w : Int) ∧ v = v') := by
  refine ct_of (cc := cJ6_bitCount_0f7a4) (maxL := 1) (ret := (some .int)) rfl rfl (Nat.le_of_ble_eq_true rfl) ?_
  intro p_ e_ s_ m_ args_ below_ meth_ c_ X hmn hsz
  have g1 : w / 2 &&& 1431655765 ≤ w / 2 := Nat.and_le_left
  have g2 : bc1 w ≤ w := Nat.sub_le _ _
  have g3 : bc1 w &&& 858993459 ≤ 858993459 := Nat.and_le_right
  have g4 : bc1 w / 4 &&& 858993459 ≤ 858993459 := Nat.and_le_right
  have g5 : bc3 w ≤ 252645135 := Nat.and_le_right
  have g6 : bc2 w ≤ 858993459 + 858993459 := Nat.add_le_add g3 g4
  have g7 : bc4 w ≤ 252645135 + 252645135 := by unfold bc4; omega
  refine j_iload_n X dJ6_bitCount_0f7a4_0 rfl ?_
  refine j_iload_n X dJ6_bitCount_0f7a4_1 rfl ?_
  refine j_iconst X dJ6_bitCount_0f7a4_2 ?_
  refine j_iushr X dJ6_bitCount_0f7a4_3 (iu (by omega) 1 (by decide)) ?_
  refine j_ldcw X (x := nI 1431655765) dJ6_bitCount_0f7a4_4 (by decide +kernel) ?_
  refine jr_iand X dJ6_bitCount_0f7a4_7 ?_
  refine j_topr (fa_and _ _) ?_
  refine jr_isub X dJ6_bitCount_0f7a4_8 ?_
  refine j_topr (y := nI (bc1 w)) (pk_sub (b := w / 2 ^ 1 &&& 1431655765) (a := w) (by show w / 2 &&& _ ≤ w; omega)) ?_
  refine j_istore_n X dJ6_bitCount_0f7a4_9 rfl (Nat.le_of_ble_eq_true rfl) ?_
  refine j_iload_n X dJ6_bitCount_0f7a4_10 rfl ?_
  refine j_ldcw X (x := nI 858993459) dJ6_bitCount_0f7a4_11 (by decide +kernel) ?_
  refine jr_iand X dJ6_bitCount_0f7a4_14 ?_
  refine j_topr (fa_and _ _) ?_
  refine j_iload_n X dJ6_bitCount_0f7a4_15 rfl ?_
  refine j_iconst X dJ6_bitCount_0f7a4_16 ?_
  refine j_iushr X dJ6_bitCount_0f7a4_17 (iu (by omega) 2 (by decide)) ?_
  refine j_ldcw X (x := nI 858993459) dJ6_bitCount_0f7a4_18 (by decide +kernel) ?_
  refine jr_iand X dJ6_bitCount_0f7a4_21 ?_
  refine j_topr (fa_and _ _) ?_
  refine jr_iadd X dJ6_bitCount_0f7a4_22 ?_
  refine j_topr (y := nI (bc2 w)) (nI_add _ _) ?_
  refine j_istore_n X dJ6_bitCount_0f7a4_23 rfl (Nat.le_of_ble_eq_true rfl) ?_
  refine j_iload_n X dJ6_bitCount_0f7a4_24 rfl ?_
  refine j_iload_n X dJ6_bitCount_0f7a4_25 rfl ?_
  refine j_iconst X dJ6_bitCount_0f7a4_26 ?_
  refine j_iushr X dJ6_bitCount_0f7a4_27 (iu (by omega) 4 (by decide)) ?_
  refine jr_iadd X dJ6_bitCount_0f7a4_28 ?_
  refine j_topr (nI_add _ _) ?_
  refine j_ldcw X (x := nI 252645135) dJ6_bitCount_0f7a4_29 (by decide +kernel) ?_
  refine jr_iand X dJ6_bitCount_0f7a4_32 ?_
  refine j_topr (y := nI (bc3 w)) (fa_and _ _) ?_
  refine j_istore_n X dJ6_bitCount_0f7a4_33 rfl (Nat.le_of_ble_eq_true rfl) ?_
  refine j_iload_n X dJ6_bitCount_0f7a4_34 rfl ?_
  refine j_iload_n X dJ6_bitCount_0f7a4_35 rfl ?_
  refine j_bipush X dJ6_bitCount_0f7a4_36 (by decide) ?_
  refine j_iushr X dJ6_bitCount_0f7a4_38 (iu (by omega) 8 (by decide)) ?_
  refine jr_iadd X dJ6_bitCount_0f7a4_39 ?_
  refine j_topr (y := nI (bc4 w)) (nI_add _ _) ?_
  refine j_istore_n X dJ6_bitCount_0f7a4_40 rfl (Nat.le_of_ble_eq_true rfl) ?_
  refine j_iload_n X dJ6_bitCount_0f7a4_41 rfl ?_
  refine j_iload_n X dJ6_bitCount_0f7a4_42 rfl ?_
  refine j_bipush X dJ6_bitCount_0f7a4_43 (by decide) ?_
  refine j_iushr X dJ6_bitCount_0f7a4_45 (iu (by omega) 16 (by decide)) ?_
  refine jr_iadd X dJ6_bitCount_0f7a4_46 ?_
  refine j_topr (y := nI (bc5 w)) (nI_add _ _) ?_
  refine j_istore_n X dJ6_bitCount_0f7a4_47 rfl (Nat.le_of_ble_eq_true rfl) ?_
  refine j_iload_n X dJ6_bitCount_0f7a4_48 rfl ?_
  refine j_bipush X dJ6_bitCount_0f7a4_49 (by decide) ?_
  refine jr_iand X dJ6_bitCount_0f7a4_51 ?_
  refine j_topr (y := I ((bcN w : Nat) : Int)) ((fa_and _ _).trans (I_nat _).symm) ?_
  exact j_iret X dJ6_bitCount_0f7a4_52 ⟨_, rfl, rfl, ⟨by rw [bc_all hw], rfl⟩⟩
