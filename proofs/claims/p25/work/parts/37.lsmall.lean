/-! ===== the law's small methods ===== -/
def rmL_low : Room := { frames := 0, cells := 0, slots := 0, locals := 0 }
set_option maxHeartbeats 4000000 in
set_option maxRecDepth 100000 in
theorem c_L_low (l : Launch) (D : va_G) (nH : Nat) (sk : Sk) (v : Mem) (x : Int32) (n : Nat) (hn : 0 < n ∧ n ≤ 2147483647) : CtI l D yL_low wsL_low rmL_low [.int x, .int (I (n : Int))] nH sk v (fun z v' => (0 ≤ z ∧ z < (n : Int)) ∧ v = v') := by
  refine ct_of (cc := cL_low) (maxL := 2) (ret := (some .int)) rfl rfl (Nat.le_of_ble_eq_true rfl) ?_
  intro p_ e_ s_ m_ args_ below_ meth_ c_ X hmn hsz
  obtain ⟨z0, hz, hz1, hz2⟩ := and_max x
  refine j_iload_n X dL_low_0 rfl ?_
  refine j_ldc X (x := (2147483647 : Int32)) dL_low_1 (by decide +kernel) ?_
  refine j_iand X dL_low_3 hz ?_
  refine j_iload_n X dL_low_4 rfl ?_
  refine j_irem X dL_low_5 (by omega) (by omega) ?_
  exact j_iret X dL_low_6 ⟨_, rfl, rfl, ⟨⟨Int.emod_nonneg _ (by omega), Int.emod_lt_of_pos _ (by omega)⟩, rfl⟩⟩
def rmL_all : Room := { frames := 0, cells := 0, slots := 0, locals := 0 }
set_option maxHeartbeats 4000000 in
set_option maxRecDepth 100000 in
theorem c_L_all (l : Launch) (D : va_G) (nH : Nat) (sk : Sk) (v : Mem) (b : Nat) (L : List Nat) (hb : sk b = some (eA D 10 60)) (hR : RA v b L) (hL : okL L) : CtI l D yL_all wsL_all rmL_all [.ref b] nH sk v (fun z v' => z = (L.length : Int) ∧ v = v') := by
  refine ct_of (cc := cL_all) (maxL := 3) (ret := (some .int)) rfl rfl (Nat.le_of_ble_eq_true rfl) ?_
  intro p_ e_ s_ m_ args_ below_ meth_ c_ X hmn hsz
  refine j_iconst X dL_all_0 ?_
  refine j_istore_n X dL_all_1 rfl (Nat.le_of_ble_eq_true rfl) ?_
  refine j_iconst X dL_all_2 ?_
  refine j_istore_n X dL_all_3 rfl (Nat.le_of_ble_eq_true rfl) ?_
  refine j_cut 3 (j_loop (σ := Nat) (fun (i : Nat) => i ≤ 60) (fun (i : Nat) => 60 - i) (fun (i : Nat) => (v, [some (.ref b), some (.int (I ((sU (cA L) i : Nat) : Int))), some (.int (I (i : Int)))])) ?_ 0 (by omega))
  intro i hx_ ih4
  dsimp only at hx_ ih4 ⊢
  have hi := hx_
  refine j_iload_n X dL_all_4 rfl ?_
  refine j_bipush X dL_all_5 (by decide) ?_
  refine j_icmp_ge (tgt := 22) X dL_all_7 (by omega) (by decide) (fun c7 => ?_) (fun c7 => ?_)
  · have hi60 : i = 60 := by omega
    subst hi60
    refine j_iload_n X dL_all_22 rfl ?_
    exact j_iret X dL_all_23 ⟨_, rfl, rfl, ⟨by rw [← len_cA hL], rfl⟩⟩
  · refine j_iload_n X dL_all_10 rfl ?_
    refine j_aload_n X dL_all_11 rfl ?_
    refine j_iload_n X dL_all_12 rfl ?_
    refine j_ialN X dL_all_13 (by assumption) (i) (by omega) (by omega) (by decide) ?_
    rw [hR i (by omega)]
    refine j_iadd X dL_all_14 ?_
    refine j_istore_n X dL_all_15 rfl (Nat.le_of_ble_eq_true rfl) ?_
    refine j_iinc X dL_all_16 rfl rfl (Nat.le_of_ble_eq_true rfl) ?_
    refine j_goto (tgt := 4) X dL_all_19 (by decide) ?_
    refine j_cut 3 (ih4 (i + 1) ?_ (by (try dsimp only); omega))
    (try dsimp only)
    exact (by omega)
def rmL_bits : Room := { frames := 0, cells := 0, slots := 0, locals := 0 }
set_option maxHeartbeats 4000000 in
set_option maxRecDepth 100000 in
theorem c_L_bits (l : Launch) (D : va_G) (nH : Nat) (sk : Sk) (v : Mem) (w : Nat) (hw : w < 64) : CtI l D yL_bits wsL_bits rmL_bits [.int (I (w : Int))] nH sk v (fun z v' => z = (pop w : Int) ∧ v = v') := by
  refine ct_of (cc := cL_bits) (maxL := 3) (ret := (some .int)) rfl rfl (Nat.le_of_ble_eq_true rfl) ?_
  intro p_ e_ s_ m_ args_ below_ meth_ c_ X hmn hsz
  refine j_iconst X dL_bits_0 ?_
  refine j_istore_n X dL_bits_1 rfl (Nat.le_of_ble_eq_true rfl) ?_
  refine j_iload_n X dL_bits_2 rfl ?_
  refine j_istore_n X dL_bits_3 rfl (Nat.le_of_ble_eq_true rfl) ?_
  refine j_cut 3 (j_loop (σ := Nat × Nat) (fun (y_ : Nat × Nat) => match y_ with | (n, u) => u < 64 ∧ n + pop u = pop w ∧ n ≤ 6) (fun (y_ : Nat × Nat) => match y_ with | (n, u) => u) (fun (y_ : Nat × Nat) => match y_ with | (n, u) => (v, [some (.int (I (w : Int))), some (.int (I (n : Int))), some (.int (I (u : Int)))])) ?_ (0, w) ⟨hw, by omega, by omega⟩)
  intro y_ hx_ ih4
  obtain ⟨n, u⟩ := y_
  dsimp only at hx_ ih4 ⊢
  obtain ⟨hu, hn, hn6⟩ := hx_
  refine j_iload_n X dL_bits_4 rfl ?_
  refine j_if_eq (tgt := 20) X dL_bits_5 (by omega) (by decide) (fun c5 => ?_) (fun c5 => ?_)
  · have hu0 : u = 0 := by omega
    subst hu0
    have hp0 : pop 0 = 0 := rfl
    refine j_iload_n X dL_bits_20 rfl ?_
    exact j_iret X dL_bits_21 ⟨_, rfl, rfl, ⟨by omega, rfl⟩⟩
  · refine j_iinc X dL_bits_8 rfl rfl (Nat.le_of_ble_eq_true rfl) ?_
    refine j_iload_n X dL_bits_11 rfl ?_
    refine j_iload_n X dL_bits_12 rfl ?_
    refine j_iconst X dL_bits_13 ?_
    refine j_isub X dL_bits_14 ?_
    refine j_topi (y := ((u - 1 : Nat) : Int)) (by omega) ?_
    refine j_iand X dL_bits_15 (b_and _ _) ?_
    refine j_istore_n X dL_bits_16 rfl (Nat.le_of_ble_eq_true rfl) ?_
    refine j_goto (tgt := 4) X dL_bits_17 (by decide) ?_
    obtain ⟨hp1, hp2⟩ := pop_step hu (by omega)
    have hp3 := pop_le hw
    refine j_cut 3 (ih4 (n + 1, u &&& (u - 1)) ?_ (by (try dsimp only); omega))
    (try dsimp only)
    exact ⟨by omega, by omega, by omega⟩
def rmL_sum : Room := { frames := 0, cells := 0, slots := 0, locals := 0 }
set_option maxHeartbeats 4000000 in
set_option maxRecDepth 100000 in
theorem c_L_sum (l : Launch) (D : va_G) (nH : Nat) (sk : Sk) (v : Mem) (w : Nat) (hw : w ≤ 1000000) : CtI l D yL_sum wsL_sum rmL_sum [.int (I (w : Int))] nH sk v (fun z v' => z = ((w / 10000 + w / 100 % 100 + w % 100 : Nat) : Int) ∧ v = v') := by
  refine ct_of (cc := cL_sum) (maxL := 1) (ret := (some .int)) rfl rfl (Nat.le_of_ble_eq_true rfl) ?_
  intro p_ e_ s_ m_ args_ below_ meth_ c_ X hmn hsz
  refine j_iload_n X dL_sum_0 rfl ?_
  refine j_sipush X dL_sum_1 (by decide) ?_
  refine j_idiv X dL_sum_4 (by omega) (by omega) ?_
  refine j_iload_n X dL_sum_5 rfl ?_
  refine j_bipush X dL_sum_6 (by decide) ?_
  refine j_idiv X dL_sum_8 (by omega) (by omega) ?_
  refine j_bipush X dL_sum_9 (by decide) ?_
  refine j_irem X dL_sum_11 (by omega) (by omega) ?_
  refine j_iadd X dL_sum_12 ?_
  refine j_iload_n X dL_sum_13 rfl ?_
  refine j_bipush X dL_sum_14 (by decide) ?_
  refine j_irem X dL_sum_16 (by omega) (by omega) ?_
  refine j_iadd X dL_sum_17 ?_
  exact j_iret X dL_sum_18 ⟨_, rfl, rfl, ⟨by omega, rfl⟩⟩
def rmL_wrong : Room := { frames := 0, cells := 0, slots := 0, locals := 0 }
set_option maxHeartbeats 4000000 in
set_option maxRecDepth 100000 in
theorem c_L_wrong (l : Launch) (D : va_G) (nH : Nat) (sk : Sk) (v : Mem) (b d a : Nat) (L T : List Nat) (hb : sk b = some (eA D 10 60)) (ha : sk a = some (eA D 10 10)) (hR : RA v b L) (hL : okL L) (hl : L.length ≤ 60) (hT : RTd T d (v a d)) (hu : unq T) (hd : d < 10) : CtI l D yL_wrong wsL_wrong rmL_wrong [.ref b, .int (I (d : Int)), .ref a] nH sk v (fun z v' => z = (W3 L T d : Int) ∧ v = v') := by
  refine ct_of (cc := cL_wrong) (maxL := 5) (ret := (some .int)) rfl rfl (Nat.le_of_ble_eq_true rfl) ?_
  intro p_ e_ s_ m_ args_ below_ meth_ c_ X hmn hsz
  have hcn : cntN L (d + 10) ≤ 60 := Nat.le_trans List.countP_le_length hl
  have hzb := hT.bd
  refine j_iconst X dL_wrong_0 ?_
  refine j_istore_n X dL_wrong_1 rfl (Nat.le_of_ble_eq_true rfl) ?_
  refine j_iconst X dL_wrong_2 ?_
  refine j_istore X dL_wrong_3 rfl (Nat.le_of_ble_eq_true rfl) ?_
  refine j_cut 5 (j_loop (σ := Nat) (fun (i : Nat) => i ≤ 6) (fun (i : Nat) => 6 - i) (fun (i : Nat) => (v, [some (.ref b), some (.int (I (d : Int))), some (.ref a), some (.int (I ((sU (fun i => cA L (6 * d + i)) i : Nat) : Int))), some (.int (I (i : Int)))])) ?_ 0 (by omega))
  intro i hx_ ih5
  dsimp only at hx_ ih5 ⊢
  have hi := hx_
  refine j_iload X dL_wrong_5 rfl ?_
  refine j_bipush X dL_wrong_7 (by decide) ?_
  refine j_icmp_ge (tgt := 30) X dL_wrong_9 (by omega) (by decide) (fun c9 => ?_) (fun c9 => ?_)
  · have hi6 : i = 6 := by omega
    subst hi6
    rw [cnt_cA hd hL]
    refine j_aload_n X dL_wrong_30 rfl ?_
    refine j_iload_n X dL_wrong_31 rfl ?_
    refine j_ialN X dL_wrong_32 (by assumption) (d) (by omega) (by omega) (by decide) ?_
    refine j_if_ge (tgt := 42) X dL_wrong_33 (by omega) (by decide) (fun c33 => ?_) (fun c33 => ?_)
    · obtain ⟨j, hj, hvj, hjT⟩ : ∃ j : Nat, j < 6 ∧ v a d = (j : Int) ∧ (d + 10) * 16 + j ∈ T := by
        rcases hT with ⟨h1, h2⟩ | ⟨j, h1, h2, h3⟩
        · omega
        · exact ⟨j, h1, h2, h3⟩
      refine j_iload_n X dL_wrong_42 rfl ?_
      refine j_if_ne (tgt := 48) X dL_wrong_43 (by omega) (by decide) (fun c43 => ?_) (fun c43 => ?_)
      · have hw3 := W3_some (L := L) hu hj hjT (by omega)
        refine j_sipush X dL_wrong_48 (by decide) ?_
        refine j_iload_n X dL_wrong_51 rfl ?_
        refine j_iconst X dL_wrong_52 ?_
        refine j_isub X dL_wrong_53 ?_
        refine j_imul X dL_wrong_54 ?_
        refine j_aload_n X dL_wrong_55 rfl ?_
        refine j_bipush X dL_wrong_56 (by decide) ?_
        refine j_iload_n X dL_wrong_58 rfl ?_
        refine j_imul X dL_wrong_59 ?_
        refine j_aload_n X dL_wrong_60 rfl ?_
        refine j_iload_n X dL_wrong_61 rfl ?_
        refine j_ialN X dL_wrong_62 (by assumption) (d) (by omega) (by omega) (by decide) ?_
        rw [hvj]
        refine j_iadd X dL_wrong_63 ?_
        refine j_ialN X dL_wrong_64 (by assumption) (6 * d + j) (by omega) (by omega) (by decide) ?_
        rw [hR (6 * d + j) (by omega)]
        refine j_if_ne (tgt := 73) X dL_wrong_65 (by have := cA_le (L := L) (6 * d + j); omega) (by decide) (fun c65 => ?_) (fun c65 => ?_)
        · rw [if_neg (by omega)] at hw3
          refine j_iconst X dL_wrong_73 ?_
          refine j_iadd X dL_wrong_74 ?_
          exact j_iret X dL_wrong_75 ⟨_, rfl, rfl, ⟨by rw [hw3]; omega, rfl⟩⟩
        · rw [if_pos (by omega)] at hw3
          refine j_bipush X dL_wrong_68 (by decide) ?_
          refine j_goto (tgt := 74) X dL_wrong_70 (by decide) ?_
          refine j_iadd X dL_wrong_74 ?_
          exact j_iret X dL_wrong_75 ⟨_, rfl, rfl, ⟨by rw [hw3]; omega, rfl⟩⟩
      · have hw3 : W3 L T d = 1 := W3_mis hj hjT (by omega)
        refine j_iconst X dL_wrong_46 ?_
        exact j_iret X dL_wrong_47 ⟨_, rfl, rfl, ⟨by rw [hw3]; rfl, rfl⟩⟩
    · have hw3 : W3 L T d = 10000 * cntN L (d + 10) := by
        rcases hT with ⟨h1, h2⟩ | ⟨j, h1, h2, h3⟩
        · exact W3_none h2
        · omega
      refine j_sipush X dL_wrong_36 (by decide) ?_
      refine j_iload_n X dL_wrong_39 rfl ?_
      refine j_imul X dL_wrong_40 ?_
      exact j_iret X dL_wrong_41 ⟨_, rfl, rfl, ⟨by rw [hw3]; rfl, rfl⟩⟩
  · refine j_iload_n X dL_wrong_12 rfl ?_
    refine j_aload_n X dL_wrong_13 rfl ?_
    refine j_bipush X dL_wrong_14 (by decide) ?_
    refine j_iload_n X dL_wrong_16 rfl ?_
    refine j_imul X dL_wrong_17 ?_
    refine j_iload X dL_wrong_18 rfl ?_
    refine j_iadd X dL_wrong_20 ?_
    refine j_ialN X dL_wrong_21 (by assumption) (6 * d + i) (by omega) (by omega) (by decide) ?_
    rw [hR (6 * d + i) (by omega)]
    refine j_iadd X dL_wrong_22 ?_
    refine j_istore_n X dL_wrong_23 rfl (Nat.le_of_ble_eq_true rfl) ?_
    refine j_iinc X dL_wrong_24 rfl rfl (Nat.le_of_ble_eq_true rfl) ?_
    refine j_goto (tgt := 5) X dL_wrong_27 (by decide) ?_
    refine j_cut 5 (ih5 (i + 1) ?_ (by (try dsimp only); omega))
    (try dsimp only)
    exact (by omega)
def rmL_wrongs : Room := { frames := 1, cells := 0, slots := 0, locals := 24 }
set_option maxHeartbeats 4000000 in
set_option maxRecDepth 100000 in
theorem c_L_wrongs (l : Launch) (D : va_G) (nH : Nat) (sk : Sk) (v : Mem) (b a : Nat) (L T : List Nat) (hb : sk b = some (eA D 10 60)) (ha : sk a = some (eA D 10 10)) (hR : RA v b L) (hL : okL L) (hl : L.length ≤ 60) (hT : RT v a T) (hu : unq T) : CtI l D yL_wrongs wsL_wrongs rmL_wrongs [.ref b, .ref a] nH sk v (fun z v' => z = ((sU (W3 L T) 10 : Nat) : Int) ∧ v = v') := by
  refine ct_of (cc := cL_wrongs) (maxL := 4) (ret := (some .int)) rfl rfl (Nat.le_of_ble_eq_true rfl) ?_
  intro p_ e_ s_ m_ args_ below_ meth_ c_ X hmn hsz
  refine j_iconst X dL_wrongs_0 ?_
  refine j_istore_n X dL_wrongs_1 rfl (Nat.le_of_ble_eq_true rfl) ?_
  refine j_iconst X dL_wrongs_2 ?_
  refine j_istore_n X dL_wrongs_3 rfl (Nat.le_of_ble_eq_true rfl) ?_
  refine j_cut 4 (j_loop (σ := Nat) (fun (d : Nat) => d ≤ 10) (fun (d : Nat) => 10 - d) (fun (d : Nat) => (v, [some (.ref b), some (.ref a), some (.int (I ((sU (W3 L T) d : Nat) : Int))), some (.int (I (d : Int)))])) ?_ 0 (by omega))
  intro d hx_ ih4
  dsimp only at hx_ ih4 ⊢
  have hd := hx_
  refine j_iload_n X dL_wrongs_4 rfl ?_
  refine j_bipush X dL_wrongs_5 (by decide) ?_
  refine j_icmp_ge (tgt := 25) X dL_wrongs_7 (by omega) (by decide) (fun c7 => ?_) (fun c7 => ?_)
  · have hd10 : d = 10 := by omega
    subst hd10
    refine j_iload_n X dL_wrongs_25 rfl ?_
    exact j_iret X dL_wrongs_26 ⟨_, rfl, rfl, ⟨rfl, rfl⟩⟩
  · refine j_iload_n X dL_wrongs_10 rfl ?_
    refine j_aload_n X dL_wrongs_11 rfl ?_
    refine j_iload_n X dL_wrongs_12 rfl ?_
    refine j_aload_n X dL_wrongs_13 rfl ?_
    refine j_callS (nn := 3) X dL_wrongs_14 (c_L_wrong l D nH sk v b d a L T hb ha hR hL hl (hT d (by omega)) hu (by omega)) gL_wrongs_L_wrong rfl ⟨rfl, rfl⟩ (by decide +kernel) ⟨Nat.le_of_ble_eq_true rfl, Nat.le_of_ble_eq_true rfl⟩ rfl rfl (Nat.le_of_ble_eq_true rfl) ⟨Nat.zero_le _, Nat.zero_le _⟩ (kI (fun z14 v14 h14 => ?_))
    obtain ⟨rfl, rfl⟩ := h14
    refine j_iadd X dL_wrongs_17 ?_
    refine j_istore_n X dL_wrongs_18 rfl (Nat.le_of_ble_eq_true rfl) ?_
    refine j_iinc X dL_wrongs_19 rfl rfl (Nat.le_of_ble_eq_true rfl) ?_
    refine j_goto (tgt := 4) X dL_wrongs_22 (by decide) ?_
    refine j_cut 4 (ih4 (d + 1) ?_ (by (try dsimp only); omega))
    (try dsimp only)
    exact (by omega)
def rmL_does : Room := { frames := 0, cells := 0, slots := 0, locals := 0 }
set_option maxHeartbeats 4000000 in
set_option maxRecDepth 100000 in
theorem c_L_does (l : Launch) (D : va_G) (nH : Nat) (sk : Sk) (v : Mem) (b ap p : Nat) (c : Int) (O L : List Nat) (hb : sk b = some (eA D 10 60)) (hpa : sk ap = some (eA D 10 54)) (hba : b ≠ ap) (hp : p < 6) (hR : RA v b L) (hL : okL L) (hP : OP v ap p O) (hO : oP O) (hc : (c = 1 ∧ Phi L ≤ 60) ∨ (c = 0 ∧ L.length ≤ 50)) : CtV l D yL_does wsL_does rmL_does [.ref b, .int (I (p : Int)), .int (I c), .ref ap] nH sk v (fun v' => RA v' b (dn c O p L) ∧ ∀ q, q ≠ b → v' q = v q) := by
  refine ct_of (cc := cL_does) (maxL := 8) (ret := none) rfl rfl (Nat.le_of_ble_eq_true rfl) ?_
  intro p_ e_ s_ m_ args_ below_ meth_ c_ X hmn hsz
  obtain ⟨hP1, hP2⟩ := id hP
  obtain ⟨h8, hoo, -⟩ := id hO
  have hc01 : c = 0 ∨ c = 1 := by omega
  refine j_iconst X dL_does_0 ?_
  refine j_istore X dL_does_1 rfl (Nat.le_of_ble_eq_true rfl) ?_
  refine j_cut 5 (j_loop (σ := Nat × Mem) (fun (y_ : Nat × Mem) => match y_ with | (k, u) => k ≤ O.length ∧ RA u b (dn c (O.take k) p L) ∧ ∀ q, q ≠ b → u q = v q) (fun (y_ : Nat × Mem) => match y_ with | (k, u) => O.length - k) (fun (y_ : Nat × Mem) => match y_ with | (k, u) => (u, [some (.ref b), some (.int (I (p : Int))), some (.int (I c)), some (.ref ap), some (.int (I ((k : Int) + 1))), none, none, none])) ?_ (0, v) ⟨by omega, by rw [List.take_zero, dn_0]; exact hR, fun _ _ => rfl⟩)
  intro y_ hx_ ih3
  obtain ⟨k, u⟩ := y_
  dsimp only at hx_ ih3 ⊢
  obtain ⟨hk, hRu, hfu⟩ := hx_
  have hpu : u ap = v ap := hfu ap (fun h => hba h.symm)
  refine j_iload X dL_does_3 rfl ?_
  refine j_aload_n X dL_does_5 rfl ?_
  refine j_bipush X dL_does_6 (by decide) ?_
  refine j_iload_n X dL_does_8 rfl ?_
  refine j_imul X dL_does_9 ?_
  refine j_ialN X dL_does_10 (by assumption) (9 * p) (by omega) (by omega) (by decide) ?_
  rw [hpu, hP1]
  refine j_icmp_gt (tgt := 172) X dL_does_11 (by omega) (by decide) (fun c11 => ?_) (fun c11 => ?_)
  · have hkO : k = O.length := by omega
    subst hkO
    rw [List.take_length] at hRu
    have hret : RA u b (dn c O p L) ∧ ∀ q, q ≠ b → u q = v q := ⟨hRu, hfu⟩
    exact j_vret X dL_does_172 ⟨rfl, rfl, hret⟩
  · have hkl : k < O.length := by omega
    have hx := hoo _ (List.getElem_mem hkl)
    obtain ⟨he1, he2, he3⟩ := enc_10 hx
    obtain ⟨hM, hml, hM60⟩ := dn_ok hp hO hL hc hkl
    obtain ⟨d, hd⟩ : ∃ d : Nat, d = (O[k]'hkl) % 100 - 10 := ⟨_, rfl⟩
    have hd10 : d < 10 := by unfold oO at hx; omega
    refine j_aload_n X dL_does_14 rfl ?_
    refine j_bipush X dL_does_15 (by decide) ?_
    refine j_iload_n X dL_does_17 rfl ?_
    refine j_imul X dL_does_18 ?_
    refine j_iload X dL_does_19 rfl ?_
    refine j_iadd X dL_does_21 ?_
    refine j_ialN X dL_does_22 (by assumption) (9 * p + 1 + k) (by omega) (by omega) (by decide) ?_
    rw [hpu, hP2 k hkl]
    refine j_bipush X dL_does_23 (by decide) ?_
    refine j_irem X dL_does_25 (by omega) (by omega) ?_
    refine j_topi (y := (d : Int)) (by omega) ?_
    refine j_istore X dL_does_26 rfl (Nat.le_of_ble_eq_true rfl) ?_
    refine j_join (σ := Int) (fun (zi : Int) => (zi = 1 ∧ 100 ≤ O[k]'hkl) ∨ (zi = 0 ∧ ¬ 100 ≤ O[k]'hkl)) (fun (zi : Int) => (u, [some (.ref b), some (.int (I (p : Int))), some (.int (I c)), some (.ref ap), some (.int (I ((k : Int) + 1))), some (.int (I (d : Int))), none, none], [.int (I zi)])) 47 ?_ (fun K47 => ?_)
    · intro zi hx_
      dsimp only at hx_ ⊢
      have hzi := hx_
      refine j_istore X dL_does_47 rfl (Nat.le_of_ble_eq_true rfl) ?_
      refine j_join (σ := Mem) (fun (w : Mem) => (c = 0 → ∀ q, w b q = u b q) ∧ (c ≠ 0 → ∀ q, q < 60 → w b q = if q / 6 = d then 0 else u b q) ∧ ∀ q, q ≠ b → w q = u q) (fun (w : Mem) => (w, [some (.ref b), some (.int (I (p : Int))), some (.int (I c)), some (.ref ap), some (.int (I ((k : Int) + 1))), some (.int (I (d : Int))), some (.int (I zi)), none], [])) 80 ?_ (fun K80 => ?_)
      · intro w hx_
        dsimp only at hx_ ⊢
        obtain ⟨hw0, hw1, hwf⟩ := hx_
        refine j_join (σ := Nat) (fun (i : Nat) => i ≤ 6 ∧ (∀ j, j < i → w b (6 * d + j) = 0) ∧ (c = 0 → zi = 0 → i < 6 → w b (6 * d + i) ≠ 0)) (fun (i : Nat) => (w, [some (.ref b), some (.int (I (p : Int))), some (.int (I c)), some (.ref ap), some (.int (I ((k : Int) + 1))), some (.int (I (d : Int))), some (.int (I zi)), some (.int (I (i : Int)))], [])) 118 ?_ (fun K118 => ?_)
        · intro i hx_
          dsimp only at hx_ ⊢
          obtain ⟨hi6, hi7, hi8⟩ := hx_
          refine j_join (σ := Mem) (fun (w : Mem) => RA w b (mid c (O[k]'hkl) (dn c (O.take k) p L)) ∧ ∀ q, q ≠ b → w q = u q) (fun (w : Mem) => (w, [some (.ref b), some (.int (I (p : Int))), some (.int (I c)), some (.ref ap), some (.int (I ((k : Int) + 1))), some (.int (I (d : Int))), some (.int (I zi)), none], [])) 148 ?_ (fun K148 => ?_)
          · intro w hx_
            dsimp only at hx_ ⊢
            obtain ⟨hRm, hmf⟩ := hx_
            refine j_iload X dL_does_148 rfl ?_
            refine j_if_eq (tgt := 166) X dL_does_150 (by omega) (by decide) (fun c150 => ?_) (fun c150 => ?_)
            · refine j_iinc X dL_does_166 rfl rfl (Nat.le_of_ble_eq_true rfl) ?_
              refine j_goto (tgt := 3) X dL_does_169 (by decide) ?_
              refine j_cut 5 (ih3 (k + 1, _) ?_ (by (try dsimp only); omega))
              (try dsimp only)
              exact (by first | exact ⟨by omega, by rw [dn_take hkl, if_neg (by omega)]; exact hRm, fun q hq => (hmf q hq).trans (hfu q hq)⟩ | exact ⟨by omega, by rw [dn_take hkl, if_pos (by omega)]; exact RA_put hx hd hp hml hRm f165 g165, fun q hq => (n165 q hq).trans ((hmf q hq).trans (hfu q hq))⟩)
            · refine j_aload_n X dL_does_153 rfl ?_
              refine j_bipush X dL_does_154 (by decide) ?_
              refine j_iload X dL_does_156 rfl ?_
              refine j_imul X dL_does_158 ?_
              refine j_iload_n X dL_does_159 rfl ?_
              refine j_iadd X dL_does_160 ?_
              refine j_dup2 X dL_does_161 rfl rfl ?_
              refine j_ialN X dL_does_162 (by assumption) (6 * d + p) (by omega) (by omega) (by decide) ?_
              refine j_iconst X dL_does_163 ?_
              refine j_iadd X dL_does_164 ?_
              refine j_iasN X dL_does_165 (by assumption) (6 * d + p) (by omega) (by omega) (by decide) (fun u165 f165 g165 n165 => ?_)
              refine j_iinc X dL_does_166 rfl rfl (Nat.le_of_ble_eq_true rfl) ?_
              refine j_goto (tgt := 3) X dL_does_169 (by decide) ?_
              refine j_cut 5 (ih3 (k + 1, _) ?_ (by (try dsimp only); omega))
              (try dsimp only)
              exact (by first | exact ⟨by omega, by rw [dn_take hkl, if_neg (by omega)]; exact hRm, fun q hq => (hmf q hq).trans (hfu q hq)⟩ | exact ⟨by omega, by rw [dn_take hkl, if_pos (by omega)]; exact RA_put hx hd hp hml hRm f165 g165, fun q hq => (n165 q hq).trans ((hmf q hq).trans (hfu q hq))⟩)
          · refine j_iload_n X dL_does_118 rfl ?_
            refine j_if_ne (tgt := 148) X dL_does_119 (by omega) (by decide) (fun c119 => ?_) (fun c119 => ?_)
            · refine j_cut 7 (K148 w ?_)
              (try dsimp only)
              exact ⟨by unfold mid; rw [if_neg c119]; exact RA_remA hx hd hRu (hw1 c119), hwf⟩
            · refine j_iload X dL_does_122 rfl ?_
              refine j_if_ne (tgt := 148) X dL_does_124 (by omega) (by decide) (fun c124 => ?_) (fun c124 => ?_)
              · refine j_cut 7 (K148 w ?_)
                (try dsimp only)
                exact ⟨by unfold mid; rw [if_pos c119, if_pos (by omega)]; exact RA_same hRu (hw0 c119), hwf⟩
              · refine j_iload X dL_does_127 rfl ?_
                refine j_bipush X dL_does_129 (by decide) ?_
                refine j_icmp_ge (tgt := 148) X dL_does_131 (by omega) (by decide) (fun c131 => ?_) (fun c131 => ?_)
                · refine j_cut 7 (K148 w ?_)
                  (try dsimp only)
                  exact ⟨by unfold mid; rw [if_pos c119, if_neg (by omega)]; exact RA_remE0 hx hd hM (RA_same hRu (hw0 c119)) (fun j hj => hi7 j (by omega)), hwf⟩
                · refine j_aload_n X dL_does_134 rfl ?_
                  refine j_bipush X dL_does_135 (by decide) ?_
                  refine j_iload X dL_does_137 rfl ?_
                  refine j_imul X dL_does_139 ?_
                  refine j_iload X dL_does_140 rfl ?_
                  refine j_iadd X dL_does_142 ?_
                  refine j_dup2 X dL_does_143 rfl rfl ?_
                  refine j_ialN X dL_does_144 (by assumption) (6 * d + i) (by omega) (by omega) (by decide) ?_
                  refine j_iconst X dL_does_145 ?_
                  refine j_isub X dL_does_146 ?_
                  refine j_iasN X dL_does_147 (by assumption) (6 * d + i) (by omega) (by omega) (by decide) (fun u147 f147 g147 n147 => ?_)
                  refine j_cut 7 (K148 u147 ?_)
                  (try dsimp only)
                  exact ⟨by unfold mid; rw [if_pos c119, if_neg (by omega)]; exact RA_remE1 hx hd hM (RA_same hRu (hw0 c119)) (by omega) hi7 (hi8 c119 c124 (by omega)) f147 g147, fun q hq => (n147 q hq).trans (hwf q hq)⟩
        · refine j_iconst X dL_does_80 ?_
          refine j_istore X dL_does_81 rfl (Nat.le_of_ble_eq_true rfl) ?_
          refine j_cut 8 (j_loop (σ := Nat) (fun (i : Nat) => i ≤ 6 ∧ (∀ j, j < i → w b (6 * d + j) = 0) ∧ (c ≠ 0 ∨ zi ≠ 0 → i = 0)) (fun (i : Nat) => 6 - i) (fun (i : Nat) => (w, [some (.ref b), some (.int (I (p : Int))), some (.int (I c)), some (.ref ap), some (.int (I ((k : Int) + 1))), some (.int (I (d : Int))), some (.int (I zi)), some (.int (I (i : Int)))])) ?_ 0 ⟨by omega, fun j hj => absurd hj (Nat.not_lt_zero _), fun _ => rfl⟩)
          intro i hx_ ih83
          dsimp only at hx_ ih83 ⊢
          obtain ⟨hi, hi0, hic⟩ := hx_
          refine j_iload_n X dL_does_83 rfl ?_
          refine j_if_ne (tgt := 118) X dL_does_84 (by omega) (by decide) (fun c84 => ?_) (fun c84 => ?_)
          · refine j_cut 8 (K118 i ?_)
            (try dsimp only)
            exact ⟨hi, hi0, fun h1 h2 h3 => by omega⟩
          · refine j_iload X dL_does_87 rfl ?_
            refine j_if_ne (tgt := 118) X dL_does_89 (by omega) (by decide) (fun c89 => ?_) (fun c89 => ?_)
            · refine j_cut 8 (K118 i ?_)
              (try dsimp only)
              exact ⟨hi, hi0, fun h1 h2 h3 => by omega⟩
            · refine j_iload X dL_does_92 rfl ?_
              refine j_bipush X dL_does_94 (by decide) ?_
              refine j_icmp_ge (tgt := 118) X dL_does_96 (by omega) (by decide) (fun c96 => ?_) (fun c96 => ?_)
              · refine j_cut 8 (K118 i ?_)
                (try dsimp only)
                exact ⟨hi, hi0, fun h1 h2 h3 => by omega⟩
              · refine j_aload_n X dL_does_99 rfl ?_
                refine j_bipush X dL_does_100 (by decide) ?_
                refine j_iload X dL_does_102 rfl ?_
                refine j_imul X dL_does_104 ?_
                refine j_iload X dL_does_105 rfl ?_
                refine j_iadd X dL_does_107 ?_
                refine j_ialN X dL_does_108 (by assumption) (6 * d + i) (by omega) (by omega) (by decide) ?_
                refine j_if_ne (tgt := 118) X dL_does_109 (by have h1 := hw0 (by omega) (6 * d + i); have h2 := hRu (6 * d + i) (by omega); have h3 := cA_le (L := dn c (O.take k) p L) (6 * d + i); omega) (by decide) (fun c109 => ?_) (fun c109 => ?_)
                · refine j_cut 8 (K118 i ?_)
                  (try dsimp only)
                  exact ⟨hi, hi0, fun h1 h2 h3 => by omega⟩
                · refine j_iinc X dL_does_112 rfl rfl (Nat.le_of_ble_eq_true rfl) ?_
                  refine j_goto (tgt := 83) X dL_does_115 (by decide) ?_
                  refine j_cut 8 (ih83 (i + 1) ?_ (by (try dsimp only); omega))
                  (try dsimp only)
                  exact ⟨by omega, fun j hj => by
    by_cases hq : j = i
    · subst hq; exact c109
    · exact hi0 j (by omega), fun h => by omega⟩
      · refine j_iconst X dL_does_49 ?_
        refine j_istore X dL_does_50 rfl (Nat.le_of_ble_eq_true rfl) ?_
        refine j_cut 8 (j_loop (σ := Nat × Mem) (fun (y_ : Nat × Mem) => match y_ with | (i, w) => i ≤ 6 ∧ (c = 0 → i = 0) ∧ (∀ q, w b q = if 6 * d ≤ q ∧ q < 6 * d + i then 0 else u b q) ∧ ∀ q, q ≠ b → w q = u q) (fun (y_ : Nat × Mem) => match y_ with | (i, w) => 6 - i) (fun (y_ : Nat × Mem) => match y_ with | (i, w) => (w, [some (.ref b), some (.int (I (p : Int))), some (.int (I c)), some (.ref ap), some (.int (I ((k : Int) + 1))), some (.int (I (d : Int))), some (.int (I zi)), some (.int (I (i : Int)))])) ?_ (0, u) ⟨by omega, fun _ => rfl, fun q => by rw [if_neg (by omega)], fun _ _ => rfl⟩)
        intro y_ hx_ ih52
        obtain ⟨i, w⟩ := y_
        dsimp only at hx_ ih52 ⊢
        obtain ⟨hi, hic, hiw, hif⟩ := hx_
        refine j_iload_n X dL_does_52 rfl ?_
        refine j_if_eq (tgt := 80) X dL_does_53 (by omega) (by decide) (fun c53 => ?_) (fun c53 => ?_)
        · refine j_cut 7 (K80 w ?_)
          (try dsimp only)
          exact ⟨fun h q => by rw [hiw q, if_neg (by have := hic h; omega)], fun h q hq => by
    rw [hiw q]
    by_cases hq2 : q / 6 = d
    · rw [if_pos hq2, if_pos (by omega)]
    · rw [if_neg hq2, if_neg (by omega)], hif⟩
        · refine j_iload X dL_does_56 rfl ?_
          refine j_bipush X dL_does_58 (by decide) ?_
          refine j_icmp_ge (tgt := 80) X dL_does_60 (by omega) (by decide) (fun c60 => ?_) (fun c60 => ?_)
          · refine j_cut 7 (K80 w ?_)
            (try dsimp only)
            exact ⟨fun h q => by rw [hiw q, if_neg (by have := hic h; omega)], fun h q hq => by
    rw [hiw q]
    by_cases hq2 : q / 6 = d
    · rw [if_pos hq2, if_pos (by omega)]
    · rw [if_neg hq2, if_neg (by omega)], hif⟩
          · refine j_aload_n X dL_does_63 rfl ?_
            refine j_bipush X dL_does_64 (by decide) ?_
            refine j_iload X dL_does_66 rfl ?_
            refine j_imul X dL_does_68 ?_
            refine j_iload X dL_does_69 rfl ?_
            refine j_iadd X dL_does_71 ?_
            refine j_iconst X dL_does_72 ?_
            refine j_iasN X dL_does_73 (by assumption) (6 * d + i) (by omega) (by omega) (by decide) (fun u73 f73 g73 n73 => ?_)
            refine j_iinc X dL_does_74 rfl rfl (Nat.le_of_ble_eq_true rfl) ?_
            refine j_goto (tgt := 52) X dL_does_77 (by decide) ?_
            refine j_cut 8 (ih52 (i + 1, u73) ?_ (by (try dsimp only); omega))
            (try dsimp only)
            exact ⟨by omega, fun h => by omega, fun q => by
    by_cases hq : q = 6 * d + i
    · subst hq; rw [f73, if_pos (by omega)]
    · rw [g73 q hq, hiw q]
      by_cases hq2 : 6 * d ≤ q ∧ q < 6 * d + i
      · rw [if_pos hq2, if_pos (by omega)]
      · rw [if_neg hq2, if_neg (by omega)], fun q hq => (n73 q hq).trans (hif q hq)⟩
    · refine j_aload_n X dL_does_28 rfl ?_
      refine j_bipush X dL_does_29 (by decide) ?_
      refine j_iload_n X dL_does_31 rfl ?_
      refine j_imul X dL_does_32 ?_
      refine j_iload X dL_does_33 rfl ?_
      refine j_iadd X dL_does_35 ?_
      refine j_ialN X dL_does_36 (by assumption) (9 * p + 1 + k) (by omega) (by omega) (by decide) ?_
      rw [hpu, hP2 k hkl]
      refine j_bipush X dL_does_37 (by decide) ?_
      refine j_icmp_le (tgt := 46) X dL_does_39 (by omega) (by decide) (fun c39 => ?_) (fun c39 => ?_)
      · refine j_iconst X dL_does_46 ?_
        refine j_cut 6 (K47 0 ?_)
        (try dsimp only)
        exact (Or.inr ⟨rfl, fun h => by have := he3.mpr h; omega⟩)
      · refine j_iconst X dL_does_42 ?_
        refine j_goto (tgt := 47) X dL_does_43 (by decide) ?_
        refine j_cut 6 (K47 1 ?_)
        (try dsimp only)
        exact (Or.inl ⟨rfl, he3.mp (by omega)⟩)
def rmL_with : Room := { frames := 2, cells := 0, slots := 0, locals := 47 }
set_option maxHeartbeats 4000000 in
set_option maxRecDepth 100000 in
theorem c_L_with (l : Launch) (D : va_G) (nH : Nat) (sk : Sk) (v : Mem) (b q ap a t w : Nat) (S : AS) (L : List Nat) (hb : sk b = some (eA D 10 60)) (hq : sk q = some (eA D 10 6)) (hpa : sk ap = some (eA D 10 54)) (ha : sk a = some (eA D 10 10)) (ht : sk t = some (eA D 10 60)) (hne : t ≠ b ∧ t ≠ q ∧ t ≠ ap ∧ t ≠ a) (hR : RA v b L) (hL : okL L) (hPh : Phi L ≤ 60) (hS : PS v q ap S) (hT : RT v a (tx S)) (hoT : okL (tx S)) (hu : unq (tx S)) (hw : w < 2147483648) : CtI l D yL_with wsL_with rmL_with [.ref b, .int (I (w : Int)), .ref q, .ref ap, .ref a, .ref t] nH sk v (fun z v' => z = (wrg (careU (od S) w L (np S)) (tx S) : Int) ∧ ∀ r, r ≠ t → v' r = v r) := by
  refine ct_of (cc := cL_with) (maxL := 7) (ret := (some .int)) rfl rfl (Nat.le_of_ble_eq_true rfl) ?_
  intro p_ e_ s_ m_ args_ below_ meth_ c_ X hmn hsz
  obtain ⟨hq0, hn6, hPO⟩ := id hS
  obtain ⟨ne1, ne2, ne3, ne4⟩ := hne
  refine j_iconst X dL_with_0 ?_
  refine j_istore X dL_with_1 rfl (Nat.le_of_ble_eq_true rfl) ?_
  refine j_cut 7 (j_loop (σ := Nat × Mem) (fun (y_ : Nat × Mem) => match y_ with | (k, u) => k ≤ 60 ∧ (∀ j, j < k → u t j = v b j) ∧ ∀ r, r ≠ t → u r = v r) (fun (y_ : Nat × Mem) => match y_ with | (k, u) => 60 - k) (fun (y_ : Nat × Mem) => match y_ with | (k, u) => (u, [some (.ref b), some (.int (I (w : Int))), some (.ref q), some (.ref ap), some (.ref a), some (.ref t), some (.int (I (k : Int)))])) ?_ (0, v) ⟨by omega, fun j hj => absurd hj (Nat.not_lt_zero _), fun _ _ => rfl⟩)
  intro y_ hx_ ih3
  obtain ⟨k, u⟩ := y_
  dsimp only at hx_ ih3 ⊢
  obtain ⟨hk, hk1, hfu⟩ := hx_
  refine j_iload X dL_with_3 rfl ?_
  refine j_bipush X dL_with_5 (by decide) ?_
  refine j_icmp_ge (tgt := 25) X dL_with_7 (by omega) (by decide) (fun c7 => ?_) (fun c7 => ?_)
  · refine j_iconst X dL_with_25 ?_
    refine j_istore X dL_with_26 rfl (Nat.le_of_ble_eq_true rfl) ?_
    refine j_cut 7 (j_loop (σ := Nat × Mem) (fun (y_ : Nat × Mem) => match y_ with | (p, u2) => p ≤ np S ∧ RA u2 t (careU (od S) w L p) ∧ ∀ r, r ≠ t → u2 r = v r) (fun (y_ : Nat × Mem) => match y_ with | (p, u2) => np S - p) (fun (y_ : Nat × Mem) => match y_ with | (p, u2) => (u2, [some (.ref b), some (.int (I (w : Int))), some (.ref q), some (.ref ap), some (.ref a), some (.ref t), some (.int (I (p : Int)))])) ?_ (0, u) ⟨by omega, fun k hk => by show u t k = (cA L k : Int); rw [hk1 k (by omega)]; exact hR k hk, hfu⟩)
    intro y_ hx_ ih28
    obtain ⟨p, u2⟩ := y_
    dsimp only at hx_ ih28 ⊢
    obtain ⟨hp, hRu, hfu2⟩ := hx_
    have hok := careU_ok (o := od S) w hL hPh p (by omega) (fun i hi => (hPO i (by omega)).2.2.1)
    refine j_iload X dL_with_28 rfl ?_
    refine j_aload_n X dL_with_30 rfl ?_
    refine j_iconst X dL_with_31 ?_
    refine j_ialN X dL_with_32 (by assumption) (0) rfl (by omega) (by decide) ?_
    rw [hfu2 q (fun h => ne2 h.symm), hq0]
    refine j_icmp_ge (tgt := 61) X dL_with_33 (by omega) (by decide) (fun c33 => ?_) (fun c33 => ?_)
    · have hpn : p = np S := by omega
      subst hpn
      have hl60 := Nat.le_trans (Phi_len hok.1) hok.2
      have hWa := W_all hok.1 hoT hl60
      refine j_aload X dL_with_61 rfl ?_
      refine j_aload X dL_with_63 rfl ?_
      refine j_callS (nn := 2) X dL_with_65 (c_L_wrongs l D nH sk u2 t a (careU (od S) w L (np S)) (tx S) ht ha hRu hok.1 hl60 (hT.kept (hfu2 a (fun h => ne4 h.symm))) hu) gL_with_L_wrongs rfl ⟨rfl, rfl⟩ (by decide +kernel) ⟨Nat.le_of_ble_eq_true rfl, Nat.le_of_ble_eq_true rfl⟩ rfl rfl (Nat.le_of_ble_eq_true rfl) ⟨Nat.zero_le _, Nat.zero_le _⟩ (kI (fun z65 v65 h65 => ?_))
      obtain ⟨rfl, rfl⟩ := h65
      refine j_callS (nn := 1) X dL_with_68 (c_L_sum l D nH sk u2 (sU (W3 (careU (od S) w L (np S)) (tx S)) 10) (by omega)) gL_with_L_sum rfl ⟨rfl, rfl⟩ (by decide +kernel) ⟨Nat.le_of_ble_eq_true rfl, Nat.le_of_ble_eq_true rfl⟩ rfl rfl (Nat.le_of_ble_eq_true rfl) ⟨Nat.zero_le _, Nat.zero_le _⟩ (kI (fun z68 v68 h68 => ?_))
      obtain ⟨rfl, rfl⟩ := h68
      exact j_iret X dL_with_71 ⟨_, rfl, rfl, ⟨by rw [W_wrg hok.1 hoT hl60], hfu2⟩⟩
    · refine j_iload_n X dL_with_36 rfl ?_
      refine j_iload X dL_with_37 rfl ?_
      refine j_ishr X dL_with_39 (b_shr (by omega) (by omega)) ?_
      refine j_iconst X dL_with_40 ?_
      refine j_iand X dL_with_41 b_bit1 ?_
      have hb2 : w / 2 ^ p % 2 < 2 := Nat.mod_lt _ (by decide)
      have htb := tb_div w p
      generalize w / 2 ^ p % 2 = bit at hb2 htb ⊢
      refine j_iconst X dL_with_42 ?_
      refine j_icmp_ne (tgt := 55) X dL_with_43 (by omega) (by decide) (fun c43 => ?_) (fun c43 => ?_)
      · refine j_iinc X dL_with_55 rfl rfl (Nat.le_of_ble_eq_true rfl) ?_
        refine j_goto (tgt := 28) X dL_with_58 (by decide) ?_
        refine j_cut 7 (ih28 (p + 1, _) ?_ (by (try dsimp only); omega))
        (try dsimp only)
        exact (by first | exact ⟨by omega, by rw [careU_s, if_pos htt]; exact hR52, fun r hr => (f52 r hr).trans (hfu2 r hr)⟩ | exact ⟨by omega, by rw [careU_s, if_neg (fun h => c43 (by rw [h] at htb; have := of_decide_eq_true htb.symm; omega))]; exact hRu, hfu2⟩)
      · have htt : w.testBit p = true := by rw [htb]; exact decide_eq_true (by omega)
        refine j_aload X dL_with_46 rfl ?_
        refine j_iload X dL_with_48 rfl ?_
        refine j_iconst X dL_with_50 ?_
        refine j_aload_n X dL_with_51 rfl ?_
        refine j_callS (nn := 4) X dL_with_52 (c_L_does l D nH sk u2 t ap p 1 (od S p) (careU (od S) w L p) ht hpa ne3 (by omega) hRu hok.1 ((hPO p (by omega)).1.kept (hfu2 ap (fun h => ne3 h.symm))) (hPO p (by omega)).2 (Or.inl ⟨rfl, hok.2⟩)) gL_with_L_does rfl ⟨rfl, rfl⟩ (by decide +kernel) ⟨Nat.le_of_ble_eq_true rfl, Nat.le_of_ble_eq_true rfl⟩ rfl rfl (Nat.le_of_ble_eq_true rfl) ⟨Nat.zero_le _, Nat.zero_le _⟩ (kV (fun v52 h52 => ?_))
        obtain ⟨hR52, f52⟩ := h52
        refine j_iinc X dL_with_55 rfl rfl (Nat.le_of_ble_eq_true rfl) ?_
        refine j_goto (tgt := 28) X dL_with_58 (by decide) ?_
        refine j_cut 7 (ih28 (p + 1, _) ?_ (by (try dsimp only); omega))
        (try dsimp only)
        exact (by first | exact ⟨by omega, by rw [careU_s, if_pos htt]; exact hR52, fun r hr => (f52 r hr).trans (hfu2 r hr)⟩ | exact ⟨by omega, by rw [careU_s, if_neg (fun h => c43 (by rw [h] at htb; have := of_decide_eq_true htb.symm; omega))]; exact hRu, hfu2⟩)
  · refine j_aload X dL_with_10 rfl ?_
    refine j_iload X dL_with_12 rfl ?_
    refine j_aload_n X dL_with_14 rfl ?_
    refine j_iload X dL_with_15 rfl ?_
    refine j_ialN X dL_with_17 (by assumption) (k) (by omega) (by omega) (by decide) ?_
    refine j_iasN X dL_with_18 (by assumption) (k) (by omega) (by omega) (by decide) (fun u18 f18 g18 n18 => ?_)
    refine j_iinc X dL_with_19 rfl rfl (Nat.le_of_ble_eq_true rfl) ?_
    refine j_goto (tgt := 3) X dL_with_22 (by decide) ?_
    refine j_cut 7 (ih3 (k + 1, u18) ?_ (by (try dsimp only); omega))
    (try dsimp only)
    exact ⟨by omega, fun j hj => by
    by_cases hj2 : j = k
    · subst hj2; rw [f18, hfu b (fun h => ne1 h.symm)]
    · rw [g18 j hj2]; exact hk1 j (by omega), fun r hr => (n18 r hr).trans (hfu r hr)⟩
