/-! ===== contracts of Binder ===== -/
def rmX0_leafWith : Room := { frames := 0, cells := 0, slots := 0, locals := 0 }
set_option maxHeartbeats 4000000 in
set_option maxRecDepth 100000 in
theorem c_X0_leafWith (l : Launch) (D : va_G) (nH : Nat) (sk : Sk) (v : Mem) (n i : Int)  : CtI l D yX0_leafWith wsX0_leafWith rmX0_leafWith [.int (I n), .int (I i)] nH sk v (fun z v' => z = n * 16 + i ∧ v = v') := by
  refine ct_of (cc := cX0_leafWith) (maxL := 2) (ret := (some .int)) rfl rfl (Nat.le_of_ble_eq_true rfl) ?_
  intro p_ e_ s_ m_ args_ below_ meth_ c_ X hmn hsz
  refine j_iload_n X dX0_leafWith_0 rfl ?_
  refine j_bipush X dX0_leafWith_1 (by decide) ?_
  refine j_imul X dX0_leafWith_3 ?_
  refine j_iload_n X dX0_leafWith_4 rfl ?_
  refine j_iadd X dX0_leafWith_5 ?_
  exact j_iret X dX0_leafWith_6 ⟨_, rfl, rfl, ⟨rfl, rfl⟩⟩
def rmX0_numberOf : Room := { frames := 0, cells := 0, slots := 0, locals := 0 }
set_option maxHeartbeats 4000000 in
set_option maxRecDepth 100000 in
theorem c_X0_numberOf (l : Launch) (D : va_G) (nH : Nat) (sk : Sk) (v : Mem) (x : Int) (hx : 0 ≤ x ∧ x ≤ 2147483647) : CtI l D yX0_numberOf wsX0_numberOf rmX0_numberOf [.int (I x)] nH sk v (fun z v' => z = x / 16 ∧ v = v') := by
  refine ct_of (cc := cX0_numberOf) (maxL := 1) (ret := (some .int)) rfl rfl (Nat.le_of_ble_eq_true rfl) ?_
  intro p_ e_ s_ m_ args_ below_ meth_ c_ X hmn hsz
  refine j_iload_n X dX0_numberOf_0 rfl ?_
  refine j_bipush X dX0_numberOf_1 (by decide) ?_
  refine j_idiv X dX0_numberOf_3 (by omega) (by omega) ?_
  exact j_iret X dX0_numberOf_4 ⟨_, rfl, rfl, ⟨rfl, rfl⟩⟩
def rmX0_issueOf : Room := { frames := 0, cells := 0, slots := 0, locals := 0 }
set_option maxHeartbeats 4000000 in
set_option maxRecDepth 100000 in
theorem c_X0_issueOf (l : Launch) (D : va_G) (nH : Nat) (sk : Sk) (v : Mem) (x : Int) (hx : 0 ≤ x ∧ x ≤ 2147483647) : CtI l D yX0_issueOf wsX0_issueOf rmX0_issueOf [.int (I x)] nH sk v (fun z v' => z = x % 16 ∧ v = v') := by
  refine ct_of (cc := cX0_issueOf) (maxL := 1) (ret := (some .int)) rfl rfl (Nat.le_of_ble_eq_true rfl) ?_
  intro p_ e_ s_ m_ args_ below_ meth_ c_ X hmn hsz
  refine j_iload_n X dX0_issueOf_0 rfl ?_
  refine j_bipush X dX0_issueOf_1 (by decide) ?_
  refine j_irem X dX0_issueOf_3 (by omega) (by omega) ?_
  exact j_iret X dX0_issueOf_4 ⟨_, rfl, rfl, ⟨rfl, rfl⟩⟩
def rmX0_copy : Room := { frames := 1, cells := 0, slots := 0, locals := 26 }
set_option maxHeartbeats 4000000 in
set_option maxRecDepth 100000 in
theorem c_X0_copy (l : Launch) (D : va_G) (nH : Nat) (sk : Sk) (v : Mem) (b o : Nat) (L : List Nat) (hb : Bd D sk b) (ho : Bd D sk o) (hL : BA v o L) : CtV l D yX0_copy wsX0_copy rmX0_copy [.ref b, .ref o] nH sk v (fun v' => BA v' b L ∧ fr v v' b) := by
  refine ct_of (cc := cX0_copy) (maxL := 2) (ret := none) rfl rfl (Nat.le_of_ble_eq_true rfl) ?_
  intro p_ e_ s_ m_ args_ below_ meth_ c_ X hmn hsz
  have hinX0 : ∀ w ∈ wsX00, w ∈ wsX0_copy := by decide +kernel
  have hne := Bd.ne hb ho
  obtain ⟨hb0, hb1⟩ := hb
  obtain ⟨ho0, ho1⟩ := ho
  obtain ⟨hl0, hl1, hl2, hl3, hl4⟩ := id hL
  refine j_aload_n X dX0_copy_0 rfl ?_
  refine j_getr X dX0_copy_1 (T := TX0) (N := 2) (C := RX0) hinX0 rfl (by assumption) 0 (by decide) (by decide +kernel) rfl ?_
  refine j_iconst X dX0_copy_4 ?_
  refine j_aload_n X dX0_copy_5 rfl ?_
  refine j_getr X dX0_copy_6 (T := TX0) (N := 2) (C := RX0) hinX0 rfl (by assumption) 0 (by decide) (by decide +kernel) rfl ?_
  refine j_iconst X dX0_copy_9 ?_
  refine j_aload_n X dX0_copy_10 rfl ?_
  refine j_geti X dX0_copy_11 (T := TX0) (N := 2) (C := RX0) hinX0 rfl (by assumption) 1 (by decide) (by decide +kernel) rfl ?_
  refine j_copy X dX0_copy_14 ⟨by decide +kernel, by decide +kernel, by decide +kernel, by decide +kernel⟩ (by assumption) (by assumption) (by omega) (by decide) (Nat.le_of_ble_eq_true rfl) (Nat.le_of_ble_eq_true rfl) ?_
  rw [hl0]
  rw [show ((0 : Int)).toNat = 0 from rfl, Int.toNat_natCast]
  refine j_aload_n X dX0_copy_17 rfl ?_
  refine j_aload_n X dX0_copy_18 rfl ?_
  refine j_geti X dX0_copy_19 (T := TX0) (N := 2) (C := RX0) hinX0 rfl (by assumption) 1 (by decide) (by decide +kernel) rfl ?_
  refine j_put X dX0_copy_22 (T := TX0) (N := 2) (C := RX0) hinX0 rfl (by assumption) 1 (by decide) tyX0 tyX0_ok nmX0 rfl rfl rfl (by decide +kernel) ?_
  have e9 : upR v (b + 1) (cpy (v (o + 1)) (v (b + 1)) 0 0 L.length) o 1 = (L.length : Int) := by rw [upR_n _ _ hne, hl0]
  rw [e9]
  exact j_vret X dX0_copy_25 ⟨rfl, rfl, ⟨⟨by rw [up2_s, upE_s], hl1, by rw [up2_n _ _ _ (by omega), upR_s]; exact AL_cpy0 hl2, hl3, hl4⟩, fun a ha hb => by rw [up2_n _ _ _ ha, upR_n _ _ hb]⟩⟩
def rmX0_placeOf : Room := { frames := 0, cells := 0, slots := 0, locals := 0 }
set_option maxHeartbeats 4000000 in
set_option maxRecDepth 100000 in
theorem c_X0_placeOf (l : Launch) (D : va_G) (nH : Nat) (sk : Sk) (v : Mem) (b : Nat) (x : Int) (L : List Nat) (hb : Bd D sk b) (hL : BA v b L) (hx : -2147483648 ≤ x ∧ x ≤ 2147483647) : CtI l D yX0_placeOf wsX0_placeOf rmX0_placeOf [.ref b, .int (I x)] nH sk v (fun z v' => ∃ p : Nat, z = (p : Int) ∧ isPl L x p ∧ v = v') := by
  refine ct_of (cc := cX0_placeOf) (maxL := 3) (ret := (some .int)) rfl rfl (Nat.le_of_ble_eq_true rfl) ?_
  intro p_ e_ s_ m_ args_ below_ meth_ c_ X hmn hsz
  have hinX0 : ∀ w ∈ wsX00, w ∈ wsX0_placeOf := by decide +kernel
  obtain ⟨hb0, hb1⟩ := hb
  obtain ⟨hl0, hl1, hl2, hl3, hl4⟩ := id hL
  refine j_iconst X dX0_placeOf_0 ?_
  refine j_istore_n X dX0_placeOf_1 rfl (Nat.le_of_ble_eq_true rfl) ?_
  refine j_loop (σ := Int) (fun (i : Int) => 0 ≤ i ∧ i ≤ (L.length : Int) ∧ ∀ (k : Nat) (h : k < L.length), (k : Int) < i → ((L[k]'h : Nat) : Int) < x) (fun (i : Int) => ((L.length : Int) - i).toNat) (fun (i : Int) => (v, [some (.ref b), some (.int (I x)), some (.int (I i))])) ?_ 0 ⟨by omega, by omega, fun k _ h => absurd h (by omega)⟩
  intro i hx ih2
  dsimp only at hx ih2 ⊢
  obtain ⟨hi0, hi1, hi2⟩ := hx
  refine j_iload_n X dX0_placeOf_2 rfl ?_
  refine j_aload_n X dX0_placeOf_3 rfl ?_
  refine j_geti X dX0_placeOf_4 (T := TX0) (N := 2) (C := RX0) hinX0 rfl (by assumption) 1 (by decide) (by decide +kernel) rfl ?_
  refine j_icmp_ge (tgt := 28) X dX0_placeOf_7 (by omega) (by decide) (fun c7 => ?_) (fun c7 => ?_)
  · refine j_aload_n X dX0_placeOf_28 rfl ?_
    refine j_geti X dX0_placeOf_29 (T := TX0) (N := 2) (C := RX0) hinX0 rfl (by assumption) 1 (by decide) (by decide +kernel) rfl ?_
    exact j_iret X dX0_placeOf_32 ⟨_, rfl, rfl, ⟨L.length, hl0, ⟨Nat.le_refl _, fun k h _ => hi2 k h (by omega), fun k h hk => absurd h (by omega)⟩, rfl⟩⟩
  · refine j_aload_n X dX0_placeOf_10 rfl ?_
    refine j_getr X dX0_placeOf_11 (T := TX0) (N := 2) (C := RX0) hinX0 rfl (by assumption) 0 (by decide) (by decide +kernel) rfl ?_
    refine j_iload_n X dX0_placeOf_14 rfl ?_
    refine j_iald X dX0_placeOf_15 (by assumption) (by omega) (by decide) ?_
    refine j_iload_n X dX0_placeOf_16 rfl ?_
    obtain ⟨hik, hir⟩ := hl2.at hi0 (by omega)
    have hib := hL.lt hik
    refine j_icmp_lt (tgt := 22) X dX0_placeOf_17 (by omega) (by decide) (fun c17 => ?_) (fun c17 => ?_)
    · refine j_iinc X dX0_placeOf_22 rfl rfl (Nat.le_of_ble_eq_true rfl) ?_
      refine j_goto (tgt := 2) X dX0_placeOf_25 (by decide) ?_
      exact ih2 (i + 1) (by (try dsimp only); exact ⟨by omega, by omega, fun k h hk => by rcases Int.lt_or_eq_of_le (show (k : Int) ≤ i by omega) with y | y; exact hi2 k h y; have hki : k = i.toNat := (by omega); subst hki; omega⟩) (by (try dsimp only); omega)
    · refine j_iload_n X dX0_placeOf_20 rfl ?_
      exact j_iret X dX0_placeOf_21 ⟨_, rfl, rfl, ⟨i.toNat, by omega, ⟨by omega, fun k h hk => hi2 k h (by omega), fun k h hk => by have := hL.mono hik h hk; omega⟩, rfl⟩⟩
def rmX0_start : Room := { frames := 1, cells := 0, slots := 0, locals := 22 }
set_option maxHeartbeats 4000000 in
set_option maxRecDepth 100000 in
theorem c_X0_start (l : Launch) (D : va_G) (nH : Nat) (sk : Sk) (v : Mem) (b n : Nat) (L : List Nat) (hb : Bd D sk b) (hL : BA v b L) (hn : n ≤ 100) : CtI l D yX0_start wsX0_start rmX0_start [.ref b, .int (I n)] nH sk v (fun z v' => ∃ p : Nat, z = (p : Int) ∧ isPl L ((n : Int) * 16) p ∧ v = v') := by
  refine ct_of (cc := cX0_start) (maxL := 2) (ret := (some .int)) rfl rfl (Nat.le_of_ble_eq_true rfl) ?_
  intro p_ e_ s_ m_ args_ below_ meth_ c_ X hmn hsz
  obtain ⟨hb0, hb1⟩ := id hb
  refine j_aload_n X dX0_start_0 rfl ?_
  refine j_iload_n X dX0_start_1 rfl ?_
  refine j_iconst X dX0_start_2 ?_
  refine j_callS (nn := 2) X dX0_start_3 (c_X0_leafWith l D nH sk v n 0) gX0_start_X0_leafWith rfl ⟨rfl, rfl⟩ (by decide +kernel) ⟨Nat.le_of_ble_eq_true rfl, Nat.le_of_ble_eq_true rfl⟩ rfl rfl (Nat.le_of_ble_eq_true rfl) ⟨Nat.zero_le _, Nat.zero_le _⟩ (kI (fun z3 v3 h3 => ?_))
  obtain ⟨rfl, rfl⟩ := h3
  rw [Int.add_zero]
  refine j_callV (nn := 1) X dX0_start_6 (c_X0_placeOf l D nH sk v b _ L hb hL (by omega)) gX0_start_X0_placeOf rfl ⟨rfl, rfl⟩ (by decide +kernel) ⟨Nat.le_of_ble_eq_true rfl, Nat.le_of_ble_eq_true rfl⟩ (by assumption) ⟨rfl, rfl⟩ rfl rfl (Nat.le_of_ble_eq_true rfl) ⟨Nat.zero_le _, Nat.zero_le _⟩ (kI (fun z6 v6 h6 => ?_))
  exact j_iret X dX0_start_9 ⟨_, rfl, rfl, h6⟩
def rmX0_end : Room := { frames := 1, cells := 0, slots := 0, locals := 20 }
set_option maxHeartbeats 4000000 in
set_option maxRecDepth 100000 in
theorem c_X0_end (l : Launch) (D : va_G) (nH : Nat) (sk : Sk) (v : Mem) (b n st : Nat) (L : List Nat) (hb : Bd D sk b) (hL : BA v b L) (hn : n ≤ 100) (hst : st ≤ L.length) : CtI l D yX0_end wsX0_end rmX0_end [.ref b, .int (I n), .int (I st)] nH sk v (fun z v' => ∃ q : Nat, z = (q : Int) ∧ st ≤ q ∧ q ≤ L.length ∧ (∀ (k : Nat) (h : k < L.length), st ≤ k → k < q → (L[k]'h) / 16 = n) ∧ (∀ h : q < L.length, (L[q]'h) / 16 ≠ n) ∧ v = v') := by
  refine ct_of (cc := cX0_end) (maxL := 4) (ret := (some .int)) rfl rfl (Nat.le_of_ble_eq_true rfl) ?_
  intro p_ e_ s_ m_ args_ below_ meth_ c_ X hmn hsz
  have hinX0 : ∀ w ∈ wsX00, w ∈ wsX0_end := by decide +kernel
  obtain ⟨hb0, hb1⟩ := hb
  obtain ⟨hl0, hl1, hl2, hl3, hl4⟩ := id hL
  refine j_iload_n X dX0_end_0 rfl ?_
  refine j_istore_n X dX0_end_1 rfl (Nat.le_of_ble_eq_true rfl) ?_
  refine j_loop (σ := Int) (fun (i : Int) => (st : Int) ≤ i ∧ i ≤ (L.length : Int) ∧ ∀ (k : Nat) (h : k < L.length), st ≤ k → (k : Int) < i → (L[k]'h) / 16 = n) (fun (i : Int) => ((L.length : Int) - i).toNat) (fun (i : Int) => (v, [some (.ref b), some (.int (I n)), some (.int (I st)), some (.int (I i))])) ?_ (st : Int) ⟨by omega, by omega, fun k _ h1 h2 => absurd h2 (by omega)⟩
  intro i hx ih2
  dsimp only at hx ih2 ⊢
  obtain ⟨hi0, hi1, hi2⟩ := hx
  refine j_iload_n X dX0_end_2 rfl ?_
  refine j_aload_n X dX0_end_3 rfl ?_
  refine j_geti X dX0_end_4 (T := TX0) (N := 2) (C := RX0) hinX0 rfl (by assumption) 1 (by decide) (by decide +kernel) rfl ?_
  refine j_icmp_ge (tgt := 31) X dX0_end_7 (by omega) (by decide) (fun c7 => ?_) (fun c7 => ?_)
  · refine j_aload_n X dX0_end_31 rfl ?_
    refine j_geti X dX0_end_32 (T := TX0) (N := 2) (C := RX0) hinX0 rfl (by assumption) 1 (by decide) (by decide +kernel) rfl ?_
    exact j_iret X dX0_end_35 ⟨_, rfl, rfl, ⟨L.length, hl0, by omega, Nat.le_refl _, fun k h h1 _ => hi2 k h h1 (by omega), fun h => absurd h (by omega), rfl⟩⟩
  · refine j_aload_n X dX0_end_10 rfl ?_
    refine j_getr X dX0_end_11 (T := TX0) (N := 2) (C := RX0) hinX0 rfl (by assumption) 0 (by decide) (by decide +kernel) rfl ?_
    refine j_iload_n X dX0_end_14 rfl ?_
    refine j_iald X dX0_end_15 (by assumption) (by omega) (by decide) ?_
    obtain ⟨hik, hir⟩ := hl2.at (show 0 ≤ i by omega) (by omega)
    have hib := hL.lt hik
    refine j_callS (nn := 1) X dX0_end_16 (c_X0_numberOf l D nH sk v _ (by omega)) gX0_end_X0_numberOf rfl ⟨rfl, rfl⟩ (by decide +kernel) ⟨Nat.le_of_ble_eq_true rfl, Nat.le_of_ble_eq_true rfl⟩ rfl rfl (Nat.le_of_ble_eq_true rfl) ⟨Nat.zero_le _, Nat.zero_le _⟩ (kI (fun z16 v16 h16 => ?_))
    obtain ⟨rfl, rfl⟩ := h16
    rw [hir]
    refine j_iload_n X dX0_end_19 rfl ?_
    refine j_icmp_eq (tgt := 25) X dX0_end_20 (by omega) (by decide) (fun c20 => ?_) (fun c20 => ?_)
    · refine j_iinc X dX0_end_25 rfl rfl (Nat.le_of_ble_eq_true rfl) ?_
      refine j_goto (tgt := 2) X dX0_end_28 (by decide) ?_
      exact ih2 (i + 1) (by (try dsimp only); exact ⟨by omega, by omega, fun k h h1 hk => by rcases Int.lt_or_eq_of_le (show (k : Int) ≤ i by omega) with y | y; exact hi2 k h h1 y; have hki : k = i.toNat := (by omega); subst hki; omega⟩) (by (try dsimp only); omega)
    · refine j_iload_n X dX0_end_23 rfl ?_
      exact j_iret X dX0_end_24 ⟨_, rfl, rfl, ⟨i.toNat, by omega, by omega, by omega, fun k h h1 hk => hi2 k h h1 (by omega), fun h => by omega, rfl⟩⟩
def rmX0_removeRange : Room := { frames := 1, cells := 0, slots := 0, locals := 26 }
set_option maxHeartbeats 4000000 in
set_option maxRecDepth 100000 in
theorem c_X0_removeRange (l : Launch) (D : va_G) (nH : Nat) (sk : Sk) (v : Mem) (b f t : Nat) (L : List Nat) (hb : Bd D sk b) (hL : BA v b L) (hft : f ≤ t) (ht : t ≤ L.length) : CtV l D yX0_removeRange wsX0_removeRange rmX0_removeRange [.ref b, .int (I f), .int (I t)] nH sk v (fun v' => BA v' b (L.take f ++ L.drop t) ∧ fr v v' b) := by
  refine ct_of (cc := cX0_removeRange) (maxL := 3) (ret := none) rfl rfl (Nat.le_of_ble_eq_true rfl) ?_
  intro p_ e_ s_ m_ args_ below_ meth_ c_ X hmn hsz
  have hinX0 : ∀ w ∈ wsX00, w ∈ wsX0_removeRange := by decide +kernel
  obtain ⟨hb0, hb1⟩ := hb
  obtain ⟨hl0, hl1, hl2, hl3, hl4⟩ := id hL
  refine j_aload_n X dX0_removeRange_0 rfl ?_
  refine j_getr X dX0_removeRange_1 (T := TX0) (N := 2) (C := RX0) hinX0 rfl (by assumption) 0 (by decide) (by decide +kernel) rfl ?_
  refine j_iload_n X dX0_removeRange_4 rfl ?_
  refine j_aload_n X dX0_removeRange_5 rfl ?_
  refine j_getr X dX0_removeRange_6 (T := TX0) (N := 2) (C := RX0) hinX0 rfl (by assumption) 0 (by decide) (by decide +kernel) rfl ?_
  refine j_iload_n X dX0_removeRange_9 rfl ?_
  refine j_aload_n X dX0_removeRange_10 rfl ?_
  refine j_geti X dX0_removeRange_11 (T := TX0) (N := 2) (C := RX0) hinX0 rfl (by assumption) 1 (by decide) (by decide +kernel) rfl ?_
  refine j_iload_n X dX0_removeRange_14 rfl ?_
  refine j_isub X dX0_removeRange_15 ?_
  rw [hl0]
  refine j_copy X dX0_removeRange_16 ⟨by decide +kernel, by decide +kernel, by decide +kernel, by decide +kernel⟩ (by assumption) (by assumption) (by omega) (by decide) (Nat.le_of_ble_eq_true rfl) (Nat.le_of_ble_eq_true rfl) ?_
  rw [Int.toNat_natCast, Int.toNat_natCast, show ((L.length : Int) - (t : Int)).toNat = L.length - t by omega]
  refine j_aload_n X dX0_removeRange_19 rfl ?_
  refine j_dup X dX0_removeRange_20 rfl ?_
  refine j_geti X dX0_removeRange_21 (T := TX0) (N := 2) (C := RX0) hinX0 rfl (by assumption) 1 (by decide) (by decide +kernel) rfl ?_
  refine j_iload_n X dX0_removeRange_24 rfl ?_
  refine j_iload_n X dX0_removeRange_25 rfl ?_
  refine j_isub X dX0_removeRange_26 ?_
  refine j_isub X dX0_removeRange_27 ?_
  refine j_put X dX0_removeRange_28 (T := TX0) (N := 2) (C := RX0) hinX0 rfl (by assumption) 1 (by decide) tyX0 tyX0_ok nmX0 rfl rfl rfl (by decide +kernel) ?_
  have e9 : upR v (b + 1) (cpy (v (b + 1)) (v (b + 1)) t f (L.length - t)) b 1 = (L.length : Int) := by rw [upR_n _ _ (by omega), hl0]
  rw [e9]
  exact j_vret X dX0_removeRange_31 ⟨rfl, rfl, ⟨⟨by rw [up2_s, upE_s]; simp; omega, by simp; omega, by rw [up2_n _ _ _ (by omega), upR_s]; exact AL_cut hl2 hft ht, cut_sorted hl3 hft, fun x hx => hl4 x (cut_mem hx)⟩, fun a ha hb => by rw [up2_n _ _ _ ha, upR_n _ _ hb]⟩⟩
def rmX0_insert : Room := { frames := 1, cells := 0, slots := 0, locals := 26 }
set_option maxHeartbeats 4000000 in
set_option maxRecDepth 100000 in
theorem c_X0_insert (l : Launch) (D : va_G) (nH : Nat) (sk : Sk) (v : Mem) (b n i : Nat) (L : List Nat) (hb : Bd D sk b) (hL : BA v b L) (hn : n * 16 + i < 1600) : CtV l D yX0_insert wsX0_insert rmX0_insert [.ref b, .int (I n), .int (I i)] nH sk v (fun v' => (∃ L' : List Nat, BA v' b L' ∧ L'.Perm (insL L (n * 16 + i))) ∧ fr v v' b) := by
  refine ct_of (cc := cX0_insert) (maxL := 5) (ret := none) rfl rfl (Nat.le_of_ble_eq_true rfl) ?_
  intro p_ e_ s_ m_ args_ below_ meth_ c_ X hmn hsz
  have hinX0 : ∀ w ∈ wsX00, w ∈ wsX0_insert := by decide +kernel
  obtain ⟨hb0, hb1⟩ := id hb
  obtain ⟨hl0, hl1, hl2, hl3, hl4⟩ := id hL
  refine j_aload_n X dX0_insert_0 rfl ?_
  refine j_geti X dX0_insert_1 (T := TX0) (N := 2) (C := RX0) hinX0 rfl (by assumption) 1 (by decide) (by decide +kernel) rfl ?_
  refine j_bipush X dX0_insert_4 (by decide) ?_
  refine j_icmp_lt (tgt := 10) X dX0_insert_6 (by omega) (by decide) (fun c6 => ?_) (fun c6 => ?_)
  · refine j_iload_n X dX0_insert_10 rfl ?_
    refine j_iload_n X dX0_insert_11 rfl ?_
    refine j_callS (nn := 2) X dX0_insert_12 (c_X0_leafWith l D nH sk v n i) gX0_insert_X0_leafWith rfl ⟨rfl, rfl⟩ (by decide +kernel) ⟨Nat.le_of_ble_eq_true rfl, Nat.le_of_ble_eq_true rfl⟩ rfl rfl (Nat.le_of_ble_eq_true rfl) ⟨Nat.zero_le _, Nat.zero_le _⟩ (kI (fun z12 v12 h12 => ?_))
    obtain ⟨rfl, rfl⟩ := h12
    rw [show (n : Int) * 16 + (i : Int) = ((n * 16 + i : Nat) : Int) by omega]
    generalize hx : n * 16 + i = x at hn ⊢
    refine j_istore_n X dX0_insert_15 rfl (Nat.le_of_ble_eq_true rfl) ?_
    refine j_aload_n X dX0_insert_16 rfl ?_
    refine j_iload_n X dX0_insert_17 rfl ?_
    refine j_callV (nn := 1) X dX0_insert_18 (c_X0_placeOf l D nH sk v b _ L hb hL (by omega)) gX0_insert_X0_placeOf rfl ⟨rfl, rfl⟩ (by decide +kernel) ⟨Nat.le_of_ble_eq_true rfl, Nat.le_of_ble_eq_true rfl⟩ (by assumption) ⟨rfl, rfl⟩ rfl rfl (Nat.le_of_ble_eq_true rfl) ⟨Nat.zero_le _, Nat.zero_le _⟩ (kI (fun z18 v18 h18 => ?_))
    obtain ⟨q, rfl, hq, rfl⟩ := h18
    have hq0 := hq.1
    refine j_istore X dX0_insert_21 rfl (Nat.le_of_ble_eq_true rfl) ?_
    refine j_aload_n X dX0_insert_23 rfl ?_
    refine j_getr X dX0_insert_24 (T := TX0) (N := 2) (C := RX0) hinX0 rfl (by assumption) 0 (by decide) (by decide +kernel) rfl ?_
    refine j_iload X dX0_insert_27 rfl ?_
    refine j_aload_n X dX0_insert_29 rfl ?_
    refine j_getr X dX0_insert_30 (T := TX0) (N := 2) (C := RX0) hinX0 rfl (by assumption) 0 (by decide) (by decide +kernel) rfl ?_
    refine j_iload X dX0_insert_33 rfl ?_
    refine j_iconst X dX0_insert_35 ?_
    refine j_iadd X dX0_insert_36 ?_
    refine j_aload_n X dX0_insert_37 rfl ?_
    refine j_geti X dX0_insert_38 (T := TX0) (N := 2) (C := RX0) hinX0 rfl (by assumption) 1 (by decide) (by decide +kernel) rfl ?_
    refine j_iload X dX0_insert_41 rfl ?_
    refine j_isub X dX0_insert_43 ?_
    rw [hl0]
    refine j_copy X dX0_insert_44 ⟨by decide +kernel, by decide +kernel, by decide +kernel, by decide +kernel⟩ (by assumption) (by assumption) (by omega) (by decide) (Nat.le_of_ble_eq_true rfl) (Nat.le_of_ble_eq_true rfl) ?_
    rw [Int.toNat_natCast, show ((q : Int) + 1).toNat = q + 1 by omega, show ((L.length : Int) - (q : Int)).toNat = L.length - q by omega]
    refine j_aload_n X dX0_insert_47 rfl ?_
    refine j_getr X dX0_insert_48 (T := TX0) (N := 2) (C := RX0) hinX0 rfl (by assumption) 0 (by decide) (by decide +kernel) rfl ?_
    refine j_iload X dX0_insert_51 rfl ?_
    refine j_iload_n X dX0_insert_53 rfl ?_
    refine j_iast X dX0_insert_54 (by assumption) (by omega) (by decide) ?_
    refine j_aload_n X dX0_insert_55 rfl ?_
    refine j_dup X dX0_insert_56 rfl ?_
    refine j_geti X dX0_insert_57 (T := TX0) (N := 2) (C := RX0) hinX0 rfl (by assumption) 1 (by decide) (by decide +kernel) rfl ?_
    refine j_iconst X dX0_insert_60 ?_
    refine j_iadd X dX0_insert_61 ?_
    refine j_put X dX0_insert_62 (T := TX0) (N := 2) (C := RX0) hinX0 rfl (by assumption) 1 (by decide) tyX0 tyX0_ok nmX0 rfl rfl rfl (by decide +kernel) ?_
    have e9 : up2 (upR v (b + 1) (cpy (v (b + 1)) (v (b + 1)) q (q + 1) (L.length - q))) (b + 1) (q : Int).toNat (x : Int) b 1 = (L.length : Int) := by rw [up2_n _ _ _ (by omega), upR_n _ _ (by omega), hl0]
    rw [e9, Int.toNat_natCast]
    exact j_vret X dX0_insert_65 ⟨rfl, rfl, ⟨⟨L.take q ++ x :: L.drop q, ⟨by rw [up2_s, upE_s]; simp; omega, by simp; omega, by rw [up2_n _ _ _ (by omega), up2_s, upR_s]; exact AL_ins hl2 hq0, ins_sorted hl3 hq, fun y hy => by rcases List.mem_append.mp hy with h | h; exact hl4 y (List.mem_of_mem_take h); rcases List.mem_cons.mp h with h | h; omega; exact hl4 y (List.mem_of_mem_drop h)⟩, by unfold insL; rw [if_pos (by omega)]; exact cut_perm L q x⟩, fun a ha hb => by rw [up2_n _ _ _ ha, up2_n _ _ _ hb, upR_n _ _ hb]⟩⟩
  · exact j_vret X dX0_insert_9 ⟨rfl, rfl, ⟨⟨L, hL, by unfold insL; rw [if_neg (by omega)]⟩, fr.refl _ _⟩⟩
def rmX0_removeAll : Room := { frames := 2, cells := 0, slots := 0, locals := 48 }
set_option maxHeartbeats 4000000 in
set_option maxRecDepth 100000 in
theorem c_X0_removeAll (l : Launch) (D : va_G) (nH : Nat) (sk : Sk) (v : Mem) (b n : Nat) (L : List Nat) (hb : Bd D sk b) (hL : BA v b L) (hn : n ≤ 100) : CtV l D yX0_removeAll wsX0_removeAll rmX0_removeAll [.ref b, .int (I n)] nH sk v (fun v' => BA v' b (remA L n) ∧ fr v v' b) := by
  refine ct_of (cc := cX0_removeAll) (maxL := 3) (ret := none) rfl rfl (Nat.le_of_ble_eq_true rfl) ?_
  intro p_ e_ s_ m_ args_ below_ meth_ c_ X hmn hsz
  obtain ⟨hb0, hb1⟩ := id hb
  obtain ⟨hl0, hl1, hl2, hl3, hl4⟩ := id hL
  refine j_aload_n X dX0_removeAll_0 rfl ?_
  refine j_iload_n X dX0_removeAll_1 rfl ?_
  refine j_callV (nn := 1) X dX0_removeAll_2 (c_X0_start l D nH sk v b n L hb hL hn) gX0_removeAll_X0_start rfl ⟨rfl, rfl⟩ (by decide +kernel) ⟨Nat.le_of_ble_eq_true rfl, Nat.le_of_ble_eq_true rfl⟩ (by assumption) ⟨rfl, rfl⟩ rfl rfl (Nat.le_of_ble_eq_true rfl) ⟨Nat.zero_le _, Nat.zero_le _⟩ (kI (fun z2 v2 h2 => ?_))
  obtain ⟨p0, rfl, hp0, rfl⟩ := h2
  have hp1 := hp0.1
  refine j_istore_n X dX0_removeAll_5 rfl (Nat.le_of_ble_eq_true rfl) ?_
  refine j_aload_n X dX0_removeAll_6 rfl ?_
  refine j_iload_n X dX0_removeAll_7 rfl ?_
  refine j_aload_n X dX0_removeAll_8 rfl ?_
  refine j_iload_n X dX0_removeAll_9 rfl ?_
  refine j_iload_n X dX0_removeAll_10 rfl ?_
  refine j_callV (nn := 2) X dX0_removeAll_11 (c_X0_end l D nH sk v b n p0 L hb hL hn hp1) gX0_removeAll_X0_end rfl ⟨rfl, rfl⟩ (by decide +kernel) ⟨Nat.le_of_ble_eq_true rfl, Nat.le_of_ble_eq_true rfl⟩ (by assumption) ⟨rfl, rfl⟩ rfl rfl (Nat.le_of_ble_eq_true rfl) ⟨Nat.zero_le _, Nat.zero_le _⟩ (kI (fun z11 v11 h11 => ?_))
  obtain ⟨q0, rfl, hq1, hq2, hq3, hq4, rfl⟩ := h11
  have hrg := isRg_of hL.2.2.2.1 hp0 hq1 hq2 hq3 hq4
  refine j_callV (nn := 2) X dX0_removeAll_14 (c_X0_removeRange l D nH sk v b p0 q0 L hb hL hq1 hq2) gX0_removeAll_X0_removeRange rfl ⟨rfl, rfl⟩ (by decide +kernel) ⟨Nat.le_of_ble_eq_true rfl, Nat.le_of_ble_eq_true rfl⟩ (by assumption) ⟨rfl, rfl⟩ rfl rfl (Nat.le_of_ble_eq_true rfl) ⟨Nat.zero_le _, Nat.zero_le _⟩ (kV (fun v14 h14 => ?_))
  rw [rg_remA hrg] at h14
  exact j_vret X dX0_removeAll_17 ⟨rfl, rfl, h14⟩
def rmX0_removeEarliest : Room := { frames := 2, cells := 0, slots := 0, locals := 48 }
set_option maxHeartbeats 4000000 in
set_option maxRecDepth 100000 in
theorem c_X0_removeEarliest (l : Launch) (D : va_G) (nH : Nat) (sk : Sk) (v : Mem) (b n : Nat) (L : List Nat) (hb : Bd D sk b) (hL : BA v b L) (hn : n ≤ 100) : CtV l D yX0_removeEarliest wsX0_removeEarliest rmX0_removeEarliest [.ref b, .int (I n)] nH sk v (fun v' => BA v' b (remE L n) ∧ fr v v' b) := by
  refine ct_of (cc := cX0_removeEarliest) (maxL := 3) (ret := none) rfl rfl (Nat.le_of_ble_eq_true rfl) ?_
  intro p_ e_ s_ m_ args_ below_ meth_ c_ X hmn hsz
  obtain ⟨hb0, hb1⟩ := id hb
  obtain ⟨hl0, hl1, hl2, hl3, hl4⟩ := id hL
  refine j_aload_n X dX0_removeEarliest_0 rfl ?_
  refine j_iload_n X dX0_removeEarliest_1 rfl ?_
  refine j_callV (nn := 1) X dX0_removeEarliest_2 (c_X0_start l D nH sk v b n L hb hL hn) gX0_removeEarliest_X0_start rfl ⟨rfl, rfl⟩ (by decide +kernel) ⟨Nat.le_of_ble_eq_true rfl, Nat.le_of_ble_eq_true rfl⟩ (by assumption) ⟨rfl, rfl⟩ rfl rfl (Nat.le_of_ble_eq_true rfl) ⟨Nat.zero_le _, Nat.zero_le _⟩ (kI (fun z2 v2 h2 => ?_))
  obtain ⟨p0, rfl, hp0, rfl⟩ := h2
  have hp1 := hp0.1
  refine j_istore_n X dX0_removeEarliest_5 rfl (Nat.le_of_ble_eq_true rfl) ?_
  refine j_aload_n X dX0_removeEarliest_6 rfl ?_
  refine j_iload_n X dX0_removeEarliest_7 rfl ?_
  refine j_iload_n X dX0_removeEarliest_8 rfl ?_
  refine j_iconst X dX0_removeEarliest_9 ?_
  refine j_iadd X dX0_removeEarliest_10 ?_
  refine j_aload_n X dX0_removeEarliest_11 rfl ?_
  refine j_iload_n X dX0_removeEarliest_12 rfl ?_
  refine j_iload_n X dX0_removeEarliest_13 rfl ?_
  refine j_callV (nn := 2) X dX0_removeEarliest_14 (c_X0_end l D nH sk v b n p0 L hb hL hn hp1) gX0_removeEarliest_X0_end rfl ⟨rfl, rfl⟩ (by decide +kernel) ⟨Nat.le_of_ble_eq_true rfl, Nat.le_of_ble_eq_true rfl⟩ (by assumption) ⟨rfl, rfl⟩ rfl rfl (Nat.le_of_ble_eq_true rfl) ⟨Nat.zero_le _, Nat.zero_le _⟩ (kI (fun z14 v14 h14 => ?_))
  obtain ⟨q0, rfl, hq1, hq2, hq3, hq4, rfl⟩ := h14
  have hrg := isRg_of hL.2.2.2.1 hp0 hq1 hq2 hq3 hq4
  refine j_min X dX0_removeEarliest_17 ⟨by decide +kernel, by decide +kernel, by decide +kernel, by decide +kernel⟩ (by omega) (Nat.le_of_ble_eq_true rfl) (Nat.le_of_ble_eq_true rfl) ⟨Nat.zero_le _, Nat.zero_le _⟩ (fun z17 hz17a hz17b => ?_)
  obtain ⟨r0, hr0⟩ : ∃ r0 : Nat, z17 = (r0 : Int) := ⟨z17.toNat, by omega⟩
  subst hr0
  refine j_callV (nn := 2) X dX0_removeEarliest_20 (c_X0_removeRange l D nH sk v b p0 r0 L hb hL (by omega) (by omega)) gX0_removeEarliest_X0_removeRange rfl ⟨rfl, rfl⟩ (by decide +kernel) ⟨Nat.le_of_ble_eq_true rfl, Nat.le_of_ble_eq_true rfl⟩ (by assumption) ⟨rfl, rfl⟩ rfl rfl (Nat.le_of_ble_eq_true rfl) ⟨Nat.zero_le _, Nat.zero_le _⟩ (kV (fun v20 h20 => ?_))
  have hre := rg_remE hl3 hrg
  have hret : BA v20 b (remE L n) ∧ fr v v20 b := by
    rw [hre]
    by_cases hpq : p0 < q0
    · rw [if_pos hpq]; rw [show r0 = p0 + 1 by omega] at h20; exact h20
    · rw [if_neg hpq]; rw [show r0 = p0 by omega, List.take_append_drop] at h20; exact h20
  exact j_vret X dX0_removeEarliest_23 ⟨rfl, rfl, hret⟩
def rmX0_holds : Room := { frames := 1, cells := 0, slots := 0, locals := 22 }
set_option maxHeartbeats 4000000 in
set_option maxRecDepth 100000 in
theorem c_X0_holds (l : Launch) (D : va_G) (nH : Nat) (sk : Sk) (v : Mem) (b n i : Nat) (L : List Nat) (hb : Bd D sk b) (hL : BA v b L) (hn : n * 16 + i < 1600) : CtI l D yX0_holds wsX0_holds rmX0_holds [.ref b, .int (I n), .int (I i)] nH sk v (fun z v' => (z = 0 ∨ z = 1) ∧ (z = 1 ↔ n * 16 + i ∈ L) ∧ v = v') := by
  refine ct_of (cc := cX0_holds) (maxL := 5) (ret := (some .boolean)) rfl rfl (Nat.le_of_ble_eq_true rfl) ?_
  intro p_ e_ s_ m_ args_ below_ meth_ c_ X hmn hsz
  have hinX0 : ∀ w ∈ wsX00, w ∈ wsX0_holds := by decide +kernel
  obtain ⟨hb0, hb1⟩ := id hb
  obtain ⟨hl0, hl1, hl2, hl3, hl4⟩ := id hL
  refine j_iload_n X dX0_holds_0 rfl ?_
  refine j_iload_n X dX0_holds_1 rfl ?_
  refine j_callS (nn := 2) X dX0_holds_2 (c_X0_leafWith l D nH sk v n i) gX0_holds_X0_leafWith rfl ⟨rfl, rfl⟩ (by decide +kernel) ⟨Nat.le_of_ble_eq_true rfl, Nat.le_of_ble_eq_true rfl⟩ rfl rfl (Nat.le_of_ble_eq_true rfl) ⟨Nat.zero_le _, Nat.zero_le _⟩ (kI (fun z2 v2 h2 => ?_))
  obtain ⟨rfl, rfl⟩ := h2
  rw [show (n : Int) * 16 + (i : Int) = ((n * 16 + i : Nat) : Int) by omega]
  generalize hx : n * 16 + i = x at hn ⊢
  refine j_istore_n X dX0_holds_5 rfl (Nat.le_of_ble_eq_true rfl) ?_
  refine j_aload_n X dX0_holds_6 rfl ?_
  refine j_iload_n X dX0_holds_7 rfl ?_
  refine j_callV (nn := 1) X dX0_holds_8 (c_X0_placeOf l D nH sk v b _ L hb hL (by omega)) gX0_holds_X0_placeOf rfl ⟨rfl, rfl⟩ (by decide +kernel) ⟨Nat.le_of_ble_eq_true rfl, Nat.le_of_ble_eq_true rfl⟩ (by assumption) ⟨rfl, rfl⟩ rfl rfl (Nat.le_of_ble_eq_true rfl) ⟨Nat.zero_le _, Nat.zero_le _⟩ (kI (fun z8 v8 h8 => ?_))
  obtain ⟨q, rfl, hq, rfl⟩ := h8
  have hq0 := hq.1
  have hme := pl_mem hl3 hq
  refine j_istore X dX0_holds_11 rfl (Nat.le_of_ble_eq_true rfl) ?_
  refine j_iload X dX0_holds_13 rfl ?_
  refine j_aload_n X dX0_holds_15 rfl ?_
  refine j_geti X dX0_holds_16 (T := TX0) (N := 2) (C := RX0) hinX0 rfl (by assumption) 1 (by decide) (by decide +kernel) rfl ?_
  refine j_icmp_ge (tgt := 37) X dX0_holds_19 (by omega) (by decide) (fun c19 => ?_) (fun c19 => ?_)
  · refine j_iconst X dX0_holds_37 ?_
    first
      | have hret : ((1 : Int) = 0 ∨ (1 : Int) = 1) ∧ ((1 : Int) = 1 ↔ x ∈ L) ∧ v = v := ⟨Or.inr rfl, ⟨fun _ => hme.mpr ⟨hik, by omega⟩, fun _ => rfl⟩, rfl⟩
      | have hret : ((0 : Int) = 0 ∨ (0 : Int) = 1) ∧ ((0 : Int) = 1 ↔ x ∈ L) ∧ v = v := ⟨Or.inl rfl, ⟨fun h => absurd h (by omega), fun h => by obtain ⟨h1, h2⟩ := hme.mp h; simp only [Int.toNat_natCast] at c30; omega⟩, rfl⟩
      | have hret : ((0 : Int) = 0 ∨ (0 : Int) = 1) ∧ ((0 : Int) = 1 ↔ x ∈ L) ∧ v = v := ⟨Or.inl rfl, ⟨fun h => absurd h (by omega), fun h => by obtain ⟨h1, h2⟩ := hme.mp h; omega⟩, rfl⟩
    exact j_zret X dX0_holds_38 (by omega) ⟨_, rfl, rfl, hret⟩
  · refine j_aload_n X dX0_holds_22 rfl ?_
    refine j_getr X dX0_holds_23 (T := TX0) (N := 2) (C := RX0) hinX0 rfl (by assumption) 0 (by decide) (by decide +kernel) rfl ?_
    refine j_iload X dX0_holds_26 rfl ?_
    refine j_iald X dX0_holds_28 (by assumption) (by omega) (by decide) ?_
    refine j_iload_n X dX0_holds_29 rfl ?_
    obtain ⟨hik, hir⟩ := hl2.at (show (0 : Int) ≤ (q : Int) by omega) (by omega)
    have hib := hL.lt hik
    simp only [Int.toNat_natCast] at hik hir hib ⊢
    refine j_icmp_ne (tgt := 37) X dX0_holds_30 (by omega) (by decide) (fun c30 => ?_) (fun c30 => ?_)
    · refine j_iconst X dX0_holds_37 ?_
      first
        | have hret : ((1 : Int) = 0 ∨ (1 : Int) = 1) ∧ ((1 : Int) = 1 ↔ x ∈ L) ∧ v = v := ⟨Or.inr rfl, ⟨fun _ => hme.mpr ⟨hik, by omega⟩, fun _ => rfl⟩, rfl⟩
        | have hret : ((0 : Int) = 0 ∨ (0 : Int) = 1) ∧ ((0 : Int) = 1 ↔ x ∈ L) ∧ v = v := ⟨Or.inl rfl, ⟨fun h => absurd h (by omega), fun h => by obtain ⟨h1, h2⟩ := hme.mp h; simp only [Int.toNat_natCast] at c30; omega⟩, rfl⟩
        | have hret : ((0 : Int) = 0 ∨ (0 : Int) = 1) ∧ ((0 : Int) = 1 ↔ x ∈ L) ∧ v = v := ⟨Or.inl rfl, ⟨fun h => absurd h (by omega), fun h => by obtain ⟨h1, h2⟩ := hme.mp h; omega⟩, rfl⟩
      exact j_zret X dX0_holds_38 (by omega) ⟨_, rfl, rfl, hret⟩
    · refine j_iconst X dX0_holds_33 ?_
      refine j_goto (tgt := 38) X dX0_holds_34 (by decide) ?_
      first
        | have hret : ((1 : Int) = 0 ∨ (1 : Int) = 1) ∧ ((1 : Int) = 1 ↔ x ∈ L) ∧ v = v := ⟨Or.inr rfl, ⟨fun _ => hme.mpr ⟨hik, by omega⟩, fun _ => rfl⟩, rfl⟩
        | have hret : ((0 : Int) = 0 ∨ (0 : Int) = 1) ∧ ((0 : Int) = 1 ↔ x ∈ L) ∧ v = v := ⟨Or.inl rfl, ⟨fun h => absurd h (by omega), fun h => by obtain ⟨h1, h2⟩ := hme.mp h; simp only [Int.toNat_natCast] at c30; omega⟩, rfl⟩
        | have hret : ((0 : Int) = 0 ∨ (0 : Int) = 1) ∧ ((0 : Int) = 1 ↔ x ∈ L) ∧ v = v := ⟨Or.inl rfl, ⟨fun h => absurd h (by omega), fun h => by obtain ⟨h1, h2⟩ := hme.mp h; omega⟩, rfl⟩
      exact j_zret X dX0_holds_38 (by omega) ⟨_, rfl, rfl, hret⟩
def rmX0_remove : Room := { frames := 2, cells := 0, slots := 0, locals := 48 }
set_option maxHeartbeats 4000000 in
set_option maxRecDepth 100000 in
theorem c_X0_remove (l : Launch) (D : va_G) (nH : Nat) (sk : Sk) (v : Mem) (b n i : Nat) (L : List Nat) (hb : Bd D sk b) (hL : BA v b L) (hn : n * 16 + i < 1600) : CtV l D yX0_remove wsX0_remove rmX0_remove [.ref b, .int (I n), .int (I i)] nH sk v (fun v' => BA v' b (L.erase (n * 16 + i)) ∧ fr v v' b) := by
  refine ct_of (cc := cX0_remove) (maxL := 4) (ret := none) rfl rfl (Nat.le_of_ble_eq_true rfl) ?_
  intro p_ e_ s_ m_ args_ below_ meth_ c_ X hmn hsz
  obtain ⟨hb0, hb1⟩ := id hb
  obtain ⟨hl0, hl1, hl2, hl3, hl4⟩ := id hL
  refine j_aload_n X dX0_remove_0 rfl ?_
  refine j_iload_n X dX0_remove_1 rfl ?_
  refine j_iload_n X dX0_remove_2 rfl ?_
  refine j_callV (nn := 2) X dX0_remove_3 (c_X0_holds l D nH sk v b n i L hb hL hn) gX0_remove_X0_holds rfl ⟨rfl, rfl⟩ (by decide +kernel) ⟨Nat.le_of_ble_eq_true rfl, Nat.le_of_ble_eq_true rfl⟩ (by assumption) ⟨rfl, rfl⟩ rfl rfl (Nat.le_of_ble_eq_true rfl) ⟨Nat.zero_le _, Nat.zero_le _⟩ (kI (fun z3 v3 h3 => ?_))
  obtain ⟨hz0, hz1, rfl⟩ := h3
  refine j_if_eq (tgt := 27) X dX0_remove_6 (by omega) (by decide) (fun c6 => ?_) (fun c6 => ?_)
  · first
      | have hret := h24
      | have hret : BA v b (L.erase (n * 16 + i)) ∧ fr v v b := ⟨by rw [List.erase_of_not_mem (fun h => by have := hz1.mpr h; omega)]; exact hL, fr.refl _ _⟩
    exact j_vret X dX0_remove_27 ⟨rfl, rfl, hret⟩
  · refine j_aload_n X dX0_remove_9 rfl ?_
    refine j_iload_n X dX0_remove_10 rfl ?_
    refine j_iload_n X dX0_remove_11 rfl ?_
    refine j_callS (nn := 2) X dX0_remove_12 (c_X0_leafWith l D nH sk v n i) gX0_remove_X0_leafWith rfl ⟨rfl, rfl⟩ (by decide +kernel) ⟨Nat.le_of_ble_eq_true rfl, Nat.le_of_ble_eq_true rfl⟩ rfl rfl (Nat.le_of_ble_eq_true rfl) ⟨Nat.zero_le _, Nat.zero_le _⟩ (kI (fun z12 v12 h12 => ?_))
    obtain ⟨rfl, rfl⟩ := h12
    rw [show (n : Int) * 16 + (i : Int) = ((n * 16 + i : Nat) : Int) by omega]
    generalize hx : n * 16 + i = x at hn hz1 ⊢
    refine j_callV (nn := 1) X dX0_remove_15 (c_X0_placeOf l D nH sk v b _ L hb hL (by omega)) gX0_remove_X0_placeOf rfl ⟨rfl, rfl⟩ (by decide +kernel) ⟨Nat.le_of_ble_eq_true rfl, Nat.le_of_ble_eq_true rfl⟩ (by assumption) ⟨rfl, rfl⟩ rfl rfl (Nat.le_of_ble_eq_true rfl) ⟨Nat.zero_le _, Nat.zero_le _⟩ (kI (fun z15 v15 h15 => ?_))
    obtain ⟨q, rfl, hq, rfl⟩ := h15
    have hq0 := hq.1
    obtain ⟨hq1, hq2⟩ := (pl_mem hl3 hq).mp (hz1.mp (by omega))
    refine j_istore_n X dX0_remove_18 rfl (Nat.le_of_ble_eq_true rfl) ?_
    refine j_aload_n X dX0_remove_19 rfl ?_
    refine j_iload_n X dX0_remove_20 rfl ?_
    refine j_iload_n X dX0_remove_21 rfl ?_
    refine j_iconst X dX0_remove_22 ?_
    refine j_iadd X dX0_remove_23 ?_
    rw [show (q : Int) + 1 = ((q + 1 : Nat) : Int) by omega]
    refine j_callV (nn := 2) X dX0_remove_24 (c_X0_removeRange l D nH sk v b q (q + 1) L hb hL (by omega) (by omega)) gX0_remove_X0_removeRange rfl ⟨rfl, rfl⟩ (by decide +kernel) ⟨Nat.le_of_ble_eq_true rfl, Nat.le_of_ble_eq_true rfl⟩ (by assumption) ⟨rfl, rfl⟩ rfl rfl (Nat.le_of_ble_eq_true rfl) ⟨Nat.zero_le _, Nat.zero_le _⟩ (kV (fun v24 h24 => ?_))
    rw [erase_at hq1 hq2 (fun k hk hkq z => by have := hq.2.1 k hk hkq; omega)] at h24
    first
      | have hret := h24
      | have hret : BA v b (L.erase (n * 16 + i)) ∧ fr v v b := ⟨by rw [List.erase_of_not_mem (fun h => by have := hz1.mpr h; omega)]; exact hL, fr.refl _ _⟩
    exact j_vret X dX0_remove_27 ⟨rfl, rfl, hret⟩
def rmX0_held : Room := { frames := 2, cells := 0, slots := 0, locals := 43 }
set_option maxHeartbeats 4000000 in
set_option maxRecDepth 100000 in
theorem c_X0_held (l : Launch) (D : va_G) (nH : Nat) (sk : Sk) (v : Mem) (b n : Nat) (L : List Nat) (hb : Bd D sk b) (hL : BA v b L) (hn : n ≤ 100) : CtI l D yX0_held wsX0_held rmX0_held [.ref b, .int (I n)] nH sk v (fun z v' => z = (cntN L n : Int) ∧ v = v') := by
  refine ct_of (cc := cX0_held) (maxL := 3) (ret := (some .int)) rfl rfl (Nat.le_of_ble_eq_true rfl) ?_
  intro p_ e_ s_ m_ args_ below_ meth_ c_ X hmn hsz
  obtain ⟨hb0, hb1⟩ := id hb
  obtain ⟨hl0, hl1, hl2, hl3, hl4⟩ := id hL
  refine j_aload_n X dX0_held_0 rfl ?_
  refine j_iload_n X dX0_held_1 rfl ?_
  refine j_callV (nn := 1) X dX0_held_2 (c_X0_start l D nH sk v b n L hb hL hn) gX0_held_X0_start rfl ⟨rfl, rfl⟩ (by decide +kernel) ⟨Nat.le_of_ble_eq_true rfl, Nat.le_of_ble_eq_true rfl⟩ (by assumption) ⟨rfl, rfl⟩ rfl rfl (Nat.le_of_ble_eq_true rfl) ⟨Nat.zero_le _, Nat.zero_le _⟩ (kI (fun z2 v2 h2 => ?_))
  obtain ⟨p0, rfl, hp0, rfl⟩ := h2
  have hp1 := hp0.1
  refine j_istore_n X dX0_held_5 rfl (Nat.le_of_ble_eq_true rfl) ?_
  refine j_aload_n X dX0_held_6 rfl ?_
  refine j_iload_n X dX0_held_7 rfl ?_
  refine j_iload_n X dX0_held_8 rfl ?_
  refine j_callV (nn := 2) X dX0_held_9 (c_X0_end l D nH sk v b n p0 L hb hL hn hp1) gX0_held_X0_end rfl ⟨rfl, rfl⟩ (by decide +kernel) ⟨Nat.le_of_ble_eq_true rfl, Nat.le_of_ble_eq_true rfl⟩ (by assumption) ⟨rfl, rfl⟩ rfl rfl (Nat.le_of_ble_eq_true rfl) ⟨Nat.zero_le _, Nat.zero_le _⟩ (kI (fun z9 v9 h9 => ?_))
  obtain ⟨q0, rfl, hq1, hq2, hq3, hq4, rfl⟩ := h9
  have hrg := isRg_of hL.2.2.2.1 hp0 hq1 hq2 hq3 hq4
  refine j_iload_n X dX0_held_12 rfl ?_
  refine j_isub X dX0_held_13 ?_
  exact j_iret X dX0_held_14 ⟨_, rfl, rfl, ⟨by rw [rg_cnt hrg]; omega, rfl⟩⟩
def rmX0_earliestIssue : Room := { frames := 2, cells := 0, slots := 0, locals := 43 }
set_option maxHeartbeats 4000000 in
set_option maxRecDepth 100000 in
theorem c_X0_earliestIssue (l : Launch) (D : va_G) (nH : Nat) (sk : Sk) (v : Mem) (b n : Nat) (L : List Nat) (hb : Bd D sk b) (hL : BA v b L) (hn : n ≤ 100) : CtI l D yX0_earliestIssue wsX0_earliestIssue rmX0_earliestIssue [.ref b, .int (I n)] nH sk v (fun z v' => isE L n z ∧ v = v') := by
  refine ct_of (cc := cX0_earliestIssue) (maxL := 3) (ret := (some .int)) rfl rfl (Nat.le_of_ble_eq_true rfl) ?_
  intro p_ e_ s_ m_ args_ below_ meth_ c_ X hmn hsz
  have hinX0 : ∀ w ∈ wsX00, w ∈ wsX0_earliestIssue := by decide +kernel
  obtain ⟨hb0, hb1⟩ := id hb
  obtain ⟨hl0, hl1, hl2, hl3, hl4⟩ := id hL
  refine j_aload_n X dX0_earliestIssue_0 rfl ?_
  refine j_iload_n X dX0_earliestIssue_1 rfl ?_
  refine j_callV (nn := 1) X dX0_earliestIssue_2 (c_X0_start l D nH sk v b n L hb hL hn) gX0_earliestIssue_X0_start rfl ⟨rfl, rfl⟩ (by decide +kernel) ⟨Nat.le_of_ble_eq_true rfl, Nat.le_of_ble_eq_true rfl⟩ (by assumption) ⟨rfl, rfl⟩ rfl rfl (Nat.le_of_ble_eq_true rfl) ⟨Nat.zero_le _, Nat.zero_le _⟩ (kI (fun z2 v2 h2 => ?_))
  obtain ⟨p0, rfl, hp0, rfl⟩ := h2
  have hp1 := hp0.1
  refine j_istore_n X dX0_earliestIssue_5 rfl (Nat.le_of_ble_eq_true rfl) ?_
  refine j_aload_n X dX0_earliestIssue_6 rfl ?_
  refine j_iload_n X dX0_earliestIssue_7 rfl ?_
  refine j_iload_n X dX0_earliestIssue_8 rfl ?_
  refine j_callV (nn := 2) X dX0_earliestIssue_9 (c_X0_end l D nH sk v b n p0 L hb hL hn hp1) gX0_earliestIssue_X0_end rfl ⟨rfl, rfl⟩ (by decide +kernel) ⟨Nat.le_of_ble_eq_true rfl, Nat.le_of_ble_eq_true rfl⟩ (by assumption) ⟨rfl, rfl⟩ rfl rfl (Nat.le_of_ble_eq_true rfl) ⟨Nat.zero_le _, Nat.zero_le _⟩ (kI (fun z9 v9 h9 => ?_))
  obtain ⟨q0, rfl, hq1, hq2, hq3, hq4, rfl⟩ := h9
  have hrg := isRg_of hL.2.2.2.1 hp0 hq1 hq2 hq3 hq4
  refine j_iload_n X dX0_earliestIssue_12 rfl ?_
  refine j_icmp_le (tgt := 28) X dX0_earliestIssue_13 (by omega) (by decide) (fun c13 => ?_) (fun c13 => ?_)
  · refine j_bipush X dX0_earliestIssue_28 (by decide) ?_
    first
      | have hret : isE L n (((L[p0]'hik : Nat) : Int) % 16) ∧ v = v := ⟨(rg_isE hl3 hrg).1 hik (by omega), rfl⟩
      | have hret : isE L n (-6) ∧ v = v := ⟨(rg_isE hl3 hrg).2 (by omega), rfl⟩
    exact j_iret X dX0_earliestIssue_30 ⟨_, rfl, rfl, hret⟩
  · refine j_aload_n X dX0_earliestIssue_16 rfl ?_
    refine j_getr X dX0_earliestIssue_17 (T := TX0) (N := 2) (C := RX0) hinX0 rfl (by assumption) 0 (by decide) (by decide +kernel) rfl ?_
    refine j_iload_n X dX0_earliestIssue_20 rfl ?_
    refine j_iald X dX0_earliestIssue_21 (by assumption) (by omega) (by decide) ?_
    obtain ⟨hik, hir⟩ := hl2.at (show (0 : Int) ≤ (p0 : Int) by omega) (by omega)
    have hib := hL.lt hik
    simp only [Int.toNat_natCast] at hik hir hib ⊢
    refine j_callS (nn := 1) X dX0_earliestIssue_22 (c_X0_issueOf l D nH sk v _ (by omega)) gX0_earliestIssue_X0_issueOf rfl ⟨rfl, rfl⟩ (by decide +kernel) ⟨Nat.le_of_ble_eq_true rfl, Nat.le_of_ble_eq_true rfl⟩ rfl rfl (Nat.le_of_ble_eq_true rfl) ⟨Nat.zero_le _, Nat.zero_le _⟩ (kI (fun z22 v22 h22 => ?_))
    obtain ⟨rfl, rfl⟩ := h22
    rw [hir]
    refine j_goto (tgt := 30) X dX0_earliestIssue_25 (by decide) ?_
    first
      | have hret : isE L n (((L[p0]'hik : Nat) : Int) % 16) ∧ v = v := ⟨(rg_isE hl3 hrg).1 hik (by omega), rfl⟩
      | have hret : isE L n (-6) ∧ v = v := ⟨(rg_isE hl3 hrg).2 (by omega), rfl⟩
    exact j_iret X dX0_earliestIssue_30 ⟨_, rfl, rfl, hret⟩
def rmX0_latestIssue : Room := { frames := 2, cells := 0, slots := 0, locals := 43 }
set_option maxHeartbeats 4000000 in
set_option maxRecDepth 100000 in
theorem c_X0_latestIssue (l : Launch) (D : va_G) (nH : Nat) (sk : Sk) (v : Mem) (b n : Nat) (L : List Nat) (hb : Bd D sk b) (hL : BA v b L) (hn : n ≤ 100) : CtI l D yX0_latestIssue wsX0_latestIssue rmX0_latestIssue [.ref b, .int (I n)] nH sk v (fun z v' => isLt L n z ∧ v = v') := by
  refine ct_of (cc := cX0_latestIssue) (maxL := 4) (ret := (some .int)) rfl rfl (Nat.le_of_ble_eq_true rfl) ?_
  intro p_ e_ s_ m_ args_ below_ meth_ c_ X hmn hsz
  have hinX0 : ∀ w ∈ wsX00, w ∈ wsX0_latestIssue := by decide +kernel
  obtain ⟨hb0, hb1⟩ := id hb
  obtain ⟨hl0, hl1, hl2, hl3, hl4⟩ := id hL
  refine j_aload_n X dX0_latestIssue_0 rfl ?_
  refine j_iload_n X dX0_latestIssue_1 rfl ?_
  refine j_callV (nn := 1) X dX0_latestIssue_2 (c_X0_start l D nH sk v b n L hb hL hn) gX0_latestIssue_X0_start rfl ⟨rfl, rfl⟩ (by decide +kernel) ⟨Nat.le_of_ble_eq_true rfl, Nat.le_of_ble_eq_true rfl⟩ (by assumption) ⟨rfl, rfl⟩ rfl rfl (Nat.le_of_ble_eq_true rfl) ⟨Nat.zero_le _, Nat.zero_le _⟩ (kI (fun z2 v2 h2 => ?_))
  obtain ⟨p0, rfl, hp0, rfl⟩ := h2
  have hp1 := hp0.1
  refine j_istore_n X dX0_latestIssue_5 rfl (Nat.le_of_ble_eq_true rfl) ?_
  refine j_aload_n X dX0_latestIssue_6 rfl ?_
  refine j_iload_n X dX0_latestIssue_7 rfl ?_
  refine j_iload_n X dX0_latestIssue_8 rfl ?_
  refine j_callV (nn := 2) X dX0_latestIssue_9 (c_X0_end l D nH sk v b n p0 L hb hL hn hp1) gX0_latestIssue_X0_end rfl ⟨rfl, rfl⟩ (by decide +kernel) ⟨Nat.le_of_ble_eq_true rfl, Nat.le_of_ble_eq_true rfl⟩ (by assumption) ⟨rfl, rfl⟩ rfl rfl (Nat.le_of_ble_eq_true rfl) ⟨Nat.zero_le _, Nat.zero_le _⟩ (kI (fun z9 v9 h9 => ?_))
  obtain ⟨q0, rfl, hq1, hq2, hq3, hq4, rfl⟩ := h9
  have hrg := isRg_of hL.2.2.2.1 hp0 hq1 hq2 hq3 hq4
  refine j_istore_n X dX0_latestIssue_12 rfl (Nat.le_of_ble_eq_true rfl) ?_
  refine j_iload_n X dX0_latestIssue_13 rfl ?_
  refine j_iload_n X dX0_latestIssue_14 rfl ?_
  refine j_icmp_le (tgt := 32) X dX0_latestIssue_15 (by omega) (by decide) (fun c15 => ?_) (fun c15 => ?_)
  · refine j_bipush X dX0_latestIssue_32 (by decide) ?_
    first
      | have hret : isLt L n (((L[q0 - 1]'hik : Nat) : Int) % 16) ∧ v = v := ⟨(rg_isLt hl3 hrg).1 hik (by omega), rfl⟩
      | have hret : isLt L n (-6) ∧ v = v := ⟨(rg_isLt hl3 hrg).2 (by omega), rfl⟩
    exact j_iret X dX0_latestIssue_34 ⟨_, rfl, rfl, hret⟩
  · refine j_aload_n X dX0_latestIssue_18 rfl ?_
    refine j_getr X dX0_latestIssue_19 (T := TX0) (N := 2) (C := RX0) hinX0 rfl (by assumption) 0 (by decide) (by decide +kernel) rfl ?_
    refine j_iload_n X dX0_latestIssue_22 rfl ?_
    refine j_iconst X dX0_latestIssue_23 ?_
    refine j_isub X dX0_latestIssue_24 ?_
    refine j_iald X dX0_latestIssue_25 (by assumption) (by omega) (by decide) ?_
    obtain ⟨hik, hir⟩ := hl2.at (show (0 : Int) ≤ (q0 : Int) - 1 by omega) (by omega)
    have hib := hL.lt hik
    simp only [show ((q0 : Int) - 1).toNat = q0 - 1 by omega] at hik hir hib ⊢
    refine j_callS (nn := 1) X dX0_latestIssue_26 (c_X0_issueOf l D nH sk v _ (by omega)) gX0_latestIssue_X0_issueOf rfl ⟨rfl, rfl⟩ (by decide +kernel) ⟨Nat.le_of_ble_eq_true rfl, Nat.le_of_ble_eq_true rfl⟩ rfl rfl (Nat.le_of_ble_eq_true rfl) ⟨Nat.zero_le _, Nat.zero_le _⟩ (kI (fun z26 v26 h26 => ?_))
    obtain ⟨rfl, rfl⟩ := h26
    rw [hir]
    refine j_goto (tgt := 34) X dX0_latestIssue_29 (by decide) ?_
    first
      | have hret : isLt L n (((L[q0 - 1]'hik : Nat) : Int) % 16) ∧ v = v := ⟨(rg_isLt hl3 hrg).1 hik (by omega), rfl⟩
      | have hret : isLt L n (-6) ∧ v = v := ⟨(rg_isLt hl3 hrg).2 (by omega), rfl⟩
    exact j_iret X dX0_latestIssue_34 ⟨_, rfl, rfl, hret⟩
