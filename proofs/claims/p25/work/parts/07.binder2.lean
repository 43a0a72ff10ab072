/-! ===== how a binder differs ===== -/
theorem isE.bd {L : List Nat} {n : Nat} {z : Int} (h : isE L n z) : -6 ≤ z ∧ z ≤ 15 := by
  rcases h with h | ⟨x, h1, h2, h3, h4⟩ <;> omega
theorem isLt.bd {L : List Nat} {n : Nat} {z : Int} (h : isLt L n z) : -6 ≤ z ∧ z ≤ 15 := by
  rcases h with h | ⟨x, h1, h2, h3, h4⟩ <;> omega
theorem isE.uniq {L : List Nat} {n : Nat} {z w : Int} (h : isE L n z) (g : isE L n w) : z = w := by
  rcases h with h | ⟨x, h1, h2, h3, h4⟩ <;> rcases g with g | ⟨y, g1, g2, g3, g4⟩
  · omega
  · exact absurd g2 (h.2 y g1)
  · exact absurd h2 (g.2 x h1)
  · have := h4 y g1 g2
    have := g4 x h1 h2
    omega
theorem isLt.uniq {L : List Nat} {n : Nat} {z w : Int} (h : isLt L n z) (g : isLt L n w) : z = w := by
  rcases h with h | ⟨x, h1, h2, h3, h4⟩ <;> rcases g with g | ⟨y, g1, g2, g3, g4⟩
  · omega
  · exact absurd g2 (h.2 y g1)
  · exact absurd h2 (g.2 x h1)
  · have := h4 y g1 g2
    have := g4 x h1 h2
    omega
theorem cntN_le (L : List Nat) (n : Nat) : cntN L n ≤ L.length := List.countP_le_length
theorem dif_no {L T : List Nat} {n : Nat} (k : Int) (h : ∀ x ∈ T, x / 16 ≠ n) : dif L T n k = if k = 3 then cntN L n else 0 := by
  unfold dif surp oldN misN
  rw [hasN_no h]
  simp
theorem dif_0 {L T : List Nat} {n x : Nat} (k : Int) (hk : k = 3 ∨ k = 4 ∨ k = 5) (hx : x ∈ T) (hn : x / 16 = n) (h0 : cntN L n = 0) : dif L T n k = if k = 5 then 1 else 0 := by
  unfold dif surp oldN misN
  rw [hasN_of hx hn, h0]
  rcases hk with rfl | rfl | rfl <;> simp
theorem dif_s {L T : List Nat} {n x : Nat} (k : Int) (hu : unq T) (hk : k = 3 ∨ k = 4 ∨ k = 5) (hx : x ∈ T) (hn : x / 16 = n) (h0 : ¬ cntN L n = 0) : (k = 3 → dif L T n k = cntN L n - 1) ∧ (k = 5 → dif L T n k = 0) ∧ (k = 4 → x ∈ L → dif L T n k = 0) ∧ (k = 4 → x ∉ L → dif L T n k = 1) := by
  unfold dif surp oldN misN
  rw [hasN_of hx hn]
  refine ⟨?_, ?_, ?_, ?_⟩
  · rintro rfl; simp
  · rintro rfl; simp [h0]
  · rintro rfl h
    simp only [show ¬ (4 : Int) = 3 by omega, if_false, if_true]
    rw [if_neg]
    rintro ⟨-, -, h2⟩
    exact h2 x hx hn h
  · rintro rfl h
    simp only [show ¬ (4 : Int) = 3 by omega, if_false, if_true]
    rw [if_pos]
    refine ⟨by simp, h0, fun y hy hyn => ?_⟩
    rw [hu y hy x hx (by omega)]
    exact h
/-! ===== the pad ===== -/
def Pd (D : va_G) (sk : Sk) (b : Nat) : Prop := sk b = some (eO 2 [some (.ref (b + 1)), none]) ∧ sk (b + 1) = some (eA D 11 48)
def PA (v : Mem) (b : Nat) (P : List Nat) : Prop := v b 1 = (P.length : Int) ∧ P.length ≤ 48 ∧ AL (v (b + 1)) P ∧ ∀ x ∈ P, 33 ≤ x ∧ x ≤ 126
def stand (c i : Nat) : Prop := i < 39 ∧ ((i % 5 = 0 ∧ (c = 43 ∨ c = 45)) ∨ (i % 5 = 1 ∧ 49 ≤ c ∧ c ≤ 57) ∨ (i % 5 = 2 ∧ c = 46) ∨ (i % 5 = 3 ∧ 48 ≤ c ∧ c ≤ 57) ∨ (i % 5 = 4 ∧ c = 44))
def isF (P : List Nat) (z : Int) : Prop := (∃ (i : Nat) (h : i < P.length), ¬ stand (P[i]'h) i ∧ (∀ (j : Nat) (h : j < P.length), j < i → stand (P[j]'h) j) ∧ z = (i : Int)) ∨ ((∀ (j : Nat) (h : j < P.length), stand (P[j]'h) j) ∧ ((P.length % 5 = 4 ∧ z = -6) ∨ (P.length % 5 ≠ 4 ∧ z = (P.length : Int))))
theorem isF.uniq {P : List Nat} {z w : Int} (h : isF P z) (g : isF P w) : z = w := by
  rcases h with ⟨i, h1, h2, h3, h4⟩ | ⟨h1, h2⟩ <;> rcases g with ⟨j, g1, g2, g3, g4⟩ | ⟨g1, g2⟩
  · rcases Nat.lt_trichotomy i j with q | q | q
    · exact absurd (g3 i h1 q) h2
    · omega
    · exact absurd (h3 j g1 q) g2
  · exact absurd (g1 i h1) h2
  · exact absurd (h1 j g1) g2
  · omega
theorem isF.bd {P : List Nat} {z : Int} (h : isF P z) : -6 ≤ z ∧ z ≤ P.length := by
  rcases h with ⟨i, h1, h2, h3, h4⟩ | ⟨h1, h2⟩ <;> omega
/-- a pad that can be read has at most 39 characters -/
theorem isF.ok {P : List Nat} (h : isF P (-6)) : (∀ (j : Nat) (h : j < P.length), stand (P[j]'h) j) ∧ P.length % 5 = 4 ∧ P.length ≤ 39 := by
  rcases h with ⟨i, h1, h2, h3, h4⟩ | ⟨h1, h2⟩
  · omega
  · refine ⟨h1, by omega, ?_⟩
    rcases Nat.lt_or_ge 39 P.length with q | q
    · exact absurd (h1 39 q).1 (by omega)
    · exact q
/-- an order's number as the pad has it: from its place's four characters -/
def ordOf (a c d : Nat) : Nat := 10 * (c - 48) + (d - 48) + if a = 43 then 100 else 0
def ordAt (P : List Nat) (k : Nat) : Nat := ordOf (P.getD (5 * k) 0) (P.getD (5 * k + 1) 0) (P.getD (5 * k + 3) 0)
def ordsOf (P : List Nat) : List Nat := (List.range ((P.length + 1) / 5)).map (ordAt P)
/-- an order: a number from 10 to 99, and 100 if it is put in -/
def oko (x : Nat) : Prop := 10 ≤ x % 100 ∧ x < 200
theorem ordsOf_len (P : List Nat) : (ordsOf P).length = (P.length + 1) / 5 := by simp [ordsOf]
theorem ordsOf_get {P : List Nat} {k : Nat} (h : k < (ordsOf P).length) : (ordsOf P)[k] = ordAt P k := by simp [ordsOf]
theorem ord_facts {P : List Nat} (h : isF P (-6)) {k : Nat} (hk : k < (P.length + 1) / 5) : ∃ (h0 : 5 * k < P.length) (h1 : 5 * k + 1 < P.length) (h3 : 5 * k + 3 < P.length), (P[5 * k] = 43 ∨ P[5 * k] = 45) ∧ (49 ≤ P[5 * k + 1] ∧ P[5 * k + 1] ≤ 57) ∧ (48 ≤ P[5 * k + 3] ∧ P[5 * k + 3] ≤ 57) ∧ ordAt P k = ordOf P[5 * k] P[5 * k + 1] P[5 * k + 3] := by
  obtain ⟨hs, hm, hl⟩ := h.ok
  have h0 : 5 * k < P.length := by omega
  have h1 : 5 * k + 1 < P.length := by omega
  have h3 : 5 * k + 3 < P.length := by omega
  refine ⟨h0, h1, h3, ?_, ?_, ?_, ?_⟩
  · have := (hs _ h0).2
    omega
  · have := (hs _ h1).2
    omega
  · have := (hs _ h3).2
    omega
  · unfold ordAt
    rw [List.getD_eq_getElem?_getD, List.getD_eq_getElem?_getD, List.getD_eq_getElem?_getD, List.getElem?_eq_getElem h0, List.getElem?_eq_getElem h1, List.getElem?_eq_getElem h3]
    rfl
theorem ord_oko {P : List Nat} (h : isF P (-6)) {x : Nat} (hx : x ∈ ordsOf P) : oko x := by
  obtain ⟨k, hk, rfl⟩ := List.mem_map.mp hx
  obtain ⟨h0, h1, h3, g0, g1, g3, e⟩ := ord_facts h (List.mem_range.mp hk)
  rw [e]
  unfold oko ordOf
  split <;> omega
theorem ords_len8 {P : List Nat} (h : isF P (-6)) : 1 ≤ (ordsOf P).length ∧ (ordsOf P).length ≤ 8 := by
  obtain ⟨hs, hm, hl⟩ := h.ok
  rw [ordsOf_len]
  omega
def twice (O : List Nat) : Prop := ∃ (i j : Nat) (hi : i < O.length) (hj : j < O.length), j < i ∧ (O[i]'hi) % 100 = (O[j]'hj) % 100
/-- a number that is k characters, the last one lowest -/
def chOK (w k : Nat) : Prop := 0 < k ∧ k ≤ 8 ∧ (∀ j, j < k → 33 ≤ w / 256 ^ j % 256 ∧ w / 256 ^ j % 256 ≤ 126) ∧ w / 256 ^ k = 0
theorem chOK.uniq {w k j : Nat} (h : chOK w k) (g : chOK w j) : k = j := by
  have key : ∀ {k j : Nat}, chOK w k → chOK w j → ¬ k < j := by
    intro k j h g q
    have h1 := g.2.2.1 (j - 1) (by omega)
    have h2 : w / 256 ^ (j - 1) = 0 := by
      rw [show j - 1 = k + (j - 1 - k) by omega, Nat.pow_add, ← Nat.div_div_eq_div_mul, h.2.2.2, Nat.zero_div]
    rw [h2] at h1
    omega
  have h1 := key h g
  have h2 := key g h
  omega
def chs (w k : Nat) : List Nat := (List.range k).map (fun j => w / 256 ^ (k - 1 - j) % 256)
theorem chs_len (w k : Nat) : (chs w k).length = k := by simp [chs]
theorem chs_get {w k j : Nat} (h : j < (chs w k).length) : (chs w k)[j] = w / 256 ^ (k - 1 - j) % 256 := by simp [chs]
/-! ===== more contracts of Binder ===== -/
def rmX0_leavesOf : Room := { frames := 1, cells := 0, slots := 0, locals := 20 }
set_option maxHeartbeats 4000000 in
set_option maxRecDepth 100000 in
theorem c_X0_leavesOf (l : Launch) (D : va_G) (nH : Nat) (sk : Sk) (v : Mem) (b t : Nat) (L : List Nat) (hb : Bd D sk b) (hL : BA v b L) (ht : t < 16) : CtI l D yX0_leavesOf wsX0_leavesOf rmX0_leavesOf [.ref b, .int (I t)] nH sk v (fun z v' => z = (L.countP (fun x => x % 16 == t) : Int) ∧ v = v') := by
  refine ct_of (cc := cX0_leavesOf) (maxL := 4) (ret := (some .int)) rfl rfl (Nat.le_of_ble_eq_true rfl) ?_
  intro p_ e_ s_ m_ args_ below_ meth_ c_ X hmn hsz
  have hinX0 : ∀ w ∈ wsX00, w ∈ wsX0_leavesOf := by decide +kernel
  obtain ⟨hb0, hb1⟩ := id hb
  obtain ⟨hl0, hl1, hl2, hl3, hl4⟩ := id hL
  refine j_iconst X dX0_leavesOf_0 ?_
  refine j_istore_n X dX0_leavesOf_1 rfl (Nat.le_of_ble_eq_true rfl) ?_
  refine j_iconst X dX0_leavesOf_2 ?_
  refine j_istore_n X dX0_leavesOf_3 rfl (Nat.le_of_ble_eq_true rfl) ?_
  refine j_loop (σ := Int × Int) (fun (y_ : Int × Int) => match y_ with | (i, f) => 0 ≤ i ∧ i ≤ (L.length : Int) ∧ f = ((L.take i.toNat).countP (fun x => x % 16 == t) : Int)) (fun (y_ : Int × Int) => match y_ with | (i, f) => ((L.length : Int) - i).toNat) (fun (y_ : Int × Int) => match y_ with | (i, f) => (v, [some (.ref b), some (.int (I t)), some (.int (I f)), some (.int (I i))])) ?_ (0, 0) ⟨by omega, by omega, by simp⟩
  intro y_ hx ih4
  obtain ⟨i, f⟩ := y_
  dsimp only at hx ih4 ⊢
  obtain ⟨hi0, hi1, hi2⟩ := hx
  refine j_iload_n X dX0_leavesOf_4 rfl ?_
  refine j_aload_n X dX0_leavesOf_5 rfl ?_
  refine j_geti X dX0_leavesOf_6 (T := TX0) (N := 2) (C := RX0) hinX0 rfl (by assumption) 1 (by decide) (by decide +kernel) rfl ?_
  refine j_icmp_ge (tgt := 34) X dX0_leavesOf_9 (by omega) (by decide) (fun c9 => ?_) (fun c9 => ?_)
  · refine j_iload_n X dX0_leavesOf_34 rfl ?_
    exact j_iret X dX0_leavesOf_35 ⟨_, rfl, rfl, ⟨by rw [List.take_of_length_le (by omega)] at hi2; exact hi2, rfl⟩⟩
  · refine j_aload_n X dX0_leavesOf_12 rfl ?_
    refine j_getr X dX0_leavesOf_13 (T := TX0) (N := 2) (C := RX0) hinX0 rfl (by assumption) 0 (by decide) (by decide +kernel) rfl ?_
    refine j_iload_n X dX0_leavesOf_16 rfl ?_
    refine j_iald X dX0_leavesOf_17 (by assumption) (by omega) (by decide) ?_
    obtain ⟨hik, hir⟩ := hl2.at hi0 (by omega)
    have hib := hL.lt hik
    have hct := cnt_take (P := fun x => x % 16 == t) hik
    refine j_callS (nn := 1) X dX0_leavesOf_18 (c_X0_issueOf l D nH sk v _ (by omega)) gX0_leavesOf_X0_issueOf rfl ⟨rfl, rfl⟩ (by decide +kernel) ⟨Nat.le_of_ble_eq_true rfl, Nat.le_of_ble_eq_true rfl⟩ rfl rfl (Nat.le_of_ble_eq_true rfl) ⟨Nat.zero_le _, Nat.zero_le _⟩ (kI (fun z18 v18 h18 => ?_))
    obtain ⟨rfl, rfl⟩ := h18
    rw [hir]
    refine j_iload_n X dX0_leavesOf_21 rfl ?_
    refine j_icmp_ne (tgt := 28) X dX0_leavesOf_22 (by omega) (by decide) (fun c22 => ?_) (fun c22 => ?_)
    · refine j_iinc X dX0_leavesOf_28 rfl rfl (Nat.le_of_ble_eq_true rfl) ?_
      refine j_goto (tgt := 4) X dX0_leavesOf_31 (by decide) ?_
      exact ih4 (i + 1, _) (by (try dsimp only); exact ⟨by omega, by omega, by rw [show (i + 1).toNat = i.toNat + 1 by omega, hct]; by_cases hh : L[i.toNat] % 16 = t <;> simp [hh] <;> omega⟩) (by (try dsimp only); omega)
    · refine j_iinc X dX0_leavesOf_25 rfl rfl (Nat.le_of_ble_eq_true rfl) ?_
      refine j_iinc X dX0_leavesOf_28 rfl rfl (Nat.le_of_ble_eq_true rfl) ?_
      refine j_goto (tgt := 4) X dX0_leavesOf_31 (by decide) ?_
      exact ih4 (i + 1, _) (by (try dsimp only); exact ⟨by omega, by omega, by rw [show (i + 1).toNat = i.toNat + 1 by omega, hct]; by_cases hh : L[i.toNat] % 16 = t <;> simp [hh] <;> omega⟩) (by (try dsimp only); omega)
def rmX0_checkNumber : Room := { frames := 1, cells := 0, slots := 0, locals := 20 }
set_option maxHeartbeats 4000000 in
set_option maxRecDepth 100000 in
theorem c_X0_checkNumber (l : Launch) (D : va_G) (nH : Nat) (sk : Sk) (v : Mem) (b : Nat) (L : List Nat) (hb : Bd D sk b) (hL : BA v b L) : CtI l D yX0_checkNumber wsX0_checkNumber rmX0_checkNumber [.ref b] nH sk v (fun z v' => z = ((chk L % 997 : Nat) : Int) ∧ v = v') := by
  refine ct_of (cc := cX0_checkNumber) (maxL := 3) (ret := (some .int)) rfl rfl (Nat.le_of_ble_eq_true rfl) ?_
  intro p_ e_ s_ m_ args_ below_ meth_ c_ X hmn hsz
  have hinX0 : ∀ w ∈ wsX00, w ∈ wsX0_checkNumber := by decide +kernel
  obtain ⟨hb0, hb1⟩ := id hb
  obtain ⟨hl0, hl1, hl2, hl3, hl4⟩ := id hL
  have hck := chk_le hl4
  refine j_iconst X dX0_checkNumber_0 ?_
  refine j_istore_n X dX0_checkNumber_1 rfl (Nat.le_of_ble_eq_true rfl) ?_
  refine j_iconst X dX0_checkNumber_2 ?_
  refine j_istore_n X dX0_checkNumber_3 rfl (Nat.le_of_ble_eq_true rfl) ?_
  refine j_loop (σ := Int × Int) (fun (y_ : Int × Int) => match y_ with | (i, f) => 0 ≤ i ∧ i ≤ (L.length : Int) ∧ f = (chk (L.take i.toNat) : Int)) (fun (y_ : Int × Int) => match y_ with | (i, f) => ((L.length : Int) - i).toNat) (fun (y_ : Int × Int) => match y_ with | (i, f) => (v, [some (.ref b), some (.int (I f)), some (.int (I i))])) ?_ (0, 0) ⟨by omega, by omega, by simp [chk]⟩
  intro y_ hx ih4
  obtain ⟨i, f⟩ := y_
  dsimp only at hx ih4 ⊢
  obtain ⟨hi0, hi1, hi2⟩ := hx
  refine j_iload_n X dX0_checkNumber_4 rfl ?_
  refine j_aload_n X dX0_checkNumber_5 rfl ?_
  refine j_geti X dX0_checkNumber_6 (T := TX0) (N := 2) (C := RX0) hinX0 rfl (by assumption) 1 (by decide) (by decide +kernel) rfl ?_
  refine j_icmp_ge (tgt := 42) X dX0_checkNumber_9 (by omega) (by decide) (fun c9 => ?_) (fun c9 => ?_)
  · rw [List.take_of_length_le (by omega)] at hi2
    refine j_iload_n X dX0_checkNumber_42 rfl ?_
    refine j_sipush X dX0_checkNumber_43 (by decide) ?_
    refine j_irem X dX0_checkNumber_46 (by omega) (by omega) ?_
    exact j_iret X dX0_checkNumber_47 ⟨_, rfl, rfl, ⟨by rw [hi2]; rfl, rfl⟩⟩
  · refine j_iload_n X dX0_checkNumber_12 rfl ?_
    refine j_aload_n X dX0_checkNumber_13 rfl ?_
    refine j_getr X dX0_checkNumber_14 (T := TX0) (N := 2) (C := RX0) hinX0 rfl (by assumption) 0 (by decide) (by decide +kernel) rfl ?_
    refine j_iload_n X dX0_checkNumber_17 rfl ?_
    refine j_iald X dX0_checkNumber_18 (by assumption) (by omega) (by decide) ?_
    obtain ⟨hik, hir⟩ := hl2.at hi0 (by omega)
    have hib := hL.lt hik
    have hct := chk_take hik
    refine j_callS (nn := 1) X dX0_checkNumber_19 (c_X0_numberOf l D nH sk v _ (by omega)) gX0_checkNumber_X0_numberOf rfl ⟨rfl, rfl⟩ (by decide +kernel) ⟨Nat.le_of_ble_eq_true rfl, Nat.le_of_ble_eq_true rfl⟩ rfl rfl (Nat.le_of_ble_eq_true rfl) ⟨Nat.zero_le _, Nat.zero_le _⟩ (kI (fun z19 v19 h19 => ?_))
    obtain ⟨rfl, rfl⟩ := h19
    rw [hir]
    refine j_aload_n X dX0_checkNumber_22 rfl ?_
    refine j_getr X dX0_checkNumber_23 (T := TX0) (N := 2) (C := RX0) hinX0 rfl (by assumption) 0 (by decide) (by decide +kernel) rfl ?_
    refine j_iload_n X dX0_checkNumber_26 rfl ?_
    refine j_iald X dX0_checkNumber_27 (by assumption) (by omega) (by decide) ?_
    refine j_callS (nn := 1) X dX0_checkNumber_28 (c_X0_issueOf l D nH sk v _ (by omega)) gX0_checkNumber_X0_issueOf rfl ⟨rfl, rfl⟩ (by decide +kernel) ⟨Nat.le_of_ble_eq_true rfl, Nat.le_of_ble_eq_true rfl⟩ rfl rfl (Nat.le_of_ble_eq_true rfl) ⟨Nat.zero_le _, Nat.zero_le _⟩ (kI (fun z28 v28 h28 => ?_))
    obtain ⟨rfl, rfl⟩ := h28
    rw [hir]
    refine j_iconst X dX0_checkNumber_31 ?_
    refine j_iadd X dX0_checkNumber_32 ?_
    refine j_imul X dX0_checkNumber_33 ?_
    refine j_iadd X dX0_checkNumber_34 ?_
    refine j_istore_n X dX0_checkNumber_35 rfl (Nat.le_of_ble_eq_true rfl) ?_
    refine j_iinc X dX0_checkNumber_36 rfl rfl (Nat.le_of_ble_eq_true rfl) ?_
    refine j_goto (tgt := 4) X dX0_checkNumber_39 (by decide) ?_
    exact ih4 (i + 1, _) (by (try dsimp only); exact ⟨by omega, by omega, by rw [show (i + 1).toNat = i.toNat + 1 by omega, hct, hi2]; push_cast; rfl⟩) (by (try dsimp only); omega)
def rmX0_isSameAs : Room := { frames := 0, cells := 0, slots := 0, locals := 0 }
set_option maxHeartbeats 4000000 in
set_option maxRecDepth 100000 in
theorem c_X0_isSameAs (l : Launch) (D : va_G) (nH : Nat) (sk : Sk) (v : Mem) (b o : Nat) (L T : List Nat) (hb : Bd D sk b) (hL : BA v b L) (ho : Bd D sk o) (hT : BA v o T) : CtI l D yX0_isSameAs wsX0_isSameAs rmX0_isSameAs [.ref b, .ref o] nH sk v (fun z v' => (z = 0 ∨ z = 1) ∧ (z = 1 ↔ L = T) ∧ v = v') := by
  refine ct_of (cc := cX0_isSameAs) (maxL := 3) (ret := (some .boolean)) rfl rfl (Nat.le_of_ble_eq_true rfl) ?_
  intro p_ e_ s_ m_ args_ below_ meth_ c_ X hmn hsz
  have hinX0 : ∀ w ∈ wsX00, w ∈ wsX0_isSameAs := by decide +kernel
  obtain ⟨hb0, hb1⟩ := id hb
  obtain ⟨hl0, hl1, hl2, hl3, hl4⟩ := id hL
  obtain ⟨ho0, ho1⟩ := id ho
  obtain ⟨ht0, ht1, ht2, ht3, ht4⟩ := id hT
  refine j_aload_n X dX0_isSameAs_0 rfl ?_
  refine j_geti X dX0_isSameAs_1 (T := TX0) (N := 2) (C := RX0) hinX0 rfl (by assumption) 1 (by decide) (by decide +kernel) rfl ?_
  refine j_aload_n X dX0_isSameAs_4 rfl ?_
  refine j_geti X dX0_isSameAs_5 (T := TX0) (N := 2) (C := RX0) hinX0 rfl (by assumption) 1 (by decide) (by decide +kernel) rfl ?_
  refine j_icmp_eq (tgt := 13) X dX0_isSameAs_8 (by omega) (by decide) (fun c8 => ?_) (fun c8 => ?_)
  · refine j_iconst X dX0_isSameAs_13 ?_
    refine j_istore_n X dX0_isSameAs_14 rfl (Nat.le_of_ble_eq_true rfl) ?_
    refine j_loop (σ := Int) (fun (i : Int) => 0 ≤ i ∧ i ≤ (L.length : Int) ∧ ∀ (k : Nat) (h : k < L.length) (g : k < T.length), (k : Int) < i → L[k] = T[k]) (fun (i : Int) => ((L.length : Int) - i).toNat) (fun (i : Int) => (v, [some (.ref b), some (.ref o), some (.int (I i))])) ?_ 0 ⟨by omega, by omega, fun k _ _ h => absurd h (by omega)⟩
    intro i hx ih15
    dsimp only at hx ih15 ⊢
    obtain ⟨hi0, hi1, hi2⟩ := hx
    refine j_iload_n X dX0_isSameAs_15 rfl ?_
    refine j_aload_n X dX0_isSameAs_16 rfl ?_
    refine j_geti X dX0_isSameAs_17 (T := TX0) (N := 2) (C := RX0) hinX0 rfl (by assumption) 1 (by decide) (by decide +kernel) rfl ?_
    refine j_icmp_ge (tgt := 46) X dX0_isSameAs_20 (by omega) (by decide) (fun c20 => ?_) (fun c20 => ?_)
    · refine j_iconst X dX0_isSameAs_46 ?_
      exact j_zret X dX0_isSameAs_47 (by omega) ⟨_, rfl, rfl, ⟨Or.inr rfl, ⟨fun _ => List.ext_getElem (by omega) (fun k h g => hi2 k h g (by omega)), fun _ => rfl⟩, rfl⟩⟩
    · refine j_aload_n X dX0_isSameAs_23 rfl ?_
      refine j_getr X dX0_isSameAs_24 (T := TX0) (N := 2) (C := RX0) hinX0 rfl (by assumption) 0 (by decide) (by decide +kernel) rfl ?_
      refine j_iload_n X dX0_isSameAs_27 rfl ?_
      refine j_iald X dX0_isSameAs_28 (by assumption) (by omega) (by decide) ?_
      refine j_aload_n X dX0_isSameAs_29 rfl ?_
      refine j_getr X dX0_isSameAs_30 (T := TX0) (N := 2) (C := RX0) hinX0 rfl (by assumption) 0 (by decide) (by decide +kernel) rfl ?_
      refine j_iload_n X dX0_isSameAs_33 rfl ?_
      refine j_iald X dX0_isSameAs_34 (by assumption) (by omega) (by decide) ?_
      obtain ⟨hik, hir⟩ := hl2.at hi0 (by omega)
      have hib := hL.lt hik
      obtain ⟨hjk, hjr⟩ := ht2.at hi0 (by omega)
      have hjb := hT.lt hjk
      refine j_icmp_eq (tgt := 40) X dX0_isSameAs_35 (by omega) (by decide) (fun c35 => ?_) (fun c35 => ?_)
      · refine j_iinc X dX0_isSameAs_40 rfl rfl (Nat.le_of_ble_eq_true rfl) ?_
        refine j_goto (tgt := 15) X dX0_isSameAs_43 (by decide) ?_
        exact ih15 (i + 1) (by (try dsimp only); exact ⟨by omega, by omega, fun k h g hk => by rcases Int.lt_or_eq_of_le (show (k : Int) ≤ i by omega) with y | y; exact hi2 k h g y; have hki : k = i.toNat := (by omega); subst hki; omega⟩) (by (try dsimp only); omega)
      · refine j_iconst X dX0_isSameAs_38 ?_
        exact j_zret X dX0_isSameAs_39 (by omega) ⟨_, rfl, rfl, ⟨Or.inl rfl, ⟨fun h => absurd h (by omega), fun h => by subst h; omega⟩, rfl⟩⟩
  · refine j_iconst X dX0_isSameAs_11 ?_
    exact j_zret X dX0_isSameAs_12 (by omega) ⟨_, rfl, rfl, ⟨Or.inl rfl, ⟨fun h => absurd h (by omega), fun h => by subst h; omega⟩, rfl⟩⟩
def rmX0_difference : Room := { frames := 3, cells := 0, slots := 0, locals := 65 }
set_option maxHeartbeats 4000000 in
set_option maxRecDepth 100000 in
theorem c_X0_difference (l : Launch) (D : va_G) (nH : Nat) (sk : Sk) (v : Mem) (b o n : Nat) (k : Int) (L T : List Nat) (hb : Bd D sk b) (hL : BA v b L) (ho : Bd D sk o) (hT : BA v o T) (hu : unq T) (hn : n ≤ 99) (hk : k = 3 ∨ k = 4 ∨ k = 5) : CtI l D yX0_difference wsX0_difference rmX0_difference [.ref b, .ref o, .int (I n), .int (I k)] nH sk v (fun z v' => z = (dif L T n k : Int) ∧ v = v') := by
  refine ct_of (cc := cX0_difference) (maxL := 6) (ret := (some .int)) rfl rfl (Nat.le_of_ble_eq_true rfl) ?_
  intro p_ e_ s_ m_ args_ below_ meth_ c_ X hmn hsz
  obtain ⟨hb0, hb1⟩ := id hb
  obtain ⟨hl0, hl1, hl2, hl3, hl4⟩ := id hL
  obtain ⟨ho0, ho1⟩ := id ho
  have hcn := cntN_le L n
  refine j_aload_n X dX0_difference_0 rfl ?_
  refine j_iload_n X dX0_difference_1 rfl ?_
  refine j_callV (nn := 1) X dX0_difference_2 (c_X0_held l D nH sk v b n L hb hL (by omega)) gX0_difference_X0_held rfl ⟨rfl, rfl⟩ (by decide +kernel) ⟨Nat.le_of_ble_eq_true rfl, Nat.le_of_ble_eq_true rfl⟩ (by assumption) ⟨rfl, rfl⟩ rfl rfl (Nat.le_of_ble_eq_true rfl) ⟨Nat.zero_le _, Nat.zero_le _⟩ (kI (fun z2 v2 h2 => ?_))
  obtain ⟨rfl, rfl⟩ := h2
  refine j_istore X dX0_difference_5 rfl (Nat.le_of_ble_eq_true rfl) ?_
  refine j_aload_n X dX0_difference_7 rfl ?_
  refine j_iload_n X dX0_difference_8 rfl ?_
  refine j_callV (nn := 1) X dX0_difference_9 (c_X0_earliestIssue l D nH sk v o n T ho hT (by omega)) gX0_difference_X0_earliestIssue rfl ⟨rfl, rfl⟩ (by decide +kernel) ⟨Nat.le_of_ble_eq_true rfl, Nat.le_of_ble_eq_true rfl⟩ (by assumption) ⟨rfl, rfl⟩ rfl rfl (Nat.le_of_ble_eq_true rfl) ⟨Nat.zero_le _, Nat.zero_le _⟩ (kI (fun z9 v9 h9 => ?_))
  obtain ⟨h9, rfl⟩ := h9
  have h9b := h9.bd
  refine j_istore X dX0_difference_12 rfl (Nat.le_of_ble_eq_true rfl) ?_
  refine j_iload X dX0_difference_14 rfl ?_
  refine j_bipush X dX0_difference_16 (by decide) ?_
  refine j_icmp_ne (tgt := 33) X dX0_difference_18 (by omega) (by decide) (fun c18 => ?_) (fun c18 => ?_)
  · obtain ⟨x, hxT, hxn, rfl, -⟩ : ∃ x ∈ T, x / 16 = n ∧ z9 = ((x % 16 : Nat) : Int) ∧ ∀ y ∈ T, y / 16 = n → x % 16 ≤ y % 16 := by
      rcases h9 with h | h
      · exact absurd h.1 c18
      · exact h
    refine j_iload X dX0_difference_33 rfl ?_
    refine j_if_ne (tgt := 49) X dX0_difference_35 (by omega) (by decide) (fun c35 => ?_) (fun c35 => ?_)
    · have hdf := dif_s (L := L) k hu hk hxT hxn (by omega)
      refine j_iload_n X dX0_difference_49 rfl ?_
      refine j_iconst X dX0_difference_50 ?_
      refine j_icmp_ne (tgt := 59) X dX0_difference_51 (by omega) (by decide) (fun c51 => ?_) (fun c51 => ?_)
      · refine j_iload_n X dX0_difference_59 rfl ?_
        refine j_iconst X dX0_difference_60 ?_
        refine j_icmp_ne (tgt := 78) X dX0_difference_61 (by omega) (by decide) (fun c61 => ?_) (fun c61 => ?_)
        · refine j_iconst X dX0_difference_78 ?_
          exact j_iret X dX0_difference_79 ⟨_, rfl, rfl, ⟨by first | (rw [hdf.2.1 (by omega)]; rfl) | (rw [hdf.2.2.1 (by omega) (hz1.mp (by omega))]; rfl) | (rw [hdf.2.2.2 (by omega) (fun h => by have := hz1.mpr h; omega)]; rfl), rfl⟩⟩
        · refine j_aload_n X dX0_difference_64 rfl ?_
          refine j_iload_n X dX0_difference_65 rfl ?_
          refine j_iload X dX0_difference_66 rfl ?_
          refine j_callV (nn := 2) X dX0_difference_68 (c_X0_holds l D nH sk v b n (x % 16) L hb hL (by have := hT.2.2.2.2 x hxT; omega)) gX0_difference_X0_holds rfl ⟨rfl, rfl⟩ (by decide +kernel) ⟨Nat.le_of_ble_eq_true rfl, Nat.le_of_ble_eq_true rfl⟩ (by assumption) ⟨rfl, rfl⟩ rfl rfl (Nat.le_of_ble_eq_true rfl) ⟨Nat.zero_le _, Nat.zero_le _⟩ (kI (fun z68 v68 h68 => ?_))
          obtain ⟨hz0, hz1, rfl⟩ := h68
          rw [show n * 16 + x % 16 = x by omega] at hz1
          refine j_if_ne (tgt := 78) X dX0_difference_71 (by omega) (by decide) (fun c71 => ?_) (fun c71 => ?_)
          · refine j_iconst X dX0_difference_78 ?_
            exact j_iret X dX0_difference_79 ⟨_, rfl, rfl, ⟨by first | (rw [hdf.2.1 (by omega)]; rfl) | (rw [hdf.2.2.1 (by omega) (hz1.mp (by omega))]; rfl) | (rw [hdf.2.2.2 (by omega) (fun h => by have := hz1.mpr h; omega)]; rfl), rfl⟩⟩
          · refine j_iconst X dX0_difference_74 ?_
            refine j_goto (tgt := 79) X dX0_difference_75 (by decide) ?_
            exact j_iret X dX0_difference_79 ⟨_, rfl, rfl, ⟨by first | (rw [hdf.2.1 (by omega)]; rfl) | (rw [hdf.2.2.1 (by omega) (hz1.mp (by omega))]; rfl) | (rw [hdf.2.2.2 (by omega) (fun h => by have := hz1.mpr h; omega)]; rfl), rfl⟩⟩
      · refine j_iload X dX0_difference_54 rfl ?_
        refine j_iconst X dX0_difference_56 ?_
        refine j_isub X dX0_difference_57 ?_
        exact j_iret X dX0_difference_58 ⟨_, rfl, rfl, ⟨by rw [hdf.1 (by omega)]; omega, rfl⟩⟩
    · have hdf := dif_0 (L := L) k hk hxT hxn (by omega)
      refine j_iload_n X dX0_difference_38 rfl ?_
      refine j_iconst X dX0_difference_39 ?_
      refine j_icmp_ne (tgt := 47) X dX0_difference_40 (by omega) (by decide) (fun c40 => ?_) (fun c40 => ?_)
      · refine j_iconst X dX0_difference_47 ?_
        exact j_iret X dX0_difference_48 ⟨_, rfl, rfl, ⟨by first | (rw [hdf, if_pos (by omega)]; rfl) | (rw [hdf, if_neg (by omega)]; rfl), rfl⟩⟩
      · refine j_iconst X dX0_difference_43 ?_
        refine j_goto (tgt := 48) X dX0_difference_44 (by decide) ?_
        exact j_iret X dX0_difference_48 ⟨_, rfl, rfl, ⟨by first | (rw [hdf, if_pos (by omega)]; rfl) | (rw [hdf, if_neg (by omega)]; rfl), rfl⟩⟩
  · have hno : ∀ x ∈ T, x / 16 ≠ n := by
      rcases h9 with h | ⟨x, h1, h2, h3, h4⟩
      · exact h.2
      · omega
    have hdf := dif_no (L := L) k hno
    refine j_iload_n X dX0_difference_21 rfl ?_
    refine j_iconst X dX0_difference_22 ?_
    refine j_icmp_ne (tgt := 31) X dX0_difference_23 (by omega) (by decide) (fun c23 => ?_) (fun c23 => ?_)
    · refine j_iconst X dX0_difference_31 ?_
      exact j_iret X dX0_difference_32 ⟨_, rfl, rfl, ⟨by first | (rw [hdf, if_pos (by omega)]; done) | (rw [hdf, if_neg (by omega)]; rfl), rfl⟩⟩
    · refine j_iload X dX0_difference_26 rfl ?_
      refine j_goto (tgt := 32) X dX0_difference_28 (by decide) ?_
      exact j_iret X dX0_difference_32 ⟨_, rfl, rfl, ⟨by first | (rw [hdf, if_pos (by omega)]; done) | (rw [hdf, if_neg (by omega)]; rfl), rfl⟩⟩
def rmX0_differences : Room := { frames := 4, cells := 0, slots := 0, locals := 90 }
set_option maxHeartbeats 4000000 in
set_option maxRecDepth 100000 in
theorem c_X0_differences (l : Launch) (D : va_G) (nH : Nat) (sk : Sk) (v : Mem) (b o : Nat) (k : Int) (L T : List Nat) (hb : Bd D sk b) (hL : BA v b L) (ho : Bd D sk o) (hT : BA v o T) (hu : unq T) (hk : k = 3 ∨ k = 4 ∨ k = 5) : CtI l D yX0_differences wsX0_differences rmX0_differences [.ref b, .ref o, .int (I k)] nH sk v (fun z v' => z = (difs L T k : Int) ∧ v = v') := by
  refine ct_of (cc := cX0_differences) (maxL := 5) (ret := (some .int)) rfl rfl (Nat.le_of_ble_eq_true rfl) ?_
  intro p_ e_ s_ m_ args_ below_ meth_ c_ X hmn hsz
  obtain ⟨hb0, hb1⟩ := id hb
  refine j_iconst X dX0_differences_0 ?_
  refine j_istore_n X dX0_differences_1 rfl (Nat.le_of_ble_eq_true rfl) ?_
  refine j_bipush X dX0_differences_2 (by decide) ?_
  refine j_istore X dX0_differences_4 rfl (Nat.le_of_ble_eq_true rfl) ?_
  refine j_loop (σ := Nat × Int) (fun (y_ : Nat × Int) => match y_ with | (i, f) => i ≤ 90 ∧ f = (difU L T k i : Int)) (fun (y_ : Nat × Int) => match y_ with | (i, f) => 90 - i) (fun (y_ : Nat × Int) => match y_ with | (i, f) => (v, [some (.ref b), some (.ref o), some (.int (I k)), some (.int (I f)), some (.int (I (((i + 10 : Nat)) : Int)))])) ?_ (0, 0) ⟨by omega, by simp [difU]⟩
  intro y_ hx ih6
  obtain ⟨i, f⟩ := y_
  dsimp only at hx ih6 ⊢
  obtain ⟨hi0, hi1⟩ := hx
  refine j_iload X dX0_differences_6 rfl ?_
  refine j_bipush X dX0_differences_8 (by decide) ?_
  refine j_icmp_gt (tgt := 30) X dX0_differences_10 (by omega) (by decide) (fun c10 => ?_) (fun c10 => ?_)
  · refine j_iload_n X dX0_differences_30 rfl ?_
    exact j_iret X dX0_differences_31 ⟨_, rfl, rfl, ⟨by have : i = 90 := (by omega); subst this; exact hi1, rfl⟩⟩
  · refine j_iload_n X dX0_differences_13 rfl ?_
    refine j_aload_n X dX0_differences_14 rfl ?_
    refine j_aload_n X dX0_differences_15 rfl ?_
    refine j_iload X dX0_differences_16 rfl ?_
    refine j_iload_n X dX0_differences_18 rfl ?_
    refine j_callV (nn := 3) X dX0_differences_19 (c_X0_difference l D nH sk v b o (i + 10) k L T hb hL ho hT hu (by omega) hk) gX0_differences_X0_difference rfl ⟨rfl, rfl⟩ (by decide +kernel) ⟨Nat.le_of_ble_eq_true rfl, Nat.le_of_ble_eq_true rfl⟩ (by assumption) ⟨rfl, rfl⟩ rfl rfl (Nat.le_of_ble_eq_true rfl) ⟨Nat.zero_le _, Nat.zero_le _⟩ (kI (fun z19 v19 h19 => ?_))
    obtain ⟨rfl, rfl⟩ := h19
    refine j_iadd X dX0_differences_22 ?_
    refine j_istore_n X dX0_differences_23 rfl (Nat.le_of_ble_eq_true rfl) ?_
    refine j_iinc X dX0_differences_24 rfl rfl (Nat.le_of_ble_eq_true rfl) ?_
    refine j_goto (tgt := 6) X dX0_differences_27 (by decide) ?_
    exact ih6 (i + 1, _) (by (try dsimp only); exact ⟨by omega, by rw [difU_succ, hi1]; push_cast; rfl⟩) (by (try dsimp only); omega)
def rmX0_wrong : Room := { frames := 5, cells := 0, slots := 0, locals := 114 }
set_option maxHeartbeats 4000000 in
set_option maxRecDepth 100000 in
theorem c_X0_wrong (l : Launch) (D : va_G) (nH : Nat) (sk : Sk) (v : Mem) (b o : Nat) (L T : List Nat) (hb : Bd D sk b) (hL : BA v b L) (ho : Bd D sk o) (hT : BA v o T) (hu : unq T) : CtI l D yX0_wrong wsX0_wrong rmX0_wrong [.ref b, .ref o] nH sk v (fun z v' => z = (wrg L T : Int) ∧ v = v') := by
  refine ct_of (cc := cX0_wrong) (maxL := 2) (ret := (some .int)) rfl rfl (Nat.le_of_ble_eq_true rfl) ?_
  intro p_ e_ s_ m_ args_ below_ meth_ c_ X hmn hsz
  obtain ⟨hb0, hb1⟩ := id hb
  refine j_aload_n X dX0_wrong_0 rfl ?_
  refine j_aload_n X dX0_wrong_1 rfl ?_
  refine j_iconst X dX0_wrong_2 ?_
  refine j_callV (nn := 2) X dX0_wrong_3 (c_X0_differences l D nH sk v b o 3 L T hb hL ho hT hu (by omega)) gX0_wrong_X0_differences rfl ⟨rfl, rfl⟩ (by decide +kernel) ⟨Nat.le_of_ble_eq_true rfl, Nat.le_of_ble_eq_true rfl⟩ (by assumption) ⟨rfl, rfl⟩ rfl rfl (Nat.le_of_ble_eq_true rfl) ⟨Nat.zero_le _, Nat.zero_le _⟩ (kI (fun z3 v3 h3 => ?_))
  obtain ⟨rfl, rfl⟩ := h3
  refine j_aload_n X dX0_wrong_6 rfl ?_
  refine j_aload_n X dX0_wrong_7 rfl ?_
  refine j_iconst X dX0_wrong_8 ?_
  refine j_callV (nn := 2) X dX0_wrong_9 (c_X0_differences l D nH sk v b o 4 L T hb hL ho hT hu (by omega)) gX0_wrong_X0_differences rfl ⟨rfl, rfl⟩ (by decide +kernel) ⟨Nat.le_of_ble_eq_true rfl, Nat.le_of_ble_eq_true rfl⟩ (by assumption) ⟨rfl, rfl⟩ rfl rfl (Nat.le_of_ble_eq_true rfl) ⟨Nat.zero_le _, Nat.zero_le _⟩ (kI (fun z9 v9 h9 => ?_))
  obtain ⟨rfl, rfl⟩ := h9
  refine j_iadd X dX0_wrong_12 ?_
  refine j_aload_n X dX0_wrong_13 rfl ?_
  refine j_aload_n X dX0_wrong_14 rfl ?_
  refine j_iconst X dX0_wrong_15 ?_
  refine j_callV (nn := 2) X dX0_wrong_16 (c_X0_differences l D nH sk v b o 5 L T hb hL ho hT hu (by omega)) gX0_wrong_X0_differences rfl ⟨rfl, rfl⟩ (by decide +kernel) ⟨Nat.le_of_ble_eq_true rfl, Nat.le_of_ble_eq_true rfl⟩ (by assumption) ⟨rfl, rfl⟩ rfl rfl (Nat.le_of_ble_eq_true rfl) ⟨Nat.zero_le _, Nat.zero_le _⟩ (kI (fun z16 v16 h16 => ?_))
  obtain ⟨rfl, rfl⟩ := h16
  refine j_iadd X dX0_wrong_19 ?_
  exact j_iret X dX0_wrong_20 ⟨_, rfl, rfl, ⟨by unfold wrg; push_cast; rfl, rfl⟩⟩
