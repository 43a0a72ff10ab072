/-! ===== contracts of State ===== -/
theorem BA.uniq {v : Mem} {b : Nat} {L M : List Nat} (h : BA v b L) (g : BA v b M) : L = M := by
  have e : L.length = M.length := by have := h.1; have := g.1; omega
  refine List.ext_getElem e (fun k h1 h2 => ?_)
  have := h.2.2.1 k h1
  have := g.2.2.1 k h2
  omega
theorem BP.move {v w : Mem} {b c : Nat} {L M : List Nat} (h : BP v b L) (g : BA v b M) (k : BA w c M) : BP w c L := by
  obtain ⟨L', hp, hL⟩ := h
  have := hL.uniq g
  subst this
  exact ⟨_, hp, k⟩
theorem SR.copy {v w : Mem} {o q : Nat} {S : AS} (h : SR v q S) (h2 : w o 2 = v q 2) (h7 : w o 7 = v q 7) (h1 : ∀ j, j < 128 → w (o + 1) j = v (q + 1) j) (hc : ∀ j, j < 16 → w (o + 2) j = v (q + 2) j) (hw : ∀ j, j < 8 → w (o + 6) j = v (q + 6) j) (hl : ∀ j, j < 8 → w (o + 7) j = v (q + 7) j) (ht : ∃ T, BA v (q + 3) T ∧ BA w (o + 3) T) (hb : ∀ j, j < 8 → ∃ L, BA v (q + 8 + 2 * j) L ∧ BA w (o + 8 + 2 * j) L) : SR w o S := by
  obtain ⟨g1, g2, g3, g4, g5, g6⟩ := h
  obtain ⟨T, t1, t2⟩ := ht
  refine ⟨g1, ⟨by rw [h2]; exact g2.1, g2.2.1, fun i hi => ?_⟩, by rw [h7]; exact g3, g4.move t1 t2, fun i hi => ?_, fun i hi => ?_⟩
  · obtain ⟨a1, a2, a3, a4⟩ := g2.2.2 i hi
    have := g2.2.1
    exact ⟨by rw [hc i (by omega)]; exact a1, a2, a3, fun k hk => by rw [h1 _ (by omega)]; exact a4 k hk⟩
  · obtain ⟨L, l1, l2⟩ := hb i hi
    exact ⟨L, l2⟩
  · have := g1.2.1
    obtain ⟨a1, a2, a3⟩ := g6 i hi
    obtain ⟨L, l1, l2⟩ := hb i (by omega)
    exact ⟨a1.move l1 l2, by rw [hw i (by omega)]; exact a2, by rw [hl i (by omega)]; exact a3⟩
theorem cpy_in0 (f g : Nat → Int) {n j : Nat} (h : j < n) : cpy f g 0 0 n j = f j := by
  unfold cpy
  rw [if_pos (by omega), show 0 + (j - 0) = j by omega]
def fset {α : Type} (f : Nat → α) (k : Nat) (x : α) : Nat → α := fun j => if j = k then x else f j
theorem fset_s {α : Type} (f : Nat → α) (k : Nat) (x : α) : fset f k x k = x := if_pos rfl
theorem fset_n {α : Type} (f : Nat → α) {j k : Nat} (x : α) (h : j ≠ k) : fset f k x j = f j := if_neg h
/-- a parcel of the pad is issued -/
def issA (S : AS) (P : List Nat) : AS := (np S + 1, no S, fset (od S) (np S) (ordsOf P), careP (ordsOf P) (np S) (tx S), bn S, fun i => wt S i ||| 2 ^ np S, lo_ S)
/-- an owner comes -/
def ownA (S : AS) : AS := (np S, no S + 1, od S, tx S, fset (bn S) (no S) (tx S), fset (wt S) (no S) 0, fset (lo_ S) (no S) 0)
theorem OKA.iss {S : AS} {P : List Nat} (h : OKA S) (hF : isF P (-6)) (hn : np S < 16) : OKA (issA S P) := by
  obtain ⟨h1, h2, h3, h4, h5⟩ := h
  refine ⟨hn, h2, fun i hi => ?_, unq_careP hn _ h4, fun i hi => ⟨or_lt (h5 i hi).1 hn, (h5 i hi).2⟩⟩
  show (fset (od S) (np S) (ordsOf P) i).length ≤ 8 ∧ ∀ x ∈ fset (od S) (np S) (ordsOf P) i, oko x
  by_cases q : i = np S
  · subst q
    rw [fset_s]
    exact ⟨(ords_len8 hF).2, fun x hx => ord_oko hF hx⟩
  · rw [fset_n _ _ q]
    have hi' : i < np S + 1 := hi
    exact h3 i (by omega)
theorem OKA.own {S : AS} (h : OKA S) (hn : no S < 8) : OKA (ownA S) := by
  obtain ⟨h1, h2, h3, h4, h5⟩ := h
  refine ⟨h1, hn, h3, h4, fun i hi => ?_⟩
  show fset (wt S) (no S) 0 i < 65536 ∧ fset (lo_ S) (no S) 0 i < 65536
  by_cases q : i = no S
  · subst q
    rw [fset_s, fset_s]
    omega
  · rw [fset_n _ _ q, fset_n _ _ q]
    have hi' : i < no S + 1 := hi
    exact h5 i (by omega)
def rmX3_hasOwner : Room := { frames := 0, cells := 0, slots := 0, locals := 0 }
set_option maxHeartbeats 4000000 in
set_option maxRecDepth 100000 in
theorem c_X3_hasOwner (l : Launch) (D : va_G) (nH : Nat) (sk : Sk) (v : Mem) (o : Nat) (x : Int) (k : Nat) (hS : Sd D sk o) (hx : -2147483648 ≤ x ∧ x ≤ 2147483647) (hk : v o 7 = (k : Int)) (hk8 : k ≤ 8) : CtI l D yX3_hasOwner wsX3_hasOwner rmX3_hasOwner [.ref o, .int (I x)] nH sk v (fun z v' => (z = 0 ∨ z = 1) ∧ (z = 1 ↔ 0 ≤ x ∧ x < (k : Int)) ∧ v = v') := by
  refine ct_of (cc := cX3_hasOwner) (maxL := 2) (ret := (some .boolean)) rfl rfl (Nat.le_of_ble_eq_true rfl) ?_
  intro p_ e_ s_ m_ args_ below_ meth_ c_ X hmn hsz
  have hinX3 : ∀ w ∈ wsX30, w ∈ wsX3_hasOwner := by decide +kernel
  obtain ⟨s0, s1, s2, s3, ⟨g, s5, hg⟩, s6, s7, s8⟩ := id hS
  refine j_iload_n X dX3_hasOwner_0 rfl ?_
  refine j_if_lt (tgt := 16) X dX3_hasOwner_1 (by omega) (by decide) (fun c1 => ?_) (fun c1 => ?_)
  · refine j_iconst X dX3_hasOwner_16 ?_
    first
      | have hret : ((1 : Int) = 0 ∨ (1 : Int) = 1) ∧ ((1 : Int) = 1 ↔ 0 ≤ x ∧ x < (k : Int)) ∧ v = v := ⟨Or.inr rfl, ⟨fun _ => ⟨by omega, by omega⟩, fun _ => rfl⟩, rfl⟩
      | have hret : ((0 : Int) = 0 ∨ (0 : Int) = 1) ∧ ((0 : Int) = 1 ↔ 0 ≤ x ∧ x < (k : Int)) ∧ v = v := ⟨Or.inl rfl, ⟨fun h => absurd h (by omega), fun h => by omega⟩, rfl⟩
    exact j_zret X dX3_hasOwner_17 (by omega) ⟨_, rfl, rfl, hret⟩
  · refine j_iload_n X dX3_hasOwner_4 rfl ?_
    refine j_aload_n X dX3_hasOwner_5 rfl ?_
    refine j_geti X dX3_hasOwner_6 (T := TX3) (N := 8) (C := RX3) hinX3 rfl (by assumption) 7 (by decide) (by decide +kernel) rfl ?_
    refine j_icmp_ge (tgt := 16) X dX3_hasOwner_9 (by omega) (by decide) (fun c9 => ?_) (fun c9 => ?_)
    · refine j_iconst X dX3_hasOwner_16 ?_
      first
        | have hret : ((1 : Int) = 0 ∨ (1 : Int) = 1) ∧ ((1 : Int) = 1 ↔ 0 ≤ x ∧ x < (k : Int)) ∧ v = v := ⟨Or.inr rfl, ⟨fun _ => ⟨by omega, by omega⟩, fun _ => rfl⟩, rfl⟩
        | have hret : ((0 : Int) = 0 ∨ (0 : Int) = 1) ∧ ((0 : Int) = 1 ↔ 0 ≤ x ∧ x < (k : Int)) ∧ v = v := ⟨Or.inl rfl, ⟨fun h => absurd h (by omega), fun h => by omega⟩, rfl⟩
      exact j_zret X dX3_hasOwner_17 (by omega) ⟨_, rfl, rfl, hret⟩
    · refine j_iconst X dX3_hasOwner_12 ?_
      refine j_goto (tgt := 17) X dX3_hasOwner_13 (by decide) ?_
      first
        | have hret : ((1 : Int) = 0 ∨ (1 : Int) = 1) ∧ ((1 : Int) = 1 ↔ 0 ≤ x ∧ x < (k : Int)) ∧ v = v := ⟨Or.inr rfl, ⟨fun _ => ⟨by omega, by omega⟩, fun _ => rfl⟩, rfl⟩
        | have hret : ((0 : Int) = 0 ∨ (0 : Int) = 1) ∧ ((0 : Int) = 1 ↔ 0 ≤ x ∧ x < (k : Int)) ∧ v = v := ⟨Or.inl rfl, ⟨fun h => absurd h (by omega), fun h => by omega⟩, rfl⟩
      exact j_zret X dX3_hasOwner_17 (by omega) ⟨_, rfl, rfl, hret⟩
def rmX3_hasParcel : Room := { frames := 0, cells := 0, slots := 0, locals := 0 }
set_option maxHeartbeats 4000000 in
set_option maxRecDepth 100000 in
theorem c_X3_hasParcel (l : Launch) (D : va_G) (nH : Nat) (sk : Sk) (v : Mem) (o : Nat) (x : Int) (k : Nat) (hS : Sd D sk o) (hx : -2147483648 ≤ x ∧ x ≤ 2147483647) (hk : v o 2 = (k : Int)) (hk8 : k ≤ 16) : CtI l D yX3_hasParcel wsX3_hasParcel rmX3_hasParcel [.ref o, .int (I x)] nH sk v (fun z v' => (z = 0 ∨ z = 1) ∧ (z = 1 ↔ 0 ≤ x ∧ x < (k : Int)) ∧ v = v') := by
  refine ct_of (cc := cX3_hasParcel) (maxL := 2) (ret := (some .boolean)) rfl rfl (Nat.le_of_ble_eq_true rfl) ?_
  intro p_ e_ s_ m_ args_ below_ meth_ c_ X hmn hsz
  have hinX3 : ∀ w ∈ wsX30, w ∈ wsX3_hasParcel := by decide +kernel
  obtain ⟨s0, s1, s2, s3, ⟨g, s5, hg⟩, s6, s7, s8⟩ := id hS
  refine j_iload_n X dX3_hasParcel_0 rfl ?_
  refine j_if_lt (tgt := 16) X dX3_hasParcel_1 (by omega) (by decide) (fun c1 => ?_) (fun c1 => ?_)
  · refine j_iconst X dX3_hasParcel_16 ?_
    first
      | have hret : ((1 : Int) = 0 ∨ (1 : Int) = 1) ∧ ((1 : Int) = 1 ↔ 0 ≤ x ∧ x < (k : Int)) ∧ v = v := ⟨Or.inr rfl, ⟨fun _ => ⟨by omega, by omega⟩, fun _ => rfl⟩, rfl⟩
      | have hret : ((0 : Int) = 0 ∨ (0 : Int) = 1) ∧ ((0 : Int) = 1 ↔ 0 ≤ x ∧ x < (k : Int)) ∧ v = v := ⟨Or.inl rfl, ⟨fun h => absurd h (by omega), fun h => by omega⟩, rfl⟩
    exact j_zret X dX3_hasParcel_17 (by omega) ⟨_, rfl, rfl, hret⟩
  · refine j_iload_n X dX3_hasParcel_4 rfl ?_
    refine j_aload_n X dX3_hasParcel_5 rfl ?_
    refine j_geti X dX3_hasParcel_6 (T := TX3) (N := 8) (C := RX3) hinX3 rfl (by assumption) 2 (by decide) (by decide +kernel) rfl ?_
    refine j_icmp_ge (tgt := 16) X dX3_hasParcel_9 (by omega) (by decide) (fun c9 => ?_) (fun c9 => ?_)
    · refine j_iconst X dX3_hasParcel_16 ?_
      first
        | have hret : ((1 : Int) = 0 ∨ (1 : Int) = 1) ∧ ((1 : Int) = 1 ↔ 0 ≤ x ∧ x < (k : Int)) ∧ v = v := ⟨Or.inr rfl, ⟨fun _ => ⟨by omega, by omega⟩, fun _ => rfl⟩, rfl⟩
        | have hret : ((0 : Int) = 0 ∨ (0 : Int) = 1) ∧ ((0 : Int) = 1 ↔ 0 ≤ x ∧ x < (k : Int)) ∧ v = v := ⟨Or.inl rfl, ⟨fun h => absurd h (by omega), fun h => by omega⟩, rfl⟩
      exact j_zret X dX3_hasParcel_17 (by omega) ⟨_, rfl, rfl, hret⟩
    · refine j_iconst X dX3_hasParcel_12 ?_
      refine j_goto (tgt := 17) X dX3_hasParcel_13 (by decide) ?_
      first
        | have hret : ((1 : Int) = 0 ∨ (1 : Int) = 1) ∧ ((1 : Int) = 1 ↔ 0 ≤ x ∧ x < (k : Int)) ∧ v = v := ⟨Or.inr rfl, ⟨fun _ => ⟨by omega, by omega⟩, fun _ => rfl⟩, rfl⟩
        | have hret : ((0 : Int) = 0 ∨ (0 : Int) = 1) ∧ ((0 : Int) = 1 ↔ 0 ≤ x ∧ x < (k : Int)) ∧ v = v := ⟨Or.inl rfl, ⟨fun h => absurd h (by omega), fun h => by omega⟩, rfl⟩
      exact j_zret X dX3_hasParcel_17 (by omega) ⟨_, rfl, rfl, hret⟩
def rmX3_isWaiting : Room := { frames := 0, cells := 0, slots := 0, locals := 0 }
set_option maxHeartbeats 4000000 in
set_option maxRecDepth 100000 in
theorem c_X3_isWaiting (l : Launch) (D : va_G) (nH : Nat) (sk : Sk) (v : Mem) (o i p w : Nat) (hS : Sd D sk o) (hi : i < 8) (hp : p < 16) (hw : v (o + 6) i = (w : Int)) (hw2 : w < 65536) : CtI l D yX3_isWaiting wsX3_isWaiting rmX3_isWaiting [.ref o, .int (I i), .int (I p)] nH sk v (fun z v' => (z = 0 ∨ z = 1) ∧ (z = 1 ↔ w.testBit p = true) ∧ v = v') := by
  refine ct_of (cc := cX3_isWaiting) (maxL := 3) (ret := (some .boolean)) rfl rfl (Nat.le_of_ble_eq_true rfl) ?_
  intro p_ e_ s_ m_ args_ below_ meth_ c_ X hmn hsz
  have hinX3 : ∀ w ∈ wsX30, w ∈ wsX3_isWaiting := by decide +kernel
  obtain ⟨s0, s1, s2, s3, ⟨g, s5, hg⟩, s6, s7, s8⟩ := id hS
  have hand : w &&& 2 ^ p ≤ w := Nat.and_le_left
  have htst := b_tst w p
  have hpos : 0 < 2 ^ p := Nat.two_pow_pos p
  refine j_aload_n X dX3_isWaiting_0 rfl ?_
  refine j_getr X dX3_isWaiting_1 (T := TX3) (N := 8) (C := RX3) hinX3 rfl (by assumption) 5 (by decide) (by decide +kernel) rfl ?_
  refine j_iload_n X dX3_isWaiting_4 rfl ?_
  refine j_iald X dX3_isWaiting_5 (by assumption) (by omega) (by decide) ?_
  rw [Int.toNat_natCast, hw]
  refine j_iconst X dX3_isWaiting_6 ?_
  refine j_iload_n X dX3_isWaiting_7 rfl ?_
  refine j_ishl X dX3_isWaiting_8 (b_shl (by omega)) ?_
  refine j_iand X dX3_isWaiting_9 (b_and _ _) ?_
  generalize w &&& 2 ^ p = a at hand htst ⊢
  generalize 2 ^ p = b at htst hpos
  refine j_if_eq (tgt := 17) X dX3_isWaiting_10 (by omega) (by decide) (fun c10 => ?_) (fun c10 => ?_)
  · refine j_iconst X dX3_isWaiting_17 ?_
    first
      | have hret : ((1 : Int) = 0 ∨ (1 : Int) = 1) ∧ ((1 : Int) = 1 ↔ w.testBit p = true) ∧ v = v := ⟨Or.inr rfl, ⟨fun _ => (by by_cases hb : w.testBit p = true; exact hb; rw [if_neg hb] at htst; omega), fun _ => rfl⟩, rfl⟩
      | have hret : ((0 : Int) = 0 ∨ (0 : Int) = 1) ∧ ((0 : Int) = 1 ↔ w.testBit p = true) ∧ v = v := ⟨Or.inl rfl, ⟨fun h => absurd h (by omega), fun h => by rw [if_pos h] at htst; omega⟩, rfl⟩
    exact j_zret X dX3_isWaiting_18 (by omega) ⟨_, rfl, rfl, hret⟩
  · refine j_iconst X dX3_isWaiting_13 ?_
    refine j_goto (tgt := 18) X dX3_isWaiting_14 (by decide) ?_
    first
      | have hret : ((1 : Int) = 0 ∨ (1 : Int) = 1) ∧ ((1 : Int) = 1 ↔ w.testBit p = true) ∧ v = v := ⟨Or.inr rfl, ⟨fun _ => (by by_cases hb : w.testBit p = true; exact hb; rw [if_neg hb] at htst; omega), fun _ => rfl⟩, rfl⟩
      | have hret : ((0 : Int) = 0 ∨ (0 : Int) = 1) ∧ ((0 : Int) = 1 ↔ w.testBit p = true) ∧ v = v := ⟨Or.inl rfl, ⟨fun h => absurd h (by omega), fun h => by rw [if_pos h] at htst; omega⟩, rfl⟩
    exact j_zret X dX3_isWaiting_18 (by omega) ⟨_, rfl, rfl, hret⟩
def rmX3_order : Room := { frames := 0, cells := 0, slots := 0, locals := 0 }
set_option maxHeartbeats 4000000 in
set_option maxRecDepth 100000 in
theorem c_X3_order (l : Launch) (D : va_G) (nH : Nat) (sk : Sk) (v : Mem) (o p k : Nat) (S : AS) (hS : Sd D sk o) (hO : OR v o S) (hp : p < np S) (hk : k < (od S p).length) : CtI l D yX3_order wsX3_order rmX3_order [.ref o, .int (I p), .int (I k)] nH sk v (fun z v' => z = (((od S p)[k]'hk : Nat) : Int) ∧ v = v') := by
  refine ct_of (cc := cX3_order) (maxL := 3) (ret := (some .int)) rfl rfl (Nat.le_of_ble_eq_true rfl) ?_
  intro p_ e_ s_ m_ args_ below_ meth_ c_ X hmn hsz
  have hinX3 : ∀ w ∈ wsX30, w ∈ wsX3_order := by decide +kernel
  obtain ⟨s0, s1, s2, s3, ⟨g, s5, hg⟩, s6, s7, s8⟩ := id hS
  obtain ⟨a1, a2, a3, a4⟩ := hO.2.2 p hp
  have hp16 := hO.2.1
  refine j_aload_n X dX3_order_0 rfl ?_
  refine j_getr X dX3_order_1 (T := TX3) (N := 8) (C := RX3) hinX3 rfl (by assumption) 0 (by decide) (by decide +kernel) rfl ?_
  refine j_iload_n X dX3_order_4 rfl ?_
  refine j_bipush X dX3_order_5 (by decide) ?_
  refine j_imul X dX3_order_7 ?_
  refine j_iload_n X dX3_order_8 rfl ?_
  refine j_iadd X dX3_order_9 ?_
  refine j_iald X dX3_order_10 (by assumption) (by omega) (by decide) ?_
  exact j_iret X dX3_order_11 ⟨_, rfl, rfl, ⟨by rw [show ((p : Int) * 8 + (k : Int)).toNat = 8 * p + k by omega]; exact a4 k hk, rfl⟩⟩
def rmX3_doWithCare : Room := { frames := 3, cells := 0, slots := 0, locals := 70 }
set_option maxHeartbeats 4000000 in
set_option maxRecDepth 100000 in
theorem c_X3_doWithCare (l : Launch) (D : va_G) (nH : Nat) (sk : Sk) (v : Mem) (o b p : Nat) (S : AS) (L : List Nat) (hS : Sd D sk o) (hb : Bd D sk b) (hO : OR v o S) (hp : p < np S) (hL : BP v b L) : CtV l D yX3_doWithCare wsX3_doWithCare rmX3_doWithCare [.ref o, .ref b, .int (I p)] nH sk v (fun v' => BP v' b (careP (od S p) p L) ∧ fr v v' b) := by
  refine ct_of (cc := cX3_doWithCare) (maxL := 5) (ret := none) rfl rfl (Nat.le_of_ble_eq_true rfl) ?_
  intro p_ e_ s_ m_ args_ below_ meth_ c_ X hmn hsz
  have hinX3 : ∀ w ∈ wsX30, w ∈ wsX3_doWithCare := by decide +kernel
  obtain ⟨s0, s1, s2, s3, ⟨g, s5, hg⟩, s6, s7, s8⟩ := id hS
  obtain ⟨a1, a2, a3, a4⟩ := hO.2.2 p hp
  have hp16 := hO.2.1
  have hap := hS.apart hb
  obtain ⟨hb0, hb1⟩ := id hb
  refine j_iconst X dX3_doWithCare_0 ?_
  refine j_istore_n X dX3_doWithCare_1 rfl (Nat.le_of_ble_eq_true rfl) ?_
  refine j_loop (σ := Nat × Mem) (fun (y_ : Nat × Mem) => match y_ with | (i, u) => i ≤ (od S p).length ∧ BP u b (((od S p).take i).foldl (care1 p) L) ∧ fr v u b) (fun (y_ : Nat × Mem) => match y_ with | (i, u) => (od S p).length - i) (fun (y_ : Nat × Mem) => match y_ with | (i, u) => (u, [some (.ref o), some (.ref b), some (.int (I (p : Int))), some (.int (I (i : Int))), none])) ?_ (0, v) ⟨by omega, by simpa using hL, fr.refl _ _⟩
  intro y_ hx ih2
  obtain ⟨i, u⟩ := y_
  dsimp only at hx ih2 ⊢
  obtain ⟨hi, hBu, hfu⟩ := hx
  have hOu := hO.fr hS hb hfu
  have hlu : u (o + 2) p = ((od S p).length : Int) := (hOu.2.2 p hp).1
  refine j_iload_n X dX3_doWithCare_2 rfl ?_
  refine j_aload_n X dX3_doWithCare_3 rfl ?_
  refine j_getr X dX3_doWithCare_4 (T := TX3) (N := 8) (C := RX3) hinX3 rfl (by assumption) 1 (by decide) (by decide +kernel) rfl ?_
  refine j_iload_n X dX3_doWithCare_7 rfl ?_
  refine j_iald X dX3_doWithCare_8 (by assumption) (by omega) (by decide) ?_
  rw [Int.toNat_natCast, hlu]
  refine j_icmp_ge (tgt := 52) X dX3_doWithCare_9 (by omega) (by decide) (fun c9 => ?_) (fun c9 => ?_)
  · exact j_vret X dX3_doWithCare_52 ⟨rfl, rfl, ⟨by rw [List.take_of_length_le (by omega)] at hBu; exact hBu, hfu⟩⟩
  · have hi9 : i < (od S p).length := by omega
    refine j_aload_n X dX3_doWithCare_12 rfl ?_
    refine j_iload_n X dX3_doWithCare_13 rfl ?_
    refine j_iload_n X dX3_doWithCare_14 rfl ?_
    refine j_callV (nn := 2) X dX3_doWithCare_15 (c_X3_order l D nH sk u o p i S hS hOu hp hi9) gX3_doWithCare_X3_order rfl ⟨rfl, rfl⟩ (by decide +kernel) ⟨Nat.le_of_ble_eq_true rfl, Nat.le_of_ble_eq_true rfl⟩ (by assumption) ⟨rfl, rfl⟩ rfl rfl (Nat.le_of_ble_eq_true rfl) ⟨Nat.zero_le _, Nat.zero_le _⟩ (kI (fun z15 v15 h15 => ?_))
    obtain ⟨rfl, rfl⟩ := h15
    obtain ⟨x, hx⟩ : ∃ x, x = (od S p)[i]'hi9 := ⟨_, rfl⟩
    rw [← hx]
    have hxo := a3 x (by rw [hx]; exact List.getElem_mem hi9)
    obtain ⟨hx1, hx2⟩ := hxo
    obtain ⟨L1, hp1, hL1⟩ := hBu
    refine j_istore X dX3_doWithCare_18 rfl (Nat.le_of_ble_eq_true rfl) ?_
    refine j_aload_n X dX3_doWithCare_20 rfl ?_
    refine j_iload X dX3_doWithCare_21 rfl ?_
    refine j_bipush X dX3_doWithCare_23 (by decide) ?_
    refine j_irem X dX3_doWithCare_25 (by omega) (by omega) ?_
    rw [show (x : Int) % 100 = ((x % 100 : Nat) : Int) by omega]
    refine j_callV (nn := 1) X dX3_doWithCare_26 (c_X0_removeAll l D nH sk u b (x % 100) L1 hb hL1 (by omega)) gX3_doWithCare_X0_removeAll rfl ⟨rfl, rfl⟩ (by decide +kernel) ⟨Nat.le_of_ble_eq_true rfl, Nat.le_of_ble_eq_true rfl⟩ (by assumption) ⟨rfl, rfl⟩ rfl rfl (Nat.le_of_ble_eq_true rfl) ⟨Nat.zero_le _, Nat.zero_le _⟩ (kV (fun v26 h26 => ?_))
    refine j_iload X dX3_doWithCare_29 rfl ?_
    refine j_bipush X dX3_doWithCare_31 (by decide) ?_
    refine j_icmp_lt (tgt := 46) X dX3_doWithCare_33 (by omega) (by decide) (fun c33 => ?_) (fun c33 => ?_)
    · have hBn : BP v26 b (care1 p (((od S p).take i).foldl (care1 p) L) x) ∧ fr v v26 b := by
        unfold care1
        rw [if_neg (by omega)]
        exact ⟨⟨_, remA_perm hp1 _, h26.1⟩, hfu.trans h26.2⟩
      refine j_iinc X dX3_doWithCare_46 rfl rfl (Nat.le_of_ble_eq_true rfl) ?_
      refine j_goto (tgt := 2) X dX3_doWithCare_49 (by decide) ?_
      refine j_drop 4 ?_
      exact ih2 (i + 1, _) (by (try dsimp only); exact ⟨by omega, by rw [fold_take hi9, ← hx]; exact hBn.1, hBn.2⟩) (by (try dsimp only); omega)
    · refine j_aload_n X dX3_doWithCare_36 rfl ?_
      refine j_iload X dX3_doWithCare_37 rfl ?_
      refine j_bipush X dX3_doWithCare_39 (by decide) ?_
      refine j_irem X dX3_doWithCare_41 (by omega) (by omega) ?_
      refine j_iload_n X dX3_doWithCare_42 rfl ?_
      rw [show (x : Int) % 100 = ((x % 100 : Nat) : Int) by omega]
      refine j_callV (nn := 2) X dX3_doWithCare_43 (c_X0_insert l D nH sk v26 b (x % 100) p _ hb h26.1 (by omega)) gX3_doWithCare_X0_insert rfl ⟨rfl, rfl⟩ (by decide +kernel) ⟨Nat.le_of_ble_eq_true rfl, Nat.le_of_ble_eq_true rfl⟩ (by assumption) ⟨rfl, rfl⟩ rfl rfl (Nat.le_of_ble_eq_true rfl) ⟨Nat.zero_le _, Nat.zero_le _⟩ (kV (fun v43 h43 => ?_))
      have hBn : BP v43 b (care1 p (((od S p).take i).foldl (care1 p) L) x) ∧ fr v v43 b := by
        unfold care1
        rw [if_pos (by omega)]
        obtain ⟨⟨L2, hL2, hp2⟩, hf2⟩ := h43
        exact ⟨⟨L2, hp2.trans (insL_perm (remA_perm hp1 _) _), hL2⟩, (hfu.trans h26.2).trans hf2⟩
      refine j_iinc X dX3_doWithCare_46 rfl rfl (Nat.le_of_ble_eq_true rfl) ?_
      refine j_goto (tgt := 2) X dX3_doWithCare_49 (by decide) ?_
      refine j_drop 4 ?_
      exact ih2 (i + 1, _) (by (try dsimp only); exact ⟨by omega, by rw [fold_take hi9, ← hx]; exact hBn.1, hBn.2⟩) (by (try dsimp only); omega)
def rmX3_doCarelessly : Room := { frames := 3, cells := 0, slots := 0, locals := 70 }
set_option maxHeartbeats 4000000 in
set_option maxRecDepth 100000 in
theorem c_X3_doCarelessly (l : Launch) (D : va_G) (nH : Nat) (sk : Sk) (v : Mem) (o b p : Nat) (S : AS) (L : List Nat) (hS : Sd D sk o) (hb : Bd D sk b) (hO : OR v o S) (hp : p < np S) (hL : BP v b L) : CtV l D yX3_doCarelessly wsX3_doCarelessly rmX3_doCarelessly [.ref o, .ref b, .int (I p)] nH sk v (fun v' => BP v' b (lessP (od S p) p L) ∧ fr v v' b) := by
  refine ct_of (cc := cX3_doCarelessly) (maxL := 5) (ret := none) rfl rfl (Nat.le_of_ble_eq_true rfl) ?_
  intro p_ e_ s_ m_ args_ below_ meth_ c_ X hmn hsz
  have hinX3 : ∀ w ∈ wsX30, w ∈ wsX3_doCarelessly := by decide +kernel
  obtain ⟨s0, s1, s2, s3, ⟨g, s5, hg⟩, s6, s7, s8⟩ := id hS
  obtain ⟨a1, a2, a3, a4⟩ := hO.2.2 p hp
  have hp16 := hO.2.1
  have hap := hS.apart hb
  obtain ⟨hb0, hb1⟩ := id hb
  refine j_iconst X dX3_doCarelessly_0 ?_
  refine j_istore_n X dX3_doCarelessly_1 rfl (Nat.le_of_ble_eq_true rfl) ?_
  refine j_loop (σ := Nat × Mem) (fun (y_ : Nat × Mem) => match y_ with | (i, u) => i ≤ (od S p).length ∧ BP u b (((od S p).take i).foldl (less1 p) L) ∧ fr v u b) (fun (y_ : Nat × Mem) => match y_ with | (i, u) => (od S p).length - i) (fun (y_ : Nat × Mem) => match y_ with | (i, u) => (u, [some (.ref o), some (.ref b), some (.int (I (p : Int))), some (.int (I (i : Int))), none])) ?_ (0, v) ⟨by omega, by simpa using hL, fr.refl _ _⟩
  intro y_ hx ih2
  obtain ⟨i, u⟩ := y_
  dsimp only at hx ih2 ⊢
  obtain ⟨hi, hBu, hfu⟩ := hx
  have hOu := hO.fr hS hb hfu
  have hlu : u (o + 2) p = ((od S p).length : Int) := (hOu.2.2 p hp).1
  refine j_iload_n X dX3_doCarelessly_2 rfl ?_
  refine j_aload_n X dX3_doCarelessly_3 rfl ?_
  refine j_getr X dX3_doCarelessly_4 (T := TX3) (N := 8) (C := RX3) hinX3 rfl (by assumption) 1 (by decide) (by decide +kernel) rfl ?_
  refine j_iload_n X dX3_doCarelessly_7 rfl ?_
  refine j_iald X dX3_doCarelessly_8 (by assumption) (by omega) (by decide) ?_
  rw [Int.toNat_natCast, hlu]
  refine j_icmp_ge (tgt := 52) X dX3_doCarelessly_9 (by omega) (by decide) (fun c9 => ?_) (fun c9 => ?_)
  · exact j_vret X dX3_doCarelessly_52 ⟨rfl, rfl, ⟨by rw [List.take_of_length_le (by omega)] at hBu; exact hBu, hfu⟩⟩
  · have hi9 : i < (od S p).length := by omega
    refine j_aload_n X dX3_doCarelessly_12 rfl ?_
    refine j_iload_n X dX3_doCarelessly_13 rfl ?_
    refine j_iload_n X dX3_doCarelessly_14 rfl ?_
    refine j_callV (nn := 2) X dX3_doCarelessly_15 (c_X3_order l D nH sk u o p i S hS hOu hp hi9) gX3_doCarelessly_X3_order rfl ⟨rfl, rfl⟩ (by decide +kernel) ⟨Nat.le_of_ble_eq_true rfl, Nat.le_of_ble_eq_true rfl⟩ (by assumption) ⟨rfl, rfl⟩ rfl rfl (Nat.le_of_ble_eq_true rfl) ⟨Nat.zero_le _, Nat.zero_le _⟩ (kI (fun z15 v15 h15 => ?_))
    obtain ⟨rfl, rfl⟩ := h15
    obtain ⟨x, hx⟩ : ∃ x, x = (od S p)[i]'hi9 := ⟨_, rfl⟩
    rw [← hx]
    have hxo := a3 x (by rw [hx]; exact List.getElem_mem hi9)
    obtain ⟨hx1, hx2⟩ := hxo
    obtain ⟨L1, hp1, hL1⟩ := hBu
    refine j_istore X dX3_doCarelessly_18 rfl (Nat.le_of_ble_eq_true rfl) ?_
    refine j_iload X dX3_doCarelessly_20 rfl ?_
    refine j_bipush X dX3_doCarelessly_22 (by decide) ?_
    refine j_icmp_lt (tgt := 40) X dX3_doCarelessly_24 (by omega) (by decide) (fun c24 => ?_) (fun c24 => ?_)
    · refine j_aload_n X dX3_doCarelessly_40 rfl ?_
      refine j_iload X dX3_doCarelessly_41 rfl ?_
      refine j_callV (nn := 1) X dX3_doCarelessly_43 (c_X0_removeEarliest l D nH sk u b x L1 hb hL1 (by omega)) gX3_doCarelessly_X0_removeEarliest rfl ⟨rfl, rfl⟩ (by decide +kernel) ⟨Nat.le_of_ble_eq_true rfl, Nat.le_of_ble_eq_true rfl⟩ (by assumption) ⟨rfl, rfl⟩ rfl rfl (Nat.le_of_ble_eq_true rfl) ⟨Nat.zero_le _, Nat.zero_le _⟩ (kV (fun v43 h43 => ?_))
      have hBn : BP v43 b (less1 p (((od S p).take i).foldl (less1 p) L) x) ∧ fr v v43 b := by
        unfold less1
        rw [if_neg (by omega), show x % 100 = x by omega]
        exact ⟨⟨_, remE_perm hp1 _, h43.1⟩, hfu.trans h43.2⟩
      refine j_iinc X dX3_doCarelessly_46 rfl rfl (Nat.le_of_ble_eq_true rfl) ?_
      refine j_goto (tgt := 2) X dX3_doCarelessly_49 (by decide) ?_
      refine j_drop 4 ?_
      exact ih2 (i + 1, _) (by (try dsimp only); exact ⟨by omega, by rw [fold_take hi9, ← hx]; exact hBn.1, hBn.2⟩) (by (try dsimp only); omega)
    · refine j_aload_n X dX3_doCarelessly_27 rfl ?_
      refine j_iload X dX3_doCarelessly_28 rfl ?_
      refine j_bipush X dX3_doCarelessly_30 (by decide) ?_
      refine j_irem X dX3_doCarelessly_32 (by omega) (by omega) ?_
      rw [show (x : Int) % 100 = ((x % 100 : Nat) : Int) by omega]
      refine j_iload_n X dX3_doCarelessly_33 rfl ?_
      refine j_callV (nn := 2) X dX3_doCarelessly_34 (c_X0_insert l D nH sk u b (x % 100) p _ hb hL1 (by omega)) gX3_doCarelessly_X0_insert rfl ⟨rfl, rfl⟩ (by decide +kernel) ⟨Nat.le_of_ble_eq_true rfl, Nat.le_of_ble_eq_true rfl⟩ (by assumption) ⟨rfl, rfl⟩ rfl rfl (Nat.le_of_ble_eq_true rfl) ⟨Nat.zero_le _, Nat.zero_le _⟩ (kV (fun v34 h34 => ?_))
      have hBn : BP v34 b (less1 p (((od S p).take i).foldl (less1 p) L) x) ∧ fr v v34 b := by
        unfold less1
        rw [if_pos (by omega)]
        obtain ⟨⟨L2, hL2, hp2⟩, hf2⟩ := h34
        exact ⟨⟨L2, hp2.trans (insL_perm hp1 _), hL2⟩, hfu.trans hf2⟩
      refine j_goto (tgt := 46) X dX3_doCarelessly_37 (by decide) ?_
      refine j_iinc X dX3_doCarelessly_46 rfl rfl (Nat.le_of_ble_eq_true rfl) ?_
      refine j_goto (tgt := 2) X dX3_doCarelessly_49 (by decide) ?_
      refine j_drop 4 ?_
      exact ih2 (i + 1, _) (by (try dsimp only); exact ⟨by omega, by rw [fold_take hi9, ← hx]; exact hBn.1, hBn.2⟩) (by (try dsimp only); omega)
def rmX3_doSetWithCare : Room := { frames := 4, cells := 0, slots := 0, locals := 94 }
set_option maxHeartbeats 4000000 in
set_option maxRecDepth 100000 in
theorem c_X3_doSetWithCare (l : Launch) (D : va_G) (nH : Nat) (sk : Sk) (v : Mem) (o b w : Nat) (S : AS) (L : List Nat) (hS : Sd D sk o) (hb : Bd D sk b) (hO : OR v o S) (hw : w < 2147483648) (hL : BP v b L) : CtV l D yX3_doSetWithCare wsX3_doSetWithCare rmX3_doSetWithCare [.ref o, .ref b, .int (I w)] nH sk v (fun v' => BP v' b (careU (od S) w L (np S)) ∧ fr v v' b) := by
  refine ct_of (cc := cX3_doSetWithCare) (maxL := 4) (ret := none) rfl rfl (Nat.le_of_ble_eq_true rfl) ?_
  intro p_ e_ s_ m_ args_ below_ meth_ c_ X hmn hsz
  have hinX3 : ∀ w ∈ wsX30, w ∈ wsX3_doSetWithCare := by decide +kernel
  obtain ⟨s0, s1, s2, s3, ⟨g, s5, hg⟩, s6, s7, s8⟩ := id hS
  have hp16 := hO.2.1
  have hap := hS.apart hb
  refine j_iconst X dX3_doSetWithCare_0 ?_
  refine j_istore_n X dX3_doSetWithCare_1 rfl (Nat.le_of_ble_eq_true rfl) ?_
  refine j_loop (σ := Nat × Mem) (fun (y_ : Nat × Mem) => match y_ with | (i, u) => i ≤ np S ∧ BP u b (careU (od S) w L i) ∧ fr v u b) (fun (y_ : Nat × Mem) => match y_ with | (i, u) => np S - i) (fun (y_ : Nat × Mem) => match y_ with | (i, u) => (u, [some (.ref o), some (.ref b), some (.int (I (w : Int))), some (.int (I (i : Int)))])) ?_ (0, v) ⟨by omega, hL, fr.refl _ _⟩
  intro y_ hx ih2
  obtain ⟨i, u⟩ := y_
  dsimp only at hx ih2 ⊢
  obtain ⟨hi, hBu, hfu⟩ := hx
  have hOu := hO.fr hS hb hfu
  have hnu := hOu.1
  refine j_iload_n X dX3_doSetWithCare_2 rfl ?_
  refine j_aload_n X dX3_doSetWithCare_3 rfl ?_
  refine j_geti X dX3_doSetWithCare_4 (T := TX3) (N := 8) (C := RX3) hinX3 rfl (by assumption) 2 (by decide) (by decide +kernel) rfl ?_
  refine j_icmp_ge (tgt := 30) X dX3_doSetWithCare_7 (by omega) (by decide) (fun c7 => ?_) (fun c7 => ?_)
  · exact j_vret X dX3_doSetWithCare_30 ⟨rfl, rfl, ⟨by rw [show i = np S by omega] at hBu; exact hBu, hfu⟩⟩
  · refine j_iload_n X dX3_doSetWithCare_10 rfl ?_
    refine j_iconst X dX3_doSetWithCare_11 ?_
    refine j_iload_n X dX3_doSetWithCare_12 rfl ?_
    refine j_ishl X dX3_doSetWithCare_13 (b_shl (by omega)) ?_
    refine j_iand X dX3_doSetWithCare_14 (b_and _ _) ?_
    have hand : w &&& 2 ^ i ≤ w := Nat.and_le_left
    have htst := b_tst w i
    have hpos : 0 < 2 ^ i := Nat.two_pow_pos i
    refine j_if_eq (tgt := 24) X dX3_doSetWithCare_15 (by omega) (by decide) (fun c15 => ?_) (fun c15 => ?_)
    · have hBn : BP u b (careU (od S) w L (i + 1)) ∧ fr v u b := by
        unfold careU
        rw [if_neg (fun h => by rw [if_pos h] at htst; omega)]
        exact ⟨hBu, hfu⟩
      refine j_iinc X dX3_doSetWithCare_24 rfl rfl (Nat.le_of_ble_eq_true rfl) ?_
      refine j_goto (tgt := 2) X dX3_doSetWithCare_27 (by decide) ?_
      exact ih2 (i + 1, _) (by (try dsimp only); exact ⟨by omega, hBn.1, hBn.2⟩) (by (try dsimp only); omega)
    · have hbit : w.testBit i = true := by
        by_cases h : w.testBit i = true
        · exact h
        · rw [if_neg h] at htst; omega
      refine j_aload_n X dX3_doSetWithCare_18 rfl ?_
      refine j_aload_n X dX3_doSetWithCare_19 rfl ?_
      refine j_iload_n X dX3_doSetWithCare_20 rfl ?_
      refine j_callV (nn := 2) X dX3_doSetWithCare_21 (c_X3_doWithCare l D nH sk u o b i S _ hS hb hOu (by omega) hBu) gX3_doSetWithCare_X3_doWithCare rfl ⟨rfl, rfl⟩ (by decide +kernel) ⟨Nat.le_of_ble_eq_true rfl, Nat.le_of_ble_eq_true rfl⟩ (by assumption) ⟨rfl, rfl⟩ rfl rfl (Nat.le_of_ble_eq_true rfl) ⟨Nat.zero_le _, Nat.zero_le _⟩ (kV (fun v21 h21 => ?_))
      have hBn : BP v21 b (careU (od S) w L (i + 1)) ∧ fr v v21 b := by
        rw [careU, if_pos hbit]
        exact ⟨h21.1, hfu.trans h21.2⟩
      refine j_iinc X dX3_doSetWithCare_24 rfl rfl (Nat.le_of_ble_eq_true rfl) ?_
      refine j_goto (tgt := 2) X dX3_doSetWithCare_27 (by decide) ?_
      exact ih2 (i + 1, _) (by (try dsimp only); exact ⟨by omega, hBn.1, hBn.2⟩) (by (try dsimp only); omega)
def rmX3_ownersOf : Room := { frames := 0, cells := 0, slots := 0, locals := 0 }
set_option maxHeartbeats 4000000 in
set_option maxRecDepth 100000 in
theorem c_X3_ownersOf (l : Launch) (D : va_G) (nH : Nat) (sk : Sk) (v : Mem) (o a p k : Nat) (F : Nat → Nat) (hS : Sd D sk o) (ha : sk a = some (eA D 10 8)) (hF : ∀ i, i < k → v a i = (F i : Int) ∧ F i < 65536) (hk : v o 7 = (k : Int)) (hk8 : k ≤ 8) (hp : p < 16) : CtI l D yX3_ownersOf wsX3_ownersOf rmX3_ownersOf [.ref o, .ref a, .int (I p)] nH sk v (fun z v' => z = (mk (fun i => (F i).testBit p) k : Int) ∧ v = v') := by
  refine ct_of (cc := cX3_ownersOf) (maxL := 5) (ret := (some .int)) rfl rfl (Nat.le_of_ble_eq_true rfl) ?_
  intro p_ e_ s_ m_ args_ below_ meth_ c_ X hmn hsz
  have hinX3 : ∀ w ∈ wsX30, w ∈ wsX3_ownersOf := by decide +kernel
  obtain ⟨s0, s1, s2, s3, ⟨g, s5, hg⟩, s6, s7, s8⟩ := id hS
  refine j_iconst X dX3_ownersOf_0 ?_
  refine j_istore_n X dX3_ownersOf_1 rfl (Nat.le_of_ble_eq_true rfl) ?_
  refine j_iconst X dX3_ownersOf_2 ?_
  refine j_istore X dX3_ownersOf_3 rfl (Nat.le_of_ble_eq_true rfl) ?_
  refine j_loop (σ := Nat × Nat) (fun (y_ : Nat × Nat) => match y_ with | (i, f) => i ≤ k ∧ f = mk (fun i => (F i).testBit p) i) (fun (y_ : Nat × Nat) => match y_ with | (i, f) => k - i) (fun (y_ : Nat × Nat) => match y_ with | (i, f) => (v, [some (.ref o), some (.ref a), some (.int (I (p : Int))), some (.int (I (f : Int))), some (.int (I (i : Int)))])) ?_ (0, 0) ⟨by omega, rfl⟩
  intro y_ hx ih5
  obtain ⟨i, f⟩ := y_
  dsimp only at hx ih5 ⊢
  obtain ⟨hi, hf⟩ := hx
  refine j_iload X dX3_ownersOf_5 rfl ?_
  refine j_aload_n X dX3_ownersOf_7 rfl ?_
  refine j_geti X dX3_ownersOf_8 (T := TX3) (N := 8) (C := RX3) hinX3 rfl (by assumption) 7 (by decide) (by decide +kernel) rfl ?_
  refine j_icmp_ge (tgt := 38) X dX3_ownersOf_11 (by omega) (by decide) (fun c11 => ?_) (fun c11 => ?_)
  · refine j_iload_n X dX3_ownersOf_38 rfl ?_
    exact j_iret X dX3_ownersOf_39 ⟨_, rfl, rfl, ⟨by rw [hf, show i = k by omega], rfl⟩⟩
  · refine j_aload_n X dX3_ownersOf_14 rfl ?_
    refine j_iload X dX3_ownersOf_15 rfl ?_
    refine j_iald X dX3_ownersOf_17 (by assumption) (by omega) (by decide) ?_
    obtain ⟨hFi, hF2⟩ := hF i (by omega)
    rw [Int.toNat_natCast, hFi]
    refine j_iconst X dX3_ownersOf_18 ?_
    refine j_iload_n X dX3_ownersOf_19 rfl ?_
    refine j_ishl X dX3_ownersOf_20 (b_shl (by omega)) ?_
    refine j_iand X dX3_ownersOf_21 (b_and _ _) ?_
    have hand : F i &&& 2 ^ p ≤ F i := Nat.and_le_left
    have htst := b_tst (F i) p
    have hpos : 0 < 2 ^ p := Nat.two_pow_pos p
    refine j_if_eq (tgt := 32) X dX3_ownersOf_22 (by omega) (by decide) (fun c22 => ?_) (fun c22 => ?_)
    · have hBn : f = mk (fun i => (F i).testBit p) (i + 1) := by
        rw [mk, if_neg (fun h => by rw [if_pos h] at htst; omega)]
        exact hf
      refine j_iinc X dX3_ownersOf_32 rfl rfl (Nat.le_of_ble_eq_true rfl) ?_
      refine j_goto (tgt := 5) X dX3_ownersOf_35 (by decide) ?_
      exact ih5 (i + 1, _) (by (try dsimp only); exact ⟨by omega, hBn⟩) (by (try dsimp only); omega)
    · have hbit : (F i).testBit p = true := by
        by_cases h : (F i).testBit p = true
        · exact h
        · rw [if_neg h] at htst; omega
      have hBn : f ||| 2 ^ i = mk (fun i => (F i).testBit p) (i + 1) := by
        rw [mk, if_pos hbit, hf]
      refine j_iload_n X dX3_ownersOf_25 rfl ?_
      refine j_iconst X dX3_ownersOf_26 ?_
      refine j_iload X dX3_ownersOf_27 rfl ?_
      refine j_ishl X dX3_ownersOf_29 (b_shl (by omega)) ?_
      refine j_ior X dX3_ownersOf_30 (b_or _ _) ?_
      refine j_istore_n X dX3_ownersOf_31 rfl (Nat.le_of_ble_eq_true rfl) ?_
      refine j_iinc X dX3_ownersOf_32 rfl rfl (Nat.le_of_ble_eq_true rfl) ?_
      refine j_goto (tgt := 5) X dX3_ownersOf_35 (by decide) ?_
      exact ih5 (i + 1, _) (by (try dsimp only); exact ⟨by omega, hBn⟩) (by (try dsimp only); omega)
def rmX3_ownersWithRightBinders : Room := { frames := 1, cells := 0, slots := 0, locals := 22 }
set_option maxHeartbeats 4000000 in
set_option maxRecDepth 100000 in
theorem c_X3_ownersWithRightBinders (l : Launch) (D : va_G) (nH : Nat) (sk : Sk) (v : Mem) (o : Nat) (S : AS) (hS : Sd D sk o) (hR : SR v o S) : CtI l D yX3_ownersWithRightBinders wsX3_ownersWithRightBinders rmX3_ownersWithRightBinders [.ref o] nH sk v (fun z v' => z = (mk (fun i => rt (bn S i) (tx S)) (no S) : Int) ∧ v = v') := by
  refine ct_of (cc := cX3_ownersWithRightBinders) (maxL := 3) (ret := (some .int)) rfl rfl (Nat.le_of_ble_eq_true rfl) ?_
  intro p_ e_ s_ m_ args_ below_ meth_ c_ X hmn hsz
  have hinX3 : ∀ w ∈ wsX30, w ∈ wsX3_ownersWithRightBinders := by decide +kernel
  obtain ⟨s0, s1, s2, s3, ⟨g, s5, hg⟩, s6, s7, s8⟩ := id hS
  obtain ⟨r1, r2, r3, r4, r5, r6⟩ := id hR
  have hn8 := r1.2.1
  obtain ⟨T, hTp, hT⟩ := id r4
  obtain ⟨s30, s31⟩ := id s3
  refine j_iconst X dX3_ownersWithRightBinders_0 ?_
  refine j_istore_n X dX3_ownersWithRightBinders_1 rfl (Nat.le_of_ble_eq_true rfl) ?_
  refine j_iconst X dX3_ownersWithRightBinders_2 ?_
  refine j_istore_n X dX3_ownersWithRightBinders_3 rfl (Nat.le_of_ble_eq_true rfl) ?_
  refine j_loop (σ := Nat × Nat) (fun (y_ : Nat × Nat) => match y_ with | (i, f) => i ≤ no S ∧ f = mk (fun i => rt (bn S i) (tx S)) i) (fun (y_ : Nat × Nat) => match y_ with | (i, f) => no S - i) (fun (y_ : Nat × Nat) => match y_ with | (i, f) => (v, [some (.ref o), some (.int (I (f : Int))), some (.int (I (i : Int)))])) ?_ (0, 0) ⟨by omega, rfl⟩
  intro y_ hx ih4
  obtain ⟨i, f⟩ := y_
  dsimp only at hx ih4 ⊢
  obtain ⟨hi, hf⟩ := hx
  refine j_iload_n X dX3_ownersWithRightBinders_4 rfl ?_
  refine j_aload_n X dX3_ownersWithRightBinders_5 rfl ?_
  refine j_geti X dX3_ownersWithRightBinders_6 (T := TX3) (N := 8) (C := RX3) hinX3 rfl (by assumption) 7 (by decide) (by decide +kernel) rfl ?_
  refine j_icmp_ge (tgt := 40) X dX3_ownersWithRightBinders_9 (by omega) (by decide) (fun c9 => ?_) (fun c9 => ?_)
  · refine j_iload_n X dX3_ownersWithRightBinders_40 rfl ?_
    exact j_iret X dX3_ownersWithRightBinders_41 ⟨_, rfl, rfl, ⟨by rw [hf, show i = no S by omega], rfl⟩⟩
  · obtain ⟨⟨L1, hp1, hL1⟩, -, -⟩ := r6 i (by omega)
    have hbi := s8 i (by omega)
    obtain ⟨hbi0, hbi1⟩ := id hbi
    refine j_aload_n X dX3_ownersWithRightBinders_12 rfl ?_
    refine j_getr X dX3_ownersWithRightBinders_13 (T := TX3) (N := 8) (C := RX3) hinX3 rfl (by assumption) 4 (by decide) (by decide +kernel) rfl ?_
    refine j_iload_n X dX3_ownersWithRightBinders_16 rfl ?_
    refine j_aald (t0 := 3) X dX3_ownersWithRightBinders_17 (by assumption) rfl (by omega) (by decide) (by rw [Int.toNat_natCast]; exact hg i (by omega)) ?_
    refine j_aload_n X dX3_ownersWithRightBinders_18 rfl ?_
    refine j_getr X dX3_ownersWithRightBinders_19 (T := TX3) (N := 8) (C := RX3) hinX3 rfl (by assumption) 3 (by decide) (by decide +kernel) rfl ?_
    refine j_callV (nn := 1) X dX3_ownersWithRightBinders_22 (c_X0_isSameAs l D nH sk v (o + 8 + 2 * i) (o + 3) L1 T hbi hL1 s3 hT) gX3_ownersWithRightBinders_X0_isSameAs rfl ⟨rfl, rfl⟩ (by decide +kernel) ⟨Nat.le_of_ble_eq_true rfl, Nat.le_of_ble_eq_true rfl⟩ (by assumption) ⟨rfl, rfl⟩ rfl rfl (Nat.le_of_ble_eq_true rfl) ⟨Nat.zero_le _, Nat.zero_le _⟩ (kI (fun z22 v22 h22 => ?_))
    obtain ⟨hz0, hz1, rfl⟩ := h22
    refine j_if_eq (tgt := 34) X dX3_ownersWithRightBinders_25 (by omega) (by decide) (fun c25 => ?_) (fun c25 => ?_)
    · have hBn : f = mk (fun i => rt (bn S i) (tx S)) (i + 1) := by
        rw [mk, if_neg (fun h => by have := hz1.mpr (sorted_eq (hp1.trans ((rt_iff.mp h).trans hTp.symm)) hL1.2.2.2.1 hT.2.2.2.1); omega)]
        exact hf
      refine j_iinc X dX3_ownersWithRightBinders_34 rfl rfl (Nat.le_of_ble_eq_true rfl) ?_
      refine j_goto (tgt := 4) X dX3_ownersWithRightBinders_37 (by decide) ?_
      exact ih4 (i + 1, _) (by (try dsimp only); exact ⟨by omega, hBn⟩) (by (try dsimp only); omega)
    · have hBn : f ||| 2 ^ i = mk (fun i => rt (bn S i) (tx S)) (i + 1) := by
        rw [mk, if_pos (rt_iff.mpr (by have e := hz1.mp (by omega); rw [e] at hp1; exact hp1.symm.trans hTp)), hf]
      refine j_iload_n X dX3_ownersWithRightBinders_28 rfl ?_
      refine j_iconst X dX3_ownersWithRightBinders_29 ?_
      refine j_iload_n X dX3_ownersWithRightBinders_30 rfl ?_
      refine j_ishl X dX3_ownersWithRightBinders_31 (b_shl (by omega)) ?_
      refine j_ior X dX3_ownersWithRightBinders_32 (b_or _ _) ?_
      refine j_istore_n X dX3_ownersWithRightBinders_33 rfl (Nat.le_of_ble_eq_true rfl) ?_
      refine j_iinc X dX3_ownersWithRightBinders_34 rfl rfl (Nat.le_of_ble_eq_true rfl) ?_
      refine j_goto (tgt := 4) X dX3_ownersWithRightBinders_37 (by decide) ?_
      exact ih4 (i + 1, _) (by (try dsimp only); exact ⟨by omega, hBn⟩) (by (try dsimp only); omega)
def rmX3_parcelWithMostLeaves : Room := { frames := 2, cells := 0, slots := 0, locals := 43 }
set_option maxHeartbeats 4000000 in
set_option maxRecDepth 100000 in
theorem c_X3_parcelWithMostLeaves (l : Launch) (D : va_G) (nH : Nat) (sk : Sk) (v : Mem) (o : Nat) (S : AS) (hS : Sd D sk o) (hR : SR v o S) : CtI l D yX3_parcelWithMostLeaves wsX3_parcelWithMostLeaves rmX3_parcelWithMostLeaves [.ref o] nH sk v (fun z v' => z = (mb (tx S) (np S)).1 ∧ v = v') := by
  refine ct_of (cc := cX3_parcelWithMostLeaves) (maxL := 5) (ret := (some .int)) rfl rfl (Nat.le_of_ble_eq_true rfl) ?_
  intro p_ e_ s_ m_ args_ below_ meth_ c_ X hmn hsz
  have hinX3 : ∀ w ∈ wsX30, w ∈ wsX3_parcelWithMostLeaves := by decide +kernel
  obtain ⟨s0, s1, s2, s3, ⟨g, s5, hg⟩, s6, s7, s8⟩ := id hS
  obtain ⟨r1, r2, r3, r4, r5, r6⟩ := id hR
  have hn16 := r1.1
  have hpn := r2.1
  obtain ⟨T, hTp, hT⟩ := id r4
  obtain ⟨s30, s31⟩ := id s3
  have hTl := hT.2.1
  have hTe := hTp.length_eq
  refine j_bipush X dX3_parcelWithMostLeaves_0 (by decide) ?_
  refine j_istore_n X dX3_parcelWithMostLeaves_2 rfl (Nat.le_of_ble_eq_true rfl) ?_
  refine j_iconst X dX3_parcelWithMostLeaves_3 ?_
  refine j_istore_n X dX3_parcelWithMostLeaves_4 rfl (Nat.le_of_ble_eq_true rfl) ?_
  refine j_iconst X dX3_parcelWithMostLeaves_5 ?_
  refine j_istore_n X dX3_parcelWithMostLeaves_6 rfl (Nat.le_of_ble_eq_true rfl) ?_
  refine j_loop (σ := Nat × Int × Nat) (fun (y_ : Nat × Int × Nat) => match y_ with | (i, b, m) => i ≤ np S ∧ mb (tx S) i = (b, m)) (fun (y_ : Nat × Int × Nat) => match y_ with | (i, b, m) => np S - i) (fun (y_ : Nat × Int × Nat) => match y_ with | (i, b, m) => (v, [some (.ref o), some (.int (I b)), some (.int (I (m : Int))), some (.int (I (i : Int))), none])) ?_ (0, -6, 0) ⟨by omega, rfl⟩
  intro y_ hx ih7
  obtain ⟨i, b, m⟩ := y_
  dsimp only at hx ih7 ⊢
  obtain ⟨hi, hf⟩ := hx
  have hmb := mb_bd (tx S) i
  rw [hf] at hmb
  dsimp only at hmb
  refine j_iload_n X dX3_parcelWithMostLeaves_7 rfl ?_
  refine j_aload_n X dX3_parcelWithMostLeaves_8 rfl ?_
  refine j_geti X dX3_parcelWithMostLeaves_9 (T := TX3) (N := 8) (C := RX3) hinX3 rfl (by assumption) 2 (by decide) (by decide +kernel) rfl ?_
  refine j_icmp_ge (tgt := 42) X dX3_parcelWithMostLeaves_12 (by omega) (by decide) (fun c12 => ?_) (fun c12 => ?_)
  · refine j_iload_n X dX3_parcelWithMostLeaves_42 rfl ?_
    exact j_iret X dX3_parcelWithMostLeaves_43 ⟨_, rfl, rfl, ⟨by rw [show np S = i by omega, hf], rfl⟩⟩
  · refine j_aload_n X dX3_parcelWithMostLeaves_15 rfl ?_
    refine j_getr X dX3_parcelWithMostLeaves_16 (T := TX3) (N := 8) (C := RX3) hinX3 rfl (by assumption) 3 (by decide) (by decide +kernel) rfl ?_
    refine j_iload_n X dX3_parcelWithMostLeaves_19 rfl ?_
    refine j_callV (nn := 1) X dX3_parcelWithMostLeaves_20 (c_X0_leavesOf l D nH sk v (o + 3) i T s3 hT (by omega)) gX3_parcelWithMostLeaves_X0_leavesOf rfl ⟨rfl, rfl⟩ (by decide +kernel) ⟨Nat.le_of_ble_eq_true rfl, Nat.le_of_ble_eq_true rfl⟩ (by assumption) ⟨rfl, rfl⟩ rfl rfl (Nat.le_of_ble_eq_true rfl) ⟨Nat.zero_le _, Nat.zero_le _⟩ (kI (fun z20 v20 h20 => ?_))
    obtain ⟨rfl, rfl⟩ := h20
    have hcc : List.countP (fun x => x % 16 == i) T = cntI (tx S) i := cntI_perm hTp i
    rw [hcc]
    have hcl : cntI (tx S) i ≤ (tx S).length := List.countP_le_length
    refine j_istore X dX3_parcelWithMostLeaves_23 rfl (Nat.le_of_ble_eq_true rfl) ?_
    refine j_iload X dX3_parcelWithMostLeaves_25 rfl ?_
    refine j_iload_n X dX3_parcelWithMostLeaves_27 rfl ?_
    refine j_icmp_le (tgt := 36) X dX3_parcelWithMostLeaves_28 (by omega) (by decide) (fun c28 => ?_) (fun c28 => ?_)
    · have hBn : mb (tx S) (i + 1) = (b, m) := by
        rw [mb, hf, if_neg (by show ¬ m < _; omega)]
      refine j_iinc X dX3_parcelWithMostLeaves_36 rfl rfl (Nat.le_of_ble_eq_true rfl) ?_
      refine j_goto (tgt := 7) X dX3_parcelWithMostLeaves_39 (by decide) ?_
      refine j_drop 4 ?_
      exact ih7 (i + 1, _, _) (by (try dsimp only); exact ⟨by omega, hBn⟩) (by (try dsimp only); omega)
    · have hBn : mb (tx S) (i + 1) = ((i : Int), cntI (tx S) i) := by
        rw [mb, hf, if_pos (by show m < _; omega)]
      refine j_iload_n X dX3_parcelWithMostLeaves_31 rfl ?_
      refine j_istore_n X dX3_parcelWithMostLeaves_32 rfl (Nat.le_of_ble_eq_true rfl) ?_
      refine j_iload X dX3_parcelWithMostLeaves_33 rfl ?_
      refine j_istore_n X dX3_parcelWithMostLeaves_35 rfl (Nat.le_of_ble_eq_true rfl) ?_
      refine j_iinc X dX3_parcelWithMostLeaves_36 rfl rfl (Nat.le_of_ble_eq_true rfl) ?_
      refine j_goto (tgt := 7) X dX3_parcelWithMostLeaves_39 (by decide) ?_
      refine j_drop 4 ?_
      exact ih7 (i + 1, _, _) (by (try dsimp only); exact ⟨by omega, hBn⟩) (by (try dsimp only); omega)
