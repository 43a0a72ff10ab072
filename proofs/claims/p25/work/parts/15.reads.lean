/-! ===== the whole object: where it lies, what it holds ===== -/
def Xd (D : va_G) (sk : Sk) (x : Nat) : Prop := sk x = some (eO 4 [some (.ref (x + 1)), some (.ref (x + 25)), some (.ref (x + 171)), some (.ref (x + 172)), some (.ref (x + 173)), some (.ref (x + 175))]) ∧ Sd D sk (x + 1) ∧ Hd D sk (x + 25) ∧ (∃ g : Nat → Option Nat, sk (x + 171) = some (eQ D 14 2 g) ∧ ∀ k, k < 2 → g k = some (x + 176 + 24 * k)) ∧ sk (x + 172) = some (eA D 12 2) ∧ Pd D sk (x + 173) ∧ (∃ g : Nat → Option Nat, sk (x + 175) = some (eQ D 13 4 g) ∧ ∀ k, k < 4 → g k = some (x + 224 + 2 * k)) ∧ (∀ k, k < 2 → Sd D sk (x + 176 + 24 * k)) ∧ ∀ k, k < 4 → Bd D sk (x + 224 + 2 * k)
def SLR (v : Mem) (x : Nat) (sl : Nat → Option AS) : Prop := ∀ k, k < 2 → (sl k = none → v (x + 172) k = 0) ∧ ∀ S, sl k = some S → v (x + 172) k = 1 ∧ SR v (x + 176 + 24 * k) S
def XR (v : Mem) (x : Nat) (G : GS) : Prop := SR v (x + 1) G.1 ∧ HR v (x + 25) G.2.1 ∧ PA v (x + 173) G.2.2.2 ∧ SLR v x G.2.2.1
def frX (v v' : Mem) (x : Nat) : Prop := ∀ a, a < x ∨ x + 232 ≤ a → v' a = v a
theorem frX.refl (v : Mem) (x : Nat) : frX v v x := fun _ _ => rfl
theorem SLR.kept {v w : Mem} {x : Nat} {sl : Nat → Option AS} (h : SLR v x sl) (hw : ∀ a, x + 172 ≤ a → a < x + 224 → a ≠ x + 173 → a ≠ x + 174 → a ≠ x + 175 → w a = v a) : SLR w x sl := by
  intro k hk
  obtain ⟨h1, h2⟩ := h k hk
  refine ⟨fun q => by rw [hw _ (by omega) (by omega) (by omega) (by omega) (by omega)]; exact h1 q, fun S q => ?_⟩
  obtain ⟨g1, g2⟩ := h2 S q
  exact ⟨by rw [hw _ (by omega) (by omega) (by omega) (by omega) (by omega)]; exact g1, g2.kept (fun a ha hb => hw a (by omega) (by omega) (by omega) (by omega) (by omega))⟩
/-- a change: the history has a row more, then the moment alone is another -/
theorem XR.rec {v v1 v2 : Mem} {x : Nat} {G : GS} {S : AS} (h : XR v x G) (hH : HR v1 (x + 25) (recH G.2.1 G.1)) (f1 : ∀ a, a < x + 25 ∨ x + 25 + 146 ≤ a → v1 a = v a) (f2 : ∀ a, a < x + 1 ∨ x + 1 + 24 ≤ a → v2 a = v1 a) (hS : SR v2 (x + 1) S) : XR v2 x (recG G S) ∧ frX v v2 x := by
  obtain ⟨h1, h2, h3, h4⟩ := h
  refine ⟨⟨hS, hH.kept (fun a ha hb => f2 a (by omega)), h3.kept (by rw [f2 _ (by omega), f1 _ (by omega)]) (by rw [f2 _ (by omega), f1 _ (by omega)]), h4.kept (fun a ha hb hc hd he => by rw [f2 a (by omega), f1 a (by omega)])⟩, fun a ha => by rw [f2 a (by omega), f1 a (by omega)]⟩
/-- nothing but trial binders changed -/
theorem XR.try {v w : Mem} {x : Nat} {G : GS} (h : XR v x G) (hw : ∀ a, a < x + 224 ∨ x + 232 ≤ a → w a = v a) : XR w x G ∧ frX v w x := by
  obtain ⟨h1, h2, h3, h4⟩ := h
  exact ⟨⟨h1.kept (fun a ha hb => hw a (by omega)), h2.kept (fun a ha hb => hw a (by omega)), h3.kept (hw _ (by omega)) (hw _ (by omega)), h4.kept (fun a ha hb _ _ _ => hw a (by omega))⟩, fun a ha => hw a (by omega)⟩
theorem SR.mod {v w : Mem} {o i wn ln : Nat} {S : AS} {L : List Nat} (h : SR v o S) (hi : i < no S) (hwn : wn < 65536) (hln : ln < 65536) (hk : ∀ a, o ≤ a → a < o + 24 → a ≠ o + 6 → a ≠ o + 7 → a ≠ o + 8 + 2 * i → a ≠ o + 8 + 2 * i + 1 → w a = v a) (hB : BP w (o + 8 + 2 * i) L) (h6 : w (o + 6) i = (wn : Int)) (h6' : ∀ j, j ≠ i → w (o + 6) j = v (o + 6) j) (h7 : w (o + 7) i = (ln : Int)) (h7' : ∀ j, j ≠ i → w (o + 7) j = v (o + 7) j) : SR w o (setW (setB S i L) i wn ln) := by
  obtain ⟨r1, r2, r3, r4, r5, r6⟩ := h
  have hno := r1.2.1
  refine ⟨(r1.setB i L).setW hwn hln, r2.kept (hk _ (by omega) (by omega) (by omega) (by omega) (by omega) (by omega)) (hk _ (by omega) (by omega) (by omega) (by omega) (by omega) (by omega)) (hk _ (by omega) (by omega) (by omega) (by omega) (by omega) (by omega)), by rw [hk _ (by omega) (by omega) (by omega) (by omega) (by omega) (by omega)]; exact r3, r4.kept (hk _ (by omega) (by omega) (by omega) (by omega) (by omega) (by omega)) (hk _ (by omega) (by omega) (by omega) (by omega) (by omega) (by omega)), fun j hj => ?_, fun j hj => ?_⟩
  · by_cases q : j = i
    · subst q
      obtain ⟨L', -, hL⟩ := hB
      exact ⟨L', hL⟩
    · obtain ⟨L', hL⟩ := r5 j hj
      exact ⟨L', hL.kept (hk _ (by omega) (by omega) (by omega) (by omega) (by omega) (by omega)) (hk _ (by omega) (by omega) (by omega) (by omega) (by omega) (by omega))⟩
  · show BP w (o + 8 + 2 * j) (fset (bn S) i L j) ∧ w (o + 6) j = ((fset (wt S) i wn j : Nat) : Int) ∧ w (o + 7) j = ((fset (lo_ S) i ln j : Nat) : Int)
    have hj2 : j < no S := hj
    by_cases q : j = i
    · subst q
      rw [fset_s, fset_s, fset_s]
      exact ⟨hB, h6, h7⟩
    · rw [fset_n _ _ q, fset_n _ _ q, fset_n _ _ q, h6' j q, h7' j q]
      obtain ⟨b1, b2, b3⟩ := r6 j hj2
      exact ⟨b1.kept (hk _ (by omega) (by omega) (by omega) (by omega) (by omega) (by omega)) (hk _ (by omega) (by omega) (by omega) (by omega) (by omega) (by omega)), b2, b3⟩
theorem fset_id {α : Type} (f : Nat → α) (i : Nat) : fset f i (f i) = f := by
  funext j
  by_cases q : j = i
  · subst q; rw [fset_s]
  · rw [fset_n _ _ q]
theorem setB_id (S : AS) (i w k : Nat) : setW (setB S i (bn S i)) i w k = setW S i w k := by
  unfold setB
  rw [fset_id]
theorem setW_id (S : AS) (i : Nat) (L : List Nat) : setW (setB S i L) i (wt S i) (lo_ S i) = setB S i L := by
  unfold setW
  show (np S, no S, od S, tx S, fset (bn S) i L, fset (wt S) i (wt S i), fset (lo_ S) i (lo_ S i)) = _
  rw [fset_id, fset_id]
  rfl
def rmX4_isNumber : Room := { frames := 0, cells := 0, slots := 0, locals := 0 }
set_option maxHeartbeats 4000000 in
set_option maxRecDepth 100000 in
theorem c_X4_isNumber (l : Launch) (D : va_G) (nH : Nat) (sk : Sk) (v : Mem) (n : Int) (hn : -2147483648 ≤ n ∧ n ≤ 2147483647) : CtI l D yX4_isNumber wsX4_isNumber rmX4_isNumber [.int (I n)] nH sk v (fun z v' => (z = 0 ∨ z = 1) ∧ (z = 1 ↔ 10 ≤ n ∧ n ≤ 99) ∧ v = v') := by
  refine ct_of (cc := cX4_isNumber) (maxL := 1) (ret := (some .boolean)) rfl rfl (Nat.le_of_ble_eq_true rfl) ?_
  intro p_ e_ s_ m_ args_ below_ meth_ c_ X hmn hsz
  refine j_iload_n X dX4_isNumber_0 rfl ?_
  refine j_bipush X dX4_isNumber_1 (by decide) ?_
  refine j_icmp_lt (tgt := 16) X dX4_isNumber_3 (by omega) (by decide) (fun c3 => ?_) (fun c3 => ?_)
  · refine j_iconst X dX4_isNumber_16 ?_
    first
      | have hret : ((1 : Int) = 0 ∨ (1 : Int) = 1) ∧ ((1 : Int) = 1 ↔ 10 ≤ n ∧ n ≤ 99) ∧ v = v := ⟨Or.inr rfl, ⟨fun _ => ⟨by omega, by omega⟩, fun _ => rfl⟩, rfl⟩
      | have hret : ((0 : Int) = 0 ∨ (0 : Int) = 1) ∧ ((0 : Int) = 1 ↔ 10 ≤ n ∧ n ≤ 99) ∧ v = v := ⟨Or.inl rfl, ⟨fun h => absurd h (by omega), fun h => by omega⟩, rfl⟩
    exact j_zret X dX4_isNumber_17 (by omega) ⟨_, rfl, rfl, hret⟩
  · refine j_iload_n X dX4_isNumber_6 rfl ?_
    refine j_bipush X dX4_isNumber_7 (by decide) ?_
    refine j_icmp_gt (tgt := 16) X dX4_isNumber_9 (by omega) (by decide) (fun c9 => ?_) (fun c9 => ?_)
    · refine j_iconst X dX4_isNumber_16 ?_
      first
        | have hret : ((1 : Int) = 0 ∨ (1 : Int) = 1) ∧ ((1 : Int) = 1 ↔ 10 ≤ n ∧ n ≤ 99) ∧ v = v := ⟨Or.inr rfl, ⟨fun _ => ⟨by omega, by omega⟩, fun _ => rfl⟩, rfl⟩
        | have hret : ((0 : Int) = 0 ∨ (0 : Int) = 1) ∧ ((0 : Int) = 1 ↔ 10 ≤ n ∧ n ≤ 99) ∧ v = v := ⟨Or.inl rfl, ⟨fun h => absurd h (by omega), fun h => by omega⟩, rfl⟩
      exact j_zret X dX4_isNumber_17 (by omega) ⟨_, rfl, rfl, hret⟩
    · refine j_iconst X dX4_isNumber_12 ?_
      refine j_goto (tgt := 17) X dX4_isNumber_13 (by decide) ?_
      first
        | have hret : ((1 : Int) = 0 ∨ (1 : Int) = 1) ∧ ((1 : Int) = 1 ↔ 10 ≤ n ∧ n ≤ 99) ∧ v = v := ⟨Or.inr rfl, ⟨fun _ => ⟨by omega, by omega⟩, fun _ => rfl⟩, rfl⟩
        | have hret : ((0 : Int) = 0 ∨ (0 : Int) = 1) ∧ ((0 : Int) = 1 ↔ 10 ≤ n ∧ n ≤ 99) ∧ v = v := ⟨Or.inl rfl, ⟨fun h => absurd h (by omega), fun h => by omega⟩, rfl⟩
      exact j_zret X dX4_isNumber_17 (by omega) ⟨_, rfl, rfl, hret⟩
def rmX4_isSlot : Room := { frames := 0, cells := 0, slots := 0, locals := 0 }
def rmX4_tried : Room := { frames := 5, cells := 0, slots := 0, locals := 117 }
set_option maxHeartbeats 4000000 in
set_option maxRecDepth 100000 in
theorem c_X4_tried (l : Launch) (D : va_G) (nH : Nat) (sk : Sk) (v : Mem) (x i w : Nat) (G : GS) (hX : Xd D sk x) (hR : XR v x G) (hi : i < no G.1) (hw : w < 2147483648) : CtA l D yX4_tried wsX4_tried rmX4_tried [.ref x, .int (I i), .int (I w)] nH sk v (fun a v' => a = x + 224 ∧ BP v' (x + 224) (tryL G.1 i w) ∧ fr v v' (x + 224)) := by
  refine ct_of (cc := cX4_tried) (maxL := 4) (ret := (some (.object "BinderParcels$Binder"))) rfl rfl (Nat.le_of_ble_eq_true rfl) ?_
  intro p_ e_ s_ m_ args_ below_ meth_ c_ X hmn hsz
  have hinX3 : ∀ w ∈ wsX30, w ∈ wsX4_tried := by decide +kernel
  have hinX4 : ∀ w ∈ wsX40, w ∈ wsX4_tried := by decide +kernel
  obtain ⟨x0, hN, hH, ⟨gs, x171, hgs⟩, x172, hPd, ⟨gt, x175, hgt⟩, hSl, hTr⟩ := id hX
  obtain ⟨n0, n1, n2, n3, ⟨gn, n5, hgn⟩, n6, n7, n8⟩ := id hN
  obtain ⟨hh0, hh1, hh2⟩ := id hH
  obtain ⟨p0, p1⟩ := id hPd
  obtain ⟨n30, n31⟩ := id n3
  obtain ⟨hS, hHR, hP, hSlR⟩ := id hR
  obtain ⟨r1, r2, r3, r4, r5, r6⟩ := id hS
  have hnp := r2.1
  have hno8 := r1.2.1
  have hnp16 := r1.1
  obtain ⟨hBi, hWi, hLi⟩ := r6 i (by omega)
  have hbi := n8 i (by omega)
  obtain ⟨hbi0, hbi1⟩ := id hbi
  obtain ⟨L1, hp1, hL1⟩ := id hBi
  have htr := hTr 0 (by omega)
  rw [show x + 224 + 2 * 0 = x + 224 by omega] at htr
  obtain ⟨htr0, htr1⟩ := id htr
  refine j_aload_n X dX4_tried_0 rfl ?_
  refine j_getr X dX4_tried_1 (T := TX4) (N := 6) (C := RX4) hinX4 rfl (by assumption) 5 (by decide) (by decide +kernel) rfl ?_
  refine j_iconst X dX4_tried_4 ?_
  refine j_aald (t0 := 3) X dX4_tried_5 (by assumption) rfl (by omega) (by decide) (show gt (Int.toNat 0) = some (x + 224) from hgt 0 (by omega)) ?_
  refine j_astore_n X dX4_tried_6 rfl (Nat.le_of_ble_eq_true rfl) ?_
  refine j_aload_n X dX4_tried_7 rfl ?_
  refine j_aload_n X dX4_tried_8 rfl ?_
  refine j_getr X dX4_tried_9 (T := TX4) (N := 6) (C := RX4) hinX4 rfl (by assumption) 0 (by decide) (by decide +kernel) rfl ?_
  refine j_getrN X dX4_tried_12 (T := TX3) (N := 8) (C := RX3) hinX3 rfl (by assumption) 4 (by decide) (by decide) rfl rfl ?_
  refine j_iload_n X dX4_tried_15 rfl ?_
  refine j_aald (t0 := 3) X dX4_tried_16 (by assumption) rfl (by omega) (by decide) (by rw [Int.toNat_natCast]; exact hgn i (by omega)) ?_
  refine j_callV (nn := 1) X dX4_tried_17 (c_X0_copy l D nH sk v (x + 224) (x + 1 + 8 + 2 * i) L1 htr hbi hL1) gX4_tried_X0_copy rfl ⟨rfl, rfl⟩ (by decide +kernel) ⟨Nat.le_of_ble_eq_true rfl, Nat.le_of_ble_eq_true rfl⟩ (by assumption) ⟨rfl, rfl⟩ rfl rfl (Nat.le_of_ble_eq_true rfl) ⟨Nat.zero_le _, Nat.zero_le _⟩ (kV (fun v17 h17 => ?_))
  obtain ⟨hL17, f17⟩ := h17
  have hO17 := r2.fr hN htr f17
  refine j_aload_n X dX4_tried_20 rfl ?_
  refine j_getr X dX4_tried_21 (T := TX4) (N := 6) (C := RX4) hinX4 rfl (by assumption) 0 (by decide) (by decide +kernel) rfl ?_
  refine j_aload_n X dX4_tried_24 rfl ?_
  refine j_iload_n X dX4_tried_25 rfl ?_
  refine j_callV (nn := 2) X dX4_tried_26 (c_X3_doSetWithCare l D nH sk v17 (x + 1) (x + 224) w G.1 (bn G.1 i) hN htr hO17 hw ⟨L1, hp1, hL17⟩) gX4_tried_X3_doSetWithCare rfl ⟨rfl, rfl⟩ (by decide +kernel) ⟨Nat.le_of_ble_eq_true rfl, Nat.le_of_ble_eq_true rfl⟩ (by assumption) ⟨rfl, rfl⟩ rfl rfl (Nat.le_of_ble_eq_true rfl) ⟨Nat.zero_le _, Nat.zero_le _⟩ (kV (fun v26 h26 => ?_))
  obtain ⟨hB26, f26⟩ := h26
  refine j_aload_n X dX4_tried_29 rfl ?_
  exact j_aret X dX4_tried_30 ⟨_, rfl, rfl, ⟨rfl, hB26, f17.trans f26⟩⟩
def rmX4_text : Room := { frames := 3, cells := 0, slots := 0, locals := 65 }
set_option maxHeartbeats 4000000 in
set_option maxRecDepth 100000 in
theorem c_X4_text (l : Launch) (D : va_G) (nH : Nat) (sk : Sk) (v : Mem) (x : Nat) (n : Int) (G : GS) (hX : Xd D sk x) (hR : XR v x G) (hn : -2147483648 ≤ n ∧ n ≤ 2147483647) : CtI l D yX4_text wsX4_text rmX4_text [.ref x, .int (I n)] nH sk v (fun z v' => z = sText G n ∧ v = v') := by
  refine ct_of (cc := cX4_text) (maxL := 2) (ret := (some .int)) rfl rfl (Nat.le_of_ble_eq_true rfl) ?_
  intro p_ e_ s_ m_ args_ below_ meth_ c_ X hmn hsz
  have hinX3 : ∀ w ∈ wsX30, w ∈ wsX4_text := by decide +kernel
  have hinX4 : ∀ w ∈ wsX40, w ∈ wsX4_text := by decide +kernel
  obtain ⟨x0, hN, hH, ⟨gs, x171, hgs⟩, x172, hPd, ⟨gt, x175, hgt⟩, hSl, hTr⟩ := id hX
  obtain ⟨n0, n1, n2, n3, ⟨gn, n5, hgn⟩, n6, n7, n8⟩ := id hN
  obtain ⟨hh0, hh1, hh2⟩ := id hH
  obtain ⟨p0, p1⟩ := id hPd
  obtain ⟨n30, n31⟩ := id n3
  obtain ⟨hS, hHR, hP, hSlR⟩ := id hR
  obtain ⟨r1, r2, r3, r4, r5, r6⟩ := id hS
  have hnp := r2.1
  have hno8 := r1.2.1
  have hnp16 := r1.1
  obtain ⟨T, hTp, hT⟩ := id r4
  have hu := r1.2.2.2.1
  have huT := unq_perm hTp.symm hu
  refine j_iload_n X dX4_text_0 rfl ?_
  refine j_callS (nn := 1) X dX4_text_1 (c_X4_isNumber l D nH sk v n hn) gX4_text_X4_isNumber rfl ⟨rfl, rfl⟩ (by decide +kernel) ⟨Nat.le_of_ble_eq_true rfl, Nat.le_of_ble_eq_true rfl⟩ rfl rfl (Nat.le_of_ble_eq_true rfl) ⟨Nat.zero_le _, Nat.zero_le _⟩ (kI (fun z1 v1 h1 => ?_))
  obtain ⟨hz1a, hz1b, rfl⟩ := h1
  refine j_if_ne (tgt := 10) X dX4_text_4 (by omega) (by decide) (fun c4 => ?_) (fun c4 => ?_)
  · have hqm : 10 ≤ n ∧ n ≤ 99 := by omega
    obtain ⟨m, rfl⟩ : ∃ m : Nat, n = (m : Int) := ⟨n.toNat, by omega⟩
    refine j_aload_n X dX4_text_10 rfl ?_
    refine j_getr X dX4_text_11 (T := TX4) (N := 6) (C := RX4) hinX4 rfl (by assumption) 0 (by decide) (by decide +kernel) rfl ?_
    refine j_getrN X dX4_text_14 (T := TX3) (N := 8) (C := RX3) hinX3 rfl (by assumption) 3 (by decide) (by decide) rfl rfl ?_
    refine j_iload_n X dX4_text_17 rfl ?_
    refine j_callV (nn := 1) X dX4_text_18 (c_X0_earliestIssue l D nH sk v (x + 1 + 3) m T n3 hT (by omega)) gX4_text_X0_earliestIssue rfl ⟨rfl, rfl⟩ (by decide +kernel) ⟨Nat.le_of_ble_eq_true rfl, Nat.le_of_ble_eq_true rfl⟩ (by assumption) ⟨rfl, rfl⟩ rfl rfl (Nat.le_of_ble_eq_true rfl) ⟨Nat.zero_le _, Nat.zero_le _⟩ (kI (fun z18 v18 h18 => ?_))
    obtain ⟨h18, rfl⟩ := h18
    exact j_iret X dX4_text_21 ⟨_, rfl, rfl, ⟨by unfold sText; rw [cite_f (by unfold isNu; omega), Int.toNat_natCast]; exact (the_is (isE_perm hTp h18) (fun a b h1 h2 => h1.uniq h2)).symm, rfl⟩⟩
  · refine j_bipush X dX4_text_7 (by decide) ?_
    exact j_iret X dX4_text_9 ⟨_, rfl, rfl, ⟨(cite_t (by unfold isNu; omega) _ _).symm, rfl⟩⟩
def rmX4_leaf : Room := { frames := 4, cells := 0, slots := 0, locals := 90 }
set_option maxHeartbeats 4000000 in
set_option maxRecDepth 100000 in
theorem c_X4_leaf (l : Launch) (D : va_G) (nH : Nat) (sk : Sk) (v : Mem) (x : Nat) (o n w : Int) (G : GS) (hX : Xd D sk x) (hR : XR v x G) (ho : -2147483648 ≤ o ∧ o ≤ 2147483647)(hn : -2147483648 ≤ n ∧ n ≤ 2147483647)(hw : -2147483648 ≤ w ∧ w ≤ 2147483647) : CtI l D yX4_leaf wsX4_leaf rmX4_leaf [.ref x, .int (I o), .int (I n), .int (I w)] nH sk v (fun z v' => z = sLeaf G o n w ∧ v = v') := by
  refine ct_of (cc := cX4_leaf) (maxL := 5) (ret := (some .int)) rfl rfl (Nat.le_of_ble_eq_true rfl) ?_
  intro p_ e_ s_ m_ args_ below_ meth_ c_ X hmn hsz
  have hinX3 : ∀ w ∈ wsX30, w ∈ wsX4_leaf := by decide +kernel
  have hinX4 : ∀ w ∈ wsX40, w ∈ wsX4_leaf := by decide +kernel
  obtain ⟨x0, hN, hH, ⟨gs, x171, hgs⟩, x172, hPd, ⟨gt, x175, hgt⟩, hSl, hTr⟩ := id hX
  obtain ⟨n0, n1, n2, n3, ⟨gn, n5, hgn⟩, n6, n7, n8⟩ := id hN
  obtain ⟨hh0, hh1, hh2⟩ := id hH
  obtain ⟨p0, p1⟩ := id hPd
  obtain ⟨n30, n31⟩ := id n3
  obtain ⟨hS, hHR, hP, hSlR⟩ := id hR
  obtain ⟨r1, r2, r3, r4, r5, r6⟩ := id hS
  have hnp := r2.1
  have hno8 := r1.2.1
  have hnp16 := r1.1
  obtain ⟨T, hTp, hT⟩ := id r4
  have hu := r1.2.2.2.1
  have huT := unq_perm hTp.symm hu
  refine j_aload_n X dX4_leaf_0 rfl ?_
  refine j_getr X dX4_leaf_1 (T := TX4) (N := 6) (C := RX4) hinX4 rfl (by assumption) 0 (by decide) (by decide +kernel) rfl ?_
  refine j_iload_n X dX4_leaf_4 rfl ?_
  refine j_callV (nn := 1) X dX4_leaf_5 (c_X3_hasOwner l D nH sk v (x + 1) o (no G.1) hN ho r3 hno8) gX4_leaf_X3_hasOwner rfl ⟨rfl, rfl⟩ (by decide +kernel) ⟨Nat.le_of_ble_eq_true rfl, Nat.le_of_ble_eq_true rfl⟩ (by assumption) ⟨rfl, rfl⟩ rfl rfl (Nat.le_of_ble_eq_true rfl) ⟨Nat.zero_le _, Nat.zero_le _⟩ (kI (fun z5 v5 h5 => ?_))
  obtain ⟨hz5a, hz5b, rfl⟩ := h5
  refine j_if_ne (tgt := 13) X dX4_leaf_8 (by omega) (by decide) (fun c8 => ?_) (fun c8 => ?_)
  · have hqi : 0 ≤ o ∧ o < (no G.1 : Int) := by omega
    obtain ⟨i, rfl⟩ : ∃ i : Nat, o = (i : Int) := ⟨o.toNat, by omega⟩
    refine j_iload_n X dX4_leaf_13 rfl ?_
    refine j_callS (nn := 1) X dX4_leaf_14 (c_X4_isNumber l D nH sk v n hn) gX4_leaf_X4_isNumber rfl ⟨rfl, rfl⟩ (by decide +kernel) ⟨Nat.le_of_ble_eq_true rfl, Nat.le_of_ble_eq_true rfl⟩ rfl rfl (Nat.le_of_ble_eq_true rfl) ⟨Nat.zero_le _, Nat.zero_le _⟩ (kI (fun z14 v14 h14 => ?_))
    obtain ⟨hz14a, hz14b, rfl⟩ := h14
    refine j_if_ne (tgt := 23) X dX4_leaf_17 (by omega) (by decide) (fun c17 => ?_) (fun c17 => ?_)
    · have hqm : 10 ≤ n ∧ n ≤ 99 := by omega
      obtain ⟨m, rfl⟩ : ∃ m : Nat, n = (m : Int) := ⟨n.toNat, by omega⟩
      obtain ⟨hBi, hWi, hLi⟩ := r6 i (by omega)
      have hbi := n8 i (by omega)
      obtain ⟨hbi0, hbi1⟩ := id hbi
      obtain ⟨L1, hp1, hL1⟩ := id hBi
      refine j_aload_n X dX4_leaf_23 rfl ?_
      refine j_getr X dX4_leaf_24 (T := TX4) (N := 6) (C := RX4) hinX4 rfl (by assumption) 0 (by decide) (by decide +kernel) rfl ?_
      refine j_getrN X dX4_leaf_27 (T := TX3) (N := 8) (C := RX3) hinX3 rfl (by assumption) 4 (by decide) (by decide) rfl rfl ?_
      refine j_iload_n X dX4_leaf_30 rfl ?_
      refine j_aald (t0 := 3) X dX4_leaf_31 (by assumption) rfl (by omega) (by decide) (by rw [Int.toNat_natCast]; exact hgn i (by omega)) ?_
      refine j_astore X dX4_leaf_32 rfl (Nat.le_of_ble_eq_true rfl) ?_
      refine j_iload_n X dX4_leaf_34 rfl ?_
      by_cases cs35_0 : w = 0
      · refine j_tabIn (tgt := 72) (off := 37) X dX4_leaf_35 (by omega) (by omega) (by rw [cs35_0]; rfl) (by decide) ?_
        refine j_aload X dX4_leaf_72 rfl ?_
        refine j_iload_n X dX4_leaf_74 rfl ?_
        refine j_callV (nn := 1) X dX4_leaf_75 (c_X0_held l D nH sk v (x + 1 + 8 + 2 * i) m L1 hbi hL1 (by omega)) gX4_leaf_X0_held rfl ⟨rfl, rfl⟩ (by decide +kernel) ⟨Nat.le_of_ble_eq_true rfl, Nat.le_of_ble_eq_true rfl⟩ (by assumption) ⟨rfl, rfl⟩ rfl rfl (Nat.le_of_ble_eq_true rfl) ⟨Nat.zero_le _, Nat.zero_le _⟩ (kI (fun z75 v75 h75 => ?_))
        obtain ⟨rfl, rfl⟩ := h75
        exact j_iret X dX4_leaf_78 ⟨_, rfl, rfl, ⟨by unfold sLeaf; rw [cite_f (by unfold isO; omega), cite_f (by unfold isNu; omega), Int.toNat_natCast, Int.toNat_natCast]; rw [cite_t (by omega), cntN_perm hp1], rfl⟩⟩
      by_cases cs35_1 : w = 1
      · refine j_tabIn (tgt := 79) (off := 44) X dX4_leaf_35 (by omega) (by omega) (by rw [cs35_1]; rfl) (by decide) ?_
        refine j_aload X dX4_leaf_79 rfl ?_
        refine j_iload_n X dX4_leaf_81 rfl ?_
        refine j_callV (nn := 1) X dX4_leaf_82 (c_X0_earliestIssue l D nH sk v (x + 1 + 8 + 2 * i) m L1 hbi hL1 (by omega)) gX4_leaf_X0_earliestIssue rfl ⟨rfl, rfl⟩ (by decide +kernel) ⟨Nat.le_of_ble_eq_true rfl, Nat.le_of_ble_eq_true rfl⟩ (by assumption) ⟨rfl, rfl⟩ rfl rfl (Nat.le_of_ble_eq_true rfl) ⟨Nat.zero_le _, Nat.zero_le _⟩ (kI (fun z82 v82 h82 => ?_))
        obtain ⟨h82, rfl⟩ := h82
        exact j_iret X dX4_leaf_85 ⟨_, rfl, rfl, ⟨by unfold sLeaf; rw [cite_f (by unfold isO; omega), cite_f (by unfold isNu; omega), Int.toNat_natCast, Int.toNat_natCast]; rw [cite_f (by omega), cite_t (by omega)]; exact (the_is (isE_perm hp1 h82) (fun a b h1 h2 => h1.uniq h2)).symm, rfl⟩⟩
      by_cases cs35_2 : w = 2
      · refine j_tabIn (tgt := 86) (off := 51) X dX4_leaf_35 (by omega) (by omega) (by rw [cs35_2]; rfl) (by decide) ?_
        refine j_aload X dX4_leaf_86 rfl ?_
        refine j_iload_n X dX4_leaf_88 rfl ?_
        refine j_callV (nn := 1) X dX4_leaf_89 (c_X0_latestIssue l D nH sk v (x + 1 + 8 + 2 * i) m L1 hbi hL1 (by omega)) gX4_leaf_X0_latestIssue rfl ⟨rfl, rfl⟩ (by decide +kernel) ⟨Nat.le_of_ble_eq_true rfl, Nat.le_of_ble_eq_true rfl⟩ (by assumption) ⟨rfl, rfl⟩ rfl rfl (Nat.le_of_ble_eq_true rfl) ⟨Nat.zero_le _, Nat.zero_le _⟩ (kI (fun z89 v89 h89 => ?_))
        obtain ⟨h89, rfl⟩ := h89
        exact j_iret X dX4_leaf_92 ⟨_, rfl, rfl, ⟨by unfold sLeaf; rw [cite_f (by unfold isO; omega), cite_f (by unfold isNu; omega), Int.toNat_natCast, Int.toNat_natCast]; rw [cite_f (by omega), cite_f (by omega), cite_t (by omega)]; exact (the_is (isLt_perm hp1 h89) (fun a b h1 h2 => h1.uniq h2)).symm, rfl⟩⟩
      by_cases cs35_3 : w = 3
      · refine j_tabIn (tgt := 93) (off := 58) X dX4_leaf_35 (by omega) (by omega) (by rw [cs35_3]; rfl) (by decide) ?_
        refine j_aload X dX4_leaf_93 rfl ?_
        refine j_aload_n X dX4_leaf_95 rfl ?_
        refine j_getr X dX4_leaf_96 (T := TX4) (N := 6) (C := RX4) hinX4 rfl (by assumption) 0 (by decide) (by decide +kernel) rfl ?_
        refine j_getrN X dX4_leaf_99 (T := TX3) (N := 8) (C := RX3) hinX3 rfl (by assumption) 3 (by decide) (by decide) rfl rfl ?_
        refine j_iload_n X dX4_leaf_102 rfl ?_
        refine j_iload_n X dX4_leaf_103 rfl ?_
        refine j_callV (nn := 3) X dX4_leaf_104 (c_X0_difference l D nH sk v (x + 1 + 8 + 2 * i) (x + 1 + 3) m w L1 T hbi hL1 n3 hT huT (by omega) (by omega)) gX4_leaf_X0_difference rfl ⟨rfl, rfl⟩ (by decide +kernel) ⟨Nat.le_of_ble_eq_true rfl, Nat.le_of_ble_eq_true rfl⟩ (by assumption) ⟨rfl, rfl⟩ rfl rfl (Nat.le_of_ble_eq_true rfl) ⟨Nat.zero_le _, Nat.zero_le _⟩ (kI (fun z104 v104 h104 => ?_))
        obtain ⟨rfl, rfl⟩ := h104
        exact j_iret X dX4_leaf_107 ⟨_, rfl, rfl, ⟨by unfold sLeaf; rw [cite_f (by unfold isO; omega), cite_f (by unfold isNu; omega), Int.toNat_natCast, Int.toNat_natCast]; rw [cite_f (by omega), cite_f (by omega), cite_f (by omega), cite_t (by omega), dif_perm hp1 hTp], rfl⟩⟩
      by_cases cs35_4 : w = 4
      · refine j_tabIn (tgt := 93) (off := 58) X dX4_leaf_35 (by omega) (by omega) (by rw [cs35_4]; rfl) (by decide) ?_
        refine j_aload X dX4_leaf_93 rfl ?_
        refine j_aload_n X dX4_leaf_95 rfl ?_
        refine j_getr X dX4_leaf_96 (T := TX4) (N := 6) (C := RX4) hinX4 rfl (by assumption) 0 (by decide) (by decide +kernel) rfl ?_
        refine j_getrN X dX4_leaf_99 (T := TX3) (N := 8) (C := RX3) hinX3 rfl (by assumption) 3 (by decide) (by decide) rfl rfl ?_
        refine j_iload_n X dX4_leaf_102 rfl ?_
        refine j_iload_n X dX4_leaf_103 rfl ?_
        refine j_callV (nn := 3) X dX4_leaf_104 (c_X0_difference l D nH sk v (x + 1 + 8 + 2 * i) (x + 1 + 3) m w L1 T hbi hL1 n3 hT huT (by omega) (by omega)) gX4_leaf_X0_difference rfl ⟨rfl, rfl⟩ (by decide +kernel) ⟨Nat.le_of_ble_eq_true rfl, Nat.le_of_ble_eq_true rfl⟩ (by assumption) ⟨rfl, rfl⟩ rfl rfl (Nat.le_of_ble_eq_true rfl) ⟨Nat.zero_le _, Nat.zero_le _⟩ (kI (fun z104 v104 h104 => ?_))
        obtain ⟨rfl, rfl⟩ := h104
        exact j_iret X dX4_leaf_107 ⟨_, rfl, rfl, ⟨by unfold sLeaf; rw [cite_f (by unfold isO; omega), cite_f (by unfold isNu; omega), Int.toNat_natCast, Int.toNat_natCast]; rw [cite_f (by omega), cite_f (by omega), cite_f (by omega), cite_t (by omega), dif_perm hp1 hTp], rfl⟩⟩
      by_cases cs35_5 : w = 5
      · refine j_tabIn (tgt := 93) (off := 58) X dX4_leaf_35 (by omega) (by omega) (by rw [cs35_5]; rfl) (by decide) ?_
        refine j_aload X dX4_leaf_93 rfl ?_
        refine j_aload_n X dX4_leaf_95 rfl ?_
        refine j_getr X dX4_leaf_96 (T := TX4) (N := 6) (C := RX4) hinX4 rfl (by assumption) 0 (by decide) (by decide +kernel) rfl ?_
        refine j_getrN X dX4_leaf_99 (T := TX3) (N := 8) (C := RX3) hinX3 rfl (by assumption) 3 (by decide) (by decide) rfl rfl ?_
        refine j_iload_n X dX4_leaf_102 rfl ?_
        refine j_iload_n X dX4_leaf_103 rfl ?_
        refine j_callV (nn := 3) X dX4_leaf_104 (c_X0_difference l D nH sk v (x + 1 + 8 + 2 * i) (x + 1 + 3) m w L1 T hbi hL1 n3 hT huT (by omega) (by omega)) gX4_leaf_X0_difference rfl ⟨rfl, rfl⟩ (by decide +kernel) ⟨Nat.le_of_ble_eq_true rfl, Nat.le_of_ble_eq_true rfl⟩ (by assumption) ⟨rfl, rfl⟩ rfl rfl (Nat.le_of_ble_eq_true rfl) ⟨Nat.zero_le _, Nat.zero_le _⟩ (kI (fun z104 v104 h104 => ?_))
        obtain ⟨rfl, rfl⟩ := h104
        exact j_iret X dX4_leaf_107 ⟨_, rfl, rfl, ⟨by unfold sLeaf; rw [cite_f (by unfold isO; omega), cite_f (by unfold isNu; omega), Int.toNat_natCast, Int.toNat_natCast]; rw [cite_f (by omega), cite_f (by omega), cite_f (by omega), cite_t (by omega), dif_perm hp1 hTp], rfl⟩⟩
      refine j_tabOut (tgt := 108) X dX4_leaf_35 (by omega) (by omega) (by decide) ?_
      refine j_bipush X dX4_leaf_108 (by decide) ?_
      exact j_iret X dX4_leaf_110 ⟨_, rfl, rfl, ⟨by unfold sLeaf; rw [cite_f (by unfold isO; omega), cite_f (by unfold isNu; omega), Int.toNat_natCast, Int.toNat_natCast]; rw [cite_f (by omega), cite_f (by omega), cite_f (by omega), cite_f (by omega)], rfl⟩⟩
    · refine j_bipush X dX4_leaf_20 (by decide) ?_
      exact j_iret X dX4_leaf_22 ⟨_, rfl, rfl, ⟨by unfold sLeaf; rw [cite_f (by unfold isO; omega), cite_t (by unfold isNu; omega)], rfl⟩⟩
  · refine j_iconst X dX4_leaf_11 ?_
    exact j_iret X dX4_leaf_12 ⟨_, rfl, rfl, ⟨(cite_t (by unfold isO; omega) _ _).symm, rfl⟩⟩
def rmX4_of : Room := { frames := 5, cells := 0, slots := 0, locals := 114 }
set_option maxHeartbeats 4000000 in
set_option maxRecDepth 100000 in
theorem c_X4_of (l : Launch) (D : va_G) (nH : Nat) (sk : Sk) (v : Mem) (x : Nat) (o w : Int) (G : GS) (hX : Xd D sk x) (hR : XR v x G) (ho : -2147483648 ≤ o ∧ o ≤ 2147483647)(hw : -2147483648 ≤ w ∧ w ≤ 2147483647) : CtI l D yX4_of wsX4_of rmX4_of [.ref x, .int (I o), .int (I w)] nH sk v (fun z v' => z = sOf G o w ∧ v = v') := by
  refine ct_of (cc := cX4_of) (maxL := 4) (ret := (some .int)) rfl rfl (Nat.le_of_ble_eq_true rfl) ?_
  intro p_ e_ s_ m_ args_ below_ meth_ c_ X hmn hsz
  have hinX0 : ∀ w ∈ wsX00, w ∈ wsX4_of := by decide +kernel
  have hinX3 : ∀ w ∈ wsX30, w ∈ wsX4_of := by decide +kernel
  have hinX4 : ∀ w ∈ wsX40, w ∈ wsX4_of := by decide +kernel
  obtain ⟨x0, hN, hH, ⟨gs, x171, hgs⟩, x172, hPd, ⟨gt, x175, hgt⟩, hSl, hTr⟩ := id hX
  obtain ⟨n0, n1, n2, n3, ⟨gn, n5, hgn⟩, n6, n7, n8⟩ := id hN
  obtain ⟨hh0, hh1, hh2⟩ := id hH
  obtain ⟨p0, p1⟩ := id hPd
  obtain ⟨n30, n31⟩ := id n3
  obtain ⟨hS, hHR, hP, hSlR⟩ := id hR
  obtain ⟨r1, r2, r3, r4, r5, r6⟩ := id hS
  have hnp := r2.1
  have hno8 := r1.2.1
  have hnp16 := r1.1
  obtain ⟨T, hTp, hT⟩ := id r4
  have hu := r1.2.2.2.1
  have huT := unq_perm hTp.symm hu
  refine j_aload_n X dX4_of_0 rfl ?_
  refine j_getr X dX4_of_1 (T := TX4) (N := 6) (C := RX4) hinX4 rfl (by assumption) 0 (by decide) (by decide +kernel) rfl ?_
  refine j_iload_n X dX4_of_4 rfl ?_
  refine j_callV (nn := 1) X dX4_of_5 (c_X3_hasOwner l D nH sk v (x + 1) o (no G.1) hN ho r3 hno8) gX4_of_X3_hasOwner rfl ⟨rfl, rfl⟩ (by decide +kernel) ⟨Nat.le_of_ble_eq_true rfl, Nat.le_of_ble_eq_true rfl⟩ (by assumption) ⟨rfl, rfl⟩ rfl rfl (Nat.le_of_ble_eq_true rfl) ⟨Nat.zero_le _, Nat.zero_le _⟩ (kI (fun z5 v5 h5 => ?_))
  obtain ⟨hz5a, hz5b, rfl⟩ := h5
  refine j_if_ne (tgt := 13) X dX4_of_8 (by omega) (by decide) (fun c8 => ?_) (fun c8 => ?_)
  · have hqi : 0 ≤ o ∧ o < (no G.1 : Int) := by omega
    obtain ⟨i, rfl⟩ : ∃ i : Nat, o = (i : Int) := ⟨o.toNat, by omega⟩
    obtain ⟨hBi, hWi, hLi⟩ := r6 i (by omega)
    have hbi := n8 i (by omega)
    obtain ⟨hbi0, hbi1⟩ := id hbi
    obtain ⟨L1, hp1, hL1⟩ := id hBi
    refine j_aload_n X dX4_of_13 rfl ?_
    refine j_getr X dX4_of_14 (T := TX4) (N := 6) (C := RX4) hinX4 rfl (by assumption) 0 (by decide) (by decide +kernel) rfl ?_
    refine j_getrN X dX4_of_17 (T := TX3) (N := 8) (C := RX3) hinX3 rfl (by assumption) 4 (by decide) (by decide) rfl rfl ?_
    refine j_iload_n X dX4_of_20 rfl ?_
    refine j_aald (t0 := 3) X dX4_of_21 (by assumption) rfl (by omega) (by decide) (by rw [Int.toNat_natCast]; exact hgn i (by omega)) ?_
    refine j_astore_n X dX4_of_22 rfl (Nat.le_of_ble_eq_true rfl) ?_
    refine j_iload_n X dX4_of_23 rfl ?_
    by_cases cs24_0 : w = 0
    · refine j_tabIn (tgt := 72) (off := 48) X dX4_of_24 (by omega) (by omega) (by rw [cs24_0]; rfl) (by decide) ?_
      refine j_aload_n X dX4_of_72 rfl ?_
      refine j_getiN X dX4_of_73 (T := TX0) (N := 2) (C := RX0) hinX0 rfl (by assumption) 1 (by decide) (by decide) rfl rfl ?_
      exact j_iret X dX4_of_76 ⟨_, rfl, rfl, ⟨by unfold sOf; rw [cite_f (by unfold isO; omega), Int.toNat_natCast]; rw [cite_t (by omega), hL1.1, hp1.length_eq], rfl⟩⟩
    by_cases cs24_1 : w = 1
    · refine j_tabIn (tgt := 77) (off := 53) X dX4_of_24 (by omega) (by omega) (by rw [cs24_1]; rfl) (by decide) ?_
      refine j_aload_n X dX4_of_77 rfl ?_
      refine j_getr X dX4_of_78 (T := TX4) (N := 6) (C := RX4) hinX4 rfl (by assumption) 0 (by decide) (by decide +kernel) rfl ?_
      refine j_getrN X dX4_of_81 (T := TX3) (N := 8) (C := RX3) hinX3 rfl (by assumption) 5 (by decide) (by decide) rfl rfl ?_
      refine j_iload_n X dX4_of_84 rfl ?_
      refine j_iald X dX4_of_85 (by assumption) (by omega) (by decide) ?_
      rw [Int.toNat_natCast]
      exact j_iret X dX4_of_86 ⟨_, rfl, rfl, ⟨by unfold sOf; rw [cite_f (by unfold isO; omega), Int.toNat_natCast, cite_f (by omega)]; rw [cite_t (by omega)]; exact hWi, rfl⟩⟩
    by_cases cs24_2 : w = 2
    · refine j_tabIn (tgt := 87) (off := 63) X dX4_of_24 (by omega) (by omega) (by rw [cs24_2]; rfl) (by decide) ?_
      refine j_aload_n X dX4_of_87 rfl ?_
      refine j_getr X dX4_of_88 (T := TX4) (N := 6) (C := RX4) hinX4 rfl (by assumption) 0 (by decide) (by decide +kernel) rfl ?_
      refine j_getrN X dX4_of_91 (T := TX3) (N := 8) (C := RX3) hinX3 rfl (by assumption) 6 (by decide) (by decide) rfl rfl ?_
      refine j_iload_n X dX4_of_94 rfl ?_
      refine j_iald X dX4_of_95 (by assumption) (by omega) (by decide) ?_
      rw [Int.toNat_natCast]
      exact j_iret X dX4_of_96 ⟨_, rfl, rfl, ⟨by unfold sOf; rw [cite_f (by unfold isO; omega), Int.toNat_natCast, cite_f (by omega), cite_f (by omega)]; rw [cite_t (by omega)]; exact hLi, rfl⟩⟩
    by_cases cs24_3 : w = 3
    · refine j_tabIn (tgt := 97) (off := 73) X dX4_of_24 (by omega) (by omega) (by rw [cs24_3]; rfl) (by decide) ?_
      refine j_aload_n X dX4_of_97 rfl ?_
      refine j_aload_n X dX4_of_98 rfl ?_
      refine j_getr X dX4_of_99 (T := TX4) (N := 6) (C := RX4) hinX4 rfl (by assumption) 0 (by decide) (by decide +kernel) rfl ?_
      refine j_getrN X dX4_of_102 (T := TX3) (N := 8) (C := RX3) hinX3 rfl (by assumption) 3 (by decide) (by decide) rfl rfl ?_
      refine j_iload_n X dX4_of_105 rfl ?_
      refine j_callV (nn := 2) X dX4_of_106 (c_X0_differences l D nH sk v (x + 1 + 8 + 2 * i) (x + 1 + 3) w L1 T hbi hL1 n3 hT huT (by omega)) gX4_of_X0_differences rfl ⟨rfl, rfl⟩ (by decide +kernel) ⟨Nat.le_of_ble_eq_true rfl, Nat.le_of_ble_eq_true rfl⟩ (by assumption) ⟨rfl, rfl⟩ rfl rfl (Nat.le_of_ble_eq_true rfl) ⟨Nat.zero_le _, Nat.zero_le _⟩ (kI (fun z106 v106 h106 => ?_))
      obtain ⟨rfl, rfl⟩ := h106
      exact j_iret X dX4_of_109 ⟨_, rfl, rfl, ⟨by unfold sOf; rw [cite_f (by unfold isO; omega), Int.toNat_natCast, cite_f (by omega), cite_f (by omega), cite_f (by omega)]; rw [cite_t (by omega), difs_perm hp1 hTp], rfl⟩⟩
    by_cases cs24_4 : w = 4
    · refine j_tabIn (tgt := 97) (off := 73) X dX4_of_24 (by omega) (by omega) (by rw [cs24_4]; rfl) (by decide) ?_
      refine j_aload_n X dX4_of_97 rfl ?_
      refine j_aload_n X dX4_of_98 rfl ?_
      refine j_getr X dX4_of_99 (T := TX4) (N := 6) (C := RX4) hinX4 rfl (by assumption) 0 (by decide) (by decide +kernel) rfl ?_
      refine j_getrN X dX4_of_102 (T := TX3) (N := 8) (C := RX3) hinX3 rfl (by assumption) 3 (by decide) (by decide) rfl rfl ?_
      refine j_iload_n X dX4_of_105 rfl ?_
      refine j_callV (nn := 2) X dX4_of_106 (c_X0_differences l D nH sk v (x + 1 + 8 + 2 * i) (x + 1 + 3) w L1 T hbi hL1 n3 hT huT (by omega)) gX4_of_X0_differences rfl ⟨rfl, rfl⟩ (by decide +kernel) ⟨Nat.le_of_ble_eq_true rfl, Nat.le_of_ble_eq_true rfl⟩ (by assumption) ⟨rfl, rfl⟩ rfl rfl (Nat.le_of_ble_eq_true rfl) ⟨Nat.zero_le _, Nat.zero_le _⟩ (kI (fun z106 v106 h106 => ?_))
      obtain ⟨rfl, rfl⟩ := h106
      exact j_iret X dX4_of_109 ⟨_, rfl, rfl, ⟨by unfold sOf; rw [cite_f (by unfold isO; omega), Int.toNat_natCast, cite_f (by omega), cite_f (by omega), cite_f (by omega)]; rw [cite_t (by omega), difs_perm hp1 hTp], rfl⟩⟩
    by_cases cs24_5 : w = 5
    · refine j_tabIn (tgt := 97) (off := 73) X dX4_of_24 (by omega) (by omega) (by rw [cs24_5]; rfl) (by decide) ?_
      refine j_aload_n X dX4_of_97 rfl ?_
      refine j_aload_n X dX4_of_98 rfl ?_
      refine j_getr X dX4_of_99 (T := TX4) (N := 6) (C := RX4) hinX4 rfl (by assumption) 0 (by decide) (by decide +kernel) rfl ?_
      refine j_getrN X dX4_of_102 (T := TX3) (N := 8) (C := RX3) hinX3 rfl (by assumption) 3 (by decide) (by decide) rfl rfl ?_
      refine j_iload_n X dX4_of_105 rfl ?_
      refine j_callV (nn := 2) X dX4_of_106 (c_X0_differences l D nH sk v (x + 1 + 8 + 2 * i) (x + 1 + 3) w L1 T hbi hL1 n3 hT huT (by omega)) gX4_of_X0_differences rfl ⟨rfl, rfl⟩ (by decide +kernel) ⟨Nat.le_of_ble_eq_true rfl, Nat.le_of_ble_eq_true rfl⟩ (by assumption) ⟨rfl, rfl⟩ rfl rfl (Nat.le_of_ble_eq_true rfl) ⟨Nat.zero_le _, Nat.zero_le _⟩ (kI (fun z106 v106 h106 => ?_))
      obtain ⟨rfl, rfl⟩ := h106
      exact j_iret X dX4_of_109 ⟨_, rfl, rfl, ⟨by unfold sOf; rw [cite_f (by unfold isO; omega), Int.toNat_natCast, cite_f (by omega), cite_f (by omega), cite_f (by omega)]; rw [cite_t (by omega), difs_perm hp1 hTp], rfl⟩⟩
    by_cases cs24_6 : w = 6
    · refine j_tabIn (tgt := 110) (off := 86) X dX4_of_24 (by omega) (by omega) (by rw [cs24_6]; rfl) (by decide) ?_
      refine j_aload_n X dX4_of_110 rfl ?_
      refine j_aload_n X dX4_of_111 rfl ?_
      refine j_getr X dX4_of_112 (T := TX4) (N := 6) (C := RX4) hinX4 rfl (by assumption) 0 (by decide) (by decide +kernel) rfl ?_
      refine j_getrN X dX4_of_115 (T := TX3) (N := 8) (C := RX3) hinX3 rfl (by assumption) 3 (by decide) (by decide) rfl rfl ?_
      refine j_callV (nn := 1) X dX4_of_118 (c_X0_isSameAs l D nH sk v (x + 1 + 8 + 2 * i) (x + 1 + 3) L1 T hbi hL1 n3 hT) gX4_of_X0_isSameAs rfl ⟨rfl, rfl⟩ (by decide +kernel) ⟨Nat.le_of_ble_eq_true rfl, Nat.le_of_ble_eq_true rfl⟩ (by assumption) ⟨rfl, rfl⟩ rfl rfl (Nat.le_of_ble_eq_true rfl) ⟨Nat.zero_le _, Nat.zero_le _⟩ (kI (fun z118 v118 h118 => ?_))
      obtain ⟨hz118a, hz118b, rfl⟩ := h118
      refine j_if_eq (tgt := 128) X dX4_of_121 (by omega) (by decide) (fun c121 => ?_) (fun c121 => ?_)
      · refine j_iconst X dX4_of_128 ?_
        exact j_iret X dX4_of_129 ⟨_, rfl, rfl, ⟨by unfold sOf; rw [cite_f (by unfold isO; omega), Int.toNat_natCast, cite_f (by omega), cite_f (by omega), cite_f (by omega), cite_f (by omega)]; rw [cite_t (by omega)]; first | (rw [cite_t (rt_iff.mpr (by have e := hz118b.mp (by omega); rw [e] at hp1; exact hp1.symm.trans hTp))]; done) | (rw [cite_f (fun h => by have := hz118b.mpr (sorted_eq (hp1.trans ((rt_iff.mp h).trans hTp.symm)) hL1.2.2.2.1 hT.2.2.2.1); omega)]; done), rfl⟩⟩
      · refine j_iconst X dX4_of_124 ?_
        refine j_goto (tgt := 129) X dX4_of_125 (by decide) ?_
        exact j_iret X dX4_of_129 ⟨_, rfl, rfl, ⟨by unfold sOf; rw [cite_f (by unfold isO; omega), Int.toNat_natCast, cite_f (by omega), cite_f (by omega), cite_f (by omega), cite_f (by omega)]; rw [cite_t (by omega)]; first | (rw [cite_t (rt_iff.mpr (by have e := hz118b.mp (by omega); rw [e] at hp1; exact hp1.symm.trans hTp))]; done) | (rw [cite_f (fun h => by have := hz118b.mpr (sorted_eq (hp1.trans ((rt_iff.mp h).trans hTp.symm)) hL1.2.2.2.1 hT.2.2.2.1); omega)]; done), rfl⟩⟩
    by_cases cs24_7 : w = 7
    · refine j_tabIn (tgt := 130) (off := 106) X dX4_of_24 (by omega) (by omega) (by rw [cs24_7]; rfl) (by decide) ?_
      refine j_aload_n X dX4_of_130 rfl ?_
      refine j_callV (nn := 0) X dX4_of_131 (c_X0_checkNumber l D nH sk v (x + 1 + 8 + 2 * i) L1 hbi hL1) gX4_of_X0_checkNumber rfl ⟨rfl, rfl⟩ (by decide +kernel) ⟨Nat.le_of_ble_eq_true rfl, Nat.le_of_ble_eq_true rfl⟩ (by assumption) ⟨rfl, rfl⟩ rfl rfl (Nat.le_of_ble_eq_true rfl) ⟨Nat.zero_le _, Nat.zero_le _⟩ (kI (fun z131 v131 h131 => ?_))
      obtain ⟨rfl, rfl⟩ := h131
      exact j_iret X dX4_of_134 ⟨_, rfl, rfl, ⟨by unfold sOf; rw [cite_f (by unfold isO; omega), Int.toNat_natCast, cite_f (by omega), cite_f (by omega), cite_f (by omega), cite_f (by omega), cite_f (by omega)]; rw [cite_t (by omega), chk_perm hp1], rfl⟩⟩
    refine j_tabOut (tgt := 135) X dX4_of_24 (by omega) (by omega) (by decide) ?_
    refine j_bipush X dX4_of_135 (by decide) ?_
    exact j_iret X dX4_of_137 ⟨_, rfl, rfl, ⟨by unfold sOf; rw [cite_f (by unfold isO; omega), Int.toNat_natCast, cite_f (by omega), cite_f (by omega), cite_f (by omega), cite_f (by omega), cite_f (by omega), cite_f (by omega)]; (try rfl), rfl⟩⟩
  · refine j_iconst X dX4_of_11 ?_
    exact j_iret X dX4_of_12 ⟨_, rfl, rfl, ⟨(cite_t (by unfold isO; omega) _ _).symm, rfl⟩⟩
def rmX4_count : Room := { frames := 3, cells := 0, slots := 0, locals := 67 }
set_option maxHeartbeats 4000000 in
set_option maxRecDepth 100000 in
theorem c_X4_count (l : Launch) (D : va_G) (nH : Nat) (sk : Sk) (v : Mem) (x : Nat) (w : Int) (G : GS) (hX : Xd D sk x) (hR : XR v x G) (hw : -2147483648 ≤ w ∧ w ≤ 2147483647) : CtI l D yX4_count wsX4_count rmX4_count [.ref x, .int (I w)] nH sk v (fun z v' => z = sCount G w ∧ v = v') := by
  refine ct_of (cc := cX4_count) (maxL := 2) (ret := (some .int)) rfl rfl (Nat.le_of_ble_eq_true rfl) ?_
  intro p_ e_ s_ m_ args_ below_ meth_ c_ X hmn hsz
  have hinX0 : ∀ w ∈ wsX00, w ∈ wsX4_count := by decide +kernel
  have hinX1 : ∀ w ∈ wsX10, w ∈ wsX4_count := by decide +kernel
  have hinX2 : ∀ w ∈ wsX20, w ∈ wsX4_count := by decide +kernel
  have hinX3 : ∀ w ∈ wsX30, w ∈ wsX4_count := by decide +kernel
  have hinX4 : ∀ w ∈ wsX40, w ∈ wsX4_count := by decide +kernel
  obtain ⟨x0, hN, hH, ⟨gs, x171, hgs⟩, x172, hPd, ⟨gt, x175, hgt⟩, hSl, hTr⟩ := id hX
  obtain ⟨n0, n1, n2, n3, ⟨gn, n5, hgn⟩, n6, n7, n8⟩ := id hN
  obtain ⟨hh0, hh1, hh2⟩ := id hH
  obtain ⟨p0, p1⟩ := id hPd
  obtain ⟨n30, n31⟩ := id n3
  obtain ⟨hS, hHR, hP, hSlR⟩ := id hR
  obtain ⟨r1, r2, r3, r4, r5, r6⟩ := id hS
  have hnp := r2.1
  have hno8 := r1.2.1
  have hnp16 := r1.1
  obtain ⟨T, hTp, hT⟩ := id r4
  have hu := r1.2.2.2.1
  have huT := unq_perm hTp.symm hu
  obtain ⟨dH, hd1, hd2, hd3, hd4, hd5⟩ := id hHR
  refine j_iload_n X dX4_count_0 rfl ?_
  by_cases cs1_0 : w = 0
  · refine j_tabIn (tgt := 52) (off := 51) X dX4_count_1 (by omega) (by omega) (by rw [cs1_0]; rfl) (by decide) ?_
    refine j_aload_n X dX4_count_52 rfl ?_
    refine j_getr X dX4_count_53 (T := TX4) (N := 6) (C := RX4) hinX4 rfl (by assumption) 0 (by decide) (by decide +kernel) rfl ?_
    refine j_getiN X dX4_count_56 (T := TX3) (N := 8) (C := RX3) hinX3 rfl (by assumption) 2 (by decide) (by decide) rfl rfl ?_
    exact j_iret X dX4_count_59 ⟨_, rfl, rfl, ⟨by unfold sCount; rw [cite_t (by omega)]; exact hnp, rfl⟩⟩
  by_cases cs1_1 : w = 1
  · refine j_tabIn (tgt := 60) (off := 59) X dX4_count_1 (by omega) (by omega) (by rw [cs1_1]; rfl) (by decide) ?_
    refine j_aload_n X dX4_count_60 rfl ?_
    refine j_getr X dX4_count_61 (T := TX4) (N := 6) (C := RX4) hinX4 rfl (by assumption) 0 (by decide) (by decide +kernel) rfl ?_
    refine j_getiN X dX4_count_64 (T := TX3) (N := 8) (C := RX3) hinX3 rfl (by assumption) 7 (by decide) (by decide) rfl rfl ?_
    exact j_iret X dX4_count_67 ⟨_, rfl, rfl, ⟨by unfold sCount; rw [cite_f (by omega), cite_t (by omega)]; exact r3, rfl⟩⟩
  by_cases cs1_2 : w = 2
  · refine j_tabIn (tgt := 68) (off := 67) X dX4_count_1 (by omega) (by omega) (by rw [cs1_2]; rfl) (by decide) ?_
    refine j_aload_n X dX4_count_68 rfl ?_
    refine j_getr X dX4_count_69 (T := TX4) (N := 6) (C := RX4) hinX4 rfl (by assumption) 0 (by decide) (by decide +kernel) rfl ?_
    refine j_getrN X dX4_count_72 (T := TX3) (N := 8) (C := RX3) hinX3 rfl (by assumption) 3 (by decide) (by decide) rfl rfl ?_
    refine j_getiN X dX4_count_75 (T := TX0) (N := 2) (C := RX0) hinX0 rfl (by assumption) 1 (by decide) (by decide) rfl rfl ?_
    exact j_iret X dX4_count_78 ⟨_, rfl, rfl, ⟨by unfold sCount; rw [cite_f (by omega), cite_f (by omega), cite_t (by omega)]; rw [hT.1, hTp.length_eq], rfl⟩⟩
  by_cases cs1_3 : w = 3
  · refine j_tabIn (tgt := 79) (off := 78) X dX4_count_1 (by omega) (by omega) (by rw [cs1_3]; rfl) (by decide) ?_
    refine j_aload_n X dX4_count_79 rfl ?_
    refine j_getr X dX4_count_80 (T := TX4) (N := 6) (C := RX4) hinX4 rfl (by assumption) 0 (by decide) (by decide +kernel) rfl ?_
    refine j_getrN X dX4_count_83 (T := TX3) (N := 8) (C := RX3) hinX3 rfl (by assumption) 3 (by decide) (by decide) rfl rfl ?_
    refine j_callV (nn := 0) X dX4_count_86 (c_X0_checkNumber l D nH sk v (x + 1 + 3) T n3 hT) gX4_count_X0_checkNumber rfl ⟨rfl, rfl⟩ (by decide +kernel) ⟨Nat.le_of_ble_eq_true rfl, Nat.le_of_ble_eq_true rfl⟩ (by assumption) ⟨rfl, rfl⟩ rfl rfl (Nat.le_of_ble_eq_true rfl) ⟨Nat.zero_le _, Nat.zero_le _⟩ (kI (fun z86 v86 h86 => ?_))
    obtain ⟨rfl, rfl⟩ := h86
    exact j_iret X dX4_count_89 ⟨_, rfl, rfl, ⟨by unfold sCount; rw [cite_f (by omega), cite_f (by omega), cite_f (by omega), cite_t (by omega)]; rw [chk_perm hTp], rfl⟩⟩
  by_cases cs1_4 : w = 4
  · refine j_tabIn (tgt := 90) (off := 89) X dX4_count_1 (by omega) (by omega) (by rw [cs1_4]; rfl) (by decide) ?_
    refine j_aload_n X dX4_count_90 rfl ?_
    refine j_getr X dX4_count_91 (T := TX4) (N := 6) (C := RX4) hinX4 rfl (by assumption) 0 (by decide) (by decide +kernel) rfl ?_
    refine j_callV (nn := 0) X dX4_count_94 (c_X3_ownersWithRightBinders l D nH sk v (x + 1) G.1 hN hS) gX4_count_X3_ownersWithRightBinders rfl ⟨rfl, rfl⟩ (by decide +kernel) ⟨Nat.le_of_ble_eq_true rfl, Nat.le_of_ble_eq_true rfl⟩ (by assumption) ⟨rfl, rfl⟩ rfl rfl (Nat.le_of_ble_eq_true rfl) ⟨Nat.zero_le _, Nat.zero_le _⟩ (kI (fun z94 v94 h94 => ?_))
    obtain ⟨rfl, rfl⟩ := h94
    exact j_iret X dX4_count_97 ⟨_, rfl, rfl, ⟨by unfold sCount; rw [cite_f (by omega), cite_f (by omega), cite_f (by omega), cite_f (by omega), cite_t (by omega)]; (try rfl), rfl⟩⟩
  by_cases cs1_5 : w = 5
  · refine j_tabIn (tgt := 98) (off := 97) X dX4_count_1 (by omega) (by omega) (by rw [cs1_5]; rfl) (by decide) ?_
    refine j_aload_n X dX4_count_98 rfl ?_
    refine j_getr X dX4_count_99 (T := TX4) (N := 6) (C := RX4) hinX4 rfl (by assumption) 0 (by decide) (by decide +kernel) rfl ?_
    refine j_getrN X dX4_count_102 (T := TX3) (N := 8) (C := RX3) hinX3 rfl (by assumption) 3 (by decide) (by decide) rfl rfl ?_
    refine j_iconst X dX4_count_105 ?_
    refine j_callV (nn := 1) X dX4_count_106 (c_X0_leavesOf l D nH sk v (x + 1 + 3) 0 T n3 hT (by omega)) gX4_count_X0_leavesOf rfl ⟨rfl, rfl⟩ (by decide +kernel) ⟨Nat.le_of_ble_eq_true rfl, Nat.le_of_ble_eq_true rfl⟩ (by assumption) ⟨rfl, rfl⟩ rfl rfl (Nat.le_of_ble_eq_true rfl) ⟨Nat.zero_le _, Nat.zero_le _⟩ (kI (fun z106 v106 h106 => ?_))
    obtain ⟨rfl, rfl⟩ := h106
    exact j_iret X dX4_count_109 ⟨_, rfl, rfl, ⟨by unfold sCount; rw [cite_f (by omega), cite_f (by omega), cite_f (by omega), cite_f (by omega), cite_f (by omega), cite_t (by omega)]; exact congrArg (fun k : Nat => (k : Int)) (cntI_perm hTp 0), rfl⟩⟩
  by_cases cs1_6 : w = 6
  · refine j_tabIn (tgt := 110) (off := 109) X dX4_count_1 (by omega) (by omega) (by rw [cs1_6]; rfl) (by decide) ?_
    refine j_aload_n X dX4_count_110 rfl ?_
    refine j_getr X dX4_count_111 (T := TX4) (N := 6) (C := RX4) hinX4 rfl (by assumption) 0 (by decide) (by decide +kernel) rfl ?_
    refine j_callV (nn := 0) X dX4_count_114 (c_X3_parcelWithMostLeaves l D nH sk v (x + 1) G.1 hN hS) gX4_count_X3_parcelWithMostLeaves rfl ⟨rfl, rfl⟩ (by decide +kernel) ⟨Nat.le_of_ble_eq_true rfl, Nat.le_of_ble_eq_true rfl⟩ (by assumption) ⟨rfl, rfl⟩ rfl rfl (Nat.le_of_ble_eq_true rfl) ⟨Nat.zero_le _, Nat.zero_le _⟩ (kI (fun z114 v114 h114 => ?_))
    obtain ⟨rfl, rfl⟩ := h114
    exact j_iret X dX4_count_117 ⟨_, rfl, rfl, ⟨by unfold sCount; rw [cite_f (by omega), cite_f (by omega), cite_f (by omega), cite_f (by omega), cite_f (by omega), cite_f (by omega), cite_t (by omega)]; (try rfl), rfl⟩⟩
  by_cases cs1_7 : w = 7
  · refine j_tabIn (tgt := 118) (off := 117) X dX4_count_1 (by omega) (by omega) (by rw [cs1_7]; rfl) (by decide) ?_
    refine j_aload_n X dX4_count_118 rfl ?_
    refine j_getr X dX4_count_119 (T := TX4) (N := 6) (C := RX4) hinX4 rfl (by assumption) 4 (by decide) (by decide +kernel) rfl ?_
    refine j_getiN X dX4_count_122 (T := TX2) (N := 2) (C := RX2) hinX2 rfl (by assumption) 1 (by decide) (by decide) rfl rfl ?_
    exact j_iret X dX4_count_125 ⟨_, rfl, rfl, ⟨by unfold sCount; rw [cite_f (by omega), cite_f (by omega), cite_f (by omega), cite_f (by omega), cite_f (by omega), cite_f (by omega), cite_f (by omega), cite_t (by omega)]; exact hP.1, rfl⟩⟩
  by_cases cs1_8 : w = 8
  · refine j_tabIn (tgt := 126) (off := 125) X dX4_count_1 (by omega) (by omega) (by rw [cs1_8]; rfl) (by decide) ?_
    refine j_aload_n X dX4_count_126 rfl ?_
    refine j_getr X dX4_count_127 (T := TX4) (N := 6) (C := RX4) hinX4 rfl (by assumption) 1 (by decide) (by decide +kernel) rfl ?_
    refine j_getiN X dX4_count_130 (T := TX1) (N := 3) (C := RX1) hinX1 rfl (by assumption) 2 (by decide) (by decide) rfl rfl ?_
    exact j_iret X dX4_count_133 ⟨_, rfl, rfl, ⟨by unfold sCount; rw [cite_f (by omega), cite_f (by omega), cite_f (by omega), cite_f (by omega), cite_f (by omega), cite_f (by omega), cite_f (by omega), cite_f (by omega), cite_t (by omega)]; exact hd3, rfl⟩⟩
  refine j_tabOut (tgt := 134) X dX4_count_1 (by omega) (by omega) (by decide) ?_
  refine j_bipush X dX4_count_134 (by decide) ?_
  exact j_iret X dX4_count_136 ⟨_, rfl, rfl, ⟨by unfold sCount; rw [cite_f (by omega), cite_f (by omega), cite_f (by omega), cite_f (by omega), cite_f (by omega), cite_f (by omega), cite_f (by omega), cite_f (by omega), cite_f (by omega)]; (try rfl), rfl⟩⟩
