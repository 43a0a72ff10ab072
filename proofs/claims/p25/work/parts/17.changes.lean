def rmX4_issue : Room := { frames := 5, cells := 0, slots := 0, locals := 117 }
set_option maxHeartbeats 4000000 in
set_option maxRecDepth 100000 in
theorem c_X4_issue (l : Launch) (D : va_G) (nH : Nat) (sk : Sk) (v : Mem) (x : Nat) (G : GS) (hX : Xd D sk x) (hR : XR v x G) : CtI l D yX4_issue wsX4_issue rmX4_issue [.ref x] nH sk v (fun z v' => z = (sIssue G).1 ∧ XR v' x (sIssue G).2 ∧ frX v v' x) := by
  refine ct_of (cc := cX4_issue) (maxL := 2) (ret := (some .int)) rfl rfl (Nat.le_of_ble_eq_true rfl) ?_
  intro p_ e_ s_ m_ args_ below_ meth_ c_ X hmn hsz
  have hinX3 : ∀ w ∈ wsX30, w ∈ wsX4_issue := by decide +kernel
  have hinX4 : ∀ w ∈ wsX40, w ∈ wsX4_issue := by decide +kernel
  obtain ⟨x0, hN, hH, ⟨gs, x171, hgs⟩, x172, hPd, ⟨gt, x175, hgt⟩, hSl, hTr⟩ := id hX
  obtain ⟨n0, n1, n2, n3, ⟨gn, n5, hgn⟩, n6, n7, n8⟩ := id hN
  obtain ⟨hh0, hh1, hh2⟩ := id hH
  obtain ⟨p0, p1⟩ := id hPd
  obtain ⟨n30, n31⟩ := id n3
  obtain ⟨hS, hHR, hP, hSlR⟩ := id hR
  obtain ⟨r1, r2, r3, r4, r5, r6⟩ := id hS
  have hnp := r2.1
  have hno8 := r1.2.1
  have hnp16 := r1.1
  refine j_aload_n X dX4_issue_0 rfl ?_
  refine j_getr X dX4_issue_1 (T := TX4) (N := 6) (C := RX4) hinX4 rfl (by assumption) 4 (by decide) (by decide +kernel) rfl ?_
  refine j_callV (nn := 0) X dX4_issue_4 (c_X2_firstFault l D nH sk v (x + 173) G.2.2.2 hPd hP) gX4_issue_X2_firstFault rfl ⟨rfl, rfl⟩ (by decide +kernel) ⟨Nat.le_of_ble_eq_true rfl, Nat.le_of_ble_eq_true rfl⟩ (by assumption) ⟨rfl, rfl⟩ rfl rfl (Nat.le_of_ble_eq_true rfl) ⟨Nat.zero_le _, Nat.zero_le _⟩ (kI (fun z4 v4 h4 => ?_))
  obtain ⟨h4, rfl⟩ := h4
  have h4b := h4.bd
  have hp48 := hP.2.1
  refine j_bipush X dX4_issue_7 (by decide) ?_
  refine j_icmp_eq (tgt := 15) X dX4_issue_9 (by omega) (by decide) (fun c9 => ?_) (fun c9 => ?_)
  · have hF : isF G.2.2.2 (-6) := by rw [← c9]; exact h4
    refine j_aload_n X dX4_issue_15 rfl ?_
    refine j_getr X dX4_issue_16 (T := TX4) (N := 6) (C := RX4) hinX4 rfl (by assumption) 4 (by decide) (by decide +kernel) rfl ?_
    refine j_callV (nn := 0) X dX4_issue_19 (c_X2_hasNumberTwice l D nH sk v (x + 173) G.2.2.2 hPd hP hF) gX4_issue_X2_hasNumberTwice rfl ⟨rfl, rfl⟩ (by decide +kernel) ⟨Nat.le_of_ble_eq_true rfl, Nat.le_of_ble_eq_true rfl⟩ (by assumption) ⟨rfl, rfl⟩ rfl rfl (Nat.le_of_ble_eq_true rfl) ⟨Nat.zero_le _, Nat.zero_le _⟩ (kI (fun z19 v19 h19 => ?_))
    obtain ⟨hz19a, hz19b, rfl⟩ := h19
    refine j_if_eq (tgt := 28) X dX4_issue_22 (by omega) (by decide) (fun c22 => ?_) (fun c22 => ?_)
    · refine j_aload_n X dX4_issue_28 rfl ?_
      refine j_getr X dX4_issue_29 (T := TX4) (N := 6) (C := RX4) hinX4 rfl (by assumption) 0 (by decide) (by decide +kernel) rfl ?_
      refine j_getiN X dX4_issue_32 (T := TX3) (N := 8) (C := RX3) hinX3 rfl (by assumption) 2 (by decide) (by decide) rfl rfl ?_
      refine j_bipush X dX4_issue_35 (by decide) ?_
      rw [hnp]
      refine j_icmp_lt (tgt := 43) X dX4_issue_37 (by omega) (by decide) (fun c37 => ?_) (fun c37 => ?_)
      · refine j_aload_n X dX4_issue_43 rfl ?_
        refine j_getr X dX4_issue_44 (T := TX4) (N := 6) (C := RX4) hinX4 rfl (by assumption) 1 (by decide) (by decide +kernel) rfl ?_
        refine j_aload_n X dX4_issue_47 rfl ?_
        refine j_getr X dX4_issue_48 (T := TX4) (N := 6) (C := RX4) hinX4 rfl (by assumption) 0 (by decide) (by decide +kernel) rfl ?_
        refine j_callV (nn := 1) X dX4_issue_51 (c_X1_record l D nH sk v (x + 25) (x + 1) G.2.1 G.1 hH hN (by omega) hHR hS) gX4_issue_X1_record rfl ⟨rfl, rfl⟩ (by decide +kernel) ⟨Nat.le_of_ble_eq_true rfl, Nat.le_of_ble_eq_true rfl⟩ (by assumption) ⟨rfl, rfl⟩ rfl rfl (Nat.le_of_ble_eq_true rfl) ⟨Nat.zero_le _, Nat.zero_le _⟩ (kV (fun v51 h51 => ?_))
        obtain ⟨hHr, fr9⟩ := h51
        generalize v51 = w1 at hHr fr9 ⊢
        have hS1 := hS.kept (w := w1) (fun a ha hb => fr9 a (by omega))
        refine j_aload_n X dX4_issue_54 rfl ?_
        refine j_getr X dX4_issue_55 (T := TX4) (N := 6) (C := RX4) hinX4 rfl (by assumption) 0 (by decide) (by decide +kernel) rfl ?_
        refine j_aload_n X dX4_issue_58 rfl ?_
        refine j_getr X dX4_issue_59 (T := TX4) (N := 6) (C := RX4) hinX4 rfl (by assumption) 4 (by decide) (by decide +kernel) rfl ?_
        refine j_callV (nn := 1) X dX4_issue_62 (c_X3_addParcel l D nH sk w1 (x + 1) (x + 173) G.1 G.2.2.2 hN hPd (hP.kept (fr9 _ (by omega)) (fr9 _ (by omega))) hF hS1 (by omega) (by omega)) gX4_issue_X3_addParcel rfl ⟨rfl, rfl⟩ (by decide +kernel) ⟨Nat.le_of_ble_eq_true rfl, Nat.le_of_ble_eq_true rfl⟩ (by assumption) ⟨rfl, rfl⟩ rfl rfl (Nat.le_of_ble_eq_true rfl) ⟨Nat.zero_le _, Nat.zero_le _⟩ (kI (fun z62 v62 h62 => ?_))
        obtain ⟨rfl, hS62, f62⟩ := h62
        refine j_istore_n X dX4_issue_65 rfl (Nat.le_of_ble_eq_true rfl) ?_
        refine j_aload_n X dX4_issue_66 rfl ?_
        refine j_getr X dX4_issue_67 (T := TX4) (N := 6) (C := RX4) hinX4 rfl (by assumption) 4 (by decide) (by decide +kernel) rfl ?_
        refine j_callV (nn := 0) X dX4_issue_70 (c_X2_empty l D nH sk v62 (x + 173) G.2.2.2 hPd (hP.kept (by rw [f62 _ (by omega), fr9 _ (by omega)]) (by rw [f62 _ (by omega), fr9 _ (by omega)]))) gX4_issue_X2_empty rfl ⟨rfl, rfl⟩ (by decide +kernel) ⟨Nat.le_of_ble_eq_true rfl, Nat.le_of_ble_eq_true rfl⟩ (by assumption) ⟨rfl, rfl⟩ rfl rfl (Nat.le_of_ble_eq_true rfl) ⟨Nat.zero_le _, Nat.zero_le _⟩ (kV (fun v70 h70 => ?_))
        obtain ⟨hP70, f70⟩ := h70
        refine j_iload_n X dX4_issue_73 rfl ?_
        have hret : (np G.1 : Int) = (sIssue G).1 ∧ XR v70 x (sIssue G).2 ∧ frX v v70 x := by
          rw [show sIssue G = ((np G.1 : Int), (issA G.1 G.2.2.2, recH G.2.1 G.1, G.2.2.1, [])) from (cite_f (fun h => h hF) _ _).trans ((cite_f (fun h => by have := hz19b.mpr h; omega) _ _).trans (cite_f (by omega) _ _))]
          have e : ∀ a, a < x + 1 ∨ x + 1 + 24 ≤ a → a ≠ x + 173 → a ≠ x + 173 + 1 → v70 a = w1 a := fun a h1 h2 h3 => by rw [f70 a h2 h3, f62 a h1]
          refine ⟨rfl, ⟨hS62.kept (fun a ha hb => f70 a (by omega) (by omega)), hHr.kept (fun a ha hb => e a (by omega) (by omega) (by omega)), hP70, hSlR.kept (fun a ha hb hc hd he => by rw [e a (by omega) hc hd, fr9 a (by omega)])⟩, fun a ha => by rw [e a (by omega) (by omega) (by omega), fr9 a (by omega)]⟩
        exact j_iret X dX4_issue_74 ⟨_, rfl, rfl, hret⟩
      · refine j_bipush X dX4_issue_40 (by decide) ?_
        have hret : (-4 : Int) = (sIssue G).1 ∧ XR v x (sIssue G).2 ∧ frX v v x := by
          rw [show sIssue G = (-4, G) from (cite_f (fun h => h hF) _ _).trans ((cite_f (fun h => by have := hz19b.mpr h; omega) _ _).trans (cite_t (by omega) _ _))]
          exact ⟨rfl, hR, frX.refl _ _⟩
        exact j_iret X dX4_issue_42 ⟨_, rfl, rfl, hret⟩
    · refine j_bipush X dX4_issue_25 (by decide) ?_
      have hret : (-2 : Int) = (sIssue G).1 ∧ XR v x (sIssue G).2 ∧ frX v v x := by
        rw [show sIssue G = (-2, G) from (cite_f (fun h => h hF) _ _).trans (cite_t (hz19b.mp (by omega)) _ _)]
        exact ⟨rfl, hR, frX.refl _ _⟩
      exact j_iret X dX4_issue_27 ⟨_, rfl, rfl, hret⟩
  · refine j_bipush X dX4_issue_12 (by decide) ?_
    have hret : (-3 : Int) = (sIssue G).1 ∧ XR v x (sIssue G).2 ∧ frX v v x := by
      rw [show sIssue G = (-3, G) from (cite_t (fun h => c9 (h4.uniq h)) _ _)]
      exact ⟨rfl, hR, frX.refl _ _⟩
    exact j_iret X dX4_issue_14 ⟨_, rfl, rfl, hret⟩
def rmX4_own : Room := { frames := 4, cells := 0, slots := 0, locals := 90 }
set_option maxHeartbeats 4000000 in
set_option maxRecDepth 100000 in
theorem c_X4_own (l : Launch) (D : va_G) (nH : Nat) (sk : Sk) (v : Mem) (x : Nat) (G : GS) (hX : Xd D sk x) (hR : XR v x G) : CtI l D yX4_own wsX4_own rmX4_own [.ref x] nH sk v (fun z v' => z = (sOwn G).1 ∧ XR v' x (sOwn G).2 ∧ frX v v' x) := by
  refine ct_of (cc := cX4_own) (maxL := 1) (ret := (some .int)) rfl rfl (Nat.le_of_ble_eq_true rfl) ?_
  intro p_ e_ s_ m_ args_ below_ meth_ c_ X hmn hsz
  have hinX3 : ∀ w ∈ wsX30, w ∈ wsX4_own := by decide +kernel
  have hinX4 : ∀ w ∈ wsX40, w ∈ wsX4_own := by decide +kernel
  obtain ⟨x0, hN, hH, ⟨gs, x171, hgs⟩, x172, hPd, ⟨gt, x175, hgt⟩, hSl, hTr⟩ := id hX
  obtain ⟨n0, n1, n2, n3, ⟨gn, n5, hgn⟩, n6, n7, n8⟩ := id hN
  obtain ⟨hh0, hh1, hh2⟩ := id hH
  obtain ⟨p0, p1⟩ := id hPd
  obtain ⟨n30, n31⟩ := id n3
  obtain ⟨hS, hHR, hP, hSlR⟩ := id hR
  obtain ⟨r1, r2, r3, r4, r5, r6⟩ := id hS
  have hnp := r2.1
  have hno8 := r1.2.1
  have hnp16 := r1.1
  refine j_aload_n X dX4_own_0 rfl ?_
  refine j_getr X dX4_own_1 (T := TX4) (N := 6) (C := RX4) hinX4 rfl (by assumption) 0 (by decide) (by decide +kernel) rfl ?_
  refine j_getiN X dX4_own_4 (T := TX3) (N := 8) (C := RX3) hinX3 rfl (by assumption) 7 (by decide) (by decide) rfl rfl ?_
  refine j_bipush X dX4_own_7 (by decide) ?_
  rw [r3]
  refine j_icmp_lt (tgt := 15) X dX4_own_9 (by omega) (by decide) (fun c9 => ?_) (fun c9 => ?_)
  · refine j_aload_n X dX4_own_15 rfl ?_
    refine j_getr X dX4_own_16 (T := TX4) (N := 6) (C := RX4) hinX4 rfl (by assumption) 1 (by decide) (by decide +kernel) rfl ?_
    refine j_aload_n X dX4_own_19 rfl ?_
    refine j_getr X dX4_own_20 (T := TX4) (N := 6) (C := RX4) hinX4 rfl (by assumption) 0 (by decide) (by decide +kernel) rfl ?_
    refine j_callV (nn := 1) X dX4_own_23 (c_X1_record l D nH sk v (x + 25) (x + 1) G.2.1 G.1 hH hN (by omega) hHR hS) gX4_own_X1_record rfl ⟨rfl, rfl⟩ (by decide +kernel) ⟨Nat.le_of_ble_eq_true rfl, Nat.le_of_ble_eq_true rfl⟩ (by assumption) ⟨rfl, rfl⟩ rfl rfl (Nat.le_of_ble_eq_true rfl) ⟨Nat.zero_le _, Nat.zero_le _⟩ (kV (fun v23 h23 => ?_))
    obtain ⟨hHr, fr9⟩ := h23
    generalize v23 = w1 at hHr fr9 ⊢
    have hS1 := hS.kept (w := w1) (fun a ha hb => fr9 a (by omega))
    refine j_aload_n X dX4_own_26 rfl ?_
    refine j_getr X dX4_own_27 (T := TX4) (N := 6) (C := RX4) hinX4 rfl (by assumption) 0 (by decide) (by decide +kernel) rfl ?_
    refine j_callV (nn := 0) X dX4_own_30 (c_X3_addOwner l D nH sk w1 (x + 1) G.1 hN hS1 (by omega)) gX4_own_X3_addOwner rfl ⟨rfl, rfl⟩ (by decide +kernel) ⟨Nat.le_of_ble_eq_true rfl, Nat.le_of_ble_eq_true rfl⟩ (by assumption) ⟨rfl, rfl⟩ rfl rfl (Nat.le_of_ble_eq_true rfl) ⟨Nat.zero_le _, Nat.zero_le _⟩ (kI (fun z30 v30 h30 => ?_))
    obtain ⟨rfl, hS30, f30⟩ := h30
    have hret : (no G.1 : Int) = (sOwn G).1 ∧ XR v30 x (sOwn G).2 ∧ frX v v30 x := by
      rw [show sOwn G = ((no G.1 : Int), recG G (ownA G.1)) from cite_f (by omega) _ _]
      exact ⟨rfl, hR.rec hHr fr9 f30 hS30⟩
    exact j_iret X dX4_own_33 ⟨_, rfl, rfl, hret⟩
  · refine j_bipush X dX4_own_12 (by decide) ?_
    have hret : (-4 : Int) = (sOwn G).1 ∧ XR v x (sOwn G).2 ∧ frX v v x := by
      rw [show sOwn G = (-4, G) from (cite_t (by omega) _ _)]
      exact ⟨rfl, hR, frX.refl _ _⟩
    exact j_iret X dX4_own_14 ⟨_, rfl, rfl, hret⟩
def rmX4_done : Room := { frames := 4, cells := 0, slots := 0, locals := 94 }
set_option maxHeartbeats 4000000 in
set_option maxRecDepth 100000 in
theorem c_X4_done (l : Launch) (D : va_G) (nH : Nat) (sk : Sk) (v : Mem) (x : Nat) (o p c : Int) (G : GS) (hX : Xd D sk x) (hR : XR v x G)(ho : -2147483648 ≤ o ∧ o ≤ 2147483647)(hp : -2147483648 ≤ p ∧ p ≤ 2147483647) (hc : c = 0 ∨ c = 1) : CtI l D yX4_done wsX4_done rmX4_done [.ref x, .int (I o), .int (I p), .int (I c)] nH sk v (fun z v' => z = (sDone G o p c).1 ∧ XR v' x (sDone G o p c).2 ∧ frX v v' x) := by
  refine ct_of (cc := cX4_done) (maxL := 5) (ret := (some .int)) rfl rfl (Nat.le_of_ble_eq_true rfl) ?_
  intro p_ e_ s_ m_ args_ below_ meth_ c_ X hmn hsz
  have hinX0 : ∀ w ∈ wsX00, w ∈ wsX4_done := by decide +kernel
  have hinX3 : ∀ w ∈ wsX30, w ∈ wsX4_done := by decide +kernel
  have hinX4 : ∀ w ∈ wsX40, w ∈ wsX4_done := by decide +kernel
  obtain ⟨x0, hN, hH, ⟨gs, x171, hgs⟩, x172, hPd, ⟨gt, x175, hgt⟩, hSl, hTr⟩ := id hX
  obtain ⟨n0, n1, n2, n3, ⟨gn, n5, hgn⟩, n6, n7, n8⟩ := id hN
  obtain ⟨hh0, hh1, hh2⟩ := id hH
  obtain ⟨p0, p1⟩ := id hPd
  obtain ⟨n30, n31⟩ := id n3
  obtain ⟨hS, hHR, hP, hSlR⟩ := id hR
  obtain ⟨r1, r2, r3, r4, r5, r6⟩ := id hS
  have hnp := r2.1
  have hno8 := r1.2.1
  have hnp16 := r1.1
  refine j_aload_n X dX4_done_0 rfl ?_
  refine j_getr X dX4_done_1 (T := TX4) (N := 6) (C := RX4) hinX4 rfl (by assumption) 0 (by decide) (by decide +kernel) rfl ?_
  refine j_iload_n X dX4_done_4 rfl ?_
  refine j_callV (nn := 1) X dX4_done_5 (c_X3_hasOwner l D nH sk v (x + 1) o (no G.1) hN ho r3 hno8) gX4_done_X3_hasOwner rfl ⟨rfl, rfl⟩ (by decide +kernel) ⟨Nat.le_of_ble_eq_true rfl, Nat.le_of_ble_eq_true rfl⟩ (by assumption) ⟨rfl, rfl⟩ rfl rfl (Nat.le_of_ble_eq_true rfl) ⟨Nat.zero_le _, Nat.zero_le _⟩ (kI (fun z5 v5 h5 => ?_))
  obtain ⟨hz5a, hz5b, rfl⟩ := h5
  refine j_if_eq (tgt := 22) X dX4_done_8 (by omega) (by decide) (fun c8 => ?_) (fun c8 => ?_)
  · refine j_iconst X dX4_done_22 ?_
    have hret : (-1 : Int) = (sDone G o p c).1 ∧ XR v x (sDone G o p c).2 ∧ frX v v x := by
      rw [show sDone G o p c = (-1, G) from (cite_t (by unfold isO isP; omega) _ _)]
      exact ⟨rfl, hR, frX.refl _ _⟩
    exact j_iret X dX4_done_23 ⟨_, rfl, rfl, hret⟩
  · refine j_aload_n X dX4_done_11 rfl ?_
    refine j_getr X dX4_done_12 (T := TX4) (N := 6) (C := RX4) hinX4 rfl (by assumption) 0 (by decide) (by decide +kernel) rfl ?_
    refine j_iload_n X dX4_done_15 rfl ?_
    refine j_callV (nn := 1) X dX4_done_16 (c_X3_hasParcel l D nH sk v (x + 1) p (np G.1) hN hp hnp hnp16) gX4_done_X3_hasParcel rfl ⟨rfl, rfl⟩ (by decide +kernel) ⟨Nat.le_of_ble_eq_true rfl, Nat.le_of_ble_eq_true rfl⟩ (by assumption) ⟨rfl, rfl⟩ rfl rfl (Nat.le_of_ble_eq_true rfl) ⟨Nat.zero_le _, Nat.zero_le _⟩ (kI (fun z16 v16 h16 => ?_))
    obtain ⟨hz16a, hz16b, rfl⟩ := h16
    refine j_if_ne (tgt := 24) X dX4_done_19 (by omega) (by decide) (fun c19 => ?_) (fun c19 => ?_)
    · have hqi : 0 ≤ o ∧ o < (no G.1 : Int) := by omega
      obtain ⟨i, rfl⟩ : ∃ i : Nat, o = (i : Int) := ⟨o.toNat, by omega⟩
      have hqq : 0 ≤ p ∧ p < (np G.1 : Int) := by omega
      obtain ⟨q, rfl⟩ : ∃ q : Nat, p = (q : Int) := ⟨p.toNat, by omega⟩
      obtain ⟨hBi, hWi, hLi⟩ := r6 i (by omega)
      have hbi := n8 i (by omega)
      obtain ⟨hbi0, hbi1⟩ := id hbi
      obtain ⟨L1, hp1, hL1⟩ := id hBi
      have hwt := (r1.2.2.2.2 i (by omega)).1
      have hlt := (r1.2.2.2.2 i (by omega)).2
      refine j_aload_n X dX4_done_24 rfl ?_
      refine j_getr X dX4_done_25 (T := TX4) (N := 6) (C := RX4) hinX4 rfl (by assumption) 0 (by decide) (by decide +kernel) rfl ?_
      refine j_iload_n X dX4_done_28 rfl ?_
      refine j_iload_n X dX4_done_29 rfl ?_
      refine j_callV (nn := 2) X dX4_done_30 (c_X3_isWaiting l D nH sk v (x + 1) i q (wt G.1 i) hN (by omega) (by omega) hWi hwt) gX4_done_X3_isWaiting rfl ⟨rfl, rfl⟩ (by decide +kernel) ⟨Nat.le_of_ble_eq_true rfl, Nat.le_of_ble_eq_true rfl⟩ (by assumption) ⟨rfl, rfl⟩ rfl rfl (Nat.le_of_ble_eq_true rfl) ⟨Nat.zero_le _, Nat.zero_le _⟩ (kI (fun z30 v30 h30 => ?_))
      obtain ⟨hz30a, hz30b, rfl⟩ := h30
      refine j_if_ne (tgt := 39) X dX4_done_33 (by omega) (by decide) (fun c33 => ?_) (fun c33 => ?_)
      · refine j_aload_n X dX4_done_39 rfl ?_
        refine j_getr X dX4_done_40 (T := TX4) (N := 6) (C := RX4) hinX4 rfl (by assumption) 1 (by decide) (by decide +kernel) rfl ?_
        refine j_aload_n X dX4_done_43 rfl ?_
        refine j_getr X dX4_done_44 (T := TX4) (N := 6) (C := RX4) hinX4 rfl (by assumption) 0 (by decide) (by decide +kernel) rfl ?_
        refine j_callV (nn := 1) X dX4_done_47 (c_X1_record l D nH sk v (x + 25) (x + 1) G.2.1 G.1 hH hN (by omega) hHR hS) gX4_done_X1_record rfl ⟨rfl, rfl⟩ (by decide +kernel) ⟨Nat.le_of_ble_eq_true rfl, Nat.le_of_ble_eq_true rfl⟩ (by assumption) ⟨rfl, rfl⟩ rfl rfl (Nat.le_of_ble_eq_true rfl) ⟨Nat.zero_le _, Nat.zero_le _⟩ (kV (fun v47 h47 => ?_))
        obtain ⟨hHr, fr9⟩ := h47
        generalize v47 = w1 at hHr fr9 ⊢
        have hS1 := hS.kept (w := w1) (fun a ha hb => fr9 a (by omega))
        have hW1 : w1 (x + 1 + 6) i = (wt G.1 i : Int) := by rw [fr9 _ (by omega)]; exact hWi
        have hL9 : w1 (x + 1 + 7) i = (lo_ G.1 i : Int) := by rw [fr9 _ (by omega)]; exact hLi
        have hB1 : BP w1 (x + 1 + 8 + 2 * i) (bn G.1 i) := hBi.kept (fr9 _ (by omega)) (fr9 _ (by omega))
        refine j_aload_n X dX4_done_50 rfl ?_
        refine j_getr X dX4_done_51 (T := TX4) (N := 6) (C := RX4) hinX4 rfl (by assumption) 0 (by decide) (by decide +kernel) rfl ?_
        refine j_getrN X dX4_done_54 (T := TX3) (N := 8) (C := RX3) hinX3 rfl (by assumption) 5 (by decide) (by decide) rfl rfl ?_
        refine j_iload_n X dX4_done_57 rfl ?_
        refine j_dup2 X dX4_done_58 rfl rfl ?_
        refine j_iald X dX4_done_59 (by assumption) (by omega) (by decide) ?_
        rw [Int.toNat_natCast, hW1]
        refine j_iconst X dX4_done_60 ?_
        refine j_iload_n X dX4_done_61 rfl ?_
        refine j_ishl X dX4_done_62 (b_shl (by omega)) ?_
        refine j_iconst X dX4_done_63 ?_
        refine j_ixor X dX4_done_64 (b_not (by omega)) ?_
        refine j_iand X dX4_done_65 (b_clr hwt (by omega)) ?_
        refine j_iast X dX4_done_66 (by assumption) (by omega) (by decide) ?_
        rw [Int.toNat_natCast]
        generalize hd_u1 : up2 w1 (x + 1 + 6) (i) (((clr (wt G.1 i) q : Nat) : Int)) = u1
        have f_u1 : u1 (x + 1 + 6) (i) = ((clr (wt G.1 i) q : Nat) : Int) := by rw [← hd_u1, up2_s, upE_s]
        have g_u1 : ∀ j_, j_ ≠ i → u1 (x + 1 + 6) j_ = w1 (x + 1 + 6) j_ := fun j_ hk => by rw [← hd_u1, up2_s, upE_n _ _ hk]
        have n_u1 : ∀ a, a ≠ x + 1 + 6 → u1 a = w1 a := fun a ha => by rw [← hd_u1, up2_n _ _ _ ha]
        have hO1 : OR u1 (x + 1) G.1 := hS1.2.1.kept (n_u1 _ (by omega)) (n_u1 _ (by omega)) (n_u1 _ (by omega))
        have hBu : BP u1 (x + 1 + 8 + 2 * i) (bn G.1 i) := hB1.kept (n_u1 _ (by omega)) (n_u1 _ (by omega))
        refine j_aload_n X dX4_done_67 rfl ?_
        refine j_getr X dX4_done_68 (T := TX4) (N := 6) (C := RX4) hinX4 rfl (by assumption) 0 (by decide) (by decide +kernel) rfl ?_
        refine j_getrN X dX4_done_71 (T := TX3) (N := 8) (C := RX3) hinX3 rfl (by assumption) 4 (by decide) (by decide) rfl rfl ?_
        refine j_iload_n X dX4_done_74 rfl ?_
        refine j_aald (t0 := 3) X dX4_done_75 (by assumption) rfl (by omega) (by decide) (by rw [Int.toNat_natCast]; exact hgn i (by omega)) ?_
        refine j_astore X dX4_done_76 rfl (Nat.le_of_ble_eq_true rfl) ?_
        refine j_iload_n X dX4_done_78 rfl ?_
        refine j_if_eq (tgt := 95) X dX4_done_79 (by omega) (by decide) (fun c79 => ?_) (fun c79 => ?_)
        · refine j_aload_n X dX4_done_95 rfl ?_
          refine j_getr X dX4_done_96 (T := TX4) (N := 6) (C := RX4) hinX4 rfl (by assumption) 0 (by decide) (by decide +kernel) rfl ?_
          refine j_aload X dX4_done_99 rfl ?_
          refine j_iload_n X dX4_done_101 rfl ?_
          refine j_callV (nn := 2) X dX4_done_102 (c_X3_doCarelessly l D nH sk u1 (x + 1) (x + 1 + 8 + 2 * i) q G.1 (bn G.1 i) hN hbi hO1 (by omega) hBu) gX4_done_X3_doCarelessly rfl ⟨rfl, rfl⟩ (by decide +kernel) ⟨Nat.le_of_ble_eq_true rfl, Nat.le_of_ble_eq_true rfl⟩ (by assumption) ⟨rfl, rfl⟩ rfl rfl (Nat.le_of_ble_eq_true rfl) ⟨Nat.zero_le _, Nat.zero_le _⟩ (kV (fun v102 h102 => ?_))
          obtain ⟨hB9, f9⟩ := h102
          rw [show lessP (od G.1 q) q (bn G.1 i) = doneL G.1 i q c by unfold doneL; rw [if_pos c79]] at hB9
          generalize v102 = w9 at hB9 f9 ⊢
          refine j_aload X dX4_done_105 rfl ?_
          refine j_getiN X dX4_done_107 (T := TX0) (N := 2) (C := RX0) hinX0 rfl (by assumption) 1 (by decide) (by decide) rfl rfl ?_
          obtain ⟨L2, hp2, hL2⟩ := id hB9
          rw [hL2.1, hp2.length_eq]
          have hret : ((doneL G.1 i q c).length : Int) = (sDone G (i : Int) (q : Int) c).1 ∧ XR w9 x (sDone G (i : Int) (q : Int) c).2 ∧ frX v w9 x := by
            rw [(show sDone G (i : Int) (q : Int) c = (((doneL G.1 i q c).length : Int), recG G (setW (setB G.1 i (doneL G.1 i q c)) i (clr (wt G.1 i) q) (lo_ G.1 i))) from (cite_f (by unfold isO isP; omega) _ _).trans (cite_f (by rw [Int.toNat_natCast, Int.toNat_natCast]; exact fun h => h (hz30b.mp (by omega))) _ _))]
            have hSm := hS1.mod (w := w9) (by omega) (clr_lt (k := q) hwt (by omega)) hlt (fun a ha hb hc hd he hf => by rw [f9 a he hf, n_u1 a hc]) hB9 (by rw [f9 _ (by omega) (by omega)]; exact f_u1) (fun j hj => by rw [f9 _ (by omega) (by omega)]; exact g_u1 j hj) (by rw [f9 _ (by omega) (by omega), n_u1 _ (by omega)]; exact hL9) (fun j hj => by rw [f9 _ (by omega) (by omega), n_u1 _ (by omega)])
            exact ⟨rfl, hR.rec hHr fr9 (fun a ha => by rw [f9 a (by omega) (by omega), n_u1 a (by omega)]) hSm⟩
          exact j_iret X dX4_done_110 ⟨_, rfl, rfl, hret⟩
        · refine j_aload_n X dX4_done_82 rfl ?_
          refine j_getr X dX4_done_83 (T := TX4) (N := 6) (C := RX4) hinX4 rfl (by assumption) 0 (by decide) (by decide +kernel) rfl ?_
          refine j_aload X dX4_done_86 rfl ?_
          refine j_iload_n X dX4_done_88 rfl ?_
          refine j_callV (nn := 2) X dX4_done_89 (c_X3_doWithCare l D nH sk u1 (x + 1) (x + 1 + 8 + 2 * i) q G.1 (bn G.1 i) hN hbi hO1 (by omega) hBu) gX4_done_X3_doWithCare rfl ⟨rfl, rfl⟩ (by decide +kernel) ⟨Nat.le_of_ble_eq_true rfl, Nat.le_of_ble_eq_true rfl⟩ (by assumption) ⟨rfl, rfl⟩ rfl rfl (Nat.le_of_ble_eq_true rfl) ⟨Nat.zero_le _, Nat.zero_le _⟩ (kV (fun v89 h89 => ?_))
          obtain ⟨hB9, f9⟩ := h89
          rw [show careP (od G.1 q) q (bn G.1 i) = doneL G.1 i q c by unfold doneL; rw [if_neg c79]] at hB9
          generalize v89 = w9 at hB9 f9 ⊢
          refine j_goto (tgt := 105) X dX4_done_92 (by decide) ?_
          refine j_aload X dX4_done_105 rfl ?_
          refine j_getiN X dX4_done_107 (T := TX0) (N := 2) (C := RX0) hinX0 rfl (by assumption) 1 (by decide) (by decide) rfl rfl ?_
          obtain ⟨L2, hp2, hL2⟩ := id hB9
          rw [hL2.1, hp2.length_eq]
          have hret : ((doneL G.1 i q c).length : Int) = (sDone G (i : Int) (q : Int) c).1 ∧ XR w9 x (sDone G (i : Int) (q : Int) c).2 ∧ frX v w9 x := by
            rw [(show sDone G (i : Int) (q : Int) c = (((doneL G.1 i q c).length : Int), recG G (setW (setB G.1 i (doneL G.1 i q c)) i (clr (wt G.1 i) q) (lo_ G.1 i))) from (cite_f (by unfold isO isP; omega) _ _).trans (cite_f (by rw [Int.toNat_natCast, Int.toNat_natCast]; exact fun h => h (hz30b.mp (by omega))) _ _))]
            have hSm := hS1.mod (w := w9) (by omega) (clr_lt (k := q) hwt (by omega)) hlt (fun a ha hb hc hd he hf => by rw [f9 a he hf, n_u1 a hc]) hB9 (by rw [f9 _ (by omega) (by omega)]; exact f_u1) (fun j hj => by rw [f9 _ (by omega) (by omega)]; exact g_u1 j hj) (by rw [f9 _ (by omega) (by omega), n_u1 _ (by omega)]; exact hL9) (fun j hj => by rw [f9 _ (by omega) (by omega), n_u1 _ (by omega)])
            exact ⟨rfl, hR.rec hHr fr9 (fun a ha => by rw [f9 a (by omega) (by omega), n_u1 a (by omega)]) hSm⟩
          exact j_iret X dX4_done_110 ⟨_, rfl, rfl, hret⟩
      · refine j_bipush X dX4_done_36 (by decide) ?_
        have hret : (-5 : Int) = (sDone G (i : Int) (q : Int) c).1 ∧ XR v x (sDone G (i : Int) (q : Int) c).2 ∧ frX v v x := by
          rw [show sDone G (i : Int) (q : Int) c = (-5, G) from (cite_f (by unfold isO isP; omega) _ _).trans (cite_t (by rw [Int.toNat_natCast, Int.toNat_natCast]; exact fun h => by have := hz30b.mpr h; omega) _ _)]
          exact ⟨rfl, hR, frX.refl _ _⟩
        exact j_iret X dX4_done_38 ⟨_, rfl, rfl, hret⟩
    · refine j_iconst X dX4_done_22 ?_
      have hret : (-1 : Int) = (sDone G o p c).1 ∧ XR v x (sDone G o p c).2 ∧ frX v v x := by
        rw [show sDone G o p c = (-1, G) from (cite_t (by unfold isO isP; omega) _ _)]
        exact ⟨rfl, hR, frX.refl _ _⟩
      exact j_iret X dX4_done_23 ⟨_, rfl, rfl, hret⟩
def rmX4_doAll : Room := { frames := 5, cells := 0, slots := 0, locals := 117 }
set_option maxHeartbeats 4000000 in
set_option maxRecDepth 100000 in
theorem c_X4_doAll (l : Launch) (D : va_G) (nH : Nat) (sk : Sk) (v : Mem) (x : Nat) (o : Int) (G : GS) (hX : Xd D sk x) (hR : XR v x G)(ho : -2147483648 ≤ o ∧ o ≤ 2147483647) : CtI l D yX4_doAll wsX4_doAll rmX4_doAll [.ref x, .int (I o)] nH sk v (fun z v' => z = (sDoAll G o).1 ∧ XR v' x (sDoAll G o).2 ∧ frX v v' x) := by
  refine ct_of (cc := cX4_doAll) (maxL := 3) (ret := (some .int)) rfl rfl (Nat.le_of_ble_eq_true rfl) ?_
  intro p_ e_ s_ m_ args_ below_ meth_ c_ X hmn hsz
  have hinX3 : ∀ w ∈ wsX30, w ∈ wsX4_doAll := by decide +kernel
  have hinX4 : ∀ w ∈ wsX40, w ∈ wsX4_doAll := by decide +kernel
  obtain ⟨x0, hN, hH, ⟨gs, x171, hgs⟩, x172, hPd, ⟨gt, x175, hgt⟩, hSl, hTr⟩ := id hX
  obtain ⟨n0, n1, n2, n3, ⟨gn, n5, hgn⟩, n6, n7, n8⟩ := id hN
  obtain ⟨hh0, hh1, hh2⟩ := id hH
  obtain ⟨p0, p1⟩ := id hPd
  obtain ⟨n30, n31⟩ := id n3
  obtain ⟨hS, hHR, hP, hSlR⟩ := id hR
  obtain ⟨r1, r2, r3, r4, r5, r6⟩ := id hS
  have hnp := r2.1
  have hno8 := r1.2.1
  have hnp16 := r1.1
  refine j_aload_n X dX4_doAll_0 rfl ?_
  refine j_getr X dX4_doAll_1 (T := TX4) (N := 6) (C := RX4) hinX4 rfl (by assumption) 0 (by decide) (by decide +kernel) rfl ?_
  refine j_iload_n X dX4_doAll_4 rfl ?_
  refine j_callV (nn := 1) X dX4_doAll_5 (c_X3_hasOwner l D nH sk v (x + 1) o (no G.1) hN ho r3 hno8) gX4_doAll_X3_hasOwner rfl ⟨rfl, rfl⟩ (by decide +kernel) ⟨Nat.le_of_ble_eq_true rfl, Nat.le_of_ble_eq_true rfl⟩ (by assumption) ⟨rfl, rfl⟩ rfl rfl (Nat.le_of_ble_eq_true rfl) ⟨Nat.zero_le _, Nat.zero_le _⟩ (kI (fun z5 v5 h5 => ?_))
  obtain ⟨hz5a, hz5b, rfl⟩ := h5
  refine j_if_ne (tgt := 13) X dX4_doAll_8 (by omega) (by decide) (fun c8 => ?_) (fun c8 => ?_)
  · have hqi : 0 ≤ o ∧ o < (no G.1 : Int) := by omega
    obtain ⟨i, rfl⟩ : ∃ i : Nat, o = (i : Int) := ⟨o.toNat, by omega⟩
    obtain ⟨hBi, hWi, hLi⟩ := r6 i (by omega)
    have hbi := n8 i (by omega)
    obtain ⟨hbi0, hbi1⟩ := id hbi
    obtain ⟨L1, hp1, hL1⟩ := id hBi
    have hwt := (r1.2.2.2.2 i (by omega)).1
    have hlt := (r1.2.2.2.2 i (by omega)).2
    refine j_aload_n X dX4_doAll_13 rfl ?_
    refine j_getr X dX4_doAll_14 (T := TX4) (N := 6) (C := RX4) hinX4 rfl (by assumption) 1 (by decide) (by decide +kernel) rfl ?_
    refine j_aload_n X dX4_doAll_17 rfl ?_
    refine j_getr X dX4_doAll_18 (T := TX4) (N := 6) (C := RX4) hinX4 rfl (by assumption) 0 (by decide) (by decide +kernel) rfl ?_
    refine j_callV (nn := 1) X dX4_doAll_21 (c_X1_record l D nH sk v (x + 25) (x + 1) G.2.1 G.1 hH hN (by omega) hHR hS) gX4_doAll_X1_record rfl ⟨rfl, rfl⟩ (by decide +kernel) ⟨Nat.le_of_ble_eq_true rfl, Nat.le_of_ble_eq_true rfl⟩ (by assumption) ⟨rfl, rfl⟩ rfl rfl (Nat.le_of_ble_eq_true rfl) ⟨Nat.zero_le _, Nat.zero_le _⟩ (kV (fun v21 h21 => ?_))
    obtain ⟨hHr, fr9⟩ := h21
    generalize v21 = w1 at hHr fr9 ⊢
    have hS1 := hS.kept (w := w1) (fun a ha hb => fr9 a (by omega))
    have hW1 : w1 (x + 1 + 6) i = (wt G.1 i : Int) := by rw [fr9 _ (by omega)]; exact hWi
    have hL9 : w1 (x + 1 + 7) i = (lo_ G.1 i : Int) := by rw [fr9 _ (by omega)]; exact hLi
    have hB1 : BP w1 (x + 1 + 8 + 2 * i) (bn G.1 i) := hBi.kept (fr9 _ (by omega)) (fr9 _ (by omega))
    refine j_aload_n X dX4_doAll_24 rfl ?_
    refine j_getr X dX4_doAll_25 (T := TX4) (N := 6) (C := RX4) hinX4 rfl (by assumption) 0 (by decide) (by decide +kernel) rfl ?_
    refine j_getrN X dX4_doAll_28 (T := TX3) (N := 8) (C := RX3) hinX3 rfl (by assumption) 5 (by decide) (by decide) rfl rfl ?_
    refine j_iload_n X dX4_doAll_31 rfl ?_
    refine j_iald X dX4_doAll_32 (by assumption) (by omega) (by decide) ?_
    rw [Int.toNat_natCast, hW1]
    refine j_istore_n X dX4_doAll_33 rfl (Nat.le_of_ble_eq_true rfl) ?_
    refine j_aload_n X dX4_doAll_34 rfl ?_
    refine j_getr X dX4_doAll_35 (T := TX4) (N := 6) (C := RX4) hinX4 rfl (by assumption) 0 (by decide) (by decide +kernel) rfl ?_
    refine j_getrN X dX4_doAll_38 (T := TX3) (N := 8) (C := RX3) hinX3 rfl (by assumption) 5 (by decide) (by decide) rfl rfl ?_
    refine j_iload_n X dX4_doAll_41 rfl ?_
    refine j_iconst X dX4_doAll_42 ?_
    refine j_iast X dX4_doAll_43 (by assumption) (by omega) (by decide) ?_
    rw [Int.toNat_natCast]
    generalize hd_u1 : up2 w1 (x + 1 + 6) (i) (0) = u1
    have f_u1 : u1 (x + 1 + 6) (i) = 0 := by rw [← hd_u1, up2_s, upE_s]
    have g_u1 : ∀ j_, j_ ≠ i → u1 (x + 1 + 6) j_ = w1 (x + 1 + 6) j_ := fun j_ hk => by rw [← hd_u1, up2_s, upE_n _ _ hk]
    have n_u1 : ∀ a, a ≠ x + 1 + 6 → u1 a = w1 a := fun a ha => by rw [← hd_u1, up2_n _ _ _ ha]
    have hO1 : OR u1 (x + 1) G.1 := hS1.2.1.kept (n_u1 _ (by omega)) (n_u1 _ (by omega)) (n_u1 _ (by omega))
    have hBu : BP u1 (x + 1 + 8 + 2 * i) (bn G.1 i) := hB1.kept (n_u1 _ (by omega)) (n_u1 _ (by omega))
    refine j_aload_n X dX4_doAll_44 rfl ?_
    refine j_getr X dX4_doAll_45 (T := TX4) (N := 6) (C := RX4) hinX4 rfl (by assumption) 0 (by decide) (by decide +kernel) rfl ?_
    refine j_aload_n X dX4_doAll_48 rfl ?_
    refine j_getr X dX4_doAll_49 (T := TX4) (N := 6) (C := RX4) hinX4 rfl (by assumption) 0 (by decide) (by decide +kernel) rfl ?_
    refine j_getrN X dX4_doAll_52 (T := TX3) (N := 8) (C := RX3) hinX3 rfl (by assumption) 4 (by decide) (by decide) rfl rfl ?_
    refine j_iload_n X dX4_doAll_55 rfl ?_
    refine j_aald (t0 := 3) X dX4_doAll_56 (by assumption) rfl (by omega) (by decide) (by rw [Int.toNat_natCast]; exact hgn i (by omega)) ?_
    refine j_iload_n X dX4_doAll_57 rfl ?_
    refine j_callV (nn := 2) X dX4_doAll_58 (c_X3_doSetWithCare l D nH sk u1 (x + 1) (x + 1 + 8 + 2 * i) (wt G.1 i) G.1 (bn G.1 i) hN hbi hO1 (by omega) hBu) gX4_doAll_X3_doSetWithCare rfl ⟨rfl, rfl⟩ (by decide +kernel) ⟨Nat.le_of_ble_eq_true rfl, Nat.le_of_ble_eq_true rfl⟩ (by assumption) ⟨rfl, rfl⟩ rfl rfl (Nat.le_of_ble_eq_true rfl) ⟨Nat.zero_le _, Nat.zero_le _⟩ (kV (fun v58 h58 => ?_))
    obtain ⟨hB9, f9⟩ := h58
    refine j_iload_n X dX4_doAll_61 rfl ?_
    refine j_topr (I_nat _) ?_
    refine j_callS (nn := 1) X dX4_doAll_62 (c_bitCount l D nH sk v58 (wt G.1 i) hwt) gX4_doAll_J6_bitCount_0f7a4 rfl ⟨rfl, rfl⟩ (by decide +kernel) ⟨Nat.le_of_ble_eq_true rfl, Nat.le_of_ble_eq_true rfl⟩ rfl rfl (Nat.le_of_ble_eq_true rfl) ⟨Nat.zero_le _, Nat.zero_le _⟩ (kI (fun z62 v62 h62 => ?_))
    obtain ⟨rfl, rfl⟩ := h62
    have hret : (pop (wt G.1 i) : Int) = (sDoAll G (i : Int)).1 ∧ XR v58 x (sDoAll G (i : Int)).2 ∧ frX v v58 x := by
      rw [show sDoAll G (i : Int) = ((pop (wt G.1 i) : Int), recG G (setW (setB G.1 i (careU (od G.1) (wt G.1 i) (bn G.1 i) (np G.1))) i 0 (lo_ G.1 i))) from cite_f (by unfold isO; omega) _ _]
      have hSm := hS1.mod (w := v58) (by omega) (show 0 < 65536 by omega) hlt (fun a ha hb hc hd he hf => by rw [f9 a he hf, n_u1 a hc]) hB9 (by rw [f9 _ (by omega) (by omega)]; exact f_u1) (fun j hj => by rw [f9 _ (by omega) (by omega)]; exact g_u1 j hj) (by rw [f9 _ (by omega) (by omega), n_u1 _ (by omega)]; exact hL9) (fun j hj => by rw [f9 _ (by omega) (by omega), n_u1 _ (by omega)])
      exact ⟨rfl, hR.rec hHr fr9 (fun a ha => by rw [f9 a (by omega) (by omega), n_u1 a (by omega)]) hSm⟩
    exact j_iret X dX4_doAll_65 ⟨_, rfl, rfl, hret⟩
  · refine j_iconst X dX4_doAll_11 ?_
    have hret : (-1 : Int) = (sDoAll G o).1 ∧ XR v x (sDoAll G o).2 ∧ frX v v x := by
      rw [show sDoAll G o = (-1, G) from (cite_t (by unfold isO; omega) _ _)]
      exact ⟨rfl, hR, frX.refl _ _⟩
    exact j_iret X dX4_doAll_12 ⟨_, rfl, rfl, hret⟩
def rmX4_lose : Room := { frames := 4, cells := 0, slots := 0, locals := 90 }
set_option maxHeartbeats 4000000 in
set_option maxRecDepth 100000 in
theorem c_X4_lose (l : Launch) (D : va_G) (nH : Nat) (sk : Sk) (v : Mem) (x : Nat) (o p : Int) (G : GS) (hX : Xd D sk x) (hR : XR v x G)(ho : -2147483648 ≤ o ∧ o ≤ 2147483647)(hp : -2147483648 ≤ p ∧ p ≤ 2147483647) : CtI l D yX4_lose wsX4_lose rmX4_lose [.ref x, .int (I o), .int (I p)] nH sk v (fun z v' => z = (sLose G o p).1 ∧ XR v' x (sLose G o p).2 ∧ frX v v' x) := by
  refine ct_of (cc := cX4_lose) (maxL := 3) (ret := (some .int)) rfl rfl (Nat.le_of_ble_eq_true rfl) ?_
  intro p_ e_ s_ m_ args_ below_ meth_ c_ X hmn hsz
  have hinX3 : ∀ w ∈ wsX30, w ∈ wsX4_lose := by decide +kernel
  have hinX4 : ∀ w ∈ wsX40, w ∈ wsX4_lose := by decide +kernel
  obtain ⟨x0, hN, hH, ⟨gs, x171, hgs⟩, x172, hPd, ⟨gt, x175, hgt⟩, hSl, hTr⟩ := id hX
  obtain ⟨n0, n1, n2, n3, ⟨gn, n5, hgn⟩, n6, n7, n8⟩ := id hN
  obtain ⟨hh0, hh1, hh2⟩ := id hH
  obtain ⟨p0, p1⟩ := id hPd
  obtain ⟨n30, n31⟩ := id n3
  obtain ⟨hS, hHR, hP, hSlR⟩ := id hR
  obtain ⟨r1, r2, r3, r4, r5, r6⟩ := id hS
  have hnp := r2.1
  have hno8 := r1.2.1
  have hnp16 := r1.1
  refine j_aload_n X dX4_lose_0 rfl ?_
  refine j_getr X dX4_lose_1 (T := TX4) (N := 6) (C := RX4) hinX4 rfl (by assumption) 0 (by decide) (by decide +kernel) rfl ?_
  refine j_iload_n X dX4_lose_4 rfl ?_
  refine j_callV (nn := 1) X dX4_lose_5 (c_X3_hasOwner l D nH sk v (x + 1) o (no G.1) hN ho r3 hno8) gX4_lose_X3_hasOwner rfl ⟨rfl, rfl⟩ (by decide +kernel) ⟨Nat.le_of_ble_eq_true rfl, Nat.le_of_ble_eq_true rfl⟩ (by assumption) ⟨rfl, rfl⟩ rfl rfl (Nat.le_of_ble_eq_true rfl) ⟨Nat.zero_le _, Nat.zero_le _⟩ (kI (fun z5 v5 h5 => ?_))
  obtain ⟨hz5a, hz5b, rfl⟩ := h5
  refine j_if_eq (tgt := 22) X dX4_lose_8 (by omega) (by decide) (fun c8 => ?_) (fun c8 => ?_)
  · refine j_iconst X dX4_lose_22 ?_
    have hret : (-1 : Int) = (sLose G o p).1 ∧ XR v x (sLose G o p).2 ∧ frX v v x := by
      rw [show sLose G o p = (-1, G) from (cite_t (by unfold isO isP; omega) _ _)]
      exact ⟨rfl, hR, frX.refl _ _⟩
    exact j_iret X dX4_lose_23 ⟨_, rfl, rfl, hret⟩
  · refine j_aload_n X dX4_lose_11 rfl ?_
    refine j_getr X dX4_lose_12 (T := TX4) (N := 6) (C := RX4) hinX4 rfl (by assumption) 0 (by decide) (by decide +kernel) rfl ?_
    refine j_iload_n X dX4_lose_15 rfl ?_
    refine j_callV (nn := 1) X dX4_lose_16 (c_X3_hasParcel l D nH sk v (x + 1) p (np G.1) hN hp hnp hnp16) gX4_lose_X3_hasParcel rfl ⟨rfl, rfl⟩ (by decide +kernel) ⟨Nat.le_of_ble_eq_true rfl, Nat.le_of_ble_eq_true rfl⟩ (by assumption) ⟨rfl, rfl⟩ rfl rfl (Nat.le_of_ble_eq_true rfl) ⟨Nat.zero_le _, Nat.zero_le _⟩ (kI (fun z16 v16 h16 => ?_))
    obtain ⟨hz16a, hz16b, rfl⟩ := h16
    refine j_if_ne (tgt := 24) X dX4_lose_19 (by omega) (by decide) (fun c19 => ?_) (fun c19 => ?_)
    · have hqi : 0 ≤ o ∧ o < (no G.1 : Int) := by omega
      obtain ⟨i, rfl⟩ : ∃ i : Nat, o = (i : Int) := ⟨o.toNat, by omega⟩
      have hqq : 0 ≤ p ∧ p < (np G.1 : Int) := by omega
      obtain ⟨q, rfl⟩ : ∃ q : Nat, p = (q : Int) := ⟨p.toNat, by omega⟩
      obtain ⟨hBi, hWi, hLi⟩ := r6 i (by omega)
      have hbi := n8 i (by omega)
      obtain ⟨hbi0, hbi1⟩ := id hbi
      obtain ⟨L1, hp1, hL1⟩ := id hBi
      have hwt := (r1.2.2.2.2 i (by omega)).1
      have hlt := (r1.2.2.2.2 i (by omega)).2
      refine j_aload_n X dX4_lose_24 rfl ?_
      refine j_getr X dX4_lose_25 (T := TX4) (N := 6) (C := RX4) hinX4 rfl (by assumption) 0 (by decide) (by decide +kernel) rfl ?_
      refine j_iload_n X dX4_lose_28 rfl ?_
      refine j_iload_n X dX4_lose_29 rfl ?_
      refine j_callV (nn := 2) X dX4_lose_30 (c_X3_isWaiting l D nH sk v (x + 1) i q (wt G.1 i) hN (by omega) (by omega) hWi hwt) gX4_lose_X3_isWaiting rfl ⟨rfl, rfl⟩ (by decide +kernel) ⟨Nat.le_of_ble_eq_true rfl, Nat.le_of_ble_eq_true rfl⟩ (by assumption) ⟨rfl, rfl⟩ rfl rfl (Nat.le_of_ble_eq_true rfl) ⟨Nat.zero_le _, Nat.zero_le _⟩ (kI (fun z30 v30 h30 => ?_))
      obtain ⟨hz30a, hz30b, rfl⟩ := h30
      refine j_if_ne (tgt := 39) X dX4_lose_33 (by omega) (by decide) (fun c33 => ?_) (fun c33 => ?_)
      · refine j_aload_n X dX4_lose_39 rfl ?_
        refine j_getr X dX4_lose_40 (T := TX4) (N := 6) (C := RX4) hinX4 rfl (by assumption) 1 (by decide) (by decide +kernel) rfl ?_
        refine j_aload_n X dX4_lose_43 rfl ?_
        refine j_getr X dX4_lose_44 (T := TX4) (N := 6) (C := RX4) hinX4 rfl (by assumption) 0 (by decide) (by decide +kernel) rfl ?_
        refine j_callV (nn := 1) X dX4_lose_47 (c_X1_record l D nH sk v (x + 25) (x + 1) G.2.1 G.1 hH hN (by omega) hHR hS) gX4_lose_X1_record rfl ⟨rfl, rfl⟩ (by decide +kernel) ⟨Nat.le_of_ble_eq_true rfl, Nat.le_of_ble_eq_true rfl⟩ (by assumption) ⟨rfl, rfl⟩ rfl rfl (Nat.le_of_ble_eq_true rfl) ⟨Nat.zero_le _, Nat.zero_le _⟩ (kV (fun v47 h47 => ?_))
        obtain ⟨hHr, fr9⟩ := h47
        generalize v47 = w1 at hHr fr9 ⊢
        have hS1 := hS.kept (w := w1) (fun a ha hb => fr9 a (by omega))
        have hW1 : w1 (x + 1 + 6) i = (wt G.1 i : Int) := by rw [fr9 _ (by omega)]; exact hWi
        have hL9 : w1 (x + 1 + 7) i = (lo_ G.1 i : Int) := by rw [fr9 _ (by omega)]; exact hLi
        have hB1 : BP w1 (x + 1 + 8 + 2 * i) (bn G.1 i) := hBi.kept (fr9 _ (by omega)) (fr9 _ (by omega))
        refine j_aload_n X dX4_lose_50 rfl ?_
        refine j_getr X dX4_lose_51 (T := TX4) (N := 6) (C := RX4) hinX4 rfl (by assumption) 0 (by decide) (by decide +kernel) rfl ?_
        refine j_getrN X dX4_lose_54 (T := TX3) (N := 8) (C := RX3) hinX3 rfl (by assumption) 5 (by decide) (by decide) rfl rfl ?_
        refine j_iload_n X dX4_lose_57 rfl ?_
        refine j_dup2 X dX4_lose_58 rfl rfl ?_
        refine j_iald X dX4_lose_59 (by assumption) (by omega) (by decide) ?_
        rw [Int.toNat_natCast, hW1]
        refine j_iconst X dX4_lose_60 ?_
        refine j_iload_n X dX4_lose_61 rfl ?_
        refine j_ishl X dX4_lose_62 (b_shl (by omega)) ?_
        refine j_iconst X dX4_lose_63 ?_
        refine j_ixor X dX4_lose_64 (b_not (by omega)) ?_
        refine j_iand X dX4_lose_65 (b_clr hwt (by omega)) ?_
        refine j_iast X dX4_lose_66 (by assumption) (by omega) (by decide) ?_
        rw [Int.toNat_natCast]
        generalize hd_u1 : up2 w1 (x + 1 + 6) (i) (((clr (wt G.1 i) q : Nat) : Int)) = u1
        have f_u1 : u1 (x + 1 + 6) (i) = ((clr (wt G.1 i) q : Nat) : Int) := by rw [← hd_u1, up2_s, upE_s]
        have g_u1 : ∀ j_, j_ ≠ i → u1 (x + 1 + 6) j_ = w1 (x + 1 + 6) j_ := fun j_ hk => by rw [← hd_u1, up2_s, upE_n _ _ hk]
        have n_u1 : ∀ a, a ≠ x + 1 + 6 → u1 a = w1 a := fun a ha => by rw [← hd_u1, up2_n _ _ _ ha]
        refine j_aload_n X dX4_lose_67 rfl ?_
        refine j_getr X dX4_lose_68 (T := TX4) (N := 6) (C := RX4) hinX4 rfl (by assumption) 0 (by decide) (by decide +kernel) rfl ?_
        refine j_getrN X dX4_lose_71 (T := TX3) (N := 8) (C := RX3) hinX3 rfl (by assumption) 6 (by decide) (by decide) rfl rfl ?_
        refine j_iload_n X dX4_lose_74 rfl ?_
        refine j_dup2 X dX4_lose_75 rfl rfl ?_
        refine j_iald X dX4_lose_76 (by assumption) (by omega) (by decide) ?_
        rw [Int.toNat_natCast, n_u1 _ (by omega), hL9]
        refine j_iconst X dX4_lose_77 ?_
        refine j_iload_n X dX4_lose_78 rfl ?_
        refine j_ishl X dX4_lose_79 (b_shl (by omega)) ?_
        refine j_ior X dX4_lose_80 (b_or _ _) ?_
        refine j_iast X dX4_lose_81 (by assumption) (by omega) (by decide) ?_
        rw [Int.toNat_natCast]
        generalize hd_u2 : up2 u1 (x + 1 + 7) (i) (((lo_ G.1 i ||| 2 ^ q : Nat) : Int)) = u2
        have f_u2 : u2 (x + 1 + 7) (i) = ((lo_ G.1 i ||| 2 ^ q : Nat) : Int) := by rw [← hd_u2, up2_s, upE_s]
        have g_u2 : ∀ j_, j_ ≠ i → u2 (x + 1 + 7) j_ = u1 (x + 1 + 7) j_ := fun j_ hk => by rw [← hd_u2, up2_s, upE_n _ _ hk]
        have n_u2 : ∀ a, a ≠ x + 1 + 7 → u2 a = u1 a := fun a ha => by rw [← hd_u2, up2_n _ _ _ ha]
        have hW3 : u2 (x + 1 + 6) i = ((clr (wt G.1 i) q : Nat) : Int) := by rw [n_u2 _ (by omega)]; exact f_u1
        refine j_aload_n X dX4_lose_82 rfl ?_
        refine j_getr X dX4_lose_83 (T := TX4) (N := 6) (C := RX4) hinX4 rfl (by assumption) 0 (by decide) (by decide +kernel) rfl ?_
        refine j_getrN X dX4_lose_86 (T := TX3) (N := 8) (C := RX3) hinX3 rfl (by assumption) 5 (by decide) (by decide) rfl rfl ?_
        refine j_iload_n X dX4_lose_89 rfl ?_
        refine j_iald X dX4_lose_90 (by assumption) (by omega) (by decide) ?_
        rw [Int.toNat_natCast, hW3]
        refine j_topr (I_nat _) ?_
        refine j_callS (nn := 1) X dX4_lose_91 (c_bitCount l D nH sk u2 (clr (wt G.1 i) q) (clr_lt (k := q) hwt (by omega))) gX4_lose_J6_bitCount_0f7a4 rfl ⟨rfl, rfl⟩ (by decide +kernel) ⟨Nat.le_of_ble_eq_true rfl, Nat.le_of_ble_eq_true rfl⟩ rfl rfl (Nat.le_of_ble_eq_true rfl) ⟨Nat.zero_le _, Nat.zero_le _⟩ (kI (fun z91 v91 h91 => ?_))
        obtain ⟨rfl, rfl⟩ := h91
        have hret : (pop (clr (wt G.1 i) q) : Int) = (sLose G (i : Int) (q : Int)).1 ∧ XR u2 x (sLose G (i : Int) (q : Int)).2 ∧ frX v u2 x := by
          rw [show sLose G (i : Int) (q : Int) = ((pop (clr (wt G.1 i) q) : Int), recG G (setW G.1 i (clr (wt G.1 i) q) (lo_ G.1 i ||| 2 ^ q))) from (cite_f (by unfold isO isP; omega) _ _).trans (cite_f (by rw [Int.toNat_natCast, Int.toNat_natCast]; exact fun h => h (hz30b.mp (by omega))) _ _), ← setB_id]
          have hSm := hS1.mod (w := u2) (by omega) (clr_lt (k := q) hwt (by omega)) (or_lt (k := q) hlt (by omega)) (fun a ha hb hc hd he hf => by rw [n_u2 a hd, n_u1 a hc]) (hB1.kept (by rw [n_u2 _ (by omega), n_u1 _ (by omega)]) (by rw [n_u2 _ (by omega), n_u1 _ (by omega)])) hW3 (fun j hj => by rw [n_u2 _ (by omega)]; exact g_u1 j hj) f_u2 (fun j hj => by rw [g_u2 j hj, n_u1 _ (by omega)])
          exact ⟨rfl, hR.rec hHr fr9 (fun a ha => by rw [n_u2 a (by omega), n_u1 a (by omega)]) hSm⟩
        exact j_iret X dX4_lose_94 ⟨_, rfl, rfl, hret⟩
      · refine j_bipush X dX4_lose_36 (by decide) ?_
        have hret : (-5 : Int) = (sLose G (i : Int) (q : Int)).1 ∧ XR v x (sLose G (i : Int) (q : Int)).2 ∧ frX v v x := by
          rw [show sLose G (i : Int) (q : Int) = (-5, G) from (cite_f (by unfold isO isP; omega) _ _).trans (cite_t (by rw [Int.toNat_natCast, Int.toNat_natCast]; exact fun h => by have := hz30b.mpr h; omega) _ _)]
          exact ⟨rfl, hR, frX.refl _ _⟩
        exact j_iret X dX4_lose_38 ⟨_, rfl, rfl, hret⟩
    · refine j_iconst X dX4_lose_22 ?_
      have hret : (-1 : Int) = (sLose G o p).1 ∧ XR v x (sLose G o p).2 ∧ frX v v x := by
        rw [show sLose G o p = (-1, G) from (cite_t (by unfold isO isP; omega) _ _)]
        exact ⟨rfl, hR, frX.refl _ _⟩
      exact j_iret X dX4_lose_23 ⟨_, rfl, rfl, hret⟩
def rmX4_again : Room := { frames := 4, cells := 0, slots := 0, locals := 90 }
set_option maxHeartbeats 4000000 in
set_option maxRecDepth 100000 in
theorem c_X4_again (l : Launch) (D : va_G) (nH : Nat) (sk : Sk) (v : Mem) (x : Nat) (o p : Int) (G : GS) (hX : Xd D sk x) (hR : XR v x G)(ho : -2147483648 ≤ o ∧ o ≤ 2147483647)(hp : -2147483648 ≤ p ∧ p ≤ 2147483647) : CtI l D yX4_again wsX4_again rmX4_again [.ref x, .int (I o), .int (I p)] nH sk v (fun z v' => z = (sAgain G o p).1 ∧ XR v' x (sAgain G o p).2 ∧ frX v v' x) := by
  refine ct_of (cc := cX4_again) (maxL := 3) (ret := (some .int)) rfl rfl (Nat.le_of_ble_eq_true rfl) ?_
  intro p_ e_ s_ m_ args_ below_ meth_ c_ X hmn hsz
  have hinX3 : ∀ w ∈ wsX30, w ∈ wsX4_again := by decide +kernel
  have hinX4 : ∀ w ∈ wsX40, w ∈ wsX4_again := by decide +kernel
  obtain ⟨x0, hN, hH, ⟨gs, x171, hgs⟩, x172, hPd, ⟨gt, x175, hgt⟩, hSl, hTr⟩ := id hX
  obtain ⟨n0, n1, n2, n3, ⟨gn, n5, hgn⟩, n6, n7, n8⟩ := id hN
  obtain ⟨hh0, hh1, hh2⟩ := id hH
  obtain ⟨p0, p1⟩ := id hPd
  obtain ⟨n30, n31⟩ := id n3
  obtain ⟨hS, hHR, hP, hSlR⟩ := id hR
  obtain ⟨r1, r2, r3, r4, r5, r6⟩ := id hS
  have hnp := r2.1
  have hno8 := r1.2.1
  have hnp16 := r1.1
  refine j_aload_n X dX4_again_0 rfl ?_
  refine j_getr X dX4_again_1 (T := TX4) (N := 6) (C := RX4) hinX4 rfl (by assumption) 0 (by decide) (by decide +kernel) rfl ?_
  refine j_iload_n X dX4_again_4 rfl ?_
  refine j_callV (nn := 1) X dX4_again_5 (c_X3_hasOwner l D nH sk v (x + 1) o (no G.1) hN ho r3 hno8) gX4_again_X3_hasOwner rfl ⟨rfl, rfl⟩ (by decide +kernel) ⟨Nat.le_of_ble_eq_true rfl, Nat.le_of_ble_eq_true rfl⟩ (by assumption) ⟨rfl, rfl⟩ rfl rfl (Nat.le_of_ble_eq_true rfl) ⟨Nat.zero_le _, Nat.zero_le _⟩ (kI (fun z5 v5 h5 => ?_))
  obtain ⟨hz5a, hz5b, rfl⟩ := h5
  refine j_if_eq (tgt := 22) X dX4_again_8 (by omega) (by decide) (fun c8 => ?_) (fun c8 => ?_)
  · refine j_iconst X dX4_again_22 ?_
    have hret : (-1 : Int) = (sAgain G o p).1 ∧ XR v x (sAgain G o p).2 ∧ frX v v x := by
      rw [show sAgain G o p = (-1, G) from (cite_t (by unfold isO isP; omega) _ _)]
      exact ⟨rfl, hR, frX.refl _ _⟩
    exact j_iret X dX4_again_23 ⟨_, rfl, rfl, hret⟩
  · refine j_aload_n X dX4_again_11 rfl ?_
    refine j_getr X dX4_again_12 (T := TX4) (N := 6) (C := RX4) hinX4 rfl (by assumption) 0 (by decide) (by decide +kernel) rfl ?_
    refine j_iload_n X dX4_again_15 rfl ?_
    refine j_callV (nn := 1) X dX4_again_16 (c_X3_hasParcel l D nH sk v (x + 1) p (np G.1) hN hp hnp hnp16) gX4_again_X3_hasParcel rfl ⟨rfl, rfl⟩ (by decide +kernel) ⟨Nat.le_of_ble_eq_true rfl, Nat.le_of_ble_eq_true rfl⟩ (by assumption) ⟨rfl, rfl⟩ rfl rfl (Nat.le_of_ble_eq_true rfl) ⟨Nat.zero_le _, Nat.zero_le _⟩ (kI (fun z16 v16 h16 => ?_))
    obtain ⟨hz16a, hz16b, rfl⟩ := h16
    refine j_if_ne (tgt := 24) X dX4_again_19 (by omega) (by decide) (fun c19 => ?_) (fun c19 => ?_)
    · have hqi : 0 ≤ o ∧ o < (no G.1 : Int) := by omega
      obtain ⟨i, rfl⟩ : ∃ i : Nat, o = (i : Int) := ⟨o.toNat, by omega⟩
      have hqq : 0 ≤ p ∧ p < (np G.1 : Int) := by omega
      obtain ⟨q, rfl⟩ : ∃ q : Nat, p = (q : Int) := ⟨p.toNat, by omega⟩
      obtain ⟨hBi, hWi, hLi⟩ := r6 i (by omega)
      have hbi := n8 i (by omega)
      obtain ⟨hbi0, hbi1⟩ := id hbi
      obtain ⟨L1, hp1, hL1⟩ := id hBi
      have hwt := (r1.2.2.2.2 i (by omega)).1
      have hlt := (r1.2.2.2.2 i (by omega)).2
      refine j_aload_n X dX4_again_24 rfl ?_
      refine j_getr X dX4_again_25 (T := TX4) (N := 6) (C := RX4) hinX4 rfl (by assumption) 0 (by decide) (by decide +kernel) rfl ?_
      refine j_iload_n X dX4_again_28 rfl ?_
      refine j_iload_n X dX4_again_29 rfl ?_
      refine j_callV (nn := 2) X dX4_again_30 (c_X3_isWaiting l D nH sk v (x + 1) i q (wt G.1 i) hN (by omega) (by omega) hWi hwt) gX4_again_X3_isWaiting rfl ⟨rfl, rfl⟩ (by decide +kernel) ⟨Nat.le_of_ble_eq_true rfl, Nat.le_of_ble_eq_true rfl⟩ (by assumption) ⟨rfl, rfl⟩ rfl rfl (Nat.le_of_ble_eq_true rfl) ⟨Nat.zero_le _, Nat.zero_le _⟩ (kI (fun z30 v30 h30 => ?_))
      obtain ⟨hz30a, hz30b, rfl⟩ := h30
      refine j_if_eq (tgt := 39) X dX4_again_33 (by omega) (by decide) (fun c33 => ?_) (fun c33 => ?_)
      · refine j_aload_n X dX4_again_39 rfl ?_
        refine j_getr X dX4_again_40 (T := TX4) (N := 6) (C := RX4) hinX4 rfl (by assumption) 1 (by decide) (by decide +kernel) rfl ?_
        refine j_aload_n X dX4_again_43 rfl ?_
        refine j_getr X dX4_again_44 (T := TX4) (N := 6) (C := RX4) hinX4 rfl (by assumption) 0 (by decide) (by decide +kernel) rfl ?_
        refine j_callV (nn := 1) X dX4_again_47 (c_X1_record l D nH sk v (x + 25) (x + 1) G.2.1 G.1 hH hN (by omega) hHR hS) gX4_again_X1_record rfl ⟨rfl, rfl⟩ (by decide +kernel) ⟨Nat.le_of_ble_eq_true rfl, Nat.le_of_ble_eq_true rfl⟩ (by assumption) ⟨rfl, rfl⟩ rfl rfl (Nat.le_of_ble_eq_true rfl) ⟨Nat.zero_le _, Nat.zero_le _⟩ (kV (fun v47 h47 => ?_))
        obtain ⟨hHr, fr9⟩ := h47
        generalize v47 = w1 at hHr fr9 ⊢
        have hS1 := hS.kept (w := w1) (fun a ha hb => fr9 a (by omega))
        have hW1 : w1 (x + 1 + 6) i = (wt G.1 i : Int) := by rw [fr9 _ (by omega)]; exact hWi
        have hL9 : w1 (x + 1 + 7) i = (lo_ G.1 i : Int) := by rw [fr9 _ (by omega)]; exact hLi
        have hB1 : BP w1 (x + 1 + 8 + 2 * i) (bn G.1 i) := hBi.kept (fr9 _ (by omega)) (fr9 _ (by omega))
        refine j_aload_n X dX4_again_50 rfl ?_
        refine j_getr X dX4_again_51 (T := TX4) (N := 6) (C := RX4) hinX4 rfl (by assumption) 0 (by decide) (by decide +kernel) rfl ?_
        refine j_getrN X dX4_again_54 (T := TX3) (N := 8) (C := RX3) hinX3 rfl (by assumption) 5 (by decide) (by decide) rfl rfl ?_
        refine j_iload_n X dX4_again_57 rfl ?_
        refine j_dup2 X dX4_again_58 rfl rfl ?_
        refine j_iald X dX4_again_59 (by assumption) (by omega) (by decide) ?_
        rw [Int.toNat_natCast, hW1]
        refine j_iconst X dX4_again_60 ?_
        refine j_iload_n X dX4_again_61 rfl ?_
        refine j_ishl X dX4_again_62 (b_shl (by omega)) ?_
        refine j_ior X dX4_again_63 (b_or _ _) ?_
        refine j_iast X dX4_again_64 (by assumption) (by omega) (by decide) ?_
        rw [Int.toNat_natCast]
        generalize hd_u1 : up2 w1 (x + 1 + 6) (i) (((wt G.1 i ||| 2 ^ q : Nat) : Int)) = u1
        have f_u1 : u1 (x + 1 + 6) (i) = ((wt G.1 i ||| 2 ^ q : Nat) : Int) := by rw [← hd_u1, up2_s, upE_s]
        have g_u1 : ∀ j_, j_ ≠ i → u1 (x + 1 + 6) j_ = w1 (x + 1 + 6) j_ := fun j_ hk => by rw [← hd_u1, up2_s, upE_n _ _ hk]
        have n_u1 : ∀ a, a ≠ x + 1 + 6 → u1 a = w1 a := fun a ha => by rw [← hd_u1, up2_n _ _ _ ha]
        refine j_aload_n X dX4_again_65 rfl ?_
        refine j_getr X dX4_again_66 (T := TX4) (N := 6) (C := RX4) hinX4 rfl (by assumption) 0 (by decide) (by decide +kernel) rfl ?_
        refine j_getrN X dX4_again_69 (T := TX3) (N := 8) (C := RX3) hinX3 rfl (by assumption) 6 (by decide) (by decide) rfl rfl ?_
        refine j_iload_n X dX4_again_72 rfl ?_
        refine j_dup2 X dX4_again_73 rfl rfl ?_
        refine j_iald X dX4_again_74 (by assumption) (by omega) (by decide) ?_
        rw [Int.toNat_natCast, n_u1 _ (by omega), hL9]
        refine j_iconst X dX4_again_75 ?_
        refine j_iload_n X dX4_again_76 rfl ?_
        refine j_ishl X dX4_again_77 (b_shl (by omega)) ?_
        refine j_iconst X dX4_again_78 ?_
        refine j_ixor X dX4_again_79 (b_not (by omega)) ?_
        refine j_iand X dX4_again_80 (b_clr hlt (by omega)) ?_
        refine j_iast X dX4_again_81 (by assumption) (by omega) (by decide) ?_
        rw [Int.toNat_natCast]
        generalize hd_u2 : up2 u1 (x + 1 + 7) (i) (((clr (lo_ G.1 i) q : Nat) : Int)) = u2
        have f_u2 : u2 (x + 1 + 7) (i) = ((clr (lo_ G.1 i) q : Nat) : Int) := by rw [← hd_u2, up2_s, upE_s]
        have g_u2 : ∀ j_, j_ ≠ i → u2 (x + 1 + 7) j_ = u1 (x + 1 + 7) j_ := fun j_ hk => by rw [← hd_u2, up2_s, upE_n _ _ hk]
        have n_u2 : ∀ a, a ≠ x + 1 + 7 → u2 a = u1 a := fun a ha => by rw [← hd_u2, up2_n _ _ _ ha]
        have hW3 : u2 (x + 1 + 6) i = ((wt G.1 i ||| 2 ^ q : Nat) : Int) := by rw [n_u2 _ (by omega)]; exact f_u1
        refine j_aload_n X dX4_again_82 rfl ?_
        refine j_getr X dX4_again_83 (T := TX4) (N := 6) (C := RX4) hinX4 rfl (by assumption) 0 (by decide) (by decide +kernel) rfl ?_
        refine j_getrN X dX4_again_86 (T := TX3) (N := 8) (C := RX3) hinX3 rfl (by assumption) 5 (by decide) (by decide) rfl rfl ?_
        refine j_iload_n X dX4_again_89 rfl ?_
        refine j_iald X dX4_again_90 (by assumption) (by omega) (by decide) ?_
        rw [Int.toNat_natCast, hW3]
        refine j_topr (I_nat _) ?_
        refine j_callS (nn := 1) X dX4_again_91 (c_bitCount l D nH sk u2 (wt G.1 i ||| 2 ^ q) (or_lt (k := q) hwt (by omega))) gX4_again_J6_bitCount_0f7a4 rfl ⟨rfl, rfl⟩ (by decide +kernel) ⟨Nat.le_of_ble_eq_true rfl, Nat.le_of_ble_eq_true rfl⟩ rfl rfl (Nat.le_of_ble_eq_true rfl) ⟨Nat.zero_le _, Nat.zero_le _⟩ (kI (fun z91 v91 h91 => ?_))
        obtain ⟨rfl, rfl⟩ := h91
        have hret : (pop (wt G.1 i ||| 2 ^ q) : Int) = (sAgain G (i : Int) (q : Int)).1 ∧ XR u2 x (sAgain G (i : Int) (q : Int)).2 ∧ frX v u2 x := by
          rw [show sAgain G (i : Int) (q : Int) = ((pop (wt G.1 i ||| 2 ^ q) : Int), recG G (setW G.1 i (wt G.1 i ||| 2 ^ q) (clr (lo_ G.1 i) q))) from (cite_f (by unfold isO isP; omega) _ _).trans (cite_f (by rw [Int.toNat_natCast, Int.toNat_natCast]; exact fun h => by have := hz30b.mpr h; omega) _ _), ← setB_id]
          have hSm := hS1.mod (w := u2) (by omega) (or_lt (k := q) hwt (by omega)) (clr_lt (k := q) hlt (by omega)) (fun a ha hb hc hd he hf => by rw [n_u2 a hd, n_u1 a hc]) (hB1.kept (by rw [n_u2 _ (by omega), n_u1 _ (by omega)]) (by rw [n_u2 _ (by omega), n_u1 _ (by omega)])) hW3 (fun j hj => by rw [n_u2 _ (by omega)]; exact g_u1 j hj) f_u2 (fun j hj => by rw [g_u2 j hj, n_u1 _ (by omega)])
          exact ⟨rfl, hR.rec hHr fr9 (fun a ha => by rw [n_u2 a (by omega), n_u1 a (by omega)]) hSm⟩
        exact j_iret X dX4_again_94 ⟨_, rfl, rfl, hret⟩
      · refine j_bipush X dX4_again_36 (by decide) ?_
        have hret : (-5 : Int) = (sAgain G (i : Int) (q : Int)).1 ∧ XR v x (sAgain G (i : Int) (q : Int)).2 ∧ frX v v x := by
          rw [show sAgain G (i : Int) (q : Int) = (-5, G) from (cite_f (by unfold isO isP; omega) _ _).trans (cite_t (by rw [Int.toNat_natCast, Int.toNat_natCast]; exact hz30b.mp (by omega)) _ _)]
          exact ⟨rfl, hR, frX.refl _ _⟩
        exact j_iret X dX4_again_38 ⟨_, rfl, rfl, hret⟩
    · refine j_iconst X dX4_again_22 ?_
      have hret : (-1 : Int) = (sAgain G o p).1 ∧ XR v x (sAgain G o p).2 ∧ frX v v x := by
        rw [show sAgain G o p = (-1, G) from (cite_t (by unfold isO isP; omega) _ _)]
        exact ⟨rfl, hR, frX.refl _ _⟩
      exact j_iret X dX4_again_23 ⟨_, rfl, rfl, hret⟩
def rmX4_hand : Room := { frames := 4, cells := 0, slots := 0, locals := 90 }
set_option maxHeartbeats 4000000 in
set_option maxRecDepth 100000 in
theorem c_X4_hand (l : Launch) (D : va_G) (nH : Nat) (sk : Sk) (v : Mem) (x : Nat) (o n p c : Int) (G : GS) (hX : Xd D sk x) (hR : XR v x G)(ho : -2147483648 ≤ o ∧ o ≤ 2147483647)(hn : -2147483648 ≤ n ∧ n ≤ 2147483647)(hp : -2147483648 ≤ p ∧ p ≤ 2147483647) (hc : c = 0 ∨ c = 1) : CtI l D yX4_hand wsX4_hand rmX4_hand [.ref x, .int (I o), .int (I n), .int (I p), .int (I c)] nH sk v (fun z v' => z = (sHand G o n p c).1 ∧ XR v' x (sHand G o n p c).2 ∧ frX v v' x) := by
  refine ct_of (cc := cX4_hand) (maxL := 7) (ret := (some .int)) rfl rfl (Nat.le_of_ble_eq_true rfl) ?_
  intro p_ e_ s_ m_ args_ below_ meth_ c_ X hmn hsz
  have hinX0 : ∀ w ∈ wsX00, w ∈ wsX4_hand := by decide +kernel
  have hinX3 : ∀ w ∈ wsX30, w ∈ wsX4_hand := by decide +kernel
  have hinX4 : ∀ w ∈ wsX40, w ∈ wsX4_hand := by decide +kernel
  obtain ⟨x0, hN, hH, ⟨gs, x171, hgs⟩, x172, hPd, ⟨gt, x175, hgt⟩, hSl, hTr⟩ := id hX
  obtain ⟨n0, n1, n2, n3, ⟨gn, n5, hgn⟩, n6, n7, n8⟩ := id hN
  obtain ⟨hh0, hh1, hh2⟩ := id hH
  obtain ⟨p0, p1⟩ := id hPd
  obtain ⟨n30, n31⟩ := id n3
  obtain ⟨hS, hHR, hP, hSlR⟩ := id hR
  obtain ⟨r1, r2, r3, r4, r5, r6⟩ := id hS
  have hnp := r2.1
  have hno8 := r1.2.1
  have hnp16 := r1.1
  refine j_aload_n X dX4_hand_0 rfl ?_
  refine j_getr X dX4_hand_1 (T := TX4) (N := 6) (C := RX4) hinX4 rfl (by assumption) 0 (by decide) (by decide +kernel) rfl ?_
  refine j_iload_n X dX4_hand_4 rfl ?_
  refine j_callV (nn := 1) X dX4_hand_5 (c_X3_hasOwner l D nH sk v (x + 1) o (no G.1) hN ho r3 hno8) gX4_hand_X3_hasOwner rfl ⟨rfl, rfl⟩ (by decide +kernel) ⟨Nat.le_of_ble_eq_true rfl, Nat.le_of_ble_eq_true rfl⟩ (by assumption) ⟨rfl, rfl⟩ rfl rfl (Nat.le_of_ble_eq_true rfl) ⟨Nat.zero_le _, Nat.zero_le _⟩ (kI (fun z5 v5 h5 => ?_))
  obtain ⟨hz5a, hz5b, rfl⟩ := h5
  refine j_if_eq (tgt := 22) X dX4_hand_8 (by omega) (by decide) (fun c8 => ?_) (fun c8 => ?_)
  · refine j_iconst X dX4_hand_22 ?_
    have hret : (-1 : Int) = (sHand G o n p c).1 ∧ XR v x (sHand G o n p c).2 ∧ frX v v x := by
      rw [show sHand G o n p c = (-1, G) from (cite_t (by unfold isO isP; omega) _ _)]
      exact ⟨rfl, hR, frX.refl _ _⟩
    exact j_iret X dX4_hand_23 ⟨_, rfl, rfl, hret⟩
  · refine j_aload_n X dX4_hand_11 rfl ?_
    refine j_getr X dX4_hand_12 (T := TX4) (N := 6) (C := RX4) hinX4 rfl (by assumption) 0 (by decide) (by decide +kernel) rfl ?_
    refine j_iload_n X dX4_hand_15 rfl ?_
    refine j_callV (nn := 1) X dX4_hand_16 (c_X3_hasParcel l D nH sk v (x + 1) p (np G.1) hN hp hnp hnp16) gX4_hand_X3_hasParcel rfl ⟨rfl, rfl⟩ (by decide +kernel) ⟨Nat.le_of_ble_eq_true rfl, Nat.le_of_ble_eq_true rfl⟩ (by assumption) ⟨rfl, rfl⟩ rfl rfl (Nat.le_of_ble_eq_true rfl) ⟨Nat.zero_le _, Nat.zero_le _⟩ (kI (fun z16 v16 h16 => ?_))
    obtain ⟨hz16a, hz16b, rfl⟩ := h16
    refine j_if_ne (tgt := 24) X dX4_hand_19 (by omega) (by decide) (fun c19 => ?_) (fun c19 => ?_)
    · have hqi : 0 ≤ o ∧ o < (no G.1 : Int) := by omega
      obtain ⟨i, rfl⟩ : ∃ i : Nat, o = (i : Int) := ⟨o.toNat, by omega⟩
      have hqq : 0 ≤ p ∧ p < (np G.1 : Int) := by omega
      obtain ⟨q, rfl⟩ : ∃ q : Nat, p = (q : Int) := ⟨p.toNat, by omega⟩
      refine j_iload_n X dX4_hand_24 rfl ?_
      refine j_callS (nn := 1) X dX4_hand_25 (c_X4_isNumber l D nH sk v n hn) gX4_hand_X4_isNumber rfl ⟨rfl, rfl⟩ (by decide +kernel) ⟨Nat.le_of_ble_eq_true rfl, Nat.le_of_ble_eq_true rfl⟩ rfl rfl (Nat.le_of_ble_eq_true rfl) ⟨Nat.zero_le _, Nat.zero_le _⟩ (kI (fun z25 v25 h25 => ?_))
      obtain ⟨hz25a, hz25b, rfl⟩ := h25
      refine j_if_ne (tgt := 34) X dX4_hand_28 (by omega) (by decide) (fun c28 => ?_) (fun c28 => ?_)
      · have hqm : 10 ≤ n ∧ n ≤ 99 := by omega
        obtain ⟨m, rfl⟩ : ∃ m : Nat, n = (m : Int) := ⟨n.toNat, by omega⟩
        obtain ⟨hBi, hWi, hLi⟩ := r6 i (by omega)
        have hbi := n8 i (by omega)
        obtain ⟨hbi0, hbi1⟩ := id hbi
        obtain ⟨L1, hp1, hL1⟩ := id hBi
        have hwt := (r1.2.2.2.2 i (by omega)).1
        have hlt := (r1.2.2.2.2 i (by omega)).2
        have hl60 := hL1.2.1
        refine j_aload_n X dX4_hand_34 rfl ?_
        refine j_getr X dX4_hand_35 (T := TX4) (N := 6) (C := RX4) hinX4 rfl (by assumption) 0 (by decide) (by decide +kernel) rfl ?_
        refine j_getrN X dX4_hand_38 (T := TX3) (N := 8) (C := RX3) hinX3 rfl (by assumption) 4 (by decide) (by decide) rfl rfl ?_
        refine j_iload_n X dX4_hand_41 rfl ?_
        refine j_aald (t0 := 3) X dX4_hand_42 (by assumption) rfl (by omega) (by decide) (by rw [Int.toNat_natCast]; exact hgn i (by omega)) ?_
        refine j_astore X dX4_hand_43 rfl (Nat.le_of_ble_eq_true rfl) ?_
        refine j_iload X dX4_hand_45 rfl ?_
        refine j_if_eq (tgt := 68) X dX4_hand_47 (by omega) (by decide) (fun c47 => ?_) (fun c47 => ?_)
        · refine j_aload X dX4_hand_68 rfl ?_
          refine j_iload_n X dX4_hand_70 rfl ?_
          refine j_iload_n X dX4_hand_71 rfl ?_
          refine j_callV (nn := 2) X dX4_hand_72 (c_X0_holds l D nH sk v (x + 1 + 8 + 2 * i) m q L1 hbi hL1 (by omega)) gX4_hand_X0_holds rfl ⟨rfl, rfl⟩ (by decide +kernel) ⟨Nat.le_of_ble_eq_true rfl, Nat.le_of_ble_eq_true rfl⟩ (by assumption) ⟨rfl, rfl⟩ rfl rfl (Nat.le_of_ble_eq_true rfl) ⟨Nat.zero_le _, Nat.zero_le _⟩ (kI (fun z72 v72 h72 => ?_))
          obtain ⟨hz72a, hz72b, rfl⟩ := h72
          rw [hp1.mem_iff] at hz72b
          refine j_istore X dX4_hand_75 rfl (Nat.le_of_ble_eq_true rfl) ?_
          refine j_iload X dX4_hand_77 rfl ?_
          refine j_if_ne (tgt := 85) X dX4_hand_79 (by omega) (by decide) (fun c79 => ?_) (fun c79 => ?_)
          · first
            | (exfalso; omega)
            | skip
              refine j_aload_n X dX4_hand_85 rfl ?_
              refine j_getr X dX4_hand_86 (T := TX4) (N := 6) (C := RX4) hinX4 rfl (by assumption) 1 (by decide) (by decide +kernel) rfl ?_
              refine j_aload_n X dX4_hand_89 rfl ?_
              refine j_getr X dX4_hand_90 (T := TX4) (N := 6) (C := RX4) hinX4 rfl (by assumption) 0 (by decide) (by decide +kernel) rfl ?_
              refine j_callV (nn := 1) X dX4_hand_93 (c_X1_record l D nH sk v (x + 25) (x + 1) G.2.1 G.1 hH hN (by omega) hHR hS) gX4_hand_X1_record rfl ⟨rfl, rfl⟩ (by decide +kernel) ⟨Nat.le_of_ble_eq_true rfl, Nat.le_of_ble_eq_true rfl⟩ (by assumption) ⟨rfl, rfl⟩ rfl rfl (Nat.le_of_ble_eq_true rfl) ⟨Nat.zero_le _, Nat.zero_le _⟩ (kV (fun v93 h93 => ?_))
              obtain ⟨hHr, fr9⟩ := h93
              generalize v93 = w1 at hHr fr9 ⊢
              have hS1 := hS.kept (w := w1) (fun a ha hb => fr9 a (by omega))
              have hW1 : w1 (x + 1 + 6) i = (wt G.1 i : Int) := by rw [fr9 _ (by omega)]; exact hWi
              have hL9 : w1 (x + 1 + 7) i = (lo_ G.1 i : Int) := by rw [fr9 _ (by omega)]; exact hLi
              have hB1 : BP w1 (x + 1 + 8 + 2 * i) (bn G.1 i) := hBi.kept (fr9 _ (by omega)) (fr9 _ (by omega))
              refine j_iload X dX4_hand_96 rfl ?_
              refine j_if_eq (tgt := 111) X dX4_hand_98 (by omega) (by decide) (fun c98 => ?_) (fun c98 => ?_)
              · first
                | (exfalso; omega)
                | skip
                  refine j_aload X dX4_hand_111 rfl ?_
                  refine j_iload_n X dX4_hand_113 rfl ?_
                  refine j_iload_n X dX4_hand_114 rfl ?_
                  refine j_callV (nn := 2) X dX4_hand_115 (c_X0_remove l D nH sk w1 (x + 1 + 8 + 2 * i) m q L1 hbi (hL1.kept (fr9 _ (by omega)) (fr9 _ (by omega))) (by omega)) gX4_hand_X0_remove rfl ⟨rfl, rfl⟩ (by decide +kernel) ⟨Nat.le_of_ble_eq_true rfl, Nat.le_of_ble_eq_true rfl⟩ (by assumption) ⟨rfl, rfl⟩ rfl rfl (Nat.le_of_ble_eq_true rfl) ⟨Nat.zero_le _, Nat.zero_le _⟩ (kV (fun v115 h115 => ?_))
                  obtain ⟨hL3, f9⟩ := h115
                  have hB9 : BP v115 (x + 1 + 8 + 2 * i) ((bn G.1 i).erase (m * 16 + q)) := ⟨_, hp1.erase _, hL3⟩
                  generalize v115 = w9 at hB9 f9 hL3 ⊢
                  have hans : sHand G (i : Int) (m : Int) (q : Int) c = ((((bn G.1 i).erase (m * 16 + q)).length : Int), recG G (setB G.1 i ((bn G.1 i).erase (m * 16 + q)))) := (cite_f (by unfold isO isP; omega) _ _).trans ((cite_f (by unfold isNu; omega) _ _).trans ((cite_t c98 _ _).trans (cite_t (by rw [Int.toNat_natCast, Int.toNat_natCast, Int.toNat_natCast]; exact hz72b.mp (by omega)) _ _)))
                  refine j_aload X dX4_hand_118 rfl ?_
                  refine j_getiN X dX4_hand_120 (T := TX0) (N := 2) (C := RX0) hinX0 rfl (by assumption) 1 (by decide) (by decide) rfl rfl ?_
                  obtain ⟨L2, hp2, hL2⟩ := id hB9
                  rw [hL2.1, hp2.length_eq]
                  first
                  | have hret : ((insL (bn G.1 i) (m * 16 + q)).length : Int) = (sHand G (i : Int) (m : Int) (q : Int) c).1 ∧ XR w9 x (sHand G (i : Int) (m : Int) (q : Int) c).2 ∧ frX v w9 x := by
                      rw [hans]
                      rw [← setW_id]
                      have hSm := hS1.mod (w := w9) (by omega) hwt hlt (fun a ha hb hc hd he hf => by rw [f9 a he hf]) hB9 (by rw [f9 _ (by omega) (by omega)]; exact hW1) (fun j hj => by rw [f9 _ (by omega) (by omega)]) (by rw [f9 _ (by omega) (by omega)]; exact hL9) (fun j hj => by rw [f9 _ (by omega) (by omega)])
                      exact ⟨rfl, hR.rec hHr fr9 (fun a ha => by rw [f9 a (by omega) (by omega)]) hSm⟩
                  | have hret : (((bn G.1 i).erase (m * 16 + q)).length : Int) = (sHand G (i : Int) (m : Int) (q : Int) c).1 ∧ XR w9 x (sHand G (i : Int) (m : Int) (q : Int) c).2 ∧ frX v w9 x := by
                      rw [hans]
                      rw [← setW_id]
                      have hSm := hS1.mod (w := w9) (by omega) hwt hlt (fun a ha hb hc hd he hf => by rw [f9 a he hf]) hB9 (by rw [f9 _ (by omega) (by omega)]; exact hW1) (fun j hj => by rw [f9 _ (by omega) (by omega)]) (by rw [f9 _ (by omega) (by omega)]; exact hL9) (fun j hj => by rw [f9 _ (by omega) (by omega)])
                      exact ⟨rfl, hR.rec hHr fr9 (fun a ha => by rw [f9 a (by omega) (by omega)]) hSm⟩
                  exact j_iret X dX4_hand_123 ⟨_, rfl, rfl, hret⟩
              · first
                | (exfalso; omega)
                | skip
                  refine j_aload X dX4_hand_101 rfl ?_
                  refine j_iload_n X dX4_hand_103 rfl ?_
                  refine j_iload_n X dX4_hand_104 rfl ?_
                  refine j_callV (nn := 2) X dX4_hand_105 (c_X0_insert l D nH sk w1 (x + 1 + 8 + 2 * i) m q L1 hbi (hL1.kept (fr9 _ (by omega)) (fr9 _ (by omega))) (by omega)) gX4_hand_X0_insert rfl ⟨rfl, rfl⟩ (by decide +kernel) ⟨Nat.le_of_ble_eq_true rfl, Nat.le_of_ble_eq_true rfl⟩ (by assumption) ⟨rfl, rfl⟩ rfl rfl (Nat.le_of_ble_eq_true rfl) ⟨Nat.zero_le _, Nat.zero_le _⟩ (kV (fun v105 h105 => ?_))
                  obtain ⟨⟨L3, hL3, hp3⟩, f9⟩ := h105
                  have hB9 : BP v105 (x + 1 + 8 + 2 * i) (insL (bn G.1 i) (m * 16 + q)) := ⟨L3, hp3.trans (insL_perm hp1 _), hL3⟩
                  generalize v105 = w9 at hB9 f9 hL3 ⊢
                  have hans : sHand G (i : Int) (m : Int) (q : Int) c = (((insL (bn G.1 i) (m * 16 + q)).length : Int), recG G (setB G.1 i (insL (bn G.1 i) (m * 16 + q)))) := (cite_f (by unfold isO isP; omega) _ _).trans ((cite_f (by unfold isNu; omega) _ _).trans ((cite_f c98 _ _).trans (cite_t (by rw [Int.toNat_natCast, ← hp1.length_eq]; have := hL1.1; omega) _ _)))
                  refine j_goto (tgt := 118) X dX4_hand_108 (by decide) ?_
                  refine j_aload X dX4_hand_118 rfl ?_
                  refine j_getiN X dX4_hand_120 (T := TX0) (N := 2) (C := RX0) hinX0 rfl (by assumption) 1 (by decide) (by decide) rfl rfl ?_
                  obtain ⟨L2, hp2, hL2⟩ := id hB9
                  rw [hL2.1, hp2.length_eq]
                  first
                  | have hret : ((insL (bn G.1 i) (m * 16 + q)).length : Int) = (sHand G (i : Int) (m : Int) (q : Int) c).1 ∧ XR w9 x (sHand G (i : Int) (m : Int) (q : Int) c).2 ∧ frX v w9 x := by
                      rw [hans]
                      rw [← setW_id]
                      have hSm := hS1.mod (w := w9) (by omega) hwt hlt (fun a ha hb hc hd he hf => by rw [f9 a he hf]) hB9 (by rw [f9 _ (by omega) (by omega)]; exact hW1) (fun j hj => by rw [f9 _ (by omega) (by omega)]) (by rw [f9 _ (by omega) (by omega)]; exact hL9) (fun j hj => by rw [f9 _ (by omega) (by omega)])
                      exact ⟨rfl, hR.rec hHr fr9 (fun a ha => by rw [f9 a (by omega) (by omega)]) hSm⟩
                  | have hret : (((bn G.1 i).erase (m * 16 + q)).length : Int) = (sHand G (i : Int) (m : Int) (q : Int) c).1 ∧ XR w9 x (sHand G (i : Int) (m : Int) (q : Int) c).2 ∧ frX v w9 x := by
                      rw [hans]
                      rw [← setW_id]
                      have hSm := hS1.mod (w := w9) (by omega) hwt hlt (fun a ha hb hc hd he hf => by rw [f9 a he hf]) hB9 (by rw [f9 _ (by omega) (by omega)]; exact hW1) (fun j hj => by rw [f9 _ (by omega) (by omega)]) (by rw [f9 _ (by omega) (by omega)]; exact hL9) (fun j hj => by rw [f9 _ (by omega) (by omega)])
                      exact ⟨rfl, hR.rec hHr fr9 (fun a ha => by rw [f9 a (by omega) (by omega)]) hSm⟩
                  exact j_iret X dX4_hand_123 ⟨_, rfl, rfl, hret⟩
          · first
            | (exfalso; omega)
            | skip
              refine j_bipush X dX4_hand_82 (by decide) ?_
              have hret : (-5 : Int) = (sHand G (i : Int) (m : Int) (q : Int) c).1 ∧ XR v x (sHand G (i : Int) (m : Int) (q : Int) c).2 ∧ frX v v x := by
                first
                | (rw [show sHand G (i : Int) (m : Int) (q : Int) c = (-5, G) from (cite_f (by unfold isO isP; omega) _ _).trans ((cite_f (by unfold isNu; omega) _ _).trans ((cite_f c47 _ _).trans (cite_f (by rw [Int.toNat_natCast, ← hp1.length_eq]; omega) _ _)))]; exact ⟨rfl, hR, frX.refl _ _⟩)
                | (rw [show sHand G (i : Int) (m : Int) (q : Int) c = (-5, G) from (cite_f (by unfold isO isP; omega) _ _).trans ((cite_f (by unfold isNu; omega) _ _).trans ((cite_t c47 _ _).trans (cite_f (by rw [Int.toNat_natCast, Int.toNat_natCast, Int.toNat_natCast]; exact fun h => by have := hz72b.mpr h; omega) _ _)))]; exact ⟨rfl, hR, frX.refl _ _⟩)
              exact j_iret X dX4_hand_84 ⟨_, rfl, rfl, hret⟩
        · refine j_aload X dX4_hand_50 rfl ?_
          refine j_getiN X dX4_hand_52 (T := TX0) (N := 2) (C := RX0) hinX0 rfl (by assumption) 1 (by decide) (by decide) rfl rfl ?_
          refine j_bipush X dX4_hand_55 (by decide) ?_
          rw [hL1.1]
          refine j_icmp_ge (tgt := 64) X dX4_hand_57 (by omega) (by decide) (fun c57 => ?_) (fun c57 => ?_)
          · refine j_iconst X dX4_hand_64 ?_
            refine j_goto (tgt := 75) X dX4_hand_65 (by decide) ?_
            refine j_istore X dX4_hand_75 rfl (Nat.le_of_ble_eq_true rfl) ?_
            refine j_iload X dX4_hand_77 rfl ?_
            refine j_if_ne (tgt := 85) X dX4_hand_79 (by omega) (by decide) (fun c79 => ?_) (fun c79 => ?_)
            · first
              | (exfalso; omega)
              | skip
                refine j_aload_n X dX4_hand_85 rfl ?_
                refine j_getr X dX4_hand_86 (T := TX4) (N := 6) (C := RX4) hinX4 rfl (by assumption) 1 (by decide) (by decide +kernel) rfl ?_
                refine j_aload_n X dX4_hand_89 rfl ?_
                refine j_getr X dX4_hand_90 (T := TX4) (N := 6) (C := RX4) hinX4 rfl (by assumption) 0 (by decide) (by decide +kernel) rfl ?_
                refine j_callV (nn := 1) X dX4_hand_93 (c_X1_record l D nH sk v (x + 25) (x + 1) G.2.1 G.1 hH hN (by omega) hHR hS) gX4_hand_X1_record rfl ⟨rfl, rfl⟩ (by decide +kernel) ⟨Nat.le_of_ble_eq_true rfl, Nat.le_of_ble_eq_true rfl⟩ (by assumption) ⟨rfl, rfl⟩ rfl rfl (Nat.le_of_ble_eq_true rfl) ⟨Nat.zero_le _, Nat.zero_le _⟩ (kV (fun v93 h93 => ?_))
                obtain ⟨hHr, fr9⟩ := h93
                generalize v93 = w1 at hHr fr9 ⊢
                have hS1 := hS.kept (w := w1) (fun a ha hb => fr9 a (by omega))
                have hW1 : w1 (x + 1 + 6) i = (wt G.1 i : Int) := by rw [fr9 _ (by omega)]; exact hWi
                have hL9 : w1 (x + 1 + 7) i = (lo_ G.1 i : Int) := by rw [fr9 _ (by omega)]; exact hLi
                have hB1 : BP w1 (x + 1 + 8 + 2 * i) (bn G.1 i) := hBi.kept (fr9 _ (by omega)) (fr9 _ (by omega))
                refine j_iload X dX4_hand_96 rfl ?_
                refine j_if_eq (tgt := 111) X dX4_hand_98 (by omega) (by decide) (fun c98 => ?_) (fun c98 => ?_)
                · first
                  | (exfalso; omega)
                  | skip
                    refine j_aload X dX4_hand_111 rfl ?_
                    refine j_iload_n X dX4_hand_113 rfl ?_
                    refine j_iload_n X dX4_hand_114 rfl ?_
                    refine j_callV (nn := 2) X dX4_hand_115 (c_X0_remove l D nH sk w1 (x + 1 + 8 + 2 * i) m q L1 hbi (hL1.kept (fr9 _ (by omega)) (fr9 _ (by omega))) (by omega)) gX4_hand_X0_remove rfl ⟨rfl, rfl⟩ (by decide +kernel) ⟨Nat.le_of_ble_eq_true rfl, Nat.le_of_ble_eq_true rfl⟩ (by assumption) ⟨rfl, rfl⟩ rfl rfl (Nat.le_of_ble_eq_true rfl) ⟨Nat.zero_le _, Nat.zero_le _⟩ (kV (fun v115 h115 => ?_))
                    obtain ⟨hL3, f9⟩ := h115
                    have hB9 : BP v115 (x + 1 + 8 + 2 * i) ((bn G.1 i).erase (m * 16 + q)) := ⟨_, hp1.erase _, hL3⟩
                    generalize v115 = w9 at hB9 f9 hL3 ⊢
                    have hans : sHand G (i : Int) (m : Int) (q : Int) c = ((((bn G.1 i).erase (m * 16 + q)).length : Int), recG G (setB G.1 i ((bn G.1 i).erase (m * 16 + q)))) := (cite_f (by unfold isO isP; omega) _ _).trans ((cite_f (by unfold isNu; omega) _ _).trans ((cite_t c98 _ _).trans (cite_t (by rw [Int.toNat_natCast, Int.toNat_natCast, Int.toNat_natCast]; exact hz72b.mp (by omega)) _ _)))
                    refine j_aload X dX4_hand_118 rfl ?_
                    refine j_getiN X dX4_hand_120 (T := TX0) (N := 2) (C := RX0) hinX0 rfl (by assumption) 1 (by decide) (by decide) rfl rfl ?_
                    obtain ⟨L2, hp2, hL2⟩ := id hB9
                    rw [hL2.1, hp2.length_eq]
                    first
                    | have hret : ((insL (bn G.1 i) (m * 16 + q)).length : Int) = (sHand G (i : Int) (m : Int) (q : Int) c).1 ∧ XR w9 x (sHand G (i : Int) (m : Int) (q : Int) c).2 ∧ frX v w9 x := by
                        rw [hans]
                        rw [← setW_id]
                        have hSm := hS1.mod (w := w9) (by omega) hwt hlt (fun a ha hb hc hd he hf => by rw [f9 a he hf]) hB9 (by rw [f9 _ (by omega) (by omega)]; exact hW1) (fun j hj => by rw [f9 _ (by omega) (by omega)]) (by rw [f9 _ (by omega) (by omega)]; exact hL9) (fun j hj => by rw [f9 _ (by omega) (by omega)])
                        exact ⟨rfl, hR.rec hHr fr9 (fun a ha => by rw [f9 a (by omega) (by omega)]) hSm⟩
                    | have hret : (((bn G.1 i).erase (m * 16 + q)).length : Int) = (sHand G (i : Int) (m : Int) (q : Int) c).1 ∧ XR w9 x (sHand G (i : Int) (m : Int) (q : Int) c).2 ∧ frX v w9 x := by
                        rw [hans]
                        rw [← setW_id]
                        have hSm := hS1.mod (w := w9) (by omega) hwt hlt (fun a ha hb hc hd he hf => by rw [f9 a he hf]) hB9 (by rw [f9 _ (by omega) (by omega)]; exact hW1) (fun j hj => by rw [f9 _ (by omega) (by omega)]) (by rw [f9 _ (by omega) (by omega)]; exact hL9) (fun j hj => by rw [f9 _ (by omega) (by omega)])
                        exact ⟨rfl, hR.rec hHr fr9 (fun a ha => by rw [f9 a (by omega) (by omega)]) hSm⟩
                    exact j_iret X dX4_hand_123 ⟨_, rfl, rfl, hret⟩
                · first
                  | (exfalso; omega)
                  | skip
                    refine j_aload X dX4_hand_101 rfl ?_
                    refine j_iload_n X dX4_hand_103 rfl ?_
                    refine j_iload_n X dX4_hand_104 rfl ?_
                    refine j_callV (nn := 2) X dX4_hand_105 (c_X0_insert l D nH sk w1 (x + 1 + 8 + 2 * i) m q L1 hbi (hL1.kept (fr9 _ (by omega)) (fr9 _ (by omega))) (by omega)) gX4_hand_X0_insert rfl ⟨rfl, rfl⟩ (by decide +kernel) ⟨Nat.le_of_ble_eq_true rfl, Nat.le_of_ble_eq_true rfl⟩ (by assumption) ⟨rfl, rfl⟩ rfl rfl (Nat.le_of_ble_eq_true rfl) ⟨Nat.zero_le _, Nat.zero_le _⟩ (kV (fun v105 h105 => ?_))
                    obtain ⟨⟨L3, hL3, hp3⟩, f9⟩ := h105
                    have hB9 : BP v105 (x + 1 + 8 + 2 * i) (insL (bn G.1 i) (m * 16 + q)) := ⟨L3, hp3.trans (insL_perm hp1 _), hL3⟩
                    generalize v105 = w9 at hB9 f9 hL3 ⊢
                    have hans : sHand G (i : Int) (m : Int) (q : Int) c = (((insL (bn G.1 i) (m * 16 + q)).length : Int), recG G (setB G.1 i (insL (bn G.1 i) (m * 16 + q)))) := (cite_f (by unfold isO isP; omega) _ _).trans ((cite_f (by unfold isNu; omega) _ _).trans ((cite_f c98 _ _).trans (cite_t (by rw [Int.toNat_natCast, ← hp1.length_eq]; have := hL1.1; omega) _ _)))
                    refine j_goto (tgt := 118) X dX4_hand_108 (by decide) ?_
                    refine j_aload X dX4_hand_118 rfl ?_
                    refine j_getiN X dX4_hand_120 (T := TX0) (N := 2) (C := RX0) hinX0 rfl (by assumption) 1 (by decide) (by decide) rfl rfl ?_
                    obtain ⟨L2, hp2, hL2⟩ := id hB9
                    rw [hL2.1, hp2.length_eq]
                    first
                    | have hret : ((insL (bn G.1 i) (m * 16 + q)).length : Int) = (sHand G (i : Int) (m : Int) (q : Int) c).1 ∧ XR w9 x (sHand G (i : Int) (m : Int) (q : Int) c).2 ∧ frX v w9 x := by
                        rw [hans]
                        rw [← setW_id]
                        have hSm := hS1.mod (w := w9) (by omega) hwt hlt (fun a ha hb hc hd he hf => by rw [f9 a he hf]) hB9 (by rw [f9 _ (by omega) (by omega)]; exact hW1) (fun j hj => by rw [f9 _ (by omega) (by omega)]) (by rw [f9 _ (by omega) (by omega)]; exact hL9) (fun j hj => by rw [f9 _ (by omega) (by omega)])
                        exact ⟨rfl, hR.rec hHr fr9 (fun a ha => by rw [f9 a (by omega) (by omega)]) hSm⟩
                    | have hret : (((bn G.1 i).erase (m * 16 + q)).length : Int) = (sHand G (i : Int) (m : Int) (q : Int) c).1 ∧ XR w9 x (sHand G (i : Int) (m : Int) (q : Int) c).2 ∧ frX v w9 x := by
                        rw [hans]
                        rw [← setW_id]
                        have hSm := hS1.mod (w := w9) (by omega) hwt hlt (fun a ha hb hc hd he hf => by rw [f9 a he hf]) hB9 (by rw [f9 _ (by omega) (by omega)]; exact hW1) (fun j hj => by rw [f9 _ (by omega) (by omega)]) (by rw [f9 _ (by omega) (by omega)]; exact hL9) (fun j hj => by rw [f9 _ (by omega) (by omega)])
                        exact ⟨rfl, hR.rec hHr fr9 (fun a ha => by rw [f9 a (by omega) (by omega)]) hSm⟩
                    exact j_iret X dX4_hand_123 ⟨_, rfl, rfl, hret⟩
            · first
              | (exfalso; omega)
              | skip
                refine j_bipush X dX4_hand_82 (by decide) ?_
                have hret : (-5 : Int) = (sHand G (i : Int) (m : Int) (q : Int) c).1 ∧ XR v x (sHand G (i : Int) (m : Int) (q : Int) c).2 ∧ frX v v x := by
                  first
                  | (rw [show sHand G (i : Int) (m : Int) (q : Int) c = (-5, G) from (cite_f (by unfold isO isP; omega) _ _).trans ((cite_f (by unfold isNu; omega) _ _).trans ((cite_f c47 _ _).trans (cite_f (by rw [Int.toNat_natCast, ← hp1.length_eq]; omega) _ _)))]; exact ⟨rfl, hR, frX.refl _ _⟩)
                  | (rw [show sHand G (i : Int) (m : Int) (q : Int) c = (-5, G) from (cite_f (by unfold isO isP; omega) _ _).trans ((cite_f (by unfold isNu; omega) _ _).trans ((cite_t c47 _ _).trans (cite_f (by rw [Int.toNat_natCast, Int.toNat_natCast, Int.toNat_natCast]; exact fun h => by have := hz72b.mpr h; omega) _ _)))]; exact ⟨rfl, hR, frX.refl _ _⟩)
                exact j_iret X dX4_hand_84 ⟨_, rfl, rfl, hret⟩
          · refine j_iconst X dX4_hand_60 ?_
            refine j_goto (tgt := 75) X dX4_hand_61 (by decide) ?_
            refine j_istore X dX4_hand_75 rfl (Nat.le_of_ble_eq_true rfl) ?_
            refine j_iload X dX4_hand_77 rfl ?_
            refine j_if_ne (tgt := 85) X dX4_hand_79 (by omega) (by decide) (fun c79 => ?_) (fun c79 => ?_)
            · first
              | (exfalso; omega)
              | skip
                refine j_aload_n X dX4_hand_85 rfl ?_
                refine j_getr X dX4_hand_86 (T := TX4) (N := 6) (C := RX4) hinX4 rfl (by assumption) 1 (by decide) (by decide +kernel) rfl ?_
                refine j_aload_n X dX4_hand_89 rfl ?_
                refine j_getr X dX4_hand_90 (T := TX4) (N := 6) (C := RX4) hinX4 rfl (by assumption) 0 (by decide) (by decide +kernel) rfl ?_
                refine j_callV (nn := 1) X dX4_hand_93 (c_X1_record l D nH sk v (x + 25) (x + 1) G.2.1 G.1 hH hN (by omega) hHR hS) gX4_hand_X1_record rfl ⟨rfl, rfl⟩ (by decide +kernel) ⟨Nat.le_of_ble_eq_true rfl, Nat.le_of_ble_eq_true rfl⟩ (by assumption) ⟨rfl, rfl⟩ rfl rfl (Nat.le_of_ble_eq_true rfl) ⟨Nat.zero_le _, Nat.zero_le _⟩ (kV (fun v93 h93 => ?_))
                obtain ⟨hHr, fr9⟩ := h93
                generalize v93 = w1 at hHr fr9 ⊢
                have hS1 := hS.kept (w := w1) (fun a ha hb => fr9 a (by omega))
                have hW1 : w1 (x + 1 + 6) i = (wt G.1 i : Int) := by rw [fr9 _ (by omega)]; exact hWi
                have hL9 : w1 (x + 1 + 7) i = (lo_ G.1 i : Int) := by rw [fr9 _ (by omega)]; exact hLi
                have hB1 : BP w1 (x + 1 + 8 + 2 * i) (bn G.1 i) := hBi.kept (fr9 _ (by omega)) (fr9 _ (by omega))
                refine j_iload X dX4_hand_96 rfl ?_
                refine j_if_eq (tgt := 111) X dX4_hand_98 (by omega) (by decide) (fun c98 => ?_) (fun c98 => ?_)
                · first
                  | (exfalso; omega)
                  | skip
                    refine j_aload X dX4_hand_111 rfl ?_
                    refine j_iload_n X dX4_hand_113 rfl ?_
                    refine j_iload_n X dX4_hand_114 rfl ?_
                    refine j_callV (nn := 2) X dX4_hand_115 (c_X0_remove l D nH sk w1 (x + 1 + 8 + 2 * i) m q L1 hbi (hL1.kept (fr9 _ (by omega)) (fr9 _ (by omega))) (by omega)) gX4_hand_X0_remove rfl ⟨rfl, rfl⟩ (by decide +kernel) ⟨Nat.le_of_ble_eq_true rfl, Nat.le_of_ble_eq_true rfl⟩ (by assumption) ⟨rfl, rfl⟩ rfl rfl (Nat.le_of_ble_eq_true rfl) ⟨Nat.zero_le _, Nat.zero_le _⟩ (kV (fun v115 h115 => ?_))
                    obtain ⟨hL3, f9⟩ := h115
                    have hB9 : BP v115 (x + 1 + 8 + 2 * i) ((bn G.1 i).erase (m * 16 + q)) := ⟨_, hp1.erase _, hL3⟩
                    generalize v115 = w9 at hB9 f9 hL3 ⊢
                    have hans : sHand G (i : Int) (m : Int) (q : Int) c = ((((bn G.1 i).erase (m * 16 + q)).length : Int), recG G (setB G.1 i ((bn G.1 i).erase (m * 16 + q)))) := (cite_f (by unfold isO isP; omega) _ _).trans ((cite_f (by unfold isNu; omega) _ _).trans ((cite_t c98 _ _).trans (cite_t (by rw [Int.toNat_natCast, Int.toNat_natCast, Int.toNat_natCast]; exact hz72b.mp (by omega)) _ _)))
                    refine j_aload X dX4_hand_118 rfl ?_
                    refine j_getiN X dX4_hand_120 (T := TX0) (N := 2) (C := RX0) hinX0 rfl (by assumption) 1 (by decide) (by decide) rfl rfl ?_
                    obtain ⟨L2, hp2, hL2⟩ := id hB9
                    rw [hL2.1, hp2.length_eq]
                    first
                    | have hret : ((insL (bn G.1 i) (m * 16 + q)).length : Int) = (sHand G (i : Int) (m : Int) (q : Int) c).1 ∧ XR w9 x (sHand G (i : Int) (m : Int) (q : Int) c).2 ∧ frX v w9 x := by
                        rw [hans]
                        rw [← setW_id]
                        have hSm := hS1.mod (w := w9) (by omega) hwt hlt (fun a ha hb hc hd he hf => by rw [f9 a he hf]) hB9 (by rw [f9 _ (by omega) (by omega)]; exact hW1) (fun j hj => by rw [f9 _ (by omega) (by omega)]) (by rw [f9 _ (by omega) (by omega)]; exact hL9) (fun j hj => by rw [f9 _ (by omega) (by omega)])
                        exact ⟨rfl, hR.rec hHr fr9 (fun a ha => by rw [f9 a (by omega) (by omega)]) hSm⟩
                    | have hret : (((bn G.1 i).erase (m * 16 + q)).length : Int) = (sHand G (i : Int) (m : Int) (q : Int) c).1 ∧ XR w9 x (sHand G (i : Int) (m : Int) (q : Int) c).2 ∧ frX v w9 x := by
                        rw [hans]
                        rw [← setW_id]
                        have hSm := hS1.mod (w := w9) (by omega) hwt hlt (fun a ha hb hc hd he hf => by rw [f9 a he hf]) hB9 (by rw [f9 _ (by omega) (by omega)]; exact hW1) (fun j hj => by rw [f9 _ (by omega) (by omega)]) (by rw [f9 _ (by omega) (by omega)]; exact hL9) (fun j hj => by rw [f9 _ (by omega) (by omega)])
                        exact ⟨rfl, hR.rec hHr fr9 (fun a ha => by rw [f9 a (by omega) (by omega)]) hSm⟩
                    exact j_iret X dX4_hand_123 ⟨_, rfl, rfl, hret⟩
                · first
                  | (exfalso; omega)
                  | skip
                    refine j_aload X dX4_hand_101 rfl ?_
                    refine j_iload_n X dX4_hand_103 rfl ?_
                    refine j_iload_n X dX4_hand_104 rfl ?_
                    refine j_callV (nn := 2) X dX4_hand_105 (c_X0_insert l D nH sk w1 (x + 1 + 8 + 2 * i) m q L1 hbi (hL1.kept (fr9 _ (by omega)) (fr9 _ (by omega))) (by omega)) gX4_hand_X0_insert rfl ⟨rfl, rfl⟩ (by decide +kernel) ⟨Nat.le_of_ble_eq_true rfl, Nat.le_of_ble_eq_true rfl⟩ (by assumption) ⟨rfl, rfl⟩ rfl rfl (Nat.le_of_ble_eq_true rfl) ⟨Nat.zero_le _, Nat.zero_le _⟩ (kV (fun v105 h105 => ?_))
                    obtain ⟨⟨L3, hL3, hp3⟩, f9⟩ := h105
                    have hB9 : BP v105 (x + 1 + 8 + 2 * i) (insL (bn G.1 i) (m * 16 + q)) := ⟨L3, hp3.trans (insL_perm hp1 _), hL3⟩
                    generalize v105 = w9 at hB9 f9 hL3 ⊢
                    have hans : sHand G (i : Int) (m : Int) (q : Int) c = (((insL (bn G.1 i) (m * 16 + q)).length : Int), recG G (setB G.1 i (insL (bn G.1 i) (m * 16 + q)))) := (cite_f (by unfold isO isP; omega) _ _).trans ((cite_f (by unfold isNu; omega) _ _).trans ((cite_f c98 _ _).trans (cite_t (by rw [Int.toNat_natCast, ← hp1.length_eq]; have := hL1.1; omega) _ _)))
                    refine j_goto (tgt := 118) X dX4_hand_108 (by decide) ?_
                    refine j_aload X dX4_hand_118 rfl ?_
                    refine j_getiN X dX4_hand_120 (T := TX0) (N := 2) (C := RX0) hinX0 rfl (by assumption) 1 (by decide) (by decide) rfl rfl ?_
                    obtain ⟨L2, hp2, hL2⟩ := id hB9
                    rw [hL2.1, hp2.length_eq]
                    first
                    | have hret : ((insL (bn G.1 i) (m * 16 + q)).length : Int) = (sHand G (i : Int) (m : Int) (q : Int) c).1 ∧ XR w9 x (sHand G (i : Int) (m : Int) (q : Int) c).2 ∧ frX v w9 x := by
                        rw [hans]
                        rw [← setW_id]
                        have hSm := hS1.mod (w := w9) (by omega) hwt hlt (fun a ha hb hc hd he hf => by rw [f9 a he hf]) hB9 (by rw [f9 _ (by omega) (by omega)]; exact hW1) (fun j hj => by rw [f9 _ (by omega) (by omega)]) (by rw [f9 _ (by omega) (by omega)]; exact hL9) (fun j hj => by rw [f9 _ (by omega) (by omega)])
                        exact ⟨rfl, hR.rec hHr fr9 (fun a ha => by rw [f9 a (by omega) (by omega)]) hSm⟩
                    | have hret : (((bn G.1 i).erase (m * 16 + q)).length : Int) = (sHand G (i : Int) (m : Int) (q : Int) c).1 ∧ XR w9 x (sHand G (i : Int) (m : Int) (q : Int) c).2 ∧ frX v w9 x := by
                        rw [hans]
                        rw [← setW_id]
                        have hSm := hS1.mod (w := w9) (by omega) hwt hlt (fun a ha hb hc hd he hf => by rw [f9 a he hf]) hB9 (by rw [f9 _ (by omega) (by omega)]; exact hW1) (fun j hj => by rw [f9 _ (by omega) (by omega)]) (by rw [f9 _ (by omega) (by omega)]; exact hL9) (fun j hj => by rw [f9 _ (by omega) (by omega)])
                        exact ⟨rfl, hR.rec hHr fr9 (fun a ha => by rw [f9 a (by omega) (by omega)]) hSm⟩
                    exact j_iret X dX4_hand_123 ⟨_, rfl, rfl, hret⟩
            · first
              | (exfalso; omega)
              | skip
                refine j_bipush X dX4_hand_82 (by decide) ?_
                have hret : (-5 : Int) = (sHand G (i : Int) (m : Int) (q : Int) c).1 ∧ XR v x (sHand G (i : Int) (m : Int) (q : Int) c).2 ∧ frX v v x := by
                  first
                  | (rw [show sHand G (i : Int) (m : Int) (q : Int) c = (-5, G) from (cite_f (by unfold isO isP; omega) _ _).trans ((cite_f (by unfold isNu; omega) _ _).trans ((cite_f c47 _ _).trans (cite_f (by rw [Int.toNat_natCast, ← hp1.length_eq]; omega) _ _)))]; exact ⟨rfl, hR, frX.refl _ _⟩)
                  | (rw [show sHand G (i : Int) (m : Int) (q : Int) c = (-5, G) from (cite_f (by unfold isO isP; omega) _ _).trans ((cite_f (by unfold isNu; omega) _ _).trans ((cite_t c47 _ _).trans (cite_f (by rw [Int.toNat_natCast, Int.toNat_natCast, Int.toNat_natCast]; exact fun h => by have := hz72b.mpr h; omega) _ _)))]; exact ⟨rfl, hR, frX.refl _ _⟩)
                exact j_iret X dX4_hand_84 ⟨_, rfl, rfl, hret⟩
      · refine j_bipush X dX4_hand_31 (by decide) ?_
        have hret : (-2 : Int) = (sHand G (i : Int) n (q : Int) c).1 ∧ XR v x (sHand G (i : Int) n (q : Int) c).2 ∧ frX v v x := by
          rw [show sHand G (i : Int) n (q : Int) c = (-2, G) from (cite_f (by unfold isO isP; omega) _ _).trans (cite_t (by unfold isNu; omega) _ _)]
          exact ⟨rfl, hR, frX.refl _ _⟩
        exact j_iret X dX4_hand_33 ⟨_, rfl, rfl, hret⟩
    · refine j_iconst X dX4_hand_22 ?_
      have hret : (-1 : Int) = (sHand G o n p c).1 ∧ XR v x (sHand G o n p c).2 ∧ frX v v x := by
        rw [show sHand G o n p c = (-1, G) from (cite_t (by unfold isO isP; omega) _ _)]
        exact ⟨rfl, hR, frX.refl _ _⟩
      exact j_iret X dX4_hand_23 ⟨_, rfl, rfl, hret⟩
