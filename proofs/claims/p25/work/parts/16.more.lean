theorem XR.pad {v w : Mem} {x : Nat} {G : GS} {P : List Nat} (h : XR v x G) (hP : PA w (x + 173) P) (f : fr v w (x + 173)) : XR w x (G.1, G.2.1, G.2.2.1, P) ∧ frX v w x := by
  obtain ⟨h1, h2, h3, h4⟩ := h
  exact ⟨⟨h1.kept (fun a ha hb => f a (by omega) (by omega)), h2.kept (fun a ha hb => f a (by omega) (by omega)), hP, h4.kept (fun a ha hb hc hd he => f a hc hd)⟩, fun a ha => f a (by omega) (by omega)⟩
theorem p2_lt {k : Nat} (h : k ≤ 16) : 2 ^ k ≤ 65536 := Nat.le_trans (Nat.pow_le_pow_right (by decide) h) (by decide)
def rmX4_parcel : Room := { frames := 1, cells := 0, slots := 0, locals := 24 }
set_option maxHeartbeats 4000000 in
set_option maxRecDepth 100000 in
theorem c_X4_parcel (l : Launch) (D : va_G) (nH : Nat) (sk : Sk) (v : Mem) (x : Nat) (p w : Int) (G : GS) (hX : Xd D sk x) (hR : XR v x G)(hp : -2147483648 ≤ p ∧ p ≤ 2147483647)(hw : -2147483648 ≤ w ∧ w ≤ 2147483647) : CtI l D yX4_parcel wsX4_parcel rmX4_parcel [.ref x, .int (I p), .int (I w)] nH sk v (fun z v' => z = sParcel G p w ∧ v = v') := by
  refine ct_of (cc := cX4_parcel) (maxL := 3) (ret := (some .int)) rfl rfl (Nat.le_of_ble_eq_true rfl) ?_
  intro p_ e_ s_ m_ args_ below_ meth_ c_ X hmn hsz
  have hinX3 : ∀ w ∈ wsX30, w ∈ wsX4_parcel := by decide +kernel
  have hinX4 : ∀ w ∈ wsX40, w ∈ wsX4_parcel := by decide +kernel
  obtain ⟨x0, hN, hH, ⟨gs, x171, hgs⟩, x172, hPd, ⟨gt, x175, hgt⟩, hSl, hTr⟩ := id hX
  obtain ⟨n0, n1, n2, n3, ⟨gn, n5, hgn⟩, n6, n7, n8⟩ := id hN
  obtain ⟨hh0, hh1, hh2⟩ := id hH
  obtain ⟨p0, p1⟩ := id hPd
  obtain ⟨n30, n31⟩ := id n3
  obtain ⟨hS, hHR, hP, hSlR⟩ := id hR
  obtain ⟨r1, r2, r3, r4, r5, r6⟩ := id hS
  have hnp := r2.1
  have hno8 := r1.2.1
  have hnp16 := r1.1
  refine j_aload_n X dX4_parcel_0 rfl ?_
  refine j_getr X dX4_parcel_1 (T := TX4) (N := 6) (C := RX4) hinX4 rfl (by assumption) 0 (by decide) (by decide +kernel) rfl ?_
  refine j_iload_n X dX4_parcel_4 rfl ?_
  refine j_callV (nn := 1) X dX4_parcel_5 (c_X3_hasParcel l D nH sk v (x + 1) p (np G.1) hN hp hnp hnp16) gX4_parcel_X3_hasParcel rfl ⟨rfl, rfl⟩ (by decide +kernel) ⟨Nat.le_of_ble_eq_true rfl, Nat.le_of_ble_eq_true rfl⟩ (by assumption) ⟨rfl, rfl⟩ rfl rfl (Nat.le_of_ble_eq_true rfl) ⟨Nat.zero_le _, Nat.zero_le _⟩ (kI (fun z5 v5 h5 => ?_))
  obtain ⟨hz5a, hz5b, rfl⟩ := h5
  refine j_if_ne (tgt := 13) X dX4_parcel_8 (by omega) (by decide) (fun c8 => ?_) (fun c8 => ?_)
  · have hqq : 0 ≤ p ∧ p < (np G.1 : Int) := by omega
    obtain ⟨q, rfl⟩ : ∃ q : Nat, p = (q : Int) := ⟨p.toNat, by omega⟩
    obtain ⟨hl1, hl2, hl3, hl4⟩ := r2.2.2 q (by omega)
    refine j_iload_n X dX4_parcel_13 rfl ?_
    refine j_if_lt (tgt := 23) X dX4_parcel_14 (by omega) (by decide) (fun c14 => ?_) (fun c14 => ?_)
    · refine j_bipush X dX4_parcel_23 (by decide) ?_
      exact j_iret X dX4_parcel_25 ⟨_, rfl, rfl, ⟨by unfold sParcel; rw [cite_f (by unfold isP; omega), cite_t (by omega)], rfl⟩⟩
    · refine j_iload_n X dX4_parcel_17 rfl ?_
      refine j_bipush X dX4_parcel_18 (by decide) ?_
      refine j_icmp_le (tgt := 26) X dX4_parcel_20 (by omega) (by decide) (fun c20 => ?_) (fun c20 => ?_)
      · refine j_iload_n X dX4_parcel_26 rfl ?_
        refine j_if_ne (tgt := 40) X dX4_parcel_27 (by omega) (by decide) (fun c27 => ?_) (fun c27 => ?_)
        · refine j_iload_n X dX4_parcel_40 rfl ?_
          refine j_bipush X dX4_parcel_41 (by decide) ?_
          refine j_icmp_gt (tgt := 76) X dX4_parcel_43 (by omega) (by decide) (fun c43 => ?_) (fun c43 => ?_)
          · refine j_aload_n X dX4_parcel_76 rfl ?_
            refine j_getr X dX4_parcel_77 (T := TX4) (N := 6) (C := RX4) hinX4 rfl (by assumption) 0 (by decide) (by decide +kernel) rfl ?_
            refine j_iload_n X dX4_parcel_80 rfl ?_
            refine j_bipush X dX4_parcel_81 (by decide) ?_
            refine j_icmp_ne (tgt := 96) X dX4_parcel_83 (by omega) (by decide) (fun c83 => ?_) (fun c83 => ?_)
            · refine j_aload_n X dX4_parcel_96 rfl ?_
              refine j_getr X dX4_parcel_97 (T := TX4) (N := 6) (C := RX4) hinX4 rfl (by assumption) 0 (by decide) (by decide +kernel) rfl ?_
              refine j_getrN X dX4_parcel_100 (T := TX3) (N := 8) (C := RX3) hinX3 rfl (by assumption) 6 (by decide) (by decide) rfl rfl ?_
              first
              | (have hs9 := n6; have c9 := (show w = 9 by omega); have hF9 : ∀ i, i < no G.1 → v (x + 1 + 6) i = ((wt G.1 i : Nat) : Int) ∧ wt G.1 i < 65536 := fun i hi => ⟨(r6 i hi).2.1, (r1.2.2.2.2 i hi).1⟩)
              | (have hs9 := n7; have hF9 : ∀ i, i < no G.1 → v (x + 1 + 7) i = ((lo_ G.1 i : Nat) : Int) ∧ lo_ G.1 i < 65536 := fun i hi => ⟨(r6 i hi).2.2, (r1.2.2.2.2 i hi).2⟩)
              refine j_iload_n X dX4_parcel_103 rfl ?_
              refine j_callV (nn := 2) X dX4_parcel_104 (c_X3_ownersOf l D nH sk v (x + 1) _ q (no G.1) _ hN hs9 hF9 r3 hno8 (by omega)) gX4_parcel_X3_ownersOf rfl ⟨rfl, rfl⟩ (by decide +kernel) ⟨Nat.le_of_ble_eq_true rfl, Nat.le_of_ble_eq_true rfl⟩ (by assumption) ⟨rfl, rfl⟩ rfl rfl (Nat.le_of_ble_eq_true rfl) ⟨Nat.zero_le _, Nat.zero_le _⟩ (kI (fun z104 v104 h104 => ?_))
              obtain ⟨rfl, rfl⟩ := h104
              first
              | have hret : (mk (fun i => (wt G.1 i).testBit q) (no G.1) : Int) = sParcel G (q : Int) w ∧ v = v := ⟨by unfold sParcel; rw [cite_f (by unfold isP; omega), cite_f (by omega), cite_f (by omega), cite_f (by omega)]; rw [cite_t (by omega), Int.toNat_natCast], rfl⟩
              | have hret : (mk (fun i => (lo_ G.1 i).testBit q) (no G.1) : Int) = sParcel G (q : Int) w ∧ v = v := ⟨by unfold sParcel; rw [cite_f (by unfold isP; omega), cite_f (by omega), cite_f (by omega), cite_f (by omega), cite_f (by omega)]; rw [Int.toNat_natCast], rfl⟩
              exact j_iret X dX4_parcel_107 ⟨_, rfl, rfl, hret⟩
            · refine j_aload_n X dX4_parcel_86 rfl ?_
              refine j_getr X dX4_parcel_87 (T := TX4) (N := 6) (C := RX4) hinX4 rfl (by assumption) 0 (by decide) (by decide +kernel) rfl ?_
              refine j_getrN X dX4_parcel_90 (T := TX3) (N := 8) (C := RX3) hinX3 rfl (by assumption) 5 (by decide) (by decide) rfl rfl ?_
              skip
              refine j_goto (tgt := 103) X dX4_parcel_93 (by decide) ?_
              first
              | (have hs9 := n6; have c9 := (show w = 9 by omega); have hF9 : ∀ i, i < no G.1 → v (x + 1 + 6) i = ((wt G.1 i : Nat) : Int) ∧ wt G.1 i < 65536 := fun i hi => ⟨(r6 i hi).2.1, (r1.2.2.2.2 i hi).1⟩)
              | (have hs9 := n7; have hF9 : ∀ i, i < no G.1 → v (x + 1 + 7) i = ((lo_ G.1 i : Nat) : Int) ∧ lo_ G.1 i < 65536 := fun i hi => ⟨(r6 i hi).2.2, (r1.2.2.2.2 i hi).2⟩)
              refine j_iload_n X dX4_parcel_103 rfl ?_
              refine j_callV (nn := 2) X dX4_parcel_104 (c_X3_ownersOf l D nH sk v (x + 1) _ q (no G.1) _ hN hs9 hF9 r3 hno8 (by omega)) gX4_parcel_X3_ownersOf rfl ⟨rfl, rfl⟩ (by decide +kernel) ⟨Nat.le_of_ble_eq_true rfl, Nat.le_of_ble_eq_true rfl⟩ (by assumption) ⟨rfl, rfl⟩ rfl rfl (Nat.le_of_ble_eq_true rfl) ⟨Nat.zero_le _, Nat.zero_le _⟩ (kI (fun z104 v104 h104 => ?_))
              obtain ⟨rfl, rfl⟩ := h104
              first
              | have hret : (mk (fun i => (wt G.1 i).testBit q) (no G.1) : Int) = sParcel G (q : Int) w ∧ v = v := ⟨by unfold sParcel; rw [cite_f (by unfold isP; omega), cite_f (by omega), cite_f (by omega), cite_f (by omega)]; rw [cite_t (by omega), Int.toNat_natCast], rfl⟩
              | have hret : (mk (fun i => (lo_ G.1 i).testBit q) (no G.1) : Int) = sParcel G (q : Int) w ∧ v = v := ⟨by unfold sParcel; rw [cite_f (by unfold isP; omega), cite_f (by omega), cite_f (by omega), cite_f (by omega), cite_f (by omega)]; rw [Int.toNat_natCast], rfl⟩
              exact j_iret X dX4_parcel_107 ⟨_, rfl, rfl, hret⟩
          · refine j_iload_n X dX4_parcel_46 rfl ?_
            refine j_aload_n X dX4_parcel_47 rfl ?_
            refine j_getr X dX4_parcel_48 (T := TX4) (N := 6) (C := RX4) hinX4 rfl (by assumption) 0 (by decide) (by decide +kernel) rfl ?_
            refine j_getrN X dX4_parcel_51 (T := TX3) (N := 8) (C := RX3) hinX3 rfl (by assumption) 1 (by decide) (by decide) rfl rfl ?_
            refine j_iload_n X dX4_parcel_54 rfl ?_
            refine j_iald X dX4_parcel_55 (by assumption) (by omega) (by decide) ?_
            rw [Int.toNat_natCast, hl1]
            refine j_icmp_gt (tgt := 73) X dX4_parcel_56 (by omega) (by decide) (fun c56 => ?_) (fun c56 => ?_)
            · refine j_bipush X dX4_parcel_73 (by decide) ?_
              first
              | have hret : (-6 : Int) = sParcel G (q : Int) w ∧ v = v := ⟨by unfold sParcel; rw [cite_f (by unfold isP; omega), cite_f (by omega), cite_f (by omega)]; rw [cite_t (by omega), cite_f (by rw [Int.toNat_natCast]; omega)], rfl⟩
              | have hret : (((od G.1 q)[k]'(by omega) : Nat) : Int) = sParcel G (q : Int) w ∧ v = v := ⟨by unfold sParcel; rw [cite_f (by unfold isP; omega), cite_f (by omega), cite_f (by omega)]; rw [cite_t (by omega), cite_t (by rw [Int.toNat_natCast]; omega), Int.toNat_natCast, show w.toNat - 1 = k by omega, List.getD_eq_getElem?_getD, List.getElem?_eq_getElem (by omega)]; rfl, rfl⟩
              exact j_iret X dX4_parcel_75 ⟨_, rfl, rfl, hret⟩
            · refine j_aload_n X dX4_parcel_59 rfl ?_
              refine j_getr X dX4_parcel_60 (T := TX4) (N := 6) (C := RX4) hinX4 rfl (by assumption) 0 (by decide) (by decide +kernel) rfl ?_
              refine j_iload_n X dX4_parcel_63 rfl ?_
              refine j_iload_n X dX4_parcel_64 rfl ?_
              refine j_iconst X dX4_parcel_65 ?_
              refine j_isub X dX4_parcel_66 ?_
              obtain ⟨k, hk⟩ : ∃ k : Nat, w - 1 = (k : Int) := ⟨(w - 1).toNat, by omega⟩
              rw [hk]
              refine j_callV (nn := 2) X dX4_parcel_67 (c_X3_order l D nH sk v (x + 1) q k G.1 hN r2 (by omega) (by omega)) gX4_parcel_X3_order rfl ⟨rfl, rfl⟩ (by decide +kernel) ⟨Nat.le_of_ble_eq_true rfl, Nat.le_of_ble_eq_true rfl⟩ (by assumption) ⟨rfl, rfl⟩ rfl rfl (Nat.le_of_ble_eq_true rfl) ⟨Nat.zero_le _, Nat.zero_le _⟩ (kI (fun z67 v67 h67 => ?_))
              obtain ⟨rfl, rfl⟩ := h67
              refine j_goto (tgt := 75) X dX4_parcel_70 (by decide) ?_
              first
              | have hret : (-6 : Int) = sParcel G (q : Int) w ∧ v = v := ⟨by unfold sParcel; rw [cite_f (by unfold isP; omega), cite_f (by omega), cite_f (by omega)]; rw [cite_t (by omega), cite_f (by rw [Int.toNat_natCast]; omega)], rfl⟩
              | have hret : (((od G.1 q)[k]'(by omega) : Nat) : Int) = sParcel G (q : Int) w ∧ v = v := ⟨by unfold sParcel; rw [cite_f (by unfold isP; omega), cite_f (by omega), cite_f (by omega)]; rw [cite_t (by omega), cite_t (by rw [Int.toNat_natCast]; omega), Int.toNat_natCast, show w.toNat - 1 = k by omega, List.getD_eq_getElem?_getD, List.getElem?_eq_getElem (by omega)]; rfl, rfl⟩
              exact j_iret X dX4_parcel_75 ⟨_, rfl, rfl, hret⟩
        · refine j_aload_n X dX4_parcel_30 rfl ?_
          refine j_getr X dX4_parcel_31 (T := TX4) (N := 6) (C := RX4) hinX4 rfl (by assumption) 0 (by decide) (by decide +kernel) rfl ?_
          refine j_getrN X dX4_parcel_34 (T := TX3) (N := 8) (C := RX3) hinX3 rfl (by assumption) 1 (by decide) (by decide) rfl rfl ?_
          refine j_iload_n X dX4_parcel_37 rfl ?_
          refine j_iald X dX4_parcel_38 (by assumption) (by omega) (by decide) ?_
          rw [Int.toNat_natCast, hl1]
          exact j_iret X dX4_parcel_39 ⟨_, rfl, rfl, ⟨by unfold sParcel; rw [cite_f (by unfold isP; omega), cite_f (by omega)]; rw [cite_t (by omega), Int.toNat_natCast], rfl⟩⟩
      · refine j_bipush X dX4_parcel_23 (by decide) ?_
        exact j_iret X dX4_parcel_25 ⟨_, rfl, rfl, ⟨by unfold sParcel; rw [cite_f (by unfold isP; omega), cite_t (by omega)], rfl⟩⟩
  · refine j_iconst X dX4_parcel_11 ?_
    exact j_iret X dX4_parcel_12 ⟨_, rfl, rfl, ⟨(cite_t (by unfold isP; omega) _ _).symm, rfl⟩⟩
def rmX4_ifDone : Room := { frames := 6, cells := 0, slots := 0, locals := 140 }
set_option maxHeartbeats 4000000 in
set_option maxRecDepth 100000 in
theorem c_X4_ifDone (l : Launch) (D : va_G) (nH : Nat) (sk : Sk) (v : Mem) (x : Nat) (o p : Int) (G : GS) (hX : Xd D sk x) (hR : XR v x G)(ho : -2147483648 ≤ o ∧ o ≤ 2147483647)(hp : -2147483648 ≤ p ∧ p ≤ 2147483647) : CtI l D yX4_ifDone wsX4_ifDone rmX4_ifDone [.ref x, .int (I o), .int (I p)] nH sk v (fun z v' => z = sIfDone G o p ∧ XR v' x G ∧ frX v v' x) := by
  refine ct_of (cc := cX4_ifDone) (maxL := 3) (ret := (some .int)) rfl rfl (Nat.le_of_ble_eq_true rfl) ?_
  intro p_ e_ s_ m_ args_ below_ meth_ c_ X hmn hsz
  have hinX3 : ∀ w ∈ wsX30, w ∈ wsX4_ifDone := by decide +kernel
  have hinX4 : ∀ w ∈ wsX40, w ∈ wsX4_ifDone := by decide +kernel
  obtain ⟨x0, hN, hH, ⟨gs, x171, hgs⟩, x172, hPd, ⟨gt, x175, hgt⟩, hSl, hTr⟩ := id hX
  obtain ⟨n0, n1, n2, n3, ⟨gn, n5, hgn⟩, n6, n7, n8⟩ := id hN
  obtain ⟨hh0, hh1, hh2⟩ := id hH
  obtain ⟨p0, p1⟩ := id hPd
  obtain ⟨n30, n31⟩ := id n3
  obtain ⟨hS, hHR, hP, hSlR⟩ := id hR
  obtain ⟨r1, r2, r3, r4, r5, r6⟩ := id hS
  have hnp := r2.1
  have hno8 := r1.2.1
  have hnp16 := r1.1
  obtain ⟨T, hTp, hT⟩ := id r4
  have hu := r1.2.2.2.1
  have huT := unq_perm hTp.symm hu
  have htr := hTr 0 (by omega)
  rw [show x + 224 + 2 * 0 = x + 224 by omega] at htr
  obtain ⟨htr0, htr1⟩ := id htr
  refine j_aload_n X dX4_ifDone_0 rfl ?_
  refine j_getr X dX4_ifDone_1 (T := TX4) (N := 6) (C := RX4) hinX4 rfl (by assumption) 0 (by decide) (by decide +kernel) rfl ?_
  refine j_iload_n X dX4_ifDone_4 rfl ?_
  refine j_callV (nn := 1) X dX4_ifDone_5 (c_X3_hasOwner l D nH sk v (x + 1) o (no G.1) hN ho r3 hno8) gX4_ifDone_X3_hasOwner rfl ⟨rfl, rfl⟩ (by decide +kernel) ⟨Nat.le_of_ble_eq_true rfl, Nat.le_of_ble_eq_true rfl⟩ (by assumption) ⟨rfl, rfl⟩ rfl rfl (Nat.le_of_ble_eq_true rfl) ⟨Nat.zero_le _, Nat.zero_le _⟩ (kI (fun z5 v5 h5 => ?_))
  obtain ⟨hz5a, hz5b, rfl⟩ := h5
  refine j_if_eq (tgt := 22) X dX4_ifDone_8 (by omega) (by decide) (fun c8 => ?_) (fun c8 => ?_)
  · refine j_iconst X dX4_ifDone_22 ?_
    exact j_iret X dX4_ifDone_23 ⟨_, rfl, rfl, ⟨(cite_t (by unfold isO isP; omega) _ _).symm, hR, frX.refl _ _⟩⟩
  · refine j_aload_n X dX4_ifDone_11 rfl ?_
    refine j_getr X dX4_ifDone_12 (T := TX4) (N := 6) (C := RX4) hinX4 rfl (by assumption) 0 (by decide) (by decide +kernel) rfl ?_
    refine j_iload_n X dX4_ifDone_15 rfl ?_
    refine j_callV (nn := 1) X dX4_ifDone_16 (c_X3_hasParcel l D nH sk v (x + 1) p (np G.1) hN hp hnp hnp16) gX4_ifDone_X3_hasParcel rfl ⟨rfl, rfl⟩ (by decide +kernel) ⟨Nat.le_of_ble_eq_true rfl, Nat.le_of_ble_eq_true rfl⟩ (by assumption) ⟨rfl, rfl⟩ rfl rfl (Nat.le_of_ble_eq_true rfl) ⟨Nat.zero_le _, Nat.zero_le _⟩ (kI (fun z16 v16 h16 => ?_))
    obtain ⟨hz16a, hz16b, rfl⟩ := h16
    refine j_if_ne (tgt := 24) X dX4_ifDone_19 (by omega) (by decide) (fun c19 => ?_) (fun c19 => ?_)
    · have hqi : 0 ≤ o ∧ o < (no G.1 : Int) := by omega
      obtain ⟨i, rfl⟩ : ∃ i : Nat, o = (i : Int) := ⟨o.toNat, by omega⟩
      have hqq : 0 ≤ p ∧ p < (np G.1 : Int) := by omega
      obtain ⟨q, rfl⟩ : ∃ q : Nat, p = (q : Int) := ⟨p.toNat, by omega⟩
      refine j_aload_n X dX4_ifDone_24 rfl ?_
      refine j_iload_n X dX4_ifDone_25 rfl ?_
      refine j_iconst X dX4_ifDone_26 ?_
      refine j_iload_n X dX4_ifDone_27 rfl ?_
      refine j_ishl X dX4_ifDone_28 (b_shl (by omega)) ?_
      refine j_callV (nn := 2) X dX4_ifDone_29 (c_X4_tried l D nH sk v x i (2 ^ q) G hX hR (by omega) (by have := p2_lt (show q ≤ 16 by omega); omega)) gX4_ifDone_X4_tried rfl ⟨rfl, rfl⟩ (by decide +kernel) ⟨Nat.le_of_ble_eq_true rfl, Nat.le_of_ble_eq_true rfl⟩ (by assumption) ⟨rfl, rfl⟩ rfl rfl (Nat.le_of_ble_eq_true rfl) ⟨Nat.zero_le _, Nat.zero_le _⟩ (kA (fun a29 v29 h29 => ?_))
      obtain ⟨rfl, hB29, f29⟩ := h29
      obtain ⟨L2, hp2, hL2⟩ := id hB29
      refine j_aload_n X dX4_ifDone_32 rfl ?_
      refine j_getr X dX4_ifDone_33 (T := TX4) (N := 6) (C := RX4) hinX4 rfl (by assumption) 0 (by decide) (by decide +kernel) rfl ?_
      refine j_getrN X dX4_ifDone_36 (T := TX3) (N := 8) (C := RX3) hinX3 rfl (by assumption) 3 (by decide) (by decide) rfl rfl ?_
      refine j_callV (nn := 1) X dX4_ifDone_39 (c_X0_wrong l D nH sk v29 (x + 224) (x + 1 + 3) L2 T htr hL2 n3 (hT.kept (f29 _ (by omega) (by omega)) (f29 _ (by omega) (by omega))) huT) gX4_ifDone_X0_wrong rfl ⟨rfl, rfl⟩ (by decide +kernel) ⟨Nat.le_of_ble_eq_true rfl, Nat.le_of_ble_eq_true rfl⟩ (by assumption) ⟨rfl, rfl⟩ rfl rfl (Nat.le_of_ble_eq_true rfl) ⟨Nat.zero_le _, Nat.zero_le _⟩ (kI (fun z39 v39 h39 => ?_))
      obtain ⟨rfl, rfl⟩ := h39
      exact j_iret X dX4_ifDone_42 ⟨_, rfl, rfl, ⟨by unfold sIfDone; rw [cite_f (by unfold isO isP; omega), Int.toNat_natCast, Int.toNat_natCast, wrg_perm hp2 hTp], hR.try (fun a ha => f29 a (by omega) (by omega))⟩⟩
    · refine j_iconst X dX4_ifDone_22 ?_
      exact j_iret X dX4_ifDone_23 ⟨_, rfl, rfl, ⟨(cite_t (by unfold isO isP; omega) _ _).symm, hR, frX.refl _ _⟩⟩
def rmX4_ifAllDone : Room := { frames := 6, cells := 0, slots := 0, locals := 140 }
set_option maxHeartbeats 4000000 in
set_option maxRecDepth 100000 in
theorem c_X4_ifAllDone (l : Launch) (D : va_G) (nH : Nat) (sk : Sk) (v : Mem) (x : Nat) (o : Int) (G : GS) (hX : Xd D sk x) (hR : XR v x G)(ho : -2147483648 ≤ o ∧ o ≤ 2147483647) : CtI l D yX4_ifAllDone wsX4_ifAllDone rmX4_ifAllDone [.ref x, .int (I o)] nH sk v (fun z v' => z = sIfAllDone G o ∧ XR v' x G ∧ frX v v' x) := by
  refine ct_of (cc := cX4_ifAllDone) (maxL := 2) (ret := (some .int)) rfl rfl (Nat.le_of_ble_eq_true rfl) ?_
  intro p_ e_ s_ m_ args_ below_ meth_ c_ X hmn hsz
  have hinX3 : ∀ w ∈ wsX30, w ∈ wsX4_ifAllDone := by decide +kernel
  have hinX4 : ∀ w ∈ wsX40, w ∈ wsX4_ifAllDone := by decide +kernel
  obtain ⟨x0, hN, hH, ⟨gs, x171, hgs⟩, x172, hPd, ⟨gt, x175, hgt⟩, hSl, hTr⟩ := id hX
  obtain ⟨n0, n1, n2, n3, ⟨gn, n5, hgn⟩, n6, n7, n8⟩ := id hN
  obtain ⟨hh0, hh1, hh2⟩ := id hH
  obtain ⟨p0, p1⟩ := id hPd
  obtain ⟨n30, n31⟩ := id n3
  obtain ⟨hS, hHR, hP, hSlR⟩ := id hR
  obtain ⟨r1, r2, r3, r4, r5, r6⟩ := id hS
  have hnp := r2.1
  have hno8 := r1.2.1
  have hnp16 := r1.1
  obtain ⟨T, hTp, hT⟩ := id r4
  have hu := r1.2.2.2.1
  have huT := unq_perm hTp.symm hu
  have htr := hTr 0 (by omega)
  rw [show x + 224 + 2 * 0 = x + 224 by omega] at htr
  obtain ⟨htr0, htr1⟩ := id htr
  refine j_aload_n X dX4_ifAllDone_0 rfl ?_
  refine j_getr X dX4_ifAllDone_1 (T := TX4) (N := 6) (C := RX4) hinX4 rfl (by assumption) 0 (by decide) (by decide +kernel) rfl ?_
  refine j_iload_n X dX4_ifAllDone_4 rfl ?_
  refine j_callV (nn := 1) X dX4_ifAllDone_5 (c_X3_hasOwner l D nH sk v (x + 1) o (no G.1) hN ho r3 hno8) gX4_ifAllDone_X3_hasOwner rfl ⟨rfl, rfl⟩ (by decide +kernel) ⟨Nat.le_of_ble_eq_true rfl, Nat.le_of_ble_eq_true rfl⟩ (by assumption) ⟨rfl, rfl⟩ rfl rfl (Nat.le_of_ble_eq_true rfl) ⟨Nat.zero_le _, Nat.zero_le _⟩ (kI (fun z5 v5 h5 => ?_))
  obtain ⟨hz5a, hz5b, rfl⟩ := h5
  refine j_if_ne (tgt := 13) X dX4_ifAllDone_8 (by omega) (by decide) (fun c8 => ?_) (fun c8 => ?_)
  · have hqi : 0 ≤ o ∧ o < (no G.1 : Int) := by omega
    obtain ⟨i, rfl⟩ : ∃ i : Nat, o = (i : Int) := ⟨o.toNat, by omega⟩
    refine j_aload_n X dX4_ifAllDone_13 rfl ?_
    refine j_iload_n X dX4_ifAllDone_14 rfl ?_
    refine j_aload_n X dX4_ifAllDone_15 rfl ?_
    refine j_getr X dX4_ifAllDone_16 (T := TX4) (N := 6) (C := RX4) hinX4 rfl (by assumption) 0 (by decide) (by decide +kernel) rfl ?_
    refine j_getrN X dX4_ifAllDone_19 (T := TX3) (N := 8) (C := RX3) hinX3 rfl (by assumption) 5 (by decide) (by decide) rfl rfl ?_
    refine j_iload_n X dX4_ifAllDone_22 rfl ?_
    refine j_iald X dX4_ifAllDone_23 (by assumption) (by omega) (by decide) ?_
    rw [Int.toNat_natCast, (r6 i (by omega)).2.1]
    refine j_callV (nn := 2) X dX4_ifAllDone_24 (c_X4_tried l D nH sk v x i (wt G.1 i) G hX hR (by omega) (by have := (r1.2.2.2.2 i (by omega)).1; omega)) gX4_ifAllDone_X4_tried rfl ⟨rfl, rfl⟩ (by decide +kernel) ⟨Nat.le_of_ble_eq_true rfl, Nat.le_of_ble_eq_true rfl⟩ (by assumption) ⟨rfl, rfl⟩ rfl rfl (Nat.le_of_ble_eq_true rfl) ⟨Nat.zero_le _, Nat.zero_le _⟩ (kA (fun a24 v24 h24 => ?_))
    obtain ⟨rfl, hB24, f24⟩ := h24
    obtain ⟨L2, hp2, hL2⟩ := id hB24
    refine j_aload_n X dX4_ifAllDone_27 rfl ?_
    refine j_getr X dX4_ifAllDone_28 (T := TX4) (N := 6) (C := RX4) hinX4 rfl (by assumption) 0 (by decide) (by decide +kernel) rfl ?_
    refine j_getrN X dX4_ifAllDone_31 (T := TX3) (N := 8) (C := RX3) hinX3 rfl (by assumption) 3 (by decide) (by decide) rfl rfl ?_
    refine j_callV (nn := 1) X dX4_ifAllDone_34 (c_X0_wrong l D nH sk v24 (x + 224) (x + 1 + 3) L2 T htr hL2 n3 (hT.kept (f24 _ (by omega) (by omega)) (f24 _ (by omega) (by omega))) huT) gX4_ifAllDone_X0_wrong rfl ⟨rfl, rfl⟩ (by decide +kernel) ⟨Nat.le_of_ble_eq_true rfl, Nat.le_of_ble_eq_true rfl⟩ (by assumption) ⟨rfl, rfl⟩ rfl rfl (Nat.le_of_ble_eq_true rfl) ⟨Nat.zero_le _, Nat.zero_le _⟩ (kI (fun z34 v34 h34 => ?_))
    obtain ⟨rfl, rfl⟩ := h34
    exact j_iret X dX4_ifAllDone_37 ⟨_, rfl, rfl, ⟨by unfold sIfAllDone; rw [cite_f (by unfold isO; omega), Int.toNat_natCast, wrg_perm hp2 hTp], hR.try (fun a ha => f24 a (by omega) (by omega))⟩⟩
  · refine j_iconst X dX4_ifAllDone_11 ?_
    exact j_iret X dX4_ifAllDone_12 ⟨_, rfl, rfl, ⟨(cite_t (by unfold isO; omega) _ _).symm, hR, frX.refl _ _⟩⟩
def rmX4_rightFrom : Room := { frames := 6, cells := 0, slots := 0, locals := 140 }
set_option maxHeartbeats 4000000 in
set_option maxRecDepth 100000 in
theorem c_X4_rightFrom (l : Launch) (D : va_G) (nH : Nat) (sk : Sk) (v : Mem) (x : Nat) (o : Int) (G : GS) (hX : Xd D sk x) (hR : XR v x G)(ho : -2147483648 ≤ o ∧ o ≤ 2147483647) : CtI l D yX4_rightFrom wsX4_rightFrom rmX4_rightFrom [.ref x, .int (I o)] nH sk v (fun z v' => z = sRightFrom G o ∧ XR v' x G ∧ frX v v' x) := by
  refine ct_of (cc := cX4_rightFrom) (maxL := 4) (ret := (some .int)) rfl rfl (Nat.le_of_ble_eq_true rfl) ?_
  intro p_ e_ s_ m_ args_ below_ meth_ c_ X hmn hsz
  have hinX3 : ∀ w ∈ wsX30, w ∈ wsX4_rightFrom := by decide +kernel
  have hinX4 : ∀ w ∈ wsX40, w ∈ wsX4_rightFrom := by decide +kernel
  obtain ⟨x0, hN, hH, ⟨gs, x171, hgs⟩, x172, hPd, ⟨gt, x175, hgt⟩, hSl, hTr⟩ := id hX
  obtain ⟨n0, n1, n2, n3, ⟨gn, n5, hgn⟩, n6, n7, n8⟩ := id hN
  obtain ⟨hh0, hh1, hh2⟩ := id hH
  obtain ⟨p0, p1⟩ := id hPd
  obtain ⟨n30, n31⟩ := id n3
  obtain ⟨hS, hHR, hP, hSlR⟩ := id hR
  obtain ⟨r1, r2, r3, r4, r5, r6⟩ := id hS
  have hnp := r2.1
  have hno8 := r1.2.1
  have hnp16 := r1.1
  obtain ⟨T, hTp, hT⟩ := id r4
  have hu := r1.2.2.2.1
  have huT := unq_perm hTp.symm hu
  have htr := hTr 0 (by omega)
  rw [show x + 224 + 2 * 0 = x + 224 by omega] at htr
  obtain ⟨htr0, htr1⟩ := id htr
  refine j_aload_n X dX4_rightFrom_0 rfl ?_
  refine j_getr X dX4_rightFrom_1 (T := TX4) (N := 6) (C := RX4) hinX4 rfl (by assumption) 0 (by decide) (by decide +kernel) rfl ?_
  refine j_iload_n X dX4_rightFrom_4 rfl ?_
  refine j_callV (nn := 1) X dX4_rightFrom_5 (c_X3_hasOwner l D nH sk v (x + 1) o (no G.1) hN ho r3 hno8) gX4_rightFrom_X3_hasOwner rfl ⟨rfl, rfl⟩ (by decide +kernel) ⟨Nat.le_of_ble_eq_true rfl, Nat.le_of_ble_eq_true rfl⟩ (by assumption) ⟨rfl, rfl⟩ rfl rfl (Nat.le_of_ble_eq_true rfl) ⟨Nat.zero_le _, Nat.zero_le _⟩ (kI (fun z5 v5 h5 => ?_))
  obtain ⟨hz5a, hz5b, rfl⟩ := h5
  refine j_if_ne (tgt := 13) X dX4_rightFrom_8 (by omega) (by decide) (fun c8 => ?_) (fun c8 => ?_)
  · have hqi : 0 ≤ o ∧ o < (no G.1 : Int) := by omega
    obtain ⟨i, rfl⟩ : ∃ i : Nat, o = (i : Int) := ⟨o.toNat, by omega⟩
    refine j_aload_n X dX4_rightFrom_13 rfl ?_
    refine j_getr X dX4_rightFrom_14 (T := TX4) (N := 6) (C := RX4) hinX4 rfl (by assumption) 0 (by decide) (by decide +kernel) rfl ?_
    refine j_getiN X dX4_rightFrom_17 (T := TX3) (N := 8) (C := RX3) hinX3 rfl (by assumption) 2 (by decide) (by decide) rfl rfl ?_
    rw [hnp]
    refine j_istore_n X dX4_rightFrom_20 rfl (Nat.le_of_ble_eq_true rfl) ?_
    refine j_loop (σ := Int × Mem) (fun (y_ : Int × Mem) => match y_ with | (f, u) => (-1 ≤ f ∧ f ≤ (np G.1 : Int)) ∧ XR u x G ∧ (∀ a, a < x + 224 ∨ x + 232 ≤ a → u a = v a) ∧ ∀ g : Nat, f < (g : Int) → g ≤ np G.1 → ¬ rt (tryL G.1 i (2 ^ np G.1 - 2 ^ g)) (tx G.1) = true) (fun (y_ : Int × Mem) => match y_ with | (f, u) => (f + 1).toNat) (fun (y_ : Int × Mem) => match y_ with | (f, u) => (u, [some (.ref x), some (.int (I (i : Int))), some (.int (I f)), none])) ?_ ((np G.1 : Int), v) ⟨by omega, hR, fun _ _ => rfl, fun g h1 h2 => absurd h1 (by omega)⟩
    intro y_ hx ih21
    obtain ⟨f, u⟩ := y_
    dsimp only at hx ih21 ⊢
    obtain ⟨hf, hRu, hfu, hno⟩ := hx
    have hnpu : u (x + 1) 2 = (np G.1 : Int) := by rw [hfu _ (by omega)]; exact hnp
    refine j_iload_n X dX4_rightFrom_21 rfl ?_
    refine j_if_lt (tgt := 66) X dX4_rightFrom_22 (by omega) (by decide) (fun c22 => ?_) (fun c22 => ?_)
    · refine j_bipush X dX4_rightFrom_66 (by decide) ?_
      exact j_iret X dX4_rightFrom_68 ⟨_, rfl, rfl, ⟨by unfold sRightFrom; rw [cite_f (by unfold isO; omega), Int.toNat_natCast]; exact (the_is (Or.inr ⟨rfl, fun g h => hno g (by omega) h⟩) (fun a b h1 h2 => h1.uniq h2)).symm, hRu, fun a ha => hfu a (by omega)⟩⟩
    · obtain ⟨g, rfl⟩ : ∃ g : Nat, f = (g : Int) := ⟨f.toNat, by omega⟩
      have hpl1 := p2_lt hnp16
      have hpl2 : 2 ^ g ≤ 2 ^ np G.1 := Nat.pow_le_pow_right (by decide) (by omega)
      refine j_iconst X dX4_rightFrom_25 ?_
      refine j_aload_n X dX4_rightFrom_26 rfl ?_
      refine j_getr X dX4_rightFrom_27 (T := TX4) (N := 6) (C := RX4) hinX4 rfl (by assumption) 0 (by decide) (by decide +kernel) rfl ?_
      refine j_getiN X dX4_rightFrom_30 (T := TX3) (N := 8) (C := RX3) hinX3 rfl (by assumption) 2 (by decide) (by decide) rfl rfl ?_
      rw [hnpu]
      refine j_ishl X dX4_rightFrom_33 (b_shl (by omega)) ?_
      refine j_iconst X dX4_rightFrom_34 ?_
      refine j_iload_n X dX4_rightFrom_35 rfl ?_
      refine j_ishl X dX4_rightFrom_36 (b_shl (by omega)) ?_
      refine j_isub X dX4_rightFrom_37 ?_
      rw [show ((2 ^ np G.1 : Nat) : Int) - ((2 ^ g : Nat) : Int) = ((2 ^ np G.1 - 2 ^ g : Nat) : Int) by omega]
      refine j_istore_n X dX4_rightFrom_38 rfl (Nat.le_of_ble_eq_true rfl) ?_
      refine j_aload_n X dX4_rightFrom_39 rfl ?_
      refine j_iload_n X dX4_rightFrom_40 rfl ?_
      refine j_iload_n X dX4_rightFrom_41 rfl ?_
      refine j_callV (nn := 2) X dX4_rightFrom_42 (c_X4_tried l D nH sk u x i (2 ^ np G.1 - 2 ^ g) G hX hRu (by omega) (Nat.lt_of_le_of_lt (Nat.sub_le _ _) (Nat.lt_of_le_of_lt hpl1 (by decide)))) gX4_rightFrom_X4_tried rfl ⟨rfl, rfl⟩ (by decide +kernel) ⟨Nat.le_of_ble_eq_true rfl, Nat.le_of_ble_eq_true rfl⟩ (by assumption) ⟨rfl, rfl⟩ rfl rfl (Nat.le_of_ble_eq_true rfl) ⟨Nat.zero_le _, Nat.zero_le _⟩ (kA (fun a42 v42 h42 => ?_))
      obtain ⟨rfl, hB42, f42⟩ := h42
      obtain ⟨L2, hp2, hL2⟩ := id hB42
      refine j_aload_n X dX4_rightFrom_45 rfl ?_
      refine j_getr X dX4_rightFrom_46 (T := TX4) (N := 6) (C := RX4) hinX4 rfl (by assumption) 0 (by decide) (by decide +kernel) rfl ?_
      refine j_getrN X dX4_rightFrom_49 (T := TX3) (N := 8) (C := RX3) hinX3 rfl (by assumption) 3 (by decide) (by decide) rfl rfl ?_
      refine j_callV (nn := 1) X dX4_rightFrom_52 (c_X0_isSameAs l D nH sk v42 (x + 224) (x + 1 + 3) L2 T htr hL2 n3 (hT.kept (by rw [f42 _ (by omega) (by omega), hfu _ (by omega)]) (by rw [f42 _ (by omega) (by omega), hfu _ (by omega)]))) gX4_rightFrom_X0_isSameAs rfl ⟨rfl, rfl⟩ (by decide +kernel) ⟨Nat.le_of_ble_eq_true rfl, Nat.le_of_ble_eq_true rfl⟩ (by assumption) ⟨rfl, rfl⟩ rfl rfl (Nat.le_of_ble_eq_true rfl) ⟨Nat.zero_le _, Nat.zero_le _⟩ (kI (fun z52 v52 h52 => ?_))
      obtain ⟨hz52a, hz52b, rfl⟩ := h52
      have hRT := hRu.try (w := v42) (fun a ha => f42 a (by omega) (by omega))
      have hRF : ∀ a, a < x + 224 ∨ x + 232 ≤ a → v42 a = v a := fun a ha => by rw [f42 a (by omega) (by omega), hfu a ha]
      refine j_if_eq (tgt := 60) X dX4_rightFrom_55 (by omega) (by decide) (fun c55 => ?_) (fun c55 => ?_)
      · have hng : ¬ rt (tryL G.1 i (2 ^ np G.1 - 2 ^ g)) (tx G.1) = true := fun h => by
          have := hz52b.mpr (sorted_eq (hp2.trans ((rt_iff.mp h).trans hTp.symm)) hL2.2.2.2.1 hT.2.2.2.1)
          omega
        refine j_iinc X dX4_rightFrom_60 rfl rfl (Nat.le_of_ble_eq_true rfl) ?_
        refine j_goto (tgt := 21) X dX4_rightFrom_63 (by decide) ?_
        refine j_drop 3 ?_
        exact ih21 ((g : Int) + -1, v42) (by (try dsimp only); exact ⟨by omega, hRT.1, hRF, fun k h1 h2 => by rcases Nat.lt_or_ge g k with y | y; exact hno k (by omega) h2; have hgk : k = g := (by omega); subst hgk; exact hng⟩) (by (try dsimp only); omega)
      · refine j_iload_n X dX4_rightFrom_58 rfl ?_
        exact j_iret X dX4_rightFrom_59 ⟨_, rfl, rfl, ⟨by unfold sRightFrom; rw [cite_f (by unfold isO; omega), Int.toNat_natCast]; exact (the_is (Or.inl ⟨g, rfl, by omega, rt_iff.mpr (by have e := hz52b.mp (by omega); rw [e] at hp2; exact hp2.symm.trans hTp), fun k h1 h2 => hno k (by omega) h2⟩) (fun a b h1 h2 => h1.uniq h2)).symm, hRT.1, fun a ha => hRF a (by omega)⟩⟩
  · refine j_iconst X dX4_rightFrom_11 ?_
    exact j_iret X dX4_rightFrom_12 ⟨_, rfl, rfl, ⟨(cite_t (by unfold isO; omega) _ _).symm, hR, frX.refl _ _⟩⟩
def rmX4_put : Room := { frames := 1, cells := 0, slots := 0, locals := 26 }
set_option maxHeartbeats 4000000 in
set_option maxRecDepth 100000 in
theorem c_X4_put (l : Launch) (D : va_G) (nH : Nat) (sk : Sk) (v : Mem) (x w : Nat) (G : GS) (hX : Xd D sk x) (hR : XR v x G) (hw : w < 2 ^ 64) : CtI l D yX4_put wsX4_put rmX4_put [.ref x, .long (lN w)] nH sk v (fun z v' => z = (sPut G w).1 ∧ XR v' x (sPut G w).2 ∧ frX v v' x) := by
  refine ct_of (cc := cX4_put) (maxL := 4) (ret := (some .int)) rfl rfl (Nat.le_of_ble_eq_true rfl) ?_
  intro p_ e_ s_ m_ args_ below_ meth_ c_ X hmn hsz
  have hinX2 : ∀ w ∈ wsX20, w ∈ wsX4_put := by decide +kernel
  have hinX4 : ∀ w ∈ wsX40, w ∈ wsX4_put := by decide +kernel
  obtain ⟨x0, hN, hH, ⟨gs, x171, hgs⟩, x172, hPd, ⟨gt, x175, hgt⟩, hSl, hTr⟩ := id hX
  obtain ⟨n0, n1, n2, n3, ⟨gn, n5, hgn⟩, n6, n7, n8⟩ := id hN
  obtain ⟨hh0, hh1, hh2⟩ := id hH
  obtain ⟨p0, p1⟩ := id hPd
  obtain ⟨n30, n31⟩ := id n3
  obtain ⟨hS, hHR, hP, hSlR⟩ := id hR
  obtain ⟨r1, r2, r3, r4, r5, r6⟩ := id hS
  have hnp := r2.1
  have hno8 := r1.2.1
  have hnp16 := r1.1
  refine j_lload_n X dX4_put_0 rfl ?_
  refine j_callS (nn := 1) X dX4_put_1 (c_X2_charactersIn l D nH sk v w hw) gX4_put_X2_charactersIn rfl ⟨rfl, rfl⟩ (by decide +kernel) ⟨Nat.le_of_ble_eq_true rfl, Nat.le_of_ble_eq_true rfl⟩ rfl rfl (Nat.le_of_ble_eq_true rfl) ⟨Nat.zero_le _, Nat.zero_le _⟩ (kI (fun z1 v1 h1 => ?_))
  obtain ⟨h1, rfl⟩ := h1
  have h1b : 0 ≤ z1 ∧ z1 ≤ 8 := by rcases h1 with h | ⟨k, h2, h3⟩; omega; have := h3.2.1; omega
  refine j_istore_n X dX4_put_4 rfl (Nat.le_of_ble_eq_true rfl) ?_
  refine j_iload_n X dX4_put_5 rfl ?_
  refine j_if_ne (tgt := 12) X dX4_put_6 (by omega) (by decide) (fun c6 => ?_) (fun c6 => ?_)
  · obtain ⟨k, rfl, hk⟩ : ∃ k : Nat, z1 = (k : Int) ∧ chOK w k := by rcases h1 with h | h; exact absurd h.1 c6; exact h
    refine j_aload_n X dX4_put_12 rfl ?_
    refine j_getr X dX4_put_13 (T := TX4) (N := 6) (C := RX4) hinX4 rfl (by assumption) 4 (by decide) (by decide +kernel) rfl ?_
    refine j_getiN X dX4_put_16 (T := TX2) (N := 2) (C := RX2) hinX2 rfl (by assumption) 1 (by decide) (by decide) rfl rfl ?_
    have hp48 := hP.2.1
    rw [hP.1]
    refine j_iload_n X dX4_put_19 rfl ?_
    refine j_iadd X dX4_put_20 ?_
    refine j_bipush X dX4_put_21 (by decide) ?_
    refine j_icmp_le (tgt := 29) X dX4_put_23 (by omega) (by decide) (fun c23 => ?_) (fun c23 => ?_)
    · refine j_aload_n X dX4_put_29 rfl ?_
      refine j_getr X dX4_put_30 (T := TX4) (N := 6) (C := RX4) hinX4 rfl (by assumption) 4 (by decide) (by decide +kernel) rfl ?_
      refine j_lload_n X dX4_put_33 rfl ?_
      refine j_iload_n X dX4_put_34 rfl ?_
      refine j_callV (nn := 2) X dX4_put_35 (c_X2_append l D nH sk v (x + 173) w k G.2.2.2 hPd hP hw hk (by omega)) gX4_put_X2_append rfl ⟨rfl, rfl⟩ (by decide +kernel) ⟨Nat.le_of_ble_eq_true rfl, Nat.le_of_ble_eq_true rfl⟩ (by assumption) ⟨rfl, rfl⟩ rfl rfl (Nat.le_of_ble_eq_true rfl) ⟨Nat.zero_le _, Nat.zero_le _⟩ (kV (fun v35 h35 => ?_))
      obtain ⟨hP35, f35⟩ := h35
      refine j_aload_n X dX4_put_38 rfl ?_
      refine j_getr X dX4_put_39 (T := TX4) (N := 6) (C := RX4) hinX4 rfl (by assumption) 4 (by decide) (by decide +kernel) rfl ?_
      refine j_getiN X dX4_put_42 (T := TX2) (N := 2) (C := RX2) hinX2 rfl (by assumption) 1 (by decide) (by decide) rfl rfl ?_
      have hret : v35 (x + 173) 1 = (sPut G w).1 ∧ XR v35 x (sPut G w).2 ∧ frX v v35 x := by
        rw [show sPut G w = (((G.2.2.2.length + putK w : Nat) : Int), (G.1, G.2.1, G.2.2.1, G.2.2.2 ++ chs w (putK w))) from (cite_f (fun h => h ⟨k, hk⟩) _ _).trans (cite_f (by rw [putK_is hk]; omega) _ _), putK_is hk]
        refine ⟨?_, hR.pad hP35 f35⟩
        rw [hP35.1, List.length_append, chs_len]
      exact j_iret X dX4_put_45 ⟨_, rfl, rfl, hret⟩
    · refine j_bipush X dX4_put_26 (by decide) ?_
      have hret : (-4 : Int) = (sPut G w).1 ∧ XR v x (sPut G w).2 ∧ frX v v x := by
        rw [show sPut G w = (-4, G) from (cite_f (fun h => h ⟨k, hk⟩) _ _).trans (cite_t (by rw [putK_is hk]; omega) _ _)]
        exact ⟨rfl, hR, frX.refl _ _⟩
      exact j_iret X dX4_put_28 ⟨_, rfl, rfl, hret⟩
  · refine j_bipush X dX4_put_9 (by decide) ?_
    have hret : (-2 : Int) = (sPut G w).1 ∧ XR v x (sPut G w).2 ∧ frX v v x := by
      rw [show sPut G w = (-2, G) from cite_t (fun ⟨k, hk⟩ => by rcases h1 with h | ⟨j, h2, h3⟩; exact h.2 k hk; have := h3.1; omega) _ _]
      exact ⟨rfl, hR, frX.refl _ _⟩
    exact j_iret X dX4_put_11 ⟨_, rfl, rfl, hret⟩
def rmX4_wipe : Room := { frames := 1, cells := 0, slots := 0, locals := 20 }
set_option maxHeartbeats 4000000 in
set_option maxRecDepth 100000 in
theorem c_X4_wipe (l : Launch) (D : va_G) (nH : Nat) (sk : Sk) (v : Mem) (x : Nat) (G : GS) (hX : Xd D sk x) (hR : XR v x G) : CtI l D yX4_wipe wsX4_wipe rmX4_wipe [.ref x] nH sk v (fun z v' => z = (sWipe G).1 ∧ XR v' x (sWipe G).2 ∧ frX v v' x) := by
  refine ct_of (cc := cX4_wipe) (maxL := 2) (ret := (some .int)) rfl rfl (Nat.le_of_ble_eq_true rfl) ?_
  intro p_ e_ s_ m_ args_ below_ meth_ c_ X hmn hsz
  have hinX2 : ∀ w ∈ wsX20, w ∈ wsX4_wipe := by decide +kernel
  have hinX4 : ∀ w ∈ wsX40, w ∈ wsX4_wipe := by decide +kernel
  obtain ⟨x0, hN, hH, ⟨gs, x171, hgs⟩, x172, hPd, ⟨gt, x175, hgt⟩, hSl, hTr⟩ := id hX
  obtain ⟨n0, n1, n2, n3, ⟨gn, n5, hgn⟩, n6, n7, n8⟩ := id hN
  obtain ⟨hh0, hh1, hh2⟩ := id hH
  obtain ⟨p0, p1⟩ := id hPd
  obtain ⟨n30, n31⟩ := id n3
  obtain ⟨hS, hHR, hP, hSlR⟩ := id hR
  obtain ⟨r1, r2, r3, r4, r5, r6⟩ := id hS
  have hnp := r2.1
  have hno8 := r1.2.1
  have hnp16 := r1.1
  refine j_aload_n X dX4_wipe_0 rfl ?_
  refine j_getr X dX4_wipe_1 (T := TX4) (N := 6) (C := RX4) hinX4 rfl (by assumption) 4 (by decide) (by decide +kernel) rfl ?_
  refine j_getiN X dX4_wipe_4 (T := TX2) (N := 2) (C := RX2) hinX2 rfl (by assumption) 1 (by decide) (by decide) rfl rfl ?_
  refine j_istore_n X dX4_wipe_7 rfl (Nat.le_of_ble_eq_true rfl) ?_
  refine j_aload_n X dX4_wipe_8 rfl ?_
  refine j_getr X dX4_wipe_9 (T := TX4) (N := 6) (C := RX4) hinX4 rfl (by assumption) 4 (by decide) (by decide +kernel) rfl ?_
  refine j_callV (nn := 0) X dX4_wipe_12 (c_X2_empty l D nH sk v (x + 173) G.2.2.2 hPd hP) gX4_wipe_X2_empty rfl ⟨rfl, rfl⟩ (by decide +kernel) ⟨Nat.le_of_ble_eq_true rfl, Nat.le_of_ble_eq_true rfl⟩ (by assumption) ⟨rfl, rfl⟩ rfl rfl (Nat.le_of_ble_eq_true rfl) ⟨Nat.zero_le _, Nat.zero_le _⟩ (kV (fun v12 h12 => ?_))
  obtain ⟨hP12, f12⟩ := h12
  refine j_iload_n X dX4_wipe_15 rfl ?_
  exact j_iret X dX4_wipe_16 ⟨_, rfl, rfl, ⟨hP.1, hR.pad hP12 f12⟩⟩
def rmX4_fault : Room := { frames := 2, cells := 0, slots := 0, locals := 42 }
def rmX4_undo : Room := { frames := 4, cells := 0, slots := 0, locals := 90 }
def rmX4_save : Room := { frames := 3, cells := 0, slots := 0, locals := 69 }
def rmX4_restore : Room := { frames := 4, cells := 0, slots := 0, locals := 90 }
