def rmX5_fault : Room := { frames := 3, cells := 0, slots := 0, locals := 64 }
set_option maxHeartbeats 4000000 in
set_option maxRecDepth 100000 in
theorem c_X5_fault (l : Launch) (D : va_G) (nH : Nat) (sk : Sk) (v : Mem) (m : Nat) (G : GS) (hM : Md D sk m) (hR : MXR v m G) : CtI l D yX5_fault wsX5_fault rmX5_fault [.ref m] nH sk v (fun z v' => z = sFault G ∧ MXR v' m G ∧ frM v v' m) := by
  refine ct_of (cc := cX5_fault) (maxL := 1) (ret := (some .int)) rfl rfl (Nat.le_of_ble_eq_true rfl) ?_
  intro p_ e_ s_ m_ args_ below_ meth_ c_ X hmn hsz
  obtain ⟨m0, m1, m2, m3, m4, m5, m6, m7, m8, m9, m10⟩ := id hM
  obtain ⟨hR1, hR2, hR3, hR4⟩ := id hR
  obtain ⟨hOO, hno8, hno, hT, hNU, hBB⟩ := id hR1
  obtain ⟨o1, o2, o3⟩ := id hOO
  obtain ⟨hp0, hp1, hp2, hp3⟩ := id hR4
  refine j_aload_n X dX5_fault_0 rfl ?_
  refine j_callV (nn := 0) X dX5_fault_1 (c_X5_findFault l D nH sk v m G.2.2.2 hM hR4) gX5_fault_X5_findFault rfl ⟨rfl, rfl⟩ (by decide +kernel) ⟨Nat.le_of_ble_eq_true rfl, Nat.le_of_ble_eq_true rfl⟩ (by assumption) ⟨rfl, rfl⟩ rfl rfl (Nat.le_of_ble_eq_true rfl) ⟨Nat.zero_le _, Nat.zero_le _⟩ (kI (fun z1 v1 h1 => ?_))
  obtain ⟨hF, hfa, hfb, -⟩ := h1
  have hfw : frW v v1 m := ⟨fun j _ => by rw [hfb _ (by omega) (by omega)], hfa, fun a ha => hfb a (by omega) (by omega), fun a ha => hfb a (by omega) (by omega)⟩
  exact j_iret X dX5_fault_4 ⟨_, rfl, rfl, ⟨(the_is hF (fun a b h1 h2 => h1.uniq h2)).symm, hR.w hfw, hfw.2.2.2⟩⟩
def rmX5_parcel : Room := { frames := 2, cells := 0, slots := 0, locals := 46 }
set_option maxHeartbeats 4000000 in
set_option maxRecDepth 100000 in
theorem c_X5_parcel (l : Launch) (D : va_G) (nH : Nat) (sk : Sk) (v : Mem) (m : Nat) (p w : Int) (G : GS) (hM : Md D sk m) (hR : MXR v m G)(hp : -2147483648 ≤ p ∧ p ≤ 2147483647)(hw : -2147483648 ≤ w ∧ w ≤ 2147483647) : CtI l D yX5_parcel wsX5_parcel rmX5_parcel [.ref m, .int (I p), .int (I w)] nH sk v (fun z v' => z = sParcel G p w ∧ MXR v' m G ∧ frM v v' m) := by
  refine ct_of (cc := cX5_parcel) (maxL := 4) (ret := (some .int)) rfl rfl (Nat.le_of_ble_eq_true rfl) ?_
  intro p_ e_ s_ m_ args_ below_ meth_ c_ X hmn hsz
  have hinX5 : ∀ w ∈ wsX50, w ∈ wsX5_parcel := by decide +kernel
  obtain ⟨m0, m1, m2, m3, m4, m5, m6, m7, m8, m9, m10⟩ := id hM
  obtain ⟨hR1, hR2, hR3, hR4⟩ := id hR
  obtain ⟨hOO, hno8, hno, hT, hNU, hBB⟩ := id hR1
  obtain ⟨o1, o2, o3⟩ := id hOO
  obtain ⟨hp0, hp1, hp2, hp3⟩ := id hR4
  refine j_aload_n X dX5_parcel_0 rfl ?_
  refine j_iload_n X dX5_parcel_1 rfl ?_
  refine j_callV (nn := 1) X dX5_parcel_2 (c_X5_isParcel l D nH sk v m p (np G.1) hM hp o1 (by omega)) gX5_parcel_X5_isParcel rfl ⟨rfl, rfl⟩ (by decide +kernel) ⟨Nat.le_of_ble_eq_true rfl, Nat.le_of_ble_eq_true rfl⟩ (by assumption) ⟨rfl, rfl⟩ rfl rfl (Nat.le_of_ble_eq_true rfl) ⟨Nat.zero_le _, Nat.zero_le _⟩ (kI (fun z2 v2 h2 => ?_))
  obtain ⟨hz2a, hz2b, rfl⟩ := h2
  refine j_if_ne (tgt := 10) X dX5_parcel_5 (by omega) (by decide) (fun c5 => ?_) (fun c5 => ?_)
  · have hqq : 0 ≤ p ∧ p < (np G.1 : Int) := by omega
    obtain ⟨q, rfl⟩ : ∃ q : Nat, p = (q : Int) := ⟨p.toNat, by omega⟩
    obtain ⟨hl1, hl2, hl3, hl4⟩ := o3 q (by omega)
    refine j_iload_n X dX5_parcel_10 rfl ?_
    refine j_iconst X dX5_parcel_11 ?_
    refine j_bipush X dX5_parcel_12 (by decide) ?_
    refine j_callS (nn := 3) X dX5_parcel_14 (c_X5_within l D nH sk v w 0 10 (by omega) (by omega) (by omega)) gX5_parcel_X5_within rfl ⟨rfl, rfl⟩ (by decide +kernel) ⟨Nat.le_of_ble_eq_true rfl, Nat.le_of_ble_eq_true rfl⟩ rfl rfl (Nat.le_of_ble_eq_true rfl) ⟨Nat.zero_le _, Nat.zero_le _⟩ (kI (fun z14 v14 h14 => ?_))
    obtain ⟨h14a, h14b, rfl⟩ := h14
    refine j_if_ne (tgt := 23) X dX5_parcel_17 (by omega) (by decide) (fun c17 => ?_) (fun c17 => ?_)
    · refine j_aload_n X dX5_parcel_23 rfl ?_
      refine j_getr X dX5_parcel_24 (T := TX5) (N := 13) (C := RX5) hinX5 rfl (by assumption) 0 (by decide) (by decide +kernel) rfl ?_
      refine j_iconst X dX5_parcel_27 ?_
      refine j_bipush X dX5_parcel_28 (by decide) ?_
      refine j_iload_n X dX5_parcel_30 rfl ?_
      refine j_imul X dX5_parcel_31 ?_
      refine j_iadd X dX5_parcel_32 ?_
      refine j_ialN X dX5_parcel_33 (by assumption) (2 + 9 * q) (by omega) (by omega) (by decide) ?_
      rw [hl1]
      refine j_istore_n X dX5_parcel_34 rfl (Nat.le_of_ble_eq_true rfl) ?_
      refine j_iload_n X dX5_parcel_35 rfl ?_
      refine j_bipush X dX5_parcel_36 (by decide) ?_
      refine j_icmp_le (tgt := 58) X dX5_parcel_38 (by omega) (by decide) (fun c38 => ?_) (fun c38 => ?_)
      · refine j_iload_n X dX5_parcel_58 rfl ?_
        refine j_if_ne (tgt := 66) X dX5_parcel_59 (by omega) (by decide) (fun c59 => ?_) (fun c59 => ?_)
        · refine j_iload_n X dX5_parcel_66 rfl ?_
          refine j_iload_n X dX5_parcel_67 rfl ?_
          refine j_icmp_gt (tgt := 82) X dX5_parcel_68 (by omega) (by decide) (fun c68 => ?_) (fun c68 => ?_)
          · refine j_bipush X dX5_parcel_82 (by decide) ?_
            first
            | have hret : ((od G.1 q).length : Int) = sParcel G (q : Int) w ∧ MXR v m G ∧ frM v v m := ⟨by unfold sParcel; rw [cite_f (by unfold isP; omega), cite_f (by omega)]; rw [cite_t (by omega), Int.toNat_natCast], hR, frM.refl _ _⟩
            | have hret : (-6 : Int) = sParcel G (q : Int) w ∧ MXR v m G ∧ frM v v m := ⟨by unfold sParcel; rw [cite_f (by unfold isP; omega), cite_f (by omega), cite_f (by omega)]; rw [cite_t (by omega), cite_f (by rw [Int.toNat_natCast]; omega)], hR, frM.refl _ _⟩
            | have hret : v (m + 1) (3 + 9 * q + (w.toNat - 1)) = sParcel G (q : Int) w ∧ MXR v m G ∧ frM v v m := ⟨by unfold sParcel; rw [cite_f (by unfold isP; omega), cite_f (by omega), cite_f (by omega)]; rw [cite_t (by omega), cite_t (by rw [Int.toNat_natCast]; omega), Int.toNat_natCast, getD_at (show w.toNat - 1 < (od G.1 q).length by omega)]; exact hl4 _ (by omega), hR, frM.refl _ _⟩
            exact j_iret X dX5_parcel_84 ⟨_, rfl, rfl, hret⟩
          · refine j_aload_n X dX5_parcel_71 rfl ?_
            refine j_iload_n X dX5_parcel_72 rfl ?_
            refine j_iload_n X dX5_parcel_73 rfl ?_
            refine j_iconst X dX5_parcel_74 ?_
            refine j_isub X dX5_parcel_75 ?_
            refine j_callV (nn := 2) X dX5_parcel_76 (c_X5_orderOf l D nH sk v m q (w.toNat - 1) _ _ hM (by omega) (by omega) (by omega) (by omega)) gX5_parcel_X5_orderOf rfl ⟨rfl, rfl⟩ (by decide +kernel) ⟨Nat.le_of_ble_eq_true rfl, Nat.le_of_ble_eq_true rfl⟩ (by assumption) ⟨rfl, rfl⟩ rfl rfl (Nat.le_of_ble_eq_true rfl) ⟨Nat.zero_le _, Nat.zero_le _⟩ (kI (fun z76 v76 h76 => ?_))
            obtain ⟨rfl, rfl⟩ := h76
            refine j_goto (tgt := 84) X dX5_parcel_79 (by decide) ?_
            first
            | have hret : ((od G.1 q).length : Int) = sParcel G (q : Int) w ∧ MXR v m G ∧ frM v v m := ⟨by unfold sParcel; rw [cite_f (by unfold isP; omega), cite_f (by omega)]; rw [cite_t (by omega), Int.toNat_natCast], hR, frM.refl _ _⟩
            | have hret : (-6 : Int) = sParcel G (q : Int) w ∧ MXR v m G ∧ frM v v m := ⟨by unfold sParcel; rw [cite_f (by unfold isP; omega), cite_f (by omega), cite_f (by omega)]; rw [cite_t (by omega), cite_f (by rw [Int.toNat_natCast]; omega)], hR, frM.refl _ _⟩
            | have hret : v (m + 1) (3 + 9 * q + (w.toNat - 1)) = sParcel G (q : Int) w ∧ MXR v m G ∧ frM v v m := ⟨by unfold sParcel; rw [cite_f (by unfold isP; omega), cite_f (by omega), cite_f (by omega)]; rw [cite_t (by omega), cite_t (by rw [Int.toNat_natCast]; omega), Int.toNat_natCast, getD_at (show w.toNat - 1 < (od G.1 q).length by omega)]; exact hl4 _ (by omega), hR, frM.refl _ _⟩
            exact j_iret X dX5_parcel_84 ⟨_, rfl, rfl, hret⟩
        · refine j_iload_n X dX5_parcel_62 rfl ?_
          refine j_goto (tgt := 84) X dX5_parcel_63 (by decide) ?_
          first
          | have hret : ((od G.1 q).length : Int) = sParcel G (q : Int) w ∧ MXR v m G ∧ frM v v m := ⟨by unfold sParcel; rw [cite_f (by unfold isP; omega), cite_f (by omega)]; rw [cite_t (by omega), Int.toNat_natCast], hR, frM.refl _ _⟩
          | have hret : (-6 : Int) = sParcel G (q : Int) w ∧ MXR v m G ∧ frM v v m := ⟨by unfold sParcel; rw [cite_f (by unfold isP; omega), cite_f (by omega), cite_f (by omega)]; rw [cite_t (by omega), cite_f (by rw [Int.toNat_natCast]; omega)], hR, frM.refl _ _⟩
          | have hret : v (m + 1) (3 + 9 * q + (w.toNat - 1)) = sParcel G (q : Int) w ∧ MXR v m G ∧ frM v v m := ⟨by unfold sParcel; rw [cite_f (by unfold isP; omega), cite_f (by omega), cite_f (by omega)]; rw [cite_t (by omega), cite_t (by rw [Int.toNat_natCast]; omega), Int.toNat_natCast, getD_at (show w.toNat - 1 < (od G.1 q).length by omega)]; exact hl4 _ (by omega), hR, frM.refl _ _⟩
          exact j_iret X dX5_parcel_84 ⟨_, rfl, rfl, hret⟩
      · refine j_aload_n X dX5_parcel_41 rfl ?_
        refine j_iload_n X dX5_parcel_42 rfl ?_
        refine j_iload_n X dX5_parcel_43 rfl ?_
        refine j_bipush X dX5_parcel_44 (by decide) ?_
        refine j_icmp_ne (tgt := 53) X dX5_parcel_46 (by omega) (by decide) (fun c46 => ?_) (fun c46 => ?_)
        · refine j_iconst X dX5_parcel_53 ?_
          refine j_callV (nn := 2) X dX5_parcel_54 (c_X5_ownersWith l D nH sk v m q (if w = 9 then 1 else 2) (no G.1) _ _ (if w = 9 then wt G.1 else lo_ G.1) hM (by omega) (by split <;> omega) (by omega) (by split <;> omega) hno hno8 (fun i hi => by
  obtain ⟨hb1, hb2, hb3, hb4, hb5⟩ := hBB i hi
  by_cases hw9 : w = 9
  · rw [if_pos hw9, if_pos hw9]; exact ⟨(congrArg (v (m + 1)) (show _ = 147 + 63 * i by omega)).trans hb2, hb4⟩
  · rw [if_neg hw9, if_neg hw9]; exact ⟨(congrArg (v (m + 1)) (show _ = 148 + 63 * i by omega)).trans hb3, hb5⟩)) gX5_parcel_X5_ownersWith rfl ⟨rfl, rfl⟩ (by decide +kernel) ⟨Nat.le_of_ble_eq_true rfl, Nat.le_of_ble_eq_true rfl⟩ (by assumption) ⟨rfl, rfl⟩ rfl rfl (Nat.le_of_ble_eq_true rfl) ⟨Nat.zero_le _, Nat.zero_le _⟩ (kI (fun z54 v54 h54 => ?_))
          obtain ⟨rfl, rfl⟩ := h54
          first
          | have hret : (mk (fun i => ((if w = 9 then wt G.1 else lo_ G.1) i).testBit q) (no G.1) : Int) = sParcel G (q : Int) w ∧ MXR v m G ∧ frM v v m := ⟨by unfold sParcel; rw [cite_f (by unfold isP; omega), cite_f (by omega), cite_f (by omega), cite_f (by omega)]; rw [cite_t (by omega), Int.toNat_natCast, if_pos (by omega)], hR, frM.refl _ _⟩
          | have hret : (mk (fun i => ((if w = 9 then wt G.1 else lo_ G.1) i).testBit q) (no G.1) : Int) = sParcel G (q : Int) w ∧ MXR v m G ∧ frM v v m := ⟨by unfold sParcel; rw [cite_f (by unfold isP; omega), cite_f (by omega), cite_f (by omega), cite_f (by omega), cite_f (by omega)]; rw [Int.toNat_natCast, if_neg (by omega)], hR, frM.refl _ _⟩
          exact j_iret X dX5_parcel_57 ⟨_, rfl, rfl, hret⟩
        · refine j_iconst X dX5_parcel_49 ?_
          refine j_goto (tgt := 54) X dX5_parcel_50 (by decide) ?_
          refine j_callV (nn := 2) X dX5_parcel_54 (c_X5_ownersWith l D nH sk v m q (if w = 9 then 1 else 2) (no G.1) _ _ (if w = 9 then wt G.1 else lo_ G.1) hM (by omega) (by split <;> omega) (by omega) (by split <;> omega) hno hno8 (fun i hi => by
  obtain ⟨hb1, hb2, hb3, hb4, hb5⟩ := hBB i hi
  by_cases hw9 : w = 9
  · rw [if_pos hw9, if_pos hw9]; exact ⟨(congrArg (v (m + 1)) (show _ = 147 + 63 * i by omega)).trans hb2, hb4⟩
  · rw [if_neg hw9, if_neg hw9]; exact ⟨(congrArg (v (m + 1)) (show _ = 148 + 63 * i by omega)).trans hb3, hb5⟩)) gX5_parcel_X5_ownersWith rfl ⟨rfl, rfl⟩ (by decide +kernel) ⟨Nat.le_of_ble_eq_true rfl, Nat.le_of_ble_eq_true rfl⟩ (by assumption) ⟨rfl, rfl⟩ rfl rfl (Nat.le_of_ble_eq_true rfl) ⟨Nat.zero_le _, Nat.zero_le _⟩ (kI (fun z54 v54 h54 => ?_))
          obtain ⟨rfl, rfl⟩ := h54
          first
          | have hret : (mk (fun i => ((if w = 9 then wt G.1 else lo_ G.1) i).testBit q) (no G.1) : Int) = sParcel G (q : Int) w ∧ MXR v m G ∧ frM v v m := ⟨by unfold sParcel; rw [cite_f (by unfold isP; omega), cite_f (by omega), cite_f (by omega), cite_f (by omega)]; rw [cite_t (by omega), Int.toNat_natCast, if_pos (by omega)], hR, frM.refl _ _⟩
          | have hret : (mk (fun i => ((if w = 9 then wt G.1 else lo_ G.1) i).testBit q) (no G.1) : Int) = sParcel G (q : Int) w ∧ MXR v m G ∧ frM v v m := ⟨by unfold sParcel; rw [cite_f (by unfold isP; omega), cite_f (by omega), cite_f (by omega), cite_f (by omega), cite_f (by omega)]; rw [Int.toNat_natCast, if_neg (by omega)], hR, frM.refl _ _⟩
          exact j_iret X dX5_parcel_57 ⟨_, rfl, rfl, hret⟩
    · refine j_bipush X dX5_parcel_20 (by decide) ?_
      exact j_iret X dX5_parcel_22 ⟨_, rfl, rfl, ⟨by unfold sParcel; rw [cite_f (by unfold isP; omega), cite_t (by omega)], hR, frM.refl _ _⟩⟩
  · refine j_iconst X dX5_parcel_8 ?_
    exact j_iret X dX5_parcel_9 ⟨_, rfl, rfl, ⟨(cite_t (by unfold isP; omega) _ _).symm, hR, frM.refl _ _⟩⟩
def rmX5_text : Room := { frames := 3, cells := 0, slots := 0, locals := 65 }
set_option maxHeartbeats 4000000 in
set_option maxRecDepth 100000 in
theorem c_X5_text (l : Launch) (D : va_G) (nH : Nat) (sk : Sk) (v : Mem) (m : Nat) (n : Int) (G : GS) (hM : Md D sk m) (hR : MXR v m G)(hn : -2147483648 ≤ n ∧ n ≤ 2147483647) : CtI l D yX5_text wsX5_text rmX5_text [.ref m, .int (I n)] nH sk v (fun z v' => z = sText G n ∧ MXR v' m G ∧ frM v v' m) := by
  refine ct_of (cc := cX5_text) (maxL := 2) (ret := (some .int)) rfl rfl (Nat.le_of_ble_eq_true rfl) ?_
  intro p_ e_ s_ m_ args_ below_ meth_ c_ X hmn hsz
  have hinX5 : ∀ w ∈ wsX50, w ∈ wsX5_text := by decide +kernel
  obtain ⟨m0, m1, m2, m3, m4, m5, m6, m7, m8, m9, m10⟩ := id hM
  obtain ⟨hR1, hR2, hR3, hR4⟩ := id hR
  obtain ⟨hOO, hno8, hno, hT, hNU, hBB⟩ := id hR1
  obtain ⟨o1, o2, o3⟩ := id hOO
  obtain ⟨hp0, hp1, hp2, hp3⟩ := id hR4
  refine j_iload_n X dX5_text_0 rfl ?_
  refine j_callS (nn := 1) X dX5_text_1 (c_X5_isNumber l D nH sk v n hn) gX5_text_X5_isNumber rfl ⟨rfl, rfl⟩ (by decide +kernel) ⟨Nat.le_of_ble_eq_true rfl, Nat.le_of_ble_eq_true rfl⟩ rfl rfl (Nat.le_of_ble_eq_true rfl) ⟨Nat.zero_le _, Nat.zero_le _⟩ (kI (fun z1 v1 h1 => ?_))
  obtain ⟨hz1a, hz1b, rfl⟩ := h1
  refine j_if_ne (tgt := 10) X dX5_text_4 (by omega) (by decide) (fun c4 => ?_) (fun c4 => ?_)
  · have hqk : 10 ≤ n ∧ n ≤ 99 := by omega
    obtain ⟨k, rfl⟩ : ∃ k : Nat, n = (k : Int) := ⟨n.toNat, by omega⟩
    refine j_aload_n X dX5_text_10 rfl ?_
    refine j_callV (nn := 0) X dX5_text_11 (c_X5_findIssues l D nH sk v m (tx G.1) hM hT) gX5_text_X5_findIssues rfl ⟨rfl, rfl⟩ (by decide +kernel) ⟨Nat.le_of_ble_eq_true rfl, Nat.le_of_ble_eq_true rfl⟩ (by assumption) ⟨rfl, rfl⟩ rfl rfl (Nat.le_of_ble_eq_true rfl) ⟨Nat.zero_le _, Nat.zero_le _⟩ (kV (fun v11 h11 => ?_))
    obtain ⟨hI, hfI⟩ := h11
    have hfl : frL v v11 m := fun a ha => hfI a (by omega)
    have hfw := hfl.w
    have hIk := hI k (by omega)
    have hil := issF_le (tx G.1) k
    obtain ⟨he1, he2⟩ := isE_issF hNU.unq k
    refine j_aload_n X dX5_text_14 rfl ?_
    refine j_getr X dX5_text_15 (T := TX5) (N := 13) (C := RX5) hinX5 rfl (by assumption) 12 (by decide) (by decide +kernel) rfl ?_
    refine j_iload_n X dX5_text_18 rfl ?_
    refine j_ialN X dX5_text_19 (by assumption) (k) (by omega) (by omega) (by decide) ?_
    rw [hIk]
    refine j_if_ne (tgt := 28) X dX5_text_20 (by omega) (by decide) (fun c20 => ?_) (fun c20 => ?_)
    · refine j_aload_n X dX5_text_28 rfl ?_
      refine j_getr X dX5_text_29 (T := TX5) (N := 13) (C := RX5) hinX5 rfl (by assumption) 12 (by decide) (by decide +kernel) rfl ?_
      refine j_iload_n X dX5_text_32 rfl ?_
      refine j_ialN X dX5_text_33 (by assumption) (k) (by omega) (by omega) (by decide) ?_
      rw [hIk]
      refine j_iconst X dX5_text_34 ?_
      refine j_isub X dX5_text_35 ?_
      exact j_iret X dX5_text_36 ⟨_, rfl, rfl, ⟨by unfold sText; rw [cite_f (by unfold isNu; omega), Int.toNat_natCast]; exact (the_is (by first | exact he1 (by omega) | exact he2 (by omega)) (fun a b h1 h2 => h1.uniq h2)).symm, hR.w hfw, hfw.2.2.2⟩⟩
    · refine j_bipush X dX5_text_23 (by decide) ?_
      refine j_goto (tgt := 36) X dX5_text_25 (by decide) ?_
      exact j_iret X dX5_text_36 ⟨_, rfl, rfl, ⟨by unfold sText; rw [cite_f (by unfold isNu; omega), Int.toNat_natCast]; exact (the_is (by first | exact he1 (by omega) | exact he2 (by omega)) (fun a b h1 h2 => h1.uniq h2)).symm, hR.w hfw, hfw.2.2.2⟩⟩
  · refine j_bipush X dX5_text_7 (by decide) ?_
    exact j_iret X dX5_text_9 ⟨_, rfl, rfl, ⟨(cite_t (by unfold isNu; omega) _ _).symm, hR, frM.refl _ _⟩⟩
def rmX5_leaf : Room := { frames := 4, cells := 0, slots := 0, locals := 88 }
set_option maxHeartbeats 4000000 in
set_option maxRecDepth 100000 in
theorem c_X5_leaf (l : Launch) (D : va_G) (nH : Nat) (sk : Sk) (v : Mem) (m : Nat) (o n w : Int) (G : GS) (hM : Md D sk m) (hR : MXR v m G)(ho : -2147483648 ≤ o ∧ o ≤ 2147483647)(hn : -2147483648 ≤ n ∧ n ≤ 2147483647)(hw : -2147483648 ≤ w ∧ w ≤ 2147483647) : CtI l D yX5_leaf wsX5_leaf rmX5_leaf [.ref m, .int (I o), .int (I n), .int (I w)] nH sk v (fun z v' => z = sLeaf G o n w ∧ MXR v' m G ∧ frM v v' m) := by
  refine ct_of (cc := cX5_leaf) (maxL := 4) (ret := (some .int)) rfl rfl (Nat.le_of_ble_eq_true rfl) ?_
  intro p_ e_ s_ m_ args_ below_ meth_ c_ X hmn hsz
  have hinX5 : ∀ w ∈ wsX50, w ∈ wsX5_leaf := by decide +kernel
  obtain ⟨m0, m1, m2, m3, m4, m5, m6, m7, m8, m9, m10⟩ := id hM
  obtain ⟨hR1, hR2, hR3, hR4⟩ := id hR
  obtain ⟨hOO, hno8, hno, hT, hNU, hBB⟩ := id hR1
  obtain ⟨o1, o2, o3⟩ := id hOO
  obtain ⟨hp0, hp1, hp2, hp3⟩ := id hR4
  refine j_aload_n X dX5_leaf_0 rfl ?_
  refine j_iload_n X dX5_leaf_1 rfl ?_
  refine j_callV (nn := 1) X dX5_leaf_2 (c_X5_isOwner l D nH sk v m o (no G.1) hM ho hno (by omega)) gX5_leaf_X5_isOwner rfl ⟨rfl, rfl⟩ (by decide +kernel) ⟨Nat.le_of_ble_eq_true rfl, Nat.le_of_ble_eq_true rfl⟩ (by assumption) ⟨rfl, rfl⟩ rfl rfl (Nat.le_of_ble_eq_true rfl) ⟨Nat.zero_le _, Nat.zero_le _⟩ (kI (fun z2 v2 h2 => ?_))
  obtain ⟨hz2a, hz2b, rfl⟩ := h2
  refine j_if_ne (tgt := 10) X dX5_leaf_5 (by omega) (by decide) (fun c5 => ?_) (fun c5 => ?_)
  · have hqi : 0 ≤ o ∧ o < (no G.1 : Int) := by omega
    obtain ⟨i, rfl⟩ : ∃ i : Nat, o = (i : Int) := ⟨o.toNat, by omega⟩
    have hi : i < no G.1 := by omega
    obtain ⟨hb1, hb2, hb3, hb4, hb5⟩ := hBB i hi
    refine j_iload_n X dX5_leaf_10 rfl ?_
    refine j_callS (nn := 1) X dX5_leaf_11 (c_X5_isNumber l D nH sk v n hn) gX5_leaf_X5_isNumber rfl ⟨rfl, rfl⟩ (by decide +kernel) ⟨Nat.le_of_ble_eq_true rfl, Nat.le_of_ble_eq_true rfl⟩ rfl rfl (Nat.le_of_ble_eq_true rfl) ⟨Nat.zero_le _, Nat.zero_le _⟩ (kI (fun z11 v11 h11 => ?_))
    obtain ⟨hz11a, hz11b, rfl⟩ := h11
    refine j_if_ne (tgt := 20) X dX5_leaf_14 (by omega) (by decide) (fun c14 => ?_) (fun c14 => ?_)
    · have hqk : 10 ≤ n ∧ n ≤ 99 := by omega
      obtain ⟨k, rfl⟩ : ∃ k : Nat, n = (k : Int) := ⟨n.toNat, by omega⟩
      refine j_aload_n X dX5_leaf_20 rfl ?_
      refine j_iload_n X dX5_leaf_21 rfl ?_
      refine j_callV (nn := 1) X dX5_leaf_22 (c_X5_findLeaves l D nH sk v m i _ (bn G.1 i) (tx G.1) hM (by omega) (by omega) hb1 hT) gX5_leaf_X5_findLeaves rfl ⟨rfl, rfl⟩ (by decide +kernel) ⟨Nat.le_of_ble_eq_true rfl, Nat.le_of_ble_eq_true rfl⟩ (by assumption) ⟨rfl, rfl⟩ rfl rfl (Nat.le_of_ble_eq_true rfl) ⟨Nat.zero_le _, Nat.zero_le _⟩ (kV (fun v22 h22 => ?_))
      obtain ⟨hF, hfl⟩ := h22
      have hfw := hfl.w
      obtain ⟨ha1, ha2, ha3⟩ := hF k (by omega)
      refine j_iload_n X dX5_leaf_25 rfl ?_
      by_cases cs26_0 : w = 0
      · refine j_tabIn (tgt := 64) (off := 38) X dX5_leaf_26 (by omega) (by omega) (by rw [cs26_0]; rfl) (by decide) ?_
        refine j_aload_n X dX5_leaf_64 rfl ?_
        refine j_getr X dX5_leaf_65 (T := TX5) (N := 13) (C := RX5) hinX5 rfl (by assumption) 10 (by decide) (by decide +kernel) rfl ?_
        refine j_iload_n X dX5_leaf_68 rfl ?_
        refine j_ialN X dX5_leaf_69 (by assumption) (k) (by omega) (by omega) (by decide) ?_
        exact j_iret X dX5_leaf_70 ⟨_, rfl, rfl, ⟨by unfold sLeaf; rw [cite_f (by unfold isO; omega), cite_f (by unfold isNu; omega), Int.toNat_natCast, Int.toNat_natCast]; rw [cite_t (by omega), ha1], hR.w hfw, hfw.2.2.2⟩⟩
      by_cases cs26_1 : w = 1
      · refine j_tabIn (tgt := 71) (off := 45) X dX5_leaf_26 (by omega) (by omega) (by rw [cs26_1]; rfl) (by decide) ?_
        refine j_aload_n X dX5_leaf_71 rfl ?_
        refine j_iload_n X dX5_leaf_72 rfl ?_
        refine j_iload_n X dX5_leaf_73 rfl ?_
        refine j_iconst X dX5_leaf_74 ?_
        refine j_callV (nn := 3) X dX5_leaf_75 (c_X5_issueIn l D nH sk v22 m i k _ _ 0 (bn G.1 i) hM (by omega) (by omega) (hb1.kept (fun j _ _ => by rw [hfl _ (by omega)])) (by omega) (by omega) (by omega)) gX5_leaf_X5_issueIn rfl ⟨rfl, rfl⟩ (by decide +kernel) ⟨Nat.le_of_ble_eq_true rfl, Nat.le_of_ble_eq_true rfl⟩ (by assumption) ⟨rfl, rfl⟩ rfl rfl (Nat.le_of_ble_eq_true rfl) ⟨Nat.zero_le _, Nat.zero_le _⟩ (kI (fun z75 v75 h75 => ?_))
        obtain ⟨h75, rfl⟩ := h75
        exact j_iret X dX5_leaf_78 ⟨_, rfl, rfl, ⟨by unfold sLeaf; rw [cite_f (by unfold isO; omega), cite_f (by unfold isNu; omega), Int.toNat_natCast, Int.toNat_natCast]; rw [cite_f (by omega), cite_t (by omega)]; exact (the_is (h75.1 rfl) (fun a b h1 h2 => h1.uniq h2)).symm, hR.w hfw, hfw.2.2.2⟩⟩
      by_cases cs26_2 : w = 2
      · refine j_tabIn (tgt := 79) (off := 53) X dX5_leaf_26 (by omega) (by omega) (by rw [cs26_2]; rfl) (by decide) ?_
        refine j_aload_n X dX5_leaf_79 rfl ?_
        refine j_iload_n X dX5_leaf_80 rfl ?_
        refine j_iload_n X dX5_leaf_81 rfl ?_
        refine j_iconst X dX5_leaf_82 ?_
        refine j_callV (nn := 3) X dX5_leaf_83 (c_X5_issueIn l D nH sk v22 m i k _ _ 1 (bn G.1 i) hM (by omega) (by omega) (hb1.kept (fun j _ _ => by rw [hfl _ (by omega)])) (by omega) (by omega) (by omega)) gX5_leaf_X5_issueIn rfl ⟨rfl, rfl⟩ (by decide +kernel) ⟨Nat.le_of_ble_eq_true rfl, Nat.le_of_ble_eq_true rfl⟩ (by assumption) ⟨rfl, rfl⟩ rfl rfl (Nat.le_of_ble_eq_true rfl) ⟨Nat.zero_le _, Nat.zero_le _⟩ (kI (fun z83 v83 h83 => ?_))
        obtain ⟨h83, rfl⟩ := h83
        exact j_iret X dX5_leaf_86 ⟨_, rfl, rfl, ⟨by unfold sLeaf; rw [cite_f (by unfold isO; omega), cite_f (by unfold isNu; omega), Int.toNat_natCast, Int.toNat_natCast]; rw [cite_f (by omega), cite_f (by omega), cite_t (by omega)]; exact (the_is (h83.2 (by omega)) (fun a b h1 h2 => h1.uniq h2)).symm, hR.w hfw, hfw.2.2.2⟩⟩
      by_cases cs26_3 : w = 3
      · refine j_tabIn (tgt := 87) (off := 61) X dX5_leaf_26 (by omega) (by omega) (by rw [cs26_3]; rfl) (by decide) ?_
        refine j_aload_n X dX5_leaf_87 rfl ?_
        refine j_iload_n X dX5_leaf_88 rfl ?_
        refine j_callV (nn := 1) X dX5_leaf_89 (c_X5_surplusOf l D nH sk v22 m k _ (bn G.1 i) (tx G.1) hM (by omega) (by omega) hF hb1.2.1) gX5_leaf_X5_surplusOf rfl ⟨rfl, rfl⟩ (by decide +kernel) ⟨Nat.le_of_ble_eq_true rfl, Nat.le_of_ble_eq_true rfl⟩ (by assumption) ⟨rfl, rfl⟩ rfl rfl (Nat.le_of_ble_eq_true rfl) ⟨Nat.zero_le _, Nat.zero_le _⟩ (kI (fun z89 v89 h89 => ?_))
        obtain ⟨rfl, rfl⟩ := h89
        exact j_iret X dX5_leaf_92 ⟨_, rfl, rfl, ⟨by unfold sLeaf; rw [cite_f (by unfold isO; omega), cite_f (by unfold isNu; omega), Int.toNat_natCast, Int.toNat_natCast]; rw [cite_f (by omega), cite_f (by omega), cite_f (by omega), cite_t (by omega), show w = 3 by omega], hR.w hfw, hfw.2.2.2⟩⟩
      by_cases cs26_4 : w = 4
      · refine j_tabIn (tgt := 93) (off := 67) X dX5_leaf_26 (by omega) (by omega) (by rw [cs26_4]; rfl) (by decide) ?_
        refine j_aload_n X dX5_leaf_93 rfl ?_
        refine j_iload_n X dX5_leaf_94 rfl ?_
        refine j_callV (nn := 1) X dX5_leaf_95 (c_X5_oldOf l D nH sk v22 m k _ (bn G.1 i) (tx G.1) hM (by omega) (by omega) hF hb1.2.1 hNU.unq) gX5_leaf_X5_oldOf rfl ⟨rfl, rfl⟩ (by decide +kernel) ⟨Nat.le_of_ble_eq_true rfl, Nat.le_of_ble_eq_true rfl⟩ (by assumption) ⟨rfl, rfl⟩ rfl rfl (Nat.le_of_ble_eq_true rfl) ⟨Nat.zero_le _, Nat.zero_le _⟩ (kI (fun z95 v95 h95 => ?_))
        obtain ⟨rfl, rfl⟩ := h95
        exact j_iret X dX5_leaf_98 ⟨_, rfl, rfl, ⟨by unfold sLeaf; rw [cite_f (by unfold isO; omega), cite_f (by unfold isNu; omega), Int.toNat_natCast, Int.toNat_natCast]; rw [cite_f (by omega), cite_f (by omega), cite_f (by omega), cite_t (by omega), show w = 4 by omega], hR.w hfw, hfw.2.2.2⟩⟩
      by_cases cs26_5 : w = 5
      · refine j_tabIn (tgt := 99) (off := 73) X dX5_leaf_26 (by omega) (by omega) (by rw [cs26_5]; rfl) (by decide) ?_
        refine j_aload_n X dX5_leaf_99 rfl ?_
        refine j_iload_n X dX5_leaf_100 rfl ?_
        refine j_callV (nn := 1) X dX5_leaf_101 (c_X5_missingOf l D nH sk v22 m k _ (bn G.1 i) (tx G.1) hM (by omega) (by omega) hF hb1.2.1) gX5_leaf_X5_missingOf rfl ⟨rfl, rfl⟩ (by decide +kernel) ⟨Nat.le_of_ble_eq_true rfl, Nat.le_of_ble_eq_true rfl⟩ (by assumption) ⟨rfl, rfl⟩ rfl rfl (Nat.le_of_ble_eq_true rfl) ⟨Nat.zero_le _, Nat.zero_le _⟩ (kI (fun z101 v101 h101 => ?_))
        obtain ⟨rfl, rfl⟩ := h101
        exact j_iret X dX5_leaf_104 ⟨_, rfl, rfl, ⟨by unfold sLeaf; rw [cite_f (by unfold isO; omega), cite_f (by unfold isNu; omega), Int.toNat_natCast, Int.toNat_natCast]; rw [cite_f (by omega), cite_f (by omega), cite_f (by omega), cite_t (by omega), show w = 5 by omega], hR.w hfw, hfw.2.2.2⟩⟩
      refine j_tabOut (tgt := 105) X dX5_leaf_26 (by omega) (by omega) (by decide) ?_
      refine j_bipush X dX5_leaf_105 (by decide) ?_
      exact j_iret X dX5_leaf_107 ⟨_, rfl, rfl, ⟨by unfold sLeaf; rw [cite_f (by unfold isO; omega), cite_f (by unfold isNu; omega), Int.toNat_natCast, Int.toNat_natCast]; rw [cite_f (by omega), cite_f (by omega), cite_f (by omega), cite_f (by omega)], hR.w hfw, hfw.2.2.2⟩⟩
    · refine j_bipush X dX5_leaf_17 (by decide) ?_
      exact j_iret X dX5_leaf_19 ⟨_, rfl, rfl, ⟨by unfold sLeaf; rw [cite_f (by unfold isO; omega), cite_t (by unfold isNu; omega)], hR, frM.refl _ _⟩⟩
  · refine j_iconst X dX5_leaf_8 ?_
    exact j_iret X dX5_leaf_9 ⟨_, rfl, rfl, ⟨(cite_t (by unfold isO; omega) _ _).symm, hR, frM.refl _ _⟩⟩
def rmX5_of : Room := { frames := 6, cells := 0, slots := 0, locals := 135 }
set_option maxHeartbeats 4000000 in
set_option maxRecDepth 100000 in
theorem c_X5_of (l : Launch) (D : va_G) (nH : Nat) (sk : Sk) (v : Mem) (m : Nat) (o w : Int) (G : GS) (hM : Md D sk m) (hR : MXR v m G)(ho : -2147483648 ≤ o ∧ o ≤ 2147483647)(hw : -2147483648 ≤ w ∧ w ≤ 2147483647) : CtI l D yX5_of wsX5_of rmX5_of [.ref m, .int (I o), .int (I w)] nH sk v (fun z v' => z = sOf G o w ∧ MXR v' m G ∧ frM v v' m) := by
  refine ct_of (cc := cX5_of) (maxL := 3) (ret := (some .int)) rfl rfl (Nat.le_of_ble_eq_true rfl) ?_
  intro p_ e_ s_ m_ args_ below_ meth_ c_ X hmn hsz
  obtain ⟨m0, m1, m2, m3, m4, m5, m6, m7, m8, m9, m10⟩ := id hM
  obtain ⟨hR1, hR2, hR3, hR4⟩ := id hR
  obtain ⟨hOO, hno8, hno, hT, hNU, hBB⟩ := id hR1
  obtain ⟨o1, o2, o3⟩ := id hOO
  obtain ⟨hp0, hp1, hp2, hp3⟩ := id hR4
  refine j_aload_n X dX5_of_0 rfl ?_
  refine j_iload_n X dX5_of_1 rfl ?_
  refine j_callV (nn := 1) X dX5_of_2 (c_X5_isOwner l D nH sk v m o (no G.1) hM ho hno (by omega)) gX5_of_X5_isOwner rfl ⟨rfl, rfl⟩ (by decide +kernel) ⟨Nat.le_of_ble_eq_true rfl, Nat.le_of_ble_eq_true rfl⟩ (by assumption) ⟨rfl, rfl⟩ rfl rfl (Nat.le_of_ble_eq_true rfl) ⟨Nat.zero_le _, Nat.zero_le _⟩ (kI (fun z2 v2 h2 => ?_))
  obtain ⟨hz2a, hz2b, rfl⟩ := h2
  refine j_if_ne (tgt := 10) X dX5_of_5 (by omega) (by decide) (fun c5 => ?_) (fun c5 => ?_)
  · have hqi : 0 ≤ o ∧ o < (no G.1 : Int) := by omega
    obtain ⟨i, rfl⟩ : ∃ i : Nat, o = (i : Int) := ⟨o.toNat, by omega⟩
    have hi : i < no G.1 := by omega
    obtain ⟨hb1, hb2, hb3, hb4, hb5⟩ := hBB i hi
    refine j_iload_n X dX5_of_10 rfl ?_
    by_cases cs11_0 : w = 0
    · refine j_tabIn (tgt := 56) (off := 45) X dX5_of_11 (by omega) (by omega) (by rw [cs11_0]; rfl) (by decide) ?_
      refine j_aload_n X dX5_of_56 rfl ?_
      refine j_iload_n X dX5_of_57 rfl ?_
      refine j_iload_n X dX5_of_58 rfl ?_
      refine j_callV (nn := 2) X dX5_of_59 (c_X5_part l D nH sk v m i w.toNat _ _ hM (by omega) (by omega) (by omega) (by omega)) gX5_of_X5_part rfl ⟨rfl, rfl⟩ (by decide +kernel) ⟨Nat.le_of_ble_eq_true rfl, Nat.le_of_ble_eq_true rfl⟩ (by assumption) ⟨rfl, rfl⟩ rfl rfl (Nat.le_of_ble_eq_true rfl) ⟨Nat.zero_le _, Nat.zero_le _⟩ (kI (fun z59 v59 h59 => ?_))
      obtain ⟨rfl, rfl⟩ := h59
      exact j_iret X dX5_of_62 ⟨_, rfl, rfl, ⟨by unfold sOf; rw [cite_f (by unfold isO; omega), Int.toNat_natCast]; rw [cite_t (by omega)]; rw [show 146 + 63 * i + w.toNat = 146 + 63 * i by omega]; exact hb1.1, hR, frM.refl _ _⟩⟩
    by_cases cs11_1 : w = 1
    · refine j_tabIn (tgt := 56) (off := 45) X dX5_of_11 (by omega) (by omega) (by rw [cs11_1]; rfl) (by decide) ?_
      refine j_aload_n X dX5_of_56 rfl ?_
      refine j_iload_n X dX5_of_57 rfl ?_
      refine j_iload_n X dX5_of_58 rfl ?_
      refine j_callV (nn := 2) X dX5_of_59 (c_X5_part l D nH sk v m i w.toNat _ _ hM (by omega) (by omega) (by omega) (by omega)) gX5_of_X5_part rfl ⟨rfl, rfl⟩ (by decide +kernel) ⟨Nat.le_of_ble_eq_true rfl, Nat.le_of_ble_eq_true rfl⟩ (by assumption) ⟨rfl, rfl⟩ rfl rfl (Nat.le_of_ble_eq_true rfl) ⟨Nat.zero_le _, Nat.zero_le _⟩ (kI (fun z59 v59 h59 => ?_))
      obtain ⟨rfl, rfl⟩ := h59
      exact j_iret X dX5_of_62 ⟨_, rfl, rfl, ⟨by unfold sOf; rw [cite_f (by unfold isO; omega), Int.toNat_natCast, cite_f (by omega)]; rw [cite_t (by omega), show 146 + 63 * i + w.toNat = 147 + 63 * i by omega]; exact hb2, hR, frM.refl _ _⟩⟩
    by_cases cs11_2 : w = 2
    · refine j_tabIn (tgt := 56) (off := 45) X dX5_of_11 (by omega) (by omega) (by rw [cs11_2]; rfl) (by decide) ?_
      refine j_aload_n X dX5_of_56 rfl ?_
      refine j_iload_n X dX5_of_57 rfl ?_
      refine j_iload_n X dX5_of_58 rfl ?_
      refine j_callV (nn := 2) X dX5_of_59 (c_X5_part l D nH sk v m i w.toNat _ _ hM (by omega) (by omega) (by omega) (by omega)) gX5_of_X5_part rfl ⟨rfl, rfl⟩ (by decide +kernel) ⟨Nat.le_of_ble_eq_true rfl, Nat.le_of_ble_eq_true rfl⟩ (by assumption) ⟨rfl, rfl⟩ rfl rfl (Nat.le_of_ble_eq_true rfl) ⟨Nat.zero_le _, Nat.zero_le _⟩ (kI (fun z59 v59 h59 => ?_))
      obtain ⟨rfl, rfl⟩ := h59
      exact j_iret X dX5_of_62 ⟨_, rfl, rfl, ⟨by unfold sOf; rw [cite_f (by unfold isO; omega), Int.toNat_natCast, cite_f (by omega), cite_f (by omega)]; rw [cite_t (by omega), show 146 + 63 * i + w.toNat = 148 + 63 * i by omega]; exact hb3, hR, frM.refl _ _⟩⟩
    by_cases cs11_3 : w = 3
    · refine j_tabIn (tgt := 63) (off := 52) X dX5_of_11 (by omega) (by omega) (by rw [cs11_3]; rfl) (by decide) ?_
      refine j_aload_n X dX5_of_63 rfl ?_
      refine j_iload_n X dX5_of_64 rfl ?_
      refine j_iload_n X dX5_of_65 rfl ?_
      refine j_iconst X dX5_of_66 ?_
      refine j_isub X dX5_of_67 ?_
      refine j_callV (nn := 2) X dX5_of_68 (c_X5_wrong l D nH sk v m i _ (w - 3) (bn G.1 i) (tx G.1) hM (by omega) (by omega) hb1 hT hNU.unq (by omega)) gX5_of_X5_wrong rfl ⟨rfl, rfl⟩ (by decide +kernel) ⟨Nat.le_of_ble_eq_true rfl, Nat.le_of_ble_eq_true rfl⟩ (by assumption) ⟨rfl, rfl⟩ rfl rfl (Nat.le_of_ble_eq_true rfl) ⟨Nat.zero_le _, Nat.zero_le _⟩ (kI (fun z68 v68 h68 => ?_))
      obtain ⟨hx3, hx4, hx5, -, hfl⟩ := h68
      have hfw := hfl.w
      exact j_iret X dX5_of_71 ⟨_, rfl, rfl, ⟨by unfold sOf; rw [cite_f (by unfold isO; omega), Int.toNat_natCast, cite_f (by omega), cite_f (by omega), cite_f (by omega)]; rw [cite_t (by omega), hx3 (by omega), show w = 3 by omega], hR.w hfw, hfw.2.2.2⟩⟩
    by_cases cs11_4 : w = 4
    · refine j_tabIn (tgt := 63) (off := 52) X dX5_of_11 (by omega) (by omega) (by rw [cs11_4]; rfl) (by decide) ?_
      refine j_aload_n X dX5_of_63 rfl ?_
      refine j_iload_n X dX5_of_64 rfl ?_
      refine j_iload_n X dX5_of_65 rfl ?_
      refine j_iconst X dX5_of_66 ?_
      refine j_isub X dX5_of_67 ?_
      refine j_callV (nn := 2) X dX5_of_68 (c_X5_wrong l D nH sk v m i _ (w - 3) (bn G.1 i) (tx G.1) hM (by omega) (by omega) hb1 hT hNU.unq (by omega)) gX5_of_X5_wrong rfl ⟨rfl, rfl⟩ (by decide +kernel) ⟨Nat.le_of_ble_eq_true rfl, Nat.le_of_ble_eq_true rfl⟩ (by assumption) ⟨rfl, rfl⟩ rfl rfl (Nat.le_of_ble_eq_true rfl) ⟨Nat.zero_le _, Nat.zero_le _⟩ (kI (fun z68 v68 h68 => ?_))
      obtain ⟨hx3, hx4, hx5, -, hfl⟩ := h68
      have hfw := hfl.w
      exact j_iret X dX5_of_71 ⟨_, rfl, rfl, ⟨by unfold sOf; rw [cite_f (by unfold isO; omega), Int.toNat_natCast, cite_f (by omega), cite_f (by omega), cite_f (by omega)]; rw [cite_t (by omega), hx4 (by omega), show w = 4 by omega], hR.w hfw, hfw.2.2.2⟩⟩
    by_cases cs11_5 : w = 5
    · refine j_tabIn (tgt := 63) (off := 52) X dX5_of_11 (by omega) (by omega) (by rw [cs11_5]; rfl) (by decide) ?_
      refine j_aload_n X dX5_of_63 rfl ?_
      refine j_iload_n X dX5_of_64 rfl ?_
      refine j_iload_n X dX5_of_65 rfl ?_
      refine j_iconst X dX5_of_66 ?_
      refine j_isub X dX5_of_67 ?_
      refine j_callV (nn := 2) X dX5_of_68 (c_X5_wrong l D nH sk v m i _ (w - 3) (bn G.1 i) (tx G.1) hM (by omega) (by omega) hb1 hT hNU.unq (by omega)) gX5_of_X5_wrong rfl ⟨rfl, rfl⟩ (by decide +kernel) ⟨Nat.le_of_ble_eq_true rfl, Nat.le_of_ble_eq_true rfl⟩ (by assumption) ⟨rfl, rfl⟩ rfl rfl (Nat.le_of_ble_eq_true rfl) ⟨Nat.zero_le _, Nat.zero_le _⟩ (kI (fun z68 v68 h68 => ?_))
      obtain ⟨hx3, hx4, hx5, -, hfl⟩ := h68
      have hfw := hfl.w
      exact j_iret X dX5_of_71 ⟨_, rfl, rfl, ⟨by unfold sOf; rw [cite_f (by unfold isO; omega), Int.toNat_natCast, cite_f (by omega), cite_f (by omega), cite_f (by omega)]; rw [cite_t (by omega), hx5 (by omega), show w = 5 by omega], hR.w hfw, hfw.2.2.2⟩⟩
    by_cases cs11_6 : w = 6
    · refine j_tabIn (tgt := 72) (off := 61) X dX5_of_11 (by omega) (by omega) (by rw [cs11_6]; rfl) (by decide) ?_
      refine j_aload_n X dX5_of_72 rfl ?_
      refine j_iload_n X dX5_of_73 rfl ?_
      refine j_callV (nn := 1) X dX5_of_74 (c_X5_isRight l D nH sk v m i _ (bn G.1 i) (tx G.1) hM (by omega) (by omega) hb1 hT hNU) gX5_of_X5_isRight rfl ⟨rfl, rfl⟩ (by decide +kernel) ⟨Nat.le_of_ble_eq_true rfl, Nat.le_of_ble_eq_true rfl⟩ (by assumption) ⟨rfl, rfl⟩ rfl rfl (Nat.le_of_ble_eq_true rfl) ⟨Nat.zero_le _, Nat.zero_le _⟩ (kI (fun z74 v74 h74 => ?_))
      obtain ⟨hz74a, hz74b, hfl⟩ := h74
      have hfw := hfl.w
      refine j_if_eq (tgt := 84) X dX5_of_77 (by omega) (by decide) (fun c77 => ?_) (fun c77 => ?_)
      · refine j_iconst X dX5_of_84 ?_
        exact j_iret X dX5_of_85 ⟨_, rfl, rfl, ⟨by unfold sOf; rw [cite_f (by unfold isO; omega), Int.toNat_natCast, cite_f (by omega), cite_f (by omega), cite_f (by omega), cite_f (by omega)]; rw [cite_t (by omega)]; first | (rw [cite_t (hz74b.mp (by omega))]; done) | (rw [cite_f (fun h => by have := hz74b.mpr h; omega)]; done), hR.w hfw, hfw.2.2.2⟩⟩
      · refine j_iconst X dX5_of_80 ?_
        refine j_goto (tgt := 85) X dX5_of_81 (by decide) ?_
        exact j_iret X dX5_of_85 ⟨_, rfl, rfl, ⟨by unfold sOf; rw [cite_f (by unfold isO; omega), Int.toNat_natCast, cite_f (by omega), cite_f (by omega), cite_f (by omega), cite_f (by omega)]; rw [cite_t (by omega)]; first | (rw [cite_t (hz74b.mp (by omega))]; done) | (rw [cite_f (fun h => by have := hz74b.mpr h; omega)]; done), hR.w hfw, hfw.2.2.2⟩⟩
    by_cases cs11_7 : w = 7
    · refine j_tabIn (tgt := 86) (off := 75) X dX5_of_11 (by omega) (by omega) (by rw [cs11_7]; rfl) (by decide) ?_
      refine j_aload_n X dX5_of_86 rfl ?_
      refine j_iload_n X dX5_of_87 rfl ?_
      refine j_callV (nn := 1) X dX5_of_88 (c_X5_checkOf l D nH sk v m i _ (bn G.1 i) hM (by omega) (by omega) hb1) gX5_of_X5_checkOf rfl ⟨rfl, rfl⟩ (by decide +kernel) ⟨Nat.le_of_ble_eq_true rfl, Nat.le_of_ble_eq_true rfl⟩ (by assumption) ⟨rfl, rfl⟩ rfl rfl (Nat.le_of_ble_eq_true rfl) ⟨Nat.zero_le _, Nat.zero_le _⟩ (kI (fun z88 v88 h88 => ?_))
      obtain ⟨rfl, rfl⟩ := h88
      exact j_iret X dX5_of_91 ⟨_, rfl, rfl, ⟨by unfold sOf; rw [cite_f (by unfold isO; omega), Int.toNat_natCast, cite_f (by omega), cite_f (by omega), cite_f (by omega), cite_f (by omega), cite_f (by omega)]; rw [cite_t (by omega)], hR, frM.refl _ _⟩⟩
    refine j_tabOut (tgt := 92) X dX5_of_11 (by omega) (by omega) (by decide) ?_
    refine j_bipush X dX5_of_92 (by decide) ?_
    exact j_iret X dX5_of_94 ⟨_, rfl, rfl, ⟨by unfold sOf; rw [cite_f (by unfold isO; omega), Int.toNat_natCast, cite_f (by omega), cite_f (by omega), cite_f (by omega), cite_f (by omega), cite_f (by omega), cite_f (by omega)]; (try rfl), hR, frM.refl _ _⟩⟩
  · refine j_iconst X dX5_of_8 ?_
    exact j_iret X dX5_of_9 ⟨_, rfl, rfl, ⟨(cite_t (by unfold isO; omega) _ _).symm, hR, frM.refl _ _⟩⟩
def rmX5_rightOwners : Room := { frames := 6, cells := 0, slots := 0, locals := 135 }
set_option maxHeartbeats 4000000 in
set_option maxRecDepth 100000 in
theorem c_X5_rightOwners (l : Launch) (D : va_G) (nH : Nat) (sk : Sk) (v : Mem) (m : Nat) (S : AS) (hM : Md D sk m) (hS : MR (v (m + 1)) S) : CtI l D yX5_rightOwners wsX5_rightOwners rmX5_rightOwners [.ref m] nH sk v (fun z v' => z = (mk (fun i => rt (bn S i) (tx S)) (no S) : Int) ∧ frL v v' m) := by
  refine ct_of (cc := cX5_rightOwners) (maxL := 3) (ret := (some .int)) rfl rfl (Nat.le_of_ble_eq_true rfl) ?_
  intro p_ e_ s_ m_ args_ below_ meth_ c_ X hmn hsz
  have hinX5 : ∀ w ∈ wsX50, w ∈ wsX5_rightOwners := by decide +kernel
  obtain ⟨m0, m1, m2, m3, m4, m5, m6, m7, m8, m9, m10⟩ := id hM
  obtain ⟨hOO, hno8, hno, hT, hNU, hBB⟩ := id hS
  obtain ⟨o1, o2, o3⟩ := id hOO
  refine j_iconst X dX5_rightOwners_0 ?_
  refine j_istore_n X dX5_rightOwners_1 rfl (Nat.le_of_ble_eq_true rfl) ?_
  refine j_iconst X dX5_rightOwners_2 ?_
  refine j_istore_n X dX5_rightOwners_3 rfl (Nat.le_of_ble_eq_true rfl) ?_
  refine j_loop (σ := Nat × Mem) (fun (y_ : Nat × Mem) => match y_ with | (i, u) => i ≤ no S ∧ frL v u m) (fun (y_ : Nat × Mem) => match y_ with | (i, u) => no S - i) (fun (y_ : Nat × Mem) => match y_ with | (i, u) => (u, [some (.ref m), some (.int (I (mk (fun i => rt (bn S i) (tx S)) i : Int))), some (.int (I (i : Int)))])) ?_ (0, v) ⟨Nat.zero_le _, frL.refl _ _⟩
  intro y_ hx ih4
  obtain ⟨i, u⟩ := y_
  dsimp only at hx ih4 ⊢
  obtain ⟨hi, hfu⟩ := hx
  refine j_iload_n X dX5_rightOwners_4 rfl ?_
  refine j_aload_n X dX5_rightOwners_5 rfl ?_
  refine j_getr X dX5_rightOwners_6 (T := TX5) (N := 13) (C := RX5) hinX5 rfl (by assumption) 0 (by decide) (by decide +kernel) rfl ?_
  refine j_iconst X dX5_rightOwners_9 ?_
  refine j_ialN X dX5_rightOwners_10 (by assumption) (1) (by omega) (by omega) (by decide) ?_
  rw [show u (m + 1) 1 = (no S : Int) by rw [hfu _ (by omega)]; exact hno]
  refine j_icmp_ge (tgt := 38) X dX5_rightOwners_11 (by omega) (by decide) (fun c11 => ?_) (fun c11 => ?_)
  · refine j_iload_n X dX5_rightOwners_38 rfl ?_
    exact j_iret X dX5_rightOwners_39 ⟨_, rfl, rfl, ⟨by rw [show i = no S by omega], hfu⟩⟩
  · obtain ⟨hb1, hb2, hb3, hb4, hb5⟩ := hBB i (by omega)
    have hms := mk_succ (fun i => rt (bn S i) (tx S)) i
    refine j_iload_n X dX5_rightOwners_14 rfl ?_
    refine j_aload_n X dX5_rightOwners_15 rfl ?_
    refine j_iload_n X dX5_rightOwners_16 rfl ?_
    refine j_callV (nn := 1) X dX5_rightOwners_17 (c_X5_isRight l D nH sk u m i _ (bn S i) (tx S) hM (by omega) (by omega) (hb1.kept (fun j _ _ => by rw [hfu _ (by omega)])) (hT.kept (fun j _ _ => by rw [hfu _ (by omega)])) hNU) gX5_rightOwners_X5_isRight rfl ⟨rfl, rfl⟩ (by decide +kernel) ⟨Nat.le_of_ble_eq_true rfl, Nat.le_of_ble_eq_true rfl⟩ (by assumption) ⟨rfl, rfl⟩ rfl rfl (Nat.le_of_ble_eq_true rfl) ⟨Nat.zero_le _, Nat.zero_le _⟩ (kI (fun z17 v17 h17 => ?_))
    obtain ⟨hz17a, hz17b, hf17⟩ := h17
    refine j_if_eq (tgt := 29) X dX5_rightOwners_20 (by omega) (by decide) (fun c20 => ?_) (fun c20 => ?_)
    · refine j_iconst X dX5_rightOwners_29 ?_
      try refine j_topr (y := I ((0 : Nat) : Int)) rfl ?_
      refine j_ior X dX5_rightOwners_30 (b_or _ _) ?_
      refine j_istore_n X dX5_rightOwners_31 rfl (Nat.le_of_ble_eq_true rfl) ?_
      refine j_iinc X dX5_rightOwners_32 rfl rfl (Nat.le_of_ble_eq_true rfl) ?_
      refine j_goto (tgt := 4) X dX5_rightOwners_35 (by decide) ?_
      first
      | rw [show mk (fun i => rt (bn S i) (tx S)) i ||| 2 ^ i = mk (fun i => rt (bn S i) (tx S)) (i + 1) by rw [hms, if_pos (hz17b.mp (by omega))]]
      | rw [show mk (fun i => rt (bn S i) (tx S)) i ||| 0 = mk (fun i => rt (bn S i) (tx S)) (i + 1) by rw [hms, if_neg (fun h => by have := hz17b.mpr h; omega), Nat.or_zero]]
      exact ih4 (i + 1, v17) (by (try dsimp only); exact ⟨by omega, hfu.trans hf17⟩) (by (try dsimp only); omega)
    · refine j_iconst X dX5_rightOwners_23 ?_
      refine j_iload_n X dX5_rightOwners_24 rfl ?_
      refine j_ishl X dX5_rightOwners_25 (b_shl (by omega)) ?_
      refine j_goto (tgt := 30) X dX5_rightOwners_26 (by decide) ?_
      try refine j_topr (y := I ((0 : Nat) : Int)) rfl ?_
      refine j_ior X dX5_rightOwners_30 (b_or _ _) ?_
      refine j_istore_n X dX5_rightOwners_31 rfl (Nat.le_of_ble_eq_true rfl) ?_
      refine j_iinc X dX5_rightOwners_32 rfl rfl (Nat.le_of_ble_eq_true rfl) ?_
      refine j_goto (tgt := 4) X dX5_rightOwners_35 (by decide) ?_
      first
      | rw [show mk (fun i => rt (bn S i) (tx S)) i ||| 2 ^ i = mk (fun i => rt (bn S i) (tx S)) (i + 1) by rw [hms, if_pos (hz17b.mp (by omega))]]
      | rw [show mk (fun i => rt (bn S i) (tx S)) i ||| 0 = mk (fun i => rt (bn S i) (tx S)) (i + 1) by rw [hms, if_neg (fun h => by have := hz17b.mpr h; omega), Nat.or_zero]]
      exact ih4 (i + 1, v17) (by (try dsimp only); exact ⟨by omega, hfu.trans hf17⟩) (by (try dsimp only); omega)
def rmX5_count : Room := { frames := 7, cells := 0, slots := 0, locals := 157 }
set_option maxHeartbeats 4000000 in
set_option maxRecDepth 100000 in
theorem c_X5_count (l : Launch) (D : va_G) (nH : Nat) (sk : Sk) (v : Mem) (m : Nat) (w : Int) (G : GS) (hM : Md D sk m) (hR : MXR v m G)(hw : -2147483648 ≤ w ∧ w ≤ 2147483647) : CtI l D yX5_count wsX5_count rmX5_count [.ref m, .int (I w)] nH sk v (fun z v' => z = sCount G w ∧ MXR v' m G ∧ frM v v' m) := by
  refine ct_of (cc := cX5_count) (maxL := 2) (ret := (some .int)) rfl rfl (Nat.le_of_ble_eq_true rfl) ?_
  intro p_ e_ s_ m_ args_ below_ meth_ c_ X hmn hsz
  have hinX5 : ∀ w ∈ wsX50, w ∈ wsX5_count := by decide +kernel
  obtain ⟨m0, m1, m2, m3, m4, m5, m6, m7, m8, m9, m10⟩ := id hM
  obtain ⟨hR1, hR2, hR3, hR4⟩ := id hR
  obtain ⟨hOO, hno8, hno, hT, hNU, hBB⟩ := id hR1
  obtain ⟨o1, o2, o3⟩ := id hOO
  obtain ⟨hp0, hp1, hp2, hp3⟩ := id hR4
  refine j_iload_n X dX5_count_0 rfl ?_
  by_cases cs1_0 : w = 0
  · refine j_tabIn (tgt := 52) (off := 51) X dX5_count_1 (by omega) (by omega) (by rw [cs1_0]; rfl) (by decide) ?_
    refine j_aload_n X dX5_count_52 rfl ?_
    refine j_getr X dX5_count_53 (T := TX5) (N := 13) (C := RX5) hinX5 rfl (by assumption) 0 (by decide) (by decide +kernel) rfl ?_
    refine j_iconst X dX5_count_56 ?_
    refine j_ialN X dX5_count_57 (by assumption) (0) (by omega) (by omega) (by decide) ?_
    exact j_iret X dX5_count_58 ⟨_, rfl, rfl, ⟨by unfold sCount; rw [cite_t (by omega)]; exact o1, hR, frM.refl _ _⟩⟩
  by_cases cs1_1 : w = 1
  · refine j_tabIn (tgt := 59) (off := 58) X dX5_count_1 (by omega) (by omega) (by rw [cs1_1]; rfl) (by decide) ?_
    refine j_aload_n X dX5_count_59 rfl ?_
    refine j_getr X dX5_count_60 (T := TX5) (N := 13) (C := RX5) hinX5 rfl (by assumption) 0 (by decide) (by decide +kernel) rfl ?_
    refine j_iconst X dX5_count_63 ?_
    refine j_ialN X dX5_count_64 (by assumption) (1) (by omega) (by omega) (by decide) ?_
    exact j_iret X dX5_count_65 ⟨_, rfl, rfl, ⟨by unfold sCount; rw [cite_f (by omega), cite_t (by omega)]; exact hno, hR, frM.refl _ _⟩⟩
  by_cases cs1_2 : w = 2
  · refine j_tabIn (tgt := 66) (off := 65) X dX5_count_1 (by omega) (by omega) (by rw [cs1_2]; rfl) (by decide) ?_
    refine j_aload_n X dX5_count_66 rfl ?_
    refine j_bipush X dX5_count_67 (by decide) ?_
    refine j_iconst X dX5_count_69 ?_
    refine j_callV (nn := 2) X dX5_count_70 (c_X5_len l D nH sk v m 8 _ (tx G.1) hM (by omega) (by omega) hT) gX5_count_X5_part rfl ⟨rfl, rfl⟩ (by decide +kernel) ⟨Nat.le_of_ble_eq_true rfl, Nat.le_of_ble_eq_true rfl⟩ (by assumption) ⟨rfl, rfl⟩ rfl rfl (Nat.le_of_ble_eq_true rfl) ⟨Nat.zero_le _, Nat.zero_le _⟩ (kI (fun z70 v70 h70 => ?_))
    obtain ⟨rfl, rfl⟩ := h70
    exact j_iret X dX5_count_73 ⟨_, rfl, rfl, ⟨by unfold sCount; rw [cite_f (by omega), cite_f (by omega), cite_t (by omega)]; (try rfl), hR, frM.refl _ _⟩⟩
  by_cases cs1_3 : w = 3
  · refine j_tabIn (tgt := 74) (off := 73) X dX5_count_1 (by omega) (by omega) (by rw [cs1_3]; rfl) (by decide) ?_
    refine j_aload_n X dX5_count_74 rfl ?_
    refine j_bipush X dX5_count_75 (by decide) ?_
    refine j_callV (nn := 1) X dX5_count_77 (c_X5_checkOf l D nH sk v m 8 _ (tx G.1) hM (by omega) (by omega) hT) gX5_count_X5_checkOf rfl ⟨rfl, rfl⟩ (by decide +kernel) ⟨Nat.le_of_ble_eq_true rfl, Nat.le_of_ble_eq_true rfl⟩ (by assumption) ⟨rfl, rfl⟩ rfl rfl (Nat.le_of_ble_eq_true rfl) ⟨Nat.zero_le _, Nat.zero_le _⟩ (kI (fun z77 v77 h77 => ?_))
    obtain ⟨rfl, rfl⟩ := h77
    exact j_iret X dX5_count_80 ⟨_, rfl, rfl, ⟨by unfold sCount; rw [cite_f (by omega), cite_f (by omega), cite_f (by omega), cite_t (by omega)]; (try rfl), hR, frM.refl _ _⟩⟩
  by_cases cs1_4 : w = 4
  · refine j_tabIn (tgt := 81) (off := 80) X dX5_count_1 (by omega) (by omega) (by rw [cs1_4]; rfl) (by decide) ?_
    refine j_aload_n X dX5_count_81 rfl ?_
    refine j_callV (nn := 0) X dX5_count_82 (c_X5_rightOwners l D nH sk v m G.1 hM hR1) gX5_count_X5_rightOwners rfl ⟨rfl, rfl⟩ (by decide +kernel) ⟨Nat.le_of_ble_eq_true rfl, Nat.le_of_ble_eq_true rfl⟩ (by assumption) ⟨rfl, rfl⟩ rfl rfl (Nat.le_of_ble_eq_true rfl) ⟨Nat.zero_le _, Nat.zero_le _⟩ (kI (fun z82 v82 h82 => ?_))
    obtain ⟨rfl, hfl⟩ := h82
    have hfw := hfl.w
    exact j_iret X dX5_count_85 ⟨_, rfl, rfl, ⟨by unfold sCount; rw [cite_f (by omega), cite_f (by omega), cite_f (by omega), cite_f (by omega), cite_t (by omega)]; (try rfl), hR.w hfw, hfw.2.2.2⟩⟩
  by_cases cs1_5 : w = 5
  · refine j_tabIn (tgt := 86) (off := 85) X dX5_count_1 (by omega) (by omega) (by rw [cs1_5]; rfl) (by decide) ?_
    refine j_aload_n X dX5_count_86 rfl ?_
    refine j_iconst X dX5_count_87 ?_
    refine j_callV (nn := 1) X dX5_count_88 (c_X5_inText l D nH sk v m 0 _ (tx G.1) hM (by omega) (by omega) hT) gX5_count_X5_inText rfl ⟨rfl, rfl⟩ (by decide +kernel) ⟨Nat.le_of_ble_eq_true rfl, Nat.le_of_ble_eq_true rfl⟩ (by assumption) ⟨rfl, rfl⟩ rfl rfl (Nat.le_of_ble_eq_true rfl) ⟨Nat.zero_le _, Nat.zero_le _⟩ (kI (fun z88 v88 h88 => ?_))
    obtain ⟨rfl, rfl⟩ := h88
    exact j_iret X dX5_count_91 ⟨_, rfl, rfl, ⟨by unfold sCount; rw [cite_f (by omega), cite_f (by omega), cite_f (by omega), cite_f (by omega), cite_f (by omega), cite_t (by omega)]; (try rfl), hR, frM.refl _ _⟩⟩
  by_cases cs1_6 : w = 6
  · refine j_tabIn (tgt := 92) (off := 91) X dX5_count_1 (by omega) (by omega) (by rw [cs1_6]; rfl) (by decide) ?_
    refine j_aload_n X dX5_count_92 rfl ?_
    refine j_callV (nn := 0) X dX5_count_93 (c_X5_mostInText l D nH sk v m (np G.1) (tx G.1) hM o1 (by omega) hT) gX5_count_X5_mostInText rfl ⟨rfl, rfl⟩ (by decide +kernel) ⟨Nat.le_of_ble_eq_true rfl, Nat.le_of_ble_eq_true rfl⟩ (by assumption) ⟨rfl, rfl⟩ rfl rfl (Nat.le_of_ble_eq_true rfl) ⟨Nat.zero_le _, Nat.zero_le _⟩ (kI (fun z93 v93 h93 => ?_))
    obtain ⟨rfl, rfl⟩ := h93
    exact j_iret X dX5_count_96 ⟨_, rfl, rfl, ⟨by unfold sCount; rw [cite_f (by omega), cite_f (by omega), cite_f (by omega), cite_f (by omega), cite_f (by omega), cite_f (by omega), cite_t (by omega)]; (try rfl), hR, frM.refl _ _⟩⟩
  by_cases cs1_7 : w = 7
  · refine j_tabIn (tgt := 97) (off := 96) X dX5_count_1 (by omega) (by omega) (by rw [cs1_7]; rfl) (by decide) ?_
    refine j_aload_n X dX5_count_97 rfl ?_
    refine j_geti X dX5_count_98 (T := TX5) (N := 13) (C := RX5) hinX5 rfl (by assumption) 7 (by decide) (by decide +kernel) rfl ?_
    exact j_iret X dX5_count_101 ⟨_, rfl, rfl, ⟨by unfold sCount; rw [cite_f (by omega), cite_f (by omega), cite_f (by omega), cite_f (by omega), cite_f (by omega), cite_f (by omega), cite_f (by omega), cite_t (by omega)]; exact hp0, hR, frM.refl _ _⟩⟩
  by_cases cs1_8 : w = 8
  · refine j_tabIn (tgt := 102) (off := 101) X dX5_count_1 (by omega) (by omega) (by rw [cs1_8]; rfl) (by decide) ?_
    refine j_aload_n X dX5_count_102 rfl ?_
    refine j_geti X dX5_count_103 (T := TX5) (N := 13) (C := RX5) hinX5 rfl (by assumption) 3 (by decide) (by decide +kernel) rfl ?_
    exact j_iret X dX5_count_106 ⟨_, rfl, rfl, ⟨by unfold sCount; rw [cite_f (by omega), cite_f (by omega), cite_f (by omega), cite_f (by omega), cite_f (by omega), cite_f (by omega), cite_f (by omega), cite_f (by omega), cite_t (by omega)]; exact hR2.1, hR, frM.refl _ _⟩⟩
  refine j_tabOut (tgt := 107) X dX5_count_1 (by omega) (by omega) (by decide) ?_
  refine j_bipush X dX5_count_107 (by decide) ?_
  exact j_iret X dX5_count_109 ⟨_, rfl, rfl, ⟨by unfold sCount; rw [cite_f (by omega), cite_f (by omega), cite_f (by omega), cite_f (by omega), cite_f (by omega), cite_f (by omega), cite_f (by omega), cite_f (by omega), cite_f (by omega)]; (try rfl), hR, frM.refl _ _⟩⟩
