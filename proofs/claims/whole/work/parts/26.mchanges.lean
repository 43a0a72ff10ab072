theorem LR.set {v w : Mem} {m b c k : Nat} {L : List Nat} (h : LR (v (m + 1)) b L) (g : ∀ j, j ≠ 146 + 63 * c + k → w (m + 1) j = v (m + 1) j) (hk : k = 1 ∨ k = 2) : LR (w (m + 1)) b L := by
  obtain ⟨h1, h2, h3, h4⟩ := h
  exact ⟨by rw [g _ (by omega)]; exact h1, h2, fun j hj => by rw [g _ (by omega)]; exact h3 j hj, h4⟩
theorem MR.upd {r r' : Nat → Int} {S : AS} {i w k : Nat} {L : List Nat} (h : MR r S) (hi : i < no S) (hL : LR r' i L) (hw : r' (147 + 63 * i) = (w : Int)) (hk : r' (148 + 63 * i) = (k : Int)) (hw2 : w < 65536) (hk2 : k < 65536) (hr : ∀ j, j < 146 + 63 * i ∨ 209 + 63 * i ≤ j → r' j = r j) : MR r' (setW (setB S i L) i w k) := by
  obtain ⟨h1, h2, h3, h4, h5, h6⟩ := h
  refine ⟨h1.kept (fun j hj _ => hr j (by omega)), h2, by rw [hr _ (by omega)]; exact h3, h4.kept (fun j a b => hr j (by omega)), h5, fun j hj => ?_⟩
  show LR r' j (fset (bn S) i L j) ∧ r' (147 + 63 * j) = ((fset (wt S) i w j : Nat) : Int) ∧ r' (148 + 63 * j) = ((fset (lo_ S) i k j : Nat) : Int) ∧ fset (wt S) i w j < 65536 ∧ fset (lo_ S) i k j < 65536
  by_cases q : j = i
  · subst q
    rw [fset_s, fset_s, fset_s]
    exact ⟨hL, hw, hk, hw2, hk2⟩
  · rw [fset_n _ _ q, fset_n _ _ q, fset_n _ _ q]
    obtain ⟨g1, g2, g3, g4, g5⟩ := h6 j hj
    exact ⟨g1.kept (fun x a b => hr x (by omega)), by rw [hr _ (by omega)]; exact g2, by rw [hr _ (by omega)]; exact g3, g4, g5⟩
theorem stp_done {S : AS} {i q : Nat} {c : Int} : (od S q).foldl (stp c q) (bn S i) = doneL S i q c := by
  unfold stp doneL lessP careP
  split <;> rfl
theorem stp_1 {O L : List Nat} {q : Nat} : O.foldl (stp 1 q) L = careP O q L := rfl
def rmX5_done : Room := { frames := 4, cells := 0, slots := 0, locals := 96 }
set_option maxHeartbeats 4000000 in
set_option maxRecDepth 100000 in
theorem c_X5_done (l : Launch) (D : va_G) (nH : Nat) (sk : Sk) (v : Mem) (m : Nat) (o p c : Int) (G : GS) (hM : Md D sk m) (hR : MXR v m G)(ho : -2147483648 ≤ o ∧ o ≤ 2147483647)(hp : -2147483648 ≤ p ∧ p ≤ 2147483647) (hc : c = 0 ∨ c = 1) : CtI l D yX5_done wsX5_done rmX5_done [.ref m, .int (I o), .int (I p), .int (I c)] nH sk v (fun z v' => z = (sDone G o p c).1 ∧ MXR v' m (sDone G o p c).2 ∧ frM v v' m) := by
  refine ct_of (cc := cX5_done) (maxL := 4) (ret := (some .int)) rfl rfl (Nat.le_of_ble_eq_true rfl) ?_
  intro p_ e_ s_ m_ args_ below_ meth_ c_ X hmn hsz
  obtain ⟨m0, m1, m2, m3, m4, m5, m6, m7, m8, m9, m10⟩ := id hM
  obtain ⟨hR1, hR2, hR3, hR4⟩ := id hR
  obtain ⟨hOO, hno8, hno, hT, hNU, hBB⟩ := id hR1
  obtain ⟨o1, o2, o3⟩ := id hOO
  obtain ⟨hp0, hp1, hp2, hp3⟩ := id hR4
  refine j_aload_n X dX5_done_0 rfl ?_
  refine j_iload_n X dX5_done_1 rfl ?_
  refine j_callV (nn := 1) X dX5_done_2 (c_X5_isOwner l D nH sk v m o (no G.1) hM ho hno (by omega)) gX5_done_X5_isOwner rfl ⟨rfl, rfl⟩ (by decide +kernel) ⟨Nat.le_of_ble_eq_true rfl, Nat.le_of_ble_eq_true rfl⟩ (by assumption) ⟨rfl, rfl⟩ rfl rfl (Nat.le_of_ble_eq_true rfl) ⟨Nat.zero_le _, Nat.zero_le _⟩ (kI (fun z2 v2 h2 => ?_))
  obtain ⟨hz2a, hz2b, rfl⟩ := h2
  refine j_if_eq (tgt := 16) X dX5_done_5 (by omega) (by decide) (fun c5 => ?_) (fun c5 => ?_)
  · refine j_iconst X dX5_done_16 ?_
    have hret : (-1 : Int) = (sDone G o p c).1 ∧ MXR v m (sDone G o p c).2 ∧ frM v v m := by
      rw [show sDone G o p c = (-1, G) from cite_t (by unfold isO isP; omega) _ _]
      exact ⟨rfl, hR, frM.refl _ _⟩
    exact j_iret X dX5_done_17 ⟨_, rfl, rfl, hret⟩
  · refine j_aload_n X dX5_done_8 rfl ?_
    refine j_iload_n X dX5_done_9 rfl ?_
    refine j_callV (nn := 1) X dX5_done_10 (c_X5_isParcel l D nH sk v m p (np G.1) hM hp o1 (by omega)) gX5_done_X5_isParcel rfl ⟨rfl, rfl⟩ (by decide +kernel) ⟨Nat.le_of_ble_eq_true rfl, Nat.le_of_ble_eq_true rfl⟩ (by assumption) ⟨rfl, rfl⟩ rfl rfl (Nat.le_of_ble_eq_true rfl) ⟨Nat.zero_le _, Nat.zero_le _⟩ (kI (fun z10 v10 h10 => ?_))
    obtain ⟨hz10a, hz10b, rfl⟩ := h10
    refine j_if_ne (tgt := 18) X dX5_done_13 (by omega) (by decide) (fun c13 => ?_) (fun c13 => ?_)
    · have hqi : 0 ≤ o ∧ o < (no G.1 : Int) := by omega
      obtain ⟨i, rfl⟩ : ∃ i : Nat, o = (i : Int) := ⟨o.toNat, by omega⟩
      have hi : i < no G.1 := by omega
      obtain ⟨hb1, hb2, hb3, hb4, hb5⟩ := hBB i hi
      have hqq : 0 ≤ p ∧ p < (np G.1 : Int) := by omega
      obtain ⟨q, rfl⟩ : ∃ q : Nat, p = (q : Int) := ⟨p.toNat, by omega⟩
      obtain ⟨hl1, hl2, hl3, hl4⟩ := o3 q (by omega)
      have hq16 : q < 16 := by omega
      refine j_aload_n X dX5_done_18 rfl ?_
      refine j_iload_n X dX5_done_19 rfl ?_
      refine j_iload_n X dX5_done_20 rfl ?_
      refine j_callV (nn := 2) X dX5_done_21 (c_X5_waits l D nH sk v m i q (wt G.1 i) _ _ hM (by omega) (by omega) (by omega) (by omega) hb2 hb4) gX5_done_X5_waits rfl ⟨rfl, rfl⟩ (by decide +kernel) ⟨Nat.le_of_ble_eq_true rfl, Nat.le_of_ble_eq_true rfl⟩ (by assumption) ⟨rfl, rfl⟩ rfl rfl (Nat.le_of_ble_eq_true rfl) ⟨Nat.zero_le _, Nat.zero_le _⟩ (kI (fun z21 v21 h21 => ?_))
      obtain ⟨hz21a, hz21b, rfl⟩ := h21
      refine j_if_ne (tgt := 30) X dX5_done_24 (by omega) (by decide) (fun c24 => ?_) (fun c24 => ?_)
      · refine j_aload_n X dX5_done_30 rfl ?_
        refine j_callV (nn := 0) X dX5_done_31 (c_X5_record l D nH sk v m G.2.1 G.1 hM hR2 hR1) gX5_done_X5_record rfl ⟨rfl, rfl⟩ (by decide +kernel) ⟨Nat.le_of_ble_eq_true rfl, Nat.le_of_ble_eq_true rfl⟩ (by assumption) ⟨rfl, rfl⟩ rfl rfl (Nat.le_of_ble_eq_true rfl) ⟨Nat.zero_le _, Nat.zero_le _⟩ (kV (fun w1 h31 => ?_))
        obtain ⟨hH1, ra, rb⟩ := h31
        have e1 : w1 (m + 1) = v (m + 1) := rb (m + 1) (by omega) (by omega)
        have hS1 : MR (w1 (m + 1)) G.1 := by rw [e1]; exact hR1
        refine j_aload_n X dX5_done_34 rfl ?_
        refine j_iload_n X dX5_done_35 rfl ?_
        refine j_iload_n X dX5_done_36 rfl ?_
        refine j_iload_n X dX5_done_37 rfl ?_
        refine j_callV (nn := 3) X dX5_done_38 (c_X5_doParcel l D nH sk w1 m i q _ _ c (bn G.1 i) (od G.1 q) hM (by omega) (by omega) (by rw [e1]; exact hb1) (by omega) (by omega) hc (by rw [e1]; exact hl1) hl2 hl3 (by rw [e1]; exact hl4)) gX5_done_X5_doParcel rfl ⟨rfl, rfl⟩ (by decide +kernel) ⟨Nat.le_of_ble_eq_true rfl, Nat.le_of_ble_eq_true rfl⟩ (by assumption) ⟨rfl, rfl⟩ rfl rfl (Nat.le_of_ble_eq_true rfl) ⟨Nat.zero_le _, Nat.zero_le _⟩ (kV (fun v38 h38 => ?_))
        obtain ⟨hL38, hF38⟩ := h38
        rw [stp_done] at hL38
        refine j_aload_n X dX5_done_41 rfl ?_
        refine j_iload_n X dX5_done_42 rfl ?_
        refine j_iconst X dX5_done_43 ?_
        refine j_aload_n X dX5_done_44 rfl ?_
        refine j_iload_n X dX5_done_45 rfl ?_
        refine j_iconst X dX5_done_46 ?_
        refine j_callV (nn := 2) X dX5_done_47 (c_X5_part l D nH sk v38 m i (1) _ _ hM (by omega) (by omega) (by omega) (by omega)) gX5_done_X5_part rfl ⟨rfl, rfl⟩ (by decide +kernel) ⟨Nat.le_of_ble_eq_true rfl, Nat.le_of_ble_eq_true rfl⟩ (by assumption) ⟨rfl, rfl⟩ rfl rfl (Nat.le_of_ble_eq_true rfl) ⟨Nat.zero_le _, Nat.zero_le _⟩ (kI (fun z47 v47 h47 => ?_))
        obtain ⟨rfl, rfl⟩ := h47
        rw [show v38 (m + 1) (146 + 63 * i + (1)) = (wt G.1 i : Int) by rw [show 146 + 63 * i + 1 = 147 + 63 * i by omega, hF38.2 _ (by omega) (by omega), e1]; exact hb2]
        refine j_iconst X dX5_done_50 ?_
        refine j_iload_n X dX5_done_51 rfl ?_
        refine j_ishl X dX5_done_52 (b_shl (by omega)) ?_
        refine j_iconst X dX5_done_53 ?_
        refine j_ixor X dX5_done_54 (b_not (by omega)) ?_
        refine j_iand X dX5_done_55 (b_clr hb4 (by omega)) ?_
        refine j_callV (nn := 3) X dX5_done_56 (c_X5_setPart l D nH sk v38 m i (1) _ _ _ hM (by omega) (by omega) (by omega) (by omega)) gX5_done_X5_setPart rfl ⟨rfl, rfl⟩ (by decide +kernel) ⟨Nat.le_of_ble_eq_true rfl, Nat.le_of_ble_eq_true rfl⟩ (by assumption) ⟨rfl, rfl⟩ rfl rfl (Nat.le_of_ble_eq_true rfl) ⟨Nat.zero_le _, Nat.zero_le _⟩ (kV (fun v56 h56 => ?_))
        obtain ⟨f56, g56, n56⟩ := h56
        have hL56 := hL38.set g56 (Or.inl rfl)
        refine j_aload_n X dX5_done_59 rfl ?_
        refine j_iload_n X dX5_done_60 rfl ?_
        refine j_iconst X dX5_done_61 ?_
        refine j_callV (nn := 2) X dX5_done_62 (c_X5_len l D nH sk v56 m i _ (doneL G.1 i q c) hM (by omega) (by omega) hL56) gX5_done_X5_part rfl ⟨rfl, rfl⟩ (by decide +kernel) ⟨Nat.le_of_ble_eq_true rfl, Nat.le_of_ble_eq_true rfl⟩ (by assumption) ⟨rfl, rfl⟩ rfl rfl (Nat.le_of_ble_eq_true rfl) ⟨Nat.zero_le _, Nat.zero_le _⟩ (kI (fun z62 v62 h62 => ?_))
        obtain ⟨rfl, rfl⟩ := h62
        have hret : ((doneL G.1 i q c).length : Int) = (sDone G (i : Int) (q : Int) c).1 ∧ MXR v56 m (sDone G (i : Int) (q : Int) c).2 ∧ frM v v56 m := by
          have hwt := hz21b.mp (by omega)
          rw [show sDone G (i : Int) (q : Int) c = (((doneL G.1 i q c).length : Int), recG G (setW (setB G.1 i (doneL G.1 i q c)) i (clr (wt G.1 i) q) (lo_ G.1 i))) from (cite_f (by unfold isO isP; omega) _ _).trans (cite_f (by rw [Int.toNat_natCast, Int.toNat_natCast]; exact fun h => h hwt) _ _)]
          have hh := hR.rec (v1 := w1) (v2 := v56) hH1 ra rb (fun a ha => by rw [n56 a ha, hF38.1 a ha]) (hS1.upd hi hL56 (by rw [show 147 + 63 * i = 146 + 63 * i + 1 by omega]; exact f56) (by rw [g56 _ (by omega), hF38.2 _ (by omega) (by omega), e1]; exact hb3) (clr_lt hb4 hq16) hb5 (fun j hj => by rw [g56 _ (by omega), hF38.2 _ (by omega) (by omega)]))
          exact ⟨rfl, hh.1, hh.2⟩
        exact j_iret X dX5_done_65 ⟨_, rfl, rfl, hret⟩
      · refine j_bipush X dX5_done_27 (by decide) ?_
        have hret : (-5 : Int) = (sDone G (i : Int) (q : Int) c).1 ∧ MXR v m (sDone G (i : Int) (q : Int) c).2 ∧ frM v v m := by
          rw [show sDone G (i : Int) (q : Int) c = (-5, G) from (cite_f (by unfold isO isP; omega) _ _).trans (cite_t (by rw [Int.toNat_natCast, Int.toNat_natCast]; exact fun h => by have := hz21b.mpr h; omega) _ _)]
          exact ⟨rfl, hR, frM.refl _ _⟩
        exact j_iret X dX5_done_29 ⟨_, rfl, rfl, hret⟩
    · refine j_iconst X dX5_done_16 ?_
      have hret : (-1 : Int) = (sDone G o p c).1 ∧ MXR v m (sDone G o p c).2 ∧ frM v v m := by
        rw [show sDone G o p c = (-1, G) from cite_t (by unfold isO isP; omega) _ _]
        exact ⟨rfl, hR, frM.refl _ _⟩
      exact j_iret X dX5_done_17 ⟨_, rfl, rfl, hret⟩
def rmX5_doAll : Room := { frames := 5, cells := 0, slots := 0, locals := 119 }
set_option maxHeartbeats 4000000 in
set_option maxRecDepth 100000 in
theorem c_X5_doAll (l : Launch) (D : va_G) (nH : Nat) (sk : Sk) (v : Mem) (m : Nat) (o : Int) (G : GS) (hM : Md D sk m) (hR : MXR v m G)(ho : -2147483648 ≤ o ∧ o ≤ 2147483647) : CtI l D yX5_doAll wsX5_doAll rmX5_doAll [.ref m, .int (I o)] nH sk v (fun z v' => z = (sDoAll G o).1 ∧ MXR v' m (sDoAll G o).2 ∧ frM v v' m) := by
  refine ct_of (cc := cX5_doAll) (maxL := 3) (ret := (some .int)) rfl rfl (Nat.le_of_ble_eq_true rfl) ?_
  intro p_ e_ s_ m_ args_ below_ meth_ c_ X hmn hsz
  obtain ⟨m0, m1, m2, m3, m4, m5, m6, m7, m8, m9, m10⟩ := id hM
  obtain ⟨hR1, hR2, hR3, hR4⟩ := id hR
  obtain ⟨hOO, hno8, hno, hT, hNU, hBB⟩ := id hR1
  obtain ⟨o1, o2, o3⟩ := id hOO
  obtain ⟨hp0, hp1, hp2, hp3⟩ := id hR4
  refine j_aload_n X dX5_doAll_0 rfl ?_
  refine j_iload_n X dX5_doAll_1 rfl ?_
  refine j_callV (nn := 1) X dX5_doAll_2 (c_X5_isOwner l D nH sk v m o (no G.1) hM ho hno (by omega)) gX5_doAll_X5_isOwner rfl ⟨rfl, rfl⟩ (by decide +kernel) ⟨Nat.le_of_ble_eq_true rfl, Nat.le_of_ble_eq_true rfl⟩ (by assumption) ⟨rfl, rfl⟩ rfl rfl (Nat.le_of_ble_eq_true rfl) ⟨Nat.zero_le _, Nat.zero_le _⟩ (kI (fun z2 v2 h2 => ?_))
  obtain ⟨hz2a, hz2b, rfl⟩ := h2
  refine j_if_ne (tgt := 10) X dX5_doAll_5 (by omega) (by decide) (fun c5 => ?_) (fun c5 => ?_)
  · have hqi : 0 ≤ o ∧ o < (no G.1 : Int) := by omega
    obtain ⟨i, rfl⟩ : ∃ i : Nat, o = (i : Int) := ⟨o.toNat, by omega⟩
    have hi : i < no G.1 := by omega
    obtain ⟨hb1, hb2, hb3, hb4, hb5⟩ := hBB i hi
    refine j_aload_n X dX5_doAll_10 rfl ?_
    refine j_callV (nn := 0) X dX5_doAll_11 (c_X5_record l D nH sk v m G.2.1 G.1 hM hR2 hR1) gX5_doAll_X5_record rfl ⟨rfl, rfl⟩ (by decide +kernel) ⟨Nat.le_of_ble_eq_true rfl, Nat.le_of_ble_eq_true rfl⟩ (by assumption) ⟨rfl, rfl⟩ rfl rfl (Nat.le_of_ble_eq_true rfl) ⟨Nat.zero_le _, Nat.zero_le _⟩ (kV (fun w1 h11 => ?_))
    obtain ⟨hH1, ra, rb⟩ := h11
    have e1 : w1 (m + 1) = v (m + 1) := rb (m + 1) (by omega) (by omega)
    have hS1 : MR (w1 (m + 1)) G.1 := by rw [e1]; exact hR1
    refine j_aload_n X dX5_doAll_14 rfl ?_
    refine j_iload_n X dX5_doAll_15 rfl ?_
    refine j_iconst X dX5_doAll_16 ?_
    refine j_callV (nn := 2) X dX5_doAll_17 (c_X5_part l D nH sk w1 m i (1) _ _ hM (by omega) (by omega) (by omega) (by omega)) gX5_doAll_X5_part rfl ⟨rfl, rfl⟩ (by decide +kernel) ⟨Nat.le_of_ble_eq_true rfl, Nat.le_of_ble_eq_true rfl⟩ (by assumption) ⟨rfl, rfl⟩ rfl rfl (Nat.le_of_ble_eq_true rfl) ⟨Nat.zero_le _, Nat.zero_le _⟩ (kI (fun z17 v17 h17 => ?_))
    obtain ⟨rfl, rfl⟩ := h17
    rw [show w1 (m + 1) (146 + 63 * i + (1)) = (wt G.1 i : Int) by rw [show 146 + 63 * i + 1 = 147 + 63 * i by omega, e1]; exact hb2]
    refine j_istore_n X dX5_doAll_20 rfl (Nat.le_of_ble_eq_true rfl) ?_
    refine j_aload_n X dX5_doAll_21 rfl ?_
    refine j_iload_n X dX5_doAll_22 rfl ?_
    refine j_iload_n X dX5_doAll_23 rfl ?_
    refine j_callV (nn := 2) X dX5_doAll_24 (c_X5_doSet l D nH sk w1 m i (wt G.1 i) _ (bn G.1 i) G.1 hM (by omega) (by omega) (by rw [e1]; exact hb1) hS1.1 (by omega)) gX5_doAll_X5_doSet rfl ⟨rfl, rfl⟩ (by decide +kernel) ⟨Nat.le_of_ble_eq_true rfl, Nat.le_of_ble_eq_true rfl⟩ (by assumption) ⟨rfl, rfl⟩ rfl rfl (Nat.le_of_ble_eq_true rfl) ⟨Nat.zero_le _, Nat.zero_le _⟩ (kV (fun v24 h24 => ?_))
    obtain ⟨hL24, hF24⟩ := h24
    refine j_aload_n X dX5_doAll_27 rfl ?_
    refine j_iload_n X dX5_doAll_28 rfl ?_
    refine j_iconst X dX5_doAll_29 ?_
    refine j_iconst X dX5_doAll_30 ?_
    refine j_callV (nn := 3) X dX5_doAll_31 (c_X5_setPart l D nH sk v24 m i (1) _ _ _ hM (by omega) (by omega) (by omega) (by omega)) gX5_doAll_X5_setPart rfl ⟨rfl, rfl⟩ (by decide +kernel) ⟨Nat.le_of_ble_eq_true rfl, Nat.le_of_ble_eq_true rfl⟩ (by assumption) ⟨rfl, rfl⟩ rfl rfl (Nat.le_of_ble_eq_true rfl) ⟨Nat.zero_le _, Nat.zero_le _⟩ (kV (fun v31 h31 => ?_))
    obtain ⟨f31, g31, n31⟩ := h31
    have hL31 := hL24.set g31 (Or.inl rfl)
    refine j_iload_n X dX5_doAll_34 rfl ?_
    refine j_callS (nn := 1) X dX5_doAll_35 (c_X5_bits l D nH sk v31 (wt G.1 i) hb4) gX5_doAll_X5_bits rfl ⟨rfl, rfl⟩ (by decide +kernel) ⟨Nat.le_of_ble_eq_true rfl, Nat.le_of_ble_eq_true rfl⟩ rfl rfl (Nat.le_of_ble_eq_true rfl) ⟨Nat.zero_le _, Nat.zero_le _⟩ (kI (fun z35 v35 h35 => ?_))
    obtain ⟨rfl, rfl⟩ := h35
    have hret : (pop (wt G.1 i) : Int) = (sDoAll G (i : Int)).1 ∧ MXR v31 m (sDoAll G (i : Int)).2 ∧ frM v v31 m := by
      rw [show sDoAll G (i : Int) = ((pop (wt G.1 i) : Int), recG G (setW (setB G.1 i (careU (od G.1) (wt G.1 i) (bn G.1 i) (np G.1))) i 0 (lo_ G.1 i))) from cite_f (by unfold isO; omega) _ _]
      have hh := hR.rec (v1 := w1) (v2 := v31) hH1 ra rb (fun a ha => by rw [n31 a ha, hF24.1 a ha]) (hS1.upd (k := lo_ G.1 i) (w := 0) hi hL31 (by rw [show 147 + 63 * i = 146 + 63 * i + 1 by omega]; exact f31) (by rw [g31 _ (by omega), hF24.2 _ (by omega) (by omega), e1]; exact hb3) (by omega) hb5 (fun j hj => by rw [g31 _ (by omega), hF24.2 _ (by omega) (by omega)]))
      exact ⟨rfl, hh.1, hh.2⟩
    exact j_iret X dX5_doAll_38 ⟨_, rfl, rfl, hret⟩
  · refine j_iconst X dX5_doAll_8 ?_
    have hret : (-1 : Int) = (sDoAll G o).1 ∧ MXR v m (sDoAll G o).2 ∧ frM v v m := by
      rw [show sDoAll G o = (-1, G) from cite_t (by unfold isO; omega) _ _]
      exact ⟨rfl, hR, frM.refl _ _⟩
    exact j_iret X dX5_doAll_9 ⟨_, rfl, rfl, hret⟩
def rmX5_lose : Room := { frames := 2, cells := 0, slots := 0, locals := 45 }
set_option maxHeartbeats 4000000 in
set_option maxRecDepth 100000 in
theorem c_X5_lose (l : Launch) (D : va_G) (nH : Nat) (sk : Sk) (v : Mem) (m : Nat) (o p : Int) (G : GS) (hM : Md D sk m) (hR : MXR v m G)(ho : -2147483648 ≤ o ∧ o ≤ 2147483647)(hp : -2147483648 ≤ p ∧ p ≤ 2147483647) : CtI l D yX5_lose wsX5_lose rmX5_lose [.ref m, .int (I o), .int (I p)] nH sk v (fun z v' => z = (sLose G o p).1 ∧ MXR v' m (sLose G o p).2 ∧ frM v v' m) := by
  refine ct_of (cc := cX5_lose) (maxL := 3) (ret := (some .int)) rfl rfl (Nat.le_of_ble_eq_true rfl) ?_
  intro p_ e_ s_ m_ args_ below_ meth_ c_ X hmn hsz
  obtain ⟨m0, m1, m2, m3, m4, m5, m6, m7, m8, m9, m10⟩ := id hM
  obtain ⟨hR1, hR2, hR3, hR4⟩ := id hR
  obtain ⟨hOO, hno8, hno, hT, hNU, hBB⟩ := id hR1
  obtain ⟨o1, o2, o3⟩ := id hOO
  obtain ⟨hp0, hp1, hp2, hp3⟩ := id hR4
  refine j_aload_n X dX5_lose_0 rfl ?_
  refine j_iload_n X dX5_lose_1 rfl ?_
  refine j_callV (nn := 1) X dX5_lose_2 (c_X5_isOwner l D nH sk v m o (no G.1) hM ho hno (by omega)) gX5_lose_X5_isOwner rfl ⟨rfl, rfl⟩ (by decide +kernel) ⟨Nat.le_of_ble_eq_true rfl, Nat.le_of_ble_eq_true rfl⟩ (by assumption) ⟨rfl, rfl⟩ rfl rfl (Nat.le_of_ble_eq_true rfl) ⟨Nat.zero_le _, Nat.zero_le _⟩ (kI (fun z2 v2 h2 => ?_))
  obtain ⟨hz2a, hz2b, rfl⟩ := h2
  refine j_if_eq (tgt := 16) X dX5_lose_5 (by omega) (by decide) (fun c5 => ?_) (fun c5 => ?_)
  · refine j_iconst X dX5_lose_16 ?_
    have hret : (-1 : Int) = (sLose G o p).1 ∧ MXR v m (sLose G o p).2 ∧ frM v v m := by
      rw [show sLose G o p = (-1, G) from cite_t (by unfold isO isP; omega) _ _]
      exact ⟨rfl, hR, frM.refl _ _⟩
    exact j_iret X dX5_lose_17 ⟨_, rfl, rfl, hret⟩
  · refine j_aload_n X dX5_lose_8 rfl ?_
    refine j_iload_n X dX5_lose_9 rfl ?_
    refine j_callV (nn := 1) X dX5_lose_10 (c_X5_isParcel l D nH sk v m p (np G.1) hM hp o1 (by omega)) gX5_lose_X5_isParcel rfl ⟨rfl, rfl⟩ (by decide +kernel) ⟨Nat.le_of_ble_eq_true rfl, Nat.le_of_ble_eq_true rfl⟩ (by assumption) ⟨rfl, rfl⟩ rfl rfl (Nat.le_of_ble_eq_true rfl) ⟨Nat.zero_le _, Nat.zero_le _⟩ (kI (fun z10 v10 h10 => ?_))
    obtain ⟨hz10a, hz10b, rfl⟩ := h10
    refine j_if_ne (tgt := 18) X dX5_lose_13 (by omega) (by decide) (fun c13 => ?_) (fun c13 => ?_)
    · have hqi : 0 ≤ o ∧ o < (no G.1 : Int) := by omega
      obtain ⟨i, rfl⟩ : ∃ i : Nat, o = (i : Int) := ⟨o.toNat, by omega⟩
      have hi : i < no G.1 := by omega
      obtain ⟨hb1, hb2, hb3, hb4, hb5⟩ := hBB i hi
      have hqq : 0 ≤ p ∧ p < (np G.1 : Int) := by omega
      obtain ⟨q, rfl⟩ : ∃ q : Nat, p = (q : Int) := ⟨p.toNat, by omega⟩
      obtain ⟨hl1, hl2, hl3, hl4⟩ := o3 q (by omega)
      have hq16 : q < 16 := by omega
      refine j_aload_n X dX5_lose_18 rfl ?_
      refine j_iload_n X dX5_lose_19 rfl ?_
      refine j_iload_n X dX5_lose_20 rfl ?_
      refine j_callV (nn := 2) X dX5_lose_21 (c_X5_waits l D nH sk v m i q (wt G.1 i) _ _ hM (by omega) (by omega) (by omega) (by omega) hb2 hb4) gX5_lose_X5_waits rfl ⟨rfl, rfl⟩ (by decide +kernel) ⟨Nat.le_of_ble_eq_true rfl, Nat.le_of_ble_eq_true rfl⟩ (by assumption) ⟨rfl, rfl⟩ rfl rfl (Nat.le_of_ble_eq_true rfl) ⟨Nat.zero_le _, Nat.zero_le _⟩ (kI (fun z21 v21 h21 => ?_))
      obtain ⟨hz21a, hz21b, rfl⟩ := h21
      refine j_if_ne (tgt := 30) X dX5_lose_24 (by omega) (by decide) (fun c24 => ?_) (fun c24 => ?_)
      · refine j_aload_n X dX5_lose_30 rfl ?_
        refine j_callV (nn := 0) X dX5_lose_31 (c_X5_record l D nH sk v m G.2.1 G.1 hM hR2 hR1) gX5_lose_X5_record rfl ⟨rfl, rfl⟩ (by decide +kernel) ⟨Nat.le_of_ble_eq_true rfl, Nat.le_of_ble_eq_true rfl⟩ (by assumption) ⟨rfl, rfl⟩ rfl rfl (Nat.le_of_ble_eq_true rfl) ⟨Nat.zero_le _, Nat.zero_le _⟩ (kV (fun w1 h31 => ?_))
        obtain ⟨hH1, ra, rb⟩ := h31
        have e1 : w1 (m + 1) = v (m + 1) := rb (m + 1) (by omega) (by omega)
        have hS1 : MR (w1 (m + 1)) G.1 := by rw [e1]; exact hR1
        refine j_aload_n X dX5_lose_34 rfl ?_
        refine j_iload_n X dX5_lose_35 rfl ?_
        refine j_iconst X dX5_lose_36 ?_
        refine j_aload_n X dX5_lose_37 rfl ?_
        refine j_iload_n X dX5_lose_38 rfl ?_
        refine j_iconst X dX5_lose_39 ?_
        refine j_callV (nn := 2) X dX5_lose_40 (c_X5_part l D nH sk w1 m i (1) _ _ hM (by omega) (by omega) (by omega) (by omega)) gX5_lose_X5_part rfl ⟨rfl, rfl⟩ (by decide +kernel) ⟨Nat.le_of_ble_eq_true rfl, Nat.le_of_ble_eq_true rfl⟩ (by assumption) ⟨rfl, rfl⟩ rfl rfl (Nat.le_of_ble_eq_true rfl) ⟨Nat.zero_le _, Nat.zero_le _⟩ (kI (fun z40 v40 h40 => ?_))
        obtain ⟨rfl, rfl⟩ := h40
        rw [show w1 (m + 1) (146 + 63 * i + (1)) = (wt G.1 i : Int) by rw [show 146 + 63 * i + 1 = 147 + 63 * i by omega, e1]; exact hb2]
        refine j_iconst X dX5_lose_43 ?_
        refine j_iload_n X dX5_lose_44 rfl ?_
        refine j_ishl X dX5_lose_45 (b_shl (by omega)) ?_
        refine j_iconst X dX5_lose_46 ?_
        refine j_ixor X dX5_lose_47 (b_not (by omega)) ?_
        refine j_iand X dX5_lose_48 (b_clr hb4 (by omega)) ?_
        refine j_callV (nn := 3) X dX5_lose_49 (c_X5_setPart l D nH sk w1 m i (1) _ _ _ hM (by omega) (by omega) (by omega) (by omega)) gX5_lose_X5_setPart rfl ⟨rfl, rfl⟩ (by decide +kernel) ⟨Nat.le_of_ble_eq_true rfl, Nat.le_of_ble_eq_true rfl⟩ (by assumption) ⟨rfl, rfl⟩ rfl rfl (Nat.le_of_ble_eq_true rfl) ⟨Nat.zero_le _, Nat.zero_le _⟩ (kV (fun v49 h49 => ?_))
        obtain ⟨f49, g49, n49⟩ := h49
        refine j_aload_n X dX5_lose_52 rfl ?_
        refine j_iload_n X dX5_lose_53 rfl ?_
        refine j_iconst X dX5_lose_54 ?_
        refine j_aload_n X dX5_lose_55 rfl ?_
        refine j_iload_n X dX5_lose_56 rfl ?_
        refine j_iconst X dX5_lose_57 ?_
        refine j_callV (nn := 2) X dX5_lose_58 (c_X5_part l D nH sk v49 m i (2) _ _ hM (by omega) (by omega) (by omega) (by omega)) gX5_lose_X5_part rfl ⟨rfl, rfl⟩ (by decide +kernel) ⟨Nat.le_of_ble_eq_true rfl, Nat.le_of_ble_eq_true rfl⟩ (by assumption) ⟨rfl, rfl⟩ rfl rfl (Nat.le_of_ble_eq_true rfl) ⟨Nat.zero_le _, Nat.zero_le _⟩ (kI (fun z58 v58 h58 => ?_))
        obtain ⟨rfl, rfl⟩ := h58
        rw [show v49 (m + 1) (146 + 63 * i + (2)) = (lo_ G.1 i : Int) by rw [g49 _ (by omega), show 146 + 63 * i + 2 = 148 + 63 * i by omega, e1]; exact hb3]
        refine j_iconst X dX5_lose_61 ?_
        refine j_iload_n X dX5_lose_62 rfl ?_
        refine j_ishl X dX5_lose_63 (b_shl (by omega)) ?_
        refine j_ior X dX5_lose_64 (b_or _ _) ?_
        refine j_callV (nn := 3) X dX5_lose_65 (c_X5_setPart l D nH sk v49 m i (2) _ _ _ hM (by omega) (by omega) (by omega) (by omega)) gX5_lose_X5_setPart rfl ⟨rfl, rfl⟩ (by decide +kernel) ⟨Nat.le_of_ble_eq_true rfl, Nat.le_of_ble_eq_true rfl⟩ (by assumption) ⟨rfl, rfl⟩ rfl rfl (Nat.le_of_ble_eq_true rfl) ⟨Nat.zero_le _, Nat.zero_le _⟩ (kV (fun v65 h65 => ?_))
        obtain ⟨f65, g65, n65⟩ := h65
        have hL65 := ((show LR (w1 (m + 1)) i (bn G.1 i) by rw [e1]; exact hb1).set g49 (Or.inl rfl)).set g65 (Or.inr rfl)
        refine j_aload_n X dX5_lose_68 rfl ?_
        refine j_iload_n X dX5_lose_69 rfl ?_
        refine j_iconst X dX5_lose_70 ?_
        refine j_callV (nn := 2) X dX5_lose_71 (c_X5_part l D nH sk v65 m i (1) _ _ hM (by omega) (by omega) (by omega) (by omega)) gX5_lose_X5_part rfl ⟨rfl, rfl⟩ (by decide +kernel) ⟨Nat.le_of_ble_eq_true rfl, Nat.le_of_ble_eq_true rfl⟩ (by assumption) ⟨rfl, rfl⟩ rfl rfl (Nat.le_of_ble_eq_true rfl) ⟨Nat.zero_le _, Nat.zero_le _⟩ (kI (fun z71 v71 h71 => ?_))
        obtain ⟨rfl, rfl⟩ := h71
        rw [show v65 (m + 1) (146 + 63 * i + (1)) = (clr (wt G.1 i) q : Int) by rw [g65 _ (by omega)]; exact f49]
        refine j_callS (nn := 1) X dX5_lose_74 (c_X5_bits l D nH sk v65 (clr (wt G.1 i) q) (clr_lt hb4 hq16)) gX5_lose_X5_bits rfl ⟨rfl, rfl⟩ (by decide +kernel) ⟨Nat.le_of_ble_eq_true rfl, Nat.le_of_ble_eq_true rfl⟩ rfl rfl (Nat.le_of_ble_eq_true rfl) ⟨Nat.zero_le _, Nat.zero_le _⟩ (kI (fun z74 v74 h74 => ?_))
        obtain ⟨rfl, rfl⟩ := h74
        have hret : (pop (clr (wt G.1 i) q) : Int) = (sLose G (i : Int) (q : Int)).1 ∧ MXR v65 m (sLose G (i : Int) (q : Int)).2 ∧ frM v v65 m := by
          have hwt := hz21b.mp (by omega)
          rw [show sLose G (i : Int) (q : Int) = ((pop (clr (wt G.1 i) q) : Int), recG G (setW G.1 i (clr (wt G.1 i) q) (lo_ G.1 i ||| 2 ^ q))) from (cite_f (by unfold isO isP; omega) _ _).trans (cite_f (by rw [Int.toNat_natCast, Int.toNat_natCast]; exact fun h => h hwt) _ _), ← setB_id]
          have hh := hR.rec (v1 := w1) (v2 := v65) hH1 ra rb (fun a ha => by rw [n65 a ha, n49 a ha]) (hS1.upd hi hL65 (by rw [g65 _ (by omega), show 147 + 63 * i = 146 + 63 * i + 1 by omega]; exact f49) (by rw [show 148 + 63 * i = 146 + 63 * i + 2 by omega]; exact f65) (clr_lt hb4 hq16) (or_lt hb5 hq16) (fun j hj => by rw [g65 _ (by omega), g49 _ (by omega)]))
          exact ⟨rfl, hh.1, hh.2⟩
        exact j_iret X dX5_lose_77 ⟨_, rfl, rfl, hret⟩
      · refine j_bipush X dX5_lose_27 (by decide) ?_
        have hret : (-5 : Int) = (sLose G (i : Int) (q : Int)).1 ∧ MXR v m (sLose G (i : Int) (q : Int)).2 ∧ frM v v m := by
          rw [show sLose G (i : Int) (q : Int) = (-5, G) from (cite_f (by unfold isO isP; omega) _ _).trans (cite_t (by rw [Int.toNat_natCast, Int.toNat_natCast]; exact fun h => by have := hz21b.mpr h; omega) _ _)]
          exact ⟨rfl, hR, frM.refl _ _⟩
        exact j_iret X dX5_lose_29 ⟨_, rfl, rfl, hret⟩
    · refine j_iconst X dX5_lose_16 ?_
      have hret : (-1 : Int) = (sLose G o p).1 ∧ MXR v m (sLose G o p).2 ∧ frM v v m := by
        rw [show sLose G o p = (-1, G) from cite_t (by unfold isO isP; omega) _ _]
        exact ⟨rfl, hR, frM.refl _ _⟩
      exact j_iret X dX5_lose_17 ⟨_, rfl, rfl, hret⟩
def rmX5_again : Room := { frames := 2, cells := 0, slots := 0, locals := 45 }
set_option maxHeartbeats 4000000 in
set_option maxRecDepth 100000 in
theorem c_X5_again (l : Launch) (D : va_G) (nH : Nat) (sk : Sk) (v : Mem) (m : Nat) (o p : Int) (G : GS) (hM : Md D sk m) (hR : MXR v m G)(ho : -2147483648 ≤ o ∧ o ≤ 2147483647)(hp : -2147483648 ≤ p ∧ p ≤ 2147483647) : CtI l D yX5_again wsX5_again rmX5_again [.ref m, .int (I o), .int (I p)] nH sk v (fun z v' => z = (sAgain G o p).1 ∧ MXR v' m (sAgain G o p).2 ∧ frM v v' m) := by
  refine ct_of (cc := cX5_again) (maxL := 3) (ret := (some .int)) rfl rfl (Nat.le_of_ble_eq_true rfl) ?_
  intro p_ e_ s_ m_ args_ below_ meth_ c_ X hmn hsz
  obtain ⟨m0, m1, m2, m3, m4, m5, m6, m7, m8, m9, m10⟩ := id hM
  obtain ⟨hR1, hR2, hR3, hR4⟩ := id hR
  obtain ⟨hOO, hno8, hno, hT, hNU, hBB⟩ := id hR1
  obtain ⟨o1, o2, o3⟩ := id hOO
  obtain ⟨hp0, hp1, hp2, hp3⟩ := id hR4
  refine j_aload_n X dX5_again_0 rfl ?_
  refine j_iload_n X dX5_again_1 rfl ?_
  refine j_callV (nn := 1) X dX5_again_2 (c_X5_isOwner l D nH sk v m o (no G.1) hM ho hno (by omega)) gX5_again_X5_isOwner rfl ⟨rfl, rfl⟩ (by decide +kernel) ⟨Nat.le_of_ble_eq_true rfl, Nat.le_of_ble_eq_true rfl⟩ (by assumption) ⟨rfl, rfl⟩ rfl rfl (Nat.le_of_ble_eq_true rfl) ⟨Nat.zero_le _, Nat.zero_le _⟩ (kI (fun z2 v2 h2 => ?_))
  obtain ⟨hz2a, hz2b, rfl⟩ := h2
  refine j_if_eq (tgt := 16) X dX5_again_5 (by omega) (by decide) (fun c5 => ?_) (fun c5 => ?_)
  · refine j_iconst X dX5_again_16 ?_
    have hret : (-1 : Int) = (sAgain G o p).1 ∧ MXR v m (sAgain G o p).2 ∧ frM v v m := by
      rw [show sAgain G o p = (-1, G) from cite_t (by unfold isO isP; omega) _ _]
      exact ⟨rfl, hR, frM.refl _ _⟩
    exact j_iret X dX5_again_17 ⟨_, rfl, rfl, hret⟩
  · refine j_aload_n X dX5_again_8 rfl ?_
    refine j_iload_n X dX5_again_9 rfl ?_
    refine j_callV (nn := 1) X dX5_again_10 (c_X5_isParcel l D nH sk v m p (np G.1) hM hp o1 (by omega)) gX5_again_X5_isParcel rfl ⟨rfl, rfl⟩ (by decide +kernel) ⟨Nat.le_of_ble_eq_true rfl, Nat.le_of_ble_eq_true rfl⟩ (by assumption) ⟨rfl, rfl⟩ rfl rfl (Nat.le_of_ble_eq_true rfl) ⟨Nat.zero_le _, Nat.zero_le _⟩ (kI (fun z10 v10 h10 => ?_))
    obtain ⟨hz10a, hz10b, rfl⟩ := h10
    refine j_if_ne (tgt := 18) X dX5_again_13 (by omega) (by decide) (fun c13 => ?_) (fun c13 => ?_)
    · have hqi : 0 ≤ o ∧ o < (no G.1 : Int) := by omega
      obtain ⟨i, rfl⟩ : ∃ i : Nat, o = (i : Int) := ⟨o.toNat, by omega⟩
      have hi : i < no G.1 := by omega
      obtain ⟨hb1, hb2, hb3, hb4, hb5⟩ := hBB i hi
      have hqq : 0 ≤ p ∧ p < (np G.1 : Int) := by omega
      obtain ⟨q, rfl⟩ : ∃ q : Nat, p = (q : Int) := ⟨p.toNat, by omega⟩
      obtain ⟨hl1, hl2, hl3, hl4⟩ := o3 q (by omega)
      have hq16 : q < 16 := by omega
      refine j_aload_n X dX5_again_18 rfl ?_
      refine j_iload_n X dX5_again_19 rfl ?_
      refine j_iload_n X dX5_again_20 rfl ?_
      refine j_callV (nn := 2) X dX5_again_21 (c_X5_waits l D nH sk v m i q (wt G.1 i) _ _ hM (by omega) (by omega) (by omega) (by omega) hb2 hb4) gX5_again_X5_waits rfl ⟨rfl, rfl⟩ (by decide +kernel) ⟨Nat.le_of_ble_eq_true rfl, Nat.le_of_ble_eq_true rfl⟩ (by assumption) ⟨rfl, rfl⟩ rfl rfl (Nat.le_of_ble_eq_true rfl) ⟨Nat.zero_le _, Nat.zero_le _⟩ (kI (fun z21 v21 h21 => ?_))
      obtain ⟨hz21a, hz21b, rfl⟩ := h21
      refine j_if_eq (tgt := 30) X dX5_again_24 (by omega) (by decide) (fun c24 => ?_) (fun c24 => ?_)
      · refine j_aload_n X dX5_again_30 rfl ?_
        refine j_callV (nn := 0) X dX5_again_31 (c_X5_record l D nH sk v m G.2.1 G.1 hM hR2 hR1) gX5_again_X5_record rfl ⟨rfl, rfl⟩ (by decide +kernel) ⟨Nat.le_of_ble_eq_true rfl, Nat.le_of_ble_eq_true rfl⟩ (by assumption) ⟨rfl, rfl⟩ rfl rfl (Nat.le_of_ble_eq_true rfl) ⟨Nat.zero_le _, Nat.zero_le _⟩ (kV (fun w1 h31 => ?_))
        obtain ⟨hH1, ra, rb⟩ := h31
        have e1 : w1 (m + 1) = v (m + 1) := rb (m + 1) (by omega) (by omega)
        have hS1 : MR (w1 (m + 1)) G.1 := by rw [e1]; exact hR1
        refine j_aload_n X dX5_again_34 rfl ?_
        refine j_iload_n X dX5_again_35 rfl ?_
        refine j_iconst X dX5_again_36 ?_
        refine j_aload_n X dX5_again_37 rfl ?_
        refine j_iload_n X dX5_again_38 rfl ?_
        refine j_iconst X dX5_again_39 ?_
        refine j_callV (nn := 2) X dX5_again_40 (c_X5_part l D nH sk w1 m i (1) _ _ hM (by omega) (by omega) (by omega) (by omega)) gX5_again_X5_part rfl ⟨rfl, rfl⟩ (by decide +kernel) ⟨Nat.le_of_ble_eq_true rfl, Nat.le_of_ble_eq_true rfl⟩ (by assumption) ⟨rfl, rfl⟩ rfl rfl (Nat.le_of_ble_eq_true rfl) ⟨Nat.zero_le _, Nat.zero_le _⟩ (kI (fun z40 v40 h40 => ?_))
        obtain ⟨rfl, rfl⟩ := h40
        rw [show w1 (m + 1) (146 + 63 * i + (1)) = (wt G.1 i : Int) by rw [show 146 + 63 * i + 1 = 147 + 63 * i by omega, e1]; exact hb2]
        refine j_iconst X dX5_again_43 ?_
        refine j_iload_n X dX5_again_44 rfl ?_
        refine j_ishl X dX5_again_45 (b_shl (by omega)) ?_
        refine j_ior X dX5_again_46 (b_or _ _) ?_
        refine j_callV (nn := 3) X dX5_again_47 (c_X5_setPart l D nH sk w1 m i (1) _ _ _ hM (by omega) (by omega) (by omega) (by omega)) gX5_again_X5_setPart rfl ⟨rfl, rfl⟩ (by decide +kernel) ⟨Nat.le_of_ble_eq_true rfl, Nat.le_of_ble_eq_true rfl⟩ (by assumption) ⟨rfl, rfl⟩ rfl rfl (Nat.le_of_ble_eq_true rfl) ⟨Nat.zero_le _, Nat.zero_le _⟩ (kV (fun v47 h47 => ?_))
        obtain ⟨f47, g47, n47⟩ := h47
        refine j_aload_n X dX5_again_50 rfl ?_
        refine j_iload_n X dX5_again_51 rfl ?_
        refine j_iconst X dX5_again_52 ?_
        refine j_aload_n X dX5_again_53 rfl ?_
        refine j_iload_n X dX5_again_54 rfl ?_
        refine j_iconst X dX5_again_55 ?_
        refine j_callV (nn := 2) X dX5_again_56 (c_X5_part l D nH sk v47 m i (2) _ _ hM (by omega) (by omega) (by omega) (by omega)) gX5_again_X5_part rfl ⟨rfl, rfl⟩ (by decide +kernel) ⟨Nat.le_of_ble_eq_true rfl, Nat.le_of_ble_eq_true rfl⟩ (by assumption) ⟨rfl, rfl⟩ rfl rfl (Nat.le_of_ble_eq_true rfl) ⟨Nat.zero_le _, Nat.zero_le _⟩ (kI (fun z56 v56 h56 => ?_))
        obtain ⟨rfl, rfl⟩ := h56
        rw [show v47 (m + 1) (146 + 63 * i + (2)) = (lo_ G.1 i : Int) by rw [g47 _ (by omega), show 146 + 63 * i + 2 = 148 + 63 * i by omega, e1]; exact hb3]
        refine j_iconst X dX5_again_59 ?_
        refine j_iload_n X dX5_again_60 rfl ?_
        refine j_ishl X dX5_again_61 (b_shl (by omega)) ?_
        refine j_iconst X dX5_again_62 ?_
        refine j_ixor X dX5_again_63 (b_not (by omega)) ?_
        refine j_iand X dX5_again_64 (b_clr hb5 (by omega)) ?_
        refine j_callV (nn := 3) X dX5_again_65 (c_X5_setPart l D nH sk v47 m i (2) _ _ _ hM (by omega) (by omega) (by omega) (by omega)) gX5_again_X5_setPart rfl ⟨rfl, rfl⟩ (by decide +kernel) ⟨Nat.le_of_ble_eq_true rfl, Nat.le_of_ble_eq_true rfl⟩ (by assumption) ⟨rfl, rfl⟩ rfl rfl (Nat.le_of_ble_eq_true rfl) ⟨Nat.zero_le _, Nat.zero_le _⟩ (kV (fun v65 h65 => ?_))
        obtain ⟨f65, g65, n65⟩ := h65
        have hL65 := ((show LR (w1 (m + 1)) i (bn G.1 i) by rw [e1]; exact hb1).set g47 (Or.inl rfl)).set g65 (Or.inr rfl)
        refine j_aload_n X dX5_again_68 rfl ?_
        refine j_iload_n X dX5_again_69 rfl ?_
        refine j_iconst X dX5_again_70 ?_
        refine j_callV (nn := 2) X dX5_again_71 (c_X5_part l D nH sk v65 m i (1) _ _ hM (by omega) (by omega) (by omega) (by omega)) gX5_again_X5_part rfl ⟨rfl, rfl⟩ (by decide +kernel) ⟨Nat.le_of_ble_eq_true rfl, Nat.le_of_ble_eq_true rfl⟩ (by assumption) ⟨rfl, rfl⟩ rfl rfl (Nat.le_of_ble_eq_true rfl) ⟨Nat.zero_le _, Nat.zero_le _⟩ (kI (fun z71 v71 h71 => ?_))
        obtain ⟨rfl, rfl⟩ := h71
        rw [show v65 (m + 1) (146 + 63 * i + (1)) = (((wt G.1 i ||| 2 ^ q) : Nat) : Int) by rw [g65 _ (by omega)]; exact f47]
        refine j_callS (nn := 1) X dX5_again_74 (c_X5_bits l D nH sk v65 (wt G.1 i ||| 2 ^ q) (or_lt hb4 hq16)) gX5_again_X5_bits rfl ⟨rfl, rfl⟩ (by decide +kernel) ⟨Nat.le_of_ble_eq_true rfl, Nat.le_of_ble_eq_true rfl⟩ rfl rfl (Nat.le_of_ble_eq_true rfl) ⟨Nat.zero_le _, Nat.zero_le _⟩ (kI (fun z74 v74 h74 => ?_))
        obtain ⟨rfl, rfl⟩ := h74
        have hret : (pop (wt G.1 i ||| 2 ^ q) : Int) = (sAgain G (i : Int) (q : Int)).1 ∧ MXR v65 m (sAgain G (i : Int) (q : Int)).2 ∧ frM v v65 m := by
          have hwt : ¬ (wt G.1 i).testBit q = true := fun h => by have := hz21b.mpr h; omega
          rw [show sAgain G (i : Int) (q : Int) = ((pop (wt G.1 i ||| 2 ^ q) : Int), recG G (setW G.1 i (wt G.1 i ||| 2 ^ q) (clr (lo_ G.1 i) q))) from (cite_f (by unfold isO isP; omega) _ _).trans (cite_f (by rw [Int.toNat_natCast, Int.toNat_natCast]; exact hwt) _ _), ← setB_id]
          have hh := hR.rec (v1 := w1) (v2 := v65) hH1 ra rb (fun a ha => by rw [n65 a ha, n47 a ha]) (hS1.upd hi hL65 (by rw [g65 _ (by omega), show 147 + 63 * i = 146 + 63 * i + 1 by omega]; exact f47) (by rw [show 148 + 63 * i = 146 + 63 * i + 2 by omega]; exact f65) (or_lt hb4 hq16) (clr_lt hb5 hq16) (fun j hj => by rw [g65 _ (by omega), g47 _ (by omega)]))
          exact ⟨rfl, hh.1, hh.2⟩
        exact j_iret X dX5_again_77 ⟨_, rfl, rfl, hret⟩
      · refine j_bipush X dX5_again_27 (by decide) ?_
        have hret : (-5 : Int) = (sAgain G (i : Int) (q : Int)).1 ∧ MXR v m (sAgain G (i : Int) (q : Int)).2 ∧ frM v v m := by
          rw [show sAgain G (i : Int) (q : Int) = (-5, G) from (cite_f (by unfold isO isP; omega) _ _).trans (cite_t (by rw [Int.toNat_natCast, Int.toNat_natCast]; exact hz21b.mp (by omega)) _ _)]
          exact ⟨rfl, hR, frM.refl _ _⟩
        exact j_iret X dX5_again_29 ⟨_, rfl, rfl, hret⟩
    · refine j_iconst X dX5_again_16 ?_
      have hret : (-1 : Int) = (sAgain G o p).1 ∧ MXR v m (sAgain G o p).2 ∧ frM v v m := by
        rw [show sAgain G o p = (-1, G) from cite_t (by unfold isO isP; omega) _ _]
        exact ⟨rfl, hR, frM.refl _ _⟩
      exact j_iret X dX5_again_17 ⟨_, rfl, rfl, hret⟩
def rmX5_hand : Room := { frames := 3, cells := 0, slots := 0, locals := 69 }
set_option maxHeartbeats 4000000 in
set_option maxRecDepth 100000 in
theorem c_X5_hand (l : Launch) (D : va_G) (nH : Nat) (sk : Sk) (v : Mem) (m : Nat) (o n p c : Int) (G : GS) (hM : Md D sk m) (hR : MXR v m G)(ho : -2147483648 ≤ o ∧ o ≤ 2147483647)(hn : -2147483648 ≤ n ∧ n ≤ 2147483647)(hp : -2147483648 ≤ p ∧ p ≤ 2147483647) (hc : c = 0 ∨ c = 1) : CtI l D yX5_hand wsX5_hand rmX5_hand [.ref m, .int (I o), .int (I n), .int (I p), .int (I c)] nH sk v (fun z v' => z = (sHand G o n p c).1 ∧ MXR v' m (sHand G o n p c).2 ∧ frM v v' m) := by
  refine ct_of (cc := cX5_hand) (maxL := 6) (ret := (some .int)) rfl rfl (Nat.le_of_ble_eq_true rfl) ?_
  intro p_ e_ s_ m_ args_ below_ meth_ c_ X hmn hsz
  obtain ⟨m0, m1, m2, m3, m4, m5, m6, m7, m8, m9, m10⟩ := id hM
  obtain ⟨hR1, hR2, hR3, hR4⟩ := id hR
  obtain ⟨hOO, hno8, hno, hT, hNU, hBB⟩ := id hR1
  obtain ⟨o1, o2, o3⟩ := id hOO
  obtain ⟨hp0, hp1, hp2, hp3⟩ := id hR4
  refine j_aload_n X dX5_hand_0 rfl ?_
  refine j_iload_n X dX5_hand_1 rfl ?_
  refine j_callV (nn := 1) X dX5_hand_2 (c_X5_isOwner l D nH sk v m o (no G.1) hM ho hno (by omega)) gX5_hand_X5_isOwner rfl ⟨rfl, rfl⟩ (by decide +kernel) ⟨Nat.le_of_ble_eq_true rfl, Nat.le_of_ble_eq_true rfl⟩ (by assumption) ⟨rfl, rfl⟩ rfl rfl (Nat.le_of_ble_eq_true rfl) ⟨Nat.zero_le _, Nat.zero_le _⟩ (kI (fun z2 v2 h2 => ?_))
  obtain ⟨hz2a, hz2b, rfl⟩ := h2
  refine j_if_eq (tgt := 16) X dX5_hand_5 (by omega) (by decide) (fun c5 => ?_) (fun c5 => ?_)
  · refine j_iconst X dX5_hand_16 ?_
    have hret : (-1 : Int) = (sHand G o n p c).1 ∧ MXR v m (sHand G o n p c).2 ∧ frM v v m := by
      rw [show sHand G o n p c = (-1, G) from cite_t (by unfold isO isP; omega) _ _]
      exact ⟨rfl, hR, frM.refl _ _⟩
    exact j_iret X dX5_hand_17 ⟨_, rfl, rfl, hret⟩
  · refine j_aload_n X dX5_hand_8 rfl ?_
    refine j_iload_n X dX5_hand_9 rfl ?_
    refine j_callV (nn := 1) X dX5_hand_10 (c_X5_isParcel l D nH sk v m p (np G.1) hM hp o1 (by omega)) gX5_hand_X5_isParcel rfl ⟨rfl, rfl⟩ (by decide +kernel) ⟨Nat.le_of_ble_eq_true rfl, Nat.le_of_ble_eq_true rfl⟩ (by assumption) ⟨rfl, rfl⟩ rfl rfl (Nat.le_of_ble_eq_true rfl) ⟨Nat.zero_le _, Nat.zero_le _⟩ (kI (fun z10 v10 h10 => ?_))
    obtain ⟨hz10a, hz10b, rfl⟩ := h10
    refine j_if_ne (tgt := 18) X dX5_hand_13 (by omega) (by decide) (fun c13 => ?_) (fun c13 => ?_)
    · have hqq : 0 ≤ p ∧ p < (np G.1 : Int) := by omega
      obtain ⟨q, rfl⟩ : ∃ q : Nat, p = (q : Int) := ⟨p.toNat, by omega⟩
      obtain ⟨hl1, hl2, hl3, hl4⟩ := o3 q (by omega)
      have hq16 : q < 16 := by omega
      have hqi : 0 ≤ o ∧ o < (no G.1 : Int) := by omega
      obtain ⟨i, rfl⟩ : ∃ i : Nat, o = (i : Int) := ⟨o.toNat, by omega⟩
      have hi : i < no G.1 := by omega
      obtain ⟨hb1, hb2, hb3, hb4, hb5⟩ := hBB i hi
      refine j_iload_n X dX5_hand_18 rfl ?_
      refine j_callS (nn := 1) X dX5_hand_19 (c_X5_isNumber l D nH sk v n hn) gX5_hand_X5_isNumber rfl ⟨rfl, rfl⟩ (by decide +kernel) ⟨Nat.le_of_ble_eq_true rfl, Nat.le_of_ble_eq_true rfl⟩ rfl rfl (Nat.le_of_ble_eq_true rfl) ⟨Nat.zero_le _, Nat.zero_le _⟩ (kI (fun z19 v19 h19 => ?_))
      obtain ⟨hz19a, hz19b, rfl⟩ := h19
      refine j_if_ne (tgt := 28) X dX5_hand_22 (by omega) (by decide) (fun c22 => ?_) (fun c22 => ?_)
      · have hqk : 10 ≤ n ∧ n ≤ 99 := by omega
        obtain ⟨k, rfl⟩ : ∃ k : Nat, n = (k : Int) := ⟨n.toNat, by omega⟩
        refine j_aload_n X dX5_hand_28 rfl ?_
        refine j_iload_n X dX5_hand_29 rfl ?_
        refine j_iload_n X dX5_hand_30 rfl ?_
        refine j_iload_n X dX5_hand_31 rfl ?_
        refine j_callV (nn := 3) X dX5_hand_32 (c_X5_leafWith l D nH sk v m i k q _ _ _ (bn G.1 i) hM (by omega) (by omega) hb1 (by omega) (by omega) (by omega) (by omega)) gX5_hand_X5_leafWith rfl ⟨rfl, rfl⟩ (by decide +kernel) ⟨Nat.le_of_ble_eq_true rfl, Nat.le_of_ble_eq_true rfl⟩ (by assumption) ⟨rfl, rfl⟩ rfl rfl (Nat.le_of_ble_eq_true rfl) ⟨Nat.zero_le _, Nat.zero_le _⟩ (kI (fun z32 v32 h32 => ?_))
        obtain ⟨hlw, rfl⟩ := h32
        have hlb := hlw.bd
        have hl60 := hb1.2.1
        refine j_istore X dX5_hand_35 rfl (Nat.le_of_ble_eq_true rfl) ?_
        refine j_iload X dX5_hand_37 rfl ?_
        refine j_if_eq (tgt := 56) X dX5_hand_39 (by omega) (by decide) (fun c39 => ?_) (fun c39 => ?_)
        · refine j_iload X dX5_hand_56 rfl ?_
          refine j_bipush X dX5_hand_58 (by decide) ?_
          refine j_icmp_ne (tgt := 66) X dX5_hand_60 (by omega) (by decide) (fun c60 => ?_) (fun c60 => ?_)
          · refine j_aload_n X dX5_hand_66 rfl ?_
            refine j_callV (nn := 0) X dX5_hand_67 (c_X5_record l D nH sk v m G.2.1 G.1 hM hR2 hR1) gX5_hand_X5_record rfl ⟨rfl, rfl⟩ (by decide +kernel) ⟨Nat.le_of_ble_eq_true rfl, Nat.le_of_ble_eq_true rfl⟩ (by assumption) ⟨rfl, rfl⟩ rfl rfl (Nat.le_of_ble_eq_true rfl) ⟨Nat.zero_le _, Nat.zero_le _⟩ (kV (fun w1 h67 => ?_))
            obtain ⟨hH1, ra, rb⟩ := h67
            have e1 : w1 (m + 1) = v (m + 1) := rb (m + 1) (by omega) (by omega)
            have hS1 : MR (w1 (m + 1)) G.1 := by rw [e1]; exact hR1
            refine j_iload X dX5_hand_70 rfl ?_
            refine j_if_eq (tgt := 85) X dX5_hand_72 (by omega) (by decide) (fun c72 => ?_) (fun c72 => ?_)
            · obtain ⟨d, hd, rfl, hdm, hde⟩ : ∃ (d : Nat) (h : d < (bn G.1 i).length), z32 = (d : Int) ∧ k * 16 + q ∈ bn G.1 i ∧ (bn G.1 i).erase (k * 16 + q) = (bn G.1 i).eraseIdx d := by
                rcases hlw.erase with h | h
                · omega
                · exact h
              refine j_aload_n X dX5_hand_85 rfl ?_
              refine j_iload_n X dX5_hand_86 rfl ?_
              refine j_iload X dX5_hand_87 rfl ?_
              refine j_callV (nn := 2) X dX5_hand_89 (c_X5_remove l D nH sk w1 m i d _ _ (bn G.1 i) hM (by omega) (by omega) (by rw [e1]; exact hb1) (by omega) hd) gX5_hand_X5_remove rfl ⟨rfl, rfl⟩ (by decide +kernel) ⟨Nat.le_of_ble_eq_true rfl, Nat.le_of_ble_eq_true rfl⟩ (by assumption) ⟨rfl, rfl⟩ rfl rfl (Nat.le_of_ble_eq_true rfl) ⟨Nat.zero_le _, Nat.zero_le _⟩ (kV (fun v89 h89 => ?_))
              obtain ⟨hL89, hF89⟩ := h89
              rw [← hde] at hL89
              refine j_aload_n X dX5_hand_92 rfl ?_
              refine j_iload_n X dX5_hand_93 rfl ?_
              refine j_iconst X dX5_hand_94 ?_
              refine j_callV (nn := 2) X dX5_hand_95 (c_X5_len l D nH sk _ m i _ _ hM (by omega) (by omega) (by first | exact hL79 | exact hL89)) gX5_hand_X5_part rfl ⟨rfl, rfl⟩ (by decide +kernel) ⟨Nat.le_of_ble_eq_true rfl, Nat.le_of_ble_eq_true rfl⟩ (by assumption) ⟨rfl, rfl⟩ rfl rfl (Nat.le_of_ble_eq_true rfl) ⟨Nat.zero_le _, Nat.zero_le _⟩ (kI (fun z95 v95 h95 => ?_))
              obtain ⟨rfl, rfl⟩ := h95
              first
              | have hret : ((insL (bn G.1 i) (k * 16 + q)).length : Int) = (sHand G (i : Int) (k : Int) (q : Int) c).1 ∧ MXR v79 m (sHand G (i : Int) (k : Int) (q : Int) c).2 ∧ frM v v79 m := by
                  rw [show sHand G (i : Int) (k : Int) (q : Int) c = (((insL (bn G.1 i) (k * 16 + q)).length : Int), recG G (setB G.1 i (insL (bn G.1 i) (k * 16 + q)))) from (by show sHand G _ _ _ _ = _; unfold sHand; rw [cite_f (by unfold isO isP; omega), cite_f (by unfold isNu; omega), Int.toNat_natCast, Int.toNat_natCast, Int.toNat_natCast]; rw [cite_f (by omega), cite_t (by omega)]), ← setW_id]
                  have hh := hR.rec (v1 := w1) (v2 := v79) hH1 ra rb hF79.1 (hS1.upd hi hL79 (by rw [hF79.2 _ (by omega) (by omega), e1]; exact hb2) (by rw [hF79.2 _ (by omega) (by omega), e1]; exact hb3) hb4 hb5 (fun j hj => by rw [hF79.2 _ (by omega) (by omega)]))
                  exact ⟨rfl, hh.1, hh.2⟩
              | have hret : (((bn G.1 i).erase (k * 16 + q)).length : Int) = (sHand G (i : Int) (k : Int) (q : Int) c).1 ∧ MXR v89 m (sHand G (i : Int) (k : Int) (q : Int) c).2 ∧ frM v v89 m := by
                  rw [show sHand G (i : Int) (k : Int) (q : Int) c = ((((bn G.1 i).erase (k * 16 + q)).length : Int), recG G (setB G.1 i ((bn G.1 i).erase (k * 16 + q)))) from (by show sHand G _ _ _ _ = _; unfold sHand; rw [cite_f (by unfold isO isP; omega), cite_f (by unfold isNu; omega), Int.toNat_natCast, Int.toNat_natCast, Int.toNat_natCast]; rw [cite_t (by omega), cite_t hdm]), ← setW_id]
                  have hh := hR.rec (v1 := w1) (v2 := v89) hH1 ra rb hF89.1 (hS1.upd hi hL89 (by rw [hF89.2 _ (by omega) (by omega), e1]; exact hb2) (by rw [hF89.2 _ (by omega) (by omega), e1]; exact hb3) hb4 hb5 (fun j hj => by rw [hF89.2 _ (by omega) (by omega)]))
                  exact ⟨rfl, hh.1, hh.2⟩
              exact j_iret X dX5_hand_98 ⟨_, rfl, rfl, hret⟩
            · exfalso; omega
          · refine j_bipush X dX5_hand_63 (by decide) ?_
            first
            | have hret : (-5 : Int) = (sHand G (i : Int) (k : Int) (q : Int) c).1 ∧ MXR v m (sHand G (i : Int) (k : Int) (q : Int) c).2 ∧ frM v v m := by
                rw [show sHand G (i : Int) (k : Int) (q : Int) c = (-5, G) from (by show sHand G _ _ _ _ = _; unfold sHand; rw [cite_f (by unfold isO isP; omega), cite_f (by unfold isNu; omega), Int.toNat_natCast, Int.toNat_natCast, Int.toNat_natCast]; rw [cite_f (by omega), cite_f (by omega)])]
                exact ⟨rfl, hR, frM.refl _ _⟩
            | have hret : (-5 : Int) = (sHand G (i : Int) (k : Int) (q : Int) c).1 ∧ MXR v m (sHand G (i : Int) (k : Int) (q : Int) c).2 ∧ frM v v m := by
                rw [show sHand G (i : Int) (k : Int) (q : Int) c = (-5, G) from (by show sHand G _ _ _ _ = _; unfold sHand; rw [cite_f (by unfold isO isP; omega), cite_f (by unfold isNu; omega), Int.toNat_natCast, Int.toNat_natCast, Int.toNat_natCast]; rw [cite_t (by omega), cite_f (by rcases hlw.erase with h | ⟨d, h1, h2, h3⟩; exact h.2; omega)])]
                exact ⟨rfl, hR, frM.refl _ _⟩
            exact j_iret X dX5_hand_65 ⟨_, rfl, rfl, hret⟩
        · refine j_aload_n X dX5_hand_42 rfl ?_
          refine j_iload_n X dX5_hand_43 rfl ?_
          refine j_iconst X dX5_hand_44 ?_
          refine j_callV (nn := 2) X dX5_hand_45 (c_X5_len l D nH sk v m i _ (bn G.1 i) hM (by omega) (by omega) hb1) gX5_hand_X5_part rfl ⟨rfl, rfl⟩ (by decide +kernel) ⟨Nat.le_of_ble_eq_true rfl, Nat.le_of_ble_eq_true rfl⟩ (by assumption) ⟨rfl, rfl⟩ rfl rfl (Nat.le_of_ble_eq_true rfl) ⟨Nat.zero_le _, Nat.zero_le _⟩ (kI (fun z45 v45 h45 => ?_))
          obtain ⟨rfl, rfl⟩ := h45
          refine j_bipush X dX5_hand_48 (by decide) ?_
          refine j_icmp_ne (tgt := 66) X dX5_hand_50 (by omega) (by decide) (fun c50 => ?_) (fun c50 => ?_)
          · refine j_aload_n X dX5_hand_66 rfl ?_
            refine j_callV (nn := 0) X dX5_hand_67 (c_X5_record l D nH sk v m G.2.1 G.1 hM hR2 hR1) gX5_hand_X5_record rfl ⟨rfl, rfl⟩ (by decide +kernel) ⟨Nat.le_of_ble_eq_true rfl, Nat.le_of_ble_eq_true rfl⟩ (by assumption) ⟨rfl, rfl⟩ rfl rfl (Nat.le_of_ble_eq_true rfl) ⟨Nat.zero_le _, Nat.zero_le _⟩ (kV (fun w1 h67 => ?_))
            obtain ⟨hH1, ra, rb⟩ := h67
            have e1 : w1 (m + 1) = v (m + 1) := rb (m + 1) (by omega) (by omega)
            have hS1 : MR (w1 (m + 1)) G.1 := by rw [e1]; exact hR1
            refine j_iload X dX5_hand_70 rfl ?_
            refine j_if_eq (tgt := 85) X dX5_hand_72 (by omega) (by decide) (fun c72 => ?_) (fun c72 => ?_)
            · exfalso; omega
            · refine j_aload_n X dX5_hand_75 rfl ?_
              refine j_iload_n X dX5_hand_76 rfl ?_
              refine j_iload_n X dX5_hand_77 rfl ?_
              refine j_iload_n X dX5_hand_78 rfl ?_
              refine j_callV (nn := 3) X dX5_hand_79 (c_X5_comes l D nH sk w1 m i k q _ _ _ (bn G.1 i) hM (by omega) (by omega) (by rw [e1]; exact hb1) (by omega) (by omega) (by omega) (by omega)) gX5_hand_X5_comes rfl ⟨rfl, rfl⟩ (by decide +kernel) ⟨Nat.le_of_ble_eq_true rfl, Nat.le_of_ble_eq_true rfl⟩ (by assumption) ⟨rfl, rfl⟩ rfl rfl (Nat.le_of_ble_eq_true rfl) ⟨Nat.zero_le _, Nat.zero_le _⟩ (kV (fun v79 h79 => ?_))
              obtain ⟨hL79, hF79⟩ := h79
              refine j_goto (tgt := 92) X dX5_hand_82 (by decide) ?_
              refine j_aload_n X dX5_hand_92 rfl ?_
              refine j_iload_n X dX5_hand_93 rfl ?_
              refine j_iconst X dX5_hand_94 ?_
              refine j_callV (nn := 2) X dX5_hand_95 (c_X5_len l D nH sk _ m i _ _ hM (by omega) (by omega) (by first | exact hL79 | exact hL89)) gX5_hand_X5_part rfl ⟨rfl, rfl⟩ (by decide +kernel) ⟨Nat.le_of_ble_eq_true rfl, Nat.le_of_ble_eq_true rfl⟩ (by assumption) ⟨rfl, rfl⟩ rfl rfl (Nat.le_of_ble_eq_true rfl) ⟨Nat.zero_le _, Nat.zero_le _⟩ (kI (fun z95 v95 h95 => ?_))
              obtain ⟨rfl, rfl⟩ := h95
              first
              | have hret : ((insL (bn G.1 i) (k * 16 + q)).length : Int) = (sHand G (i : Int) (k : Int) (q : Int) c).1 ∧ MXR v79 m (sHand G (i : Int) (k : Int) (q : Int) c).2 ∧ frM v v79 m := by
                  rw [show sHand G (i : Int) (k : Int) (q : Int) c = (((insL (bn G.1 i) (k * 16 + q)).length : Int), recG G (setB G.1 i (insL (bn G.1 i) (k * 16 + q)))) from (by show sHand G _ _ _ _ = _; unfold sHand; rw [cite_f (by unfold isO isP; omega), cite_f (by unfold isNu; omega), Int.toNat_natCast, Int.toNat_natCast, Int.toNat_natCast]; rw [cite_f (by omega), cite_t (by omega)]), ← setW_id]
                  have hh := hR.rec (v1 := w1) (v2 := v79) hH1 ra rb hF79.1 (hS1.upd hi hL79 (by rw [hF79.2 _ (by omega) (by omega), e1]; exact hb2) (by rw [hF79.2 _ (by omega) (by omega), e1]; exact hb3) hb4 hb5 (fun j hj => by rw [hF79.2 _ (by omega) (by omega)]))
                  exact ⟨rfl, hh.1, hh.2⟩
              | have hret : (((bn G.1 i).erase (k * 16 + q)).length : Int) = (sHand G (i : Int) (k : Int) (q : Int) c).1 ∧ MXR v89 m (sHand G (i : Int) (k : Int) (q : Int) c).2 ∧ frM v v89 m := by
                  rw [show sHand G (i : Int) (k : Int) (q : Int) c = ((((bn G.1 i).erase (k * 16 + q)).length : Int), recG G (setB G.1 i ((bn G.1 i).erase (k * 16 + q)))) from (by show sHand G _ _ _ _ = _; unfold sHand; rw [cite_f (by unfold isO isP; omega), cite_f (by unfold isNu; omega), Int.toNat_natCast, Int.toNat_natCast, Int.toNat_natCast]; rw [cite_t (by omega), cite_t hdm]), ← setW_id]
                  have hh := hR.rec (v1 := w1) (v2 := v89) hH1 ra rb hF89.1 (hS1.upd hi hL89 (by rw [hF89.2 _ (by omega) (by omega), e1]; exact hb2) (by rw [hF89.2 _ (by omega) (by omega), e1]; exact hb3) hb4 hb5 (fun j hj => by rw [hF89.2 _ (by omega) (by omega)]))
                  exact ⟨rfl, hh.1, hh.2⟩
              exact j_iret X dX5_hand_98 ⟨_, rfl, rfl, hret⟩
          · refine j_goto (tgt := 63) X dX5_hand_53 (by decide) ?_
            refine j_bipush X dX5_hand_63 (by decide) ?_
            first
            | have hret : (-5 : Int) = (sHand G (i : Int) (k : Int) (q : Int) c).1 ∧ MXR v m (sHand G (i : Int) (k : Int) (q : Int) c).2 ∧ frM v v m := by
                rw [show sHand G (i : Int) (k : Int) (q : Int) c = (-5, G) from (by show sHand G _ _ _ _ = _; unfold sHand; rw [cite_f (by unfold isO isP; omega), cite_f (by unfold isNu; omega), Int.toNat_natCast, Int.toNat_natCast, Int.toNat_natCast]; rw [cite_f (by omega), cite_f (by omega)])]
                exact ⟨rfl, hR, frM.refl _ _⟩
            | have hret : (-5 : Int) = (sHand G (i : Int) (k : Int) (q : Int) c).1 ∧ MXR v m (sHand G (i : Int) (k : Int) (q : Int) c).2 ∧ frM v v m := by
                rw [show sHand G (i : Int) (k : Int) (q : Int) c = (-5, G) from (by show sHand G _ _ _ _ = _; unfold sHand; rw [cite_f (by unfold isO isP; omega), cite_f (by unfold isNu; omega), Int.toNat_natCast, Int.toNat_natCast, Int.toNat_natCast]; rw [cite_t (by omega), cite_f (by rcases hlw.erase with h | ⟨d, h1, h2, h3⟩; exact h.2; omega)])]
                exact ⟨rfl, hR, frM.refl _ _⟩
            exact j_iret X dX5_hand_65 ⟨_, rfl, rfl, hret⟩
      · refine j_bipush X dX5_hand_25 (by decide) ?_
        have hret : (-2 : Int) = (sHand G (i : Int) n (q : Int) c).1 ∧ MXR v m (sHand G (i : Int) n (q : Int) c).2 ∧ frM v v m := by
          rw [show sHand G (i : Int) n (q : Int) c = (-2, G) from (cite_f (by unfold isO isP; omega) _ _).trans (cite_t (by unfold isNu; omega) _ _)]
          exact ⟨rfl, hR, frM.refl _ _⟩
        exact j_iret X dX5_hand_27 ⟨_, rfl, rfl, hret⟩
    · refine j_iconst X dX5_hand_16 ?_
      have hret : (-1 : Int) = (sHand G o n p c).1 ∧ MXR v m (sHand G o n p c).2 ∧ frM v v m := by
        rw [show sHand G o n p c = (-1, G) from cite_t (by unfold isO isP; omega) _ _]
        exact ⟨rfl, hR, frM.refl _ _⟩
      exact j_iret X dX5_hand_17 ⟨_, rfl, rfl, hret⟩
