theorem MR.own {r r' : Nat → Int} {S : AS} (h : MR r S) (hn : no S < 8) (h1 : r' 1 = (no S : Int) + 1) (hc : ∀ t, t < 63 → t ≠ 1 → t ≠ 2 → r' (146 + 63 * no S + t) = r (650 + t)) (hw : r' (147 + 63 * no S) = 0) (hl : r' (148 + 63 * no S) = 0) (hr : ∀ j, j ≠ 1 → (j < 146 + 63 * no S ∨ 209 + 63 * no S ≤ j) → r' j = r j) : MR r' (ownA S) := by
  obtain ⟨g1, g2, g3, g4, g5, g6⟩ := h
  refine ⟨OO.kept (S := S) g1 (fun j hj hj1 => hr j hj1 (by omega)), hn, by rw [h1]; show _ = ((no S + 1 : Nat) : Int); omega, g4.kept (fun j a b => hr j (by omega) (by omega)), g5, fun i hi => ?_⟩
  show LR r' i (fset (bn S) (no S) (tx S) i) ∧ r' (147 + 63 * i) = ((fset (wt S) (no S) 0 i : Nat) : Int) ∧ r' (148 + 63 * i) = ((fset (lo_ S) (no S) 0 i : Nat) : Int) ∧ fset (wt S) (no S) 0 i < 65536 ∧ fset (lo_ S) (no S) 0 i < 65536
  have hi : i < no S + 1 := hi
  by_cases q : i = no S
  · subst q
    rw [fset_s, fset_s, fset_s]
    obtain ⟨t1, t2, t3, t4⟩ := g4
    refine ⟨⟨?_, t2, fun k hk => ?_, t4⟩, hw, hl, by omega, by omega⟩
    · have := hc 0 (by omega) (by omega) (by omega)
      exact this.trans t1
    · have := hc (3 + k) (by omega) (by omega) (by omega)
      rw [show 149 + 63 * no S + k = 146 + 63 * no S + (3 + k) by omega, this, show 650 + (3 + k) = 149 + 63 * 8 + k by omega]
      exact t3 k hk
  · rw [fset_n _ _ q, fset_n _ _ q, fset_n _ _ q]
    obtain ⟨t1, t2, t3, t4, t5⟩ := g6 i (by omega)
    exact ⟨t1.kept (fun x a b => hr x (by omega) (by omega)), by rw [hr _ (by omega) (by omega)]; exact t2, by rw [hr _ (by omega) (by omega)]; exact t3, t4, t5⟩
theorem MR.iss {r r' : Nat → Int} {S : AS} {P : List Nat} (h : MR r S) (hF : isF P (-6)) (hn : np S < 16) (h0 : r' 0 = (np S : Int) + 1) (h1 : r' 1 = r 1) (hc : r' (2 + 9 * np S) = ((ordsOf P).length : Int)) (ho : ∀ (k : Nat) (h : k < (ordsOf P).length), r' (3 + 9 * np S + k) = (((ordsOf P)[k]'h : Nat) : Int)) (hL : LR r' 8 (careP (ordsOf P) (np S) (tx S))) (hw : ∀ i, i < no S → r' (147 + 63 * i) = ((wt S i ||| 2 ^ np S : Nat) : Int)) (hr : ∀ j, j ≠ 0 → (j < 2 + 9 * np S ∨ 11 + 9 * np S ≤ j) → j < 146 → r' j = r j) (hr2 : ∀ i, i < no S → ∀ j, 146 + 63 * i ≤ j → j < 209 + 63 * i → j ≠ 147 + 63 * i → r' j = r j) : MR r' (issA S P) := by
  obtain ⟨g1, g2, g3, g4, g5, g6⟩ := h
  obtain ⟨o1, o2, o3⟩ := g1
  refine ⟨⟨by rw [h0]; show _ = ((np S + 1 : Nat) : Int); omega, hn, fun i hi => ?_⟩, g2, by rw [h1]; exact g3, hL, NU_careP hn _ g5, fun i hi => ?_⟩
  · have hi : i < np S + 1 := hi
    show r' (2 + 9 * i) = ((fset (od S) (np S) (ordsOf P) i).length : Int) ∧ (fset (od S) (np S) (ordsOf P) i).length ≤ 8 ∧ (∀ x ∈ fset (od S) (np S) (ordsOf P) i, oko x) ∧ ∀ (k : Nat) (h : k < (fset (od S) (np S) (ordsOf P) i).length), r' (3 + 9 * i + k) = (((fset (od S) (np S) (ordsOf P) i)[k]'h : Nat) : Int)
    by_cases q : i = np S
    · subst q
      simp only [fset_s]
      exact ⟨hc, (ords_len8 hF).2, fun x hx => ord_oko hF hx, ho⟩
    · simp only [fset_n _ _ q]
      obtain ⟨t1, t2, t3, t4⟩ := o3 i (by omega)
      exact ⟨by rw [hr _ (by omega) (by omega) (by omega)]; exact t1, t2, t3, fun k hk => by rw [hr _ (by omega) (by omega) (by omega)]; exact t4 k hk⟩
  · obtain ⟨t1, t2, t3, t4, t5⟩ := g6 i hi
    have hi8 : i < 8 := Nat.lt_of_lt_of_le hi g2
    refine ⟨⟨by rw [hr2 i hi _ (by omega) (by omega) (by omega)]; exact t1.1, t1.2.1, fun k hk => ?_, t1.2.2.2⟩, hw i hi, by rw [hr2 i hi _ (by omega) (by omega) (by omega)]; exact t3, or_lt t4 hn, t5⟩
    have := t1.2.1
    have hk2 : k < (bn S i).length := hk
    rw [hr2 i hi _ (by omega) (by omega) (by omega)]
    exact t1.2.2.1 k hk
def rmX5_own : Room := { frames := 2, cells := 0, slots := 0, locals := 45 }
set_option maxHeartbeats 4000000 in
set_option maxRecDepth 100000 in
theorem c_X5_own (l : Launch) (D : va_G) (nH : Nat) (sk : Sk) (v : Mem) (m : Nat) (G : GS) (hM : Md D sk m) (hR : MXR v m G) : CtI l D yX5_own wsX5_own rmX5_own [.ref m] nH sk v (fun z v' => z = (sOwn G).1 ∧ MXR v' m (sOwn G).2 ∧ frM v v' m) := by
  refine ct_of (cc := cX5_own) (maxL := 3) (ret := (some .int)) rfl rfl (Nat.le_of_ble_eq_true rfl) ?_
  intro p_ e_ s_ m_ args_ below_ meth_ c_ X hmn hsz
  have hinX5 : ∀ w ∈ wsX50, w ∈ wsX5_own := by decide +kernel
  obtain ⟨m0, m1, m2, m3, m4, m5, m6, m7, m8, m9, m10⟩ := id hM
  obtain ⟨hR1, hR2, hR3, hR4⟩ := id hR
  obtain ⟨hOO, hno8, hno, hT, hNU, hBB⟩ := id hR1
  obtain ⟨o1, o2, o3⟩ := id hOO
  obtain ⟨hp0, hp1, hp2, hp3⟩ := id hR4
  refine j_aload_n X dX5_own_0 rfl ?_
  refine j_getr X dX5_own_1 (T := TX5) (N := 13) (C := RX5) hinX5 rfl (by assumption) 0 (by decide) (by decide +kernel) rfl ?_
  refine j_iconst X dX5_own_4 ?_
  refine j_ialN X dX5_own_5 (by assumption) (1) (by omega) (by omega) (by decide) ?_
  rw [hno]
  refine j_bipush X dX5_own_6 (by decide) ?_
  refine j_icmp_ne (tgt := 14) X dX5_own_8 (by omega) (by decide) (fun c8 => ?_) (fun c8 => ?_)
  · refine j_aload_n X dX5_own_14 rfl ?_
    refine j_callV (nn := 0) X dX5_own_15 (c_X5_record l D nH sk v m G.2.1 G.1 hM hR2 hR1) gX5_own_X5_record rfl ⟨rfl, rfl⟩ (by decide +kernel) ⟨Nat.le_of_ble_eq_true rfl, Nat.le_of_ble_eq_true rfl⟩ (by assumption) ⟨rfl, rfl⟩ rfl rfl (Nat.le_of_ble_eq_true rfl) ⟨Nat.zero_le _, Nat.zero_le _⟩ (kV (fun w1 h15 => ?_))
    obtain ⟨hH1, ra, rb⟩ := h15
    have e1 : w1 (m + 1) = v (m + 1) := rb (m + 1) (by omega) (by omega)
    have hS1 : MR (w1 (m + 1)) G.1 := by rw [e1]; exact hR1
    refine j_aload_n X dX5_own_18 rfl ?_
    refine j_getr X dX5_own_19 (T := TX5) (N := 13) (C := RX5) hinX5 rfl (by assumption) 0 (by decide) (by decide +kernel) rfl ?_
    refine j_iconst X dX5_own_22 ?_
    refine j_ialN X dX5_own_23 (by assumption) (1) (by omega) (by omega) (by decide) ?_
    rw [show w1 (m + 1) 1 = (no G.1 : Int) by rw [e1]; exact hno]
    refine j_istore_n X dX5_own_24 rfl (Nat.le_of_ble_eq_true rfl) ?_
    refine j_iconst X dX5_own_25 ?_
    refine j_istore_n X dX5_own_26 rfl (Nat.le_of_ble_eq_true rfl) ?_
    have hn8 : no G.1 < 8 := by omega
    refine j_loop (σ := Nat × Mem) (fun (y_ : Nat × Mem) => match y_ with | (j, u) => j ≤ 63 ∧ (∀ t, t < j → u (m + 1) (146 + 63 * no G.1 + t) = v (m + 1) (650 + t)) ∧ (∀ x, (x < 146 + 63 * no G.1 ∨ 209 + 63 * no G.1 ≤ x) → u (m + 1) x = v (m + 1) x) ∧ ∀ a, a ≠ m + 1 → u a = w1 a) (fun (y_ : Nat × Mem) => match y_ with | (j, u) => 63 - j) (fun (y_ : Nat × Mem) => match y_ with | (j, u) => (u, [some (.ref m), some (.int (I (no G.1 : Int))), some (.int (I (j : Int)))])) ?_ (0, w1) ⟨by omega, fun t h => absurd h (by omega), fun x _ => by rw [e1], fun _ _ => rfl⟩
    intro y_ hx ih27
    obtain ⟨j, u⟩ := y_
    dsimp only at hx ih27 ⊢
    obtain ⟨hj, hu1, hu2, hu3⟩ := hx
    refine j_iload_n X dX5_own_27 rfl ?_
    refine j_bipush X dX5_own_28 (by decide) ?_
    refine j_icmp_ge (tgt := 52) X dX5_own_30 (by omega) (by decide) (fun c30 => ?_) (fun c30 => ?_)
    · refine j_aload_n X dX5_own_52 rfl ?_
      refine j_iload_n X dX5_own_53 rfl ?_
      refine j_iconst X dX5_own_54 ?_
      refine j_iconst X dX5_own_55 ?_
      refine j_callV (nn := 3) X dX5_own_56 (c_X5_setPart l D nH sk u m (no G.1) (1) _ _ _ hM (by omega) (by omega) (by omega) (by omega)) gX5_own_X5_setPart rfl ⟨rfl, rfl⟩ (by decide +kernel) ⟨Nat.le_of_ble_eq_true rfl, Nat.le_of_ble_eq_true rfl⟩ (by assumption) ⟨rfl, rfl⟩ rfl rfl (Nat.le_of_ble_eq_true rfl) ⟨Nat.zero_le _, Nat.zero_le _⟩ (kV (fun v56 h56 => ?_))
      obtain ⟨f56, g56, n56⟩ := h56
      refine j_aload_n X dX5_own_59 rfl ?_
      refine j_iload_n X dX5_own_60 rfl ?_
      refine j_iconst X dX5_own_61 ?_
      refine j_iconst X dX5_own_62 ?_
      refine j_callV (nn := 3) X dX5_own_63 (c_X5_setPart l D nH sk v56 m (no G.1) (2) _ _ _ hM (by omega) (by omega) (by omega) (by omega)) gX5_own_X5_setPart rfl ⟨rfl, rfl⟩ (by decide +kernel) ⟨Nat.le_of_ble_eq_true rfl, Nat.le_of_ble_eq_true rfl⟩ (by assumption) ⟨rfl, rfl⟩ rfl rfl (Nat.le_of_ble_eq_true rfl) ⟨Nat.zero_le _, Nat.zero_le _⟩ (kV (fun v63 h63 => ?_))
      obtain ⟨f63, g63, n63⟩ := h63
      refine j_aload_n X dX5_own_66 rfl ?_
      refine j_getr X dX5_own_67 (T := TX5) (N := 13) (C := RX5) hinX5 rfl (by assumption) 0 (by decide) (by decide +kernel) rfl ?_
      refine j_iconst X dX5_own_70 ?_
      refine j_dup2 X dX5_own_71 rfl rfl ?_
      refine j_ialN X dX5_own_72 (by assumption) (1) (by omega) (by omega) (by decide) ?_
      rw [show v63 (m + 1) 1 = (no G.1 : Int) by rw [g63 _ (by omega), g56 _ (by omega), hu2 _ (by omega)]; exact hno]
      refine j_iconst X dX5_own_73 ?_
      refine j_iadd X dX5_own_74 ?_
      refine j_iasN X dX5_own_75 (by assumption) (1) (by omega) (by omega) (by decide) (fun u75 f75 g75 n75 => ?_)
      refine j_iload_n X dX5_own_76 rfl ?_
      have hret : (no G.1 : Int) = (sOwn G).1 ∧ MXR u75 m (sOwn G).2 ∧ frM v u75 m := by
        rw [show sOwn G = ((no G.1 : Int), recG G (ownA G.1)) from cite_f (by omega) _ _]
        have hj63 : j = 63 := by omega
        have hh := hR.rec (v1 := w1) (v2 := u75) hH1 ra rb (fun a ha => by rw [n75 a ha, n63 a ha, n56 a ha, hu3 a ha]) (hR1.own hn8 f75 (fun t h0 h1 h2 => by rw [g75 _ (by omega), g63 _ (by omega), g56 _ (by omega)]; exact hu1 t (by omega)) (by rw [g75 _ (by omega), g63 _ (by omega), show 147 + 63 * no G.1 = 146 + 63 * no G.1 + 1 by omega]; exact f56) (by rw [g75 _ (by omega), show 148 + 63 * no G.1 = 146 + 63 * no G.1 + 2 by omega]; exact f63) (fun x h1 h2 => by rw [g75 _ h1, g63 _ (by omega), g56 _ (by omega)]; exact hu2 x h2))
        exact ⟨rfl, hh.1, hh.2⟩
      exact j_iret X dX5_own_77 ⟨_, rfl, rfl, hret⟩
    · refine j_aload_n X dX5_own_33 rfl ?_
      refine j_iload_n X dX5_own_34 rfl ?_
      refine j_iload_n X dX5_own_35 rfl ?_
      have hu65 : u (m + 1) (650 + j) = v (m + 1) (650 + j) := hu2 _ (by omega)
      refine j_aload_n X dX5_own_36 rfl ?_
      refine j_bipush X dX5_own_37 (by decide) ?_
      refine j_iload_n X dX5_own_39 rfl ?_
      refine j_callV (nn := 2) X dX5_own_40 (c_X5_part l D nH sk u m 8 (j) _ _ hM (by omega) (by omega) (by omega) (by omega)) gX5_own_X5_part rfl ⟨rfl, rfl⟩ (by decide +kernel) ⟨Nat.le_of_ble_eq_true rfl, Nat.le_of_ble_eq_true rfl⟩ (by assumption) ⟨rfl, rfl⟩ rfl rfl (Nat.le_of_ble_eq_true rfl) ⟨Nat.zero_le _, Nat.zero_le _⟩ (kI (fun z40 v40 h40 => ?_))
      obtain ⟨rfl, rfl⟩ := h40
      rw [show u (m + 1) (146 + 63 * 8 + (j)) = u (m + 1) (650 + j) from rfl]
      refine j_callV (nn := 3) X dX5_own_43 (c_X5_setPart l D nH sk u m (no G.1) (j) _ _ _ hM (by omega) (by omega) (by omega) (by omega)) gX5_own_X5_setPart rfl ⟨rfl, rfl⟩ (by decide +kernel) ⟨Nat.le_of_ble_eq_true rfl, Nat.le_of_ble_eq_true rfl⟩ (by assumption) ⟨rfl, rfl⟩ rfl rfl (Nat.le_of_ble_eq_true rfl) ⟨Nat.zero_le _, Nat.zero_le _⟩ (kV (fun v43 h43 => ?_))
      obtain ⟨f43, g43, n43⟩ := h43
      refine j_iinc X dX5_own_46 rfl rfl (Nat.le_of_ble_eq_true rfl) ?_
      refine j_goto (tgt := 27) X dX5_own_49 (by decide) ?_
      exact ih27 (j + 1, v43) (by (try dsimp only); exact ⟨by omega, fun t ht => by
  by_cases q : t = j
  · rw [q, f43]; exact hu65
  · rw [g43 _ (by omega)]; exact hu1 t (by omega), fun x hx => by rw [g43 _ (by omega)]; exact hu2 x hx, fun a ha => by rw [n43 a ha]; exact hu3 a ha⟩) (by (try dsimp only); omega)
  · refine j_bipush X dX5_own_11 (by decide) ?_
    have hret : (-4 : Int) = (sOwn G).1 ∧ MXR v m (sOwn G).2 ∧ frM v v m := by
      rw [show sOwn G = (-4, G) from cite_t (by omega) _ _]
      exact ⟨rfl, hR, frM.refl _ _⟩
    exact j_iret X dX5_own_13 ⟨_, rfl, rfl, hret⟩
def rmX5_issue : Room := { frames := 4, cells := 0, slots := 0, locals := 96 }
set_option maxHeartbeats 4000000 in
set_option maxRecDepth 100000 in
theorem c_X5_issue (l : Launch) (D : va_G) (nH : Nat) (sk : Sk) (v : Mem) (m : Nat) (G : GS) (hM : Md D sk m) (hR : MXR v m G) : CtI l D yX5_issue wsX5_issue rmX5_issue [.ref m] nH sk v (fun z v' => z = (sIssue G).1 ∧ MXR v' m (sIssue G).2 ∧ frM v v' m) := by
  refine ct_of (cc := cX5_issue) (maxL := 3) (ret := (some .int)) rfl rfl (Nat.le_of_ble_eq_true rfl) ?_
  intro p_ e_ s_ m_ args_ below_ meth_ c_ X hmn hsz
  have hinX5 : ∀ w ∈ wsX50, w ∈ wsX5_issue := by decide +kernel
  obtain ⟨m0, m1, m2, m3, m4, m5, m6, m7, m8, m9, m10⟩ := id hM
  obtain ⟨hR1, hR2, hR3, hR4⟩ := id hR
  obtain ⟨hOO, hno8, hno, hT, hNU, hBB⟩ := id hR1
  obtain ⟨o1, o2, o3⟩ := id hOO
  obtain ⟨hp0, hp1, hp2, hp3⟩ := id hR4
  refine j_aload_n X dX5_issue_0 rfl ?_
  refine j_callV (nn := 0) X dX5_issue_1 (c_X5_findFault l D nH sk v m G.2.2.2 hM hR4) gX5_issue_X5_findFault rfl ⟨rfl, rfl⟩ (by decide +kernel) ⟨Nat.le_of_ble_eq_true rfl, Nat.le_of_ble_eq_true rfl⟩ (by assumption) ⟨rfl, rfl⟩ rfl rfl (Nat.le_of_ble_eq_true rfl) ⟨Nat.zero_le _, Nat.zero_le _⟩ (kI (fun z1 v1 h1 => ?_))
  obtain ⟨hF, hfa, hfb, hfo⟩ := h1
  have hfw : frW v v1 m := ⟨fun j _ => by rw [hfb _ (by omega) (by omega)], hfa, fun a ha => hfb a (by omega) (by omega), fun a ha => hfb a (by omega) (by omega)⟩
  have hFb := hF.bd
  obtain ⟨hQ1, hQ2, hQ3, hQ4⟩ := id (hR.w hfw)
  have hv1 : v1 (m + 1) = v (m + 1) := hfb _ (by omega) (by omega)
  refine j_bipush X dX5_issue_4 (by decide) ?_
  refine j_icmp_eq (tgt := 12) X dX5_issue_6 (by omega) (by decide) (fun c6 => ?_) (fun c6 => ?_)
  · obtain ⟨hfo1, hfo2⟩ := hfo c6
    rw [c6] at hF
    refine j_aload_n X dX5_issue_12 rfl ?_
    refine j_callV (nn := 0) X dX5_issue_13 (c_X5_comesTwice l D nH sk v1 m (ordsOf G.2.2.2) hM hfo1 (ords_len8 hF).2 hfo2 (fun x hx => ord_oko hF hx)) gX5_issue_X5_comesTwice rfl ⟨rfl, rfl⟩ (by decide +kernel) ⟨Nat.le_of_ble_eq_true rfl, Nat.le_of_ble_eq_true rfl⟩ (by assumption) ⟨rfl, rfl⟩ rfl rfl (Nat.le_of_ble_eq_true rfl) ⟨Nat.zero_le _, Nat.zero_le _⟩ (kI (fun z13 v13 h13 => ?_))
    obtain ⟨hz13a, hz13b, rfl⟩ := h13
    refine j_if_eq (tgt := 22) X dX5_issue_16 (by omega) (by decide) (fun c16 => ?_) (fun c16 => ?_)
    · refine j_aload_n X dX5_issue_22 rfl ?_
      refine j_getr X dX5_issue_23 (T := TX5) (N := 13) (C := RX5) hinX5 rfl (by assumption) 0 (by decide) (by decide +kernel) rfl ?_
      refine j_iconst X dX5_issue_26 ?_
      refine j_ialN X dX5_issue_27 (by assumption) (0) (by omega) (by omega) (by decide) ?_
      rw [show v1 (m + 1) 0 = (np G.1 : Int) by rw [hv1]; exact o1]
      refine j_bipush X dX5_issue_28 (by decide) ?_
      refine j_icmp_ne (tgt := 36) X dX5_issue_30 (by omega) (by decide) (fun c30 => ?_) (fun c30 => ?_)
      · have hn16 : np G.1 < 16 := by omega
        have hl8 := ords_len8 hF
        have hntw : ¬ twice (ordsOf G.2.2.2) := fun h => by have := hz13b.mpr h; omega
        refine j_aload_n X dX5_issue_36 rfl ?_
        refine j_callV (nn := 0) X dX5_issue_37 (c_X5_record l D nH sk v1 m G.2.1 G.1 hM hQ2 hQ1) gX5_issue_X5_record rfl ⟨rfl, rfl⟩ (by decide +kernel) ⟨Nat.le_of_ble_eq_true rfl, Nat.le_of_ble_eq_true rfl⟩ (by assumption) ⟨rfl, rfl⟩ rfl rfl (Nat.le_of_ble_eq_true rfl) ⟨Nat.zero_le _, Nat.zero_le _⟩ (kV (fun w1 h37 => ?_))
        obtain ⟨hH1, ra, rb⟩ := h37
        have e1 : w1 (m + 1) = v1 (m + 1) := rb (m + 1) (by omega) (by omega)
        have hS1 : MR (w1 (m + 1)) G.1 := by rw [e1]; exact hQ1
        refine j_aload_n X dX5_issue_40 rfl ?_
        refine j_getr X dX5_issue_41 (T := TX5) (N := 13) (C := RX5) hinX5 rfl (by assumption) 0 (by decide) (by decide +kernel) rfl ?_
        refine j_iconst X dX5_issue_44 ?_
        refine j_ialN X dX5_issue_45 (by assumption) (0) (by omega) (by omega) (by decide) ?_
        rw [show w1 (m + 1) 0 = (np G.1 : Int) by rw [e1, hv1]; exact o1]
        refine j_istore_n X dX5_issue_46 rfl (Nat.le_of_ble_eq_true rfl) ?_
        refine j_aload_n X dX5_issue_47 rfl ?_
        refine j_getr X dX5_issue_48 (T := TX5) (N := 13) (C := RX5) hinX5 rfl (by assumption) 0 (by decide) (by decide +kernel) rfl ?_
        refine j_iconst X dX5_issue_51 ?_
        refine j_bipush X dX5_issue_52 (by decide) ?_
        refine j_iload_n X dX5_issue_54 rfl ?_
        refine j_imul X dX5_issue_55 ?_
        refine j_iadd X dX5_issue_56 ?_
        refine j_aload_n X dX5_issue_57 rfl ?_
        refine j_geti X dX5_issue_58 (T := TX5) (N := 13) (C := RX5) hinX5 rfl (by assumption) 9 (by decide) (by decide +kernel) rfl ?_
        rw [show w1 m 9 = ((ordsOf G.2.2.2).length : Int) by rw [ra _ (by omega)]; exact hfo1]
        refine j_iasN X dX5_issue_61 (by assumption) (2 + 9 * np G.1) (by omega) (by omega) (by decide) (fun u61 f61 g61 n61 => ?_)
        refine j_iconst X dX5_issue_62 ?_
        refine j_istore_n X dX5_issue_63 rfl (Nat.le_of_ble_eq_true rfl) ?_
        refine j_loop (σ := Nat × Mem) (fun (y_ : Nat × Mem) => match y_ with | (k, u) => k ≤ 8 ∧ u (m + 1) (2 + 9 * np G.1) = ((ordsOf G.2.2.2).length : Int) ∧ (∀ t, t < k → u (m + 1) (3 + 9 * np G.1 + t) = (((ordsOf G.2.2.2).getD t 0 : Nat) : Int)) ∧ (∀ x, x ≠ 2 + 9 * np G.1 → (x < 3 + 9 * np G.1 ∨ 11 + 9 * np G.1 ≤ x) → u (m + 1) x = w1 (m + 1) x) ∧ ∀ a, a ≠ m + 1 → u a = w1 a) (fun (y_ : Nat × Mem) => match y_ with | (k, u) => 8 - k) (fun (y_ : Nat × Mem) => match y_ with | (k, u) => (u, [some (.ref m), some (.int (I (np G.1 : Int))), some (.int (I (k : Int)))])) ?_ (0, u61) ⟨by omega, f61, fun t h => absurd h (by omega), fun x h1 h2 => g61 x h1, n61⟩
        intro y_ hx ih64
        obtain ⟨k, u⟩ := y_
        dsimp only at hx ih64 ⊢
        obtain ⟨hk, hu0, hu1, hu2, hu3⟩ := hx
        refine j_iload_n X dX5_issue_64 rfl ?_
        refine j_bipush X dX5_issue_65 (by decide) ?_
        refine j_icmp_ge (tgt := 109) X dX5_issue_67 (by omega) (by decide) (fun c67 => ?_) (fun c67 => ?_)
        · have hk8 : k = 8 := by omega
          subst hk8
          refine j_aload_n X dX5_issue_109 rfl ?_
          refine j_getr X dX5_issue_110 (T := TX5) (N := 13) (C := RX5) hinX5 rfl (by assumption) 0 (by decide) (by decide +kernel) rfl ?_
          refine j_iconst X dX5_issue_113 ?_
          refine j_dup2 X dX5_issue_114 rfl rfl ?_
          refine j_ialN X dX5_issue_115 (by assumption) (0) (by omega) (by omega) (by decide) ?_
          rw [show u (m + 1) 0 = (np G.1 : Int) by rw [hu2 _ (by omega) (by omega), e1, hv1]; exact o1]
          refine j_iconst X dX5_issue_116 ?_
          refine j_iadd X dX5_issue_117 ?_
          refine j_iasN X dX5_issue_118 (by assumption) (0) (by omega) (by omega) (by decide) (fun u118 f118 g118 n118 => ?_)
          refine j_aload_n X dX5_issue_119 rfl ?_
          refine j_iconst X dX5_issue_120 ?_
          skip
          refine j_putU X dX5_issue_121 (T := TX5) (N := 13) (C := RX5) hinX5 rfl (by assumption) 7 (by decide) tyX5 tyX5_ok nmX5 rfl rfl rfl (by decide +kernel) (fun u121 f121 g121 n121 => ?_)
          have r121 : ∀ j, j ≠ 0 → (j < 2 + 9 * np G.1 ∨ 11 + 9 * np G.1 ≤ j) → u121 (m + 1) j = v (m + 1) j := fun j h1 h2 => by rw [n121 _ (by omega), g118 j h1, hu2 j (by omega) (by omega), e1, hv1]
          have hL121 : LR (u121 (m + 1)) 8 (tx G.1) := hT.kept (fun j a b => r121 j (by omega) (by omega))
          have hc121 : u121 (m + 1) (2 + 9 * np G.1) = ((ordsOf G.2.2.2).length : Int) := by rw [n121 _ (by omega), g118 _ (by omega)]; exact hu0
          have ho121 : ∀ (k : Nat) (h : k < (ordsOf G.2.2.2).length), u121 (m + 1) (3 + 9 * np G.1 + k) = (((ordsOf G.2.2.2)[k]'h : Nat) : Int) := fun k hk => by rw [n121 _ (by omega), g118 _ (by omega), hu1 k (by omega), getD_at hk]
          have hf121 : ∀ a, a ≠ m → a ≠ m + 1 → u121 a = w1 a := fun a h1 h2 => by rw [n121 a h1, n118 a h2, hu3 a h2]
          have hm121 : ∀ j, j ≠ 7 → u121 m j = w1 m j := fun j hj => by rw [g121 j hj, n118 _ (by omega), hu3 _ (by omega)]
          refine j_aload_n X dX5_issue_124 rfl ?_
          refine j_bipush X dX5_issue_125 (by decide) ?_
          refine j_iload_n X dX5_issue_127 rfl ?_
          refine j_iconst X dX5_issue_128 ?_
          refine j_callV (nn := 3) X dX5_issue_129 (c_X5_doParcel l D nH sk u121 m 8 (np G.1) _ _ 1 (tx G.1) (ordsOf G.2.2.2) hM (by omega) (by omega) hL121 (by omega) hn16 (Or.inr rfl) hc121 hl8.2 (fun x hx => ord_oko hF hx) ho121) gX5_issue_X5_doParcel rfl ⟨rfl, rfl⟩ (by decide +kernel) ⟨Nat.le_of_ble_eq_true rfl, Nat.le_of_ble_eq_true rfl⟩ (by assumption) ⟨rfl, rfl⟩ rfl rfl (Nat.le_of_ble_eq_true rfl) ⟨Nat.zero_le _, Nat.zero_le _⟩ (kV (fun v129 h129 => ?_))
          obtain ⟨hL129, hF129⟩ := h129
          rw [stp_1] at hL129
          refine j_iconst X dX5_issue_132 ?_
          refine j_istore_n X dX5_issue_133 rfl (Nat.le_of_ble_eq_true rfl) ?_
          refine j_loop (σ := Nat × Mem) (fun (y_ : Nat × Mem) => match y_ with | (i, u) => i ≤ no G.1 ∧ (∀ t, t < i → u (m + 1) (147 + 63 * t) = ((wt G.1 t ||| 2 ^ np G.1 : Nat) : Int)) ∧ (∀ t, i ≤ t → t < no G.1 → u (m + 1) (147 + 63 * t) = (wt G.1 t : Int)) ∧ (∀ x, (∀ t, t < no G.1 → x ≠ 147 + 63 * t) → (x < 650 → x = x) → u (m + 1) x = v129 (m + 1) x) ∧ ∀ a, a ≠ m + 1 → u a = v129 a) (fun (y_ : Nat × Mem) => match y_ with | (i, u) => no G.1 - i) (fun (y_ : Nat × Mem) => match y_ with | (i, u) => (u, [some (.ref m), some (.int (I (np G.1 : Int))), some (.int (I (i : Int)))])) ?_ (0, v129) ⟨by omega, fun t h => absurd h (by omega), fun t h1 h2 => by
  rw [hF129.2 _ (by omega) (by omega), r121 _ (by omega) (by omega)]
  exact (hBB t h2).2.1, fun _ _ _ => rfl, fun _ _ => rfl⟩
          intro y_ hx ih134
          obtain ⟨i, u⟩ := y_
          dsimp only at hx ih134 ⊢
          obtain ⟨hi, hud, huw, hux, hua⟩ := hx
          have huo : ∀ x, x < 146 → (x < 650 → x = x) → u (m + 1) x = v129 (m + 1) x := fun x h1 h2 => hux x (fun t ht => by omega) h2
          refine j_iload_n X dX5_issue_134 rfl ?_
          refine j_aload_n X dX5_issue_135 rfl ?_
          refine j_getr X dX5_issue_136 (T := TX5) (N := 13) (C := RX5) hinX5 rfl (by assumption) 0 (by decide) (by decide +kernel) rfl ?_
          refine j_iconst X dX5_issue_139 ?_
          refine j_ialN X dX5_issue_140 (by assumption) (1) (by omega) (by omega) (by decide) ?_
          rw [show u (m + 1) 1 = (no G.1 : Int) by rw [huo _ (by omega) (by omega), hF129.2 _ (by omega) (by omega), r121 _ (by omega) (by omega)]; exact hno]
          refine j_icmp_ge (tgt := 166) X dX5_issue_141 (by omega) (by decide) (fun c141 => ?_) (fun c141 => ?_)
          · refine j_iload_n X dX5_issue_166 rfl ?_
            have hret : (np G.1 : Int) = (sIssue G).1 ∧ MXR u m (sIssue G).2 ∧ frM v u m := by
              rw [show sIssue G = ((np G.1 : Int), (issA G.1 G.2.2.2, recH G.2.1 G.1, G.2.2.1, [])) from (cite_f (fun h => h hF) _ _).trans ((cite_f hntw _ _).trans (cite_f (by omega) _ _))]
              have hin : i = no G.1 := by omega
              subst hin
              have hm : ∀ j, j ≠ 7 → u m j = w1 m j := fun j hj => by rw [hua _ (by omega), hF129.1 _ (by omega), hm121 j hj]
              have hfa2 : ∀ a, a ≠ m → a ≠ m + 1 → u a = w1 a := fun a h1 h2 => by rw [hua a h2, hF129.1 a h2, hf121 a h1 h2]
              refine ⟨rfl, ⟨?_, hH1.kept (hm _ (by omega)) (hfa2 _ (by omega) (by omega)), hQ3.kept (by rw [hfa2 _ (by omega) (by omega), rb _ (by omega) (by omega)]) (by rw [hfa2 _ (by omega) (by omega), rb _ (by omega) (by omega)]), ⟨?_, by simp, fun k h => absurd h (by simp), fun x h => absurd h (by simp)⟩⟩, fun a ha => by rw [hfa2 _ (by omega) (by omega), rb _ (by omega) (by omega), hfb _ (by omega) (by omega)]⟩
              · refine hR1.iss hF hn16 ?_ ?_ ?_ ?_ ?_ hud ?_ ?_
                · rw [huo _ (by omega) (fun _ => rfl), hF129.2 _ (by omega) (by omega), n121 _ (by omega)]; exact f118
                · rw [huo _ (by omega) (fun _ => rfl), hF129.2 _ (by omega) (by omega), r121 _ (by omega) (by omega)]
                · rw [huo _ (by omega) (fun _ => rfl), hF129.2 _ (by omega) (by omega)]; exact hc121
                · intro k hk
                  rw [huo _ (by omega) (fun _ => rfl), hF129.2 _ (by omega) (by omega)]; exact ho121 k hk
                · exact hL129.kept (fun j a b => hux j (fun t ht => by omega) (fun _ => rfl))
                · intro j h1 h2 h3
                  rw [huo _ h3 (fun _ => rfl), hF129.2 _ (by omega) (by omega), r121 _ h1 (by omega)]
                · intro i hi j h1 h2 h3
                  rw [hux j (fun t ht => by omega) (fun _ => rfl), hF129.2 _ (by omega) (by omega), r121 _ (by omega) (by omega)]
              · rw [hua _ (by omega), hF129.1 _ (by omega)]; exact f121
            exact j_iret X dX5_issue_167 ⟨_, rfl, rfl, hret⟩
          · have hi2 : i < no G.1 := by omega
            obtain ⟨hb1, hb2, hb3, hb4, hb5⟩ := hBB i hi2
            refine j_aload_n X dX5_issue_144 rfl ?_
            refine j_iload_n X dX5_issue_145 rfl ?_
            refine j_iconst X dX5_issue_146 ?_
            refine j_aload_n X dX5_issue_147 rfl ?_
            refine j_iload_n X dX5_issue_148 rfl ?_
            refine j_iconst X dX5_issue_149 ?_
            refine j_callV (nn := 2) X dX5_issue_150 (c_X5_part l D nH sk u m i (1) _ _ hM (by omega) (by omega) (by omega) (by omega)) gX5_issue_X5_part rfl ⟨rfl, rfl⟩ (by decide +kernel) ⟨Nat.le_of_ble_eq_true rfl, Nat.le_of_ble_eq_true rfl⟩ (by assumption) ⟨rfl, rfl⟩ rfl rfl (Nat.le_of_ble_eq_true rfl) ⟨Nat.zero_le _, Nat.zero_le _⟩ (kI (fun z150 v150 h150 => ?_))
            obtain ⟨rfl, rfl⟩ := h150
            rw [show u (m + 1) (146 + 63 * i + (1)) = (wt G.1 i : Int) by rw [show 146 + 63 * i + 1 = 147 + 63 * i by omega]; exact huw i (Nat.le_refl _) hi2]
            refine j_iconst X dX5_issue_153 ?_
            refine j_iload_n X dX5_issue_154 rfl ?_
            refine j_ishl X dX5_issue_155 (b_shl (by omega)) ?_
            refine j_ior X dX5_issue_156 (b_or _ _) ?_
            refine j_callV (nn := 3) X dX5_issue_157 (c_X5_setPart l D nH sk u m i (1) _ _ _ hM (by omega) (by omega) (by omega) (by omega)) gX5_issue_X5_setPart rfl ⟨rfl, rfl⟩ (by decide +kernel) ⟨Nat.le_of_ble_eq_true rfl, Nat.le_of_ble_eq_true rfl⟩ (by assumption) ⟨rfl, rfl⟩ rfl rfl (Nat.le_of_ble_eq_true rfl) ⟨Nat.zero_le _, Nat.zero_le _⟩ (kV (fun v157 h157 => ?_))
            obtain ⟨f157, g157, n157⟩ := h157
            refine j_iinc X dX5_issue_160 rfl rfl (Nat.le_of_ble_eq_true rfl) ?_
            refine j_goto (tgt := 134) X dX5_issue_163 (by decide) ?_
            exact ih134 (i + 1, v157) (by (try dsimp only); exact ⟨by omega, fun t ht => by
  by_cases q : t = i
  · rw [q, show 147 + 63 * i = 146 + 63 * i + 1 by omega]; exact f157
  · rw [g157 _ (by omega)]; exact hud t (by omega), fun t h1 h2 => by rw [g157 _ (by omega)]; exact huw t (by omega) h2, fun x h1 h2 => by rw [g157 _ (by have := h1 i hi2; omega)]; exact hux x h1 h2, fun a ha => by rw [n157 a ha]; exact hua a ha⟩) (by (try dsimp only); omega)
        · refine j_aload_n X dX5_issue_70 rfl ?_
          refine j_getr X dX5_issue_71 (T := TX5) (N := 13) (C := RX5) hinX5 rfl (by assumption) 0 (by decide) (by decide +kernel) rfl ?_
          refine j_iconst X dX5_issue_74 ?_
          refine j_bipush X dX5_issue_75 (by decide) ?_
          refine j_iload_n X dX5_issue_77 rfl ?_
          refine j_imul X dX5_issue_78 ?_
          refine j_iadd X dX5_issue_79 ?_
          refine j_iconst X dX5_issue_80 ?_
          refine j_iadd X dX5_issue_81 ?_
          refine j_iload_n X dX5_issue_82 rfl ?_
          refine j_iadd X dX5_issue_83 ?_
          refine j_iload_n X dX5_issue_84 rfl ?_
          refine j_aload_n X dX5_issue_85 rfl ?_
          refine j_geti X dX5_issue_86 (T := TX5) (N := 13) (C := RX5) hinX5 rfl (by assumption) 9 (by decide) (by decide +kernel) rfl ?_
          rw [show u m 9 = ((ordsOf G.2.2.2).length : Int) by rw [hu3 _ (by omega), ra _ (by omega)]; exact hfo1]
          refine j_icmp_ge (tgt := 101) X dX5_issue_89 (by omega) (by decide) (fun c89 => ?_) (fun c89 => ?_)
          · refine j_iconst X dX5_issue_101 ?_
            refine j_iasN X dX5_issue_102 (by assumption) (3 + 9 * np G.1 + k) (by omega) (by omega) (by decide) (fun u102 f102 g102 n102 => ?_)
            refine j_iinc X dX5_issue_103 rfl rfl (Nat.le_of_ble_eq_true rfl) ?_
            refine j_goto (tgt := 64) X dX5_issue_106 (by decide) ?_
            exact ih64 (k + 1, u102) (by (try dsimp only); exact ⟨by omega, by rw [g102 _ (by omega)]; exact hu0, fun t ht => by
  by_cases q : t = k
  · rw [q, f102]
    first
    | (rw [getD_at (show k < (ordsOf G.2.2.2).length by omega)]; done)
    | (rw [List.getD_eq_getElem?_getD, List.getElem?_eq_none (by omega)]; rfl)
  · rw [g102 _ (by omega)]; exact hu1 t (by omega), fun x h1 h2 => by rw [g102 x (by omega)]; exact hu2 x h1 h2, fun a ha => by rw [n102 a ha]; exact hu3 a ha⟩) (by (try dsimp only); omega)
          · refine j_aload_n X dX5_issue_92 rfl ?_
            refine j_getr X dX5_issue_93 (T := TX5) (N := 13) (C := RX5) hinX5 rfl (by assumption) 8 (by decide) (by decide +kernel) rfl ?_
            refine j_iload_n X dX5_issue_96 rfl ?_
            refine j_ialN X dX5_issue_97 (by assumption) (k) (by omega) (by omega) (by decide) ?_
            rw [show u (m + 7) k = (((ordsOf G.2.2.2)[k]'(by omega) : Nat) : Int) by rw [hu3 _ (by omega), rb _ (by omega) (by omega)]; exact hfo2 k (by omega)]
            refine j_goto (tgt := 102) X dX5_issue_98 (by decide) ?_
            refine j_iasN X dX5_issue_102 (by assumption) (3 + 9 * np G.1 + k) (by omega) (by omega) (by decide) (fun u102 f102 g102 n102 => ?_)
            refine j_iinc X dX5_issue_103 rfl rfl (Nat.le_of_ble_eq_true rfl) ?_
            refine j_goto (tgt := 64) X dX5_issue_106 (by decide) ?_
            exact ih64 (k + 1, u102) (by (try dsimp only); exact ⟨by omega, by rw [g102 _ (by omega)]; exact hu0, fun t ht => by
  by_cases q : t = k
  · rw [q, f102]
    first
    | (rw [getD_at (show k < (ordsOf G.2.2.2).length by omega)]; done)
    | (rw [List.getD_eq_getElem?_getD, List.getElem?_eq_none (by omega)]; rfl)
  · rw [g102 _ (by omega)]; exact hu1 t (by omega), fun x h1 h2 => by rw [g102 x (by omega)]; exact hu2 x h1 h2, fun a ha => by rw [n102 a ha]; exact hu3 a ha⟩) (by (try dsimp only); omega)
      · refine j_bipush X dX5_issue_33 (by decide) ?_
        have hret : (-4 : Int) = (sIssue G).1 ∧ MXR v1 m (sIssue G).2 ∧ frM v v1 m := by
          rw [show sIssue G = (-4, G) from (cite_f (fun h => h hF) _ _).trans ((cite_f (fun h => by have := hz13b.mpr h; omega) _ _).trans (cite_t (by omega) _ _))]
          exact ⟨rfl, hR.w hfw, hfw.2.2.2⟩
        exact j_iret X dX5_issue_35 ⟨_, rfl, rfl, hret⟩
    · refine j_bipush X dX5_issue_19 (by decide) ?_
      have hret : (-2 : Int) = (sIssue G).1 ∧ MXR v1 m (sIssue G).2 ∧ frM v v1 m := by
        rw [show sIssue G = (-2, G) from (cite_f (fun h => h hF) _ _).trans (cite_t (hz13b.mp (by omega)) _ _)]
        exact ⟨rfl, hR.w hfw, hfw.2.2.2⟩
      exact j_iret X dX5_issue_21 ⟨_, rfl, rfl, hret⟩
  · refine j_bipush X dX5_issue_9 (by decide) ?_
    have hret : (-3 : Int) = (sIssue G).1 ∧ MXR v1 m (sIssue G).2 ∧ frM v v1 m := by
      rw [show sIssue G = (-3, G) from cite_t (fun h => c6 (hF.uniq h)) _ _]
      exact ⟨rfl, hR.w hfw, hfw.2.2.2⟩
    exact j_iret X dX5_issue_11 ⟨_, rfl, rfl, hret⟩
def rmX5_undo : Room := { frames := 1, cells := 0, slots := 0, locals := 24 }
set_option maxHeartbeats 4000000 in
set_option maxRecDepth 100000 in
theorem c_X5_undo (l : Launch) (D : va_G) (nH : Nat) (sk : Sk) (v : Mem) (m : Nat) (G : GS) (hM : Md D sk m) (hR : MXR v m G) : CtI l D yX5_undo wsX5_undo rmX5_undo [.ref m] nH sk v (fun z v' => z = (sUndo G).1 ∧ MXR v' m (sUndo G).2 ∧ frM v v' m) := by
  refine ct_of (cc := cX5_undo) (maxL := 1) (ret := (some .int)) rfl rfl (Nat.le_of_ble_eq_true rfl) ?_
  intro p_ e_ s_ m_ args_ below_ meth_ c_ X hmn hsz
  have hinX5 : ∀ w ∈ wsX50, w ∈ wsX5_undo := by decide +kernel
  obtain ⟨m0, m1, m2, m3, m4, m5, m6, m7, m8, m9, m10⟩ := id hM
  obtain ⟨hR1, hR2, hR3, hR4⟩ := id hR
  obtain ⟨hOO, hno8, hno, hT, hNU, hBB⟩ := id hR1
  obtain ⟨o1, o2, o3⟩ := id hOO
  obtain ⟨hp0, hp1, hp2, hp3⟩ := id hR4
  refine j_aload_n X dX5_undo_0 rfl ?_
  refine j_geti X dX5_undo_1 (T := TX5) (N := 13) (C := RX5) hinX5 rfl (by assumption) 3 (by decide) (by decide +kernel) rfl ?_
  rw [hR2.1]
  refine j_if_ne (tgt := 10) X dX5_undo_4 (by have := hR2.2.1; omega) (by decide) (fun c4 => ?_) (fun c4 => ?_)
  · obtain ⟨Hs, S9, e9⟩ : ∃ (Hs : List AS) (S9 : AS), G.2.1 = Hs ++ [S9] := by
      have hne : G.2.1 ≠ [] := fun h => by rw [h] at c4; exact c4 rfl
      exact ⟨_, _, (List.dropLast_concat_getLast hne).symm⟩
    have hH9 := hR2
    rw [e9] at hH9
    obtain ⟨hr0, hr1, hr2⟩ := id hH9
    rw [List.length_append] at hr0 hr1
    simp only [List.length_cons, List.length_nil] at hr0 hr1
    have hlast := hr2 Hs.length (by simp)
    simp only [List.getElem_append, Nat.lt_irrefl, dif_neg, not_false_eq_true, Nat.sub_self, List.getElem_cons_zero] at hlast
    refine j_aload_n X dX5_undo_10 rfl ?_
    refine j_dup X dX5_undo_11 rfl ?_
    refine j_geti X dX5_undo_12 (T := TX5) (N := 13) (C := RX5) hinX5 rfl (by assumption) 3 (by decide) (by decide +kernel) rfl ?_
    rw [show v m 3 = (Hs.length : Int) + 1 by rw [hr0]; omega]
    refine j_iconst X dX5_undo_15 ?_
    refine j_isub X dX5_undo_16 ?_
    refine j_putU X dX5_undo_17 (T := TX5) (N := 13) (C := RX5) hinX5 rfl (by assumption) 3 (by decide) tyX5 tyX5_ok nmX5 rfl rfl rfl (by decide +kernel) (fun u17 f17 g17 n17 => ?_)
    refine j_aload_n X dX5_undo_20 rfl ?_
    refine j_getr X dX5_undo_21 (T := TX5) (N := 13) (C := RX5) hinX5 rfl (by assumption) 2 (by decide) (by decide +kernel) rfl ?_
    refine j_aload_n X dX5_undo_24 rfl ?_
    refine j_geti X dX5_undo_25 (T := TX5) (N := 13) (C := RX5) hinX5 rfl (by assumption) 3 (by decide) (by decide +kernel) rfl ?_
    rw [f17]
    refine j_sipush X dX5_undo_28 (by decide) ?_
    refine j_imul X dX5_undo_31 ?_
    refine j_aload_n X dX5_undo_32 rfl ?_
    refine j_getr X dX5_undo_33 (T := TX5) (N := 13) (C := RX5) hinX5 rfl (by assumption) 0 (by decide) (by decide +kernel) rfl ?_
    refine j_iconst X dX5_undo_36 ?_
    refine j_callS (nn := 4) X dX5_undo_37 (c_X5_moves l D nH sk u17 (m + 3) (m + 1) (713 * Hs.length) 0 4278 713 _ _ (by omega) rfl m3 m1 (by omega) (by omega) (by omega) (by omega) (by omega)) gX5_undo_X5_moves rfl ⟨rfl, rfl⟩ (by decide +kernel) ⟨Nat.le_of_ble_eq_true rfl, Nat.le_of_ble_eq_true rfl⟩ rfl rfl (Nat.le_of_ble_eq_true rfl) ⟨Nat.zero_le _, Nat.zero_le _⟩ (kV (fun v37 h37 => ?_))
    obtain ⟨p37, q37⟩ := h37
    refine j_aload_n X dX5_undo_40 rfl ?_
    refine j_geti X dX5_undo_41 (T := TX5) (N := 13) (C := RX5) hinX5 rfl (by assumption) 3 (by decide) (by decide +kernel) rfl ?_
    rw [show v37 m 3 = (Hs.length : Int) + 1 - 1 by rw [p37 _ (by omega)]; exact f17]
    have hret : (Hs.length : Int) + 1 - 1 = (sUndo G).1 ∧ MXR v37 m (sUndo G).2 ∧ frM v v37 m := by
      rw [show sUndo G = (((Hs.length : Nat) : Int), (S9, Hs, G.2.2.1, G.2.2.2)) by unfold sUndo; rw [e9]; simp]
      refine ⟨by show _ = (Hs.length : Int); omega, ⟨hlast.kept (fun k hk => ?_), ⟨by show _ = (Hs.length : Int); rw [p37 _ (by omega), f17]; omega, by show Hs.length ≤ 6; omega, fun j (hj : j < Hs.length) => ?_⟩, hR3.kept (by rw [p37 _ (by omega), n17 _ (by omega)]) (by rw [p37 _ (by omega), n17 _ (by omega)]), hR4.kept (by rw [p37 _ (by omega), g17 _ (by omega)]) (by rw [p37 _ (by omega), n17 _ (by omega)])⟩, fun a ha => by rw [p37 _ (by omega), n17 _ (by omega)]⟩
      · rw [q37, if_pos (by omega), n17 _ (by omega)]
        try exact congrArg _ (by omega)
      · have := hr2 j (by simp; omega)
        simp only [List.getElem_append, hj, dif_pos] at this
        exact this.kept (fun k hk => by rw [p37 _ (by omega), n17 _ (by omega)])
    exact j_iret X dX5_undo_44 ⟨_, rfl, rfl, hret⟩
  · refine j_bipush X dX5_undo_7 (by decide) ?_
    have hret : (-5 : Int) = (sUndo G).1 ∧ MXR v m (sUndo G).2 ∧ frM v v m := by
      have e : G.2.1 = [] := List.length_eq_zero_iff.mp (by omega)
      rw [show sUndo G = (-5, G) by unfold sUndo; rw [e]; rfl]
      exact ⟨rfl, hR, frM.refl _ _⟩
    exact j_iret X dX5_undo_9 ⟨_, rfl, rfl, hret⟩
def rmX5_save : Room := { frames := 1, cells := 0, slots := 0, locals := 24 }
set_option maxHeartbeats 4000000 in
set_option maxRecDepth 100000 in
theorem c_X5_save (l : Launch) (D : va_G) (nH : Nat) (sk : Sk) (v : Mem) (m : Nat) (t : Int) (G : GS) (hM : Md D sk m) (hR : MXR v m G)(ht : -2147483648 ≤ t ∧ t ≤ 2147483647) : CtI l D yX5_save wsX5_save rmX5_save [.ref m, .int (I t)] nH sk v (fun z v' => z = (sSave G t).1 ∧ MXR v' m (sSave G t).2 ∧ frM v v' m) := by
  refine ct_of (cc := cX5_save) (maxL := 2) (ret := (some .int)) rfl rfl (Nat.le_of_ble_eq_true rfl) ?_
  intro p_ e_ s_ m_ args_ below_ meth_ c_ X hmn hsz
  have hinX5 : ∀ w ∈ wsX50, w ∈ wsX5_save := by decide +kernel
  obtain ⟨m0, m1, m2, m3, m4, m5, m6, m7, m8, m9, m10⟩ := id hM
  obtain ⟨hR1, hR2, hR3, hR4⟩ := id hR
  obtain ⟨hOO, hno8, hno, hT, hNU, hBB⟩ := id hR1
  obtain ⟨o1, o2, o3⟩ := id hOO
  obtain ⟨hp0, hp1, hp2, hp3⟩ := id hR4
  refine j_iload_n X dX5_save_0 rfl ?_
  refine j_iconst X dX5_save_1 ?_
  refine j_iconst X dX5_save_2 ?_
  refine j_callS (nn := 3) X dX5_save_3 (c_X5_within l D nH sk v t 0 1 (by omega) (by omega) (by omega)) gX5_save_X5_within rfl ⟨rfl, rfl⟩ (by decide +kernel) ⟨Nat.le_of_ble_eq_true rfl, Nat.le_of_ble_eq_true rfl⟩ rfl rfl (Nat.le_of_ble_eq_true rfl) ⟨Nat.zero_le _, Nat.zero_le _⟩ (kI (fun z3 v3 h3 => ?_))
  obtain ⟨h3a, h3b, rfl⟩ := h3
  refine j_if_ne (tgt := 12) X dX5_save_6 (by omega) (by decide) (fun c6 => ?_) (fun c6 => ?_)
  · obtain ⟨k, rfl⟩ : ∃ k : Nat, t = (k : Int) := ⟨t.toNat, by omega⟩
    have hk2 : k < 2 := by omega
    obtain ⟨hs0, hs1⟩ := hR3 k hk2
    refine j_aload_n X dX5_save_12 rfl ?_
    refine j_getr X dX5_save_13 (T := TX5) (N := 13) (C := RX5) hinX5 rfl (by assumption) 0 (by decide) (by decide +kernel) rfl ?_
    refine j_iconst X dX5_save_16 ?_
    refine j_aload_n X dX5_save_17 rfl ?_
    refine j_getr X dX5_save_18 (T := TX5) (N := 13) (C := RX5) hinX5 rfl (by assumption) 4 (by decide) (by decide +kernel) rfl ?_
    refine j_sipush X dX5_save_21 (by decide) ?_
    refine j_iload_n X dX5_save_24 rfl ?_
    refine j_imul X dX5_save_25 ?_
    refine j_callS (nn := 4) X dX5_save_26 (c_X5_moves l D nH sk v (m + 1) (m + 4) 0 (713 * k) 713 1426 _ _ rfl (by omega) m1 m4 (by omega) (by omega) (by omega) (by omega) (by omega)) gX5_save_X5_moves rfl ⟨rfl, rfl⟩ (by decide +kernel) ⟨Nat.le_of_ble_eq_true rfl, Nat.le_of_ble_eq_true rfl⟩ rfl rfl (Nat.le_of_ble_eq_true rfl) ⟨Nat.zero_le _, Nat.zero_le _⟩ (kV (fun v26 h26 => ?_))
    obtain ⟨p26, q26⟩ := h26
    refine j_aload_n X dX5_save_29 rfl ?_
    refine j_getr X dX5_save_30 (T := TX5) (N := 13) (C := RX5) hinX5 rfl (by assumption) 5 (by decide) (by decide +kernel) rfl ?_
    refine j_iload_n X dX5_save_33 rfl ?_
    refine j_iconst X dX5_save_34 ?_
    refine j_iasN X dX5_save_35 (by assumption) (k) (by omega) (by omega) (by decide) (fun u35 f35 g35 n35 => ?_)
    refine j_aload_n X dX5_save_36 rfl ?_
    refine j_getr X dX5_save_37 (T := TX5) (N := 13) (C := RX5) hinX5 rfl (by assumption) 0 (by decide) (by decide +kernel) rfl ?_
    refine j_iconst X dX5_save_40 ?_
    refine j_ialN X dX5_save_41 (by assumption) (0) (by omega) (by omega) (by decide) ?_
    rw [show u35 (m + 1) 0 = (np G.1 : Int) by rw [n35 _ (by omega), p26 _ (by omega)]; exact o1]
    have hret : (np G.1 : Int) = (sSave G (k : Int)).1 ∧ MXR u35 m (sSave G (k : Int)).2 ∧ frM v u35 m := by
      rw [show sSave G (k : Int) = ((np G.1 : Int), (G.1, G.2.1, fset G.2.2.1 k (some G.1), G.2.2.2)) from cite_f (by omega) _ _]
      refine ⟨rfl, ⟨by rw [show u35 (m + 1) = v (m + 1) by rw [n35 _ (by omega), p26 _ (by omega)]]; exact hR1, hR2.kept (by rw [n35 _ (by omega), p26 _ (by omega)]) (by rw [n35 _ (by omega), p26 _ (by omega)]), fun j hj => ?_, hR4.kept (by rw [n35 _ (by omega), p26 _ (by omega)]) (by rw [n35 _ (by omega), p26 _ (by omega)])⟩, fun a ha => by rw [n35 _ (by omega), p26 _ (by omega)]⟩
      show (fset G.2.2.1 k (some G.1) j = none → u35 (m + 5) j = 0) ∧ ∀ S, fset G.2.2.1 k (some G.1) j = some S → u35 (m + 5) j = 1 ∧ MR (fun x => u35 (m + 4) (713 * j + x)) S
      by_cases q : j = k
      · subst q
        rw [fset_s]
        refine ⟨fun h => (by cases h), fun S h => ?_⟩
        cases h
        refine ⟨f35, hR1.kept (fun x hx => ?_)⟩
        rw [n35 _ (by omega), q26, if_pos (by omega)]
        congr 1
        omega
      · rw [fset_n _ _ q]
        obtain ⟨b1, b2⟩ := hR3 j hj
        refine ⟨fun h => by rw [g35 j q, p26 _ (by omega)]; exact b1 h, fun S h => ?_⟩
        obtain ⟨b3, b4⟩ := b2 S h
        exact ⟨by rw [g35 j q, p26 _ (by omega)]; exact b3, b4.kept (fun x hx => by rw [n35 _ (by omega), q26, if_neg (by omega)])⟩
    exact j_iret X dX5_save_42 ⟨_, rfl, rfl, hret⟩
  · refine j_bipush X dX5_save_9 (by decide) ?_
    have hret : (-2 : Int) = (sSave G t).1 ∧ MXR v m (sSave G t).2 ∧ frM v v m := by
      rw [show sSave G t = (-2, G) from cite_t (by omega) _ _]
      exact ⟨rfl, hR, frM.refl _ _⟩
    exact j_iret X dX5_save_11 ⟨_, rfl, rfl, hret⟩
def rmX5_restore : Room := { frames := 2, cells := 0, slots := 0, locals := 45 }
set_option maxHeartbeats 4000000 in
set_option maxRecDepth 100000 in
theorem c_X5_restore (l : Launch) (D : va_G) (nH : Nat) (sk : Sk) (v : Mem) (m : Nat) (t : Int) (G : GS) (hM : Md D sk m) (hR : MXR v m G)(ht : -2147483648 ≤ t ∧ t ≤ 2147483647) : CtI l D yX5_restore wsX5_restore rmX5_restore [.ref m, .int (I t)] nH sk v (fun z v' => z = (sRestore G t).1 ∧ MXR v' m (sRestore G t).2 ∧ frM v v' m) := by
  refine ct_of (cc := cX5_restore) (maxL := 2) (ret := (some .int)) rfl rfl (Nat.le_of_ble_eq_true rfl) ?_
  intro p_ e_ s_ m_ args_ below_ meth_ c_ X hmn hsz
  have hinX5 : ∀ w ∈ wsX50, w ∈ wsX5_restore := by decide +kernel
  obtain ⟨m0, m1, m2, m3, m4, m5, m6, m7, m8, m9, m10⟩ := id hM
  obtain ⟨hR1, hR2, hR3, hR4⟩ := id hR
  obtain ⟨hOO, hno8, hno, hT, hNU, hBB⟩ := id hR1
  obtain ⟨o1, o2, o3⟩ := id hOO
  obtain ⟨hp0, hp1, hp2, hp3⟩ := id hR4
  refine j_iload_n X dX5_restore_0 rfl ?_
  refine j_iconst X dX5_restore_1 ?_
  refine j_iconst X dX5_restore_2 ?_
  refine j_callS (nn := 3) X dX5_restore_3 (c_X5_within l D nH sk v t 0 1 (by omega) (by omega) (by omega)) gX5_restore_X5_within rfl ⟨rfl, rfl⟩ (by decide +kernel) ⟨Nat.le_of_ble_eq_true rfl, Nat.le_of_ble_eq_true rfl⟩ rfl rfl (Nat.le_of_ble_eq_true rfl) ⟨Nat.zero_le _, Nat.zero_le _⟩ (kI (fun z3 v3 h3 => ?_))
  obtain ⟨h3a, h3b, rfl⟩ := h3
  refine j_if_ne (tgt := 12) X dX5_restore_6 (by omega) (by decide) (fun c6 => ?_) (fun c6 => ?_)
  · obtain ⟨k, rfl⟩ : ∃ k : Nat, t = (k : Int) := ⟨t.toNat, by omega⟩
    have hk2 : k < 2 := by omega
    obtain ⟨hs0, hs1⟩ := hR3 k hk2
    refine j_aload_n X dX5_restore_12 rfl ?_
    refine j_getr X dX5_restore_13 (T := TX5) (N := 13) (C := RX5) hinX5 rfl (by assumption) 5 (by decide) (by decide +kernel) rfl ?_
    refine j_iload_n X dX5_restore_16 rfl ?_
    refine j_ialN X dX5_restore_17 (by assumption) (k) (by omega) (by omega) (by decide) ?_
    refine j_if_ne (tgt := 24) X dX5_restore_18 (by cases h : G.2.2.1 k with | none => rw [hs0 h]; omega | some S => rw [(hs1 S h).1]; omega) (by decide) (fun c18 => ?_) (fun c18 => ?_)
    · obtain ⟨S9, e9⟩ : ∃ S9, G.2.2.1 k = some S9 := by
        cases h : G.2.2.1 k with
        | none => exact absurd (hs0 h) c18
        | some S => exact ⟨S, rfl⟩
      obtain ⟨hb3, hb4⟩ := hs1 S9 e9
      refine j_aload_n X dX5_restore_24 rfl ?_
      refine j_callV (nn := 0) X dX5_restore_25 (c_X5_record l D nH sk v m G.2.1 G.1 hM hR2 hR1) gX5_restore_X5_record rfl ⟨rfl, rfl⟩ (by decide +kernel) ⟨Nat.le_of_ble_eq_true rfl, Nat.le_of_ble_eq_true rfl⟩ (by assumption) ⟨rfl, rfl⟩ rfl rfl (Nat.le_of_ble_eq_true rfl) ⟨Nat.zero_le _, Nat.zero_le _⟩ (kV (fun w1 h25 => ?_))
      obtain ⟨hH1, ra, rb⟩ := h25
      have e1 : w1 (m + 1) = v (m + 1) := rb (m + 1) (by omega) (by omega)
      have hS1 : MR (w1 (m + 1)) G.1 := by rw [e1]; exact hR1
      refine j_aload_n X dX5_restore_28 rfl ?_
      refine j_getr X dX5_restore_29 (T := TX5) (N := 13) (C := RX5) hinX5 rfl (by assumption) 4 (by decide) (by decide +kernel) rfl ?_
      refine j_sipush X dX5_restore_32 (by decide) ?_
      refine j_iload_n X dX5_restore_35 rfl ?_
      refine j_imul X dX5_restore_36 ?_
      refine j_aload_n X dX5_restore_37 rfl ?_
      refine j_getr X dX5_restore_38 (T := TX5) (N := 13) (C := RX5) hinX5 rfl (by assumption) 0 (by decide) (by decide +kernel) rfl ?_
      refine j_iconst X dX5_restore_41 ?_
      refine j_callS (nn := 4) X dX5_restore_42 (c_X5_moves l D nH sk w1 (m + 4) (m + 1) (713 * k) 0 1426 713 _ _ (by omega) rfl m4 m1 (by omega) (by omega) (by omega) (by omega) (by omega)) gX5_restore_X5_moves rfl ⟨rfl, rfl⟩ (by decide +kernel) ⟨Nat.le_of_ble_eq_true rfl, Nat.le_of_ble_eq_true rfl⟩ rfl rfl (Nat.le_of_ble_eq_true rfl) ⟨Nat.zero_le _, Nat.zero_le _⟩ (kV (fun v42 h42 => ?_))
      obtain ⟨p42, q42⟩ := h42
      have hS42 : MR (v42 (m + 1)) S9 := hb4.kept (fun x hx => by rw [q42, if_pos (by omega), rb _ (by omega) (by omega)]; rfl)
      refine j_aload_n X dX5_restore_45 rfl ?_
      refine j_getr X dX5_restore_46 (T := TX5) (N := 13) (C := RX5) hinX5 rfl (by assumption) 0 (by decide) (by decide +kernel) rfl ?_
      refine j_iconst X dX5_restore_49 ?_
      refine j_ialN X dX5_restore_50 (by assumption) (0) (by omega) (by omega) (by decide) ?_
      rw [show v42 (m + 1) 0 = (np S9 : Int) from hS42.1.1]
      have hret : (np S9 : Int) = (sRestore G (k : Int)).1 ∧ MXR v42 m (sRestore G (k : Int)).2 ∧ frM v v42 m := by
        rw [show sRestore G (k : Int) = ((np S9 : Int), recG G S9) by unfold sRestore; rw [cite_f (by omega), Int.toNat_natCast, e9]]
        have hh := hR.rec (v1 := w1) (v2 := v42) hH1 ra rb p42 hS42
        exact ⟨rfl, hh.1, hh.2⟩
      exact j_iret X dX5_restore_51 ⟨_, rfl, rfl, hret⟩
    · refine j_bipush X dX5_restore_21 (by decide) ?_
      have hret : (-5 : Int) = (sRestore G (k : Int)).1 ∧ MXR v m (sRestore G (k : Int)).2 ∧ frM v v m := by
        have e : G.2.2.1 k = none := by
          cases h : G.2.2.1 k with
          | none => rfl
          | some S => have := (hs1 S h).1; omega
        rw [show sRestore G (k : Int) = (-5, G) by unfold sRestore; rw [cite_f (by omega), Int.toNat_natCast, e]]
        exact ⟨rfl, hR, frM.refl _ _⟩
      exact j_iret X dX5_restore_23 ⟨_, rfl, rfl, hret⟩
  · refine j_bipush X dX5_restore_9 (by decide) ?_
    have hret : (-2 : Int) = (sRestore G t).1 ∧ MXR v m (sRestore G t).2 ∧ frM v v m := by
      rw [show sRestore G t = (-2, G) from cite_t (by omega) _ _]
      exact ⟨rfl, hR, frM.refl _ _⟩
    exact j_iret X dX5_restore_11 ⟨_, rfl, rfl, hret⟩
