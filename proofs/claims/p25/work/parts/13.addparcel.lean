def rmX3_addParcel : Room := { frames := 4, cells := 0, slots := 0, locals := 94 }
set_option maxHeartbeats 4000000 in
set_option maxRecDepth 100000 in
theorem c_X3_addParcel (l : Launch) (D : va_G) (nH : Nat) (sk : Sk) (v : Mem) (o q : Nat) (S : AS) (P : List Nat) (hS : Sd D sk o) (hb : Pd D sk q) (hP : PA v q P) (hF : isF P (-6)) (hR : SR v o S) (hn : np S < 16) (hap : q + 2 ≤ o ∨ o + 24 ≤ q) : CtI l D yX3_addParcel wsX3_addParcel rmX3_addParcel [.ref o, .ref q] nH sk v (fun z v' => z = (np S : Int) ∧ SR v' o (issA S P) ∧ frS v v' o) := by
  refine ct_of (cc := cX3_addParcel) (maxL := 4) (ret := (some .int)) rfl rfl (Nat.le_of_ble_eq_true rfl) ?_
  intro p_ e_ s_ m_ args_ below_ meth_ c_ X hmn hsz
  have hinX3 : ∀ w ∈ wsX30, w ∈ wsX3_addParcel := by decide +kernel
  obtain ⟨s0, s1, s2, s3, ⟨g, s5, hg⟩, s6, s7, s8⟩ := id hS
  obtain ⟨r1, r2, r3, r4, r5, r6⟩ := id hR
  obtain ⟨hb0, hb1⟩ := id hb
  obtain ⟨s30, s31⟩ := id s3
  have hlen := ordsOf_len P
  have hl8 := ords_len8 hF
  have hno := r1.2.1
  refine j_aload_n X dX3_addParcel_0 rfl ?_
  refine j_geti X dX3_addParcel_1 (T := TX3) (N := 8) (C := RX3) hinX3 rfl (by assumption) 2 (by decide) (by decide +kernel) rfl ?_
  rw [r2.1]
  refine j_istore_n X dX3_addParcel_4 rfl (Nat.le_of_ble_eq_true rfl) ?_
  refine j_aload_n X dX3_addParcel_5 rfl ?_
  refine j_getr X dX3_addParcel_6 (T := TX3) (N := 8) (C := RX3) hinX3 rfl (by assumption) 1 (by decide) (by decide +kernel) rfl ?_
  refine j_iload_n X dX3_addParcel_9 rfl ?_
  refine j_aload_n X dX3_addParcel_10 rfl ?_
  refine j_callV (nn := 0) X dX3_addParcel_11 (c_X2_orders l D nH sk v q P hb hP) gX3_addParcel_X2_orders rfl ⟨rfl, rfl⟩ (by decide +kernel) ⟨Nat.le_of_ble_eq_true rfl, Nat.le_of_ble_eq_true rfl⟩ (by assumption) ⟨rfl, rfl⟩ rfl rfl (Nat.le_of_ble_eq_true rfl) ⟨Nat.zero_le _, Nat.zero_le _⟩ (kI (fun z11 v11 h11 => ?_))
  obtain ⟨rfl, rfl⟩ := h11
  refine j_iast X dX3_addParcel_14 (by assumption) (by omega) (by decide) ?_
  rw [Int.toNat_natCast]
  generalize hd_u1 : up2 v (o + 2) (np S) (((ordsOf P).length : Int)) = u1
  have f_u1 : u1 (o + 2) (np S) = ((ordsOf P).length : Int) := by rw [← hd_u1, up2_s, upE_s]
  have g_u1 : ∀ j_, j_ ≠ np S → u1 (o + 2) j_ = v (o + 2) j_ := fun j_ hk => by rw [← hd_u1, up2_s, upE_n _ _ hk]
  have n_u1 : ∀ a, a ≠ o + 2 → u1 a = v a := fun a ha => by rw [← hd_u1, up2_n _ _ _ ha]
  refine j_iconst X dX3_addParcel_15 ?_
  refine j_istore_n X dX3_addParcel_16 rfl (Nat.le_of_ble_eq_true rfl) ?_
  refine j_loop (σ := Nat × Mem) (fun (y_ : Nat × Mem) => match y_ with | (k, u) => k ≤ (ordsOf P).length ∧ (∀ a, a ≠ o + 1 → u a = u1 a) ∧ (∀ j, j < 8 * np S → u (o + 1) j = v (o + 1) j) ∧ ∀ j, j < k → u (o + 1) (8 * np S + j) = (ordAt P j : Int)) (fun (y_ : Nat × Mem) => match y_ with | (k, u) => (ordsOf P).length - k) (fun (y_ : Nat × Mem) => match y_ with | (k, u) => (u, [some (.ref o), some (.ref q), some (.int (I (np S : Int))), some (.int (I (k : Int)))])) ?_ (0, u1) ⟨by omega, fun _ _ => rfl, fun j hj => by rw [n_u1 _ (by omega)], fun j h => absurd h (by omega)⟩
  intro y_ hx ih17
  obtain ⟨k, u⟩ := y_
  dsimp only at hx ih17 ⊢
  obtain ⟨hk, hu0, hu1, hu2⟩ := hx
  refine j_iload_n X dX3_addParcel_17 rfl ?_
  refine j_aload_n X dX3_addParcel_18 rfl ?_
  refine j_getr X dX3_addParcel_19 (T := TX3) (N := 8) (C := RX3) hinX3 rfl (by assumption) 1 (by decide) (by decide +kernel) rfl ?_
  refine j_iload_n X dX3_addParcel_22 rfl ?_
  refine j_iald X dX3_addParcel_23 (by assumption) (by omega) (by decide) ?_
  rw [Int.toNat_natCast, hu0 (o + 2) (by omega), f_u1]
  refine j_icmp_ge (tgt := 49) X dX3_addParcel_24 (by omega) (by decide) (fun c24 => ?_) (fun c24 => ?_)
  · refine j_aload_n X dX3_addParcel_49 rfl ?_
    refine j_dup X dX3_addParcel_50 rfl ?_
    refine j_geti X dX3_addParcel_51 (T := TX3) (N := 8) (C := RX3) hinX3 rfl (by assumption) 2 (by decide) (by decide +kernel) rfl ?_
    rw [show u o 2 = (np S : Int) by rw [hu0 o (by omega), n_u1 o (by omega)]; exact r2.1]
    refine j_iconst X dX3_addParcel_54 ?_
    refine j_iadd X dX3_addParcel_55 ?_
    refine j_put X dX3_addParcel_56 (T := TX3) (N := 8) (C := RX3) hinX3 rfl (by assumption) 2 (by decide) tyX3 tyX3_ok nmX3 rfl rfl rfl (by decide +kernel) ?_
    generalize hd_u3 : up2 u (o) 2 ((np S : Int) + 1) = u3
    have f_u3 : u3 (o) 2 = (np S : Int) + 1 := by rw [← hd_u3, up2_s, upE_s]
    have g_u3 : ∀ k, k ≠ 2 → u3 (o) k = u (o) k := fun k hk => by rw [← hd_u3, up2_s, upE_n _ _ hk]
    have n_u3 : ∀ a, a ≠ o → u3 a = u a := fun a ha => by rw [← hd_u3, up2_n _ _ _ ha]
    have hOu3 : OR u3 o (issA S P) := by
      refine ⟨by rw [f_u3]; rfl, hn, fun i hi => ?_⟩
      show u3 (o + 2) i = ((fset (od S) (np S) (ordsOf P) i).length : Int) ∧ (fset (od S) (np S) (ordsOf P) i).length ≤ 8 ∧ (∀ x ∈ fset (od S) (np S) (ordsOf P) i, oko x) ∧ ∀ (k : Nat) (h : k < (fset (od S) (np S) (ordsOf P) i).length), u3 (o + 1) (8 * i + k) = (((fset (od S) (np S) (ordsOf P) i)[k]'h : Nat) : Int)
      have hi2 : i < np S + 1 := hi
      by_cases qi : i = np S
      · subst qi
        rw [n_u3 (o + 2) (by omega), hu0 (o + 2) (by omega), f_u1]
        simp only [fset_s]
        refine ⟨trivial, hl8.2, fun x hx => ord_oko hF hx, fun k hk => ?_⟩
        rw [n_u3 (o + 1) (by omega), hu2 k (by omega), ordsOf_get]
      · rw [n_u3 (o + 2) (by omega), hu0 (o + 2) (by omega), g_u1 i qi]
        simp only [fset_n _ _ qi]
        obtain ⟨b1, b2, b3, b4⟩ := r2.2.2 i (by omega)
        refine ⟨b1, b2, b3, fun k hk => ?_⟩
        rw [n_u3 (o + 1) (by omega), hu1 _ (by omega)]
        exact b4 k hk
    have hBu3 : BP u3 (o + 3) (tx S) := r4.kept (by rw [n_u3 _ (by omega), hu0 _ (by omega), n_u1 _ (by omega)]) (by rw [n_u3 _ (by omega), hu0 _ (by omega), n_u1 _ (by omega)])
    refine j_aload_n X dX3_addParcel_59 rfl ?_
    refine j_aload_n X dX3_addParcel_60 rfl ?_
    refine j_getr X dX3_addParcel_61 (T := TX3) (N := 8) (C := RX3) hinX3 rfl (by assumption) 3 (by decide) (by decide +kernel) rfl ?_
    refine j_iload_n X dX3_addParcel_64 rfl ?_
    refine j_callV (nn := 2) X dX3_addParcel_65 (c_X3_doWithCare l D nH sk u3 o (o + 3) (np S) (issA S P) (tx S) hS s3 hOu3 (Nat.lt_succ_self _) hBu3) gX3_addParcel_X3_doWithCare rfl ⟨rfl, rfl⟩ (by decide +kernel) ⟨Nat.le_of_ble_eq_true rfl, Nat.le_of_ble_eq_true rfl⟩ (by assumption) ⟨rfl, rfl⟩ rfl rfl (Nat.le_of_ble_eq_true rfl) ⟨Nat.zero_le _, Nat.zero_le _⟩ (kV (fun v65 h65 => ?_))
    obtain ⟨hB65, f65⟩ := h65
    rw [show od (issA S P) (np S) = ordsOf P from fset_s _ _ _] at hB65
    refine j_iconst X dX3_addParcel_68 ?_
    refine j_istore_n X dX3_addParcel_69 rfl (Nat.le_of_ble_eq_true rfl) ?_
    refine j_loop (σ := Nat × Mem) (fun (y_ : Nat × Mem) => match y_ with | (i, w) => i ≤ no S ∧ (∀ a, a ≠ o + 6 → w a = v65 a) ∧ (∀ j, j < i → w (o + 6) j = ((wt S j ||| 2 ^ np S : Nat) : Int)) ∧ ∀ j, i ≤ j → j < no S → w (o + 6) j = v65 (o + 6) j) (fun (y_ : Nat × Mem) => match y_ with | (i, w) => no S - i) (fun (y_ : Nat × Mem) => match y_ with | (i, w) => (w, [some (.ref o), some (.ref q), some (.int (I (np S : Int))), some (.int (I (i : Int)))])) ?_ (0, v65) ⟨by omega, fun _ _ => rfl, fun j h => absurd h (by omega), fun _ _ _ => rfl⟩
    intro y_ hx ih70
    obtain ⟨i, w⟩ := y_
    dsimp only at hx ih70 ⊢
    obtain ⟨hi, hw0, hw1, hw2⟩ := hx
    refine j_iload_n X dX3_addParcel_70 rfl ?_
    refine j_aload_n X dX3_addParcel_71 rfl ?_
    refine j_geti X dX3_addParcel_72 (T := TX3) (N := 8) (C := RX3) hinX3 rfl (by assumption) 7 (by decide) (by decide +kernel) rfl ?_
    have hno2 : w o 7 = (no S : Int) := by rw [hw0 o (by omega), f65 o (by omega) (by omega), g_u3 7 (by omega), hu0 o (by omega), n_u1 o (by omega)]; exact r3
    refine j_icmp_ge (tgt := 96) X dX3_addParcel_75 (by omega) (by decide) (fun c75 => ?_) (fun c75 => ?_)
    · refine j_iload_n X dX3_addParcel_96 rfl ?_
      have hret : (np S : Int) = (np S : Int) ∧ SR w o (issA S P) ∧ frS v w o := by
        have e : ∀ a, a ≠ o → a ≠ o + 1 → a ≠ o + 2 → a ≠ o + 3 → a ≠ o + 4 → a ≠ o + 6 → w a = v a := fun a h1 h2 h3 h4 h5 h6 => by rw [hw0 a h6, f65 a h4 h5, n_u3 a h1, hu0 a h2, n_u1 a h3]
        refine ⟨rfl, ⟨r1.iss hF hn, ?_, ?_, ?_, fun i hi => ?_, fun i hi => ?_⟩, fun a ha => e a (by omega) (by omega) (by omega) (by omega) (by omega) (by omega)⟩
        · exact hOu3.kept (by rw [hw0 _ (by omega), f65 _ (by omega) (by omega)]) (by rw [hw0 _ (by omega), f65 _ (by omega) (by omega)]) (by rw [hw0 _ (by omega), f65 _ (by omega) (by omega)])
        · exact hno2
        · exact hB65.kept (hw0 _ (by omega)) (hw0 _ (by omega))
        · obtain ⟨L, hL⟩ := r5 i hi
          exact ⟨L, hL.kept (e _ (by omega) (by omega) (by omega) (by omega) (by omega) (by omega)) (e _ (by omega) (by omega) (by omega) (by omega) (by omega) (by omega))⟩
        · have hi2 : i < no S := hi
          obtain ⟨b1, b2, b3⟩ := r6 i hi
          exact ⟨b1.kept (e _ (by omega) (by omega) (by omega) (by omega) (by omega) (by omega)) (e _ (by omega) (by omega) (by omega) (by omega) (by omega) (by omega)), hw1 i (by omega), by rw [e _ (by omega) (by omega) (by omega) (by omega) (by omega) (by omega)]; exact b3⟩
      exact j_iret X dX3_addParcel_97 ⟨_, rfl, rfl, hret⟩
    · refine j_aload_n X dX3_addParcel_78 rfl ?_
      refine j_getr X dX3_addParcel_79 (T := TX3) (N := 8) (C := RX3) hinX3 rfl (by assumption) 5 (by decide) (by decide +kernel) rfl ?_
      refine j_iload_n X dX3_addParcel_82 rfl ?_
      refine j_dup2 X dX3_addParcel_83 rfl rfl ?_
      refine j_iald X dX3_addParcel_84 (by assumption) (by omega) (by decide) ?_
      have hwi : w (o + 6) i = (wt S i : Int) := by rw [hw2 i (by omega) (by omega), f65 _ (by omega) (by omega), n_u3 _ (by omega), hu0 _ (by omega), n_u1 _ (by omega)]; exact (r6 i (by omega)).2.1
      rw [Int.toNat_natCast, hwi]
      refine j_iconst X dX3_addParcel_85 ?_
      refine j_iload_n X dX3_addParcel_86 rfl ?_
      refine j_ishl X dX3_addParcel_87 (b_shl (by omega)) ?_
      refine j_ior X dX3_addParcel_88 (b_or _ _) ?_
      refine j_iast X dX3_addParcel_89 (by assumption) (by omega) (by decide) ?_
      rw [Int.toNat_natCast]
      refine j_iinc X dX3_addParcel_90 rfl rfl (Nat.le_of_ble_eq_true rfl) ?_
      refine j_goto (tgt := 70) X dX3_addParcel_93 (by decide) ?_
      exact ih70 (i + 1, up2 w (o + 6) i ((wt S i ||| 2 ^ np S : Nat) : Int)) (by (try dsimp only); exact ⟨by omega, fun a ha => by rw [up2_n _ _ _ ha]; exact hw0 a ha, fun j hj => by rcases Nat.lt_or_ge j i with y | y; (rw [up2_s, upE_n _ _ (by omega)]; exact hw1 j y); have hji : j = i := (by omega); subst hji; rw [up2_s, upE_s], fun j h1 h2 => by rw [up2_s, upE_n _ _ (by omega)]; exact hw2 j (by omega) h2⟩) (by (try dsimp only); omega)
  · refine j_aload_n X dX3_addParcel_27 rfl ?_
    refine j_getr X dX3_addParcel_28 (T := TX3) (N := 8) (C := RX3) hinX3 rfl (by assumption) 0 (by decide) (by decide +kernel) rfl ?_
    refine j_iload_n X dX3_addParcel_31 rfl ?_
    refine j_bipush X dX3_addParcel_32 (by decide) ?_
    refine j_imul X dX3_addParcel_34 ?_
    refine j_iload_n X dX3_addParcel_35 rfl ?_
    refine j_iadd X dX3_addParcel_36 ?_
    refine j_aload_n X dX3_addParcel_37 rfl ?_
    refine j_iload_n X dX3_addParcel_38 rfl ?_
    have hPu : PA u q P := hP.kept (by rw [hu0 q (by omega), n_u1 q (by omega)]) (by rw [hu0 (q + 1) (by omega), n_u1 (q + 1) (by omega)])
    refine j_callV (nn := 1) X dX3_addParcel_39 (c_X2_order l D nH sk u q k P hb hPu hF (by omega)) gX3_addParcel_X2_order rfl ⟨rfl, rfl⟩ (by decide +kernel) ⟨Nat.le_of_ble_eq_true rfl, Nat.le_of_ble_eq_true rfl⟩ (by assumption) ⟨rfl, rfl⟩ rfl rfl (Nat.le_of_ble_eq_true rfl) ⟨Nat.zero_le _, Nat.zero_le _⟩ (kI (fun z39 v39 h39 => ?_))
    obtain ⟨rfl, rfl⟩ := h39
    refine j_iast X dX3_addParcel_42 (by assumption) (by omega) (by decide) ?_
    rw [show ((np S : Int) * 8 + (k : Int)).toNat = 8 * np S + k by omega]
    refine j_iinc X dX3_addParcel_43 rfl rfl (Nat.le_of_ble_eq_true rfl) ?_
    refine j_goto (tgt := 17) X dX3_addParcel_46 (by decide) ?_
    exact ih17 (k + 1, up2 u (o + 1) (8 * np S + k) (ordAt P k : Int)) (by (try dsimp only); exact ⟨by omega, fun a ha => by rw [up2_n _ _ _ ha]; exact hu0 a ha, fun j hj => by rw [up2_s, upE_n _ _ (by omega)]; exact hu1 j hj, fun j hj => by rcases Nat.lt_or_ge j k with y | y; (rw [up2_s, upE_n _ _ (by omega)]; exact hu2 j y); have hjk : j = k := (by omega); subst hjk; rw [up2_s, upE_s]⟩) (by (try dsimp only); omega)
