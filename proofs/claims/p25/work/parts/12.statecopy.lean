def rmX3_copy : Room := { frames := 2, cells := 0, slots := 0, locals := 47 }
set_option maxHeartbeats 4000000 in
set_option maxRecDepth 100000 in
theorem c_X3_copy (l : Launch) (D : va_G) (nH : Nat) (sk : Sk) (v : Mem) (o q : Nat) (S : AS) (hS : Sd D sk o) (hQ : Sd D sk q) (hap : o + 24 ≤ q ∨ q + 24 ≤ o) (hR : SR v q S) : CtV l D yX3_copy wsX3_copy rmX3_copy [.ref o, .ref q] nH sk v (fun v' => SR v' o S ∧ frS v v' o) := by
  refine ct_of (cc := cX3_copy) (maxL := 3) (ret := none) rfl rfl (Nat.le_of_ble_eq_true rfl) ?_
  intro p_ e_ s_ m_ args_ below_ meth_ c_ X hmn hsz
  have hinX3 : ∀ w ∈ wsX30, w ∈ wsX3_copy := by decide +kernel
  obtain ⟨s0, s1, s2, s3, ⟨g, s5, hg⟩, s6, s7, s8⟩ := id hS
  obtain ⟨t0, t1, t2, t3, ⟨gq, t5, hgq⟩, t6, t7, t8⟩ := id hQ
  obtain ⟨r1, r2, r3, ⟨T, hTp, hT⟩, r5, r6⟩ := id hR
  obtain ⟨s30, s31⟩ := id s3
  obtain ⟨t30, t31⟩ := id t3
  refine j_aload_n X dX3_copy_0 rfl ?_
  refine j_getr X dX3_copy_1 (T := TX3) (N := 8) (C := RX3) hinX3 rfl (by assumption) 0 (by decide) (by decide +kernel) rfl ?_
  refine j_iconst X dX3_copy_4 ?_
  refine j_aload_n X dX3_copy_5 rfl ?_
  refine j_getr X dX3_copy_6 (T := TX3) (N := 8) (C := RX3) hinX3 rfl (by assumption) 0 (by decide) (by decide +kernel) rfl ?_
  refine j_iconst X dX3_copy_9 ?_
  refine j_aload_n X dX3_copy_10 rfl ?_
  refine j_getr X dX3_copy_11 (T := TX3) (N := 8) (C := RX3) hinX3 rfl (by assumption) 0 (by decide) (by decide +kernel) rfl ?_
  refine j_alen (t0 := 0) X dX3_copy_14 (by assumption) rfl ?_
  refine j_copy X dX3_copy_15 ⟨by decide +kernel, by decide +kernel, by decide +kernel, by decide +kernel⟩ (by assumption) (by assumption) (by omega) (by decide) (Nat.le_of_ble_eq_true rfl) (Nat.le_of_ble_eq_true rfl) ?_
  generalize hd_u1 : upR v (o + 1) (cpy (v (q + 1)) (v (o + 1)) (0 : Int).toNat (0 : Int).toNat ((128 : Nat) : Int).toNat) = u1
  have f_u1 : u1 (o + 1) = cpy (v (q + 1)) (v (o + 1)) 0 0 128 := by rw [← hd_u1, upR_s]; rfl
  have n_u1 : ∀ a, a ≠ o + 1 → u1 a = v a := fun a ha => by rw [← hd_u1, upR_n _ _ ha]
  refine j_aload_n X dX3_copy_18 rfl ?_
  refine j_getr X dX3_copy_19 (T := TX3) (N := 8) (C := RX3) hinX3 rfl (by assumption) 1 (by decide) (by decide +kernel) rfl ?_
  refine j_iconst X dX3_copy_22 ?_
  refine j_aload_n X dX3_copy_23 rfl ?_
  refine j_getr X dX3_copy_24 (T := TX3) (N := 8) (C := RX3) hinX3 rfl (by assumption) 1 (by decide) (by decide +kernel) rfl ?_
  refine j_iconst X dX3_copy_27 ?_
  refine j_aload_n X dX3_copy_28 rfl ?_
  refine j_getr X dX3_copy_29 (T := TX3) (N := 8) (C := RX3) hinX3 rfl (by assumption) 1 (by decide) (by decide +kernel) rfl ?_
  refine j_alen (t0 := 0) X dX3_copy_32 (by assumption) rfl ?_
  refine j_copy X dX3_copy_33 ⟨by decide +kernel, by decide +kernel, by decide +kernel, by decide +kernel⟩ (by assumption) (by assumption) (by omega) (by decide) (Nat.le_of_ble_eq_true rfl) (Nat.le_of_ble_eq_true rfl) ?_
  generalize hd_u2 : upR u1 (o + 2) (cpy (u1 (q + 2)) (u1 (o + 2)) (0 : Int).toNat (0 : Int).toNat ((16 : Nat) : Int).toNat) = u2
  have f_u2 : u2 (o + 2) = cpy (u1 (q + 2)) (u1 (o + 2)) 0 0 16 := by rw [← hd_u2, upR_s]; rfl
  have n_u2 : ∀ a, a ≠ o + 2 → u2 a = u1 a := fun a ha => by rw [← hd_u2, upR_n _ _ ha]
  refine j_aload_n X dX3_copy_36 rfl ?_
  refine j_aload_n X dX3_copy_37 rfl ?_
  refine j_geti X dX3_copy_38 (T := TX3) (N := 8) (C := RX3) hinX3 rfl (by assumption) 2 (by decide) (by decide +kernel) rfl ?_
  refine j_put X dX3_copy_41 (T := TX3) (N := 8) (C := RX3) hinX3 rfl (by assumption) 2 (by decide) tyX3 tyX3_ok nmX3 rfl rfl rfl (by decide +kernel) ?_
  generalize hd_u3 : up2 u2 (o) 2 (u2 q 2) = u3
  have f_u3 : u3 (o) 2 = u2 q 2 := by rw [← hd_u3, up2_s, upE_s]
  have g_u3 : ∀ k, k ≠ 2 → u3 (o) k = u2 (o) k := fun k hk => by rw [← hd_u3, up2_s, upE_n _ _ hk]
  have n_u3 : ∀ a, a ≠ o → u3 a = u2 a := fun a ha => by rw [← hd_u3, up2_n _ _ _ ha]
  refine j_aload_n X dX3_copy_44 rfl ?_
  refine j_getr X dX3_copy_45 (T := TX3) (N := 8) (C := RX3) hinX3 rfl (by assumption) 3 (by decide) (by decide +kernel) rfl ?_
  refine j_aload_n X dX3_copy_48 rfl ?_
  refine j_getr X dX3_copy_49 (T := TX3) (N := 8) (C := RX3) hinX3 rfl (by assumption) 3 (by decide) (by decide +kernel) rfl ?_
  have e3 : ∀ a, q ≤ a → a < q + 24 → u3 a = v a := fun a h1 h2 => by rw [n_u3 a (by omega), n_u2 a (by omega), n_u1 a (by omega)]
  refine j_callV (nn := 1) X dX3_copy_52 (c_X0_copy l D nH sk u3 (o + 3) (q + 3) T s3 t3 (hT.kept (e3 _ (by omega) (by omega)) (e3 _ (by omega) (by omega)))) gX3_copy_X0_copy rfl ⟨rfl, rfl⟩ (by decide +kernel) ⟨Nat.le_of_ble_eq_true rfl, Nat.le_of_ble_eq_true rfl⟩ (by assumption) ⟨rfl, rfl⟩ rfl rfl (Nat.le_of_ble_eq_true rfl) ⟨Nat.zero_le _, Nat.zero_le _⟩ (kV (fun v52 h52 => ?_))
  obtain ⟨hT52, f52⟩ := h52
  have e4 : ∀ a, q ≤ a → a < q + 24 → v52 a = v a := fun a h1 h2 => by rw [f52 a (by omega) (by omega), e3 a h1 h2]
  refine j_iconst X dX3_copy_55 ?_
  refine j_istore_n X dX3_copy_56 rfl (Nat.le_of_ble_eq_true rfl) ?_
  refine j_loop (σ := Nat × Mem) (fun (y_ : Nat × Mem) => match y_ with | (i, u) => i ≤ 8 ∧ (∀ a, a < o + 8 ∨ o + 24 ≤ a → u a = v52 a) ∧ ∀ j, j < i → ∃ L, BA v (q + 8 + 2 * j) L ∧ BA u (o + 8 + 2 * j) L) (fun (y_ : Nat × Mem) => match y_ with | (i, u) => 8 - i) (fun (y_ : Nat × Mem) => match y_ with | (i, u) => (u, [some (.ref o), some (.ref q), some (.int (I (i : Int)))])) ?_ (0, v52) ⟨by omega, fun _ _ => rfl, fun j h => absurd h (by omega)⟩
  intro y_ hx ih57
  obtain ⟨i, u⟩ := y_
  dsimp only at hx ih57 ⊢
  obtain ⟨hi, hu1, hu2⟩ := hx
  refine j_iload_n X dX3_copy_57 rfl ?_
  refine j_aload_n X dX3_copy_58 rfl ?_
  refine j_getr X dX3_copy_59 (T := TX3) (N := 8) (C := RX3) hinX3 rfl (by assumption) 4 (by decide) (by decide +kernel) rfl ?_
  refine j_alenQ (t0 := 3) X dX3_copy_62 (by assumption) rfl ?_
  refine j_icmp_ge (tgt := 87) X dX3_copy_63 (by omega) (by decide) (fun c63 => ?_) (fun c63 => ?_)
  · refine j_aload_n X dX3_copy_87 rfl ?_
    refine j_getr X dX3_copy_88 (T := TX3) (N := 8) (C := RX3) hinX3 rfl (by assumption) 5 (by decide) (by decide +kernel) rfl ?_
    refine j_iconst X dX3_copy_91 ?_
    refine j_aload_n X dX3_copy_92 rfl ?_
    refine j_getr X dX3_copy_93 (T := TX3) (N := 8) (C := RX3) hinX3 rfl (by assumption) 5 (by decide) (by decide +kernel) rfl ?_
    refine j_iconst X dX3_copy_96 ?_
    refine j_aload_n X dX3_copy_97 rfl ?_
    refine j_getr X dX3_copy_98 (T := TX3) (N := 8) (C := RX3) hinX3 rfl (by assumption) 5 (by decide) (by decide +kernel) rfl ?_
    refine j_alen (t0 := 0) X dX3_copy_101 (by assumption) rfl ?_
    refine j_copy X dX3_copy_102 ⟨by decide +kernel, by decide +kernel, by decide +kernel, by decide +kernel⟩ (by assumption) (by assumption) (by omega) (by decide) (Nat.le_of_ble_eq_true rfl) (Nat.le_of_ble_eq_true rfl) ?_
    generalize hd_u4 : upR u (o + 6) (cpy (u (q + 6)) (u (o + 6)) (0 : Int).toNat (0 : Int).toNat ((8 : Nat) : Int).toNat) = u4
    have f_u4 : u4 (o + 6) = cpy (u (q + 6)) (u (o + 6)) 0 0 8 := by rw [← hd_u4, upR_s]; rfl
    have n_u4 : ∀ a, a ≠ o + 6 → u4 a = u a := fun a ha => by rw [← hd_u4, upR_n _ _ ha]
    refine j_aload_n X dX3_copy_105 rfl ?_
    refine j_getr X dX3_copy_106 (T := TX3) (N := 8) (C := RX3) hinX3 rfl (by assumption) 6 (by decide) (by decide +kernel) rfl ?_
    refine j_iconst X dX3_copy_109 ?_
    refine j_aload_n X dX3_copy_110 rfl ?_
    refine j_getr X dX3_copy_111 (T := TX3) (N := 8) (C := RX3) hinX3 rfl (by assumption) 6 (by decide) (by decide +kernel) rfl ?_
    refine j_iconst X dX3_copy_114 ?_
    refine j_aload_n X dX3_copy_115 rfl ?_
    refine j_getr X dX3_copy_116 (T := TX3) (N := 8) (C := RX3) hinX3 rfl (by assumption) 6 (by decide) (by decide +kernel) rfl ?_
    refine j_alen (t0 := 0) X dX3_copy_119 (by assumption) rfl ?_
    refine j_copy X dX3_copy_120 ⟨by decide +kernel, by decide +kernel, by decide +kernel, by decide +kernel⟩ (by assumption) (by assumption) (by omega) (by decide) (Nat.le_of_ble_eq_true rfl) (Nat.le_of_ble_eq_true rfl) ?_
    generalize hd_u5 : upR u4 (o + 7) (cpy (u4 (q + 7)) (u4 (o + 7)) (0 : Int).toNat (0 : Int).toNat ((8 : Nat) : Int).toNat) = u5
    have f_u5 : u5 (o + 7) = cpy (u4 (q + 7)) (u4 (o + 7)) 0 0 8 := by rw [← hd_u5, upR_s]; rfl
    have n_u5 : ∀ a, a ≠ o + 7 → u5 a = u4 a := fun a ha => by rw [← hd_u5, upR_n _ _ ha]
    refine j_aload_n X dX3_copy_123 rfl ?_
    refine j_aload_n X dX3_copy_124 rfl ?_
    refine j_geti X dX3_copy_125 (T := TX3) (N := 8) (C := RX3) hinX3 rfl (by assumption) 7 (by decide) (by decide +kernel) rfl ?_
    refine j_put X dX3_copy_128 (T := TX3) (N := 8) (C := RX3) hinX3 rfl (by assumption) 7 (by decide) tyX3 tyX3_ok nmX3 rfl rfl rfl (by decide +kernel) ?_
    generalize hd_u6 : up2 u5 (o) 7 (u5 q 7) = u6
    have f_u6 : u6 (o) 7 = u5 q 7 := by rw [← hd_u6, up2_s, upE_s]
    have g_u6 : ∀ k, k ≠ 7 → u6 (o) k = u5 (o) k := fun k hk => by rw [← hd_u6, up2_s, upE_n _ _ hk]
    have n_u6 : ∀ a, a ≠ o → u6 a = u5 a := fun a ha => by rw [← hd_u6, up2_n _ _ _ ha]
    have hi8 : i = 8 := by omega
    have eq4 : ∀ a, q ≤ a → a < q + 24 → u a = v a := fun a h1 h2 => by rw [hu1 a (by omega), e4 a h1 h2]
    have hret : SR u6 o S ∧ frS v u6 o := by
      refine ⟨hR.copy ?_ ?_ ?_ ?_ ?_ ?_ ?_ ?_, fun a ha => ?_⟩
      · rw [g_u6 2 (by omega), n_u5 o (by omega), n_u4 o (by omega), hu1 o (by omega), f52 o (by omega) (by omega), f_u3, n_u2 q (by omega), n_u1 q (by omega)]
      · rw [f_u6, n_u5 q (by omega), n_u4 q (by omega), eq4 q (by omega) (by omega)]
      · intro j hj
        rw [n_u6 _ (by omega), n_u5 _ (by omega), n_u4 _ (by omega), hu1 _ (by omega), f52 _ (by omega) (by omega), n_u3 _ (by omega), n_u2 _ (by omega), f_u1, cpy_in0 _ _ hj]
      · intro j hj
        rw [n_u6 _ (by omega), n_u5 _ (by omega), n_u4 _ (by omega), hu1 _ (by omega), f52 _ (by omega) (by omega), n_u3 _ (by omega), f_u2, cpy_in0 _ _ hj, n_u1 _ (by omega)]
      · intro j hj
        rw [n_u6 _ (by omega), n_u5 _ (by omega), f_u4, cpy_in0 _ _ hj, eq4 _ (by omega) (by omega)]
      · intro j hj
        rw [n_u6 _ (by omega), f_u5, cpy_in0 _ _ hj, n_u4 _ (by omega), eq4 _ (by omega) (by omega)]
      · refine ⟨T, hT, hT52.kept ?_ ?_⟩
        · rw [n_u6 _ (by omega), n_u5 _ (by omega), n_u4 _ (by omega), hu1 _ (by omega)]
        · rw [n_u6 _ (by omega), n_u5 _ (by omega), n_u4 _ (by omega), hu1 _ (by omega)]
      · intro j hj
        obtain ⟨L, l1, l2⟩ := hu2 j (by omega)
        refine ⟨L, l1, l2.kept ?_ ?_⟩
        · rw [n_u6 _ (by omega), n_u5 _ (by omega), n_u4 _ (by omega)]
        · rw [n_u6 _ (by omega), n_u5 _ (by omega), n_u4 _ (by omega)]
      · rw [n_u6 _ (by omega), n_u5 _ (by omega), n_u4 _ (by omega), hu1 _ (by omega), f52 _ (by omega) (by omega), n_u3 _ (by omega), n_u2 _ (by omega), n_u1 _ (by omega)]
    exact j_vret X dX3_copy_131 ⟨rfl, rfl, hret⟩
  · refine j_aload_n X dX3_copy_66 rfl ?_
    refine j_getr X dX3_copy_67 (T := TX3) (N := 8) (C := RX3) hinX3 rfl (by assumption) 4 (by decide) (by decide +kernel) rfl ?_
    refine j_iload_n X dX3_copy_70 rfl ?_
    refine j_aald (t0 := 3) X dX3_copy_71 (by assumption) rfl (by omega) (by decide) (by rw [Int.toNat_natCast]; exact hg i (by omega)) ?_
    refine j_aload_n X dX3_copy_72 rfl ?_
    refine j_getr X dX3_copy_73 (T := TX3) (N := 8) (C := RX3) hinX3 rfl (by assumption) 4 (by decide) (by decide +kernel) rfl ?_
    refine j_iload_n X dX3_copy_76 rfl ?_
    refine j_aald (t0 := 3) X dX3_copy_77 (by assumption) rfl (by omega) (by decide) (by rw [Int.toNat_natCast]; exact hgq i (by omega)) ?_
    have hsi := s8 i (by omega)
    have hti := t8 i (by omega)
    obtain ⟨hsi0, hsi1⟩ := id hsi
    obtain ⟨Li, hLi⟩ := r5 i (by omega)
    have hLu : BA u (q + 8 + 2 * i) Li := hLi.kept (by rw [hu1 _ (by omega), e4 _ (by omega) (by omega)]) (by rw [hu1 _ (by omega), e4 _ (by omega) (by omega)])
    refine j_callV (nn := 1) X dX3_copy_78 (c_X0_copy l D nH sk u (o + 8 + 2 * i) (q + 8 + 2 * i) Li hsi hti hLu) gX3_copy_X0_copy rfl ⟨rfl, rfl⟩ (by decide +kernel) ⟨Nat.le_of_ble_eq_true rfl, Nat.le_of_ble_eq_true rfl⟩ (by assumption) ⟨rfl, rfl⟩ rfl rfl (Nat.le_of_ble_eq_true rfl) ⟨Nat.zero_le _, Nat.zero_le _⟩ (kV (fun v78 h78 => ?_))
    obtain ⟨hL78, f78⟩ := h78
    refine j_iinc X dX3_copy_81 rfl rfl (Nat.le_of_ble_eq_true rfl) ?_
    refine j_goto (tgt := 57) X dX3_copy_84 (by decide) ?_
    exact ih57 (i + 1, v78) (by (try dsimp only); exact ⟨by omega, fun a ha => by rw [f78 a (by omega) (by omega)]; exact hu1 a ha, fun j hj => by rcases Nat.lt_or_ge j i with y | y; (obtain ⟨L, l1, l2⟩ := hu2 j y; exact ⟨L, l1, l2.kept (f78 _ (by omega) (by omega)) (f78 _ (by omega) (by omega))⟩); have hji : j = i := (by omega); subst hji; exact ⟨Li, hLi, hL78⟩⟩) (by (try dsimp only); omega)
def rmX3_addOwner : Room := { frames := 2, cells := 0, slots := 0, locals := 47 }
set_option maxHeartbeats 4000000 in
set_option maxRecDepth 100000 in
theorem c_X3_addOwner (l : Launch) (D : va_G) (nH : Nat) (sk : Sk) (v : Mem) (o : Nat) (S : AS) (hS : Sd D sk o) (hR : SR v o S) (hn : no S < 8) : CtI l D yX3_addOwner wsX3_addOwner rmX3_addOwner [.ref o] nH sk v (fun z v' => z = (no S : Int) ∧ SR v' o (ownA S) ∧ frS v v' o) := by
  refine ct_of (cc := cX3_addOwner) (maxL := 2) (ret := (some .int)) rfl rfl (Nat.le_of_ble_eq_true rfl) ?_
  intro p_ e_ s_ m_ args_ below_ meth_ c_ X hmn hsz
  have hinX3 : ∀ w ∈ wsX30, w ∈ wsX3_addOwner := by decide +kernel
  obtain ⟨s0, s1, s2, s3, ⟨g, s5, hg⟩, s6, s7, s8⟩ := id hS
  obtain ⟨r1, r2, r3, ⟨T, hTp, hT⟩, r5, r6⟩ := id hR
  obtain ⟨s30, s31⟩ := id s3
  have hsi := s8 (no S) hn
  obtain ⟨hsi0, hsi1⟩ := id hsi
  refine j_aload_n X dX3_addOwner_0 rfl ?_
  refine j_geti X dX3_addOwner_1 (T := TX3) (N := 8) (C := RX3) hinX3 rfl (by assumption) 7 (by decide) (by decide +kernel) rfl ?_
  rw [r3]
  refine j_istore_n X dX3_addOwner_4 rfl (Nat.le_of_ble_eq_true rfl) ?_
  refine j_aload_n X dX3_addOwner_5 rfl ?_
  refine j_getr X dX3_addOwner_6 (T := TX3) (N := 8) (C := RX3) hinX3 rfl (by assumption) 4 (by decide) (by decide +kernel) rfl ?_
  refine j_iload_n X dX3_addOwner_9 rfl ?_
  refine j_aald (t0 := 3) X dX3_addOwner_10 (by assumption) rfl (by omega) (by decide) (by rw [Int.toNat_natCast]; exact hg (no S) hn) ?_
  refine j_aload_n X dX3_addOwner_11 rfl ?_
  refine j_getr X dX3_addOwner_12 (T := TX3) (N := 8) (C := RX3) hinX3 rfl (by assumption) 3 (by decide) (by decide +kernel) rfl ?_
  refine j_callV (nn := 1) X dX3_addOwner_15 (c_X0_copy l D nH sk v (o + 8 + 2 * no S) (o + 3) T hsi s3 hT) gX3_addOwner_X0_copy rfl ⟨rfl, rfl⟩ (by decide +kernel) ⟨Nat.le_of_ble_eq_true rfl, Nat.le_of_ble_eq_true rfl⟩ (by assumption) ⟨rfl, rfl⟩ rfl rfl (Nat.le_of_ble_eq_true rfl) ⟨Nat.zero_le _, Nat.zero_le _⟩ (kV (fun v15 h15 => ?_))
  skip
  refine j_aload_n X dX3_addOwner_18 rfl ?_
  refine j_getr X dX3_addOwner_19 (T := TX3) (N := 8) (C := RX3) hinX3 rfl (by assumption) 5 (by decide) (by decide +kernel) rfl ?_
  refine j_iload_n X dX3_addOwner_22 rfl ?_
  refine j_iconst X dX3_addOwner_23 ?_
  generalize hw1 : v15 = w1 at h15 ⊢
  refine j_iast X dX3_addOwner_24 (by assumption) (by omega) (by decide) ?_
  rw [Int.toNat_natCast]
  generalize hd_u1 : up2 w1 (o + 6) (no S) 0 = u1
  have f_u1 : u1 (o + 6) (no S) = 0 := by rw [← hd_u1, up2_s, upE_s]
  have g_u1 : ∀ k, k ≠ no S → u1 (o + 6) k = w1 (o + 6) k := fun k hk => by rw [← hd_u1, up2_s, upE_n _ _ hk]
  have n_u1 : ∀ a, a ≠ o + 6 → u1 a = w1 a := fun a ha => by rw [← hd_u1, up2_n _ _ _ ha]
  refine j_aload_n X dX3_addOwner_25 rfl ?_
  refine j_getr X dX3_addOwner_26 (T := TX3) (N := 8) (C := RX3) hinX3 rfl (by assumption) 6 (by decide) (by decide +kernel) rfl ?_
  refine j_iload_n X dX3_addOwner_29 rfl ?_
  refine j_iconst X dX3_addOwner_30 ?_
  refine j_iast X dX3_addOwner_31 (by assumption) (by omega) (by decide) ?_
  rw [Int.toNat_natCast]
  generalize hd_u2 : up2 u1 (o + 7) (no S) 0 = u2
  have f_u2 : u2 (o + 7) (no S) = 0 := by rw [← hd_u2, up2_s, upE_s]
  have g_u2 : ∀ k, k ≠ no S → u2 (o + 7) k = u1 (o + 7) k := fun k hk => by rw [← hd_u2, up2_s, upE_n _ _ hk]
  have n_u2 : ∀ a, a ≠ o + 7 → u2 a = u1 a := fun a ha => by rw [← hd_u2, up2_n _ _ _ ha]
  obtain ⟨hT15, f15⟩ := h15
  have hn2 : u2 o 7 = (no S : Int) := by rw [n_u2 o (by omega), n_u1 o (by omega), f15 o (by omega) (by omega)]; exact r3
  refine j_aload_n X dX3_addOwner_32 rfl ?_
  refine j_dup X dX3_addOwner_33 rfl ?_
  refine j_geti X dX3_addOwner_34 (T := TX3) (N := 8) (C := RX3) hinX3 rfl (by assumption) 7 (by decide) (by decide +kernel) rfl ?_
  refine j_iconst X dX3_addOwner_37 ?_
  refine j_iadd X dX3_addOwner_38 ?_
  rw [hn2]
  refine j_put X dX3_addOwner_39 (T := TX3) (N := 8) (C := RX3) hinX3 rfl (by assumption) 7 (by decide) tyX3 tyX3_ok nmX3 rfl rfl rfl (by decide +kernel) ?_
  generalize hd_u3 : up2 u2 (o) 7 ((no S : Int) + 1) = u3
  have f_u3 : u3 (o) 7 = (no S : Int) + 1 := by rw [← hd_u3, up2_s, upE_s]
  have g_u3 : ∀ k, k ≠ 7 → u3 (o) k = u2 (o) k := fun k hk => by rw [← hd_u3, up2_s, upE_n _ _ hk]
  have n_u3 : ∀ a, a ≠ o → u3 a = u2 a := fun a ha => by rw [← hd_u3, up2_n _ _ _ ha]
  refine j_iload_n X dX3_addOwner_42 rfl ?_
  have hret : (no S : Int) = (no S : Int) ∧ SR u3 o (ownA S) ∧ frS v u3 o := by
    have e : ∀ a, a ≠ o → a ≠ o + 6 → a ≠ o + 7 → u3 a = w1 a := fun a h1 h2 h3 => by rw [n_u3 a h1, n_u2 a h3, n_u1 a h2]
    refine ⟨rfl, ⟨r1.own hn, ?_, ?_, ⟨T, hTp, ?_⟩, fun i hi => ?_, fun i hi => ?_⟩, fun a ha => ?_⟩
    · obtain ⟨a1, a2, a3⟩ := r2
      refine ⟨by rw [g_u3 2 (by omega), n_u2 o (by omega), n_u1 o (by omega), f15 o (by omega) (by omega)]; exact a1, a2, fun i hi => ?_⟩
      rw [e (o + 2) (by omega) (by omega) (by omega), e (o + 1) (by omega) (by omega) (by omega), f15 (o + 2) (by omega) (by omega), f15 (o + 1) (by omega) (by omega)]
      exact a3 i hi
    · rw [f_u3]; rfl
    · exact hT.kept (by rw [e (o + 3) (by omega) (by omega) (by omega), f15 (o + 3) (by omega) (by omega)]) (by rw [e (o + 3 + 1) (by omega) (by omega) (by omega), f15 (o + 3 + 1) (by omega) (by omega)])
    · by_cases q : i = no S
      · subst q
        exact ⟨T, hT15.kept (by rw [e _ (by omega) (by omega) (by omega)]) (by rw [e _ (by omega) (by omega) (by omega)])⟩
      · obtain ⟨L, hL⟩ := r5 i hi
        exact ⟨L, hL.kept (by rw [e _ (by omega) (by omega) (by omega), f15 _ (by omega) (by omega)]) (by rw [e _ (by omega) (by omega) (by omega), f15 _ (by omega) (by omega)])⟩
    · show BP u3 (o + 8 + 2 * i) (fset (bn S) (no S) (tx S) i) ∧ u3 (o + 6) i = ((fset (wt S) (no S) 0 i : Nat) : Int) ∧ u3 (o + 7) i = ((fset (lo_ S) (no S) 0 i : Nat) : Int)
      by_cases q : i = no S
      · subst q
        rw [fset_s, fset_s, fset_s]
        refine ⟨⟨T, hTp, hT15.kept (by rw [e _ (by omega) (by omega) (by omega)]) (by rw [e _ (by omega) (by omega) (by omega)])⟩, ?_, ?_⟩
        · rw [n_u3 _ (by omega), n_u2 _ (by omega), f_u1]; rfl
        · rw [n_u3 _ (by omega), f_u2]; rfl
      · rw [fset_n _ _ q, fset_n _ _ q, fset_n _ _ q]
        have hi2 : i < no S + 1 := hi
        obtain ⟨b1, b2, b3⟩ := r6 i (by omega)
        refine ⟨b1.kept (by rw [e _ (by omega) (by omega) (by omega), f15 _ (by omega) (by omega)]) (by rw [e _ (by omega) (by omega) (by omega), f15 _ (by omega) (by omega)]), ?_, ?_⟩
        · rw [n_u3 _ (by omega), n_u2 _ (by omega), g_u1 i q, f15 _ (by omega) (by omega)]; exact b2
        · rw [n_u3 _ (by omega), g_u2 i q, n_u1 _ (by omega), f15 _ (by omega) (by omega)]; exact b3
    · rw [e a (by omega) (by omega) (by omega), f15 a (by omega) (by omega)]
  exact j_iret X dX3_addOwner_43 ⟨_, rfl, rfl, hret⟩
