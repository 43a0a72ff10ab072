theorem b_notm {k : Nat} (hk : k ≤ 16) : I (((2 ^ k : Nat) : Int) - 1) ^^^ I (-1) = I (-((2 ^ k : Nat) : Int)) := by
  have : ∀ j, j < 17 → I (((2 ^ j : Nat) : Int) - 1) ^^^ I (-1) = I (-((2 ^ j : Nat) : Int)) := by decide
  exact this k (by omega)
theorem b_top {n k : Nat} (hn : n ≤ 16) (hk : k ≤ n) : I (((2 ^ n : Nat) : Int) - 1) &&& I (-((2 ^ k : Nat) : Int)) = I ((2 ^ n - 2 ^ k : Nat) : Int) := by
  have : ∀ i, i < 17 → ∀ j, j < i + 1 → I (((2 ^ i : Nat) : Int) - 1) &&& I (-((2 ^ j : Nat) : Int)) = I ((2 ^ i - 2 ^ j : Nat) : Int) := by decide +kernel
  exact this n (by omega) k (by omega)
theorem isE_issF {T : List Nat} (hu : unq T) (n : Nat) : (issF T n = 0 → isE T n (-6)) ∧ (issF T n ≠ 0 → isE T n ((issF T n : Int) - 1)) := by
  rcases issF_or n T 0 with ⟨h1, h2⟩ | ⟨x, h1, h2, h3⟩
  · have e : issF T n = 0 := h1
    exact ⟨fun _ => Or.inl ⟨rfl, h2⟩, fun h => absurd e h⟩
  · have e : issF T n = x % 16 + 1 := h3
    refine ⟨fun h => by omega, fun _ => Or.inr ⟨x, h1, h2, by omega, fun y hy hyn => ?_⟩⟩
    rw [hu x h1 y hy (by omega)]
    exact Nat.le_refl _
def isMO (S : AS) (i s : Nat) (z : Int) : Prop := (z = -6 ∧ ∀ k, k < 2 ^ np S → pop k = s → ¬ rt (tryL S i k) (tx S) = true) ∨ ∃ k : Nat, z = (k : Int) ∧ k < 2 ^ np S ∧ pop k = s ∧ rt (tryL S i k) (tx S) = true ∧ ∀ j, j < k → pop j = s → ¬ rt (tryL S i j) (tx S) = true
theorem isMO.bd {S : AS} {i s : Nat} {z : Int} (hn : np S ≤ 16) (h : isMO S i s z) : -6 ≤ z ∧ z ≤ 65536 := by
  have := p2_lt hn
  rcases h with h | ⟨k, h1, h2, h3⟩ <;> omega
def rmX5_put : Room := { frames := 1, cells := 0, slots := 0, locals := 22 }
set_option maxHeartbeats 4000000 in
set_option maxRecDepth 100000 in
theorem c_X5_put (l : Launch) (D : va_G) (nH : Nat) (sk : Sk) (v : Mem) (m w : Nat) (G : GS) (hM : Md D sk m) (hR : MXR v m G) (hw : w < 2 ^ 64) : CtI l D yX5_put wsX5_put rmX5_put [.ref m, .long (lN w)] nH sk v (fun z v' => z = (sPut G w).1 ∧ MXR v' m (sPut G w).2 ∧ frM v v' m) := by
  refine ct_of (cc := cX5_put) (maxL := 8) (ret := (some .int)) rfl rfl (Nat.le_of_ble_eq_true rfl) ?_
  intro p_ e_ s_ m_ args_ below_ meth_ c_ X hmn hsz
  have hinX5 : ∀ w ∈ wsX50, w ∈ wsX5_put := by decide +kernel
  obtain ⟨m0, m1, m2, m3, m4, m5, m6, m7, m8, m9, m10⟩ := id hM
  obtain ⟨hR1, hR2, hR3, hR4⟩ := id hR
  obtain ⟨hOO, hno8, hno, hT, hNU, hBB⟩ := id hR1
  obtain ⟨o1, o2, o3⟩ := id hOO
  obtain ⟨hp0, hp1, hp2, hp3⟩ := id hR4
  refine j_iconst X dX5_put_0 ?_
  refine j_istore_n X dX5_put_1 rfl (Nat.le_of_ble_eq_true rfl) ?_
  refine j_lload_n X dX5_put_2 rfl ?_
  refine j_lstore X dX5_put_3 rfl (Nat.le_of_ble_eq_true rfl) ?_
  refine j_iconst X dX5_put_5 ?_
  refine j_istore X dX5_put_6 rfl (Nat.le_of_ble_eq_true rfl) ?_
  refine j_loop (σ := Nat × Int × Nat) (fun (y_ : Nat × Int × Nat) => match y_ with | (k, z, y) => k ≤ 8 ∧ y = w / 256 ^ k ∧ y < 2 ^ 64 ∧ (z = 0 ∨ z = 1) ∧ (z = 1 ↔ ∀ j, j < k → 33 ≤ w / 256 ^ j % 256 ∧ w / 256 ^ j % 256 ≤ 126) ∧ ∀ j, j < k → w / 256 ^ j % 256 ≠ 0) (fun (y_ : Nat × Int × Nat) => match y_ with | (k, z, y) => 8 - k) (fun (y_ : Nat × Int × Nat) => match y_ with | (k, z, y) => (v, [some (.ref m), some (.long (lN w)), none, some (.int (I (k : Int))), some (.long (lN y)), none, some (.int (I z)), none])) ?_ (0, 1, w) ⟨by omega, by simp, hw, Or.inr rfl, ⟨fun _ j h => absurd h (by omega), fun _ => rfl⟩, fun j h => absurd h (by omega)⟩
  intro y_ hx ih8
  obtain ⟨k, z, y⟩ := y_
  dsimp only at hx ih8 ⊢
  obtain ⟨hk, hy, hy64, hz1, hz2, hnz⟩ := hx
  refine j_iload_n X dX5_put_8 rfl ?_
  refine j_bipush X dX5_put_9 (by decide) ?_
  refine j_icmp_ge (tgt := 67) X dX5_put_11 (by omega) (by decide) (fun c11 => ?_) (fun c11 => ?_)
  · have he : k = 8 ∨ w / 256 ^ k % 256 = 0 := by rw [← hy]; omega
    refine j_iload_n X dX5_put_67 rfl ?_
    refine j_if_eq (tgt := 83) X dX5_put_68 (by omega) (by decide) (fun c68 => ?_) (fun c68 => ?_)
    · refine j_bipush X dX5_put_83 (by decide) ?_
      have hret : (-2 : Int) = (sPut G w).1 ∧ MXR v m (sPut G w).2 ∧ frM v v m := by
        rw [show sPut G w = (-2, G) from cite_t (fun ⟨k', h⟩ => by
          have e := no_ch hk hnz he h
          subst e
          first
          | exact absurd h.1 (by omega)
          | exact absurd (hz2.mpr h.2.2.1) (by omega)
          | (have := h.2.2.2; rw [← hy] at this; omega)) _ _]
        exact ⟨rfl, hR, frM.refl _ _⟩
      exact j_iret X dX5_put_85 ⟨_, rfl, rfl, hret⟩
    · refine j_iload X dX5_put_71 rfl ?_
      refine j_if_eq (tgt := 83) X dX5_put_73 (by omega) (by decide) (fun c73 => ?_) (fun c73 => ?_)
      · refine j_bipush X dX5_put_83 (by decide) ?_
        have hret : (-2 : Int) = (sPut G w).1 ∧ MXR v m (sPut G w).2 ∧ frM v v m := by
          rw [show sPut G w = (-2, G) from cite_t (fun ⟨k', h⟩ => by
            have e := no_ch hk hnz he h
            subst e
            first
            | exact absurd h.1 (by omega)
            | exact absurd (hz2.mpr h.2.2.1) (by omega)
            | (have := h.2.2.2; rw [← hy] at this; omega)) _ _]
          exact ⟨rfl, hR, frM.refl _ _⟩
        exact j_iret X dX5_put_85 ⟨_, rfl, rfl, hret⟩
      · refine j_lload X dX5_put_76 rfl ?_
        refine j_lconst X dX5_put_78 ?_
        refine j_lcmp X dX5_put_79 (fun z79 hz79a hz79b hz79c => ?_)
        have hzy := hz79b.trans (lN_0 hy64)
        refine j_if_eq (tgt := 86) X dX5_put_80 (by omega) (by decide) (fun c80 => ?_) (fun c80 => ?_)
        · have hch : chOK w k := ⟨by omega, hk, hz2.mp (by omega), by rw [← hy]; omega⟩
          have hpk := putK_is hch
          refine j_aload_n X dX5_put_86 rfl ?_
          refine j_geti X dX5_put_87 (T := TX5) (N := 13) (C := RX5) hinX5 rfl (by assumption) 7 (by decide) (by decide +kernel) rfl ?_
          rw [hp0]
          refine j_iload_n X dX5_put_90 rfl ?_
          refine j_iadd X dX5_put_91 ?_
          refine j_bipush X dX5_put_92 (by decide) ?_
          refine j_icmp_le (tgt := 100) X dX5_put_94 (by omega) (by decide) (fun c94 => ?_) (fun c94 => ?_)
          · refine j_iload_n X dX5_put_100 rfl ?_
            refine j_iconst X dX5_put_101 ?_
            refine j_isub X dX5_put_102 ?_
            refine j_istore X dX5_put_103 rfl (Nat.le_of_ble_eq_true rfl) ?_
            refine j_loop (σ := Nat × Mem) (fun (y_ : Nat × Mem) => match y_ with | (j, u) => j ≤ k ∧ u m 7 = ((G.2.2.2.length + (k - j) : Nat) : Int) ∧ (∀ i, i ≠ 7 → u m i = v m i) ∧ (∀ a, a ≠ m → a ≠ m + 6 → u a = v a) ∧ (∀ x, x < G.2.2.2.length → u (m + 6) x = v (m + 6) x) ∧ ∀ t, t < k - j → u (m + 6) (G.2.2.2.length + t) = ((w / 256 ^ (k - 1 - t) % 256 : Nat) : Int)) (fun (y_ : Nat × Mem) => match y_ with | (j, u) => j) (fun (y_ : Nat × Mem) => match y_ with | (j, u) => (u, [some (.ref m), some (.long (lN w)), none, some (.int (I (k : Int))), some (.long (lN y)), none, some (.int (I z)), some (.int (I ((j : Int) - 1)))])) ?_ (k, v) ⟨Nat.le_refl _, by rw [hp0]; omega, fun _ _ => rfl, fun _ _ _ => rfl, fun _ _ => rfl, fun t h => absurd h (by omega)⟩
            intro y_ hx ih105
            obtain ⟨j, u⟩ := y_
            dsimp only at hx ih105 ⊢
            obtain ⟨hj, hu7, hum, hua, hux, hut⟩ := hx
            refine j_iload X dX5_put_105 rfl ?_
            refine j_if_lt (tgt := 147) X dX5_put_107 (by omega) (by decide) (fun c107 => ?_) (fun c107 => ?_)
            · refine j_aload_n X dX5_put_147 rfl ?_
              refine j_geti X dX5_put_148 (T := TX5) (N := 13) (C := RX5) hinX5 rfl (by assumption) 7 (by decide) (by decide +kernel) rfl ?_
              have hret : u m 7 = (sPut G w).1 ∧ MXR u m (sPut G w).2 ∧ frM v u m := by
                rw [show sPut G w = (((G.2.2.2.length + putK w : Nat) : Int), (G.1, G.2.1, G.2.2.1, G.2.2.2 ++ chs w (putK w))) from (cite_f (fun h => h ⟨k, hch⟩) _ _).trans (cite_f (by rw [hpk]; omega) _ _), hpk]
                have hj0 : j = 0 := by omega
                subst hj0
                refine ⟨by rw [hu7]; rfl, ⟨by rw [show u (m + 1) = v (m + 1) from hua _ (by omega) (by omega)]; exact hR1, hR2.kept (hum _ (by omega)) (hua _ (by omega) (by omega)), hR3.kept (hua _ (by omega) (by omega)) (hua _ (by omega) (by omega)), ?_⟩, fun a ha => hua a (by omega) (by omega)⟩
                refine ⟨by rw [hu7]; simp [chs_len], by simp [chs_len]; omega, fun x hx => ?_, fun x hx => ?_⟩
                · rw [List.getElem_append]
                  by_cases q : x < G.2.2.2.length
                  · rw [dif_pos q, hux x q]; exact hp2 x q
                  · rw [dif_neg q, chs_get]
                    have hx2 : x < G.2.2.2.length + k := by simpa [chs_len] using hx
                    have := hut (x - G.2.2.2.length) (by omega)
                    rw [show G.2.2.2.length + (x - G.2.2.2.length) = x by omega] at this
                    exact this
                · rcases List.mem_append.mp hx with q | q
                  · exact hp3 x q
                  · obtain ⟨t, ht, rfl⟩ := List.getElem_of_mem q
                    rw [chs_get]
                    exact hch.2.2.1 _ (by rw [chs_len] at ht; omega)
              exact j_iret X dX5_put_151 ⟨_, rfl, rfl, hret⟩
            · obtain ⟨d, rfl⟩ : ∃ d : Nat, j = d + 1 := ⟨j - 1, by omega⟩
              rw [show ((d + 1 : Nat) : Int) - 1 = (d : Int) by omega]
              refine j_aload_n X dX5_put_110 rfl ?_
              refine j_getr X dX5_put_111 (T := TX5) (N := 13) (C := RX5) hinX5 rfl (by assumption) 6 (by decide) (by decide +kernel) rfl ?_
              refine j_aload_n X dX5_put_114 rfl ?_
              refine j_geti X dX5_put_115 (T := TX5) (N := 13) (C := RX5) hinX5 rfl (by assumption) 7 (by decide) (by decide +kernel) rfl ?_
              rw [hu7]
              refine j_lload_n X dX5_put_118 rfl ?_
              refine j_bipush X dX5_put_119 (by decide) ?_
              refine j_iload X dX5_put_121 rfl ?_
              refine j_imul X dX5_put_123 ?_
              refine j_lushr X dX5_put_124 (b_ushrJ hw (by omega)) ?_
              refine j_ldc2 X (w := 255) dX5_put_125 (by decide +kernel) ?_
              refine j_land X dX5_put_128 b_mask ?_
              refine j_l2i X dX5_put_129 b_l2i ?_
              refine j_iasN X dX5_put_130 (by assumption) (G.2.2.2.length + (k - (d + 1))) (by omega) (by omega) (by decide) (fun u130 f130 g130 n130 => ?_)
              refine j_aload_n X dX5_put_131 rfl ?_
              refine j_dup X dX5_put_132 rfl ?_
              skip
              refine j_geti X dX5_put_133 (T := TX5) (N := 13) (C := RX5) hinX5 rfl (by assumption) 7 (by decide) (by decide +kernel) rfl ?_
              rw [show u130 m 7 = ((G.2.2.2.length + (k - (d + 1)) : Nat) : Int) by rw [n130 _ (by omega)]; exact hu7]
              refine j_iconst X dX5_put_136 ?_
              refine j_iadd X dX5_put_137 ?_
              refine j_putU X dX5_put_138 (T := TX5) (N := 13) (C := RX5) hinX5 rfl (by assumption) 7 (by decide) tyX5 tyX5_ok nmX5 rfl rfl rfl (by decide +kernel) (fun u138 f138 g138 n138 => ?_)
              refine j_iinc X dX5_put_141 rfl rfl (Nat.le_of_ble_eq_true rfl) ?_
              refine j_goto (tgt := 105) X dX5_put_144 (by decide) ?_
              rw [show (d : Int) + -1 = (d : Int) - 1 by omega]
              exact ih105 (d, u138) (by (try dsimp only); exact ⟨by omega, by rw [f138]; omega, fun i hi => by rw [g138 i hi, n130 _ (by omega)]; exact hum i hi, fun a h1 h2 => by rw [n138 a h1, n130 a h2]; exact hua a h1 h2, fun x hx => by rw [n138 _ (by omega), g130 x (by omega)]; exact hux x hx, fun t ht => by
  rw [n138 _ (by omega)]
  by_cases q : t = k - (d + 1)
  · rw [q, f130, show k - 1 - (k - (d + 1)) = d by omega]
  · rw [g130 _ (by omega)]; exact hut t (by omega)⟩) (by (try dsimp only); omega)
          · refine j_bipush X dX5_put_97 (by decide) ?_
            have hret : (-4 : Int) = (sPut G w).1 ∧ MXR v m (sPut G w).2 ∧ frM v v m := by
              rw [show sPut G w = (-4, G) from (cite_f (fun h => h ⟨k, hch⟩) _ _).trans (cite_t (by rw [hpk]; omega) _ _)]
              exact ⟨rfl, hR, frM.refl _ _⟩
            exact j_iret X dX5_put_99 ⟨_, rfl, rfl, hret⟩
        · refine j_bipush X dX5_put_83 (by decide) ?_
          have hret : (-2 : Int) = (sPut G w).1 ∧ MXR v m (sPut G w).2 ∧ frM v v m := by
            rw [show sPut G w = (-2, G) from cite_t (fun ⟨k', h⟩ => by
              have e := no_ch hk hnz he h
              subst e
              first
              | exact absurd h.1 (by omega)
              | exact absurd (hz2.mpr h.2.2.1) (by omega)
              | (have := h.2.2.2; rw [← hy] at this; omega)) _ _]
            exact ⟨rfl, hR, frM.refl _ _⟩
          exact j_iret X dX5_put_85 ⟨_, rfl, rfl, hret⟩
  · refine j_lload X dX5_put_14 rfl ?_
    refine j_ldc2 X (w := 255) dX5_put_16 (by decide +kernel) ?_
    refine j_land X dX5_put_19 b_mask ?_
    refine j_lconst X dX5_put_20 ?_
    refine j_lcmp X dX5_put_21 (fun z21 hz21a hz21b hz21c => ?_)
    have hz0 := hz21b.trans (lN_0 (by omega))
    refine j_if_eq (tgt := 67) X dX5_put_22 (by omega) (by decide) (fun c22 => ?_) (fun c22 => ?_)
    · have he : k = 8 ∨ w / 256 ^ k % 256 = 0 := by rw [← hy]; omega
      refine j_iload_n X dX5_put_67 rfl ?_
      refine j_if_eq (tgt := 83) X dX5_put_68 (by omega) (by decide) (fun c68 => ?_) (fun c68 => ?_)
      · refine j_bipush X dX5_put_83 (by decide) ?_
        have hret : (-2 : Int) = (sPut G w).1 ∧ MXR v m (sPut G w).2 ∧ frM v v m := by
          rw [show sPut G w = (-2, G) from cite_t (fun ⟨k', h⟩ => by
            have e := no_ch hk hnz he h
            subst e
            first
            | exact absurd h.1 (by omega)
            | exact absurd (hz2.mpr h.2.2.1) (by omega)
            | (have := h.2.2.2; rw [← hy] at this; omega)) _ _]
          exact ⟨rfl, hR, frM.refl _ _⟩
        exact j_iret X dX5_put_85 ⟨_, rfl, rfl, hret⟩
      · refine j_iload X dX5_put_71 rfl ?_
        refine j_if_eq (tgt := 83) X dX5_put_73 (by omega) (by decide) (fun c73 => ?_) (fun c73 => ?_)
        · refine j_bipush X dX5_put_83 (by decide) ?_
          have hret : (-2 : Int) = (sPut G w).1 ∧ MXR v m (sPut G w).2 ∧ frM v v m := by
            rw [show sPut G w = (-2, G) from cite_t (fun ⟨k', h⟩ => by
              have e := no_ch hk hnz he h
              subst e
              first
              | exact absurd h.1 (by omega)
              | exact absurd (hz2.mpr h.2.2.1) (by omega)
              | (have := h.2.2.2; rw [← hy] at this; omega)) _ _]
            exact ⟨rfl, hR, frM.refl _ _⟩
          exact j_iret X dX5_put_85 ⟨_, rfl, rfl, hret⟩
        · refine j_lload X dX5_put_76 rfl ?_
          refine j_lconst X dX5_put_78 ?_
          refine j_lcmp X dX5_put_79 (fun z79 hz79a hz79b hz79c => ?_)
          have hzy := hz79b.trans (lN_0 hy64)
          refine j_if_eq (tgt := 86) X dX5_put_80 (by omega) (by decide) (fun c80 => ?_) (fun c80 => ?_)
          · have hch : chOK w k := ⟨by omega, hk, hz2.mp (by omega), by rw [← hy]; omega⟩
            have hpk := putK_is hch
            refine j_aload_n X dX5_put_86 rfl ?_
            refine j_geti X dX5_put_87 (T := TX5) (N := 13) (C := RX5) hinX5 rfl (by assumption) 7 (by decide) (by decide +kernel) rfl ?_
            rw [hp0]
            refine j_iload_n X dX5_put_90 rfl ?_
            refine j_iadd X dX5_put_91 ?_
            refine j_bipush X dX5_put_92 (by decide) ?_
            refine j_icmp_le (tgt := 100) X dX5_put_94 (by omega) (by decide) (fun c94 => ?_) (fun c94 => ?_)
            · refine j_iload_n X dX5_put_100 rfl ?_
              refine j_iconst X dX5_put_101 ?_
              refine j_isub X dX5_put_102 ?_
              refine j_istore X dX5_put_103 rfl (Nat.le_of_ble_eq_true rfl) ?_
              refine j_loop (σ := Nat × Mem) (fun (y_ : Nat × Mem) => match y_ with | (j, u) => j ≤ k ∧ u m 7 = ((G.2.2.2.length + (k - j) : Nat) : Int) ∧ (∀ i, i ≠ 7 → u m i = v m i) ∧ (∀ a, a ≠ m → a ≠ m + 6 → u a = v a) ∧ (∀ x, x < G.2.2.2.length → u (m + 6) x = v (m + 6) x) ∧ ∀ t, t < k - j → u (m + 6) (G.2.2.2.length + t) = ((w / 256 ^ (k - 1 - t) % 256 : Nat) : Int)) (fun (y_ : Nat × Mem) => match y_ with | (j, u) => j) (fun (y_ : Nat × Mem) => match y_ with | (j, u) => (u, [some (.ref m), some (.long (lN w)), none, some (.int (I (k : Int))), some (.long (lN y)), none, some (.int (I z)), some (.int (I ((j : Int) - 1)))])) ?_ (k, v) ⟨Nat.le_refl _, by rw [hp0]; omega, fun _ _ => rfl, fun _ _ _ => rfl, fun _ _ => rfl, fun t h => absurd h (by omega)⟩
              intro y_ hx ih105
              obtain ⟨j, u⟩ := y_
              dsimp only at hx ih105 ⊢
              obtain ⟨hj, hu7, hum, hua, hux, hut⟩ := hx
              refine j_iload X dX5_put_105 rfl ?_
              refine j_if_lt (tgt := 147) X dX5_put_107 (by omega) (by decide) (fun c107 => ?_) (fun c107 => ?_)
              · refine j_aload_n X dX5_put_147 rfl ?_
                refine j_geti X dX5_put_148 (T := TX5) (N := 13) (C := RX5) hinX5 rfl (by assumption) 7 (by decide) (by decide +kernel) rfl ?_
                have hret : u m 7 = (sPut G w).1 ∧ MXR u m (sPut G w).2 ∧ frM v u m := by
                  rw [show sPut G w = (((G.2.2.2.length + putK w : Nat) : Int), (G.1, G.2.1, G.2.2.1, G.2.2.2 ++ chs w (putK w))) from (cite_f (fun h => h ⟨k, hch⟩) _ _).trans (cite_f (by rw [hpk]; omega) _ _), hpk]
                  have hj0 : j = 0 := by omega
                  subst hj0
                  refine ⟨by rw [hu7]; rfl, ⟨by rw [show u (m + 1) = v (m + 1) from hua _ (by omega) (by omega)]; exact hR1, hR2.kept (hum _ (by omega)) (hua _ (by omega) (by omega)), hR3.kept (hua _ (by omega) (by omega)) (hua _ (by omega) (by omega)), ?_⟩, fun a ha => hua a (by omega) (by omega)⟩
                  refine ⟨by rw [hu7]; simp [chs_len], by simp [chs_len]; omega, fun x hx => ?_, fun x hx => ?_⟩
                  · rw [List.getElem_append]
                    by_cases q : x < G.2.2.2.length
                    · rw [dif_pos q, hux x q]; exact hp2 x q
                    · rw [dif_neg q, chs_get]
                      have hx2 : x < G.2.2.2.length + k := by simpa [chs_len] using hx
                      have := hut (x - G.2.2.2.length) (by omega)
                      rw [show G.2.2.2.length + (x - G.2.2.2.length) = x by omega] at this
                      exact this
                  · rcases List.mem_append.mp hx with q | q
                    · exact hp3 x q
                    · obtain ⟨t, ht, rfl⟩ := List.getElem_of_mem q
                      rw [chs_get]
                      exact hch.2.2.1 _ (by rw [chs_len] at ht; omega)
                exact j_iret X dX5_put_151 ⟨_, rfl, rfl, hret⟩
              · obtain ⟨d, rfl⟩ : ∃ d : Nat, j = d + 1 := ⟨j - 1, by omega⟩
                rw [show ((d + 1 : Nat) : Int) - 1 = (d : Int) by omega]
                refine j_aload_n X dX5_put_110 rfl ?_
                refine j_getr X dX5_put_111 (T := TX5) (N := 13) (C := RX5) hinX5 rfl (by assumption) 6 (by decide) (by decide +kernel) rfl ?_
                refine j_aload_n X dX5_put_114 rfl ?_
                refine j_geti X dX5_put_115 (T := TX5) (N := 13) (C := RX5) hinX5 rfl (by assumption) 7 (by decide) (by decide +kernel) rfl ?_
                rw [hu7]
                refine j_lload_n X dX5_put_118 rfl ?_
                refine j_bipush X dX5_put_119 (by decide) ?_
                refine j_iload X dX5_put_121 rfl ?_
                refine j_imul X dX5_put_123 ?_
                refine j_lushr X dX5_put_124 (b_ushrJ hw (by omega)) ?_
                refine j_ldc2 X (w := 255) dX5_put_125 (by decide +kernel) ?_
                refine j_land X dX5_put_128 b_mask ?_
                refine j_l2i X dX5_put_129 b_l2i ?_
                refine j_iasN X dX5_put_130 (by assumption) (G.2.2.2.length + (k - (d + 1))) (by omega) (by omega) (by decide) (fun u130 f130 g130 n130 => ?_)
                refine j_aload_n X dX5_put_131 rfl ?_
                refine j_dup X dX5_put_132 rfl ?_
                skip
                refine j_geti X dX5_put_133 (T := TX5) (N := 13) (C := RX5) hinX5 rfl (by assumption) 7 (by decide) (by decide +kernel) rfl ?_
                rw [show u130 m 7 = ((G.2.2.2.length + (k - (d + 1)) : Nat) : Int) by rw [n130 _ (by omega)]; exact hu7]
                refine j_iconst X dX5_put_136 ?_
                refine j_iadd X dX5_put_137 ?_
                refine j_putU X dX5_put_138 (T := TX5) (N := 13) (C := RX5) hinX5 rfl (by assumption) 7 (by decide) tyX5 tyX5_ok nmX5 rfl rfl rfl (by decide +kernel) (fun u138 f138 g138 n138 => ?_)
                refine j_iinc X dX5_put_141 rfl rfl (Nat.le_of_ble_eq_true rfl) ?_
                refine j_goto (tgt := 105) X dX5_put_144 (by decide) ?_
                rw [show (d : Int) + -1 = (d : Int) - 1 by omega]
                exact ih105 (d, u138) (by (try dsimp only); exact ⟨by omega, by rw [f138]; omega, fun i hi => by rw [g138 i hi, n130 _ (by omega)]; exact hum i hi, fun a h1 h2 => by rw [n138 a h1, n130 a h2]; exact hua a h1 h2, fun x hx => by rw [n138 _ (by omega), g130 x (by omega)]; exact hux x hx, fun t ht => by
  rw [n138 _ (by omega)]
  by_cases q : t = k - (d + 1)
  · rw [q, f130, show k - 1 - (k - (d + 1)) = d by omega]
  · rw [g130 _ (by omega)]; exact hut t (by omega)⟩) (by (try dsimp only); omega)
            · refine j_bipush X dX5_put_97 (by decide) ?_
              have hret : (-4 : Int) = (sPut G w).1 ∧ MXR v m (sPut G w).2 ∧ frM v v m := by
                rw [show sPut G w = (-4, G) from (cite_f (fun h => h ⟨k, hch⟩) _ _).trans (cite_t (by rw [hpk]; omega) _ _)]
                exact ⟨rfl, hR, frM.refl _ _⟩
              exact j_iret X dX5_put_99 ⟨_, rfl, rfl, hret⟩
          · refine j_bipush X dX5_put_83 (by decide) ?_
            have hret : (-2 : Int) = (sPut G w).1 ∧ MXR v m (sPut G w).2 ∧ frM v v m := by
              rw [show sPut G w = (-2, G) from cite_t (fun ⟨k', h⟩ => by
                have e := no_ch hk hnz he h
                subst e
                first
                | exact absurd h.1 (by omega)
                | exact absurd (hz2.mpr h.2.2.1) (by omega)
                | (have := h.2.2.2; rw [← hy] at this; omega)) _ _]
              exact ⟨rfl, hR, frM.refl _ _⟩
            exact j_iret X dX5_put_85 ⟨_, rfl, rfl, hret⟩
    · refine j_iload X dX5_put_25 rfl ?_
      refine j_if_eq (tgt := 51) X dX5_put_27 (by omega) (by decide) (fun c27 => ?_) (fun c27 => ?_)
      · refine j_iconst X dX5_put_51 ?_
        refine j_istore X dX5_put_52 rfl (Nat.le_of_ble_eq_true rfl) ?_
        refine j_lload X dX5_put_54 rfl ?_
        refine j_bipush X dX5_put_56 (by decide) ?_
        refine j_lushr X dX5_put_58 (b_ushr8 hy64) ?_
        refine j_lstore X dX5_put_59 rfl (Nat.le_of_ble_eq_true rfl) ?_
        refine j_iinc X dX5_put_61 rfl rfl (Nat.le_of_ble_eq_true rfl) ?_
        refine j_goto (tgt := 8) X dX5_put_64 (by decide) ?_
        have hall : (∀ j, j < k + 1 → 33 ≤ w / 256 ^ j % 256 ∧ w / 256 ^ j % 256 ≤ 126) ↔ (∀ j, j < k → 33 ≤ w / 256 ^ j % 256 ∧ w / 256 ^ j % 256 ≤ 126) ∧ 33 ≤ y % 256 ∧ y % 256 ≤ 126 := ⟨fun h => ⟨fun j hj => h j (by omega), by rw [hy]; exact h k (by omega)⟩, fun h j hj => by
          rcases Nat.lt_or_ge j k with q | q
          · exact h.1 j q
          · have e : j = k := by omega
            rw [e, ← hy]; exact h.2⟩
        exact ih8 (k + 1, _, y / 256) (by (try dsimp only); exact ⟨by omega, by rw [hy, div_succ], by omega, (by first | exact Or.inl rfl | exact Or.inr rfl), by
  rw [hall]
  first
  | exact ⟨fun h => absurd h (by omega), fun h => absurd (hz2.mpr h.1) (by omega)⟩
  | exact ⟨fun h => absurd h (by omega), fun h => by have := h.2; omega⟩
  | exact ⟨fun _ => ⟨hz2.mp (by omega), by omega⟩, fun _ => rfl⟩, fun j hj => by
  rcases Nat.lt_or_ge j k with q | q
  · exact hnz j q
  · have e : j = k := by omega
    rw [e, ← hy]; omega⟩) (by (try dsimp only); omega)
      · refine j_lload X dX5_put_30 rfl ?_
        refine j_ldc2 X (w := 255) dX5_put_32 (by decide +kernel) ?_
        refine j_land X dX5_put_35 b_mask ?_
        refine j_l2i X dX5_put_36 b_l2i ?_
        refine j_bipush X dX5_put_37 (by decide) ?_
        refine j_bipush X dX5_put_39 (by decide) ?_
        refine j_callS (nn := 3) X dX5_put_41 (c_X5_within l D nH sk v ((y % 256 : Nat) : Int) 33 126 (by omega) (by omega) (by omega)) gX5_put_X5_within rfl ⟨rfl, rfl⟩ (by decide +kernel) ⟨Nat.le_of_ble_eq_true rfl, Nat.le_of_ble_eq_true rfl⟩ rfl rfl (Nat.le_of_ble_eq_true rfl) ⟨Nat.zero_le _, Nat.zero_le _⟩ (kI (fun z41 v41 h41 => ?_))
        obtain ⟨h41a, h41b, rfl⟩ := h41
        refine j_if_eq (tgt := 51) X dX5_put_44 (by omega) (by decide) (fun c44 => ?_) (fun c44 => ?_)
        · refine j_iconst X dX5_put_51 ?_
          refine j_istore X dX5_put_52 rfl (Nat.le_of_ble_eq_true rfl) ?_
          refine j_lload X dX5_put_54 rfl ?_
          refine j_bipush X dX5_put_56 (by decide) ?_
          refine j_lushr X dX5_put_58 (b_ushr8 hy64) ?_
          refine j_lstore X dX5_put_59 rfl (Nat.le_of_ble_eq_true rfl) ?_
          refine j_iinc X dX5_put_61 rfl rfl (Nat.le_of_ble_eq_true rfl) ?_
          refine j_goto (tgt := 8) X dX5_put_64 (by decide) ?_
          have hall : (∀ j, j < k + 1 → 33 ≤ w / 256 ^ j % 256 ∧ w / 256 ^ j % 256 ≤ 126) ↔ (∀ j, j < k → 33 ≤ w / 256 ^ j % 256 ∧ w / 256 ^ j % 256 ≤ 126) ∧ 33 ≤ y % 256 ∧ y % 256 ≤ 126 := ⟨fun h => ⟨fun j hj => h j (by omega), by rw [hy]; exact h k (by omega)⟩, fun h j hj => by
            rcases Nat.lt_or_ge j k with q | q
            · exact h.1 j q
            · have e : j = k := by omega
              rw [e, ← hy]; exact h.2⟩
          exact ih8 (k + 1, _, y / 256) (by (try dsimp only); exact ⟨by omega, by rw [hy, div_succ], by omega, (by first | exact Or.inl rfl | exact Or.inr rfl), by
  rw [hall]
  first
  | exact ⟨fun h => absurd h (by omega), fun h => absurd (hz2.mpr h.1) (by omega)⟩
  | exact ⟨fun h => absurd h (by omega), fun h => by have := h.2; omega⟩
  | exact ⟨fun _ => ⟨hz2.mp (by omega), by omega⟩, fun _ => rfl⟩, fun j hj => by
  rcases Nat.lt_or_ge j k with q | q
  · exact hnz j q
  · have e : j = k := by omega
    rw [e, ← hy]; omega⟩) (by (try dsimp only); omega)
        · refine j_iconst X dX5_put_47 ?_
          refine j_goto (tgt := 52) X dX5_put_48 (by decide) ?_
          refine j_istore X dX5_put_52 rfl (Nat.le_of_ble_eq_true rfl) ?_
          refine j_lload X dX5_put_54 rfl ?_
          refine j_bipush X dX5_put_56 (by decide) ?_
          refine j_lushr X dX5_put_58 (b_ushr8 hy64) ?_
          refine j_lstore X dX5_put_59 rfl (Nat.le_of_ble_eq_true rfl) ?_
          refine j_iinc X dX5_put_61 rfl rfl (Nat.le_of_ble_eq_true rfl) ?_
          refine j_goto (tgt := 8) X dX5_put_64 (by decide) ?_
          have hall : (∀ j, j < k + 1 → 33 ≤ w / 256 ^ j % 256 ∧ w / 256 ^ j % 256 ≤ 126) ↔ (∀ j, j < k → 33 ≤ w / 256 ^ j % 256 ∧ w / 256 ^ j % 256 ≤ 126) ∧ 33 ≤ y % 256 ∧ y % 256 ≤ 126 := ⟨fun h => ⟨fun j hj => h j (by omega), by rw [hy]; exact h k (by omega)⟩, fun h j hj => by
            rcases Nat.lt_or_ge j k with q | q
            · exact h.1 j q
            · have e : j = k := by omega
              rw [e, ← hy]; exact h.2⟩
          exact ih8 (k + 1, _, y / 256) (by (try dsimp only); exact ⟨by omega, by rw [hy, div_succ], by omega, (by first | exact Or.inl rfl | exact Or.inr rfl), by
  rw [hall]
  first
  | exact ⟨fun h => absurd h (by omega), fun h => absurd (hz2.mpr h.1) (by omega)⟩
  | exact ⟨fun h => absurd h (by omega), fun h => by have := h.2; omega⟩
  | exact ⟨fun _ => ⟨hz2.mp (by omega), by omega⟩, fun _ => rfl⟩, fun j hj => by
  rcases Nat.lt_or_ge j k with q | q
  · exact hnz j q
  · have e : j = k := by omega
    rw [e, ← hy]; omega⟩) (by (try dsimp only); omega)
def rmX5_wrongWith : Room := { frames := 5, cells := 0, slots := 0, locals := 119 }
set_option maxHeartbeats 4000000 in
set_option maxRecDepth 100000 in
theorem c_X5_wrongWith (l : Launch) (D : va_G) (nH : Nat) (sk : Sk) (v : Mem) (m i w : Nat) (iz : Int) (S : AS) (hM : Md D sk m) (hS : MR (v (m + 1)) S) (hiz : iz = (i : Int)) (hi : i < no S) (hw : w < 2147483648) : CtI l D yX5_wrongWith wsX5_wrongWith rmX5_wrongWith [.ref m, .int (I iz), .int (I (w : Int))] nH sk v (fun z v' => z = (wrg (tryL S i w) (tx S) : Int) ∧ (wrg (tryL S i w) (tx S) = 0 ↔ rt (tryL S i w) (tx S) = true) ∧ wrg (tryL S i w) (tx S) ≤ 20000 ∧ frW v v' m) := by
  refine ct_of (cc := cX5_wrongWith) (maxL := 4) (ret := (some .int)) rfl rfl (Nat.le_of_ble_eq_true rfl) ?_
  intro p_ e_ s_ m_ args_ below_ meth_ c_ X hmn hsz
  have hinX5 : ∀ w ∈ wsX50, w ∈ wsX5_wrongWith := by decide +kernel
  obtain ⟨m0, m1, m2, m3, m4, m5, m6, m7, m8, m9, m10⟩ := id hM
  obtain ⟨hOO, hno8, hno, hT, hNU, hBB⟩ := id hS
  obtain ⟨o1, o2, o3⟩ := id hOO
  obtain ⟨hb1, hb2, hb3, hb4, hb5⟩ := hBB i hi
  refine j_aload_n X dX5_wrongWith_0 rfl ?_
  refine j_getr X dX5_wrongWith_1 (T := TX5) (N := 13) (C := RX5) hinX5 rfl (by assumption) 0 (by decide) (by decide +kernel) rfl ?_
  refine j_iconst X dX5_wrongWith_4 ?_
  refine j_aload_n X dX5_wrongWith_5 rfl ?_
  refine j_getr X dX5_wrongWith_6 (T := TX5) (N := 13) (C := RX5) hinX5 rfl (by assumption) 1 (by decide) (by decide +kernel) rfl ?_
  refine j_iconst X dX5_wrongWith_9 ?_
  refine j_callS (nn := 4) X dX5_wrongWith_10 (c_X5_moves l D nH sk v (m + 1) (m + 2) 0 0 713 713 _ _ rfl rfl m1 m2 (by omega) (by omega) (by omega) (by omega) (by omega)) gX5_wrongWith_X5_moves rfl ⟨rfl, rfl⟩ (by decide +kernel) ⟨Nat.le_of_ble_eq_true rfl, Nat.le_of_ble_eq_true rfl⟩ rfl rfl (Nat.le_of_ble_eq_true rfl) ⟨Nat.zero_le _, Nat.zero_le _⟩ (kV (fun v10 h10 => ?_))
  obtain ⟨p10, q10⟩ := h10
  have e10 := p10 (m + 1) (by omega)
  refine j_aload_n X dX5_wrongWith_13 rfl ?_
  refine j_iload_n X dX5_wrongWith_14 rfl ?_
  refine j_iload_n X dX5_wrongWith_15 rfl ?_
  refine j_callV (nn := 2) X dX5_wrongWith_16 (c_X5_doSet l D nH sk v10 m i w _ (bn S i) S hM (by omega) (by omega) (by rw [e10]; exact hb1) (by rw [e10]; exact hOO) hw) gX5_wrongWith_X5_doSet rfl ⟨rfl, rfl⟩ (by decide +kernel) ⟨Nat.le_of_ble_eq_true rfl, Nat.le_of_ble_eq_true rfl⟩ (by assumption) ⟨rfl, rfl⟩ rfl rfl (Nat.le_of_ble_eq_true rfl) ⟨Nat.zero_le _, Nat.zero_le _⟩ (kV (fun v16 h16 => ?_))
  obtain ⟨hL16, hF16⟩ := h16
  have hT16 : LR (v16 (m + 1)) 8 (tx S) := LR.other (by rw [e10]; exact hT) hF16 (by omega)
  refine j_aload_n X dX5_wrongWith_19 rfl ?_
  refine j_iload_n X dX5_wrongWith_20 rfl ?_
  refine j_iconst X dX5_wrongWith_21 ?_
  refine j_callV (nn := 2) X dX5_wrongWith_22 (c_X5_wrong l D nH sk v16 m i _ 3 (tryL S i w) (tx S) hM (by omega) (by omega) hL16 hT16 hNU.unq (by omega)) gX5_wrongWith_X5_wrong rfl ⟨rfl, rfl⟩ (by decide +kernel) ⟨Nat.le_of_ble_eq_true rfl, Nat.le_of_ble_eq_true rfl⟩ (by assumption) ⟨rfl, rfl⟩ rfl rfl (Nat.le_of_ble_eq_true rfl) ⟨Nat.zero_le _, Nat.zero_le _⟩ (kI (fun z22 v22 h22 => ?_))
  obtain ⟨-, -, -, hz22, hf22⟩ := h22
  have hz22 := hz22 rfl
  subst hz22
  refine j_istore_n X dX5_wrongWith_25 rfl (Nat.le_of_ble_eq_true rfl) ?_
  refine j_aload_n X dX5_wrongWith_26 rfl ?_
  refine j_getr X dX5_wrongWith_27 (T := TX5) (N := 13) (C := RX5) hinX5 rfl (by assumption) 1 (by decide) (by decide +kernel) rfl ?_
  refine j_iconst X dX5_wrongWith_30 ?_
  refine j_aload_n X dX5_wrongWith_31 rfl ?_
  refine j_getr X dX5_wrongWith_32 (T := TX5) (N := 13) (C := RX5) hinX5 rfl (by assumption) 0 (by decide) (by decide +kernel) rfl ?_
  refine j_iconst X dX5_wrongWith_35 ?_
  refine j_callS (nn := 4) X dX5_wrongWith_36 (c_X5_moves l D nH sk v22 (m + 2) (m + 1) 0 0 713 713 _ _ rfl rfl m2 m1 (by omega) (by omega) (by omega) (by omega) (by omega)) gX5_wrongWith_X5_moves rfl ⟨rfl, rfl⟩ (by decide +kernel) ⟨Nat.le_of_ble_eq_true rfl, Nat.le_of_ble_eq_true rfl⟩ rfl rfl (Nat.le_of_ble_eq_true rfl) ⟨Nat.zero_le _, Nat.zero_le _⟩ (kV (fun v36 h36 => ?_))
  obtain ⟨p36, q36⟩ := h36
  refine j_iload_n X dX5_wrongWith_39 rfl ?_
  have hret : (wrg (tryL S i w) (tx S) : Int) = (wrg (tryL S i w) (tx S) : Int) ∧ (wrg (tryL S i w) (tx S) = 0 ↔ rt (tryL S i w) (tx S) = true) ∧ wrg (tryL S i w) (tx S) ≤ 20000 ∧ frW v v36 m := by
    have k3 : difs (tryL S i w) (tx S) 3 ≤ 5490 := difs_le hL16.2.1 (tx S) 3
    have k4 : difs (tryL S i w) (tx S) 4 ≤ 5490 := difs_le hL16.2.1 (tx S) 4
    have k5 : difs (tryL S i w) (tx S) 5 ≤ 5490 := difs_le hL16.2.1 (tx S) 5
    refine ⟨rfl, wrg_0 hNU hL16.2.2.2 hT.2.2.2, by unfold wrg; omega, fun j hj => ?_, fun j _ => ?_, fun a ha => ?_, fun a ha => ?_⟩
    · rw [q36, if_pos (by omega), hf22 _ (by omega), hF16.1 _ (by omega), q10, if_pos (by omega)]
      congr 1
      omega
    · rw [p36 _ (by omega), hf22 _ (by omega), hF16.1 _ (by omega), p10 _ (by omega)]
    · rw [p36 _ (by omega), hf22 _ (by omega), hF16.1 _ (by omega), p10 _ (by omega)]
    · rw [p36 _ (by omega), hf22 _ (by omega), hF16.1 _ (by omega), p10 _ (by omega)]
  exact j_iret X dX5_wrongWith_40 ⟨_, rfl, rfl, hret⟩
def rmX5_mendingOf : Room := { frames := 6, cells := 0, slots := 0, locals := 142 }
set_option maxHeartbeats 4000000 in
set_option maxRecDepth 100000 in
theorem c_X5_mendingOf (l : Launch) (D : va_G) (nH : Nat) (sk : Sk) (v : Mem) (m i s : Nat) (iz sz : Int) (S : AS) (hM : Md D sk m) (hS : MR (v (m + 1)) S) (hiz : iz = (i : Int)) (hsz2 : sz = (s : Int)) (hi : i < no S) (hs3 : s ≤ 3) : CtI l D yX5_mendingOf wsX5_mendingOf rmX5_mendingOf [.ref m, .int (I iz), .int (I sz)] nH sk v (fun z v' => isMO S i s z ∧ frW v v' m) := by
  refine ct_of (cc := cX5_mendingOf) (maxL := 4) (ret := (some .int)) rfl rfl (Nat.le_of_ble_eq_true rfl) ?_
  intro p_ e_ s_ m_ args_ below_ meth_ c_ X hmn hsz
  have hinX5 : ∀ w ∈ wsX50, w ∈ wsX5_mendingOf := by decide +kernel
  obtain ⟨m0, m1, m2, m3, m4, m5, m6, m7, m8, m9, m10⟩ := id hM
  obtain ⟨hOO, hno8, hno, hT, hNU, hBB⟩ := id hS
  obtain ⟨o1, o2, o3⟩ := id hOO
  have hpl := p2_lt o2
  refine j_iconst X dX5_mendingOf_0 ?_
  refine j_istore_n X dX5_mendingOf_1 rfl (Nat.le_of_ble_eq_true rfl) ?_
  refine j_loop (σ := Nat × Mem) (fun (y_ : Nat × Mem) => match y_ with | (k, u) => k ≤ 2 ^ np S ∧ (∀ j, j < k → pop j = s → ¬ rt (tryL S i j) (tx S) = true) ∧ frW v u m) (fun (y_ : Nat × Mem) => match y_ with | (k, u) => 2 ^ np S - k) (fun (y_ : Nat × Mem) => match y_ with | (k, u) => (u, [some (.ref m), some (.int (I iz)), some (.int (I sz)), some (.int (I (k : Int)))])) ?_ (0, v) ⟨Nat.zero_le _, fun j h => absurd h (by omega), frW.refl _ _⟩
  intro y_ hx ih2
  obtain ⟨k, u⟩ := y_
  dsimp only at hx ih2 ⊢
  obtain ⟨hk, hno_, hfu⟩ := hx
  have hSu : MR (u (m + 1)) S := hS.kept hfu.1
  refine j_iload_n X dX5_mendingOf_2 rfl ?_
  refine j_iconst X dX5_mendingOf_3 ?_
  refine j_aload_n X dX5_mendingOf_4 rfl ?_
  refine j_getr X dX5_mendingOf_5 (T := TX5) (N := 13) (C := RX5) hinX5 rfl (by assumption) 0 (by decide) (by decide +kernel) rfl ?_
  refine j_iconst X dX5_mendingOf_8 ?_
  refine j_ialN X dX5_mendingOf_9 (by assumption) (0) (by omega) (by omega) (by decide) ?_
  rw [show u (m + 1) 0 = (np S : Int) by rw [hfu.1 _ (by omega)]; exact o1]
  refine j_ishl X dX5_mendingOf_10 (b_shl (by omega)) ?_
  refine j_icmp_ge (tgt := 39) X dX5_mendingOf_11 (by omega) (by decide) (fun c11 => ?_) (fun c11 => ?_)
  · refine j_bipush X dX5_mendingOf_39 (by decide) ?_
    exact j_iret X dX5_mendingOf_41 ⟨_, rfl, rfl, ⟨Or.inl ⟨rfl, fun k hk2 hp => hno_ k (by omega) hp⟩, hfu⟩⟩
  · have hk2 : k < 2 ^ np S := by omega
    have hpk : pop k ≤ 16 := by rw [← pcU_16]; exact pcU_le _ _
    refine j_iload_n X dX5_mendingOf_14 rfl ?_
    refine j_callS (nn := 1) X dX5_mendingOf_15 (c_X5_bits l D nH sk u k (by omega)) gX5_mendingOf_X5_bits rfl ⟨rfl, rfl⟩ (by decide +kernel) ⟨Nat.le_of_ble_eq_true rfl, Nat.le_of_ble_eq_true rfl⟩ rfl rfl (Nat.le_of_ble_eq_true rfl) ⟨Nat.zero_le _, Nat.zero_le _⟩ (kI (fun z15 v15 h15 => ?_))
    obtain ⟨rfl, rfl⟩ := h15
    refine j_iload_n X dX5_mendingOf_18 rfl ?_
    refine j_icmp_ne (tgt := 33) X dX5_mendingOf_19 (by omega) (by decide) (fun c19 => ?_) (fun c19 => ?_)
    · have hnx : ¬ (pop k = s ∧ rt (tryL S i k) (tx S) = true) := fun h => by omega
      have hfn := hfu
      generalize u = y at hfn ⊢
      refine j_iinc X dX5_mendingOf_33 rfl rfl (Nat.le_of_ble_eq_true rfl) ?_
      refine j_goto (tgt := 2) X dX5_mendingOf_36 (by decide) ?_
      exact ih2 (k + 1, y) (by (try dsimp only); exact ⟨by omega, fun j hj hp hr => by
  rcases Nat.lt_or_ge j k with q | q
  · exact hno_ j q hp hr
  · have e : j = k := by omega
    rw [e] at hp hr; exact hnx ⟨hp, hr⟩, hfn⟩) (by (try dsimp only); omega)
    · refine j_aload_n X dX5_mendingOf_22 rfl ?_
      refine j_iload_n X dX5_mendingOf_23 rfl ?_
      refine j_iload_n X dX5_mendingOf_24 rfl ?_
      refine j_callV (nn := 2) X dX5_mendingOf_25 (c_X5_wrongWith l D nH sk u m i (k) _ S hM hSu (by omega) hi (by omega)) gX5_mendingOf_X5_wrongWith rfl ⟨rfl, rfl⟩ (by decide +kernel) ⟨Nat.le_of_ble_eq_true rfl, Nat.le_of_ble_eq_true rfl⟩ (by assumption) ⟨rfl, rfl⟩ rfl rfl (Nat.le_of_ble_eq_true rfl) ⟨Nat.zero_le _, Nat.zero_le _⟩ (kI (fun z25 v25 h25 => ?_))
      obtain ⟨rfl, hw25, hb25, hf25⟩ := h25
      refine j_if_ne (tgt := 33) X dX5_mendingOf_28 (by omega) (by decide) (fun c28 => ?_) (fun c28 => ?_)
      · have hnx : ¬ (pop k = s ∧ rt (tryL S i k) (tx S) = true) := fun h => by have := hw25.mpr h.2; omega
        have hfn := hfu.trans hf25
        generalize v25 = y at hfn ⊢
        refine j_iinc X dX5_mendingOf_33 rfl rfl (Nat.le_of_ble_eq_true rfl) ?_
        refine j_goto (tgt := 2) X dX5_mendingOf_36 (by decide) ?_
        exact ih2 (k + 1, y) (by (try dsimp only); exact ⟨by omega, fun j hj hp hr => by
  rcases Nat.lt_or_ge j k with q | q
  · exact hno_ j q hp hr
  · have e : j = k := by omega
    rw [e] at hp hr; exact hnx ⟨hp, hr⟩, hfn⟩) (by (try dsimp only); omega)
      · refine j_iload_n X dX5_mendingOf_31 rfl ?_
        exact j_iret X dX5_mendingOf_32 ⟨_, rfl, rfl, ⟨Or.inr ⟨k, rfl, hk2, by omega, hw25.mp (by omega), hno_⟩, hfu.trans hf25⟩⟩
def rmX5_ifDone : Room := { frames := 6, cells := 0, slots := 0, locals := 142 }
set_option maxHeartbeats 4000000 in
set_option maxRecDepth 100000 in
theorem c_X5_ifDone (l : Launch) (D : va_G) (nH : Nat) (sk : Sk) (v : Mem) (m : Nat) (o p : Int) (G : GS) (hM : Md D sk m) (hR : MXR v m G)(ho : -2147483648 ≤ o ∧ o ≤ 2147483647)(hp : -2147483648 ≤ p ∧ p ≤ 2147483647) : CtI l D yX5_ifDone wsX5_ifDone rmX5_ifDone [.ref m, .int (I o), .int (I p)] nH sk v (fun z v' => z = sIfDone G o p ∧ MXR v' m G ∧ frM v v' m) := by
  refine ct_of (cc := cX5_ifDone) (maxL := 3) (ret := (some .int)) rfl rfl (Nat.le_of_ble_eq_true rfl) ?_
  intro p_ e_ s_ m_ args_ below_ meth_ c_ X hmn hsz
  obtain ⟨m0, m1, m2, m3, m4, m5, m6, m7, m8, m9, m10⟩ := id hM
  obtain ⟨hR1, hR2, hR3, hR4⟩ := id hR
  obtain ⟨hOO, hno8, hno, hT, hNU, hBB⟩ := id hR1
  obtain ⟨o1, o2, o3⟩ := id hOO
  obtain ⟨hp0, hp1, hp2, hp3⟩ := id hR4
  refine j_aload_n X dX5_ifDone_0 rfl ?_
  refine j_iload_n X dX5_ifDone_1 rfl ?_
  refine j_callV (nn := 1) X dX5_ifDone_2 (c_X5_isOwner l D nH sk v m o (no G.1) hM ho hno (by omega)) gX5_ifDone_X5_isOwner rfl ⟨rfl, rfl⟩ (by decide +kernel) ⟨Nat.le_of_ble_eq_true rfl, Nat.le_of_ble_eq_true rfl⟩ (by assumption) ⟨rfl, rfl⟩ rfl rfl (Nat.le_of_ble_eq_true rfl) ⟨Nat.zero_le _, Nat.zero_le _⟩ (kI (fun z2 v2 h2 => ?_))
  obtain ⟨hz2a, hz2b, rfl⟩ := h2
  refine j_if_eq (tgt := 27) X dX5_ifDone_5 (by omega) (by decide) (fun c5 => ?_) (fun c5 => ?_)
  · refine j_iconst X dX5_ifDone_27 ?_
    first
    | have hret : (-1 : Int) = sIfDone G o p ∧ MXR v m G ∧ frM v v m := ⟨(cite_t (by unfold isO isP; omega) _ _).symm, hR, frM.refl _ _⟩
    | have hret : (wrg (tryL G.1 i (2 ^ q)) (tx G.1) : Int) = sIfDone G (i : Int) (q : Int) ∧ MXR v21 m G ∧ frM v v21 m := ⟨by unfold sIfDone; rw [cite_f (by unfold isO isP; omega), Int.toNat_natCast, Int.toNat_natCast], hR.w hf21, hf21.2.2.2⟩
    exact j_iret X dX5_ifDone_28 ⟨_, rfl, rfl, hret⟩
  · refine j_aload_n X dX5_ifDone_8 rfl ?_
    refine j_iload_n X dX5_ifDone_9 rfl ?_
    refine j_callV (nn := 1) X dX5_ifDone_10 (c_X5_isParcel l D nH sk v m p (np G.1) hM hp o1 (by omega)) gX5_ifDone_X5_isParcel rfl ⟨rfl, rfl⟩ (by decide +kernel) ⟨Nat.le_of_ble_eq_true rfl, Nat.le_of_ble_eq_true rfl⟩ (by assumption) ⟨rfl, rfl⟩ rfl rfl (Nat.le_of_ble_eq_true rfl) ⟨Nat.zero_le _, Nat.zero_le _⟩ (kI (fun z10 v10 h10 => ?_))
    obtain ⟨hz10a, hz10b, rfl⟩ := h10
    refine j_if_eq (tgt := 27) X dX5_ifDone_13 (by omega) (by decide) (fun c13 => ?_) (fun c13 => ?_)
    · refine j_iconst X dX5_ifDone_27 ?_
      first
      | have hret : (-1 : Int) = sIfDone G o p ∧ MXR v m G ∧ frM v v m := ⟨(cite_t (by unfold isO isP; omega) _ _).symm, hR, frM.refl _ _⟩
      | have hret : (wrg (tryL G.1 i (2 ^ q)) (tx G.1) : Int) = sIfDone G (i : Int) (q : Int) ∧ MXR v21 m G ∧ frM v v21 m := ⟨by unfold sIfDone; rw [cite_f (by unfold isO isP; omega), Int.toNat_natCast, Int.toNat_natCast], hR.w hf21, hf21.2.2.2⟩
      exact j_iret X dX5_ifDone_28 ⟨_, rfl, rfl, hret⟩
    · have hqi : 0 ≤ o ∧ o < (no G.1 : Int) := by omega
      obtain ⟨i, rfl⟩ : ∃ i : Nat, o = (i : Int) := ⟨o.toNat, by omega⟩
      have hi : i < no G.1 := by omega
      obtain ⟨hb1, hb2, hb3, hb4, hb5⟩ := hBB i hi
      have hqq : 0 ≤ p ∧ p < (np G.1 : Int) := by omega
      obtain ⟨q, rfl⟩ : ∃ q : Nat, p = (q : Int) := ⟨p.toNat, by omega⟩
      refine j_aload_n X dX5_ifDone_16 rfl ?_
      refine j_iload_n X dX5_ifDone_17 rfl ?_
      refine j_iconst X dX5_ifDone_18 ?_
      refine j_iload_n X dX5_ifDone_19 rfl ?_
      refine j_ishl X dX5_ifDone_20 (b_shl (by omega)) ?_
      refine j_callV (nn := 2) X dX5_ifDone_21 (c_X5_wrongWith l D nH sk v m i (2 ^ q) _ G.1 hM hR1 (by omega) hi (by have := p2_lt (show q ≤ 16 by omega); omega)) gX5_ifDone_X5_wrongWith rfl ⟨rfl, rfl⟩ (by decide +kernel) ⟨Nat.le_of_ble_eq_true rfl, Nat.le_of_ble_eq_true rfl⟩ (by assumption) ⟨rfl, rfl⟩ rfl rfl (Nat.le_of_ble_eq_true rfl) ⟨Nat.zero_le _, Nat.zero_le _⟩ (kI (fun z21 v21 h21 => ?_))
      obtain ⟨rfl, hw21, hb21, hf21⟩ := h21
      refine j_goto (tgt := 28) X dX5_ifDone_24 (by decide) ?_
      first
      | have hret : (-1 : Int) = sIfDone G o p ∧ MXR v m G ∧ frM v v m := ⟨(cite_t (by unfold isO isP; omega) _ _).symm, hR, frM.refl _ _⟩
      | have hret : (wrg (tryL G.1 i (2 ^ q)) (tx G.1) : Int) = sIfDone G (i : Int) (q : Int) ∧ MXR v21 m G ∧ frM v v21 m := ⟨by unfold sIfDone; rw [cite_f (by unfold isO isP; omega), Int.toNat_natCast, Int.toNat_natCast], hR.w hf21, hf21.2.2.2⟩
      exact j_iret X dX5_ifDone_28 ⟨_, rfl, rfl, hret⟩
def rmX5_ifAllDone : Room := { frames := 6, cells := 0, slots := 0, locals := 142 }
set_option maxHeartbeats 4000000 in
set_option maxRecDepth 100000 in
theorem c_X5_ifAllDone (l : Launch) (D : va_G) (nH : Nat) (sk : Sk) (v : Mem) (m : Nat) (o : Int) (G : GS) (hM : Md D sk m) (hR : MXR v m G)(ho : -2147483648 ≤ o ∧ o ≤ 2147483647) : CtI l D yX5_ifAllDone wsX5_ifAllDone rmX5_ifAllDone [.ref m, .int (I o)] nH sk v (fun z v' => z = sIfAllDone G o ∧ MXR v' m G ∧ frM v v' m) := by
  refine ct_of (cc := cX5_ifAllDone) (maxL := 2) (ret := (some .int)) rfl rfl (Nat.le_of_ble_eq_true rfl) ?_
  intro p_ e_ s_ m_ args_ below_ meth_ c_ X hmn hsz
  obtain ⟨m0, m1, m2, m3, m4, m5, m6, m7, m8, m9, m10⟩ := id hM
  obtain ⟨hR1, hR2, hR3, hR4⟩ := id hR
  obtain ⟨hOO, hno8, hno, hT, hNU, hBB⟩ := id hR1
  obtain ⟨o1, o2, o3⟩ := id hOO
  obtain ⟨hp0, hp1, hp2, hp3⟩ := id hR4
  refine j_aload_n X dX5_ifAllDone_0 rfl ?_
  refine j_iload_n X dX5_ifAllDone_1 rfl ?_
  refine j_callV (nn := 1) X dX5_ifAllDone_2 (c_X5_isOwner l D nH sk v m o (no G.1) hM ho hno (by omega)) gX5_ifAllDone_X5_isOwner rfl ⟨rfl, rfl⟩ (by decide +kernel) ⟨Nat.le_of_ble_eq_true rfl, Nat.le_of_ble_eq_true rfl⟩ (by assumption) ⟨rfl, rfl⟩ rfl rfl (Nat.le_of_ble_eq_true rfl) ⟨Nat.zero_le _, Nat.zero_le _⟩ (kI (fun z2 v2 h2 => ?_))
  obtain ⟨hz2a, hz2b, rfl⟩ := h2
  refine j_if_eq (tgt := 22) X dX5_ifAllDone_5 (by omega) (by decide) (fun c5 => ?_) (fun c5 => ?_)
  · refine j_iconst X dX5_ifAllDone_22 ?_
    first
    | have hret : (-1 : Int) = sIfAllDone G o ∧ MXR v m G ∧ frM v v m := ⟨(cite_t (by unfold isO; omega) _ _).symm, hR, frM.refl _ _⟩
    | have hret : (wrg (tryL G.1 i (wt G.1 i)) (tx G.1) : Int) = sIfAllDone G (i : Int) ∧ MXR v16 m G ∧ frM v v16 m := ⟨by unfold sIfAllDone; rw [cite_f (by unfold isO; omega), Int.toNat_natCast], hR.w hf16, hf16.2.2.2⟩
    exact j_iret X dX5_ifAllDone_23 ⟨_, rfl, rfl, hret⟩
  · have hqi : 0 ≤ o ∧ o < (no G.1 : Int) := by omega
    obtain ⟨i, rfl⟩ : ∃ i : Nat, o = (i : Int) := ⟨o.toNat, by omega⟩
    have hi : i < no G.1 := by omega
    obtain ⟨hb1, hb2, hb3, hb4, hb5⟩ := hBB i hi
    refine j_aload_n X dX5_ifAllDone_8 rfl ?_
    refine j_iload_n X dX5_ifAllDone_9 rfl ?_
    refine j_aload_n X dX5_ifAllDone_10 rfl ?_
    refine j_iload_n X dX5_ifAllDone_11 rfl ?_
    refine j_iconst X dX5_ifAllDone_12 ?_
    refine j_callV (nn := 2) X dX5_ifAllDone_13 (c_X5_part l D nH sk v m i (1) _ _ hM (by omega) (by omega) (by omega) (by omega)) gX5_ifAllDone_X5_part rfl ⟨rfl, rfl⟩ (by decide +kernel) ⟨Nat.le_of_ble_eq_true rfl, Nat.le_of_ble_eq_true rfl⟩ (by assumption) ⟨rfl, rfl⟩ rfl rfl (Nat.le_of_ble_eq_true rfl) ⟨Nat.zero_le _, Nat.zero_le _⟩ (kI (fun z13 v13 h13 => ?_))
    obtain ⟨rfl, rfl⟩ := h13
    rw [show v (m + 1) (146 + 63 * i + (1)) = (wt G.1 i : Int) by rw [show 146 + 63 * i + 1 = 147 + 63 * i by omega]; exact hb2]
    refine j_callV (nn := 2) X dX5_ifAllDone_16 (c_X5_wrongWith l D nH sk v m i (wt G.1 i) _ G.1 hM hR1 (by omega) hi (by omega)) gX5_ifAllDone_X5_wrongWith rfl ⟨rfl, rfl⟩ (by decide +kernel) ⟨Nat.le_of_ble_eq_true rfl, Nat.le_of_ble_eq_true rfl⟩ (by assumption) ⟨rfl, rfl⟩ rfl rfl (Nat.le_of_ble_eq_true rfl) ⟨Nat.zero_le _, Nat.zero_le _⟩ (kI (fun z16 v16 h16 => ?_))
    obtain ⟨rfl, hw16, hb16, hf16⟩ := h16
    refine j_goto (tgt := 23) X dX5_ifAllDone_19 (by decide) ?_
    first
    | have hret : (-1 : Int) = sIfAllDone G o ∧ MXR v m G ∧ frM v v m := ⟨(cite_t (by unfold isO; omega) _ _).symm, hR, frM.refl _ _⟩
    | have hret : (wrg (tryL G.1 i (wt G.1 i)) (tx G.1) : Int) = sIfAllDone G (i : Int) ∧ MXR v16 m G ∧ frM v v16 m := ⟨by unfold sIfAllDone; rw [cite_f (by unfold isO; omega), Int.toNat_natCast], hR.w hf16, hf16.2.2.2⟩
    exact j_iret X dX5_ifAllDone_23 ⟨_, rfl, rfl, hret⟩
def rmX5_mending : Room := { frames := 7, cells := 0, slots := 0, locals := 165 }
set_option maxHeartbeats 4000000 in
set_option maxRecDepth 100000 in
theorem c_X5_mending (l : Launch) (D : va_G) (nH : Nat) (sk : Sk) (v : Mem) (m : Nat) (o : Int) (G : GS) (hM : Md D sk m) (hR : MXR v m G)(ho : -2147483648 ≤ o ∧ o ≤ 2147483647) : CtI l D yX5_mending wsX5_mending rmX5_mending [.ref m, .int (I o)] nH sk v (fun z v' => z = sMending G o ∧ MXR v' m G ∧ frM v v' m) := by
  refine ct_of (cc := cX5_mending) (maxL := 4) (ret := (some .int)) rfl rfl (Nat.le_of_ble_eq_true rfl) ?_
  intro p_ e_ s_ m_ args_ below_ meth_ c_ X hmn hsz
  obtain ⟨m0, m1, m2, m3, m4, m5, m6, m7, m8, m9, m10⟩ := id hM
  obtain ⟨hR1, hR2, hR3, hR4⟩ := id hR
  obtain ⟨hOO, hno8, hno, hT, hNU, hBB⟩ := id hR1
  obtain ⟨o1, o2, o3⟩ := id hOO
  obtain ⟨hp0, hp1, hp2, hp3⟩ := id hR4
  refine j_aload_n X dX5_mending_0 rfl ?_
  refine j_iload_n X dX5_mending_1 rfl ?_
  refine j_callV (nn := 1) X dX5_mending_2 (c_X5_isOwner l D nH sk v m o (no G.1) hM ho hno (by omega)) gX5_mending_X5_isOwner rfl ⟨rfl, rfl⟩ (by decide +kernel) ⟨Nat.le_of_ble_eq_true rfl, Nat.le_of_ble_eq_true rfl⟩ (by assumption) ⟨rfl, rfl⟩ rfl rfl (Nat.le_of_ble_eq_true rfl) ⟨Nat.zero_le _, Nat.zero_le _⟩ (kI (fun z2 v2 h2 => ?_))
  obtain ⟨hz2a, hz2b, rfl⟩ := h2
  refine j_if_ne (tgt := 10) X dX5_mending_5 (by omega) (by decide) (fun c5 => ?_) (fun c5 => ?_)
  · have hqi : 0 ≤ o ∧ o < (no G.1 : Int) := by omega
    obtain ⟨i, rfl⟩ : ∃ i : Nat, o = (i : Int) := ⟨o.toNat, by omega⟩
    have hi : i < no G.1 := by omega
    obtain ⟨hb1, hb2, hb3, hb4, hb5⟩ := hBB i hi
    refine j_bipush X dX5_mending_10 (by decide) ?_
    refine j_istore_n X dX5_mending_12 rfl (Nat.le_of_ble_eq_true rfl) ?_
    refine j_iconst X dX5_mending_13 ?_
    refine j_istore_n X dX5_mending_14 rfl (Nat.le_of_ble_eq_true rfl) ?_
    refine j_loop (σ := Nat × Int × Mem) (fun (y_ : Nat × Int × Mem) => match y_ with | (s, z, u) => s ≤ 4 ∧ frW v u m ∧ ((z = -6 ∧ ∀ k, k < 2 ^ np G.1 → pop k < s → ¬ rt (tryL G.1 i k) (tx G.1) = true) ∨ ∃ k : Nat, z = (k : Int) ∧ mends G.1 i k ∧ ∀ j, mends G.1 i j → pop k < pop j ∨ (pop k = pop j ∧ k ≤ j))) (fun (y_ : Nat × Int × Mem) => match y_ with | (s, z, u) => 4 - s) (fun (y_ : Nat × Int × Mem) => match y_ with | (s, z, u) => (u, [some (.ref m), some (.int (I (i : Int))), some (.int (I z)), some (.int (I (s : Int)))])) ?_ (0, -6, v) ⟨by omega, frW.refl _ _, Or.inl ⟨rfl, fun k _ h => absurd h (by omega)⟩⟩
    intro y_ hx ih15
    obtain ⟨s, z, u⟩ := y_
    dsimp only at hx ih15 ⊢
    obtain ⟨hs, hfu, hz⟩ := hx
    refine j_iload_n X dX5_mending_15 rfl ?_
    refine j_iconst X dX5_mending_16 ?_
    refine j_icmp_gt (tgt := 39) X dX5_mending_17 (by omega) (by decide) (fun c17 => ?_) (fun c17 => ?_)
    · refine j_iload_n X dX5_mending_39 rfl ?_
      exact j_iret X dX5_mending_40 ⟨_, rfl, rfl, ⟨by unfold sMending; rw [cite_f (by unfold isO; omega), Int.toNat_natCast]; exact (the_is (by rcases hz with h | h; exact Or.inr ⟨h.1, fun k hk => h.2 k hk.1 (by have := hk.2.1; omega) hk.2.2⟩; exact Or.inl h) (fun a b h1 h2 => h1.uniq h2)).symm, hR.w hfu, hfu.2.2.2⟩⟩
    · refine j_iload_n X dX5_mending_20 rfl ?_
      refine j_bipush X dX5_mending_21 (by decide) ?_
      refine j_icmp_ne (tgt := 39) X dX5_mending_23 (by rcases hz with h | ⟨k, h1, h2, h3⟩; omega; have := h2.1; have := p2_lt o2; omega) (by decide) (fun c23 => ?_) (fun c23 => ?_)
      · refine j_iload_n X dX5_mending_39 rfl ?_
        exact j_iret X dX5_mending_40 ⟨_, rfl, rfl, ⟨by unfold sMending; rw [cite_f (by unfold isO; omega), Int.toNat_natCast]; exact (the_is (by rcases hz with h | h; exact Or.inr ⟨h.1, fun k hk => h.2 k hk.1 (by have := hk.2.1; omega) hk.2.2⟩; exact Or.inl h) (fun a b h1 h2 => h1.uniq h2)).symm, hR.w hfu, hfu.2.2.2⟩⟩
      · refine j_aload_n X dX5_mending_26 rfl ?_
        refine j_iload_n X dX5_mending_27 rfl ?_
        refine j_iload_n X dX5_mending_28 rfl ?_
        refine j_callV (nn := 2) X dX5_mending_29 (c_X5_mendingOf l D nH sk u m i s _ _ G.1 hM (hR1.kept hfu.1) (by omega) (by omega) hi (by omega)) gX5_mending_X5_mendingOf rfl ⟨rfl, rfl⟩ (by decide +kernel) ⟨Nat.le_of_ble_eq_true rfl, Nat.le_of_ble_eq_true rfl⟩ (by assumption) ⟨rfl, rfl⟩ rfl rfl (Nat.le_of_ble_eq_true rfl) ⟨Nat.zero_le _, Nat.zero_le _⟩ (kI (fun y v29 h29 => ?_))
        obtain ⟨hmo, hf29⟩ := h29
        refine j_istore_n X dX5_mending_32 rfl (Nat.le_of_ble_eq_true rfl) ?_
        refine j_iinc X dX5_mending_33 rfl rfl (Nat.le_of_ble_eq_true rfl) ?_
        refine j_goto (tgt := 15) X dX5_mending_36 (by decide) ?_
        exact ih15 (s + 1, y, v29) (by (try dsimp only); exact ⟨by omega, hfu.trans hf29, by
  have hz0 : ∀ k, k < 2 ^ np G.1 → pop k < s → ¬ rt (tryL G.1 i k) (tx G.1) = true := by
    rcases hz with h | ⟨k, h1, h2, h3⟩
    · exact h.2
    · omega
  rcases hmo with ⟨h1, h2⟩ | ⟨k, h1, h2, h3, h4, h5⟩
  · refine Or.inl ⟨h1, fun k hk hp => ?_⟩
    rcases Nat.lt_or_ge (pop k) s with q | q
    · exact hz0 k hk q
    · exact h2 k hk (by omega)
  · refine Or.inr ⟨k, h1, ⟨h2, by omega, h4⟩, fun j hj => ?_⟩
    rcases Nat.lt_trichotomy (pop j) s with q | q | q
    · exact absurd hj.2.2 (hz0 j hj.1 q)
    · rcases Nat.lt_or_ge j k with y | y
      · exact absurd hj.2.2 (h5 j y q)
      · exact Or.inr ⟨by omega, y⟩
    · exact Or.inl (by omega)⟩) (by (try dsimp only); omega)
  · refine j_iconst X dX5_mending_8 ?_
    exact j_iret X dX5_mending_9 ⟨_, rfl, rfl, ⟨(cite_t (by unfold isO; omega) _ _).symm, hR, frM.refl _ _⟩⟩
def rmX5_rightFrom : Room := { frames := 6, cells := 0, slots := 0, locals := 142 }
set_option maxHeartbeats 4000000 in
set_option maxRecDepth 100000 in
theorem c_X5_rightFrom (l : Launch) (D : va_G) (nH : Nat) (sk : Sk) (v : Mem) (m : Nat) (o : Int) (G : GS) (hM : Md D sk m) (hR : MXR v m G)(ho : -2147483648 ≤ o ∧ o ≤ 2147483647) : CtI l D yX5_rightFrom wsX5_rightFrom rmX5_rightFrom [.ref m, .int (I o)] nH sk v (fun z v' => z = sRightFrom G o ∧ MXR v' m G ∧ frM v v' m) := by
  refine ct_of (cc := cX5_rightFrom) (maxL := 4) (ret := (some .int)) rfl rfl (Nat.le_of_ble_eq_true rfl) ?_
  intro p_ e_ s_ m_ args_ below_ meth_ c_ X hmn hsz
  have hinX5 : ∀ w ∈ wsX50, w ∈ wsX5_rightFrom := by decide +kernel
  obtain ⟨m0, m1, m2, m3, m4, m5, m6, m7, m8, m9, m10⟩ := id hM
  obtain ⟨hR1, hR2, hR3, hR4⟩ := id hR
  obtain ⟨hOO, hno8, hno, hT, hNU, hBB⟩ := id hR1
  obtain ⟨o1, o2, o3⟩ := id hOO
  obtain ⟨hp0, hp1, hp2, hp3⟩ := id hR4
  have hpl := p2_lt o2
  refine j_aload_n X dX5_rightFrom_0 rfl ?_
  refine j_iload_n X dX5_rightFrom_1 rfl ?_
  refine j_callV (nn := 1) X dX5_rightFrom_2 (c_X5_isOwner l D nH sk v m o (no G.1) hM ho hno (by omega)) gX5_rightFrom_X5_isOwner rfl ⟨rfl, rfl⟩ (by decide +kernel) ⟨Nat.le_of_ble_eq_true rfl, Nat.le_of_ble_eq_true rfl⟩ (by assumption) ⟨rfl, rfl⟩ rfl rfl (Nat.le_of_ble_eq_true rfl) ⟨Nat.zero_le _, Nat.zero_le _⟩ (kI (fun z2 v2 h2 => ?_))
  obtain ⟨hz2a, hz2b, rfl⟩ := h2
  refine j_if_ne (tgt := 10) X dX5_rightFrom_5 (by omega) (by decide) (fun c5 => ?_) (fun c5 => ?_)
  · have hqi : 0 ≤ o ∧ o < (no G.1 : Int) := by omega
    obtain ⟨i, rfl⟩ : ∃ i : Nat, o = (i : Int) := ⟨o.toNat, by omega⟩
    have hi : i < no G.1 := by omega
    obtain ⟨hb1, hb2, hb3, hb4, hb5⟩ := hBB i hi
    refine j_iconst X dX5_rightFrom_10 ?_
    refine j_aload_n X dX5_rightFrom_11 rfl ?_
    refine j_getr X dX5_rightFrom_12 (T := TX5) (N := 13) (C := RX5) hinX5 rfl (by assumption) 0 (by decide) (by decide +kernel) rfl ?_
    refine j_iconst X dX5_rightFrom_15 ?_
    refine j_ialN X dX5_rightFrom_16 (by assumption) (0) (by omega) (by omega) (by decide) ?_
    rw [o1]
    refine j_ishl X dX5_rightFrom_17 (b_shl (by omega)) ?_
    refine j_iconst X dX5_rightFrom_18 ?_
    refine j_isub X dX5_rightFrom_19 ?_
    refine j_istore_n X dX5_rightFrom_20 rfl (Nat.le_of_ble_eq_true rfl) ?_
    refine j_aload_n X dX5_rightFrom_21 rfl ?_
    refine j_getr X dX5_rightFrom_22 (T := TX5) (N := 13) (C := RX5) hinX5 rfl (by assumption) 0 (by decide) (by decide +kernel) rfl ?_
    refine j_iconst X dX5_rightFrom_25 ?_
    refine j_ialN X dX5_rightFrom_26 (by assumption) (0) (by omega) (by omega) (by decide) ?_
    rw [show v (m + 1) 0 = ((np G.1 + 1 : Nat) : Int) - 1 by rw [o1]; omega]
    refine j_istore_n X dX5_rightFrom_27 rfl (Nat.le_of_ble_eq_true rfl) ?_
    refine j_loop (σ := Nat × Mem) (fun (y_ : Nat × Mem) => match y_ with | (j, u) => j ≤ np G.1 + 1 ∧ frW v u m ∧ ∀ g, j ≤ g → g ≤ np G.1 → ¬ rt (tryL G.1 i (2 ^ np G.1 - 2 ^ g)) (tx G.1) = true) (fun (y_ : Nat × Mem) => match y_ with | (j, u) => j) (fun (y_ : Nat × Mem) => match y_ with | (j, u) => (u, [some (.ref m), some (.int (I (i : Int))), some (.int (I (((2 ^ np G.1 : Nat) : Int) - 1))), some (.int (I ((j : Int) - 1)))])) ?_ (np G.1 + 1, v) ⟨Nat.le_refl _, frW.refl _ _, fun g h1 h2 => absurd h1 (by omega)⟩
    intro y_ hx ih28
    obtain ⟨j, u⟩ := y_
    dsimp only at hx ih28 ⊢
    obtain ⟨hj, hfu, hng⟩ := hx
    refine j_iload_n X dX5_rightFrom_28 rfl ?_
    refine j_if_lt (tgt := 57) X dX5_rightFrom_29 (by omega) (by decide) (fun c29 => ?_) (fun c29 => ?_)
    · refine j_bipush X dX5_rightFrom_57 (by decide) ?_
      exact j_iret X dX5_rightFrom_59 ⟨_, rfl, rfl, ⟨by unfold sRightFrom; rw [cite_f (by unfold isO; omega), Int.toNat_natCast]; exact (the_is (Or.inr ⟨rfl, fun g h => hng g (by omega) h⟩) (fun a b h1 h2 => h1.uniq h2)).symm, hR.w hfu, hfu.2.2.2⟩⟩
    · obtain ⟨f, rfl⟩ : ∃ f : Nat, j = f + 1 := ⟨j - 1, by omega⟩
      rw [show ((f + 1 : Nat) : Int) - 1 = (f : Int) by omega]
      refine j_aload_n X dX5_rightFrom_32 rfl ?_
      refine j_iload_n X dX5_rightFrom_33 rfl ?_
      refine j_iload_n X dX5_rightFrom_34 rfl ?_
      refine j_iconst X dX5_rightFrom_35 ?_
      refine j_iload_n X dX5_rightFrom_36 rfl ?_
      refine j_ishl X dX5_rightFrom_37 (b_shl (by omega)) ?_
      refine j_iconst X dX5_rightFrom_38 ?_
      refine j_isub X dX5_rightFrom_39 ?_
      refine j_iconst X dX5_rightFrom_40 ?_
      refine j_ixor X dX5_rightFrom_41 (b_notm (by omega)) ?_
      refine j_iand X dX5_rightFrom_42 (b_top o2 (by omega)) ?_
      refine j_callV (nn := 2) X dX5_rightFrom_43 (c_X5_wrongWith l D nH sk u m i (2 ^ np G.1 - 2 ^ f) _ G.1 hM (hR1.kept hfu.1) (by omega) hi (Nat.lt_of_le_of_lt (Nat.sub_le _ _) (Nat.lt_of_le_of_lt hpl (by decide)))) gX5_rightFrom_X5_wrongWith rfl ⟨rfl, rfl⟩ (by decide +kernel) ⟨Nat.le_of_ble_eq_true rfl, Nat.le_of_ble_eq_true rfl⟩ (by assumption) ⟨rfl, rfl⟩ rfl rfl (Nat.le_of_ble_eq_true rfl) ⟨Nat.zero_le _, Nat.zero_le _⟩ (kI (fun z43 v43 h43 => ?_))
      obtain ⟨rfl, hw43, hb43, hf43⟩ := h43
      refine j_if_ne (tgt := 51) X dX5_rightFrom_46 (by omega) (by decide) (fun c46 => ?_) (fun c46 => ?_)
      · refine j_iinc X dX5_rightFrom_51 rfl rfl (Nat.le_of_ble_eq_true rfl) ?_
        refine j_goto (tgt := 28) X dX5_rightFrom_54 (by decide) ?_
        rw [show (f : Int) + -1 = (f : Int) - 1 by omega]
        exact ih28 (f, v43) (by (try dsimp only); exact ⟨by omega, hfu.trans hf43, fun g h1 h2 hr => by
  rcases Nat.eq_or_lt_of_le h1 with q | q
  · subst q; have := hw43.mpr hr; omega
  · exact hng g q h2 hr⟩) (by (try dsimp only); omega)
      · refine j_iload_n X dX5_rightFrom_49 rfl ?_
        exact j_iret X dX5_rightFrom_50 ⟨_, rfl, rfl, ⟨by unfold sRightFrom; rw [cite_f (by unfold isO; omega), Int.toNat_natCast]; exact (the_is (Or.inl ⟨f, rfl, by omega, hw43.mp (by omega), fun g h1 h2 => hng g h1 h2⟩) (fun a b h1 h2 => h1.uniq h2)).symm, hR.w (hfu.trans hf43), (hfu.trans hf43).2.2.2⟩⟩
  · refine j_iconst X dX5_rightFrom_8 ?_
    exact j_iret X dX5_rightFrom_9 ⟨_, rfl, rfl, ⟨(cite_t (by unfold isO; omega) _ _).symm, hR, frM.refl _ _⟩⟩
