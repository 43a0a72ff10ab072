/-! ===== the pad: numbers that are characters ===== -/
theorem ch_no0 {k : Nat} (h : chOK 0 k) : False := by
  have := (h.2.2.1 0 h.1).1
  simp at this
theorem ch_yes {w f : Nat} (hw : w < 2 ^ 64) (h0 : 0 < f) (hf : f ≤ 8) (hd : ∀ j, j < f → 33 ≤ w / 256 ^ j % 256 ∧ w / 256 ^ j % 256 ≤ 126) (he : f = 8 ∨ w / 256 ^ f = 0) : chOK w f := by
  refine ⟨h0, hf, hd, ?_⟩
  rcases he with rfl | h
  · exact Nat.div_eq_of_lt (Nat.lt_of_lt_of_le hw (by decide))
  · exact h
theorem ch_no {w f k : Nat} (hr : ¬ w / 256 ^ f = 0) (hb : ¬ (33 ≤ w / 256 ^ f % 256 ∧ w / 256 ^ f % 256 ≤ 126)) (h : chOK w k) : False := by
  rcases Nat.lt_or_ge f k with q | q
  · exact hb (h.2.2.1 f q)
  · refine hr ?_
    rw [show f = k + (f - k) by omega, Nat.pow_add, ← Nat.div_div_eq_div_mul, h.2.2.2, Nat.zero_div]
theorem div_succ (w f : Nat) : w / 256 ^ f / 256 = w / 256 ^ (f + 1) := by rw [Nat.div_div_eq_div_mul, ← Nat.pow_succ]
theorem PA_app {u v : Mem} {b w k : Nat} {P : List Nat} (hP : PA v b P) (hk : chOK w k) (hl : P.length + k ≤ 48) (h1 : u b 1 = ((P.length + k : Nat) : Int)) (h2 : ∀ x, x < P.length → u (b + 1) x = v (b + 1) x) (h3 : ∀ t, t < k → u (b + 1) (P.length + k - 1 - t) = ((w / 256 ^ t % 256 : Nat) : Int)) : PA u b (P ++ chs w k) := by
  refine ⟨by rw [h1]; simp [chs_len], by simp [chs_len]; omega, fun x hx => ?_, fun x hx => ?_⟩
  · rw [List.getElem_append]
    by_cases q : x < P.length
    · rw [dif_pos q, h2 x q]
      exact hP.2.2.1 x q
    · rw [dif_neg q, chs_get]
      simp [chs_len] at hx
      have := h3 (k - 1 - (x - P.length)) (by omega)
      rw [show P.length + k - 1 - (k - 1 - (x - P.length)) = x by omega] at this
      rw [this]
  · rcases List.mem_append.mp hx with h | h
    · exact hP.2.2.2 x h
    · obtain ⟨j, hj, rfl⟩ := List.mem_map.mp h
      have := List.mem_range.mp hj
      exact hk.2.2.1 _ (by omega)
theorem PA.kept {v w : Mem} {b : Nat} {P : List Nat} (h : PA v b P) (h1 : w b = v b) (h2 : w (b + 1) = v (b + 1)) : PA w b P := by
  unfold PA at h ⊢
  rw [h1, h2]
  exact h
section JE
variable {p : Program} {l : Launch} {e : Env} {R : Room} {s : State} {m : MethodId} {args : Array Value} {below : List Frame} {meth : Method} {c : Code} {D : va_G} {A : Nat → Prop} {nL cells slots n pc : Nat} {Q : State → Prop} {sk : Sk} {v : Mem} {L : List (Option Value)} {st : List Value} {cc : ByteArray} {own : String} {Ts : List Cond} {ret : Option FieldType}
theorem j_drop (k : Nat) (K : J p l e R s m args below meth c D A nL cells slots Q n sk v pc (L.set k none) st) : J p l e R s m args below meth c D A nL cells slots Q n sk v pc L st := by
  intro H locs ls h1 h2 h3 h4 h5 h6
  refine K H locs ls h1 h2 h3 h4 h5 ⟨h6.1, h6.2.1, fun j x hj => ?_⟩
  rw [List.getElem?_set] at hj
  split at hj
  · split at hj <;> cases hj
  · exact h6.2.2 j x hj
end JE
def rmX2_charactersIn : Room := { frames := 0, cells := 0, slots := 0, locals := 0 }
set_option maxHeartbeats 4000000 in
set_option maxRecDepth 100000 in
theorem c_X2_charactersIn (l : Launch) (D : va_G) (nH : Nat) (sk : Sk) (v : Mem) (w : Nat) (hw : w < 2 ^ 64) : CtI l D yX2_charactersIn wsX2_charactersIn rmX2_charactersIn [.long (lN w)] nH sk v (fun z v' => ((z = 0 ∧ ∀ k, ¬ chOK w k) ∨ ∃ k : Nat, z = (k : Int) ∧ chOK w k) ∧ v = v') := by
  refine ct_of (cc := cX2_charactersIn) (maxL := 7) (ret := (some .int)) rfl rfl (Nat.le_of_ble_eq_true rfl) ?_
  intro p_ e_ s_ m_ args_ below_ meth_ c_ X hmn hsz
  refine j_lload_n X dX2_charactersIn_0 rfl ?_
  refine j_lstore_n X dX2_charactersIn_1 rfl (Nat.le_of_ble_eq_true rfl) ?_
  refine j_iconst X dX2_charactersIn_2 ?_
  refine j_istore X dX2_charactersIn_3 rfl (Nat.le_of_ble_eq_true rfl) ?_
  refine j_loop (σ := Nat × Nat) (fun (y_ : Nat × Nat) => match y_ with | (f, r) => f ≤ 8 ∧ r = w / 256 ^ f ∧ r < 2 ^ 64 ∧ ∀ j, j < f → 33 ≤ w / 256 ^ j % 256 ∧ w / 256 ^ j % 256 ≤ 126) (fun (y_ : Nat × Nat) => match y_ with | (f, r) => 8 - f) (fun (y_ : Nat × Nat) => match y_ with | (f, r) => (v, [some (.long (lN w)), none, some (.long (lN r)), none, some (.int (I (f : Int))), none, none])) ?_ (0, w) ⟨by omega, by simp, hw, fun j h => absurd h (by omega)⟩
  intro y_ hx ih5
  obtain ⟨f, r⟩ := y_
  dsimp only at hx ih5 ⊢
  obtain ⟨hf, hr, hr64, hd⟩ := hx
  refine j_iload X dX2_charactersIn_5 rfl ?_
  refine j_bipush X dX2_charactersIn_7 (by decide) ?_
  refine j_icmp_ge (tgt := 56) X dX2_charactersIn_9 (by omega) (by decide) (fun c9 => ?_) (fun c9 => ?_)
  · refine j_iload X dX2_charactersIn_56 rfl ?_
    have hret : (((f : Int) = 0 ∧ ∀ k, ¬ chOK w k) ∨ ∃ k : Nat, (f : Int) = (k : Int) ∧ chOK w k) ∧ v = v := by
      refine ⟨?_, rfl⟩
      rcases Nat.eq_zero_or_pos f with q | q
      · subst q; simp at hr; refine Or.inl ⟨rfl, fun k hk => ?_⟩; rw [show w = 0 by omega] at hk; exact ch_no0 hk
      · exact Or.inr ⟨f, rfl, ch_yes hw q hf hd (by omega)⟩
    exact j_iret X dX2_charactersIn_58 ⟨_, rfl, rfl, hret⟩
  · refine j_lload_n X dX2_charactersIn_12 rfl ?_
    refine j_lconst X dX2_charactersIn_13 ?_
    refine j_lcmp X dX2_charactersIn_14 (fun z14 hz14a hz14b hz14c => ?_)
    have hz0 : z14 = 0 ↔ r = 0 := hz14b.trans (lN_0 hr64)
    refine j_if_eq (tgt := 56) X dX2_charactersIn_15 (by omega) (by decide) (fun c15 => ?_) (fun c15 => ?_)
    · refine j_iload X dX2_charactersIn_56 rfl ?_
      have hret : (((f : Int) = 0 ∧ ∀ k, ¬ chOK w k) ∨ ∃ k : Nat, (f : Int) = (k : Int) ∧ chOK w k) ∧ v = v := by
        refine ⟨?_, rfl⟩
        rcases Nat.eq_zero_or_pos f with q | q
        · subst q; simp at hr; refine Or.inl ⟨rfl, fun k hk => ?_⟩; rw [show w = 0 by omega] at hk; exact ch_no0 hk
        · exact Or.inr ⟨f, rfl, ch_yes hw q hf hd (by omega)⟩
      exact j_iret X dX2_charactersIn_58 ⟨_, rfl, rfl, hret⟩
    · refine j_lload_n X dX2_charactersIn_18 rfl ?_
      refine j_ldc2 X (w := 255) dX2_charactersIn_19 (by decide +kernel) ?_
      refine j_land X dX2_charactersIn_22 b_mask ?_
      refine j_lstore X dX2_charactersIn_23 rfl (Nat.le_of_ble_eq_true rfl) ?_
      refine j_lload X dX2_charactersIn_25 rfl ?_
      refine j_ldc2 X (w := 33) dX2_charactersIn_27 (by decide +kernel) ?_
      refine j_lcmp X dX2_charactersIn_30 (fun z30 hz30a hz30b hz30c => ?_)
      rw [lN_eq (by omega) (by omega)] at hz30b
      rw [lN_lt (by omega) (by omega)] at hz30c
      refine j_if_lt (tgt := 43) X dX2_charactersIn_31 (by omega) (by decide) (fun c31 => ?_) (fun c31 => ?_)
      · refine j_iconst X dX2_charactersIn_43 ?_
        exact j_iret X dX2_charactersIn_44 ⟨_, rfl, rfl, ⟨Or.inl ⟨rfl, fun k hk => ch_no (f := f) (by omega) (by omega) hk⟩, rfl⟩⟩
      · refine j_lload X dX2_charactersIn_34 rfl ?_
        refine j_ldc2 X (w := 126) dX2_charactersIn_36 (by decide +kernel) ?_
        refine j_lcmp X dX2_charactersIn_39 (fun z39 hz39a hz39b hz39c => ?_)
        rw [lN_eq (by omega) (by omega)] at hz39b
        rw [lN_lt (by omega) (by omega)] at hz39c
        refine j_if_le (tgt := 45) X dX2_charactersIn_40 (by omega) (by decide) (fun c40 => ?_) (fun c40 => ?_)
        · refine j_lload_n X dX2_charactersIn_45 rfl ?_
          refine j_bipush X dX2_charactersIn_46 (by decide) ?_
          refine j_lushr X dX2_charactersIn_48 (b_ushr8 hr64) ?_
          refine j_lstore_n X dX2_charactersIn_49 rfl (Nat.le_of_ble_eq_true rfl) ?_
          refine j_iinc X dX2_charactersIn_50 rfl rfl (Nat.le_of_ble_eq_true rfl) ?_
          refine j_goto (tgt := 5) X dX2_charactersIn_53 (by decide) ?_
          refine j_drop 5 ?_
          exact ih5 (f + 1, r / 256) (by (try dsimp only); exact ⟨by omega, by rw [hr, div_succ], by omega, fun j hj => by rcases Nat.lt_or_ge j f with y | y; exact hd j y; have hjf : j = f := (by omega); subst hjf; rw [← hr]; omega⟩) (by (try dsimp only); omega)
        · refine j_iconst X dX2_charactersIn_43 ?_
          exact j_iret X dX2_charactersIn_44 ⟨_, rfl, rfl, ⟨Or.inl ⟨rfl, fun k hk => ch_no (f := f) (by omega) (by omega) hk⟩, rfl⟩⟩
def rmX2_append : Room := { frames := 0, cells := 0, slots := 0, locals := 0 }
set_option maxHeartbeats 4000000 in
set_option maxRecDepth 100000 in
theorem c_X2_append (l : Launch) (D : va_G) (nH : Nat) (sk : Sk) (v : Mem) (b w k : Nat) (P : List Nat) (hb : Pd D sk b) (hP : PA v b P) (hw : w < 2 ^ 64) (hk : chOK w k) (hl : P.length + k ≤ 48) : CtV l D yX2_append wsX2_append rmX2_append [.ref b, .long (lN w), .int (I k)] nH sk v (fun v' => PA v' b (P ++ chs w k) ∧ fr v v' b) := by
  refine ct_of (cc := cX2_append) (maxL := 7) (ret := none) rfl rfl (Nat.le_of_ble_eq_true rfl) ?_
  intro p_ e_ s_ m_ args_ below_ meth_ c_ X hmn hsz
  have hinX2 : ∀ w ∈ wsX20, w ∈ wsX2_append := by decide +kernel
  obtain ⟨hb0, hb1⟩ := id hb
  obtain ⟨hp0, hp1, hp2, hp3⟩ := id hP
  have hk1 := hk.1
  refine j_lload_n X dX2_append_0 rfl ?_
  refine j_lstore X dX2_append_1 rfl (Nat.le_of_ble_eq_true rfl) ?_
  refine j_aload_n X dX2_append_3 rfl ?_
  refine j_geti X dX2_append_4 (T := TX2) (N := 2) (C := RX2) hinX2 rfl (by assumption) 1 (by decide) (by decide +kernel) rfl ?_
  refine j_iload_n X dX2_append_7 rfl ?_
  refine j_iadd X dX2_append_8 ?_
  refine j_iconst X dX2_append_9 ?_
  refine j_isub X dX2_append_10 ?_
  rw [hp0]
  refine j_istore X dX2_append_11 rfl (Nat.le_of_ble_eq_true rfl) ?_
  refine j_loop (σ := Nat × Int × Nat × Mem) (fun (y_ : Nat × Int × Nat × Mem) => match y_ with | (j, i, r, u) => j ≤ k ∧ i = (P.length : Int) + k - 1 - j ∧ r = w / 256 ^ j ∧ r < 2 ^ 64 ∧ (∀ a, a ≠ b + 1 → u a = v a) ∧ (∀ x, x < P.length → u (b + 1) x = v (b + 1) x) ∧ ∀ t, t < j → u (b + 1) (P.length + k - 1 - t) = ((w / 256 ^ t % 256 : Nat) : Int)) (fun (y_ : Nat × Int × Nat × Mem) => match y_ with | (j, i, r, u) => k - j) (fun (y_ : Nat × Int × Nat × Mem) => match y_ with | (j, i, r, u) => (u, [some (.ref b), some (.long (lN w)), none, some (.int (I (k : Int))), some (.long (lN r)), none, some (.int (I i))])) ?_ (0, (P.length : Int) + k - 1, w, v) ⟨by omega, by omega, by simp, hw, fun _ _ => rfl, fun _ _ => rfl, fun t h => absurd h (by omega)⟩
  intro y_ hx ih13
  obtain ⟨j, i, r, u⟩ := y_
  dsimp only at hx ih13 ⊢
  obtain ⟨hj, hi, hr, hr64, hu0, hu1, hu2⟩ := hx
  have hub : u b 1 = (P.length : Int) := by rw [hu0 b (by omega)]; exact hp0
  refine j_iload X dX2_append_13 rfl ?_
  refine j_aload_n X dX2_append_15 rfl ?_
  refine j_geti X dX2_append_16 (T := TX2) (N := 2) (C := RX2) hinX2 rfl (by assumption) 1 (by decide) (by decide +kernel) rfl ?_
  refine j_icmp_lt (tgt := 50) X dX2_append_19 (by omega) (by decide) (fun c19 => ?_) (fun c19 => ?_)
  · refine j_aload_n X dX2_append_50 rfl ?_
    refine j_dup X dX2_append_51 rfl ?_
    refine j_geti X dX2_append_52 (T := TX2) (N := 2) (C := RX2) hinX2 rfl (by assumption) 1 (by decide) (by decide +kernel) rfl ?_
    refine j_iload_n X dX2_append_55 rfl ?_
    refine j_iadd X dX2_append_56 ?_
    refine j_put X dX2_append_57 (T := TX2) (N := 2) (C := RX2) hinX2 rfl (by assumption) 1 (by decide) tyX2 tyX2_ok nmX2 rfl rfl rfl (by decide +kernel) ?_
    exact j_vret X dX2_append_60 ⟨rfl, rfl, ⟨PA_app hP hk hl (by rw [up2_s, upE_s, hub]; omega) (fun x hx => by rw [up2_n _ _ _ (by omega)]; exact hu1 x hx) (fun t ht => by rw [up2_n _ _ _ (by omega)]; exact hu2 t (by omega)), fun a ha hb => by rw [up2_n _ _ _ ha]; exact hu0 a hb⟩⟩
  · refine j_aload_n X dX2_append_22 rfl ?_
    refine j_getr X dX2_append_23 (T := TX2) (N := 2) (C := RX2) hinX2 rfl (by assumption) 0 (by decide) (by decide +kernel) rfl ?_
    refine j_iload X dX2_append_26 rfl ?_
    refine j_lload X dX2_append_28 rfl ?_
    refine j_ldc2 X (w := 255) dX2_append_30 (by decide +kernel) ?_
    refine j_land X dX2_append_33 b_mask ?_
    refine j_l2i X dX2_append_34 b_l2i ?_
    refine j_i2c X dX2_append_35 (b_i2c (by omega)) ?_
    refine j_cast X dX2_append_36 (by assumption) (by omega) (by decide) (by omega) ?_
    refine j_lload X dX2_append_37 rfl ?_
    refine j_bipush X dX2_append_39 (by decide) ?_
    refine j_lushr X dX2_append_41 (b_ushr8 hr64) ?_
    refine j_lstore X dX2_append_42 rfl (Nat.le_of_ble_eq_true rfl) ?_
    refine j_iinc X dX2_append_44 rfl rfl (Nat.le_of_ble_eq_true rfl) ?_
    refine j_goto (tgt := 13) X dX2_append_47 (by decide) ?_
    exact ih13 (j + 1, i + -1, r / 256, up2 u (b + 1) i.toNat ((r % 256 : Nat) : Int)) (by (try dsimp only); exact ⟨by omega, by omega, by rw [hr, div_succ], by omega, fun a ha => by rw [up2_n _ _ _ ha]; exact hu0 a ha, fun x hx => by rw [up2_s, upE_n _ _ (by omega)]; exact hu1 x hx, fun t ht => by rcases Nat.lt_or_ge t j with y | y; (rw [up2_s, upE_n _ _ (by omega)]; exact hu2 t y); have htj : t = j := (by omega); subst htj; rw [up2_s, show i.toNat = P.length + k - 1 - t by omega, upE_s, hr]⟩) (by (try dsimp only); omega)
def rmX2_empty : Room := { frames := 0, cells := 0, slots := 0, locals := 0 }
set_option maxHeartbeats 4000000 in
set_option maxRecDepth 100000 in
theorem c_X2_empty (l : Launch) (D : va_G) (nH : Nat) (sk : Sk) (v : Mem) (b : Nat) (P : List Nat) (hb : Pd D sk b) (hP : PA v b P) : CtV l D yX2_empty wsX2_empty rmX2_empty [.ref b] nH sk v (fun v' => PA v' b [] ∧ fr v v' b) := by
  refine ct_of (cc := cX2_empty) (maxL := 1) (ret := none) rfl rfl (Nat.le_of_ble_eq_true rfl) ?_
  intro p_ e_ s_ m_ args_ below_ meth_ c_ X hmn hsz
  have hinX2 : ∀ w ∈ wsX20, w ∈ wsX2_empty := by decide +kernel
  obtain ⟨hb0, hb1⟩ := id hb
  obtain ⟨hp0, hp1, hp2, hp3⟩ := id hP
  refine j_aload_n X dX2_empty_0 rfl ?_
  refine j_iconst X dX2_empty_1 ?_
  refine j_put X dX2_empty_2 (T := TX2) (N := 2) (C := RX2) hinX2 rfl (by assumption) 1 (by decide) tyX2 tyX2_ok nmX2 rfl rfl rfl (by decide +kernel) ?_
  exact j_vret X dX2_empty_5 ⟨rfl, rfl, ⟨⟨by rw [up2_s, upE_s]; rfl, by simp, fun k h => absurd h (by simp), fun x h => absurd h (by simp)⟩, fun a ha hb => by rw [up2_n _ _ _ ha]⟩⟩
def rmX2_canStand : Room := { frames := 0, cells := 0, slots := 0, locals := 0 }
set_option maxHeartbeats 4000000 in
set_option maxRecDepth 100000 in
theorem c_X2_canStand (l : Launch) (D : va_G) (nH : Nat) (sk : Sk) (v : Mem) (c i : Nat) (hc : c < 65536) (hi : i ≤ 100) : CtI l D yX2_canStand wsX2_canStand rmX2_canStand [.int (I c), .int (I i)] nH sk v (fun z v' => (z = 0 ∨ z = 1) ∧ (z = 1 ↔ stand c i) ∧ v = v') := by
  refine ct_of (cc := cX2_canStand) (maxL := 2) (ret := (some .boolean)) rfl rfl (Nat.le_of_ble_eq_true rfl) ?_
  intro p_ e_ s_ m_ args_ below_ meth_ c_ X hmn hsz
  refine j_iload_n X dX2_canStand_0 rfl ?_
  refine j_bipush X dX2_canStand_1 (by decide) ?_
  refine j_icmp_lt (tgt := 8) X dX2_canStand_3 (by omega) (by decide) (fun c3 => ?_) (fun c3 => ?_)
  · refine j_iload_n X dX2_canStand_8 rfl ?_
    refine j_iconst X dX2_canStand_9 ?_
    refine j_irem X dX2_canStand_10 (by omega) (by omega) ?_
    by_cases cs11_0 : ((i : Int) % 5) = 0
    · refine j_tabIn (tgt := 40) (off := 29) X dX2_canStand_11 (by omega) (by omega) (by rw [cs11_0]; rfl) (by decide) ?_
      refine j_iload_n X dX2_canStand_40 rfl ?_
      refine j_bipush X dX2_canStand_41 (by decide) ?_
      refine j_icmp_eq (tgt := 52) X dX2_canStand_43 (by omega) (by decide) (fun c43 => ?_) (fun c43 => ?_)
      · refine j_iconst X dX2_canStand_52 ?_
        refine j_goto (tgt := 57) X dX2_canStand_53 (by decide) ?_
        first
          | have hret : ((1 : Int) = 0 ∨ (1 : Int) = 1) ∧ ((1 : Int) = 1 ↔ stand c i) ∧ v = v := ⟨Or.inr rfl, ⟨fun _ => ⟨by omega, by omega⟩, fun _ => rfl⟩, rfl⟩
          | have hret : ((0 : Int) = 0 ∨ (0 : Int) = 1) ∧ ((0 : Int) = 1 ↔ stand c i) ∧ v = v := ⟨Or.inl rfl, ⟨fun h => absurd h (by omega), fun h => by have h1 := h.1; have h2 := h.2; omega⟩, rfl⟩
        exact j_zret X dX2_canStand_57 (by omega) ⟨_, rfl, rfl, hret⟩
      · refine j_iload_n X dX2_canStand_46 rfl ?_
        refine j_bipush X dX2_canStand_47 (by decide) ?_
        refine j_icmp_ne (tgt := 56) X dX2_canStand_49 (by omega) (by decide) (fun c49 => ?_) (fun c49 => ?_)
        · refine j_iconst X dX2_canStand_56 ?_
          first
            | have hret : ((1 : Int) = 0 ∨ (1 : Int) = 1) ∧ ((1 : Int) = 1 ↔ stand c i) ∧ v = v := ⟨Or.inr rfl, ⟨fun _ => ⟨by omega, by omega⟩, fun _ => rfl⟩, rfl⟩
            | have hret : ((0 : Int) = 0 ∨ (0 : Int) = 1) ∧ ((0 : Int) = 1 ↔ stand c i) ∧ v = v := ⟨Or.inl rfl, ⟨fun h => absurd h (by omega), fun h => by have h1 := h.1; have h2 := h.2; omega⟩, rfl⟩
          exact j_zret X dX2_canStand_57 (by omega) ⟨_, rfl, rfl, hret⟩
        · refine j_iconst X dX2_canStand_52 ?_
          refine j_goto (tgt := 57) X dX2_canStand_53 (by decide) ?_
          first
            | have hret : ((1 : Int) = 0 ∨ (1 : Int) = 1) ∧ ((1 : Int) = 1 ↔ stand c i) ∧ v = v := ⟨Or.inr rfl, ⟨fun _ => ⟨by omega, by omega⟩, fun _ => rfl⟩, rfl⟩
            | have hret : ((0 : Int) = 0 ∨ (0 : Int) = 1) ∧ ((0 : Int) = 1 ↔ stand c i) ∧ v = v := ⟨Or.inl rfl, ⟨fun h => absurd h (by omega), fun h => by have h1 := h.1; have h2 := h.2; omega⟩, rfl⟩
          exact j_zret X dX2_canStand_57 (by omega) ⟨_, rfl, rfl, hret⟩
    by_cases cs11_1 : ((i : Int) % 5) = 1
    · refine j_tabIn (tgt := 58) (off := 47) X dX2_canStand_11 (by omega) (by omega) (by rw [cs11_1]; rfl) (by decide) ?_
      refine j_iload_n X dX2_canStand_58 rfl ?_
      refine j_bipush X dX2_canStand_59 (by decide) ?_
      refine j_icmp_lt (tgt := 74) X dX2_canStand_61 (by omega) (by decide) (fun c61 => ?_) (fun c61 => ?_)
      · refine j_iconst X dX2_canStand_74 ?_
        first
          | have hret : ((1 : Int) = 0 ∨ (1 : Int) = 1) ∧ ((1 : Int) = 1 ↔ stand c i) ∧ v = v := ⟨Or.inr rfl, ⟨fun _ => ⟨by omega, by omega⟩, fun _ => rfl⟩, rfl⟩
          | have hret : ((0 : Int) = 0 ∨ (0 : Int) = 1) ∧ ((0 : Int) = 1 ↔ stand c i) ∧ v = v := ⟨Or.inl rfl, ⟨fun h => absurd h (by omega), fun h => by have h1 := h.1; have h2 := h.2; omega⟩, rfl⟩
        exact j_zret X dX2_canStand_75 (by omega) ⟨_, rfl, rfl, hret⟩
      · refine j_iload_n X dX2_canStand_64 rfl ?_
        refine j_bipush X dX2_canStand_65 (by decide) ?_
        refine j_icmp_gt (tgt := 74) X dX2_canStand_67 (by omega) (by decide) (fun c67 => ?_) (fun c67 => ?_)
        · refine j_iconst X dX2_canStand_74 ?_
          first
            | have hret : ((1 : Int) = 0 ∨ (1 : Int) = 1) ∧ ((1 : Int) = 1 ↔ stand c i) ∧ v = v := ⟨Or.inr rfl, ⟨fun _ => ⟨by omega, by omega⟩, fun _ => rfl⟩, rfl⟩
            | have hret : ((0 : Int) = 0 ∨ (0 : Int) = 1) ∧ ((0 : Int) = 1 ↔ stand c i) ∧ v = v := ⟨Or.inl rfl, ⟨fun h => absurd h (by omega), fun h => by have h1 := h.1; have h2 := h.2; omega⟩, rfl⟩
          exact j_zret X dX2_canStand_75 (by omega) ⟨_, rfl, rfl, hret⟩
        · refine j_iconst X dX2_canStand_70 ?_
          refine j_goto (tgt := 75) X dX2_canStand_71 (by decide) ?_
          first
            | have hret : ((1 : Int) = 0 ∨ (1 : Int) = 1) ∧ ((1 : Int) = 1 ↔ stand c i) ∧ v = v := ⟨Or.inr rfl, ⟨fun _ => ⟨by omega, by omega⟩, fun _ => rfl⟩, rfl⟩
            | have hret : ((0 : Int) = 0 ∨ (0 : Int) = 1) ∧ ((0 : Int) = 1 ↔ stand c i) ∧ v = v := ⟨Or.inl rfl, ⟨fun h => absurd h (by omega), fun h => by have h1 := h.1; have h2 := h.2; omega⟩, rfl⟩
          exact j_zret X dX2_canStand_75 (by omega) ⟨_, rfl, rfl, hret⟩
    by_cases cs11_2 : ((i : Int) % 5) = 2
    · refine j_tabIn (tgt := 76) (off := 65) X dX2_canStand_11 (by omega) (by omega) (by rw [cs11_2]; rfl) (by decide) ?_
      refine j_iload_n X dX2_canStand_76 rfl ?_
      refine j_bipush X dX2_canStand_77 (by decide) ?_
      refine j_icmp_ne (tgt := 86) X dX2_canStand_79 (by omega) (by decide) (fun c79 => ?_) (fun c79 => ?_)
      · refine j_iconst X dX2_canStand_86 ?_
        first
          | have hret : ((1 : Int) = 0 ∨ (1 : Int) = 1) ∧ ((1 : Int) = 1 ↔ stand c i) ∧ v = v := ⟨Or.inr rfl, ⟨fun _ => ⟨by omega, by omega⟩, fun _ => rfl⟩, rfl⟩
          | have hret : ((0 : Int) = 0 ∨ (0 : Int) = 1) ∧ ((0 : Int) = 1 ↔ stand c i) ∧ v = v := ⟨Or.inl rfl, ⟨fun h => absurd h (by omega), fun h => by have h1 := h.1; have h2 := h.2; omega⟩, rfl⟩
        exact j_zret X dX2_canStand_87 (by omega) ⟨_, rfl, rfl, hret⟩
      · refine j_iconst X dX2_canStand_82 ?_
        refine j_goto (tgt := 87) X dX2_canStand_83 (by decide) ?_
        first
          | have hret : ((1 : Int) = 0 ∨ (1 : Int) = 1) ∧ ((1 : Int) = 1 ↔ stand c i) ∧ v = v := ⟨Or.inr rfl, ⟨fun _ => ⟨by omega, by omega⟩, fun _ => rfl⟩, rfl⟩
          | have hret : ((0 : Int) = 0 ∨ (0 : Int) = 1) ∧ ((0 : Int) = 1 ↔ stand c i) ∧ v = v := ⟨Or.inl rfl, ⟨fun h => absurd h (by omega), fun h => by have h1 := h.1; have h2 := h.2; omega⟩, rfl⟩
        exact j_zret X dX2_canStand_87 (by omega) ⟨_, rfl, rfl, hret⟩
    by_cases cs11_3 : ((i : Int) % 5) = 3
    · refine j_tabIn (tgt := 88) (off := 77) X dX2_canStand_11 (by omega) (by omega) (by rw [cs11_3]; rfl) (by decide) ?_
      refine j_iload_n X dX2_canStand_88 rfl ?_
      refine j_bipush X dX2_canStand_89 (by decide) ?_
      refine j_icmp_lt (tgt := 104) X dX2_canStand_91 (by omega) (by decide) (fun c91 => ?_) (fun c91 => ?_)
      · refine j_iconst X dX2_canStand_104 ?_
        first
          | have hret : ((1 : Int) = 0 ∨ (1 : Int) = 1) ∧ ((1 : Int) = 1 ↔ stand c i) ∧ v = v := ⟨Or.inr rfl, ⟨fun _ => ⟨by omega, by omega⟩, fun _ => rfl⟩, rfl⟩
          | have hret : ((0 : Int) = 0 ∨ (0 : Int) = 1) ∧ ((0 : Int) = 1 ↔ stand c i) ∧ v = v := ⟨Or.inl rfl, ⟨fun h => absurd h (by omega), fun h => by have h1 := h.1; have h2 := h.2; omega⟩, rfl⟩
        exact j_zret X dX2_canStand_105 (by omega) ⟨_, rfl, rfl, hret⟩
      · refine j_iload_n X dX2_canStand_94 rfl ?_
        refine j_bipush X dX2_canStand_95 (by decide) ?_
        refine j_icmp_gt (tgt := 104) X dX2_canStand_97 (by omega) (by decide) (fun c97 => ?_) (fun c97 => ?_)
        · refine j_iconst X dX2_canStand_104 ?_
          first
            | have hret : ((1 : Int) = 0 ∨ (1 : Int) = 1) ∧ ((1 : Int) = 1 ↔ stand c i) ∧ v = v := ⟨Or.inr rfl, ⟨fun _ => ⟨by omega, by omega⟩, fun _ => rfl⟩, rfl⟩
            | have hret : ((0 : Int) = 0 ∨ (0 : Int) = 1) ∧ ((0 : Int) = 1 ↔ stand c i) ∧ v = v := ⟨Or.inl rfl, ⟨fun h => absurd h (by omega), fun h => by have h1 := h.1; have h2 := h.2; omega⟩, rfl⟩
          exact j_zret X dX2_canStand_105 (by omega) ⟨_, rfl, rfl, hret⟩
        · refine j_iconst X dX2_canStand_100 ?_
          refine j_goto (tgt := 105) X dX2_canStand_101 (by decide) ?_
          first
            | have hret : ((1 : Int) = 0 ∨ (1 : Int) = 1) ∧ ((1 : Int) = 1 ↔ stand c i) ∧ v = v := ⟨Or.inr rfl, ⟨fun _ => ⟨by omega, by omega⟩, fun _ => rfl⟩, rfl⟩
            | have hret : ((0 : Int) = 0 ∨ (0 : Int) = 1) ∧ ((0 : Int) = 1 ↔ stand c i) ∧ v = v := ⟨Or.inl rfl, ⟨fun h => absurd h (by omega), fun h => by have h1 := h.1; have h2 := h.2; omega⟩, rfl⟩
          exact j_zret X dX2_canStand_105 (by omega) ⟨_, rfl, rfl, hret⟩
    refine j_tabOut (tgt := 106) X dX2_canStand_11 (by omega) (by omega) (by decide) ?_
    refine j_iload_n X dX2_canStand_106 rfl ?_
    refine j_bipush X dX2_canStand_107 (by decide) ?_
    refine j_icmp_ne (tgt := 116) X dX2_canStand_109 (by omega) (by decide) (fun c109 => ?_) (fun c109 => ?_)
    · refine j_iconst X dX2_canStand_116 ?_
      first
        | have hret : ((1 : Int) = 0 ∨ (1 : Int) = 1) ∧ ((1 : Int) = 1 ↔ stand c i) ∧ v = v := ⟨Or.inr rfl, ⟨fun _ => ⟨by omega, by omega⟩, fun _ => rfl⟩, rfl⟩
        | have hret : ((0 : Int) = 0 ∨ (0 : Int) = 1) ∧ ((0 : Int) = 1 ↔ stand c i) ∧ v = v := ⟨Or.inl rfl, ⟨fun h => absurd h (by omega), fun h => by have h1 := h.1; have h2 := h.2; omega⟩, rfl⟩
      exact j_zret X dX2_canStand_117 (by omega) ⟨_, rfl, rfl, hret⟩
    · refine j_iconst X dX2_canStand_112 ?_
      refine j_goto (tgt := 117) X dX2_canStand_113 (by decide) ?_
      first
        | have hret : ((1 : Int) = 0 ∨ (1 : Int) = 1) ∧ ((1 : Int) = 1 ↔ stand c i) ∧ v = v := ⟨Or.inr rfl, ⟨fun _ => ⟨by omega, by omega⟩, fun _ => rfl⟩, rfl⟩
        | have hret : ((0 : Int) = 0 ∨ (0 : Int) = 1) ∧ ((0 : Int) = 1 ↔ stand c i) ∧ v = v := ⟨Or.inl rfl, ⟨fun h => absurd h (by omega), fun h => by have h1 := h.1; have h2 := h.2; omega⟩, rfl⟩
      exact j_zret X dX2_canStand_117 (by omega) ⟨_, rfl, rfl, hret⟩
  · refine j_iconst X dX2_canStand_6 ?_
    first
      | have hret : ((1 : Int) = 0 ∨ (1 : Int) = 1) ∧ ((1 : Int) = 1 ↔ stand c i) ∧ v = v := ⟨Or.inr rfl, ⟨fun _ => ⟨by omega, by omega⟩, fun _ => rfl⟩, rfl⟩
      | have hret : ((0 : Int) = 0 ∨ (0 : Int) = 1) ∧ ((0 : Int) = 1 ↔ stand c i) ∧ v = v := ⟨Or.inl rfl, ⟨fun h => absurd h (by omega), fun h => by have h1 := h.1; have h2 := h.2; omega⟩, rfl⟩
    exact j_zret X dX2_canStand_7 (by omega) ⟨_, rfl, rfl, hret⟩
def rmX2_firstFault : Room := { frames := 1, cells := 0, slots := 0, locals := 21 }
set_option maxHeartbeats 4000000 in
set_option maxRecDepth 100000 in
theorem c_X2_firstFault (l : Launch) (D : va_G) (nH : Nat) (sk : Sk) (v : Mem) (b : Nat) (P : List Nat) (hb : Pd D sk b) (hP : PA v b P) : CtI l D yX2_firstFault wsX2_firstFault rmX2_firstFault [.ref b] nH sk v (fun z v' => isF P z ∧ v = v') := by
  refine ct_of (cc := cX2_firstFault) (maxL := 2) (ret := (some .int)) rfl rfl (Nat.le_of_ble_eq_true rfl) ?_
  intro p_ e_ s_ m_ args_ below_ meth_ c_ X hmn hsz
  have hinX2 : ∀ w ∈ wsX20, w ∈ wsX2_firstFault := by decide +kernel
  obtain ⟨hb0, hb1⟩ := id hb
  obtain ⟨hp0, hp1, hp2, hp3⟩ := id hP
  refine j_iconst X dX2_firstFault_0 ?_
  refine j_istore_n X dX2_firstFault_1 rfl (Nat.le_of_ble_eq_true rfl) ?_
  refine j_loop (σ := Nat) (fun (i : Nat) => i ≤ P.length ∧ ∀ (j : Nat) (h : j < P.length), j < i → stand (P[j]'h) j) (fun (i : Nat) => P.length - i) (fun (i : Nat) => (v, [some (.ref b), some (.int (I (i : Int)))])) ?_ 0 ⟨by omega, fun j _ h => absurd h (by omega)⟩
  intro i hx ih2
  dsimp only at hx ih2 ⊢
  obtain ⟨hi, hs⟩ := hx
  refine j_iload_n X dX2_firstFault_2 rfl ?_
  refine j_aload_n X dX2_firstFault_3 rfl ?_
  refine j_geti X dX2_firstFault_4 (T := TX2) (N := 2) (C := RX2) hinX2 rfl (by assumption) 1 (by decide) (by decide +kernel) rfl ?_
  refine j_icmp_ge (tgt := 31) X dX2_firstFault_7 (by omega) (by decide) (fun c7 => ?_) (fun c7 => ?_)
  · refine j_aload_n X dX2_firstFault_31 rfl ?_
    refine j_geti X dX2_firstFault_32 (T := TX2) (N := 2) (C := RX2) hinX2 rfl (by assumption) 1 (by decide) (by decide +kernel) rfl ?_
    refine j_iconst X dX2_firstFault_35 ?_
    refine j_irem X dX2_firstFault_36 (by omega) (by omega) ?_
    refine j_iconst X dX2_firstFault_37 ?_
    refine j_icmp_ne (tgt := 46) X dX2_firstFault_38 (by omega) (by decide) (fun c38 => ?_) (fun c38 => ?_)
    · refine j_aload_n X dX2_firstFault_46 rfl ?_
      refine j_geti X dX2_firstFault_47 (T := TX2) (N := 2) (C := RX2) hinX2 rfl (by assumption) 1 (by decide) (by decide +kernel) rfl ?_
      exact j_iret X dX2_firstFault_50 ⟨_, rfl, rfl, ⟨Or.inr ⟨fun j h => hs j h (by omega), by omega⟩, rfl⟩⟩
    · refine j_bipush X dX2_firstFault_41 (by decide) ?_
      refine j_goto (tgt := 50) X dX2_firstFault_43 (by decide) ?_
      exact j_iret X dX2_firstFault_50 ⟨_, rfl, rfl, ⟨Or.inr ⟨fun j h => hs j h (by omega), by omega⟩, rfl⟩⟩
  · refine j_aload_n X dX2_firstFault_10 rfl ?_
    refine j_getr X dX2_firstFault_11 (T := TX2) (N := 2) (C := RX2) hinX2 rfl (by assumption) 0 (by decide) (by decide +kernel) rfl ?_
    refine j_iload_n X dX2_firstFault_14 rfl ?_
    refine j_cald X dX2_firstFault_15 (by assumption) (by omega) (by decide) ?_
    refine j_iload_n X dX2_firstFault_16 rfl ?_
    obtain ⟨hik, hir⟩ := hp2.at (show (0 : Int) ≤ (i : Int) by omega) (by omega)
    simp only [Int.toNat_natCast] at hik hir ⊢
    have hib := hp3 _ (List.getElem_mem hik)
    rw [hir]
    refine j_callS (nn := 2) X dX2_firstFault_17 (c_X2_canStand l D nH sk v (P[i]'hik) i (by omega) (by omega)) gX2_firstFault_X2_canStand rfl ⟨rfl, rfl⟩ (by decide +kernel) ⟨Nat.le_of_ble_eq_true rfl, Nat.le_of_ble_eq_true rfl⟩ rfl rfl (Nat.le_of_ble_eq_true rfl) ⟨Nat.zero_le _, Nat.zero_le _⟩ (kI (fun z17 v17 h17 => ?_))
    obtain ⟨hz0, hz1, rfl⟩ := h17
    refine j_if_ne (tgt := 25) X dX2_firstFault_20 (by omega) (by decide) (fun c20 => ?_) (fun c20 => ?_)
    · refine j_iinc X dX2_firstFault_25 rfl rfl (Nat.le_of_ble_eq_true rfl) ?_
      refine j_goto (tgt := 2) X dX2_firstFault_28 (by decide) ?_
      exact ih2 (i + 1) (by (try dsimp only); exact ⟨by omega, fun j h hj => by rcases Nat.lt_or_ge j i with y | y; exact hs j h y; have hji : j = i := (by omega); subst hji; exact hz1.mp (by omega)⟩) (by (try dsimp only); omega)
    · refine j_iload_n X dX2_firstFault_23 rfl ?_
      exact j_iret X dX2_firstFault_24 ⟨_, rfl, rfl, ⟨Or.inl ⟨i, hik, fun h => by have := hz1.mpr h; omega, fun j h hj => hs j h hj, rfl⟩, rfl⟩⟩
def rmX2_orders : Room := { frames := 0, cells := 0, slots := 0, locals := 0 }
set_option maxHeartbeats 4000000 in
set_option maxRecDepth 100000 in
theorem c_X2_orders (l : Launch) (D : va_G) (nH : Nat) (sk : Sk) (v : Mem) (b : Nat) (P : List Nat) (hb : Pd D sk b) (hP : PA v b P) : CtI l D yX2_orders wsX2_orders rmX2_orders [.ref b] nH sk v (fun z v' => z = ((ordsOf P).length : Int) ∧ v = v') := by
  refine ct_of (cc := cX2_orders) (maxL := 1) (ret := (some .int)) rfl rfl (Nat.le_of_ble_eq_true rfl) ?_
  intro p_ e_ s_ m_ args_ below_ meth_ c_ X hmn hsz
  have hinX2 : ∀ w ∈ wsX20, w ∈ wsX2_orders := by decide +kernel
  obtain ⟨hb0, hb1⟩ := id hb
  obtain ⟨hp0, hp1, hp2, hp3⟩ := id hP
  refine j_aload_n X dX2_orders_0 rfl ?_
  refine j_geti X dX2_orders_1 (T := TX2) (N := 2) (C := RX2) hinX2 rfl (by assumption) 1 (by decide) (by decide +kernel) rfl ?_
  refine j_iconst X dX2_orders_4 ?_
  refine j_iadd X dX2_orders_5 ?_
  refine j_iconst X dX2_orders_6 ?_
  refine j_idiv X dX2_orders_7 (by omega) (by omega) ?_
  exact j_iret X dX2_orders_8 ⟨_, rfl, rfl, ⟨by rw [ordsOf_len]; omega, rfl⟩⟩
def rmX2_order : Room := { frames := 0, cells := 0, slots := 0, locals := 0 }
set_option maxHeartbeats 4000000 in
set_option maxRecDepth 100000 in
theorem c_X2_order (l : Launch) (D : va_G) (nH : Nat) (sk : Sk) (v : Mem) (b k : Nat) (P : List Nat) (hb : Pd D sk b) (hP : PA v b P) (hF : isF P (-6)) (hk : k < (P.length + 1) / 5) : CtI l D yX2_order wsX2_order rmX2_order [.ref b, .int (I k)] nH sk v (fun z v' => z = (ordAt P k : Int) ∧ v = v') := by
  refine ct_of (cc := cX2_order) (maxL := 4) (ret := (some .int)) rfl rfl (Nat.le_of_ble_eq_true rfl) ?_
  intro p_ e_ s_ m_ args_ below_ meth_ c_ X hmn hsz
  have hinX2 : ∀ w ∈ wsX20, w ∈ wsX2_order := by decide +kernel
  obtain ⟨hb0, hb1⟩ := id hb
  obtain ⟨hp0, hp1, hp2, hp3⟩ := id hP
  obtain ⟨h0, h1, h3, g0, g1, g3, e9⟩ := ord_facts hF hk
  have q0 := hp2 _ h0
  have q1 := hp2 _ h1
  have q3 := hp2 _ h3
  have t0 : ((k : Int) * 5).toNat = 5 * k := by omega
  have t1 : ((k : Int) * 5 + 1).toNat = 5 * k + 1 := by omega
  have t3 : ((k : Int) * 5 + 3).toNat = 5 * k + 3 := by omega
  refine j_iload_n X dX2_order_0 rfl ?_
  refine j_iconst X dX2_order_1 ?_
  refine j_imul X dX2_order_2 ?_
  refine j_istore_n X dX2_order_3 rfl (Nat.le_of_ble_eq_true rfl) ?_
  refine j_bipush X dX2_order_4 (by decide) ?_
  refine j_aload_n X dX2_order_6 rfl ?_
  refine j_getr X dX2_order_7 (T := TX2) (N := 2) (C := RX2) hinX2 rfl (by assumption) 0 (by decide) (by decide +kernel) rfl ?_
  refine j_iload_n X dX2_order_10 rfl ?_
  refine j_iconst X dX2_order_11 ?_
  refine j_iadd X dX2_order_12 ?_
  refine j_cald X dX2_order_13 (by assumption) (by omega) (by decide) ?_
  rw [t1, q1]
  refine j_bipush X dX2_order_14 (by decide) ?_
  refine j_isub X dX2_order_16 ?_
  refine j_imul X dX2_order_17 ?_
  refine j_aload_n X dX2_order_18 rfl ?_
  refine j_getr X dX2_order_19 (T := TX2) (N := 2) (C := RX2) hinX2 rfl (by assumption) 0 (by decide) (by decide +kernel) rfl ?_
  refine j_iload_n X dX2_order_22 rfl ?_
  refine j_iconst X dX2_order_23 ?_
  refine j_iadd X dX2_order_24 ?_
  refine j_cald X dX2_order_25 (by assumption) (by omega) (by decide) ?_
  rw [t3, q3]
  refine j_iadd X dX2_order_26 ?_
  refine j_bipush X dX2_order_27 (by decide) ?_
  refine j_isub X dX2_order_29 ?_
  refine j_istore_n X dX2_order_30 rfl (Nat.le_of_ble_eq_true rfl) ?_
  refine j_aload_n X dX2_order_31 rfl ?_
  refine j_getr X dX2_order_32 (T := TX2) (N := 2) (C := RX2) hinX2 rfl (by assumption) 0 (by decide) (by decide +kernel) rfl ?_
  refine j_iload_n X dX2_order_35 rfl ?_
  refine j_cald X dX2_order_36 (by assumption) (by omega) (by decide) ?_
  rw [t0, q0]
  refine j_bipush X dX2_order_37 (by decide) ?_
  refine j_icmp_ne (tgt := 49) X dX2_order_39 (by omega) (by decide) (fun c39 => ?_) (fun c39 => ?_)
  · refine j_iload_n X dX2_order_49 rfl ?_
    first
      | have hret : 10 * ((P[5 * k + 1] : Nat) : Int) - 10 * 48 + ((P[5 * k + 3] : Nat) : Int) - 48 + 100 = (ordAt P k : Int) := (by rw [e9]; unfold ordOf; rw [if_pos (by omega)]; omega)
        refine j_topr (congrArg I (show _ = (ordAt P k : Int) by omega)) ?_
      | have hret : 10 * ((P[5 * k + 1] : Nat) : Int) - 10 * 48 + ((P[5 * k + 3] : Nat) : Int) - 48 = (ordAt P k : Int) := (by rw [e9]; unfold ordOf; rw [if_neg (by omega)]; omega)
        refine j_topr (congrArg I (show _ = (ordAt P k : Int) by omega)) ?_
    have hret : (ordAt P k : Int) = (ordAt P k : Int) ∧ v = v := ⟨rfl, rfl⟩
    exact j_iret X dX2_order_50 ⟨_, rfl, rfl, hret⟩
  · refine j_iload_n X dX2_order_42 rfl ?_
    refine j_bipush X dX2_order_43 (by decide) ?_
    refine j_iadd X dX2_order_45 ?_
    refine j_goto (tgt := 50) X dX2_order_46 (by decide) ?_
    first
      | have hret : 10 * ((P[5 * k + 1] : Nat) : Int) - 10 * 48 + ((P[5 * k + 3] : Nat) : Int) - 48 + 100 = (ordAt P k : Int) := (by rw [e9]; unfold ordOf; rw [if_pos (by omega)]; omega)
        refine j_topr (congrArg I (show _ = (ordAt P k : Int) by omega)) ?_
      | have hret : 10 * ((P[5 * k + 1] : Nat) : Int) - 10 * 48 + ((P[5 * k + 3] : Nat) : Int) - 48 = (ordAt P k : Int) := (by rw [e9]; unfold ordOf; rw [if_neg (by omega)]; omega)
        refine j_topr (congrArg I (show _ = (ordAt P k : Int) by omega)) ?_
    have hret : (ordAt P k : Int) = (ordAt P k : Int) ∧ v = v := ⟨rfl, rfl⟩
    exact j_iret X dX2_order_50 ⟨_, rfl, rfl, hret⟩
def rmX2_hasNumberTwice : Room := { frames := 1, cells := 0, slots := 0, locals := 23 }
set_option maxHeartbeats 4000000 in
set_option maxRecDepth 100000 in
theorem c_X2_hasNumberTwice (l : Launch) (D : va_G) (nH : Nat) (sk : Sk) (v : Mem) (b : Nat) (P : List Nat) (hb : Pd D sk b) (hP : PA v b P) (hF : isF P (-6)) : CtI l D yX2_hasNumberTwice wsX2_hasNumberTwice rmX2_hasNumberTwice [.ref b] nH sk v (fun z v' => (z = 0 ∨ z = 1) ∧ (z = 1 ↔ twice (ordsOf P)) ∧ v = v') := by
  refine ct_of (cc := cX2_hasNumberTwice) (maxL := 3) (ret := (some .boolean)) rfl rfl (Nat.le_of_ble_eq_true rfl) ?_
  intro p_ e_ s_ m_ args_ below_ meth_ c_ X hmn hsz
  obtain ⟨hb0, hb1⟩ := id hb
  obtain ⟨hp0, hp1, hp2, hp3⟩ := id hP
  have hlen := ordsOf_len P
  have hl8 := ords_len8 hF
  have hoko : ∀ k, k < (P.length + 1) / 5 → ordAt P k < 200 := fun k hk => (ord_oko hF (List.mem_map.mpr ⟨k, List.mem_range.mpr hk, rfl⟩)).2
  refine j_iconst X dX2_hasNumberTwice_0 ?_
  refine j_istore_n X dX2_hasNumberTwice_1 rfl (Nat.le_of_ble_eq_true rfl) ?_
  refine j_loop (σ := Nat) (fun (i : Nat) => 1 ≤ i ∧ i ≤ (P.length + 1) / 5 ∧ ∀ a c, c < a → a < i → ordAt P a % 100 ≠ ordAt P c % 100) (fun (i : Nat) => 10 - i) (fun (i : Nat) => (v, [some (.ref b), some (.int (I (i : Int))), none])) ?_ 1 ⟨by omega, by omega, fun a c h1 h2 => absurd h2 (by omega)⟩
  intro i hx ih2
  dsimp only at hx ih2 ⊢
  obtain ⟨hi1, hi2, hn⟩ := hx
  refine j_iload_n X dX2_hasNumberTwice_2 rfl ?_
  refine j_aload_n X dX2_hasNumberTwice_3 rfl ?_
  refine j_callV (nn := 0) X dX2_hasNumberTwice_4 (c_X2_orders l D nH sk v b P hb hP) gX2_hasNumberTwice_X2_orders rfl ⟨rfl, rfl⟩ (by decide +kernel) ⟨Nat.le_of_ble_eq_true rfl, Nat.le_of_ble_eq_true rfl⟩ (by assumption) ⟨rfl, rfl⟩ rfl rfl (Nat.le_of_ble_eq_true rfl) ⟨Nat.zero_le _, Nat.zero_le _⟩ (kI (fun z4 v4 h4 => ?_))
  obtain ⟨rfl, rfl⟩ := h4
  refine j_icmp_ge (tgt := 50) X dX2_hasNumberTwice_7 (by omega) (by decide) (fun c7 => ?_) (fun c7 => ?_)
  · refine j_iconst X dX2_hasNumberTwice_50 ?_
    exact j_zret X dX2_hasNumberTwice_51 (by omega) ⟨_, rfl, rfl, ⟨Or.inl rfl, ⟨fun h => absurd h (by omega), fun ⟨a, c, ha, hc, h1, h2⟩ => by rw [ordsOf_get, ordsOf_get] at h2; exact absurd h2 (hn a c h1 (by omega))⟩, rfl⟩⟩
  · refine j_iconst X dX2_hasNumberTwice_10 ?_
    refine j_istore_n X dX2_hasNumberTwice_11 rfl (Nat.le_of_ble_eq_true rfl) ?_
    refine j_loop (σ := Nat) (fun (q : Nat) => q ≤ i ∧ ∀ c, c < q → ordAt P i % 100 ≠ ordAt P c % 100) (fun (q : Nat) => i - q) (fun (q : Nat) => (v, [some (.ref b), some (.int (I (i : Int))), some (.int (I (q : Int)))])) ?_ 0 ⟨by omega, fun c h => absurd h (by omega)⟩
    intro q hx ih12
    dsimp only at hx ih12 ⊢
    obtain ⟨hq, hm⟩ := hx
    refine j_iload_n X dX2_hasNumberTwice_12 rfl ?_
    refine j_iload_n X dX2_hasNumberTwice_13 rfl ?_
    refine j_icmp_ge (tgt := 44) X dX2_hasNumberTwice_14 (by omega) (by decide) (fun c14 => ?_) (fun c14 => ?_)
    · refine j_iinc X dX2_hasNumberTwice_44 rfl rfl (Nat.le_of_ble_eq_true rfl) ?_
      refine j_goto (tgt := 2) X dX2_hasNumberTwice_47 (by decide) ?_
      refine j_drop 2 ?_
      exact ih2 (i + 1) (by (try dsimp only); exact ⟨by omega, by omega, fun a c h1 h2 => by rcases Nat.lt_or_ge a i with y | y; exact hn a c h1 y; have hai : a = i := (by omega); subst hai; exact hm c (by omega)⟩) (by (try dsimp only); omega)
    · refine j_aload_n X dX2_hasNumberTwice_17 rfl ?_
      refine j_iload_n X dX2_hasNumberTwice_18 rfl ?_
      refine j_callV (nn := 1) X dX2_hasNumberTwice_19 (c_X2_order l D nH sk v b i P hb hP hF (by omega)) gX2_hasNumberTwice_X2_order rfl ⟨rfl, rfl⟩ (by decide +kernel) ⟨Nat.le_of_ble_eq_true rfl, Nat.le_of_ble_eq_true rfl⟩ (by assumption) ⟨rfl, rfl⟩ rfl rfl (Nat.le_of_ble_eq_true rfl) ⟨Nat.zero_le _, Nat.zero_le _⟩ (kI (fun z19 v19 h19 => ?_))
      obtain ⟨rfl, rfl⟩ := h19
      refine j_bipush X dX2_hasNumberTwice_22 (by decide) ?_
      have ho1 := hoko i (by omega)
      have ho2 := hoko q (by omega)
      refine j_irem X dX2_hasNumberTwice_24 (by omega) (by omega) ?_
      refine j_aload_n X dX2_hasNumberTwice_25 rfl ?_
      refine j_iload_n X dX2_hasNumberTwice_26 rfl ?_
      refine j_callV (nn := 1) X dX2_hasNumberTwice_27 (c_X2_order l D nH sk v b q P hb hP hF (by omega)) gX2_hasNumberTwice_X2_order rfl ⟨rfl, rfl⟩ (by decide +kernel) ⟨Nat.le_of_ble_eq_true rfl, Nat.le_of_ble_eq_true rfl⟩ (by assumption) ⟨rfl, rfl⟩ rfl rfl (Nat.le_of_ble_eq_true rfl) ⟨Nat.zero_le _, Nat.zero_le _⟩ (kI (fun z27 v27 h27 => ?_))
      obtain ⟨rfl, rfl⟩ := h27
      refine j_bipush X dX2_hasNumberTwice_30 (by decide) ?_
      refine j_irem X dX2_hasNumberTwice_32 (by omega) (by omega) ?_
      refine j_icmp_ne (tgt := 38) X dX2_hasNumberTwice_33 (by omega) (by decide) (fun c33 => ?_) (fun c33 => ?_)
      · refine j_iinc X dX2_hasNumberTwice_38 rfl rfl (Nat.le_of_ble_eq_true rfl) ?_
        refine j_goto (tgt := 12) X dX2_hasNumberTwice_41 (by decide) ?_
        exact ih12 (q + 1) (by (try dsimp only); exact ⟨by omega, fun c h => by rcases Nat.lt_or_ge c q with y | y; exact hm c y; have hcq : c = q := (by omega); subst hcq; omega⟩) (by (try dsimp only); omega)
      · refine j_iconst X dX2_hasNumberTwice_36 ?_
        exact j_zret X dX2_hasNumberTwice_37 (by omega) ⟨_, rfl, rfl, ⟨Or.inr rfl, ⟨fun _ => ⟨i, q, by omega, by omega, by omega, by rw [ordsOf_get, ordsOf_get]; omega⟩, fun _ => rfl⟩, rfl⟩⟩
