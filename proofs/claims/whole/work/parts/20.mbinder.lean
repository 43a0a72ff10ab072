theorem isFE.skip {L : List Nat} {n i : Nat} {z : Int} (h : isFE L n i z) (hi : i < L.length) (hn : L[i] / 16 ≠ n) : isFE L n (i + 1) z := by
  rcases h with ⟨h1, h2⟩ | ⟨k, h1, h2, h3, h4, h5, h6⟩
  · refine Or.inl ⟨h1, fun k hk hk2 => ?_⟩
    rcases Nat.lt_or_ge k i with q | q
    · exact h2 k hk q
    · have : k = i := by omega
      subst this; exact hn
  · refine Or.inr ⟨k, h1, h2, by omega, h4, fun j hj hj2 hjn => ?_, h6⟩
    rcases Nat.lt_or_ge j i with q | q
    · exact h5 j hj q hjn
    · have : j = i := by omega
      subst this; exact absurd hjn hn
theorem isFE.new {L : List Nat} {n i : Nat} {z : Int} (h : isFE L n i z) (hi : i < L.length) (hn : L[i] / 16 = n) (hz : ∀ (k : Nat) (h : k < L.length), z = (k : Int) → L[i] % 16 < (L[k]'h) % 16) : isFE L n (i + 1) (i : Int) := by
  refine Or.inr ⟨i, hi, rfl, by omega, hn, ?_, ?_⟩
  · intro j hj hj2 hjn
    rcases Nat.lt_or_ge j i with q | q
    · rcases h with ⟨h1, h2⟩ | ⟨k, h1, h2, h3, h4, h5, h6⟩
      · exact absurd hjn (h2 j hj q)
      · have := hz k h1 h2
        have := h5 j hj q hjn
        omega
    · have : j = i := by omega
      subst this; exact Nat.le_refl _
  · intro j hj hji e
    rcases h with ⟨h1, h2⟩ | ⟨k, h1, h2, h3, h4, h5, h6⟩
    · exact absurd (by rw [e]; exact hn) (h2 j hj hji)
    · have := hz k h1 h2
      have := h5 j hj hji (by rw [e]; exact hn)
      omega
theorem isFE.keep {L : List Nat} {n i k : Nat} (h : isFE L n i (k : Int)) (hi : i < L.length) (hk : k < L.length) (hz : ¬ L[i] % 16 < L[k] % 16) : isFE L n (i + 1) (k : Int) := by
  rcases h with ⟨h1, h2⟩ | ⟨k', h1, h2, h3, h4, h5, h6⟩
  · omega
  · have : k' = k := by omega
    subst this
    refine Or.inr ⟨k', h1, rfl, by omega, h4, fun j hj hj2 hjn => ?_, h6⟩
    rcases Nat.lt_or_ge j i with q | q
    · exact h5 j hj q hjn
    · have : j = i := by omega
      subst this; omega
def stp (c : Int) (q : Nat) : List Nat → Nat → List Nat := if c = 0 then less1 q else care1 q
/-- the orders that the row tells -/
def OO (r : Nat → Int) (S : AS) : Prop := r 0 = (np S : Int) ∧ np S ≤ 16 ∧ ∀ i, i < np S → r (2 + 9 * i) = ((od S i).length : Int) ∧ (od S i).length ≤ 8 ∧ (∀ x ∈ od S i, oko x) ∧ ∀ (k : Nat) (h : k < (od S i).length), r (3 + 9 * i + k) = (((od S i)[k]'h : Nat) : Int)
theorem OO.kept {r r' : Nat → Int} {S : AS} (h : OO r S) (hr : ∀ j, j < 146 → j ≠ 1 → r' j = r j) : OO r' S := by
  obtain ⟨h1, h2, h3⟩ := h
  refine ⟨by rw [hr _ (by omega) (by omega)]; exact h1, h2, fun i hi => ?_⟩
  obtain ⟨g1, g2, g3, g4⟩ := h3 i hi
  exact ⟨by rw [hr _ (by omega) (by omega)]; exact g1, g2, g3, fun k hk => by rw [hr _ (by omega) (by omega)]; exact g4 k hk⟩
theorem OO.fr {v w : Mem} {m b : Nat} {S : AS} (h : OO (v (m + 1)) S) (f : frB v w m b) : OO (w (m + 1)) S := h.kept (fun j h1 h2 => f.2 j (by omega) (by omega))
theorem LR.nil {L : List Nat} {n : Nat} (hL : ∀ y ∈ L, 160 ≤ y ∧ y < 1600) : ∀ y ∈ L.eraseIdx n, 160 ≤ y ∧ y < 1600 := fun y hy => hL y (List.mem_of_mem_eraseIdx hy)
def rmX5_remove : Room := { frames := 1, cells := 0, slots := 0, locals := 23 }
set_option maxHeartbeats 4000000 in
set_option maxRecDepth 100000 in
theorem c_X5_remove (l : Launch) (D : va_G) (nH : Nat) (sk : Sk) (v : Mem) (m b i : Nat) (bz iz : Int) (L : List Nat) (hM : Md D sk m) (hbz : bz = (b : Int)) (hb : b ≤ 8) (hL : LR (v (m + 1)) b L) (hiz : iz = (i : Int)) (hi : i < L.length) : CtV l D yX5_remove wsX5_remove rmX5_remove [.ref m, .int (I bz), .int (I iz)] nH sk v (fun v' => LR (v' (m + 1)) b (L.eraseIdx i) ∧ frB v v' m b) := by
  refine ct_of (cc := cX5_remove) (maxL := 4) (ret := none) rfl rfl (Nat.le_of_ble_eq_true rfl) ?_
  intro p_ e_ s_ m_ args_ below_ meth_ c_ X hmn hsz
  obtain ⟨m0, m1, m2, m3, m4, m5, m6, m7, m8, m9, m10⟩ := id hM
  obtain ⟨hl0, h60, hlk, hll⟩ := id hL
  refine j_iload_n X dX5_remove_0 rfl ?_
  refine j_istore_n X dX5_remove_1 rfl (Nat.le_of_ble_eq_true rfl) ?_
  subst hiz
  refine j_loop (σ := Nat × Mem) (fun (y_ : Nat × Mem) => match y_ with | (j, u) => i ≤ j ∧ j < L.length ∧ u (m + 1) (146 + 63 * b) = (L.length : Int) ∧ (∀ k, k < L.length → u (m + 1) (149 + 63 * b + k) = (shf L i j k : Nat)) ∧ frB v u m b) (fun (y_ : Nat × Mem) => match y_ with | (j, u) => L.length - j) (fun (y_ : Nat × Mem) => match y_ with | (j, u) => (u, [some (.ref m), some (.int (I bz)), some (.int (I (i : Int))), some (.int (I (j : Int)))])) ?_ (i, v) ⟨Nat.le_refl _, hi, hl0, fun k hk => by rw [hlk k hk]; unfold shf; rw [if_neg (by omega), getD_at hk], frB.refl _ _ _⟩
  intro y_ hx ih2
  obtain ⟨j, u⟩ := y_
  dsimp only at hx ih2 ⊢
  obtain ⟨hj1, hj2, hu0, hu1, hu2⟩ := hx
  refine j_iload_n X dX5_remove_2 rfl ?_
  refine j_aload_n X dX5_remove_3 rfl ?_
  refine j_iload_n X dX5_remove_4 rfl ?_
  refine j_iconst X dX5_remove_5 ?_
  refine j_callV (nn := 2) X dX5_remove_6 (c_X5_part l D nH sk u m b (0) _ _ hM (by omega) (by omega) (by omega) (by omega)) gX5_remove_X5_part rfl ⟨rfl, rfl⟩ (by decide +kernel) ⟨Nat.le_of_ble_eq_true rfl, Nat.le_of_ble_eq_true rfl⟩ (by assumption) ⟨rfl, rfl⟩ rfl rfl (Nat.le_of_ble_eq_true rfl) ⟨Nat.zero_le _, Nat.zero_le _⟩ (kI (fun z6 v6 h6 => ?_))
  obtain ⟨rfl, rfl⟩ := h6
  rw [show u (m + 1) (146 + 63 * b + (0)) = (L.length : Int) from hu0]
  refine j_iconst X dX5_remove_9 ?_
  refine j_isub X dX5_remove_10 ?_
  refine j_icmp_ge (tgt := 38) X dX5_remove_11 (by omega) (by decide) (fun c11 => ?_) (fun c11 => ?_)
  · refine j_aload_n X dX5_remove_38 rfl ?_
    refine j_iload_n X dX5_remove_39 rfl ?_
    refine j_iconst X dX5_remove_40 ?_
    refine j_aload_n X dX5_remove_41 rfl ?_
    refine j_iload_n X dX5_remove_42 rfl ?_
    refine j_iconst X dX5_remove_43 ?_
    refine j_callV (nn := 2) X dX5_remove_44 (c_X5_part l D nH sk u m b (0) _ _ hM (by omega) (by omega) (by omega) (by omega)) gX5_remove_X5_part rfl ⟨rfl, rfl⟩ (by decide +kernel) ⟨Nat.le_of_ble_eq_true rfl, Nat.le_of_ble_eq_true rfl⟩ (by assumption) ⟨rfl, rfl⟩ rfl rfl (Nat.le_of_ble_eq_true rfl) ⟨Nat.zero_le _, Nat.zero_le _⟩ (kI (fun z44 v44 h44 => ?_))
    obtain ⟨rfl, rfl⟩ := h44
    rw [show u (m + 1) (146 + 63 * b + (0)) = (L.length : Int) from hu0]
    refine j_iconst X dX5_remove_47 ?_
    refine j_isub X dX5_remove_48 ?_
    refine j_callV (nn := 3) X dX5_remove_49 (c_X5_setPart l D nH sk u m b (0) _ _ _ hM (by omega) (by omega) (by omega) (by omega)) gX5_remove_X5_setPart rfl ⟨rfl, rfl⟩ (by decide +kernel) ⟨Nat.le_of_ble_eq_true rfl, Nat.le_of_ble_eq_true rfl⟩ (by assumption) ⟨rfl, rfl⟩ rfl rfl (Nat.le_of_ble_eq_true rfl) ⟨Nat.zero_le _, Nat.zero_le _⟩ (kV (fun v49 h49 => ?_))
    obtain ⟨f49, g49, n49⟩ := h49
    refine j_aload_n X dX5_remove_52 rfl ?_
    refine j_iload_n X dX5_remove_53 rfl ?_
    refine j_iconst X dX5_remove_54 ?_
    refine j_aload_n X dX5_remove_55 rfl ?_
    refine j_iload_n X dX5_remove_56 rfl ?_
    refine j_iconst X dX5_remove_57 ?_
    refine j_callV (nn := 2) X dX5_remove_58 (c_X5_part l D nH sk v49 m b (0) _ _ hM (by omega) (by omega) (by omega) (by omega)) gX5_remove_X5_part rfl ⟨rfl, rfl⟩ (by decide +kernel) ⟨Nat.le_of_ble_eq_true rfl, Nat.le_of_ble_eq_true rfl⟩ (by assumption) ⟨rfl, rfl⟩ rfl rfl (Nat.le_of_ble_eq_true rfl) ⟨Nat.zero_le _, Nat.zero_le _⟩ (kI (fun z58 v58 h58 => ?_))
    obtain ⟨rfl, rfl⟩ := h58
    rw [show v49 (m + 1) (146 + 63 * b + (0)) = ((L.length : Int) - 1) from f49]
    refine j_iadd X dX5_remove_61 ?_
    refine j_iconst X dX5_remove_62 ?_
    refine j_callV (nn := 3) X dX5_remove_63 (c_X5_setPart l D nH sk v49 m b (3 + (L.length - 1)) _ _ _ hM (by omega) (by omega) (by omega) (by omega)) gX5_remove_X5_setPart rfl ⟨rfl, rfl⟩ (by decide +kernel) ⟨Nat.le_of_ble_eq_true rfl, Nat.le_of_ble_eq_true rfl⟩ (by assumption) ⟨rfl, rfl⟩ rfl rfl (Nat.le_of_ble_eq_true rfl) ⟨Nat.zero_le _, Nat.zero_le _⟩ (kV (fun v63 h63 => ?_))
    obtain ⟨f63, g63, n63⟩ := h63
    have hret : LR (v63 (m + 1)) b (L.eraseIdx i) ∧ frB v v63 m b := by
      have hel := erase_len hi
      refine ⟨⟨?_, by omega, fun k hk => ?_, LR.nil hll⟩, hu2.trans (frB.trans ⟨n49, fun k h1 h2 => g49 k (by omega)⟩ ⟨n63, fun k h1 h2 => g63 k (by omega)⟩)⟩
      · rw [g63 _ (by omega), show v49 (m + 1) (146 + 63 * b) = (L.length : Int) - 1 from f49, hel]; omega
      · rw [g63 _ (by omega), g49 _ (by omega), hu1 k (by omega)]
        rcases erase_get hi hk with ⟨q1, q2, q3⟩ | ⟨q1, q2, q3⟩
        · rw [q3]; unfold shf; rw [if_neg (by omega), getD_at q2]
        · rw [q3]; unfold shf; rw [if_pos (by omega), getD_at q2]
    exact j_vret X dX5_remove_66 ⟨rfl, rfl, hret⟩
  · refine j_aload_n X dX5_remove_14 rfl ?_
    refine j_iload_n X dX5_remove_15 rfl ?_
    refine j_iconst X dX5_remove_16 ?_
    refine j_iload_n X dX5_remove_17 rfl ?_
    refine j_iadd X dX5_remove_18 ?_
    refine j_aload_n X dX5_remove_19 rfl ?_
    refine j_iload_n X dX5_remove_20 rfl ?_
    refine j_iconst X dX5_remove_21 ?_
    refine j_iload_n X dX5_remove_22 rfl ?_
    refine j_iadd X dX5_remove_23 ?_
    refine j_iconst X dX5_remove_24 ?_
    refine j_iadd X dX5_remove_25 ?_
    refine j_callV (nn := 2) X dX5_remove_26 (c_X5_part l D nH sk u m b (3 + (j + 1)) _ _ hM (by omega) (by omega) (by omega) (by omega)) gX5_remove_X5_part rfl ⟨rfl, rfl⟩ (by decide +kernel) ⟨Nat.le_of_ble_eq_true rfl, Nat.le_of_ble_eq_true rfl⟩ (by assumption) ⟨rfl, rfl⟩ rfl rfl (Nat.le_of_ble_eq_true rfl) ⟨Nat.zero_le _, Nat.zero_le _⟩ (kI (fun z26 v26 h26 => ?_))
    obtain ⟨rfl, rfl⟩ := h26
    rw [show u (m + 1) (146 + 63 * b + (3 + (j + 1))) = ((L[j + 1]'(by omega) : Nat) : Int) by rw [show 146 + 63 * b + (3 + (j + 1)) = 149 + 63 * b + (j + 1) by omega, hu1 _ (by omega)]; unfold shf; rw [if_neg (by omega), getD_at (by omega)]]
    refine j_callV (nn := 3) X dX5_remove_29 (c_X5_setPart l D nH sk u m b (3 + j) _ _ _ hM (by omega) (by omega) (by omega) (by omega)) gX5_remove_X5_setPart rfl ⟨rfl, rfl⟩ (by decide +kernel) ⟨Nat.le_of_ble_eq_true rfl, Nat.le_of_ble_eq_true rfl⟩ (by assumption) ⟨rfl, rfl⟩ rfl rfl (Nat.le_of_ble_eq_true rfl) ⟨Nat.zero_le _, Nat.zero_le _⟩ (kV (fun v29 h29 => ?_))
    obtain ⟨f29, g29, n29⟩ := h29
    refine j_iinc X dX5_remove_32 rfl rfl (Nat.le_of_ble_eq_true rfl) ?_
    refine j_goto (tgt := 2) X dX5_remove_35 (by decide) ?_
    exact ih2 (j + 1, v29) (by (try dsimp only); exact ⟨by omega, by omega, by rw [g29 _ (by omega)]; exact hu0, fun k hk => by
  by_cases q : k = j
  · subst q
    rw [show 149 + 63 * b + k = 146 + 63 * b + (3 + k) by omega, f29]
    unfold shf
    rw [if_pos (by omega), getD_at (by omega)]
  · rw [g29 _ (by omega), hu1 k hk]
    unfold shf
    by_cases q2 : i ≤ k ∧ k < j
    · rw [if_pos q2, if_pos (by omega)]
    · rw [if_neg q2, if_neg (by omega)], hu2.trans ⟨n29, fun k h1 h2 => g29 k (by omega)⟩⟩) (by (try dsimp only); omega)
def rmX5_comes : Room := { frames := 1, cells := 0, slots := 0, locals := 23 }
set_option maxHeartbeats 4000000 in
set_option maxRecDepth 100000 in
theorem c_X5_comes (l : Launch) (D : va_G) (nH : Nat) (sk : Sk) (v : Mem) (m b n q : Nat) (bz nz qz : Int) (L : List Nat) (hM : Md D sk m) (hbz : bz = (b : Int)) (hb : b ≤ 8) (hL : LR (v (m + 1)) b L) (hnz : nz = (n : Int)) (hqz : qz = (q : Int)) (hn : 10 ≤ n ∧ n ≤ 99) (hq : q < 16) : CtV l D yX5_comes wsX5_comes rmX5_comes [.ref m, .int (I bz), .int (I nz), .int (I qz)] nH sk v (fun v' => LR (v' (m + 1)) b (insL L (n * 16 + q)) ∧ frB v v' m b) := by
  refine ct_of (cc := cX5_comes) (maxL := 4) (ret := none) rfl rfl (Nat.le_of_ble_eq_true rfl) ?_
  intro p_ e_ s_ m_ args_ below_ meth_ c_ X hmn hsz
  obtain ⟨m0, m1, m2, m3, m4, m5, m6, m7, m8, m9, m10⟩ := id hM
  obtain ⟨hl0, h60, hlk, hll⟩ := id hL
  refine j_aload_n X dX5_comes_0 rfl ?_
  refine j_iload_n X dX5_comes_1 rfl ?_
  refine j_iconst X dX5_comes_2 ?_
  refine j_callV (nn := 2) X dX5_comes_3 (c_X5_len l D nH sk v m b _ (L) hM (by omega) (by omega) hL) gX5_comes_X5_part rfl ⟨rfl, rfl⟩ (by decide +kernel) ⟨Nat.le_of_ble_eq_true rfl, Nat.le_of_ble_eq_true rfl⟩ (by assumption) ⟨rfl, rfl⟩ rfl rfl (Nat.le_of_ble_eq_true rfl) ⟨Nat.zero_le _, Nat.zero_le _⟩ (kI (fun z3 v3 h3 => ?_))
  obtain ⟨rfl, rfl⟩ := h3
  refine j_bipush X dX5_comes_6 (by decide) ?_
  refine j_icmp_ge (tgt := 44) X dX5_comes_8 (by omega) (by decide) (fun c8 => ?_) (fun c8 => ?_)
  · first
      | have hret : LR (v41 (m + 1)) b (insL L (n * 16 + q)) ∧ frB v v41 m b := by
          refine ⟨?_, frB.trans ⟨n27, fun k h1 h2 => g27 k (by omega)⟩ ⟨n41, fun k h1 h2 => g41 k (by omega)⟩⟩
          unfold insL
          rw [if_pos (by omega)]
          refine ⟨by rw [show v41 (m + 1) (146 + 63 * b) = (L.length : Int) + 1 from f41]; simp, by simp; omega, fun k hk => ?_, fun y hy => ?_⟩
          · rw [g41 _ (by omega), List.getElem_append]
            by_cases x : k < L.length
            · rw [dif_pos x, g27 _ (by omega)]; exact hlk k x
            · have hk2 : k = L.length := by simp at hk; omega
              subst hk2
              rw [dif_neg x, show 149 + 63 * b + L.length = 146 + 63 * b + (3 + L.length) by omega, f27]
              simp
              omega
          · rcases List.mem_append.mp hy with x | x
            · exact hll y x
            · rw [List.mem_singleton] at x
              omega
      | have hret : LR (v (m + 1)) b (insL L (n * 16 + q)) ∧ frB v v m b := ⟨by unfold insL; rw [if_neg (by omega)]; exact hL, frB.refl _ _ _⟩
    exact j_vret X dX5_comes_44 ⟨rfl, rfl, hret⟩
  · refine j_aload_n X dX5_comes_11 rfl ?_
    refine j_iload_n X dX5_comes_12 rfl ?_
    refine j_iconst X dX5_comes_13 ?_
    refine j_aload_n X dX5_comes_14 rfl ?_
    refine j_iload_n X dX5_comes_15 rfl ?_
    refine j_iconst X dX5_comes_16 ?_
    refine j_callV (nn := 2) X dX5_comes_17 (c_X5_len l D nH sk v m b _ (L) hM (by omega) (by omega) hL) gX5_comes_X5_part rfl ⟨rfl, rfl⟩ (by decide +kernel) ⟨Nat.le_of_ble_eq_true rfl, Nat.le_of_ble_eq_true rfl⟩ (by assumption) ⟨rfl, rfl⟩ rfl rfl (Nat.le_of_ble_eq_true rfl) ⟨Nat.zero_le _, Nat.zero_le _⟩ (kI (fun z17 v17 h17 => ?_))
    obtain ⟨rfl, rfl⟩ := h17
    refine j_iadd X dX5_comes_20 ?_
    refine j_bipush X dX5_comes_21 (by decide) ?_
    refine j_iload_n X dX5_comes_23 rfl ?_
    refine j_imul X dX5_comes_24 ?_
    refine j_iload_n X dX5_comes_25 rfl ?_
    refine j_iadd X dX5_comes_26 ?_
    refine j_callV (nn := 3) X dX5_comes_27 (c_X5_setPart l D nH sk v m b (3 + L.length) _ _ _ hM (by omega) (by omega) (by omega) (by omega)) gX5_comes_X5_setPart rfl ⟨rfl, rfl⟩ (by decide +kernel) ⟨Nat.le_of_ble_eq_true rfl, Nat.le_of_ble_eq_true rfl⟩ (by assumption) ⟨rfl, rfl⟩ rfl rfl (Nat.le_of_ble_eq_true rfl) ⟨Nat.zero_le _, Nat.zero_le _⟩ (kV (fun v27 h27 => ?_))
    obtain ⟨f27, g27, n27⟩ := h27
    refine j_aload_n X dX5_comes_30 rfl ?_
    refine j_iload_n X dX5_comes_31 rfl ?_
    refine j_iconst X dX5_comes_32 ?_
    refine j_aload_n X dX5_comes_33 rfl ?_
    refine j_iload_n X dX5_comes_34 rfl ?_
    refine j_iconst X dX5_comes_35 ?_
    refine j_callV (nn := 2) X dX5_comes_36 (c_X5_part l D nH sk v27 m b (0) _ _ hM (by omega) (by omega) (by omega) (by omega)) gX5_comes_X5_part rfl ⟨rfl, rfl⟩ (by decide +kernel) ⟨Nat.le_of_ble_eq_true rfl, Nat.le_of_ble_eq_true rfl⟩ (by assumption) ⟨rfl, rfl⟩ rfl rfl (Nat.le_of_ble_eq_true rfl) ⟨Nat.zero_le _, Nat.zero_le _⟩ (kI (fun z36 v36 h36 => ?_))
    obtain ⟨rfl, rfl⟩ := h36
    rw [show v27 (m + 1) (146 + 63 * b + (0)) = (L.length : Int) by rw [g27 _ (by omega)]; exact hl0]
    refine j_iconst X dX5_comes_39 ?_
    refine j_iadd X dX5_comes_40 ?_
    refine j_callV (nn := 3) X dX5_comes_41 (c_X5_setPart l D nH sk v27 m b (0) _ _ _ hM (by omega) (by omega) (by omega) (by omega)) gX5_comes_X5_setPart rfl ⟨rfl, rfl⟩ (by decide +kernel) ⟨Nat.le_of_ble_eq_true rfl, Nat.le_of_ble_eq_true rfl⟩ (by assumption) ⟨rfl, rfl⟩ rfl rfl (Nat.le_of_ble_eq_true rfl) ⟨Nat.zero_le _, Nat.zero_le _⟩ (kV (fun v41 h41 => ?_))
    obtain ⟨f41, g41, n41⟩ := h41
    first
      | have hret : LR (v41 (m + 1)) b (insL L (n * 16 + q)) ∧ frB v v41 m b := by
          refine ⟨?_, frB.trans ⟨n27, fun k h1 h2 => g27 k (by omega)⟩ ⟨n41, fun k h1 h2 => g41 k (by omega)⟩⟩
          unfold insL
          rw [if_pos (by omega)]
          refine ⟨by rw [show v41 (m + 1) (146 + 63 * b) = (L.length : Int) + 1 from f41]; simp, by simp; omega, fun k hk => ?_, fun y hy => ?_⟩
          · rw [g41 _ (by omega), List.getElem_append]
            by_cases x : k < L.length
            · rw [dif_pos x, g27 _ (by omega)]; exact hlk k x
            · have hk2 : k = L.length := by simp at hk; omega
              subst hk2
              rw [dif_neg x, show 149 + 63 * b + L.length = 146 + 63 * b + (3 + L.length) by omega, f27]
              simp
              omega
          · rcases List.mem_append.mp hy with x | x
            · exact hll y x
            · rw [List.mem_singleton] at x
              omega
      | have hret : LR (v (m + 1)) b (insL L (n * 16 + q)) ∧ frB v v m b := ⟨by unfold insL; rw [if_neg (by omega)]; exact hL, frB.refl _ _ _⟩
    exact j_vret X dX5_comes_44 ⟨rfl, rfl, hret⟩
def rmX5_removeAll : Room := { frames := 2, cells := 0, slots := 0, locals := 46 }
set_option maxHeartbeats 4000000 in
set_option maxRecDepth 100000 in
theorem c_X5_removeAll (l : Launch) (D : va_G) (nH : Nat) (sk : Sk) (v : Mem) (m b n : Nat) (bz nz : Int) (L : List Nat) (hM : Md D sk m) (hbz : bz = (b : Int)) (hb : b ≤ 8) (hL : LR (v (m + 1)) b L) (hnz : nz = (n : Int)) (hn : n < 200) : CtV l D yX5_removeAll wsX5_removeAll rmX5_removeAll [.ref m, .int (I bz), .int (I nz)] nH sk v (fun v' => LR (v' (m + 1)) b (remA L n) ∧ frB v v' m b) := by
  refine ct_of (cc := cX5_removeAll) (maxL := 4) (ret := none) rfl rfl (Nat.le_of_ble_eq_true rfl) ?_
  intro p_ e_ s_ m_ args_ below_ meth_ c_ X hmn hsz
  obtain ⟨m0, m1, m2, m3, m4, m5, m6, m7, m8, m9, m10⟩ := id hM
  obtain ⟨hl0, h60, hlk, hll⟩ := id hL
  refine j_aload_n X dX5_removeAll_0 rfl ?_
  refine j_iload_n X dX5_removeAll_1 rfl ?_
  refine j_iconst X dX5_removeAll_2 ?_
  refine j_callV (nn := 2) X dX5_removeAll_3 (c_X5_len l D nH sk v m b _ (L) hM (by omega) (by omega) hL) gX5_removeAll_X5_part rfl ⟨rfl, rfl⟩ (by decide +kernel) ⟨Nat.le_of_ble_eq_true rfl, Nat.le_of_ble_eq_true rfl⟩ (by assumption) ⟨rfl, rfl⟩ rfl rfl (Nat.le_of_ble_eq_true rfl) ⟨Nat.zero_le _, Nat.zero_le _⟩ (kI (fun z3 v3 h3 => ?_))
  obtain ⟨rfl, rfl⟩ := h3
  refine j_iconst X dX5_removeAll_6 ?_
  refine j_isub X dX5_removeAll_7 ?_
  refine j_istore_n X dX5_removeAll_8 rfl (Nat.le_of_ble_eq_true rfl) ?_
  have hlt_ : ∀ {k : Nat} (h : k < L.length), L[k] < 1600 := fun h => (hL.lt h).2
  refine j_loop (σ := Nat × Mem) (fun (y_ : Nat × Mem) => match y_ with | (i, u) => i ≤ L.length ∧ LR (u (m + 1)) b (cutA L n i) ∧ frB v u m b) (fun (y_ : Nat × Mem) => match y_ with | (i, u) => i) (fun (y_ : Nat × Mem) => match y_ with | (i, u) => (u, [some (.ref m), some (.int (I bz)), some (.int (I nz)), some (.int (I ((i : Int) - 1)))])) ?_ (L.length, v) ⟨Nat.le_refl _, by rw [cutA_all]; exact hL, frB.refl _ _ _⟩
  intro y_ hx ih9
  obtain ⟨i, u⟩ := y_
  dsimp only at hx ih9 ⊢
  obtain ⟨hi, hu, hFu⟩ := hx
  refine j_iload_n X dX5_removeAll_9 rfl ?_
  refine j_if_lt (tgt := 35) X dX5_removeAll_10 (by omega) (by decide) (fun c10 => ?_) (fun c10 => ?_)
  · exact j_vret X dX5_removeAll_35 ⟨rfl, rfl, ⟨by rw [← cutA_0, show 0 = i by omega]; exact hu, hFu⟩⟩
  · obtain ⟨k, rfl⟩ : ∃ k : Nat, i = k + 1 := ⟨i - 1, by omega⟩
    rw [show ((k + 1 : Nat) : Int) - 1 = (k : Int) by omega]
    obtain ⟨hk, e1, e2⟩ := cutA_step (n := n) (show k < L.length by omega)
    refine j_aload_n X dX5_removeAll_13 rfl ?_
    refine j_iload_n X dX5_removeAll_14 rfl ?_
    refine j_iload_n X dX5_removeAll_15 rfl ?_
    refine j_callV (nn := 2) X dX5_removeAll_16 (c_X5_numberOf l D nH sk u m b (k) _ _ (cutA L n (k + 1)) hM (by omega) (by omega) (by omega) hu (by omega)) gX5_removeAll_X5_numberOf rfl ⟨rfl, rfl⟩ (by decide +kernel) ⟨Nat.le_of_ble_eq_true rfl, Nat.le_of_ble_eq_true rfl⟩ (by assumption) ⟨rfl, rfl⟩ rfl rfl (Nat.le_of_ble_eq_true rfl) ⟨Nat.zero_le _, Nat.zero_le _⟩ (kI (fun z16 v16 h16 => ?_))
    obtain ⟨rfl, rfl⟩ := h16
    refine j_iload_n X dX5_removeAll_19 rfl ?_
    rw [e1]
    refine j_icmp_ne (tgt := 29) X dX5_removeAll_20 (by have := hlt_ (show k < L.length by omega); omega) (by decide) (fun c20 => ?_) (fun c20 => ?_)
    · have hLw : LR (u (m + 1)) b (cutA L n k) := by rw [e2, if_neg (by omega)]; exact hu
      have hFw := hFu
      generalize u = w at hLw hFw ⊢
      refine j_iinc X dX5_removeAll_29 rfl rfl (Nat.le_of_ble_eq_true rfl) ?_
      refine j_goto (tgt := 9) X dX5_removeAll_32 (by decide) ?_
      rw [show (k : Int) + -1 = (k : Int) - 1 by omega]
      exact ih9 (k, w) (by (try dsimp only); exact ⟨by omega, hLw, hFw⟩) (by (try dsimp only); omega)
    · refine j_aload_n X dX5_removeAll_23 rfl ?_
      refine j_iload_n X dX5_removeAll_24 rfl ?_
      refine j_iload_n X dX5_removeAll_25 rfl ?_
      refine j_callV (nn := 2) X dX5_removeAll_26 (c_X5_remove l D nH sk u m b k _ _ (cutA L n (k + 1)) hM (by omega) (by omega) hu (by omega) (by omega)) gX5_removeAll_X5_remove rfl ⟨rfl, rfl⟩ (by decide +kernel) ⟨Nat.le_of_ble_eq_true rfl, Nat.le_of_ble_eq_true rfl⟩ (by assumption) ⟨rfl, rfl⟩ rfl rfl (Nat.le_of_ble_eq_true rfl) ⟨Nat.zero_le _, Nat.zero_le _⟩ (kV (fun w h26 => ?_))
      obtain ⟨hLw, hFw⟩ := h26
      have hLw : LR (w (m + 1)) b (cutA L n k) := by rw [e2, if_pos (by omega)]; exact hLw
      have hFw := hFu.trans hFw
      refine j_iinc X dX5_removeAll_29 rfl rfl (Nat.le_of_ble_eq_true rfl) ?_
      refine j_goto (tgt := 9) X dX5_removeAll_32 (by decide) ?_
      rw [show (k : Int) + -1 = (k : Int) - 1 by omega]
      exact ih9 (k, w) (by (try dsimp only); exact ⟨by omega, hLw, hFw⟩) (by (try dsimp only); omega)
def rmX5_earliest : Room := { frames := 2, cells := 0, slots := 0, locals := 44 }
set_option maxHeartbeats 4000000 in
set_option maxRecDepth 100000 in
theorem c_X5_earliest (l : Launch) (D : va_G) (nH : Nat) (sk : Sk) (v : Mem) (m b n : Nat) (bz nz : Int) (L : List Nat) (hM : Md D sk m) (hbz : bz = (b : Int)) (hb : b ≤ 8) (hL : LR (v (m + 1)) b L) (hnz : nz = (n : Int)) (hn : n < 200) : CtI l D yX5_earliest wsX5_earliest rmX5_earliest [.ref m, .int (I bz), .int (I nz)] nH sk v (fun z v' => isFE L n L.length z ∧ v = v') := by
  refine ct_of (cc := cX5_earliest) (maxL := 5) (ret := (some .int)) rfl rfl (Nat.le_of_ble_eq_true rfl) ?_
  intro p_ e_ s_ m_ args_ below_ meth_ c_ X hmn hsz
  obtain ⟨m0, m1, m2, m3, m4, m5, m6, m7, m8, m9, m10⟩ := id hM
  obtain ⟨hl0, h60, hlk, hll⟩ := id hL
  have hlt_ : ∀ {k : Nat} (h : k < L.length), L[k] < 1600 := fun h => (hL.lt h).2
  refine j_bipush X dX5_earliest_0 (by decide) ?_
  refine j_istore_n X dX5_earliest_2 rfl (Nat.le_of_ble_eq_true rfl) ?_
  refine j_iconst X dX5_earliest_3 ?_
  refine j_istore X dX5_earliest_4 rfl (Nat.le_of_ble_eq_true rfl) ?_
  refine j_loop (σ := Nat × Int) (fun (y_ : Nat × Int) => match y_ with | (i, z) => i ≤ L.length ∧ isFE L n i z) (fun (y_ : Nat × Int) => match y_ with | (i, z) => L.length - i) (fun (y_ : Nat × Int) => match y_ with | (i, z) => (v, [some (.ref m), some (.int (I bz)), some (.int (I nz)), some (.int (I z)), some (.int (I (i : Int)))])) ?_ (0, -6) ⟨Nat.zero_le _, Or.inl ⟨rfl, fun k h1 h2 => absurd h2 (by omega)⟩⟩
  intro y_ hx ih6
  obtain ⟨i, z⟩ := y_
  dsimp only at hx ih6 ⊢
  obtain ⟨hi, hz⟩ := hx
  refine j_iload X dX5_earliest_6 rfl ?_
  refine j_aload_n X dX5_earliest_8 rfl ?_
  refine j_iload_n X dX5_earliest_9 rfl ?_
  refine j_iconst X dX5_earliest_10 ?_
  refine j_callV (nn := 2) X dX5_earliest_11 (c_X5_len l D nH sk v m b _ (L) hM (by omega) (by omega) hL) gX5_earliest_X5_part rfl ⟨rfl, rfl⟩ (by decide +kernel) ⟨Nat.le_of_ble_eq_true rfl, Nat.le_of_ble_eq_true rfl⟩ (by assumption) ⟨rfl, rfl⟩ rfl rfl (Nat.le_of_ble_eq_true rfl) ⟨Nat.zero_le _, Nat.zero_le _⟩ (kI (fun z11 v11 h11 => ?_))
  obtain ⟨rfl, rfl⟩ := h11
  refine j_icmp_ge (tgt := 63) X dX5_earliest_14 (by omega) (by decide) (fun c14 => ?_) (fun c14 => ?_)
  · refine j_iload_n X dX5_earliest_63 rfl ?_
    exact j_iret X dX5_earliest_64 ⟨_, rfl, rfl, ⟨by rw [show L.length = i by omega]; exact hz, rfl⟩⟩
  · refine j_aload_n X dX5_earliest_17 rfl ?_
    refine j_iload_n X dX5_earliest_18 rfl ?_
    refine j_iload X dX5_earliest_19 rfl ?_
    refine j_callV (nn := 2) X dX5_earliest_21 (c_X5_numberOf l D nH sk v m b (i) _ _ (L) hM (by omega) (by omega) (by omega) hL (by omega)) gX5_earliest_X5_numberOf rfl ⟨rfl, rfl⟩ (by decide +kernel) ⟨Nat.le_of_ble_eq_true rfl, Nat.le_of_ble_eq_true rfl⟩ (by assumption) ⟨rfl, rfl⟩ rfl rfl (Nat.le_of_ble_eq_true rfl) ⟨Nat.zero_le _, Nat.zero_le _⟩ (kI (fun z21 v21 h21 => ?_))
    obtain ⟨rfl, rfl⟩ := h21
    refine j_iload_n X dX5_earliest_24 rfl ?_
    refine j_icmp_ne (tgt := 55) X dX5_earliest_25 (by have := hlt_ (show i < L.length by omega); omega) (by decide) (fun c25 => ?_) (fun c25 => ?_)
    · have hnx := hz.skip (by omega) (show L[i]'(by omega) / 16 ≠ n by omega)
      refine j_iload_n X dX5_earliest_55 rfl ?_
      refine j_istore_n X dX5_earliest_56 rfl (Nat.le_of_ble_eq_true rfl) ?_
      refine j_iinc X dX5_earliest_57 rfl rfl (Nat.le_of_ble_eq_true rfl) ?_
      refine j_goto (tgt := 6) X dX5_earliest_60 (by decide) ?_
      exact ih6 (i + 1, _) (by (try dsimp only); exact ⟨by omega, hnx⟩) (by (try dsimp only); omega)
    · refine j_iload_n X dX5_earliest_28 rfl ?_
      refine j_bipush X dX5_earliest_29 (by decide) ?_
      refine j_icmp_eq (tgt := 50) X dX5_earliest_31 (by have := hz.bd; omega) (by decide) (fun c31 => ?_) (fun c31 => ?_)
      · have hnx := hz.new (by omega) (show L[i]'(by omega) / 16 = n by omega) (fun k h1 h2 => by omega)
        refine j_iload X dX5_earliest_50 rfl ?_
        refine j_goto (tgt := 56) X dX5_earliest_52 (by decide) ?_
        refine j_istore_n X dX5_earliest_56 rfl (Nat.le_of_ble_eq_true rfl) ?_
        refine j_iinc X dX5_earliest_57 rfl rfl (Nat.le_of_ble_eq_true rfl) ?_
        refine j_goto (tgt := 6) X dX5_earliest_60 (by decide) ?_
        exact ih6 (i + 1, _) (by (try dsimp only); exact ⟨by omega, hnx⟩) (by (try dsimp only); omega)
      · obtain ⟨k, hk, rfl⟩ : ∃ (k : Nat) (h : k < L.length), z = (k : Int) := by
          rcases hz with h | ⟨k, h1, h2, h3⟩
          · omega
          · exact ⟨k, h1, h2⟩
        refine j_aload_n X dX5_earliest_34 rfl ?_
        refine j_iload_n X dX5_earliest_35 rfl ?_
        refine j_iload X dX5_earliest_36 rfl ?_
        refine j_callV (nn := 2) X dX5_earliest_38 (c_X5_issueOf l D nH sk v m b (i) _ _ (L) hM (by omega) (by omega) (by omega) hL (by omega)) gX5_earliest_X5_issueOf rfl ⟨rfl, rfl⟩ (by decide +kernel) ⟨Nat.le_of_ble_eq_true rfl, Nat.le_of_ble_eq_true rfl⟩ (by assumption) ⟨rfl, rfl⟩ rfl rfl (Nat.le_of_ble_eq_true rfl) ⟨Nat.zero_le _, Nat.zero_le _⟩ (kI (fun z38 v38 h38 => ?_))
        obtain ⟨rfl, rfl⟩ := h38
        refine j_aload_n X dX5_earliest_41 rfl ?_
        refine j_iload_n X dX5_earliest_42 rfl ?_
        refine j_iload_n X dX5_earliest_43 rfl ?_
        refine j_callV (nn := 2) X dX5_earliest_44 (c_X5_issueOf l D nH sk v m b (k) _ _ (L) hM (by omega) (by omega) (by omega) hL (by omega)) gX5_earliest_X5_issueOf rfl ⟨rfl, rfl⟩ (by decide +kernel) ⟨Nat.le_of_ble_eq_true rfl, Nat.le_of_ble_eq_true rfl⟩ (by assumption) ⟨rfl, rfl⟩ rfl rfl (Nat.le_of_ble_eq_true rfl) ⟨Nat.zero_le _, Nat.zero_le _⟩ (kI (fun z44 v44 h44 => ?_))
        obtain ⟨rfl, rfl⟩ := h44
        refine j_icmp_ge (tgt := 55) X dX5_earliest_47 (by omega) (by decide) (fun c47 => ?_) (fun c47 => ?_)
        · have hnx := hz.keep (by omega) hk (by omega)
          refine j_iload_n X dX5_earliest_55 rfl ?_
          refine j_istore_n X dX5_earliest_56 rfl (Nat.le_of_ble_eq_true rfl) ?_
          refine j_iinc X dX5_earliest_57 rfl rfl (Nat.le_of_ble_eq_true rfl) ?_
          refine j_goto (tgt := 6) X dX5_earliest_60 (by decide) ?_
          exact ih6 (i + 1, _) (by (try dsimp only); exact ⟨by omega, hnx⟩) (by (try dsimp only); omega)
        · have hnx := hz.new (by omega) (show L[i]'(by omega) / 16 = n by omega) (fun j h1 h2 => by have h3 : j = k := (by omega); subst h3; omega)
          refine j_iload X dX5_earliest_50 rfl ?_
          refine j_goto (tgt := 56) X dX5_earliest_52 (by decide) ?_
          refine j_istore_n X dX5_earliest_56 rfl (Nat.le_of_ble_eq_true rfl) ?_
          refine j_iinc X dX5_earliest_57 rfl rfl (Nat.le_of_ble_eq_true rfl) ?_
          refine j_goto (tgt := 6) X dX5_earliest_60 (by decide) ?_
          exact ih6 (i + 1, _) (by (try dsimp only); exact ⟨by omega, hnx⟩) (by (try dsimp only); omega)
def rmX5_doParcel : Room := { frames := 3, cells := 0, slots := 0, locals := 69 }
set_option maxHeartbeats 4000000 in
set_option maxRecDepth 100000 in
theorem c_X5_doParcel (l : Launch) (D : va_G) (nH : Nat) (sk : Sk) (v : Mem) (m b q : Nat) (bz qz c : Int) (L O : List Nat) (hM : Md D sk m) (hbz : bz = (b : Int)) (hb : b ≤ 8) (hL : LR (v (m + 1)) b L) (hqz : qz = (q : Int)) (hq : q < 16) (hc : c = 0 ∨ c = 1) (hO0 : v (m + 1) (2 + 9 * q) = (O.length : Int)) (hO8 : O.length ≤ 8) (hOk : ∀ x ∈ O, oko x) (hO1 : ∀ (k : Nat) (h : k < O.length), v (m + 1) (3 + 9 * q + k) = ((O[k]'h : Nat) : Int)) : CtV l D yX5_doParcel wsX5_doParcel rmX5_doParcel [.ref m, .int (I bz), .int (I qz), .int (I c)] nH sk v (fun v' => LR (v' (m + 1)) b (O.foldl (stp c q) L) ∧ frB v v' m b) := by
  refine ct_of (cc := cX5_doParcel) (maxL := 8) (ret := none) rfl rfl (Nat.le_of_ble_eq_true rfl) ?_
  intro p_ e_ s_ m_ args_ below_ meth_ c_ X hmn hsz
  have hinX5 : ∀ w ∈ wsX50, w ∈ wsX5_doParcel := by decide +kernel
  obtain ⟨m0, m1, m2, m3, m4, m5, m6, m7, m8, m9, m10⟩ := id hM
  obtain ⟨hl0, h60, hlk, hll⟩ := id hL
  refine j_iconst X dX5_doParcel_0 ?_
  refine j_istore X dX5_doParcel_1 rfl (Nat.le_of_ble_eq_true rfl) ?_
  refine j_loop (σ := Nat × Mem) (fun (y_ : Nat × Mem) => match y_ with | (i, u) => i ≤ O.length ∧ LR (u (m + 1)) b (List.foldl (stp c q) L (O.take i)) ∧ frB v u m b) (fun (y_ : Nat × Mem) => match y_ with | (i, u) => O.length - i) (fun (y_ : Nat × Mem) => match y_ with | (i, u) => (u, [some (.ref m), some (.int (I bz)), some (.int (I qz)), some (.int (I c)), some (.int (I (i : Int))), none, none, none])) ?_ (0, v) ⟨Nat.zero_le _, hL, frB.refl _ _ _⟩
  intro y_ hx ih3
  obtain ⟨i, u⟩ := y_
  dsimp only at hx ih3 ⊢
  obtain ⟨hi, hu, hFu⟩ := hx
  refine j_iload X dX5_doParcel_3 rfl ?_
  refine j_aload_n X dX5_doParcel_5 rfl ?_
  refine j_getr X dX5_doParcel_6 (T := TX5) (N := 13) (C := RX5) hinX5 rfl (by assumption) 0 (by decide) (by decide +kernel) rfl ?_
  refine j_iconst X dX5_doParcel_9 ?_
  refine j_bipush X dX5_doParcel_10 (by decide) ?_
  refine j_iload_n X dX5_doParcel_12 rfl ?_
  refine j_imul X dX5_doParcel_13 ?_
  refine j_iadd X dX5_doParcel_14 ?_
  refine j_ialN X dX5_doParcel_15 (by assumption) (2 + 9 * q) (by omega) (by omega) (by decide) ?_
  rw [show u (m + 1) (2 + 9 * q) = (O.length : Int) by rw [hFu.2 _ (by omega) (by omega)]; exact hO0]
  refine j_icmp_ge (tgt := 117) X dX5_doParcel_16 (by omega) (by decide) (fun c16 => ?_) (fun c16 => ?_)
  · exact j_vret X dX5_doParcel_117 ⟨rfl, rfl, ⟨by have e : i = O.length := (by omega); rw [e, List.take_length] at hu; exact hu, hFu⟩⟩
  · have hi2 : i < O.length := by omega
    have ho1 := hOk _ (List.getElem_mem hi2)
    have ho2 := ho1.2
    have hur : u (m + 1) (3 + 9 * q + i) = ((O[i] : Nat) : Int) := by rw [hFu.2 _ (by omega) (by omega)]; exact hO1 i hi2
    have hst := fold_take (f := stp c q) (L := L) hi2
    generalize hcur : List.foldl (stp c q) L (O.take i) = cur at hu hst
    refine j_aload_n X dX5_doParcel_19 rfl ?_
    refine j_iload_n X dX5_doParcel_20 rfl ?_
    refine j_iload X dX5_doParcel_21 rfl ?_
    refine j_callV (nn := 2) X dX5_doParcel_23 (c_X5_orderOf l D nH sk u m q i _ _ hM (by omega) (by omega) (by omega) (by omega)) gX5_doParcel_X5_orderOf rfl ⟨rfl, rfl⟩ (by decide +kernel) ⟨Nat.le_of_ble_eq_true rfl, Nat.le_of_ble_eq_true rfl⟩ (by assumption) ⟨rfl, rfl⟩ rfl rfl (Nat.le_of_ble_eq_true rfl) ⟨Nat.zero_le _, Nat.zero_le _⟩ (kI (fun z23 v23 h23 => ?_))
    obtain ⟨rfl, rfl⟩ := h23
    rw [hur]
    refine j_bipush X dX5_doParcel_26 (by decide) ?_
    refine j_irem X dX5_doParcel_28 (by omega) (by omega) ?_
    refine j_istore X dX5_doParcel_29 rfl (Nat.le_of_ble_eq_true rfl) ?_
    refine j_aload_n X dX5_doParcel_31 rfl ?_
    refine j_iload_n X dX5_doParcel_32 rfl ?_
    refine j_iload X dX5_doParcel_33 rfl ?_
    refine j_callV (nn := 2) X dX5_doParcel_35 (c_X5_orderOf l D nH sk u m q i _ _ hM (by omega) (by omega) (by omega) (by omega)) gX5_doParcel_X5_orderOf rfl ⟨rfl, rfl⟩ (by decide +kernel) ⟨Nat.le_of_ble_eq_true rfl, Nat.le_of_ble_eq_true rfl⟩ (by assumption) ⟨rfl, rfl⟩ rfl rfl (Nat.le_of_ble_eq_true rfl) ⟨Nat.zero_le _, Nat.zero_le _⟩ (kI (fun z35 v35 h35 => ?_))
    obtain ⟨rfl, rfl⟩ := h35
    rw [hur]
    refine j_bipush X dX5_doParcel_38 (by decide) ?_
    refine j_icmp_lt (tgt := 47) X dX5_doParcel_40 (by omega) (by decide) (fun c40 => ?_) (fun c40 => ?_)
    · refine j_iconst X dX5_doParcel_47 ?_
      refine j_istore X dX5_doParcel_48 rfl (Nat.le_of_ble_eq_true rfl) ?_
      refine j_iload_n X dX5_doParcel_50 rfl ?_
      refine j_if_ne (tgt := 59) X dX5_doParcel_51 (by omega) (by decide) (fun c51 => ?_) (fun c51 => ?_)
      · refine j_bipush X dX5_doParcel_59 (by decide) ?_
        refine j_goto (tgt := 71) X dX5_doParcel_61 (by decide) ?_
        refine j_istore X dX5_doParcel_71 rfl (Nat.le_of_ble_eq_true rfl) ?_
        refine j_iload_n X dX5_doParcel_73 rfl ?_
        refine j_if_eq (tgt := 84) X dX5_doParcel_74 (by omega) (by decide) (fun c74 => ?_) (fun c74 => ?_)
        · exfalso; omega
        · refine j_aload_n X dX5_doParcel_77 rfl ?_
          refine j_iload_n X dX5_doParcel_78 rfl ?_
          refine j_iload X dX5_doParcel_79 rfl ?_
          refine j_callV (nn := 2) X dX5_doParcel_81 (c_X5_removeAll l D nH sk u m b (O[i] % 100) _ _ cur hM (by omega) (by omega) hu (by omega) (by omega)) gX5_doParcel_X5_removeAll rfl ⟨rfl, rfl⟩ (by decide +kernel) ⟨Nat.le_of_ble_eq_true rfl, Nat.le_of_ble_eq_true rfl⟩ (by assumption) ⟨rfl, rfl⟩ rfl rfl (Nat.le_of_ble_eq_true rfl) ⟨Nat.zero_le _, Nat.zero_le _⟩ (kV (fun w81 h81 => ?_))
          obtain ⟨hL81, hF81⟩ := h81
          refine j_iload X dX5_doParcel_84 rfl ?_
          refine j_bipush X dX5_doParcel_86 (by decide) ?_
          refine j_icmp_eq (tgt := 98) X dX5_doParcel_88 (by first | omega | (have := hu.2.1; omega)) (by decide) (fun c88 => ?_) (fun c88 => ?_)
          · refine j_iload X dX5_doParcel_98 rfl ?_
            refine j_if_eq (tgt := 111) X dX5_doParcel_100 (by omega) (by decide) (fun c100 => ?_) (fun c100 => ?_)
            · first
              | have hnx : LR (w108 (m + 1)) b (List.foldl (stp c q) L (O.take (i + 1))) ∧ frB v w108 m b := by
                  rw [hst]
                  unfold stp care1 less1
                  first
                  | (rw [if_neg (by omega), if_pos (by omega)]; exact ⟨hL108, hFu.trans (hF81.trans hF108)⟩)
                  | (rw [if_pos (by omega), if_pos (by omega)]; exact ⟨hL108, hFu.trans hF108⟩)
              | have hnx : LR (w81 (m + 1)) b (List.foldl (stp c q) L (O.take (i + 1))) ∧ frB v w81 m b := by
                  rw [hst]
                  unfold stp care1
                  rw [if_neg (by omega), if_neg (by omega)]
                  exact ⟨hL81, hFu.trans hF81⟩
              | have hnx : LR (w95 (m + 1)) b (List.foldl (stp c q) L (O.take (i + 1))) ∧ frB v w95 m b := by
                  rw [hst]
                  unfold stp less1
                  rw [if_pos (by omega), if_neg (by omega), hke]
                  exact ⟨hL95, hFu.trans hF95⟩
              | have hnx : LR (u (m + 1)) b (List.foldl (stp c q) L (O.take (i + 1))) ∧ frB v u m b := by
                  rw [hst]
                  unfold stp less1
                  rw [if_pos (by omega), if_neg (by omega)]
                  rcases hzr with h | ⟨k, h1, h2, h3⟩
                  · rw [h.2]; exact ⟨hu, hFu⟩
                  · omega
              refine j_iinc X dX5_doParcel_111 rfl rfl (Nat.le_of_ble_eq_true rfl) ?_
              refine j_goto (tgt := 3) X dX5_doParcel_114 (by decide) ?_
              refine j_drop 5 ?_
              refine j_drop 6 ?_
              refine j_drop 7 ?_
              exact ih3 (i + 1, _) (by (try dsimp only); exact ⟨by omega, hnx.1, hnx.2⟩) (by (try dsimp only); omega)
            · exfalso; omega
          · exfalso; omega
      · refine j_iload X dX5_doParcel_54 rfl ?_
        refine j_if_eq (tgt := 64) X dX5_doParcel_56 (by omega) (by decide) (fun c56 => ?_) (fun c56 => ?_)
        · refine j_aload_n X dX5_doParcel_64 rfl ?_
          refine j_iload_n X dX5_doParcel_65 rfl ?_
          refine j_iload X dX5_doParcel_66 rfl ?_
          refine j_callV (nn := 2) X dX5_doParcel_68 (c_X5_earliest l D nH sk u m b (O[i] % 100) _ _ cur hM (by omega) (by omega) hu (by omega) (by omega)) gX5_doParcel_X5_earliest rfl ⟨rfl, rfl⟩ (by decide +kernel) ⟨Nat.le_of_ble_eq_true rfl, Nat.le_of_ble_eq_true rfl⟩ (by assumption) ⟨rfl, rfl⟩ rfl rfl (Nat.le_of_ble_eq_true rfl) ⟨Nat.zero_le _, Nat.zero_le _⟩ (kI (fun z68 v68 h68 => ?_))
          obtain ⟨hz68, rfl⟩ := h68
          have hzr := isFE_remE hz68
          have hbd68 := hz68.bd
          refine j_istore X dX5_doParcel_71 rfl (Nat.le_of_ble_eq_true rfl) ?_
          refine j_iload_n X dX5_doParcel_73 rfl ?_
          refine j_if_eq (tgt := 84) X dX5_doParcel_74 (by omega) (by decide) (fun c74 => ?_) (fun c74 => ?_)
          · refine j_iload X dX5_doParcel_84 rfl ?_
            refine j_bipush X dX5_doParcel_86 (by decide) ?_
            refine j_icmp_eq (tgt := 98) X dX5_doParcel_88 (by first | omega | (have := hu.2.1; omega)) (by decide) (fun c88 => ?_) (fun c88 => ?_)
            · refine j_iload X dX5_doParcel_98 rfl ?_
              refine j_if_eq (tgt := 111) X dX5_doParcel_100 (by omega) (by decide) (fun c100 => ?_) (fun c100 => ?_)
              · first
                | have hnx : LR (w108 (m + 1)) b (List.foldl (stp c q) L (O.take (i + 1))) ∧ frB v w108 m b := by
                    rw [hst]
                    unfold stp care1 less1
                    first
                    | (rw [if_neg (by omega), if_pos (by omega)]; exact ⟨hL108, hFu.trans (hF81.trans hF108)⟩)
                    | (rw [if_pos (by omega), if_pos (by omega)]; exact ⟨hL108, hFu.trans hF108⟩)
                | have hnx : LR (w81 (m + 1)) b (List.foldl (stp c q) L (O.take (i + 1))) ∧ frB v w81 m b := by
                    rw [hst]
                    unfold stp care1
                    rw [if_neg (by omega), if_neg (by omega)]
                    exact ⟨hL81, hFu.trans hF81⟩
                | have hnx : LR (w95 (m + 1)) b (List.foldl (stp c q) L (O.take (i + 1))) ∧ frB v w95 m b := by
                    rw [hst]
                    unfold stp less1
                    rw [if_pos (by omega), if_neg (by omega), hke]
                    exact ⟨hL95, hFu.trans hF95⟩
                | have hnx : LR (u (m + 1)) b (List.foldl (stp c q) L (O.take (i + 1))) ∧ frB v u m b := by
                    rw [hst]
                    unfold stp less1
                    rw [if_pos (by omega), if_neg (by omega)]
                    rcases hzr with h | ⟨k, h1, h2, h3⟩
                    · rw [h.2]; exact ⟨hu, hFu⟩
                    · omega
                refine j_iinc X dX5_doParcel_111 rfl rfl (Nat.le_of_ble_eq_true rfl) ?_
                refine j_goto (tgt := 3) X dX5_doParcel_114 (by decide) ?_
                refine j_drop 5 ?_
                refine j_drop 6 ?_
                refine j_drop 7 ?_
                exact ih3 (i + 1, _) (by (try dsimp only); exact ⟨by omega, hnx.1, hnx.2⟩) (by (try dsimp only); omega)
              · exfalso; omega
            · obtain ⟨k, hk, rfl, hke⟩ : ∃ (k : Nat) (h : k < cur.length), z68 = (k : Int) ∧ remE cur (O[i] % 100) = cur.eraseIdx k := by
                rcases hzr with h | ⟨k, h1, h2, h3⟩
                · exact absurd h.1 (by omega)
                · exact ⟨k, h1, h2, h3⟩
              refine j_aload_n X dX5_doParcel_91 rfl ?_
              refine j_iload_n X dX5_doParcel_92 rfl ?_
              refine j_iload X dX5_doParcel_93 rfl ?_
              refine j_callV (nn := 2) X dX5_doParcel_95 (c_X5_remove l D nH sk u m b k _ _ cur hM (by omega) (by omega) hu (by omega) hk) gX5_doParcel_X5_remove rfl ⟨rfl, rfl⟩ (by decide +kernel) ⟨Nat.le_of_ble_eq_true rfl, Nat.le_of_ble_eq_true rfl⟩ (by assumption) ⟨rfl, rfl⟩ rfl rfl (Nat.le_of_ble_eq_true rfl) ⟨Nat.zero_le _, Nat.zero_le _⟩ (kV (fun w95 h95 => ?_))
              obtain ⟨hL95, hF95⟩ := h95
              refine j_iload X dX5_doParcel_98 rfl ?_
              refine j_if_eq (tgt := 111) X dX5_doParcel_100 (by omega) (by decide) (fun c100 => ?_) (fun c100 => ?_)
              · first
                | have hnx : LR (w108 (m + 1)) b (List.foldl (stp c q) L (O.take (i + 1))) ∧ frB v w108 m b := by
                    rw [hst]
                    unfold stp care1 less1
                    first
                    | (rw [if_neg (by omega), if_pos (by omega)]; exact ⟨hL108, hFu.trans (hF81.trans hF108)⟩)
                    | (rw [if_pos (by omega), if_pos (by omega)]; exact ⟨hL108, hFu.trans hF108⟩)
                | have hnx : LR (w81 (m + 1)) b (List.foldl (stp c q) L (O.take (i + 1))) ∧ frB v w81 m b := by
                    rw [hst]
                    unfold stp care1
                    rw [if_neg (by omega), if_neg (by omega)]
                    exact ⟨hL81, hFu.trans hF81⟩
                | have hnx : LR (w95 (m + 1)) b (List.foldl (stp c q) L (O.take (i + 1))) ∧ frB v w95 m b := by
                    rw [hst]
                    unfold stp less1
                    rw [if_pos (by omega), if_neg (by omega), hke]
                    exact ⟨hL95, hFu.trans hF95⟩
                | have hnx : LR (u (m + 1)) b (List.foldl (stp c q) L (O.take (i + 1))) ∧ frB v u m b := by
                    rw [hst]
                    unfold stp less1
                    rw [if_pos (by omega), if_neg (by omega)]
                    rcases hzr with h | ⟨k, h1, h2, h3⟩
                    · rw [h.2]; exact ⟨hu, hFu⟩
                    · omega
                refine j_iinc X dX5_doParcel_111 rfl rfl (Nat.le_of_ble_eq_true rfl) ?_
                refine j_goto (tgt := 3) X dX5_doParcel_114 (by decide) ?_
                refine j_drop 5 ?_
                refine j_drop 6 ?_
                refine j_drop 7 ?_
                exact ih3 (i + 1, _) (by (try dsimp only); exact ⟨by omega, hnx.1, hnx.2⟩) (by (try dsimp only); omega)
              · exfalso; omega
          · exfalso; omega
        · exfalso; omega
    · refine j_iconst X dX5_doParcel_43 ?_
      refine j_goto (tgt := 48) X dX5_doParcel_44 (by decide) ?_
      refine j_istore X dX5_doParcel_48 rfl (Nat.le_of_ble_eq_true rfl) ?_
      refine j_iload_n X dX5_doParcel_50 rfl ?_
      refine j_if_ne (tgt := 59) X dX5_doParcel_51 (by omega) (by decide) (fun c51 => ?_) (fun c51 => ?_)
      · refine j_bipush X dX5_doParcel_59 (by decide) ?_
        refine j_goto (tgt := 71) X dX5_doParcel_61 (by decide) ?_
        refine j_istore X dX5_doParcel_71 rfl (Nat.le_of_ble_eq_true rfl) ?_
        refine j_iload_n X dX5_doParcel_73 rfl ?_
        refine j_if_eq (tgt := 84) X dX5_doParcel_74 (by omega) (by decide) (fun c74 => ?_) (fun c74 => ?_)
        · exfalso; omega
        · refine j_aload_n X dX5_doParcel_77 rfl ?_
          refine j_iload_n X dX5_doParcel_78 rfl ?_
          refine j_iload X dX5_doParcel_79 rfl ?_
          refine j_callV (nn := 2) X dX5_doParcel_81 (c_X5_removeAll l D nH sk u m b (O[i] % 100) _ _ cur hM (by omega) (by omega) hu (by omega) (by omega)) gX5_doParcel_X5_removeAll rfl ⟨rfl, rfl⟩ (by decide +kernel) ⟨Nat.le_of_ble_eq_true rfl, Nat.le_of_ble_eq_true rfl⟩ (by assumption) ⟨rfl, rfl⟩ rfl rfl (Nat.le_of_ble_eq_true rfl) ⟨Nat.zero_le _, Nat.zero_le _⟩ (kV (fun w81 h81 => ?_))
          obtain ⟨hL81, hF81⟩ := h81
          refine j_iload X dX5_doParcel_84 rfl ?_
          refine j_bipush X dX5_doParcel_86 (by decide) ?_
          refine j_icmp_eq (tgt := 98) X dX5_doParcel_88 (by first | omega | (have := hu.2.1; omega)) (by decide) (fun c88 => ?_) (fun c88 => ?_)
          · refine j_iload X dX5_doParcel_98 rfl ?_
            refine j_if_eq (tgt := 111) X dX5_doParcel_100 (by omega) (by decide) (fun c100 => ?_) (fun c100 => ?_)
            · exfalso; omega
            · refine j_aload_n X dX5_doParcel_103 rfl ?_
              refine j_iload_n X dX5_doParcel_104 rfl ?_
              refine j_iload X dX5_doParcel_105 rfl ?_
              refine j_iload_n X dX5_doParcel_107 rfl ?_
              refine j_callV (nn := 3) X dX5_doParcel_108 (c_X5_comes l D nH sk _ m b (O[i] % 100) q _ _ _ _ hM (by omega) (by omega) (by first | exact hL81 | exact hu) (by omega) (by omega) (by have := ho1.1; omega) hq) gX5_doParcel_X5_comes rfl ⟨rfl, rfl⟩ (by decide +kernel) ⟨Nat.le_of_ble_eq_true rfl, Nat.le_of_ble_eq_true rfl⟩ (by assumption) ⟨rfl, rfl⟩ rfl rfl (Nat.le_of_ble_eq_true rfl) ⟨Nat.zero_le _, Nat.zero_le _⟩ (kV (fun w108 h108 => ?_))
              obtain ⟨hL108, hF108⟩ := h108
              first
              | have hnx : LR (w108 (m + 1)) b (List.foldl (stp c q) L (O.take (i + 1))) ∧ frB v w108 m b := by
                  rw [hst]
                  unfold stp care1 less1
                  first
                  | (rw [if_neg (by omega), if_pos (by omega)]; exact ⟨hL108, hFu.trans (hF81.trans hF108)⟩)
                  | (rw [if_pos (by omega), if_pos (by omega)]; exact ⟨hL108, hFu.trans hF108⟩)
              | have hnx : LR (w81 (m + 1)) b (List.foldl (stp c q) L (O.take (i + 1))) ∧ frB v w81 m b := by
                  rw [hst]
                  unfold stp care1
                  rw [if_neg (by omega), if_neg (by omega)]
                  exact ⟨hL81, hFu.trans hF81⟩
              | have hnx : LR (w95 (m + 1)) b (List.foldl (stp c q) L (O.take (i + 1))) ∧ frB v w95 m b := by
                  rw [hst]
                  unfold stp less1
                  rw [if_pos (by omega), if_neg (by omega), hke]
                  exact ⟨hL95, hFu.trans hF95⟩
              | have hnx : LR (u (m + 1)) b (List.foldl (stp c q) L (O.take (i + 1))) ∧ frB v u m b := by
                  rw [hst]
                  unfold stp less1
                  rw [if_pos (by omega), if_neg (by omega)]
                  rcases hzr with h | ⟨k, h1, h2, h3⟩
                  · rw [h.2]; exact ⟨hu, hFu⟩
                  · omega
              refine j_iinc X dX5_doParcel_111 rfl rfl (Nat.le_of_ble_eq_true rfl) ?_
              refine j_goto (tgt := 3) X dX5_doParcel_114 (by decide) ?_
              refine j_drop 5 ?_
              refine j_drop 6 ?_
              refine j_drop 7 ?_
              exact ih3 (i + 1, _) (by (try dsimp only); exact ⟨by omega, hnx.1, hnx.2⟩) (by (try dsimp only); omega)
          · exfalso; omega
      · refine j_iload X dX5_doParcel_54 rfl ?_
        refine j_if_eq (tgt := 64) X dX5_doParcel_56 (by omega) (by decide) (fun c56 => ?_) (fun c56 => ?_)
        · exfalso; omega
        · refine j_bipush X dX5_doParcel_59 (by decide) ?_
          refine j_goto (tgt := 71) X dX5_doParcel_61 (by decide) ?_
          refine j_istore X dX5_doParcel_71 rfl (Nat.le_of_ble_eq_true rfl) ?_
          refine j_iload_n X dX5_doParcel_73 rfl ?_
          refine j_if_eq (tgt := 84) X dX5_doParcel_74 (by omega) (by decide) (fun c74 => ?_) (fun c74 => ?_)
          · refine j_iload X dX5_doParcel_84 rfl ?_
            refine j_bipush X dX5_doParcel_86 (by decide) ?_
            refine j_icmp_eq (tgt := 98) X dX5_doParcel_88 (by first | omega | (have := hu.2.1; omega)) (by decide) (fun c88 => ?_) (fun c88 => ?_)
            · refine j_iload X dX5_doParcel_98 rfl ?_
              refine j_if_eq (tgt := 111) X dX5_doParcel_100 (by omega) (by decide) (fun c100 => ?_) (fun c100 => ?_)
              · exfalso; omega
              · refine j_aload_n X dX5_doParcel_103 rfl ?_
                refine j_iload_n X dX5_doParcel_104 rfl ?_
                refine j_iload X dX5_doParcel_105 rfl ?_
                refine j_iload_n X dX5_doParcel_107 rfl ?_
                refine j_callV (nn := 3) X dX5_doParcel_108 (c_X5_comes l D nH sk _ m b (O[i] % 100) q _ _ _ _ hM (by omega) (by omega) (by first | exact hL81 | exact hu) (by omega) (by omega) (by have := ho1.1; omega) hq) gX5_doParcel_X5_comes rfl ⟨rfl, rfl⟩ (by decide +kernel) ⟨Nat.le_of_ble_eq_true rfl, Nat.le_of_ble_eq_true rfl⟩ (by assumption) ⟨rfl, rfl⟩ rfl rfl (Nat.le_of_ble_eq_true rfl) ⟨Nat.zero_le _, Nat.zero_le _⟩ (kV (fun w108 h108 => ?_))
                obtain ⟨hL108, hF108⟩ := h108
                first
                | have hnx : LR (w108 (m + 1)) b (List.foldl (stp c q) L (O.take (i + 1))) ∧ frB v w108 m b := by
                    rw [hst]
                    unfold stp care1 less1
                    first
                    | (rw [if_neg (by omega), if_pos (by omega)]; exact ⟨hL108, hFu.trans (hF81.trans hF108)⟩)
                    | (rw [if_pos (by omega), if_pos (by omega)]; exact ⟨hL108, hFu.trans hF108⟩)
                | have hnx : LR (w81 (m + 1)) b (List.foldl (stp c q) L (O.take (i + 1))) ∧ frB v w81 m b := by
                    rw [hst]
                    unfold stp care1
                    rw [if_neg (by omega), if_neg (by omega)]
                    exact ⟨hL81, hFu.trans hF81⟩
                | have hnx : LR (w95 (m + 1)) b (List.foldl (stp c q) L (O.take (i + 1))) ∧ frB v w95 m b := by
                    rw [hst]
                    unfold stp less1
                    rw [if_pos (by omega), if_neg (by omega), hke]
                    exact ⟨hL95, hFu.trans hF95⟩
                | have hnx : LR (u (m + 1)) b (List.foldl (stp c q) L (O.take (i + 1))) ∧ frB v u m b := by
                    rw [hst]
                    unfold stp less1
                    rw [if_pos (by omega), if_neg (by omega)]
                    rcases hzr with h | ⟨k, h1, h2, h3⟩
                    · rw [h.2]; exact ⟨hu, hFu⟩
                    · omega
                refine j_iinc X dX5_doParcel_111 rfl rfl (Nat.le_of_ble_eq_true rfl) ?_
                refine j_goto (tgt := 3) X dX5_doParcel_114 (by decide) ?_
                refine j_drop 5 ?_
                refine j_drop 6 ?_
                refine j_drop 7 ?_
                exact ih3 (i + 1, _) (by (try dsimp only); exact ⟨by omega, hnx.1, hnx.2⟩) (by (try dsimp only); omega)
            · exfalso; omega
          · exfalso; omega
def rmX5_doSet : Room := { frames := 4, cells := 0, slots := 0, locals := 96 }
set_option maxHeartbeats 4000000 in
set_option maxRecDepth 100000 in
theorem c_X5_doSet (l : Launch) (D : va_G) (nH : Nat) (sk : Sk) (v : Mem) (m b w : Nat) (bz : Int) (L : List Nat) (S : AS) (hM : Md D sk m) (hbz : bz = (b : Int)) (hb : b ≤ 8) (hL : LR (v (m + 1)) b L) (hO : OO (v (m + 1)) S) (hw : w < 2147483648) : CtV l D yX5_doSet wsX5_doSet rmX5_doSet [.ref m, .int (I bz), .int (I (w : Int))] nH sk v (fun v' => LR (v' (m + 1)) b (careU (od S) w L (np S)) ∧ frB v v' m b) := by
  refine ct_of (cc := cX5_doSet) (maxL := 4) (ret := none) rfl rfl (Nat.le_of_ble_eq_true rfl) ?_
  intro p_ e_ s_ m_ args_ below_ meth_ c_ X hmn hsz
  have hinX5 : ∀ w ∈ wsX50, w ∈ wsX5_doSet := by decide +kernel
  obtain ⟨m0, m1, m2, m3, m4, m5, m6, m7, m8, m9, m10⟩ := id hM
  obtain ⟨o1, o2, o3⟩ := id hO
  refine j_iconst X dX5_doSet_0 ?_
  refine j_istore_n X dX5_doSet_1 rfl (Nat.le_of_ble_eq_true rfl) ?_
  refine j_loop (σ := Nat × Mem) (fun (y_ : Nat × Mem) => match y_ with | (k, u) => k ≤ np S ∧ LR (u (m + 1)) b (careU (od S) w L k) ∧ frB v u m b) (fun (y_ : Nat × Mem) => match y_ with | (k, u) => np S - k) (fun (y_ : Nat × Mem) => match y_ with | (k, u) => (u, [some (.ref m), some (.int (I bz)), some (.int (I (w : Int))), some (.int (I (k : Int)))])) ?_ (0, v) ⟨Nat.zero_le _, hL, frB.refl _ _ _⟩
  intro y_ hx ih2
  obtain ⟨k, u⟩ := y_
  dsimp only at hx ih2 ⊢
  obtain ⟨hk, hu, hFu⟩ := hx
  refine j_iload_n X dX5_doSet_2 rfl ?_
  refine j_aload_n X dX5_doSet_3 rfl ?_
  refine j_getr X dX5_doSet_4 (T := TX5) (N := 13) (C := RX5) hinX5 rfl (by assumption) 0 (by decide) (by decide +kernel) rfl ?_
  refine j_iconst X dX5_doSet_7 ?_
  refine j_ialN X dX5_doSet_8 (by assumption) (0) (by omega) (by omega) (by decide) ?_
  rw [show u (m + 1) 0 = (np S : Int) by rw [hFu.2 _ (by omega) (by omega)]; exact o1]
  refine j_icmp_ge (tgt := 34) X dX5_doSet_9 (by omega) (by decide) (fun c9 => ?_) (fun c9 => ?_)
  · exact j_vret X dX5_doSet_34 ⟨rfl, rfl, ⟨by have e : k = np S := (by omega); rw [e] at hu; exact hu, hFu⟩⟩
  · obtain ⟨q1, q2, q3, q4⟩ := o3 k (by omega)
    have htb := tb_div w k
    refine j_iload_n X dX5_doSet_12 rfl ?_
    refine j_iload_n X dX5_doSet_13 rfl ?_
    refine j_ishr X dX5_doSet_14 (b_shr (by omega) (by omega)) ?_
    refine j_iconst X dX5_doSet_15 ?_
    refine j_iand X dX5_doSet_16 b_bit1 ?_
    refine j_iconst X dX5_doSet_17 ?_
    refine j_icmp_ne (tgt := 28) X dX5_doSet_18 (by omega) (by decide) (fun c18 => ?_) (fun c18 => ?_)
    · have hnx : LR (u (m + 1)) b (careU (od S) w L (k + 1)) ∧ frB v u m b := by unfold careU; rw [htb, if_neg (by simp; omega)]; exact ⟨hu, hFu⟩
      generalize u = y at hnx ⊢
      refine j_iinc X dX5_doSet_28 rfl rfl (Nat.le_of_ble_eq_true rfl) ?_
      refine j_goto (tgt := 2) X dX5_doSet_31 (by decide) ?_
      exact ih2 (k + 1, y) (by (try dsimp only); exact ⟨by omega, hnx.1, hnx.2⟩) (by (try dsimp only); omega)
    · refine j_aload_n X dX5_doSet_21 rfl ?_
      refine j_iload_n X dX5_doSet_22 rfl ?_
      refine j_iload_n X dX5_doSet_23 rfl ?_
      refine j_iconst X dX5_doSet_24 ?_
      refine j_callV (nn := 3) X dX5_doSet_25 (c_X5_doParcel l D nH sk u m b k _ _ 1 (careU (od S) w L k) (od S k) hM (by omega) (by omega) hu (by omega) (by omega) (Or.inr rfl) (by rw [hFu.2 _ (by omega) (by omega)]; exact q1) q2 q3 (fun j hj => by rw [hFu.2 _ (by omega) (by omega)]; exact q4 j hj)) gX5_doSet_X5_doParcel rfl ⟨rfl, rfl⟩ (by decide +kernel) ⟨Nat.le_of_ble_eq_true rfl, Nat.le_of_ble_eq_true rfl⟩ (by assumption) ⟨rfl, rfl⟩ rfl rfl (Nat.le_of_ble_eq_true rfl) ⟨Nat.zero_le _, Nat.zero_le _⟩ (kV (fun y h25 => ?_))
      obtain ⟨hLy, hFy⟩ := h25
      have hnx : LR (y (m + 1)) b (careU (od S) w L (k + 1)) ∧ frB v y m b := by unfold careU; rw [htb, if_pos (by simp; omega)]; exact ⟨hLy, hFu.trans hFy⟩
      refine j_iinc X dX5_doSet_28 rfl rfl (Nat.le_of_ble_eq_true rfl) ?_
      refine j_goto (tgt := 2) X dX5_doSet_31 (by decide) ?_
      exact ih2 (k + 1, y) (by (try dsimp only); exact ⟨by omega, hnx.1, hnx.2⟩) (by (try dsimp only); omega)
