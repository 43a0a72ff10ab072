def MR (r : Nat → Int) (S : AS) : Prop := OO r S ∧ no S ≤ 8 ∧ r 1 = (no S : Int) ∧ LR r 8 (tx S) ∧ NU (tx S) ∧ ∀ i, i < no S → LR r i (bn S i) ∧ r (147 + 63 * i) = (wt S i : Int) ∧ r (148 + 63 * i) = (lo_ S i : Int) ∧ wt S i < 65536 ∧ lo_ S i < 65536
theorem MR.kept {r r' : Nat → Int} {S : AS} (h : MR r S) (hr : ∀ j, j < 713 → r' j = r j) : MR r' S := by
  obtain ⟨h1, h2, h3, h4, h5, h6⟩ := h
  refine ⟨h1.kept (fun j hj _ => hr j (by omega)), h2, by rw [hr _ (by omega)]; exact h3, h4.kept (fun j _ hj => hr j (by omega)), h5, fun i hi => ?_⟩
  obtain ⟨g1, g2, g3, g4, g5⟩ := h6 i hi
  exact ⟨g1.kept (fun j _ hj => hr j (by omega)), by rw [hr _ (by omega)]; exact g2, by rw [hr _ (by omega)]; exact g3, g4, g5⟩
/-- the first place of a leaf among those from i on -/
def isLW (L : List Nat) (x i : Nat) (z : Int) : Prop := (z = -6 ∧ ∀ (j : Nat) (h : j < L.length), i ≤ j → (L[j]'h) ≠ x) ∨ ∃ (k : Nat) (h : k < L.length), i ≤ k ∧ z = (k : Int) ∧ (L[k]'h) = x ∧ ∀ (j : Nat) (h : j < L.length), i ≤ j → j < k → (L[j]'h) ≠ x
theorem isLW.bd {L : List Nat} {x i : Nat} {z : Int} (h : isLW L x i z) : -6 ≤ z ∧ z < L.length := by
  rcases h with h | ⟨k, h1, h2, h3⟩ <;> omega
theorem isLW.skip {L : List Nat} {x i : Nat} {z : Int} (h : isLW L x (i + 1) z) (hi : i < L.length) (hn : L[i] ≠ x) : isLW L x i z := by
  rcases h with ⟨h1, h2⟩ | ⟨k, h1, h2, h3, h4, h5⟩
  · refine Or.inl ⟨h1, fun j hj hij => ?_⟩
    rcases Nat.eq_or_lt_of_le hij with q | q
    · subst q; exact hn
    · exact h2 j hj q
  · refine Or.inr ⟨k, h1, by omega, h3, h4, fun j hj hij hjk => ?_⟩
    rcases Nat.eq_or_lt_of_le hij with q | q
    · subst q; exact hn
    · exact h5 j hj q hjk
theorem isLW.new {L : List Nat} {x i : Nat} (hi : i < L.length) (hn : L[i] = x) : isLW L x i (i : Int) := Or.inr ⟨i, hi, Nat.le_refl _, rfl, hn, fun j _ h1 h2 => absurd h1 (by omega)⟩
theorem isLW.erase {L : List Nat} {x : Nat} {z : Int} (h : isLW L x 0 z) : (z = -6 ∧ x ∉ L) ∨ ∃ (k : Nat) (h : k < L.length), z = (k : Int) ∧ x ∈ L ∧ L.erase x = L.eraseIdx k := by
  rcases h with ⟨h1, h2⟩ | ⟨k, h1, h2, h3, h4, h5⟩
  · refine Or.inl ⟨h1, fun hx => ?_⟩
    obtain ⟨j, hj, e⟩ := List.getElem_of_mem hx
    exact h2 j hj (Nat.zero_le _) e
  · exact Or.inr ⟨k, h1, h3, by rw [← h4]; exact List.getElem_mem h1, by rw [← erase_at h1 h4 (fun j hj hjk => h5 j hj (Nat.zero_le _) hjk), take1_drop h1]⟩
def isEL (c : Int) (L : List Nat) (n : Nat) (z : Int) : Prop := (c = 0 → isE L n z) ∧ (c ≠ 0 → isLt L n z)
theorem isEL.bd {c : Int} {L : List Nat} {n : Nat} {z : Int} (h : isEL c L n z) : -6 ≤ z ∧ z ≤ 15 := by
  by_cases q : c = 0
  · exact (h.1 q).bd
  · exact (h.2 q).bd
theorem isE.skip {L : List Nat} {n x : Nat} {z : Int} (h : isE L n z) (hx : x / 16 ≠ n) : isE (L ++ [x]) n z := by
  rcases h with ⟨h1, h2⟩ | ⟨y, h1, h2, h3, h4⟩
  · refine Or.inl ⟨h1, fun y hy => ?_⟩
    rcases List.mem_append.mp hy with q | q
    · exact h2 y q
    · rw [List.mem_singleton] at q; subst q; exact hx
  · refine Or.inr ⟨y, List.mem_append_left _ h1, h2, h3, fun w hw hwn => ?_⟩
    rcases List.mem_append.mp hw with q | q
    · exact h4 w q hwn
    · rw [List.mem_singleton] at q; subst q; exact absurd hwn hx
theorem isLt.skip {L : List Nat} {n x : Nat} {z : Int} (h : isLt L n z) (hx : x / 16 ≠ n) : isLt (L ++ [x]) n z := by
  rcases h with ⟨h1, h2⟩ | ⟨y, h1, h2, h3, h4⟩
  · refine Or.inl ⟨h1, fun y hy => ?_⟩
    rcases List.mem_append.mp hy with q | q
    · exact h2 y q
    · rw [List.mem_singleton] at q; subst q; exact hx
  · refine Or.inr ⟨y, List.mem_append_left _ h1, h2, h3, fun w hw hwn => ?_⟩
    rcases List.mem_append.mp hw with q | q
    · exact h4 w q hwn
    · rw [List.mem_singleton] at q; subst q; exact absurd hwn hx
theorem isE.put {L : List Nat} {n x : Nat} {z : Int} (h : isE L n z) (hx : x / 16 = n) : (z = -6 ∨ ((x % 16 : Nat) : Int) < z → isE (L ++ [x]) n ((x % 16 : Nat) : Int)) ∧ (z ≠ -6 → ¬ ((x % 16 : Nat) : Int) < z → isE (L ++ [x]) n z) := by
  have hm : x ∈ L ++ [x] := List.mem_append_right _ (List.mem_singleton.mpr rfl)
  constructor
  · intro hz
    refine Or.inr ⟨x, hm, hx, rfl, fun w hw hwn => ?_⟩
    rcases List.mem_append.mp hw with q | q
    · rcases h with ⟨h1, h2⟩ | ⟨y, h1, h2, h3, h4⟩
      · exact absurd hwn (h2 w q)
      · have := h4 w q hwn
        omega
    · rw [List.mem_singleton] at q; subst q; exact Nat.le_refl _
  · intro h0 hz
    rcases h with ⟨h1, h2⟩ | ⟨y, h1, h2, h3, h4⟩
    · exact absurd h1 h0
    · refine Or.inr ⟨y, List.mem_append_left _ h1, h2, h3, fun w hw hwn => ?_⟩
      rcases List.mem_append.mp hw with q | q
      · exact h4 w q hwn
      · rw [List.mem_singleton] at q; subst q; omega
theorem isLt.put {L : List Nat} {n x : Nat} {z : Int} (h : isLt L n z) (hx : x / 16 = n) : (z = -6 ∨ z < ((x % 16 : Nat) : Int) → isLt (L ++ [x]) n ((x % 16 : Nat) : Int)) ∧ (z ≠ -6 → ¬ z < ((x % 16 : Nat) : Int) → isLt (L ++ [x]) n z) := by
  have hm : x ∈ L ++ [x] := List.mem_append_right _ (List.mem_singleton.mpr rfl)
  constructor
  · intro hz
    refine Or.inr ⟨x, hm, hx, rfl, fun w hw hwn => ?_⟩
    rcases List.mem_append.mp hw with q | q
    · rcases h with ⟨h1, h2⟩ | ⟨y, h1, h2, h3, h4⟩
      · exact absurd hwn (h2 w q)
      · have := h4 w q hwn
        omega
    · rw [List.mem_singleton] at q; subst q; exact Nat.le_refl _
  · intro h0 hz
    rcases h with ⟨h1, h2⟩ | ⟨y, h1, h2, h3, h4⟩
    · exact absurd h1 h0
    · refine Or.inr ⟨y, List.mem_append_left _ h1, h2, h3, fun w hw hwn => ?_⟩
      rcases List.mem_append.mp hw with q | q
      · exact h4 w q hwn
      · rw [List.mem_singleton] at q; subst q; omega
theorem isEL.skip {c : Int} {L : List Nat} {n x : Nat} {z : Int} (h : isEL c L n z) (hx : x / 16 ≠ n) : isEL c (L ++ [x]) n z := ⟨fun q => (h.1 q).skip hx, fun q => (h.2 q).skip hx⟩
theorem isEL.new {c : Int} {L : List Nat} {n x : Nat} {z : Int} (h : isEL c L n z) (hx : x / 16 = n) (hz : z = -6 ∨ (c = 0 ∧ ((x % 16 : Nat) : Int) < z) ∨ (c ≠ 0 ∧ z < ((x % 16 : Nat) : Int))) : isEL c (L ++ [x]) n ((x % 16 : Nat) : Int) := ⟨fun q => ((h.1 q).put hx).1 (by omega), fun q => ((h.2 q).put hx).1 (by omega)⟩
theorem isEL.keep {c : Int} {L : List Nat} {n x : Nat} {z : Int} (h : isEL c L n z) (hx : x / 16 = n) (h0 : z ≠ -6) (hz : (c = 0 → ¬ ((x % 16 : Nat) : Int) < z) ∧ (c ≠ 0 → ¬ z < ((x % 16 : Nat) : Int))) : isEL c (L ++ [x]) n z := ⟨fun q => ((h.1 q).put hx).2 h0 (hz.1 q), fun q => ((h.2 q).put hx).2 h0 (hz.2 q)⟩
theorem cntI_take {L : List Nat} {t k : Nat} (h : k < L.length) : cntI (L.take (k + 1)) t = cntI (L.take k) t + if L[k] % 16 = t then 1 else 0 := by
  unfold cntI
  rw [cnt_take h]
  by_cases q : L[k] % 16 = t <;> simp [q]
theorem mk_succ (P : Nat → Bool) (m : Nat) : mk P (m + 1) = if P m then mk P m ||| 2 ^ m else mk P m := rfl
def tw (O : List Nat) (i j : Nat) : Prop := ∃ (a b : Nat) (ha : a < O.length) (hb : b < O.length), b < a ∧ (a < i ∨ (a = i ∧ b < j)) ∧ (O[a]'ha) % 100 = (O[b]'hb) % 100
theorem tw_row {O : List Nat} {i : Nat} : tw O i i ↔ tw O (i + 1) 0 := by
  constructor
  · rintro ⟨a, b, ha, hb, h1, h2, h3⟩; exact ⟨a, b, ha, hb, h1, by omega, h3⟩
  · rintro ⟨a, b, ha, hb, h1, h2, h3⟩; exact ⟨a, b, ha, hb, h1, by omega, h3⟩
theorem tw_step {O : List Nat} {i j : Nat} (hj : j < i) (hi : i < O.length) : tw O i (j + 1) ↔ tw O i j ∨ O[j]'(by omega) % 100 = O[i] % 100 := by
  constructor
  · rintro ⟨a, b, ha, hb, h1, h2, h3⟩
    by_cases q : a = i ∧ b = j
    · obtain ⟨rfl, rfl⟩ := q
      exact Or.inr h3.symm
    · exact Or.inl ⟨a, b, ha, hb, h1, by omega, h3⟩
  · rintro (⟨a, b, ha, hb, h1, h2, h3⟩ | h)
    · exact ⟨a, b, ha, hb, h1, by omega, h3⟩
    · exact ⟨i, j, hi, by omega, hj, by omega, h.symm⟩
theorem tw_all {O : List Nat} : tw O O.length 0 ↔ twice O := by
  constructor
  · rintro ⟨a, b, ha, hb, h1, h2, h3⟩; exact ⟨a, b, ha, hb, h1, h3⟩
  · rintro ⟨a, b, ha, hb, h1, h3⟩; exact ⟨a, b, ha, hb, h1, by omega, h3⟩
def rmX5_checkOf : Room := { frames := 2, cells := 0, slots := 0, locals := 44 }
set_option maxHeartbeats 4000000 in
set_option maxRecDepth 100000 in
theorem c_X5_checkOf (l : Launch) (D : va_G) (nH : Nat) (sk : Sk) (v : Mem) (m b : Nat) (bz : Int) (L : List Nat) (hM : Md D sk m) (hbz : bz = (b : Int)) (hb : b ≤ 8) (hL : LR (v (m + 1)) b L) : CtI l D yX5_checkOf wsX5_checkOf rmX5_checkOf [.ref m, .int (I bz)] nH sk v (fun z v' => z = ((chk L % 997 : Nat) : Int) ∧ v = v') := by
  refine ct_of (cc := cX5_checkOf) (maxL := 4) (ret := (some .int)) rfl rfl (Nat.le_of_ble_eq_true rfl) ?_
  intro p_ e_ s_ m_ args_ below_ meth_ c_ X hmn hsz
  obtain ⟨m0, m1, m2, m3, m4, m5, m6, m7, m8, m9, m10⟩ := id hM
  obtain ⟨hl0, h60, hlk, hll⟩ := id hL
  have hcl := chk_le (fun x hx => (hll x hx).2)
  refine j_iconst X dX5_checkOf_0 ?_
  refine j_istore_n X dX5_checkOf_1 rfl (Nat.le_of_ble_eq_true rfl) ?_
  refine j_iconst X dX5_checkOf_2 ?_
  refine j_istore_n X dX5_checkOf_3 rfl (Nat.le_of_ble_eq_true rfl) ?_
  refine j_loop (σ := Nat) (fun (k : Nat) => k ≤ L.length) (fun (k : Nat) => L.length - k) (fun (k : Nat) => (v, [some (.ref m), some (.int (I bz)), some (.int (I (chk (L.take k) : Int))), some (.int (I (k : Int)))])) ?_ 0 (by omega)
  intro k hx ih4
  dsimp only at hx ih4 ⊢
  obtain hk := hx
  refine j_iload_n X dX5_checkOf_4 rfl ?_
  refine j_aload_n X dX5_checkOf_5 rfl ?_
  refine j_iload_n X dX5_checkOf_6 rfl ?_
  refine j_iconst X dX5_checkOf_7 ?_
  refine j_callV (nn := 2) X dX5_checkOf_8 (c_X5_len l D nH sk v m b _ (L) hM (by omega) (by omega) hL) gX5_checkOf_X5_part rfl ⟨rfl, rfl⟩ (by decide +kernel) ⟨Nat.le_of_ble_eq_true rfl, Nat.le_of_ble_eq_true rfl⟩ (by assumption) ⟨rfl, rfl⟩ rfl rfl (Nat.le_of_ble_eq_true rfl) ⟨Nat.zero_le _, Nat.zero_le _⟩ (kI (fun z8 v8 h8 => ?_))
  obtain ⟨rfl, rfl⟩ := h8
  refine j_icmp_ge (tgt := 38) X dX5_checkOf_11 (by omega) (by decide) (fun c11 => ?_) (fun c11 => ?_)
  · have hkl : k = L.length := by omega
    rw [hkl, List.take_length]
    refine j_iload_n X dX5_checkOf_38 rfl ?_
    refine j_sipush X dX5_checkOf_39 (by decide) ?_
    refine j_irem X dX5_checkOf_42 (by omega) (by omega) ?_
    exact j_iret X dX5_checkOf_43 ⟨_, rfl, rfl, ⟨by omega, rfl⟩⟩
  · refine j_iload_n X dX5_checkOf_14 rfl ?_
    refine j_aload_n X dX5_checkOf_15 rfl ?_
    refine j_iload_n X dX5_checkOf_16 rfl ?_
    refine j_iload_n X dX5_checkOf_17 rfl ?_
    refine j_callV (nn := 2) X dX5_checkOf_18 (c_X5_numberOf l D nH sk v m b (k) _ _ (L) hM (by omega) (by omega) (by omega) hL (by omega)) gX5_checkOf_X5_numberOf rfl ⟨rfl, rfl⟩ (by decide +kernel) ⟨Nat.le_of_ble_eq_true rfl, Nat.le_of_ble_eq_true rfl⟩ (by assumption) ⟨rfl, rfl⟩ rfl rfl (Nat.le_of_ble_eq_true rfl) ⟨Nat.zero_le _, Nat.zero_le _⟩ (kI (fun z18 v18 h18 => ?_))
    obtain ⟨rfl, rfl⟩ := h18
    refine j_aload_n X dX5_checkOf_21 rfl ?_
    refine j_iload_n X dX5_checkOf_22 rfl ?_
    refine j_iload_n X dX5_checkOf_23 rfl ?_
    refine j_callV (nn := 2) X dX5_checkOf_24 (c_X5_issueOf l D nH sk v m b (k) _ _ (L) hM (by omega) (by omega) (by omega) hL (by omega)) gX5_checkOf_X5_issueOf rfl ⟨rfl, rfl⟩ (by decide +kernel) ⟨Nat.le_of_ble_eq_true rfl, Nat.le_of_ble_eq_true rfl⟩ (by assumption) ⟨rfl, rfl⟩ rfl rfl (Nat.le_of_ble_eq_true rfl) ⟨Nat.zero_le _, Nat.zero_le _⟩ (kI (fun z24 v24 h24 => ?_))
    obtain ⟨rfl, rfl⟩ := h24
    refine j_iconst X dX5_checkOf_27 ?_
    refine j_iadd X dX5_checkOf_28 ?_
    refine j_imul X dX5_checkOf_29 ?_
    refine j_iadd X dX5_checkOf_30 ?_
    refine j_istore_n X dX5_checkOf_31 rfl (Nat.le_of_ble_eq_true rfl) ?_
    refine j_iinc X dX5_checkOf_32 rfl rfl (Nat.le_of_ble_eq_true rfl) ?_
    refine j_goto (tgt := 4) X dX5_checkOf_35 (by decide) ?_
    have hct := chk_take (show k < L.length by omega)
    rw [show (chk (L.take k) : Int) + ((L[k]'(by omega) / 16 : Nat) : Int) * (((L[k]'(by omega) % 16 : Nat) : Int) + 1) = (chk (L.take (k + 1)) : Int) by rw [hct, Int.natCast_add, Int.natCast_mul, Int.natCast_add]; rfl]
    exact ih4 (k + 1) (by (try dsimp only); exact (by omega)) (by (try dsimp only); omega)
def rmX5_waits : Room := { frames := 1, cells := 0, slots := 0, locals := 22 }
set_option maxHeartbeats 4000000 in
set_option maxRecDepth 100000 in
theorem c_X5_waits (l : Launch) (D : va_G) (nH : Nat) (sk : Sk) (v : Mem) (m b q w : Nat) (bz qz : Int) (hM : Md D sk m) (hbz : bz = (b : Int)) (hqz : qz = (q : Int)) (hb : b ≤ 8) (hq : q < 16) (hw : v (m + 1) (147 + 63 * b) = (w : Int)) (hw2 : w < 65536) : CtI l D yX5_waits wsX5_waits rmX5_waits [.ref m, .int (I bz), .int (I qz)] nH sk v (fun z v' => (z = 0 ∨ z = 1) ∧ (z = 1 ↔ w.testBit q = true) ∧ v = v') := by
  refine ct_of (cc := cX5_waits) (maxL := 3) (ret := (some .boolean)) rfl rfl (Nat.le_of_ble_eq_true rfl) ?_
  intro p_ e_ s_ m_ args_ below_ meth_ c_ X hmn hsz
  obtain ⟨m0, m1, m2, m3, m4, m5, m6, m7, m8, m9, m10⟩ := id hM
  subst hqz
  have htb := tb_div w q
  refine j_aload_n X dX5_waits_0 rfl ?_
  refine j_iload_n X dX5_waits_1 rfl ?_
  refine j_iconst X dX5_waits_2 ?_
  refine j_callV (nn := 2) X dX5_waits_3 (c_X5_part l D nH sk v m b (1) _ _ hM (by omega) (by omega) (by omega) (by omega)) gX5_waits_X5_part rfl ⟨rfl, rfl⟩ (by decide +kernel) ⟨Nat.le_of_ble_eq_true rfl, Nat.le_of_ble_eq_true rfl⟩ (by assumption) ⟨rfl, rfl⟩ rfl rfl (Nat.le_of_ble_eq_true rfl) ⟨Nat.zero_le _, Nat.zero_le _⟩ (kI (fun z3 v3 h3 => ?_))
  obtain ⟨rfl, rfl⟩ := h3
  rw [show v (m + 1) (146 + 63 * b + (1)) = (w : Int) by rw [show 146 + 63 * b + 1 = 147 + 63 * b by omega]; exact hw]
  refine j_iload_n X dX5_waits_6 rfl ?_
  refine j_ishr X dX5_waits_7 (b_shr (by omega) (by omega)) ?_
  refine j_iconst X dX5_waits_8 ?_
  refine j_iand X dX5_waits_9 b_bit1 ?_
  refine j_iconst X dX5_waits_10 ?_
  refine j_icmp_ne (tgt := 18) X dX5_waits_11 (by omega) (by decide) (fun c11 => ?_) (fun c11 => ?_)
  · refine j_iconst X dX5_waits_18 ?_
    rw [htb]
    first
    | (have hret : ((1 : Int) = 0 ∨ (1 : Int) = 1) ∧ ((1 : Int) = 1 ↔ decide (w / 2 ^ q % 2 = 1) = true) ∧ v = v := ⟨Or.inr rfl, ⟨fun _ => by simp; omega, fun _ => rfl⟩, rfl⟩)
    | (have hret : ((0 : Int) = 0 ∨ (0 : Int) = 1) ∧ ((0 : Int) = 1 ↔ decide (w / 2 ^ q % 2 = 1) = true) ∧ v = v := ⟨Or.inl rfl, ⟨fun h => absurd h (by omega), fun h => by simp at h; omega⟩, rfl⟩)
    exact j_zret X dX5_waits_19 (by omega) ⟨_, rfl, rfl, hret⟩
  · refine j_iconst X dX5_waits_14 ?_
    refine j_goto (tgt := 19) X dX5_waits_15 (by decide) ?_
    rw [htb]
    first
    | (have hret : ((1 : Int) = 0 ∨ (1 : Int) = 1) ∧ ((1 : Int) = 1 ↔ decide (w / 2 ^ q % 2 = 1) = true) ∧ v = v := ⟨Or.inr rfl, ⟨fun _ => by simp; omega, fun _ => rfl⟩, rfl⟩)
    | (have hret : ((0 : Int) = 0 ∨ (0 : Int) = 1) ∧ ((0 : Int) = 1 ↔ decide (w / 2 ^ q % 2 = 1) = true) ∧ v = v := ⟨Or.inl rfl, ⟨fun h => absurd h (by omega), fun h => by simp at h; omega⟩, rfl⟩)
    exact j_zret X dX5_waits_19 (by omega) ⟨_, rfl, rfl, hret⟩
def rmX5_leafWith : Room := { frames := 2, cells := 0, slots := 0, locals := 44 }
set_option maxHeartbeats 4000000 in
set_option maxRecDepth 100000 in
theorem c_X5_leafWith (l : Launch) (D : va_G) (nH : Nat) (sk : Sk) (v : Mem) (m b n q : Nat) (bz nz qz : Int) (L : List Nat) (hM : Md D sk m) (hbz : bz = (b : Int)) (hb : b ≤ 8) (hL : LR (v (m + 1)) b L) (hnz : nz = (n : Int)) (hqz : qz = (q : Int)) (hn : n < 200) (hq : q < 16) : CtI l D yX5_leafWith wsX5_leafWith rmX5_leafWith [.ref m, .int (I bz), .int (I nz), .int (I qz)] nH sk v (fun z v' => isLW L (n * 16 + q) 0 z ∧ v = v') := by
  refine ct_of (cc := cX5_leafWith) (maxL := 6) (ret := (some .int)) rfl rfl (Nat.le_of_ble_eq_true rfl) ?_
  intro p_ e_ s_ m_ args_ below_ meth_ c_ X hmn hsz
  obtain ⟨m0, m1, m2, m3, m4, m5, m6, m7, m8, m9, m10⟩ := id hM
  obtain ⟨hl0, h60, hlk, hll⟩ := id hL
  have hlt_ : ∀ {k : Nat} (h : k < L.length), L[k] < 1600 := fun h => (hL.lt h).2
  refine j_bipush X dX5_leafWith_0 (by decide) ?_
  refine j_istore X dX5_leafWith_2 rfl (Nat.le_of_ble_eq_true rfl) ?_
  refine j_aload_n X dX5_leafWith_4 rfl ?_
  refine j_iload_n X dX5_leafWith_5 rfl ?_
  refine j_iconst X dX5_leafWith_6 ?_
  refine j_callV (nn := 2) X dX5_leafWith_7 (c_X5_len l D nH sk v m b _ (L) hM (by omega) (by omega) hL) gX5_leafWith_X5_part rfl ⟨rfl, rfl⟩ (by decide +kernel) ⟨Nat.le_of_ble_eq_true rfl, Nat.le_of_ble_eq_true rfl⟩ (by assumption) ⟨rfl, rfl⟩ rfl rfl (Nat.le_of_ble_eq_true rfl) ⟨Nat.zero_le _, Nat.zero_le _⟩ (kI (fun z7 v7 h7 => ?_))
  obtain ⟨rfl, rfl⟩ := h7
  refine j_iconst X dX5_leafWith_10 ?_
  refine j_isub X dX5_leafWith_11 ?_
  refine j_istore X dX5_leafWith_12 rfl (Nat.le_of_ble_eq_true rfl) ?_
  refine j_loop (σ := Nat × Int) (fun (y_ : Nat × Int) => match y_ with | (i, z) => i ≤ L.length ∧ isLW L (n * 16 + q) i z) (fun (y_ : Nat × Int) => match y_ with | (i, z) => i) (fun (y_ : Nat × Int) => match y_ with | (i, z) => (v, [some (.ref m), some (.int (I bz)), some (.int (I nz)), some (.int (I qz)), some (.int (I z)), some (.int (I ((i : Int) - 1)))])) ?_ (L.length, -6) ⟨Nat.le_refl _, Or.inl ⟨rfl, fun j h1 h2 => absurd h1 (by omega)⟩⟩
  intro y_ hx ih14
  obtain ⟨i, z⟩ := y_
  dsimp only at hx ih14 ⊢
  obtain ⟨hi, hz⟩ := hx
  refine j_iload X dX5_leafWith_14 rfl ?_
  refine j_if_lt (tgt := 56) X dX5_leafWith_16 (by omega) (by decide) (fun c16 => ?_) (fun c16 => ?_)
  · refine j_iload X dX5_leafWith_56 rfl ?_
    exact j_iret X dX5_leafWith_58 ⟨_, rfl, rfl, ⟨by rw [show 0 = i by omega]; exact hz, rfl⟩⟩
  · obtain ⟨k, rfl⟩ : ∃ k : Nat, i = k + 1 := ⟨i - 1, by omega⟩
    rw [show ((k + 1 : Nat) : Int) - 1 = (k : Int) by omega]
    have hkl := hlt_ (show k < L.length by omega)
    refine j_aload_n X dX5_leafWith_19 rfl ?_
    refine j_iload_n X dX5_leafWith_20 rfl ?_
    refine j_iload X dX5_leafWith_21 rfl ?_
    refine j_callV (nn := 2) X dX5_leafWith_23 (c_X5_numberOf l D nH sk v m b (k) _ _ (L) hM (by omega) (by omega) (by omega) hL (by omega)) gX5_leafWith_X5_numberOf rfl ⟨rfl, rfl⟩ (by decide +kernel) ⟨Nat.le_of_ble_eq_true rfl, Nat.le_of_ble_eq_true rfl⟩ (by assumption) ⟨rfl, rfl⟩ rfl rfl (Nat.le_of_ble_eq_true rfl) ⟨Nat.zero_le _, Nat.zero_le _⟩ (kI (fun z23 v23 h23 => ?_))
    obtain ⟨rfl, rfl⟩ := h23
    refine j_iload_n X dX5_leafWith_26 rfl ?_
    refine j_icmp_ne (tgt := 46) X dX5_leafWith_27 (by omega) (by decide) (fun c27 => ?_) (fun c27 => ?_)
    · have hnx := hz.skip (by omega) (show L[k]'(by omega) ≠ n * 16 + q by omega)
      refine j_iload X dX5_leafWith_46 rfl ?_
      refine j_istore X dX5_leafWith_48 rfl (Nat.le_of_ble_eq_true rfl) ?_
      refine j_iinc X dX5_leafWith_50 rfl rfl (Nat.le_of_ble_eq_true rfl) ?_
      refine j_goto (tgt := 14) X dX5_leafWith_53 (by decide) ?_
      rw [show (k : Int) + -1 = (k : Int) - 1 by omega]
      exact ih14 (k, _) (by (try dsimp only); exact ⟨by omega, hnx⟩) (by (try dsimp only); omega)
    · refine j_aload_n X dX5_leafWith_30 rfl ?_
      refine j_iload_n X dX5_leafWith_31 rfl ?_
      refine j_iload X dX5_leafWith_32 rfl ?_
      refine j_callV (nn := 2) X dX5_leafWith_34 (c_X5_issueOf l D nH sk v m b (k) _ _ (L) hM (by omega) (by omega) (by omega) hL (by omega)) gX5_leafWith_X5_issueOf rfl ⟨rfl, rfl⟩ (by decide +kernel) ⟨Nat.le_of_ble_eq_true rfl, Nat.le_of_ble_eq_true rfl⟩ (by assumption) ⟨rfl, rfl⟩ rfl rfl (Nat.le_of_ble_eq_true rfl) ⟨Nat.zero_le _, Nat.zero_le _⟩ (kI (fun z34 v34 h34 => ?_))
      obtain ⟨rfl, rfl⟩ := h34
      refine j_iload_n X dX5_leafWith_37 rfl ?_
      refine j_icmp_ne (tgt := 46) X dX5_leafWith_38 (by omega) (by decide) (fun c38 => ?_) (fun c38 => ?_)
      · have hnx := hz.skip (by omega) (show L[k]'(by omega) ≠ n * 16 + q by omega)
        refine j_iload X dX5_leafWith_46 rfl ?_
        refine j_istore X dX5_leafWith_48 rfl (Nat.le_of_ble_eq_true rfl) ?_
        refine j_iinc X dX5_leafWith_50 rfl rfl (Nat.le_of_ble_eq_true rfl) ?_
        refine j_goto (tgt := 14) X dX5_leafWith_53 (by decide) ?_
        rw [show (k : Int) + -1 = (k : Int) - 1 by omega]
        exact ih14 (k, _) (by (try dsimp only); exact ⟨by omega, hnx⟩) (by (try dsimp only); omega)
      · have hnx := isLW.new (x := n * 16 + q) (show k < L.length by omega) (by omega)
        refine j_iload X dX5_leafWith_41 rfl ?_
        refine j_goto (tgt := 48) X dX5_leafWith_43 (by decide) ?_
        refine j_istore X dX5_leafWith_48 rfl (Nat.le_of_ble_eq_true rfl) ?_
        refine j_iinc X dX5_leafWith_50 rfl rfl (Nat.le_of_ble_eq_true rfl) ?_
        refine j_goto (tgt := 14) X dX5_leafWith_53 (by decide) ?_
        rw [show (k : Int) + -1 = (k : Int) - 1 by omega]
        exact ih14 (k, _) (by (try dsimp only); exact ⟨by omega, hnx⟩) (by (try dsimp only); omega)
def rmX5_isNumber : Room := { frames := 1, cells := 0, slots := 0, locals := 22 }
set_option maxHeartbeats 4000000 in
set_option maxRecDepth 100000 in
theorem c_X5_isNumber (l : Launch) (D : va_G) (nH : Nat) (sk : Sk) (v : Mem) (n : Int) (hn : -2147483648 ≤ n ∧ n ≤ 2147483647) : CtI l D yX5_isNumber wsX5_isNumber rmX5_isNumber [.int (I n)] nH sk v (fun z v' => (z = 0 ∨ z = 1) ∧ (z = 1 ↔ 10 ≤ n ∧ n ≤ 99) ∧ v = v') := by
  refine ct_of (cc := cX5_isNumber) (maxL := 1) (ret := (some .boolean)) rfl rfl (Nat.le_of_ble_eq_true rfl) ?_
  intro p_ e_ s_ m_ args_ below_ meth_ c_ X hmn hsz
  refine j_iload_n X dX5_isNumber_0 rfl ?_
  refine j_bipush X dX5_isNumber_1 (by decide) ?_
  refine j_bipush X dX5_isNumber_3 (by decide) ?_
  refine j_callS (nn := 3) X dX5_isNumber_5 (c_X5_within l D nH sk v n 10 99 hn (by omega) (by omega)) gX5_isNumber_X5_within rfl ⟨rfl, rfl⟩ (by decide +kernel) ⟨Nat.le_of_ble_eq_true rfl, Nat.le_of_ble_eq_true rfl⟩ rfl rfl (Nat.le_of_ble_eq_true rfl) ⟨Nat.zero_le _, Nat.zero_le _⟩ (kI (fun z5 v5 h5 => ?_))
  obtain ⟨h5a, h5b, rfl⟩ := h5
  exact j_zret X dX5_isNumber_8 (by omega) ⟨_, rfl, rfl, ⟨h5a, h5b, rfl⟩⟩
def rmX5_ownersWith : Room := { frames := 1, cells := 0, slots := 0, locals := 22 }
set_option maxHeartbeats 4000000 in
set_option maxRecDepth 100000 in
theorem c_X5_ownersWith (l : Launch) (D : va_G) (nH : Nat) (sk : Sk) (v : Mem) (m q k N : Nat) (qz kz : Int) (f : Nat → Nat) (hM : Md D sk m) (hqz : qz = (q : Int)) (hkz : kz = (k : Int)) (hq : q < 16) (hk : k < 3) (hN : v (m + 1) 1 = (N : Int)) (hN8 : N ≤ 8) (hF : ∀ i, i < N → v (m + 1) (146 + 63 * i + k) = (f i : Int) ∧ f i < 65536) : CtI l D yX5_ownersWith wsX5_ownersWith rmX5_ownersWith [.ref m, .int (I qz), .int (I kz)] nH sk v (fun z v' => z = (mk (fun i => (f i).testBit q) N : Int) ∧ v = v') := by
  refine ct_of (cc := cX5_ownersWith) (maxL := 5) (ret := (some .int)) rfl rfl (Nat.le_of_ble_eq_true rfl) ?_
  intro p_ e_ s_ m_ args_ below_ meth_ c_ X hmn hsz
  have hinX5 : ∀ w ∈ wsX50, w ∈ wsX5_ownersWith := by decide +kernel
  obtain ⟨m0, m1, m2, m3, m4, m5, m6, m7, m8, m9, m10⟩ := id hM
  subst hqz
  refine j_iconst X dX5_ownersWith_0 ?_
  refine j_istore_n X dX5_ownersWith_1 rfl (Nat.le_of_ble_eq_true rfl) ?_
  refine j_iconst X dX5_ownersWith_2 ?_
  refine j_istore X dX5_ownersWith_3 rfl (Nat.le_of_ble_eq_true rfl) ?_
  refine j_loop (σ := Nat) (fun (i : Nat) => i ≤ N) (fun (i : Nat) => N - i) (fun (i : Nat) => (v, [some (.ref m), some (.int (I (q : Int))), some (.int (I kz)), some (.int (I (mk (fun i => (f i).testBit q) i : Int))), some (.int (I (i : Int)))])) ?_ 0 (by omega)
  intro i hx ih5
  dsimp only at hx ih5 ⊢
  obtain hi := hx
  refine j_iload X dX5_ownersWith_5 rfl ?_
  refine j_aload_n X dX5_ownersWith_7 rfl ?_
  refine j_getr X dX5_ownersWith_8 (T := TX5) (N := 13) (C := RX5) hinX5 rfl (by assumption) 0 (by decide) (by decide +kernel) rfl ?_
  refine j_iconst X dX5_ownersWith_11 ?_
  refine j_ialN X dX5_ownersWith_12 (by assumption) (1) (by omega) (by omega) (by decide) ?_
  rw [hN]
  refine j_icmp_ge (tgt := 48) X dX5_ownersWith_13 (by omega) (by decide) (fun c13 => ?_) (fun c13 => ?_)
  · refine j_iload_n X dX5_ownersWith_48 rfl ?_
    exact j_iret X dX5_ownersWith_49 ⟨_, rfl, rfl, ⟨by rw [show i = N by omega], rfl⟩⟩
  · obtain ⟨hf1, hf2⟩ := hF i (by omega)
    have htb := tb_div (f i) q
    have hms := mk_succ (fun i => (f i).testBit q) i
    refine j_iload_n X dX5_ownersWith_16 rfl ?_
    refine j_aload_n X dX5_ownersWith_17 rfl ?_
    refine j_iload X dX5_ownersWith_18 rfl ?_
    refine j_iload_n X dX5_ownersWith_20 rfl ?_
    refine j_callV (nn := 2) X dX5_ownersWith_21 (c_X5_part l D nH sk v m i (k) _ _ hM (by omega) (by omega) (by omega) (by omega)) gX5_ownersWith_X5_part rfl ⟨rfl, rfl⟩ (by decide +kernel) ⟨Nat.le_of_ble_eq_true rfl, Nat.le_of_ble_eq_true rfl⟩ (by assumption) ⟨rfl, rfl⟩ rfl rfl (Nat.le_of_ble_eq_true rfl) ⟨Nat.zero_le _, Nat.zero_le _⟩ (kI (fun z21 v21 h21 => ?_))
    obtain ⟨rfl, rfl⟩ := h21
    rw [show v (m + 1) (146 + 63 * i + (k)) = (f i : Int) from hf1]
    refine j_iload_n X dX5_ownersWith_24 rfl ?_
    refine j_ishr X dX5_ownersWith_25 (b_shr (by omega) (by omega)) ?_
    refine j_iconst X dX5_ownersWith_26 ?_
    refine j_iand X dX5_ownersWith_27 b_bit1 ?_
    refine j_iconst X dX5_ownersWith_28 ?_
    refine j_icmp_ne (tgt := 39) X dX5_ownersWith_29 (by omega) (by decide) (fun c29 => ?_) (fun c29 => ?_)
    · refine j_iconst X dX5_ownersWith_39 ?_
      try refine j_topr (y := I ((0 : Nat) : Int)) rfl ?_
      refine j_ior X dX5_ownersWith_40 (b_or _ _) ?_
      refine j_istore_n X dX5_ownersWith_41 rfl (Nat.le_of_ble_eq_true rfl) ?_
      refine j_iinc X dX5_ownersWith_42 rfl rfl (Nat.le_of_ble_eq_true rfl) ?_
      refine j_goto (tgt := 5) X dX5_ownersWith_45 (by decide) ?_
      first
      | rw [show mk (fun i => (f i).testBit q) i ||| 2 ^ i = mk (fun i => (f i).testBit q) (i + 1) by rw [hms, if_pos (by simp only [htb]; simp; omega)]]
      | rw [show mk (fun i => (f i).testBit q) i ||| 0 = mk (fun i => (f i).testBit q) (i + 1) by rw [hms, if_neg (by simp only [htb]; simp; omega), Nat.or_zero]]
      exact ih5 (i + 1) (by (try dsimp only); exact (by omega)) (by (try dsimp only); omega)
    · refine j_iconst X dX5_ownersWith_32 ?_
      refine j_iload X dX5_ownersWith_33 rfl ?_
      refine j_ishl X dX5_ownersWith_35 (b_shl (by omega)) ?_
      refine j_goto (tgt := 40) X dX5_ownersWith_36 (by decide) ?_
      try refine j_topr (y := I ((0 : Nat) : Int)) rfl ?_
      refine j_ior X dX5_ownersWith_40 (b_or _ _) ?_
      refine j_istore_n X dX5_ownersWith_41 rfl (Nat.le_of_ble_eq_true rfl) ?_
      refine j_iinc X dX5_ownersWith_42 rfl rfl (Nat.le_of_ble_eq_true rfl) ?_
      refine j_goto (tgt := 5) X dX5_ownersWith_45 (by decide) ?_
      first
      | rw [show mk (fun i => (f i).testBit q) i ||| 2 ^ i = mk (fun i => (f i).testBit q) (i + 1) by rw [hms, if_pos (by simp only [htb]; simp; omega)]]
      | rw [show mk (fun i => (f i).testBit q) i ||| 0 = mk (fun i => (f i).testBit q) (i + 1) by rw [hms, if_neg (by simp only [htb]; simp; omega), Nat.or_zero]]
      exact ih5 (i + 1) (by (try dsimp only); exact (by omega)) (by (try dsimp only); omega)
def rmX5_issueIn : Room := { frames := 2, cells := 0, slots := 0, locals := 44 }
set_option maxHeartbeats 4000000 in
set_option maxRecDepth 100000 in
theorem c_X5_issueIn (l : Launch) (D : va_G) (nH : Nat) (sk : Sk) (v : Mem) (m b n : Nat) (bz nz c : Int) (L : List Nat) (hM : Md D sk m) (hbz : bz = (b : Int)) (hb : b ≤ 8) (hL : LR (v (m + 1)) b L) (hnz : nz = (n : Int)) (hn : n < 200) (hc : c = 0 ∨ c = 1) : CtI l D yX5_issueIn wsX5_issueIn rmX5_issueIn [.ref m, .int (I bz), .int (I nz), .int (I c)] nH sk v (fun z v' => isEL c L n z ∧ v = v') := by
  refine ct_of (cc := cX5_issueIn) (maxL := 8) (ret := (some .int)) rfl rfl (Nat.le_of_ble_eq_true rfl) ?_
  intro p_ e_ s_ m_ args_ below_ meth_ c_ X hmn hsz
  obtain ⟨m0, m1, m2, m3, m4, m5, m6, m7, m8, m9, m10⟩ := id hM
  obtain ⟨hl0, h60, hlk, hll⟩ := id hL
  have hlt_ : ∀ {k : Nat} (h : k < L.length), L[k] < 1600 := fun h => (hL.lt h).2
  refine j_bipush X dX5_issueIn_0 (by decide) ?_
  refine j_istore X dX5_issueIn_2 rfl (Nat.le_of_ble_eq_true rfl) ?_
  refine j_iconst X dX5_issueIn_4 ?_
  refine j_istore X dX5_issueIn_5 rfl (Nat.le_of_ble_eq_true rfl) ?_
  refine j_loop (σ := Nat × Int) (fun (y_ : Nat × Int) => match y_ with | (k, z) => k ≤ L.length ∧ isEL c (L.take k) n z) (fun (y_ : Nat × Int) => match y_ with | (k, z) => L.length - k) (fun (y_ : Nat × Int) => match y_ with | (k, z) => (v, [some (.ref m), some (.int (I bz)), some (.int (I nz)), some (.int (I c)), some (.int (I z)), some (.int (I (k : Int))), none, none])) ?_ (0, -6) ⟨Nat.zero_le _, fun _ => Or.inl ⟨rfl, fun x hx => by simp at hx⟩, fun _ => Or.inl ⟨rfl, fun x hx => by simp at hx⟩⟩
  intro y_ hx ih7
  obtain ⟨k, z⟩ := y_
  dsimp only at hx ih7 ⊢
  obtain ⟨hk, hz⟩ := hx
  refine j_iload X dX5_issueIn_7 rfl ?_
  refine j_aload_n X dX5_issueIn_9 rfl ?_
  refine j_iload_n X dX5_issueIn_10 rfl ?_
  refine j_iconst X dX5_issueIn_11 ?_
  refine j_callV (nn := 2) X dX5_issueIn_12 (c_X5_len l D nH sk v m b _ (L) hM (by omega) (by omega) hL) gX5_issueIn_X5_part rfl ⟨rfl, rfl⟩ (by decide +kernel) ⟨Nat.le_of_ble_eq_true rfl, Nat.le_of_ble_eq_true rfl⟩ (by assumption) ⟨rfl, rfl⟩ rfl rfl (Nat.le_of_ble_eq_true rfl) ⟨Nat.zero_le _, Nat.zero_le _⟩ (kI (fun z12 v12 h12 => ?_))
  obtain ⟨rfl, rfl⟩ := h12
  refine j_icmp_ge (tgt := 93) X dX5_issueIn_15 (by omega) (by decide) (fun c15 => ?_) (fun c15 => ?_)
  · refine j_iload X dX5_issueIn_93 rfl ?_
    exact j_iret X dX5_issueIn_95 ⟨_, rfl, rfl, ⟨by have e : k = L.length := (by omega); rw [e, List.take_length] at hz; exact hz, rfl⟩⟩
  · refine j_aload_n X dX5_issueIn_18 rfl ?_
    refine j_iload_n X dX5_issueIn_19 rfl ?_
    refine j_iload X dX5_issueIn_20 rfl ?_
    have hk2 : k < L.length := by omega
    have hlk2 := hlt_ hk2
    have hzb := hz.bd
    have hts := List.take_succ_eq_append_getElem hk2
    refine j_callV (nn := 2) X dX5_issueIn_22 (c_X5_issueOf l D nH sk v m b (k) _ _ (L) hM (by omega) (by omega) (by omega) hL (by omega)) gX5_issueIn_X5_issueOf rfl ⟨rfl, rfl⟩ (by decide +kernel) ⟨Nat.le_of_ble_eq_true rfl, Nat.le_of_ble_eq_true rfl⟩ (by assumption) ⟨rfl, rfl⟩ rfl rfl (Nat.le_of_ble_eq_true rfl) ⟨Nat.zero_le _, Nat.zero_le _⟩ (kI (fun z22 v22 h22 => ?_))
    obtain ⟨rfl, rfl⟩ := h22
    refine j_istore X dX5_issueIn_25 rfl (Nat.le_of_ble_eq_true rfl) ?_
    refine j_aload_n X dX5_issueIn_27 rfl ?_
    refine j_iload_n X dX5_issueIn_28 rfl ?_
    refine j_iload X dX5_issueIn_29 rfl ?_
    refine j_callV (nn := 2) X dX5_issueIn_31 (c_X5_numberOf l D nH sk v m b (k) _ _ (L) hM (by omega) (by omega) (by omega) hL (by omega)) gX5_issueIn_X5_numberOf rfl ⟨rfl, rfl⟩ (by decide +kernel) ⟨Nat.le_of_ble_eq_true rfl, Nat.le_of_ble_eq_true rfl⟩ (by assumption) ⟨rfl, rfl⟩ rfl rfl (Nat.le_of_ble_eq_true rfl) ⟨Nat.zero_le _, Nat.zero_le _⟩ (kI (fun z31 v31 h31 => ?_))
    obtain ⟨rfl, rfl⟩ := h31
    refine j_iload_n X dX5_issueIn_34 rfl ?_
    refine j_icmp_ne (tgt := 70) X dX5_issueIn_35 (by omega) (by decide) (fun c35 => ?_) (fun c35 => ?_)
    · refine j_iconst X dX5_issueIn_70 ?_
      refine j_istore X dX5_issueIn_71 rfl (Nat.le_of_ble_eq_true rfl) ?_
      refine j_iload X dX5_issueIn_73 rfl ?_
      refine j_if_eq (tgt := 83) X dX5_issueIn_75 (by omega) (by decide) (fun c75 => ?_) (fun c75 => ?_)
      · refine j_iload X dX5_issueIn_83 rfl ?_
        refine j_istore X dX5_issueIn_85 rfl (Nat.le_of_ble_eq_true rfl) ?_
        first
        | (have hnx : isEL c (L.take (k + 1)) n ((L[k] % 16 : Nat) : Int) := by rw [hts]; exact hz.new (by omega) (by omega))
        | (have hnx : isEL c (L.take (k + 1)) n z := by rw [hts]; exact hz.skip (by omega))
        | (have hnx : isEL c (L.take (k + 1)) n z := by rw [hts]; exact hz.keep (by omega) (by omega) ⟨by omega, by omega⟩)
        refine j_iinc X dX5_issueIn_87 rfl rfl (Nat.le_of_ble_eq_true rfl) ?_
        refine j_goto (tgt := 7) X dX5_issueIn_90 (by decide) ?_
        refine j_drop 6 ?_
        refine j_drop 7 ?_
        exact ih7 (k + 1, _) (by (try dsimp only); exact ⟨by omega, hnx⟩) (by (try dsimp only); omega)
      · exfalso; omega
    · refine j_iload X dX5_issueIn_38 rfl ?_
      refine j_bipush X dX5_issueIn_40 (by decide) ?_
      refine j_icmp_eq (tgt := 66) X dX5_issueIn_42 (by omega) (by decide) (fun c42 => ?_) (fun c42 => ?_)
      · refine j_iconst X dX5_issueIn_66 ?_
        refine j_goto (tgt := 71) X dX5_issueIn_67 (by decide) ?_
        refine j_istore X dX5_issueIn_71 rfl (Nat.le_of_ble_eq_true rfl) ?_
        refine j_iload X dX5_issueIn_73 rfl ?_
        refine j_if_eq (tgt := 83) X dX5_issueIn_75 (by omega) (by decide) (fun c75 => ?_) (fun c75 => ?_)
        · exfalso; omega
        · refine j_iload X dX5_issueIn_78 rfl ?_
          refine j_goto (tgt := 85) X dX5_issueIn_80 (by decide) ?_
          refine j_istore X dX5_issueIn_85 rfl (Nat.le_of_ble_eq_true rfl) ?_
          first
          | (have hnx : isEL c (L.take (k + 1)) n ((L[k] % 16 : Nat) : Int) := by rw [hts]; exact hz.new (by omega) (by omega))
          | (have hnx : isEL c (L.take (k + 1)) n z := by rw [hts]; exact hz.skip (by omega))
          | (have hnx : isEL c (L.take (k + 1)) n z := by rw [hts]; exact hz.keep (by omega) (by omega) ⟨by omega, by omega⟩)
          refine j_iinc X dX5_issueIn_87 rfl rfl (Nat.le_of_ble_eq_true rfl) ?_
          refine j_goto (tgt := 7) X dX5_issueIn_90 (by decide) ?_
          refine j_drop 6 ?_
          refine j_drop 7 ?_
          exact ih7 (k + 1, _) (by (try dsimp only); exact ⟨by omega, hnx⟩) (by (try dsimp only); omega)
      · refine j_iload_n X dX5_issueIn_45 rfl ?_
        refine j_if_eq (tgt := 59) X dX5_issueIn_46 (by omega) (by decide) (fun c46 => ?_) (fun c46 => ?_)
        · refine j_iload X dX5_issueIn_59 rfl ?_
          refine j_iload X dX5_issueIn_61 rfl ?_
          refine j_icmp_ge (tgt := 70) X dX5_issueIn_63 (by omega) (by decide) (fun c63 => ?_) (fun c63 => ?_)
          · refine j_iconst X dX5_issueIn_70 ?_
            refine j_istore X dX5_issueIn_71 rfl (Nat.le_of_ble_eq_true rfl) ?_
            refine j_iload X dX5_issueIn_73 rfl ?_
            refine j_if_eq (tgt := 83) X dX5_issueIn_75 (by omega) (by decide) (fun c75 => ?_) (fun c75 => ?_)
            · refine j_iload X dX5_issueIn_83 rfl ?_
              refine j_istore X dX5_issueIn_85 rfl (Nat.le_of_ble_eq_true rfl) ?_
              first
              | (have hnx : isEL c (L.take (k + 1)) n ((L[k] % 16 : Nat) : Int) := by rw [hts]; exact hz.new (by omega) (by omega))
              | (have hnx : isEL c (L.take (k + 1)) n z := by rw [hts]; exact hz.skip (by omega))
              | (have hnx : isEL c (L.take (k + 1)) n z := by rw [hts]; exact hz.keep (by omega) (by omega) ⟨by omega, by omega⟩)
              refine j_iinc X dX5_issueIn_87 rfl rfl (Nat.le_of_ble_eq_true rfl) ?_
              refine j_goto (tgt := 7) X dX5_issueIn_90 (by decide) ?_
              refine j_drop 6 ?_
              refine j_drop 7 ?_
              exact ih7 (k + 1, _) (by (try dsimp only); exact ⟨by omega, hnx⟩) (by (try dsimp only); omega)
            · exfalso; omega
          · refine j_iconst X dX5_issueIn_66 ?_
            refine j_goto (tgt := 71) X dX5_issueIn_67 (by decide) ?_
            refine j_istore X dX5_issueIn_71 rfl (Nat.le_of_ble_eq_true rfl) ?_
            refine j_iload X dX5_issueIn_73 rfl ?_
            refine j_if_eq (tgt := 83) X dX5_issueIn_75 (by omega) (by decide) (fun c75 => ?_) (fun c75 => ?_)
            · exfalso; omega
            · refine j_iload X dX5_issueIn_78 rfl ?_
              refine j_goto (tgt := 85) X dX5_issueIn_80 (by decide) ?_
              refine j_istore X dX5_issueIn_85 rfl (Nat.le_of_ble_eq_true rfl) ?_
              first
              | (have hnx : isEL c (L.take (k + 1)) n ((L[k] % 16 : Nat) : Int) := by rw [hts]; exact hz.new (by omega) (by omega))
              | (have hnx : isEL c (L.take (k + 1)) n z := by rw [hts]; exact hz.skip (by omega))
              | (have hnx : isEL c (L.take (k + 1)) n z := by rw [hts]; exact hz.keep (by omega) (by omega) ⟨by omega, by omega⟩)
              refine j_iinc X dX5_issueIn_87 rfl rfl (Nat.le_of_ble_eq_true rfl) ?_
              refine j_goto (tgt := 7) X dX5_issueIn_90 (by decide) ?_
              refine j_drop 6 ?_
              refine j_drop 7 ?_
              exact ih7 (k + 1, _) (by (try dsimp only); exact ⟨by omega, hnx⟩) (by (try dsimp only); omega)
        · refine j_iload X dX5_issueIn_49 rfl ?_
          refine j_iload X dX5_issueIn_51 rfl ?_
          refine j_icmp_le (tgt := 70) X dX5_issueIn_53 (by omega) (by decide) (fun c53 => ?_) (fun c53 => ?_)
          · refine j_iconst X dX5_issueIn_70 ?_
            refine j_istore X dX5_issueIn_71 rfl (Nat.le_of_ble_eq_true rfl) ?_
            refine j_iload X dX5_issueIn_73 rfl ?_
            refine j_if_eq (tgt := 83) X dX5_issueIn_75 (by omega) (by decide) (fun c75 => ?_) (fun c75 => ?_)
            · refine j_iload X dX5_issueIn_83 rfl ?_
              refine j_istore X dX5_issueIn_85 rfl (Nat.le_of_ble_eq_true rfl) ?_
              first
              | (have hnx : isEL c (L.take (k + 1)) n ((L[k] % 16 : Nat) : Int) := by rw [hts]; exact hz.new (by omega) (by omega))
              | (have hnx : isEL c (L.take (k + 1)) n z := by rw [hts]; exact hz.skip (by omega))
              | (have hnx : isEL c (L.take (k + 1)) n z := by rw [hts]; exact hz.keep (by omega) (by omega) ⟨by omega, by omega⟩)
              refine j_iinc X dX5_issueIn_87 rfl rfl (Nat.le_of_ble_eq_true rfl) ?_
              refine j_goto (tgt := 7) X dX5_issueIn_90 (by decide) ?_
              refine j_drop 6 ?_
              refine j_drop 7 ?_
              exact ih7 (k + 1, _) (by (try dsimp only); exact ⟨by omega, hnx⟩) (by (try dsimp only); omega)
            · exfalso; omega
          · refine j_goto (tgt := 66) X dX5_issueIn_56 (by decide) ?_
            refine j_iconst X dX5_issueIn_66 ?_
            refine j_goto (tgt := 71) X dX5_issueIn_67 (by decide) ?_
            refine j_istore X dX5_issueIn_71 rfl (Nat.le_of_ble_eq_true rfl) ?_
            refine j_iload X dX5_issueIn_73 rfl ?_
            refine j_if_eq (tgt := 83) X dX5_issueIn_75 (by omega) (by decide) (fun c75 => ?_) (fun c75 => ?_)
            · exfalso; omega
            · refine j_iload X dX5_issueIn_78 rfl ?_
              refine j_goto (tgt := 85) X dX5_issueIn_80 (by decide) ?_
              refine j_istore X dX5_issueIn_85 rfl (Nat.le_of_ble_eq_true rfl) ?_
              first
              | (have hnx : isEL c (L.take (k + 1)) n ((L[k] % 16 : Nat) : Int) := by rw [hts]; exact hz.new (by omega) (by omega))
              | (have hnx : isEL c (L.take (k + 1)) n z := by rw [hts]; exact hz.skip (by omega))
              | (have hnx : isEL c (L.take (k + 1)) n z := by rw [hts]; exact hz.keep (by omega) (by omega) ⟨by omega, by omega⟩)
              refine j_iinc X dX5_issueIn_87 rfl rfl (Nat.le_of_ble_eq_true rfl) ?_
              refine j_goto (tgt := 7) X dX5_issueIn_90 (by decide) ?_
              refine j_drop 6 ?_
              refine j_drop 7 ?_
              exact ih7 (k + 1, _) (by (try dsimp only); exact ⟨by omega, hnx⟩) (by (try dsimp only); omega)
def rmX5_inText : Room := { frames := 2, cells := 0, slots := 0, locals := 44 }
set_option maxHeartbeats 4000000 in
set_option maxRecDepth 100000 in
theorem c_X5_inText (l : Launch) (D : va_G) (nH : Nat) (sk : Sk) (v : Mem) (m t : Nat) (tz : Int) (T : List Nat) (hM : Md D sk m) (htz : tz = (t : Int)) (ht : t < 17) (hT : LR (v (m + 1)) 8 T) : CtI l D yX5_inText wsX5_inText rmX5_inText [.ref m, .int (I tz)] nH sk v (fun z v' => z = (cntI T t : Int) ∧ v = v') := by
  refine ct_of (cc := cX5_inText) (maxL := 4) (ret := (some .int)) rfl rfl (Nat.le_of_ble_eq_true rfl) ?_
  intro p_ e_ s_ m_ args_ below_ meth_ c_ X hmn hsz
  obtain ⟨m0, m1, m2, m3, m4, m5, m6, m7, m8, m9, m10⟩ := id hM
  have h60 := hT.2.1
  refine j_iconst X dX5_inText_0 ?_
  refine j_istore_n X dX5_inText_1 rfl (Nat.le_of_ble_eq_true rfl) ?_
  refine j_iconst X dX5_inText_2 ?_
  refine j_istore_n X dX5_inText_3 rfl (Nat.le_of_ble_eq_true rfl) ?_
  refine j_loop (σ := Nat) (fun (k : Nat) => k ≤ T.length) (fun (k : Nat) => T.length - k) (fun (k : Nat) => (v, [some (.ref m), some (.int (I tz)), some (.int (I (cntI (T.take k) t : Int))), some (.int (I (k : Int)))])) ?_ 0 (by omega)
  intro k hx ih4
  dsimp only at hx ih4 ⊢
  obtain hk := hx
  refine j_iload_n X dX5_inText_4 rfl ?_
  refine j_aload_n X dX5_inText_5 rfl ?_
  refine j_bipush X dX5_inText_6 (by decide) ?_
  refine j_iconst X dX5_inText_8 ?_
  refine j_callV (nn := 2) X dX5_inText_9 (c_X5_len l D nH sk v m 8 _ (T) hM (by omega) (by omega) hT) gX5_inText_X5_part rfl ⟨rfl, rfl⟩ (by decide +kernel) ⟨Nat.le_of_ble_eq_true rfl, Nat.le_of_ble_eq_true rfl⟩ (by assumption) ⟨rfl, rfl⟩ rfl rfl (Nat.le_of_ble_eq_true rfl) ⟨Nat.zero_le _, Nat.zero_le _⟩ (kI (fun z9 v9 h9 => ?_))
  obtain ⟨rfl, rfl⟩ := h9
  refine j_icmp_ge (tgt := 40) X dX5_inText_12 (by omega) (by decide) (fun c12 => ?_) (fun c12 => ?_)
  · refine j_iload_n X dX5_inText_40 rfl ?_
    exact j_iret X dX5_inText_41 ⟨_, rfl, rfl, ⟨by have e : k = T.length := (by omega); rw [e, List.take_length], rfl⟩⟩
  · have hk2 : k < T.length := by omega
    have hct := cntI_take (t := t) hk2
    refine j_iload_n X dX5_inText_15 rfl ?_
    refine j_aload_n X dX5_inText_16 rfl ?_
    refine j_bipush X dX5_inText_17 (by decide) ?_
    refine j_iload_n X dX5_inText_19 rfl ?_
    refine j_callV (nn := 2) X dX5_inText_20 (c_X5_issueOf l D nH sk v m 8 (k) _ _ (T) hM (by omega) (by omega) (by omega) hT (by omega)) gX5_inText_X5_issueOf rfl ⟨rfl, rfl⟩ (by decide +kernel) ⟨Nat.le_of_ble_eq_true rfl, Nat.le_of_ble_eq_true rfl⟩ (by assumption) ⟨rfl, rfl⟩ rfl rfl (Nat.le_of_ble_eq_true rfl) ⟨Nat.zero_le _, Nat.zero_le _⟩ (kI (fun z20 v20 h20 => ?_))
    obtain ⟨rfl, rfl⟩ := h20
    refine j_iload_n X dX5_inText_23 rfl ?_
    refine j_icmp_ne (tgt := 31) X dX5_inText_24 (by omega) (by decide) (fun c24 => ?_) (fun c24 => ?_)
    · refine j_iconst X dX5_inText_31 ?_
      refine j_iadd X dX5_inText_32 ?_
      refine j_istore_n X dX5_inText_33 rfl (Nat.le_of_ble_eq_true rfl) ?_
      refine j_iinc X dX5_inText_34 rfl rfl (Nat.le_of_ble_eq_true rfl) ?_
      refine j_goto (tgt := 4) X dX5_inText_37 (by decide) ?_
      first
      | rw [show (cntI (T.take k) t : Int) + 1 = (cntI (T.take (k + 1)) t : Int) by rw [hct, if_pos (by omega)]; omega]
      | rw [show (cntI (T.take k) t : Int) + 0 = (cntI (T.take (k + 1)) t : Int) by rw [hct, if_neg (by omega)]; omega]
      exact ih4 (k + 1) (by (try dsimp only); exact (by omega)) (by (try dsimp only); omega)
    · refine j_iconst X dX5_inText_27 ?_
      refine j_goto (tgt := 32) X dX5_inText_28 (by decide) ?_
      refine j_iadd X dX5_inText_32 ?_
      refine j_istore_n X dX5_inText_33 rfl (Nat.le_of_ble_eq_true rfl) ?_
      refine j_iinc X dX5_inText_34 rfl rfl (Nat.le_of_ble_eq_true rfl) ?_
      refine j_goto (tgt := 4) X dX5_inText_37 (by decide) ?_
      first
      | rw [show (cntI (T.take k) t : Int) + 1 = (cntI (T.take (k + 1)) t : Int) by rw [hct, if_pos (by omega)]; omega]
      | rw [show (cntI (T.take k) t : Int) + 0 = (cntI (T.take (k + 1)) t : Int) by rw [hct, if_neg (by omega)]; omega]
      exact ih4 (k + 1) (by (try dsimp only); exact (by omega)) (by (try dsimp only); omega)
def rmX5_mostInText : Room := { frames := 3, cells := 0, slots := 0, locals := 67 }
set_option maxHeartbeats 4000000 in
set_option maxRecDepth 100000 in
theorem c_X5_mostInText (l : Launch) (D : va_G) (nH : Nat) (sk : Sk) (v : Mem) (m N : Nat) (T : List Nat) (hM : Md D sk m) (hN : v (m + 1) 0 = (N : Int)) (hN2 : N ≤ 16) (hT : LR (v (m + 1)) 8 T) : CtI l D yX5_mostInText wsX5_mostInText rmX5_mostInText [.ref m] nH sk v (fun z v' => z = (mb T N).1 ∧ v = v') := by
  refine ct_of (cc := cX5_mostInText) (maxL := 4) (ret := (some .int)) rfl rfl (Nat.le_of_ble_eq_true rfl) ?_
  intro p_ e_ s_ m_ args_ below_ meth_ c_ X hmn hsz
  have hinX5 : ∀ w ∈ wsX50, w ∈ wsX5_mostInText := by decide +kernel
  obtain ⟨m0, m1, m2, m3, m4, m5, m6, m7, m8, m9, m10⟩ := id hM
  have h60 := hT.2.1
  have hci : ∀ t, cntI T t ≤ T.length := fun t => List.countP_le_length
  refine j_bipush X dX5_mostInText_0 (by decide) ?_
  refine j_istore_n X dX5_mostInText_2 rfl (Nat.le_of_ble_eq_true rfl) ?_
  refine j_iconst X dX5_mostInText_3 ?_
  refine j_istore_n X dX5_mostInText_4 rfl (Nat.le_of_ble_eq_true rfl) ?_
  refine j_iconst X dX5_mostInText_5 ?_
  refine j_istore_n X dX5_mostInText_6 rfl (Nat.le_of_ble_eq_true rfl) ?_
  refine j_loop (σ := Nat × Int × Nat) (fun (y_ : Nat × Int × Nat) => match y_ with | (k, a, c) => k ≤ N ∧ mb T k = (a, c)) (fun (y_ : Nat × Int × Nat) => match y_ with | (k, a, c) => N - k) (fun (y_ : Nat × Int × Nat) => match y_ with | (k, a, c) => (v, [some (.ref m), some (.int (I a)), some (.int (I (c : Int))), some (.int (I (k : Int)))])) ?_ (0, -6, 0) ⟨Nat.zero_le _, rfl⟩
  intro y_ hx ih7
  obtain ⟨k, a, c⟩ := y_
  dsimp only at hx ih7 ⊢
  obtain ⟨hk, hac⟩ := hx
  refine j_iload_n X dX5_mostInText_7 rfl ?_
  refine j_aload_n X dX5_mostInText_8 rfl ?_
  refine j_getr X dX5_mostInText_9 (T := TX5) (N := 13) (C := RX5) hinX5 rfl (by assumption) 0 (by decide) (by decide +kernel) rfl ?_
  refine j_iconst X dX5_mostInText_12 ?_
  refine j_ialN X dX5_mostInText_13 (by assumption) (0) (by omega) (by omega) (by decide) ?_
  rw [hN]
  refine j_icmp_ge (tgt := 57) X dX5_mostInText_14 (by omega) (by decide) (fun c14 => ?_) (fun c14 => ?_)
  · refine j_iload_n X dX5_mostInText_57 rfl ?_
    exact j_iret X dX5_mostInText_58 ⟨_, rfl, rfl, ⟨by have e : k = N := (by omega); rw [← e, hac], rfl⟩⟩
  · have hmb := mb_bd T k
    have hck := hci k
    have hms : mb T (k + 1) = if (mb T k).2 < cntI T k then ((k : Int), cntI T k) else mb T k := rfl
    rw [hac] at hmb hms
    dsimp only at hmb hms
    refine j_aload_n X dX5_mostInText_17 rfl ?_
    refine j_iload_n X dX5_mostInText_18 rfl ?_
    refine j_callV (nn := 1) X dX5_mostInText_19 (c_X5_inText l D nH sk v m k _ T hM (by omega) (by omega) hT) gX5_mostInText_X5_inText rfl ⟨rfl, rfl⟩ (by decide +kernel) ⟨Nat.le_of_ble_eq_true rfl, Nat.le_of_ble_eq_true rfl⟩ (by assumption) ⟨rfl, rfl⟩ rfl rfl (Nat.le_of_ble_eq_true rfl) ⟨Nat.zero_le _, Nat.zero_le _⟩ (kI (fun z19 v19 h19 => ?_))
    obtain ⟨rfl, rfl⟩ := h19
    refine j_iload_n X dX5_mostInText_22 rfl ?_
    refine j_icmp_le (tgt := 30) X dX5_mostInText_23 (by omega) (by decide) (fun c23 => ?_) (fun c23 => ?_)
    · refine j_iload_n X dX5_mostInText_30 rfl ?_
      refine j_istore_n X dX5_mostInText_31 rfl (Nat.le_of_ble_eq_true rfl) ?_
      refine j_aload_n X dX5_mostInText_32 rfl ?_
      refine j_iload_n X dX5_mostInText_33 rfl ?_
      refine j_callV (nn := 1) X dX5_mostInText_34 (c_X5_inText l D nH sk v m k _ T hM (by omega) (by omega) hT) gX5_mostInText_X5_inText rfl ⟨rfl, rfl⟩ (by decide +kernel) ⟨Nat.le_of_ble_eq_true rfl, Nat.le_of_ble_eq_true rfl⟩ (by assumption) ⟨rfl, rfl⟩ rfl rfl (Nat.le_of_ble_eq_true rfl) ⟨Nat.zero_le _, Nat.zero_le _⟩ (kI (fun z34 v34 h34 => ?_))
      obtain ⟨rfl, rfl⟩ := h34
      refine j_iload_n X dX5_mostInText_37 rfl ?_
      refine j_icmp_le (tgt := 49) X dX5_mostInText_38 (by omega) (by decide) (fun c38 => ?_) (fun c38 => ?_)
      · refine j_iload_n X dX5_mostInText_49 rfl ?_
        refine j_istore_n X dX5_mostInText_50 rfl (Nat.le_of_ble_eq_true rfl) ?_
        refine j_iinc X dX5_mostInText_51 rfl rfl (Nat.le_of_ble_eq_true rfl) ?_
        refine j_goto (tgt := 7) X dX5_mostInText_54 (by decide) ?_
        exact ih7 (k + 1, _, _) (by (try dsimp only); exact ⟨by omega, (by first | exact hms.trans (if_pos (by omega)) | exact hms.trans (if_neg (by omega)))⟩) (by (try dsimp only); omega)
      · exfalso; omega
    · refine j_iload_n X dX5_mostInText_26 rfl ?_
      refine j_goto (tgt := 31) X dX5_mostInText_27 (by decide) ?_
      refine j_istore_n X dX5_mostInText_31 rfl (Nat.le_of_ble_eq_true rfl) ?_
      refine j_aload_n X dX5_mostInText_32 rfl ?_
      refine j_iload_n X dX5_mostInText_33 rfl ?_
      refine j_callV (nn := 1) X dX5_mostInText_34 (c_X5_inText l D nH sk v m k _ T hM (by omega) (by omega) hT) gX5_mostInText_X5_inText rfl ⟨rfl, rfl⟩ (by decide +kernel) ⟨Nat.le_of_ble_eq_true rfl, Nat.le_of_ble_eq_true rfl⟩ (by assumption) ⟨rfl, rfl⟩ rfl rfl (Nat.le_of_ble_eq_true rfl) ⟨Nat.zero_le _, Nat.zero_le _⟩ (kI (fun z34 v34 h34 => ?_))
      obtain ⟨rfl, rfl⟩ := h34
      refine j_iload_n X dX5_mostInText_37 rfl ?_
      refine j_icmp_le (tgt := 49) X dX5_mostInText_38 (by omega) (by decide) (fun c38 => ?_) (fun c38 => ?_)
      · exfalso; omega
      · refine j_aload_n X dX5_mostInText_41 rfl ?_
        refine j_iload_n X dX5_mostInText_42 rfl ?_
        refine j_callV (nn := 1) X dX5_mostInText_43 (c_X5_inText l D nH sk v m k _ T hM (by omega) (by omega) hT) gX5_mostInText_X5_inText rfl ⟨rfl, rfl⟩ (by decide +kernel) ⟨Nat.le_of_ble_eq_true rfl, Nat.le_of_ble_eq_true rfl⟩ (by assumption) ⟨rfl, rfl⟩ rfl rfl (Nat.le_of_ble_eq_true rfl) ⟨Nat.zero_le _, Nat.zero_le _⟩ (kI (fun z43 v43 h43 => ?_))
        obtain ⟨rfl, rfl⟩ := h43
        refine j_goto (tgt := 50) X dX5_mostInText_46 (by decide) ?_
        refine j_istore_n X dX5_mostInText_50 rfl (Nat.le_of_ble_eq_true rfl) ?_
        refine j_iinc X dX5_mostInText_51 rfl rfl (Nat.le_of_ble_eq_true rfl) ?_
        refine j_goto (tgt := 7) X dX5_mostInText_54 (by decide) ?_
        exact ih7 (k + 1, _, _) (by (try dsimp only); exact ⟨by omega, (by first | exact hms.trans (if_pos (by omega)) | exact hms.trans (if_neg (by omega)))⟩) (by (try dsimp only); omega)
def rmX5_comesTwice : Room := { frames := 0, cells := 0, slots := 0, locals := 0 }
set_option maxHeartbeats 4000000 in
set_option maxRecDepth 100000 in
theorem c_X5_comesTwice (l : Launch) (D : va_G) (nH : Nat) (sk : Sk) (v : Mem) (m : Nat) (O : List Nat) (hM : Md D sk m) (h9 : v m 9 = (O.length : Int)) (h8 : O.length ≤ 8) (hO : ∀ (k : Nat) (h : k < O.length), v (m + 7) k = ((O[k]'h : Nat) : Int)) (hok : ∀ x ∈ O, oko x) : CtI l D yX5_comesTwice wsX5_comesTwice rmX5_comesTwice [.ref m] nH sk v (fun z v' => (z = 0 ∨ z = 1) ∧ (z = 1 ↔ twice O) ∧ v = v') := by
  refine ct_of (cc := cX5_comesTwice) (maxL := 4) (ret := (some .boolean)) rfl rfl (Nat.le_of_ble_eq_true rfl) ?_
  intro p_ e_ s_ m_ args_ below_ meth_ c_ X hmn hsz
  have hinX5 : ∀ w ∈ wsX50, w ∈ wsX5_comesTwice := by decide +kernel
  obtain ⟨m0, m1, m2, m3, m4, m5, m6, m7, m8, m9, m10⟩ := id hM
  have hok2 : ∀ {k : Nat} (h : k < O.length), O[k] < 200 := fun h => (hok _ (List.getElem_mem h)).2
  refine j_iconst X dX5_comesTwice_0 ?_
  refine j_istore_n X dX5_comesTwice_1 rfl (Nat.le_of_ble_eq_true rfl) ?_
  refine j_iconst X dX5_comesTwice_2 ?_
  refine j_istore_n X dX5_comesTwice_3 rfl (Nat.le_of_ble_eq_true rfl) ?_
  refine j_loop (σ := Nat × Int) (fun (y_ : Nat × Int) => match y_ with | (i, z) => i ≤ O.length ∧ (z = 0 ∨ z = 1) ∧ (z = 1 ↔ tw O i 0)) (fun (y_ : Nat × Int) => match y_ with | (i, z) => O.length - i) (fun (y_ : Nat × Int) => match y_ with | (i, z) => (v, [some (.ref m), some (.int (I z)), some (.int (I (i : Int))), none])) ?_ (0, 0) ⟨Nat.zero_le _, Or.inl rfl, ⟨fun h => absurd h (by omega), fun ⟨a, b, h1, h2, h3, h4, h5⟩ => by omega⟩⟩
  intro y_ hx ih4
  obtain ⟨i, z⟩ := y_
  dsimp only at hx ih4 ⊢
  obtain ⟨hi, hz, hzt⟩ := hx
  refine j_iload_n X dX5_comesTwice_4 rfl ?_
  refine j_aload_n X dX5_comesTwice_5 rfl ?_
  refine j_geti X dX5_comesTwice_6 (T := TX5) (N := 13) (C := RX5) hinX5 rfl (by assumption) 9 (by decide) (by decide +kernel) rfl ?_
  rw [h9]
  refine j_icmp_ge (tgt := 62) X dX5_comesTwice_9 (by omega) (by decide) (fun c9 => ?_) (fun c9 => ?_)
  · refine j_iload_n X dX5_comesTwice_62 rfl ?_
    exact j_zret X dX5_comesTwice_63 (by omega) ⟨_, rfl, rfl, ⟨hz, by rw [hzt, show i = O.length by omega, tw_all], rfl⟩⟩
  · refine j_iconst X dX5_comesTwice_12 ?_
    refine j_istore_n X dX5_comesTwice_13 rfl (Nat.le_of_ble_eq_true rfl) ?_
    refine j_loop (σ := Nat × Int) (fun (y_ : Nat × Int) => match y_ with | (j, y) => j ≤ i ∧ (y = 0 ∨ y = 1) ∧ (y = 1 ↔ tw O i j)) (fun (y_ : Nat × Int) => match y_ with | (j, y) => i - j) (fun (y_ : Nat × Int) => match y_ with | (j, y) => (v, [some (.ref m), some (.int (I y)), some (.int (I (i : Int))), some (.int (I (j : Int)))])) ?_ (0, z) ⟨Nat.zero_le _, hz, hzt⟩
    intro y_ hx ih14
    obtain ⟨j, y⟩ := y_
    dsimp only at hx ih14 ⊢
    obtain ⟨hj, hy, hyt⟩ := hx
    refine j_iload_n X dX5_comesTwice_14 rfl ?_
    refine j_iload_n X dX5_comesTwice_15 rfl ?_
    refine j_icmp_ge (tgt := 56) X dX5_comesTwice_16 (by omega) (by decide) (fun c16 => ?_) (fun c16 => ?_)
    · refine j_iinc X dX5_comesTwice_56 rfl rfl (Nat.le_of_ble_eq_true rfl) ?_
      refine j_goto (tgt := 4) X dX5_comesTwice_59 (by decide) ?_
      refine j_drop 3 ?_
      exact ih4 (i + 1, y) (by (try dsimp only); exact ⟨by omega, hy, by rw [← tw_row]; have e : j = i := (by omega); rw [e] at hyt; exact hyt⟩) (by (try dsimp only); omega)
    · have hi2 : i < O.length := by omega
      have hj2 : j < O.length := by omega
      have hoi := hok2 hi2
      have hoj := hok2 hj2
      have hts := tw_step (show j < i by omega) hi2
      refine j_iload_n X dX5_comesTwice_19 rfl ?_
      refine j_if_ne (tgt := 44) X dX5_comesTwice_20 (by omega) (by decide) (fun c20 => ?_) (fun c20 => ?_)
      · refine j_iconst X dX5_comesTwice_44 ?_
        refine j_goto (tgt := 49) X dX5_comesTwice_45 (by decide) ?_
        refine j_istore_n X dX5_comesTwice_49 rfl (Nat.le_of_ble_eq_true rfl) ?_
        refine j_iinc X dX5_comesTwice_50 rfl rfl (Nat.le_of_ble_eq_true rfl) ?_
        refine j_goto (tgt := 14) X dX5_comesTwice_53 (by decide) ?_
        exact ih14 (j + 1, _) (by (try dsimp only); exact ⟨by omega, (by first | exact Or.inl rfl | exact Or.inr rfl), by rw [hts]; first | exact ⟨fun _ => Or.inl (hyt.mp (by omega)), fun _ => rfl⟩ | exact ⟨fun _ => Or.inr (by omega), fun _ => rfl⟩ | exact ⟨fun h => absurd h (by omega), fun h => by rcases h with h | h; have := hyt.mpr h; omega; omega⟩⟩) (by (try dsimp only); omega)
      · refine j_aload_n X dX5_comesTwice_23 rfl ?_
        refine j_getr X dX5_comesTwice_24 (T := TX5) (N := 13) (C := RX5) hinX5 rfl (by assumption) 8 (by decide) (by decide +kernel) rfl ?_
        refine j_iload_n X dX5_comesTwice_27 rfl ?_
        refine j_ialN X dX5_comesTwice_28 (by assumption) (j) (by omega) (by omega) (by decide) ?_
        rw [hO j hj2]
        refine j_bipush X dX5_comesTwice_29 (by decide) ?_
        refine j_irem X dX5_comesTwice_31 (by omega) (by omega) ?_
        refine j_aload_n X dX5_comesTwice_32 rfl ?_
        refine j_getr X dX5_comesTwice_33 (T := TX5) (N := 13) (C := RX5) hinX5 rfl (by assumption) 8 (by decide) (by decide +kernel) rfl ?_
        refine j_iload_n X dX5_comesTwice_36 rfl ?_
        refine j_ialN X dX5_comesTwice_37 (by assumption) (i) (by omega) (by omega) (by decide) ?_
        rw [hO i hi2]
        refine j_bipush X dX5_comesTwice_38 (by decide) ?_
        refine j_irem X dX5_comesTwice_40 (by omega) (by omega) ?_
        refine j_icmp_ne (tgt := 48) X dX5_comesTwice_41 (by omega) (by decide) (fun c41 => ?_) (fun c41 => ?_)
        · refine j_iconst X dX5_comesTwice_48 ?_
          refine j_istore_n X dX5_comesTwice_49 rfl (Nat.le_of_ble_eq_true rfl) ?_
          refine j_iinc X dX5_comesTwice_50 rfl rfl (Nat.le_of_ble_eq_true rfl) ?_
          refine j_goto (tgt := 14) X dX5_comesTwice_53 (by decide) ?_
          exact ih14 (j + 1, _) (by (try dsimp only); exact ⟨by omega, (by first | exact Or.inl rfl | exact Or.inr rfl), by rw [hts]; first | exact ⟨fun _ => Or.inl (hyt.mp (by omega)), fun _ => rfl⟩ | exact ⟨fun _ => Or.inr (by omega), fun _ => rfl⟩ | exact ⟨fun h => absurd h (by omega), fun h => by rcases h with h | h; have := hyt.mpr h; omega; omega⟩⟩) (by (try dsimp only); omega)
        · refine j_iconst X dX5_comesTwice_44 ?_
          refine j_goto (tgt := 49) X dX5_comesTwice_45 (by decide) ?_
          refine j_istore_n X dX5_comesTwice_49 rfl (Nat.le_of_ble_eq_true rfl) ?_
          refine j_iinc X dX5_comesTwice_50 rfl rfl (Nat.le_of_ble_eq_true rfl) ?_
          refine j_goto (tgt := 14) X dX5_comesTwice_53 (by decide) ?_
          exact ih14 (j + 1, _) (by (try dsimp only); exact ⟨by omega, (by first | exact Or.inl rfl | exact Or.inr rfl), by rw [hts]; first | exact ⟨fun _ => Or.inl (hyt.mp (by omega)), fun _ => rfl⟩ | exact ⟨fun _ => Or.inr (by omega), fun _ => rfl⟩ | exact ⟨fun h => absurd h (by omega), fun h => by rcases h with h | h; have := hyt.mpr h; omega; omega⟩⟩) (by (try dsimp only); omega)
