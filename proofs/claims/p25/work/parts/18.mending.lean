/-! ===== the lowest set that mends ===== -/
def popU (w : Nat) : Nat → Nat
  | 0 => 0
  | k + 1 => popU w k + (w.testBit k).toNat
theorem tb_nat (w k : Nat) : (w.testBit k).toNat = w / 2 ^ k % 2 := by
  rw [tb_div]
  have := Nat.mod_two_eq_zero_or_one (w / 2 ^ k)
  rcases this with h | h <;> simp [h]
theorem pop_U (w : Nat) : pop w = popU w 16 := by
  simp only [popU, tb_nat]
  unfold pop
  simp
theorem popU_or {w p : Nat} (h : w.testBit p = false) : ∀ k, popU (w ||| 2 ^ p) k = popU w k + if p < k then 1 else 0
  | 0 => by simp [popU]
  | k + 1 => by
    rw [popU, popU, popU_or h k, Nat.testBit_or]
    rcases Nat.lt_trichotomy k p with q | q | q
    · rw [Nat.testBit_two_pow_of_ne (by omega), if_neg (by omega), if_neg (by omega)]; simp
    · subst q
      rw [h, Nat.testBit_two_pow_self, if_neg (by omega), if_pos (by omega)]; simp
    · rw [Nat.testBit_two_pow_of_ne (by omega), if_pos (by omega), if_pos (by omega)]; simp; omega
theorem pop_or {w p : Nat} (h : w.testBit p = false) (hp : p < 16) : pop (w ||| 2 ^ p) = pop w + 1 := by
  rw [pop_U, pop_U, popU_or h, if_pos hp]
theorem popU_0 {w : Nat} : ∀ {k : Nat}, popU w k = 0 → ∀ j, j < k → w.testBit j = false
  | 0, _, j, h => absurd h (Nat.not_lt_zero _)
  | k + 1, h, j, hj => by
    rw [popU] at h
    rcases Nat.lt_or_ge j k with q | q
    · exact popU_0 (by omega) j q
    · have : j = k := by omega
      subst this
      cases hb : w.testBit j with
      | false => rfl
      | true => rw [hb] at h; simp at h
theorem pop_0 {w : Nat} (hw : w < 65536) (h : pop w = 0) : w = 0 := by
  rw [pop_U] at h
  apply Nat.eq_of_testBit_eq
  intro j
  rw [Nat.zero_testBit]
  rcases Nat.lt_or_ge j 16 with q | q
  · exact popU_0 h j q
  · exact Nat.testBit_lt_two_pow (Nat.lt_of_lt_of_le hw (Nat.le_trans (by decide : 65536 ≤ 2 ^ 16) (Nat.pow_le_pow_right (by decide) q)))
theorem careU_none {o : Nat → List Nat} {w : Nat} {L : List Nat} : ∀ {k : Nat}, (∀ j, j < k → w.testBit j = false) → careU o w L k = L
  | 0, _ => rfl
  | k + 1, h => by
    rw [careU, if_neg (by rw [h k (by omega)]; simp)]
    exact careU_none (fun j hj => h j (by omega))
theorem careU_split {o : Nat → List Nat} {m p : Nat} {L : List Nat} (h0 : ∀ j, j < p + 1 → m.testBit j = false) : ∀ k, p < k → careU o (m ||| 2 ^ p) L k = careU o m (careP (o p) p L) k
  | 0, h => absurd h (Nat.not_lt_zero _)
  | k + 1, h => by
    rcases Nat.eq_or_lt_of_le (Nat.lt_succ_iff.mp h) with q | q
    · subst q
      rw [careU, careU_none (k := p) (fun j hj => by rw [Nat.testBit_or, h0 j (by omega), Nat.testBit_two_pow_of_ne (by omega)]; rfl), if_pos (by rw [Nat.testBit_or, Nat.testBit_two_pow_self]; simp)]
      exact (careU_none h0).symm
    · rw [careU, careU, careU_split h0 k q]
      rw [Nat.testBit_or, Nat.testBit_two_pow_of_ne (show p ≠ k by omega), Bool.or_false]
/-- sets of s parcels, none ahead of f -/
def okm (S : AS) (f s m : Nat) : Prop := m < 2 ^ np S ∧ (∀ j, j < f → m.testBit j = false) ∧ pop m = s
def gdm (S : AS) (L : List Nat) (f s m : Nat) : Prop := okm S f s m ∧ rt (careU (od S) m L (np S)) (tx S) = true
def low (m p : Nat) : Prop := ∃ j, j < p ∧ m.testBit j = true
def LM (S : AS) (L : List Nat) (f s : Nat) (z : Int) : Prop := (z = -6 ∧ ∀ m, ¬ gdm S L f s m) ∨ ∃ m : Nat, z = (m : Int) ∧ gdm S L f s m ∧ ∀ k, gdm S L f s k → m ≤ k
def LMr (S : AS) (L : List Nat) (f s p : Nat) (z : Int) : Prop := (z = -6 ∧ ∀ m, gdm S L f s m → ¬ low m p) ∨ ∃ m : Nat, z = (m : Int) ∧ gdm S L f s m ∧ low m p ∧ ∀ k, gdm S L f s k → low k p → m ≤ k
theorem low_succ {m p : Nat} (h : low m (p + 1)) : low m p ∨ (¬ low m p ∧ m.testBit p = true) := by
  by_cases q : low m p
  · exact Or.inl q
  · obtain ⟨j, hj, hb⟩ := h
    rcases Nat.lt_or_ge j p with y | y
    · exact absurd ⟨j, y, hb⟩ q
    · have : j = p := by omega
      subst this
      exact Or.inr ⟨q, hb⟩
theorem gd_up {S : AS} {L : List Nat} {f s p m : Nat} (hn : np S ≤ 16) (hf : f ≤ p) (hp : p < np S) (h : gdm S (careP (od S p) p L) (p + 1) s m) : gdm S L f (s + 1) (m ||| 2 ^ p) ∧ (m ||| 2 ^ p).testBit p = true := by
  obtain ⟨⟨h1, h2, h3⟩, h4⟩ := h
  refine ⟨⟨⟨Nat.or_lt_two_pow h1 (Nat.pow_lt_pow_right (by decide) hp), fun j hj => ?_, ?_⟩, ?_⟩, ?_⟩
  · rw [Nat.testBit_or, h2 j (by omega), Nat.testBit_two_pow_of_ne (by omega)]; rfl
  · rw [pop_or (h2 p (by omega)) (by omega), h3]
  · rw [careU_split h2 _ hp]; exact h4
  · rw [Nat.testBit_or, Nat.testBit_two_pow_self]; simp
theorem gd_down {S : AS} {L : List Nat} {f s p m : Nat} (hn : np S ≤ 16) (hp : p < np S) (h : gdm S L f (s + 1) m) (hl : ¬ low m p) (hb : m.testBit p = true) : ∃ k, gdm S (careP (od S p) p L) (p + 1) s k ∧ m = k ||| 2 ^ p := by
  obtain ⟨⟨h1, h2, h3⟩, h4⟩ := h
  have hz : ∀ j, j < p → m.testBit j = false := fun j hj => by
    cases hh : m.testBit j with
    | false => rfl
    | true => exact absurd ⟨j, hj, hh⟩ hl
  have hcb : ∀ j, j < p + 1 → (clr m p).testBit j = false := fun j hj => by
    rw [clr_bit]
    rcases Nat.lt_or_ge j p with y | y
    · rw [hz j y]; rfl
    · have : j = p := by omega
      subst this; simp
  have e : m = clr m p ||| 2 ^ p := by
    apply Nat.eq_of_testBit_eq
    intro j
    rw [Nat.testBit_or, clr_bit]
    by_cases q : p = j
    · subst q; rw [hb, Nat.testBit_two_pow_self]; simp
    · rw [Nat.testBit_two_pow_of_ne q]; simp [Ne.symm q]
  refine ⟨clr m p, ⟨⟨?_, hcb, ?_⟩, ?_⟩, e⟩
  · unfold clr
    rw [if_pos hb]
    exact Nat.xor_lt_two_pow h1 (Nat.pow_lt_pow_right (by decide) hp)
  · have := pop_or (hcb p (by omega)) (show p < 16 by omega)
    rw [← e, h3] at this
    omega
  · have := careU_split (o := od S) (L := L) hcb (np S) hp
    rw [← this, ← e]
    exact h4
theorem or_add {m p : Nat} (h : ∀ j, j < p + 1 → m.testBit j = false) : m ||| 2 ^ p = m + 2 ^ p := by
  have hm : m % 2 ^ (p + 1) = 0 := by
    apply Nat.eq_of_testBit_eq
    intro j
    rw [Nat.testBit_mod_two_pow, Nat.zero_testBit]
    rcases Nat.lt_or_ge j (p + 1) with q | q
    · rw [h j q]; simp
    · simp [show ¬ j < p + 1 by omega]
  have e : m = 2 ^ (p + 1) * (m / 2 ^ (p + 1)) := by
    have := Nat.div_add_mod m (2 ^ (p + 1))
    omega
  rw [e]
  exact (Nat.two_pow_add_eq_or_of_lt (Nat.pow_lt_pow_right (by decide) (by omega)) _).symm
theorem LM_none {S : AS} {L : List Nat} {f s p : Nat} {z : Int} (hn : np S ≤ 16) (hp : p < np S) (h : LMr S L f (s + 1) p z) (g : ∀ m, ¬ gdm S (careP (od S p) p L) (p + 1) s m) : LMr S L f (s + 1) (p + 1) z := by
  have key : ∀ m, gdm S L f (s + 1) m → low m (p + 1) → low m p := fun m hm hl => by
    rcases low_succ hl with q | ⟨q, hb⟩
    · exact q
    · obtain ⟨k, hk, -⟩ := gd_down hn hp hm q hb
      exact absurd hk (g k)
  rcases h with ⟨h1, h2⟩ | ⟨m, h1, h2, ⟨j, hj, hb⟩, h4⟩
  · exact Or.inl ⟨h1, fun m hm hl => h2 m hm (key m hm hl)⟩
  · exact Or.inr ⟨m, h1, h2, ⟨j, by omega, hb⟩, fun k hk hl => h4 k hk (key k hk hl)⟩
theorem LM_some {S : AS} {L : List Nat} {f s p m : Nat} {z w : Int} (hn : np S ≤ 16) (hf : f ≤ p) (hp : p < np S) (h : LMr S L f (s + 1) p z) (g : gdm S (careP (od S p) p L) (p + 1) s m) (g2 : ∀ k, gdm S (careP (od S p) p L) (p + 1) s k → m ≤ k) (hw : (z = -6 → w = ((m ||| 2 ^ p : Nat) : Int)) ∧ (z ≠ -6 → (((m ||| 2 ^ p : Nat) : Int) < z → w = ((m ||| 2 ^ p : Nat) : Int)) ∧ (¬ ((m ||| 2 ^ p : Nat) : Int) < z → w = z))) : LMr S L f (s + 1) (p + 1) w := by
  obtain ⟨u1, u2⟩ := gd_up hn hf hp g
  have mono : ∀ k, gdm S L f (s + 1) k → ¬ low k p → k.testBit p = true → (m ||| 2 ^ p) ≤ k := fun k hk hl hb => by
    obtain ⟨k', hk', rfl⟩ := gd_down hn hp hk hl hb
    rw [or_add g.1.2.1, or_add hk'.1.2.1]
    have := g2 k' hk'
    omega
  rcases h with ⟨h1, h2⟩ | ⟨a, h1, h2, ⟨j, hj, hb⟩, h4⟩
  · have e := hw.1 h1
    refine Or.inr ⟨_, e, u1, ⟨p, by omega, u2⟩, fun k hk hl => ?_⟩
    rcases low_succ hl with q | ⟨q, hbk⟩
    · exact absurd q (h2 k hk)
    · exact mono k hk q hbk
  · have e := hw.2 (by omega)
    by_cases c : ((m ||| 2 ^ p : Nat) : Int) < z
    · refine Or.inr ⟨_, e.1 c, u1, ⟨p, by omega, u2⟩, fun k hk hl => ?_⟩
      rcases low_succ hl with q | ⟨q, hbk⟩
      · have := h4 k hk q
        omega
      · exact mono k hk q hbk
    · refine Or.inr ⟨a, (e.2 c).trans h1, h2, ⟨j, by omega, hb⟩, fun k hk hl => ?_⟩
      rcases low_succ hl with q | ⟨q, hbk⟩
      · exact h4 k hk q
      · have := mono k hk q hbk
        omega
theorem LMr.bd {S : AS} {L : List Nat} {f s p : Nat} {z : Int} (h : LMr S L f s p z) (hn : np S ≤ 16) : -6 ≤ z ∧ z ≤ 65536 := by
  rcases h with h | ⟨m, h1, h2, -⟩
  · omega
  · have h3 := h2.1.1
    have h4 := p2_lt hn
    omega
theorem LM.bd {S : AS} {L : List Nat} {f s : Nat} {z : Int} (h : LM S L f s z) (hn : np S ≤ 16) : -6 ≤ z ∧ z ≤ 65536 := by
  rcases h with h | ⟨m, h1, h2, -⟩
  · omega
  · have h3 := h2.1.1
    have h4 := p2_lt hn
    omega
theorem LMr.end {S : AS} {L : List Nat} {f s p : Nat} {z : Int} (hn : np S ≤ 16) (hp : np S ≤ p) (h : LMr S L f (s + 1) p z) : LM S L f (s + 1) z := by
  have key : ∀ m, gdm S L f (s + 1) m → low m p := fun m hm => by
    refine Classical.byContradiction fun hl => ?_
    have hz : m = 0 := by
      apply Nat.eq_of_testBit_eq
      intro j
      rw [Nat.zero_testBit]
      rcases Nat.lt_or_ge j p with q | q
      · cases hh : m.testBit j with
        | false => rfl
        | true => exact absurd ⟨j, q, hh⟩ hl
      · exact Nat.testBit_lt_two_pow (Nat.lt_of_lt_of_le hm.1.1 (Nat.pow_le_pow_right (by decide) (by omega)))
    have := hm.1.2.2
    rw [hz] at this
    have e0 : pop 0 = 0 := by decide
    omega
  rcases h with ⟨h1, h2⟩ | ⟨m, h1, h2, h3, h4⟩
  · exact Or.inl ⟨h1, fun m hm => h2 m hm (key m hm)⟩
  · exact Or.inr ⟨m, h1, h2, fun k hk => h4 k hk (key k hk)⟩
theorem LM_0 {S : AS} {L : List Nat} {f : Nat} (hn : np S ≤ 16) : (rt L (tx S) = true → LM S L f 0 0) ∧ (¬ rt L (tx S) = true → LM S L f 0 (-6)) := by
  have key : ∀ m, okm S f 0 m → m = 0 := fun m h => pop_0 (Nat.lt_of_lt_of_le h.1 (p2_lt hn)) h.2.2
  have e0 : careU (od S) 0 L (np S) = L := careU_none (fun j _ => Nat.zero_testBit j)
  refine ⟨fun h => Or.inr ⟨0, rfl, ⟨⟨Nat.two_pow_pos _, fun j _ => Nat.zero_testBit j, by decide⟩, by rw [e0]; exact h⟩, fun k _ => Nat.zero_le k⟩, fun h => Or.inl ⟨rfl, fun m hm => h ?_⟩⟩
  have := key m hm.1
  subst this
  have h2 := hm.2
  rw [e0] at h2
  exact h2
def rmLM (s : Nat) : Room := { frames := 20 + s, cells := 0, slots := 0, locals := 2000 + 28 * s }
theorem Ct.mono {l : Launch} {D : va_G} {y : MethodName} {ws : List Cond} {rm : Room} {mc ms : Nat} {av : List Value} {n : Nat} {sk : Sk} {v : Mem} {post post' : Option Value → Sk → Mem → Prop} (h : Ct l D y ws rm mc ms av n sk v post) (hp : ∀ r sk' v', post r sk' v' → post' r sk' v') : Ct l D y ws rm mc ms av n sk v post' := by
  intro p e ha hc hk s m args below hf h1 h2 h3
  obtain ⟨k, o, g1, g2, g3, ⟨⟨r, sk', v', q1, q2, q3⟩, q4⟩, q5⟩ := h p e ha hc hk s m args below hf h1 h2 h3
  exact ⟨k, o, g1, g2, g3, ⟨⟨r, sk', v', q1, hp _ _ _ q2, q3⟩, q4⟩, q5⟩
set_option maxHeartbeats 4000000 in
set_option maxRecDepth 100000 in
theorem c_LM0 (l : Launch) (D : va_G) (nH : Nat) (sk : Sk) (v : Mem) (x d f : Nat) (S : AS) (L : List Nat) (hX : Xd D sk x) (hS : SR v (x + 1) S) (hd : d ≤ 3) (hL : BP v (x + 224 + 2 * d) L) : CtI l D yX4_lowestMending wsX4_lowestMending (rmLM 0) [.ref (x + 1), .ref (x + 175), .int (I d), .int (I f), .int (I 0)] nH sk v (fun z v' => LM S L f 0 z ∧ v = v') := by
  refine ct_of (cc := cX4_lowestMending) (maxL := 9) (ret := (some .int)) rfl rfl (Nat.le_of_ble_eq_true rfl) ?_
  intro p_ e_ s_ m_ args_ below_ meth_ c_ X hmn hsz
  have hinX3 : ∀ w ∈ wsX30, w ∈ wsX4_lowestMending := by decide +kernel
  obtain ⟨x0, hN, hH, ⟨gs, x171, hgs⟩, x172, hPd, ⟨gt, x175, hgt⟩, hSl, hTr⟩ := id hX
  obtain ⟨n0, n1, n2, n3, ⟨gn, n5, hgn⟩, n6, n7, n8⟩ := id hN
  obtain ⟨hh0, hh1, hh2⟩ := id hH
  obtain ⟨p0, p1⟩ := id hPd
  obtain ⟨n30, n31⟩ := id n3
  obtain ⟨r1, r2, r3, r4, r5, r6⟩ := id hS
  have hnp := r2.1
  have hno8 := r1.2.1
  have hnp16 := r1.1
  obtain ⟨T, hTp, hT⟩ := id r4
  have hu := r1.2.2.2.1
  have huT := unq_perm hTp.symm hu
  have hd0 := hTr d (by omega)
  obtain ⟨hd00, hd01⟩ := id hd0
  obtain ⟨L1, hp1, hL1⟩ := id hL
  have hlm := LM_0 (S := S) (L := L) (f := f) hnp16
  refine j_iload X dX4_lowestMending_0 rfl ?_
  refine j_if_le (tgt := 10) X dX4_lowestMending_2 (by omega) (by decide) (fun c2 => ?_) (fun c2 => ?_)
  · refine j_aload_n X dX4_lowestMending_10 rfl ?_
    refine j_iload_n X dX4_lowestMending_11 rfl ?_
    refine j_aald (t0 := 3) X dX4_lowestMending_12 (by assumption) rfl (by omega) (by decide) (by rw [Int.toNat_natCast]; exact hgt d (by omega)) ?_
    refine j_aload_n X dX4_lowestMending_13 rfl ?_
    refine j_getrN X dX4_lowestMending_14 (T := TX3) (N := 8) (C := RX3) hinX3 rfl (by assumption) 3 (by decide) (by decide) rfl rfl ?_
    refine j_callV (nn := 1) X dX4_lowestMending_17 (c_X0_isSameAs l D nH sk v (x + 224 + 2 * d) (x + 1 + 3) L1 T hd0 hL1 n3 hT) gX4_lowestMending_X0_isSameAs rfl ⟨rfl, rfl⟩ (by decide +kernel) ⟨Nat.le_trans (m := 20) (Nat.le_of_ble_eq_true rfl) (Nat.le_add_right 20 _), Nat.le_trans (m := 2000) (Nat.le_of_ble_eq_true rfl) (Nat.le_add_right 2000 _)⟩ (by assumption) ⟨rfl, rfl⟩ rfl rfl (Nat.le_of_ble_eq_true rfl) ⟨Nat.zero_le _, Nat.zero_le _⟩ (kI (fun z17 v17 h17 => ?_))
    obtain ⟨hz17a, hz17b, rfl⟩ := h17
    refine j_if_eq (tgt := 27) X dX4_lowestMending_20 (by omega) (by decide) (fun c20 => ?_) (fun c20 => ?_)
    · refine j_bipush X dX4_lowestMending_27 (by decide) ?_
      first
      | have hret : LM S L f 0 0 ∧ v = v := ⟨hlm.1 (rt_iff.mpr (by have e := hz17b.mp (by omega); rw [e] at hp1; exact hp1.symm.trans hTp)), rfl⟩
      | have hret : LM S L f 0 (-6) ∧ v = v := ⟨hlm.2 (fun h => by have := hz17b.mpr (sorted_eq (hp1.trans ((rt_iff.mp h).trans hTp.symm)) hL1.2.2.2.1 hT.2.2.2.1); omega), rfl⟩
      exact j_iret X dX4_lowestMending_29 ⟨_, rfl, rfl, hret⟩
    · refine j_iconst X dX4_lowestMending_23 ?_
      refine j_goto (tgt := 29) X dX4_lowestMending_24 (by decide) ?_
      first
      | have hret : LM S L f 0 0 ∧ v = v := ⟨hlm.1 (rt_iff.mpr (by have e := hz17b.mp (by omega); rw [e] at hp1; exact hp1.symm.trans hTp)), rfl⟩
      | have hret : LM S L f 0 (-6) ∧ v = v := ⟨hlm.2 (fun h => by have := hz17b.mpr (sorted_eq (hp1.trans ((rt_iff.mp h).trans hTp.symm)) hL1.2.2.2.1 hT.2.2.2.1); omega), rfl⟩
      exact j_iret X dX4_lowestMending_29 ⟨_, rfl, rfl, hret⟩
  · exact absurd (Int.le_refl 0) c2
set_option maxHeartbeats 4000000 in
set_option maxRecDepth 100000 in
theorem c_LMs (l : Launch) (D : va_G) (nH : Nat) (sk : Sk) (v : Mem) (x d f s : Nat) (S : AS) (L : List Nat) (IH : ∀ (d f : Nat) (v : Mem) (L : List Nat), SR v (x + 1) S → d + s ≤ 3 → f ≤ np S → BP v (x + 224 + 2 * d) L → CtI l D yX4_lowestMending wsX4_lowestMending (rmLM s) [.ref (x + 1), .ref (x + 175), .int (I d), .int (I f), .int (I s)] nH sk v (fun z v' => LM S L f s z ∧ ∀ a, a < x + 224 + 2 * (d + 1) ∨ x + 232 ≤ a → v' a = v a)) (hX : Xd D sk x) (hS : SR v (x + 1) S) (hd : d + (s + 1) ≤ 3) (hf : f ≤ np S) (hL : BP v (x + 224 + 2 * d) L) : CtI l D yX4_lowestMending wsX4_lowestMending (rmLM (s + 1)) [.ref (x + 1), .ref (x + 175), .int (I d), .int (I f), .int (I ((s + 1 : Nat) : Int))] nH sk v (fun z v' => LM S L f (s + 1) z ∧ ∀ a, a < x + 224 + 2 * (d + 1) ∨ x + 232 ≤ a → v' a = v a) := by
  refine ct_of (cc := cX4_lowestMending) (maxL := 9) (ret := (some .int)) rfl rfl (Nat.le_of_ble_eq_true rfl) ?_
  intro p_ e_ s_ m_ args_ below_ meth_ c_ X hmn hsz
  have hinX3 : ∀ w ∈ wsX30, w ∈ wsX4_lowestMending := by decide +kernel
  obtain ⟨x0, hN, hH, ⟨gs, x171, hgs⟩, x172, hPd, ⟨gt, x175, hgt⟩, hSl, hTr⟩ := id hX
  obtain ⟨n0, n1, n2, n3, ⟨gn, n5, hgn⟩, n6, n7, n8⟩ := id hN
  obtain ⟨hh0, hh1, hh2⟩ := id hH
  obtain ⟨p0, p1⟩ := id hPd
  obtain ⟨n30, n31⟩ := id n3
  obtain ⟨r1, r2, r3, r4, r5, r6⟩ := id hS
  have hnp := r2.1
  have hno8 := r1.2.1
  have hnp16 := r1.1
  obtain ⟨T, hTp, hT⟩ := id r4
  have hu := r1.2.2.2.1
  have huT := unq_perm hTp.symm hu
  have hd0 := hTr d (by omega)
  obtain ⟨hd00, hd01⟩ := id hd0
  obtain ⟨L1, hp1, hL1⟩ := id hL
  have he0 := hTr (d + 1) (by omega)
  obtain ⟨he00, he01⟩ := id he0
  refine j_iload X dX4_lowestMending_0 rfl ?_
  refine j_if_le (tgt := 10) X dX4_lowestMending_2 (by omega) (by decide) (fun c2 => ?_) (fun c2 => ?_)
  · exfalso; omega
  · refine j_iload_n X dX4_lowestMending_5 rfl ?_
    refine j_iconst X dX4_lowestMending_6 ?_
    refine j_icmp_lt (tgt := 30) X dX4_lowestMending_7 (by omega) (by decide) (fun c7 => ?_) (fun c7 => ?_)
    · refine j_bipush X dX4_lowestMending_30 (by decide) ?_
      refine j_istore X dX4_lowestMending_32 rfl (Nat.le_of_ble_eq_true rfl) ?_
      refine j_iload_n X dX4_lowestMending_34 rfl ?_
      refine j_istore X dX4_lowestMending_35 rfl (Nat.le_of_ble_eq_true rfl) ?_
      refine j_loop (σ := Nat × Int × Mem) (fun (y_ : Nat × Int × Mem) => match y_ with | (p, z, u) => (f ≤ p ∧ p ≤ np S) ∧ LMr S L f (s + 1) p z ∧ ∀ a, a < x + 224 + 2 * (d + 1) ∨ x + 232 ≤ a → u a = v a) (fun (y_ : Nat × Int × Mem) => match y_ with | (p, z, u) => np S - p) (fun (y_ : Nat × Int × Mem) => match y_ with | (p, z, u) => (u, [some (.ref (x + 1)), some (.ref (x + 175)), some (.int (I (d : Int))), some (.int (I (f : Int))), some (.int (I ((s + 1 : Nat) : Int))), some (.int (I z)), some (.int (I (p : Int))), none, none])) ?_ (f, -6, v) ⟨by omega, Or.inl ⟨rfl, fun m hm ⟨j, hj, hb⟩ => by rw [hm.1.2.1 j hj] at hb; cases hb⟩, fun _ _ => rfl⟩
      intro y_ hx ih37
      obtain ⟨p, z, u⟩ := y_
      dsimp only at hx ih37 ⊢
      obtain ⟨hp, hz, hu⟩ := hx
      refine j_iload X dX4_lowestMending_37 rfl ?_
      refine j_aload_n X dX4_lowestMending_39 rfl ?_
      refine j_getiN X dX4_lowestMending_40 (T := TX3) (N := 8) (C := RX3) hinX3 rfl (by assumption) 2 (by decide) (by decide) rfl rfl ?_
      have hnu : u (x + 1) 2 = (np S : Int) := by rw [hu _ (by omega)]; exact hnp
      rw [hnu]
      refine j_icmp_ge (tgt := 129) X dX4_lowestMending_43 (by omega) (by decide) (fun c43 => ?_) (fun c43 => ?_)
      · refine j_iload X dX4_lowestMending_129 rfl ?_
        exact j_iret X dX4_lowestMending_131 ⟨_, rfl, rfl, ⟨hz.end hnp16 (by omega), hu⟩⟩
      · have hpn : p < np S := by omega
        refine j_aload_n X dX4_lowestMending_46 rfl ?_
        refine j_iload_n X dX4_lowestMending_47 rfl ?_
        refine j_iconst X dX4_lowestMending_48 ?_
        refine j_iadd X dX4_lowestMending_49 ?_
        refine j_aald (t0 := 3) X dX4_lowestMending_50 (by assumption) rfl (by omega) (by decide) (by rw [show ((d : Int) + 1).toNat = d + 1 by omega]; exact hgt (d + 1) (by omega)) ?_
        refine j_aload_n X dX4_lowestMending_51 rfl ?_
        refine j_iload_n X dX4_lowestMending_52 rfl ?_
        refine j_aald (t0 := 3) X dX4_lowestMending_53 (by assumption) rfl (by omega) (by decide) (by rw [Int.toNat_natCast]; exact hgt d (by omega)) ?_
        refine j_callV (nn := 1) X dX4_lowestMending_54 (c_X0_copy l D nH sk u (x + 224 + 2 * (d + 1)) (x + 224 + 2 * d) L1 he0 hd0 (hL1.kept (hu _ (by omega)) (hu _ (by omega)))) gX4_lowestMending_X0_copy rfl ⟨rfl, rfl⟩ (by decide +kernel) ⟨Nat.le_trans (m := 20) (Nat.le_of_ble_eq_true rfl) (Nat.le_add_right 20 _), Nat.le_trans (m := 2000) (Nat.le_of_ble_eq_true rfl) (Nat.le_add_right 2000 _)⟩ (by assumption) ⟨rfl, rfl⟩ rfl rfl (Nat.le_of_ble_eq_true rfl) ⟨Nat.zero_le _, Nat.zero_le _⟩ (kV (fun v54 h54 => ?_))
        obtain ⟨hL54, f54⟩ := h54
        refine j_aload_n X dX4_lowestMending_57 rfl ?_
        refine j_aload_n X dX4_lowestMending_58 rfl ?_
        refine j_iload_n X dX4_lowestMending_59 rfl ?_
        refine j_iconst X dX4_lowestMending_60 ?_
        refine j_iadd X dX4_lowestMending_61 ?_
        refine j_aald (t0 := 3) X dX4_lowestMending_62 (by assumption) rfl (by omega) (by decide) (by rw [show ((d : Int) + 1).toNat = d + 1 by omega]; exact hgt (d + 1) (by omega)) ?_
        refine j_iload X dX4_lowestMending_63 rfl ?_
        have hO54 : OR v54 (x + 1) S := r2.kept (by rw [f54 _ (by omega) (by omega), hu _ (by omega)]) (by rw [f54 _ (by omega) (by omega), hu _ (by omega)]) (by rw [f54 _ (by omega) (by omega), hu _ (by omega)])
        refine j_callV (nn := 2) X dX4_lowestMending_65 (c_X3_doWithCare l D nH sk v54 (x + 1) (x + 224 + 2 * (d + 1)) p S L hN he0 hO54 hpn ⟨L1, hp1, hL54⟩) gX4_lowestMending_X3_doWithCare rfl ⟨rfl, rfl⟩ (by decide +kernel) ⟨Nat.le_trans (m := 20) (Nat.le_of_ble_eq_true rfl) (Nat.le_add_right 20 _), Nat.le_trans (m := 2000) (Nat.le_of_ble_eq_true rfl) (Nat.le_add_right 2000 _)⟩ (by assumption) ⟨rfl, rfl⟩ rfl rfl (Nat.le_of_ble_eq_true rfl) ⟨Nat.zero_le _, Nat.zero_le _⟩ (kV (fun v65 h65 => ?_))
        obtain ⟨hB65, f65⟩ := h65
        have e65 : ∀ a, a < x + 224 + 2 * (d + 1) ∨ x + 232 ≤ a → v65 a = v a := fun a ha => by rw [f65 a (by omega) (by omega), f54 a (by omega) (by omega), hu a ha]
        refine j_aload_n X dX4_lowestMending_68 rfl ?_
        refine j_aload_n X dX4_lowestMending_69 rfl ?_
        refine j_iload_n X dX4_lowestMending_70 rfl ?_
        refine j_iconst X dX4_lowestMending_71 ?_
        refine j_iadd X dX4_lowestMending_72 ?_
        refine j_iload X dX4_lowestMending_73 rfl ?_
        refine j_iconst X dX4_lowestMending_75 ?_
        refine j_iadd X dX4_lowestMending_76 ?_
        refine j_iload X dX4_lowestMending_77 rfl ?_
        refine j_iconst X dX4_lowestMending_79 ?_
        refine j_isub X dX4_lowestMending_80 ?_
        rw [show (d : Int) + 1 = ((d + 1 : Nat) : Int) by omega, show (p : Int) + 1 = ((p + 1 : Nat) : Int) by omega, show ((s + 1 : Nat) : Int) - 1 = (s : Int) by omega]
        refine j_callS (nn := 5) X dX4_lowestMending_81 (IH (d + 1) (p + 1) v65 (careP (od S p) p L) (hS.kept (fun a ha hb => e65 a (by omega))) (by omega) (by omega) hB65) gX4_lowestMending_X4_lowestMending rfl ⟨rfl, rfl⟩ (by decide +kernel) ⟨by show 20 + s + 1 ≤ 20 + (s + 1); omega, by show 8 + (9 + 11) + (2000 + 28 * s) ≤ 2000 + 28 * (s + 1); omega⟩ rfl rfl (Nat.le_of_ble_eq_true rfl) ⟨Nat.zero_le _, Nat.zero_le _⟩ (kI (fun z81 v81 h81 => ?_))
        obtain ⟨hlm, f81⟩ := h81
        have e81 : ∀ a, a < x + 224 + 2 * (d + 1) ∨ x + 232 ≤ a → v81 a = v a := fun a ha => by rw [f81 a (by omega), e65 a ha]
        refine j_istore X dX4_lowestMending_84 rfl (Nat.le_of_ble_eq_true rfl) ?_
        refine j_iload X dX4_lowestMending_86 rfl ?_
        refine j_bipush X dX4_lowestMending_88 (by decide) ?_
        refine j_icmp_eq (tgt := 123) X dX4_lowestMending_90 (by have := hlm.bd hnp16; omega) (by decide) (fun c90 => ?_) (fun c90 => ?_)
        · have hBn : LMr S L f (s + 1) (p + 1) z := LM_none hnp16 hpn hz (by rcases hlm with h | ⟨m, h1, h2, h3⟩; exact h.2; omega)
          refine j_iinc X dX4_lowestMending_123 rfl rfl (Nat.le_of_ble_eq_true rfl) ?_
          refine j_goto (tgt := 37) X dX4_lowestMending_126 (by decide) ?_
          refine j_drop 7 ?_
          refine j_drop 8 ?_
          exact ih37 (p + 1, _, v81) (by (try dsimp only); exact ⟨by omega, (by first | exact hBn | exact LM_some hnp16 (by omega) hpn hz hg1 hg2 ⟨fun h => absurd h c106, fun _ => ⟨hz118a, hz118b⟩⟩), e81⟩) (by (try dsimp only); omega)
        · obtain ⟨m, rfl, hg1, hg2⟩ : ∃ m : Nat, z81 = (m : Int) ∧ gdm S (careP (od S p) p L) (p + 1) s m ∧ ∀ k, gdm S (careP (od S p) p L) (p + 1) s k → m ≤ k := by
            rcases hlm with h | h
            · exact absurd h.1 c90
            · exact h
          have hm16 : m ||| 2 ^ p < 65536 := or_lt (Nat.lt_of_lt_of_le hg1.1.1 (p2_lt hnp16)) (by omega)
          refine j_iload X dX4_lowestMending_93 rfl ?_
          refine j_iconst X dX4_lowestMending_95 ?_
          refine j_iload X dX4_lowestMending_96 rfl ?_
          refine j_ishl X dX4_lowestMending_98 (b_shl (by omega)) ?_
          refine j_ior X dX4_lowestMending_99 (b_or _ _) ?_
          refine j_istore X dX4_lowestMending_100 rfl (Nat.le_of_ble_eq_true rfl) ?_
          refine j_iload X dX4_lowestMending_102 rfl ?_
          refine j_bipush X dX4_lowestMending_104 (by decide) ?_
          refine j_icmp_ne (tgt := 114) X dX4_lowestMending_106 (by have := hz.bd hnp16; omega) (by decide) (fun c106 => ?_) (fun c106 => ?_)
          · refine j_iload X dX4_lowestMending_114 rfl ?_
            refine j_iload X dX4_lowestMending_116 rfl ?_
            refine j_min X dX4_lowestMending_118 ⟨by decide +kernel, by decide +kernel, by decide +kernel, by decide +kernel⟩ (by have := hz.bd hnp16; omega) (by show 1 ≤ 20 + (s + 1); omega) (by show 0 + 13 ≤ 2000 + 28 * (s + 1); omega) ⟨Nat.zero_le _, Nat.zero_le _⟩ (fun z118 hz118a hz118b => ?_)
            skip
            refine j_istore X dX4_lowestMending_121 rfl (Nat.le_of_ble_eq_true rfl) ?_
            refine j_iinc X dX4_lowestMending_123 rfl rfl (Nat.le_of_ble_eq_true rfl) ?_
            refine j_goto (tgt := 37) X dX4_lowestMending_126 (by decide) ?_
            refine j_drop 7 ?_
            refine j_drop 8 ?_
            exact ih37 (p + 1, _, v81) (by (try dsimp only); exact ⟨by omega, (by first | exact hBn | exact LM_some hnp16 (by omega) hpn hz hg1 hg2 ⟨fun h => absurd h c106, fun _ => ⟨hz118a, hz118b⟩⟩), e81⟩) (by (try dsimp only); omega)
          · have hBn : LMr S L f (s + 1) (p + 1) ((m ||| 2 ^ p : Nat) : Int) := LM_some hnp16 (by omega) hpn hz hg1 hg2 ⟨fun _ => rfl, fun h => absurd c106 h⟩
            refine j_iload X dX4_lowestMending_109 rfl ?_
            refine j_goto (tgt := 121) X dX4_lowestMending_111 (by decide) ?_
            skip
            refine j_istore X dX4_lowestMending_121 rfl (Nat.le_of_ble_eq_true rfl) ?_
            refine j_iinc X dX4_lowestMending_123 rfl rfl (Nat.le_of_ble_eq_true rfl) ?_
            refine j_goto (tgt := 37) X dX4_lowestMending_126 (by decide) ?_
            refine j_drop 7 ?_
            refine j_drop 8 ?_
            exact ih37 (p + 1, _, v81) (by (try dsimp only); exact ⟨by omega, (by first | exact hBn | exact LM_some hnp16 (by omega) hpn hz hg1 hg2 ⟨fun h => absurd h c106, fun _ => ⟨hz118a, hz118b⟩⟩), e81⟩) (by (try dsimp only); omega)
    · exfalso; omega
theorem c_LM (l : Launch) (D : va_G) (nH : Nat) (sk : Sk) (x : Nat) (S : AS) (hX : Xd D sk x) : ∀ (s d f : Nat) (v : Mem) (L : List Nat), SR v (x + 1) S → d + s ≤ 3 → f ≤ np S → BP v (x + 224 + 2 * d) L → CtI l D yX4_lowestMending wsX4_lowestMending (rmLM s) [.ref (x + 1), .ref (x + 175), .int (I d), .int (I f), .int (I s)] nH sk v (fun z v' => LM S L f s z ∧ ∀ a, a < x + 224 + 2 * (d + 1) ∨ x + 232 ≤ a → v' a = v a) := by
  intro s
  induction s with
  | zero =>
    intro d f v L hS hd hf hL
    refine Ct.mono (c_LM0 l D nH sk v x d f S L hX hS (by omega) hL) ?_
    rintro r sk' v' ⟨z, e1, e2, h1, rfl⟩
    exact ⟨z, e1, e2, h1, fun _ _ => rfl⟩
  | succ s ih =>
    intro d f v L hS hd hf hL
    exact c_LMs l D nH sk v x d f s S L (fun d f v L h1 h2 h3 h4 => ih d f v L h1 h2 h3 h4) hX hS hd hf hL
def rmX4_mending : Room := { frames := 25, cells := 0, slots := 0, locals := 2128 }
set_option maxHeartbeats 4000000 in
set_option maxRecDepth 100000 in
theorem c_X4_mending (l : Launch) (D : va_G) (nH : Nat) (sk : Sk) (v : Mem) (x : Nat) (o : Int) (G : GS) (hX : Xd D sk x) (hR : XR v x G)(ho : -2147483648 ≤ o ∧ o ≤ 2147483647) : CtI l D yX4_mending wsX4_mending rmX4_mending [.ref x, .int (I o)] nH sk v (fun z v' => z = sMending G o ∧ XR v' x G ∧ frX v v' x) := by
  refine ct_of (cc := cX4_mending) (maxL := 4) (ret := (some .int)) rfl rfl (Nat.le_of_ble_eq_true rfl) ?_
  intro p_ e_ s_ m_ args_ below_ meth_ c_ X hmn hsz
  have hinX3 : ∀ w ∈ wsX30, w ∈ wsX4_mending := by decide +kernel
  have hinX4 : ∀ w ∈ wsX40, w ∈ wsX4_mending := by decide +kernel
  obtain ⟨x0, hN, hH, ⟨gs, x171, hgs⟩, x172, hPd, ⟨gt, x175, hgt⟩, hSl, hTr⟩ := id hX
  obtain ⟨n0, n1, n2, n3, ⟨gn, n5, hgn⟩, n6, n7, n8⟩ := id hN
  obtain ⟨hh0, hh1, hh2⟩ := id hH
  obtain ⟨p0, p1⟩ := id hPd
  obtain ⟨n30, n31⟩ := id n3
  obtain ⟨hS, hHR, hP, hSlR⟩ := id hR
  obtain ⟨r1, r2, r3, r4, r5, r6⟩ := id hS
  have hnp := r2.1
  have hno8 := r1.2.1
  have hnp16 := r1.1
  have htr := hTr 0 (by omega)
  rw [show x + 224 + 2 * 0 = x + 224 by omega] at htr
  obtain ⟨htr0, htr1⟩ := id htr
  refine j_aload_n X dX4_mending_0 rfl ?_
  refine j_getr X dX4_mending_1 (T := TX4) (N := 6) (C := RX4) hinX4 rfl (by assumption) 0 (by decide) (by decide +kernel) rfl ?_
  refine j_iload_n X dX4_mending_4 rfl ?_
  refine j_callV (nn := 1) X dX4_mending_5 (c_X3_hasOwner l D nH sk v (x + 1) o (no G.1) hN ho r3 hno8) gX4_mending_X3_hasOwner rfl ⟨rfl, rfl⟩ (by decide +kernel) ⟨Nat.le_of_ble_eq_true rfl, Nat.le_of_ble_eq_true rfl⟩ (by assumption) ⟨rfl, rfl⟩ rfl rfl (Nat.le_of_ble_eq_true rfl) ⟨Nat.zero_le _, Nat.zero_le _⟩ (kI (fun z5 v5 h5 => ?_))
  obtain ⟨hz5a, hz5b, rfl⟩ := h5
  refine j_if_ne (tgt := 13) X dX4_mending_8 (by omega) (by decide) (fun c8 => ?_) (fun c8 => ?_)
  · have hqi : 0 ≤ o ∧ o < (no G.1 : Int) := by omega
    obtain ⟨i, rfl⟩ : ∃ i : Nat, o = (i : Int) := ⟨o.toNat, by omega⟩
    obtain ⟨hBi, hWi, hLi⟩ := r6 i (by omega)
    have hbi := n8 i (by omega)
    obtain ⟨hbi0, hbi1⟩ := id hbi
    obtain ⟨L1, hp1, hL1⟩ := id hBi
    refine j_aload_n X dX4_mending_13 rfl ?_
    refine j_getr X dX4_mending_14 (T := TX4) (N := 6) (C := RX4) hinX4 rfl (by assumption) 5 (by decide) (by decide +kernel) rfl ?_
    refine j_iconst X dX4_mending_17 ?_
    refine j_aald (t0 := 3) X dX4_mending_18 (by assumption) rfl (by omega) (by decide) (show gt (Int.toNat 0) = some (x + 224) from hgt 0 (by omega)) ?_
    refine j_aload_n X dX4_mending_19 rfl ?_
    refine j_getr X dX4_mending_20 (T := TX4) (N := 6) (C := RX4) hinX4 rfl (by assumption) 0 (by decide) (by decide +kernel) rfl ?_
    refine j_getrN X dX4_mending_23 (T := TX3) (N := 8) (C := RX3) hinX3 rfl (by assumption) 4 (by decide) (by decide) rfl rfl ?_
    refine j_iload_n X dX4_mending_26 rfl ?_
    refine j_aald (t0 := 3) X dX4_mending_27 (by assumption) rfl (by omega) (by decide) (by rw [Int.toNat_natCast]; exact hgn i (by omega)) ?_
    refine j_callV (nn := 1) X dX4_mending_28 (c_X0_copy l D nH sk v (x + 224) (x + 1 + 8 + 2 * i) L1 htr hbi hL1) gX4_mending_X0_copy rfl ⟨rfl, rfl⟩ (by decide +kernel) ⟨Nat.le_of_ble_eq_true rfl, Nat.le_of_ble_eq_true rfl⟩ (by assumption) ⟨rfl, rfl⟩ rfl rfl (Nat.le_of_ble_eq_true rfl) ⟨Nat.zero_le _, Nat.zero_le _⟩ (kV (fun v28 h28 => ?_))
    obtain ⟨hL28, f28⟩ := h28
    refine j_iconst X dX4_mending_31 ?_
    refine j_istore_n X dX4_mending_32 rfl (Nat.le_of_ble_eq_true rfl) ?_
    refine j_loop (σ := Nat × Mem) (fun (y_ : Nat × Mem) => match y_ with | (n, u) => n ≤ 4 ∧ (∀ k, k < n → ∀ m, ¬ gdm G.1 (bn G.1 i) 0 k m) ∧ BP u (x + 224) (bn G.1 i) ∧ ∀ a, a < x + 224 ∨ x + 232 ≤ a → u a = v a) (fun (y_ : Nat × Mem) => match y_ with | (n, u) => 4 - n) (fun (y_ : Nat × Mem) => match y_ with | (n, u) => (u, [some (.ref x), some (.int (I (i : Int))), some (.int (I (n : Int))), none])) ?_ (0, v28) ⟨by omega, fun k h => absurd h (by omega), ⟨L1, hp1, hL28⟩, fun a ha => f28 a (by omega) (by omega)⟩
    intro y_ hx ih33
    obtain ⟨n, u⟩ := y_
    dsimp only at hx ih33 ⊢
    obtain ⟨hn, hk, hBu, hu⟩ := hx
    refine j_iload_n X dX4_mending_33 rfl ?_
    refine j_iconst X dX4_mending_34 ?_
    refine j_icmp_gt (tgt := 67) X dX4_mending_35 (by omega) (by decide) (fun c35 => ?_) (fun c35 => ?_)
    · refine j_bipush X dX4_mending_67 (by decide) ?_
      exact j_iret X dX4_mending_69 ⟨_, rfl, rfl, ⟨by unfold sMending; rw [cite_f (by unfold isO; omega), Int.toNat_natCast]; exact (the_is (Or.inr ⟨rfl, fun m hm => hk (pop m) (by have := hm.2.1; omega) m ⟨⟨hm.1, fun j hj => absurd hj (by omega), rfl⟩, hm.2.2⟩⟩) (fun a b h1 h2 => h1.uniq h2)).symm, hR.try hu⟩⟩
    · refine j_aload_n X dX4_mending_38 rfl ?_
      refine j_getr X dX4_mending_39 (T := TX4) (N := 6) (C := RX4) hinX4 rfl (by assumption) 0 (by decide) (by decide +kernel) rfl ?_
      refine j_aload_n X dX4_mending_42 rfl ?_
      refine j_getr X dX4_mending_43 (T := TX4) (N := 6) (C := RX4) hinX4 rfl (by assumption) 5 (by decide) (by decide +kernel) rfl ?_
      refine j_iconst X dX4_mending_46 ?_
      refine j_iconst X dX4_mending_47 ?_
      refine j_iload_n X dX4_mending_48 rfl ?_
      refine j_callS (nn := 5) X dX4_mending_49 (c_LM l D nH sk x G.1 hX n 0 0 u (bn G.1 i) (hS.kept (fun a ha hb => hu a (by omega))) (by omega) (by omega) hBu) gX4_mending_X4_lowestMending rfl ⟨rfl, rfl⟩ (by decide +kernel) ⟨by show 20 + n + 1 ≤ 25; omega, by show 8 + (9 + 11) + (2000 + 28 * n) ≤ 2128; omega⟩ rfl rfl (Nat.le_of_ble_eq_true rfl) ⟨Nat.zero_le _, Nat.zero_le _⟩ (kI (fun z49 v49 h49 => ?_))
      obtain ⟨hlm, f49⟩ := h49
      have e49 : ∀ a, a < x + 224 ∨ x + 232 ≤ a → v49 a = v a := fun a ha => by rw [f49 a (by omega), hu a ha]
      refine j_istore_n X dX4_mending_52 rfl (Nat.le_of_ble_eq_true rfl) ?_
      refine j_iload_n X dX4_mending_53 rfl ?_
      refine j_bipush X dX4_mending_54 (by decide) ?_
      refine j_icmp_eq (tgt := 61) X dX4_mending_56 (by have := hlm.bd hnp16; omega) (by decide) (fun c56 => ?_) (fun c56 => ?_)
      · have hnone : ∀ m, ¬ gdm G.1 (bn G.1 i) 0 n m := by
          rcases hlm with h | ⟨m, h1, -⟩
          · exact h.2
          · omega
        refine j_iinc X dX4_mending_61 rfl rfl (Nat.le_of_ble_eq_true rfl) ?_
        refine j_goto (tgt := 33) X dX4_mending_64 (by decide) ?_
        refine j_drop 3 ?_
        exact ih33 (n + 1, v49) (by (try dsimp only); exact ⟨by omega, fun k hk2 m => by rcases Nat.lt_or_ge k n with y | y; exact hk k y m; have hkn : k = n := (by omega); subst hkn; exact hnone m, hBu.kept (f49 _ (by omega)) (f49 _ (by omega)), e49⟩) (by (try dsimp only); omega)
      · obtain ⟨m, rfl, hg1, hg2⟩ : ∃ m : Nat, z49 = (m : Int) ∧ gdm G.1 (bn G.1 i) 0 n m ∧ ∀ k, gdm G.1 (bn G.1 i) 0 n k → m ≤ k := by
          rcases hlm with h | h
          · exact absurd h.1 c56
          · exact h
        refine j_iload_n X dX4_mending_59 rfl ?_
        exact j_iret X dX4_mending_60 ⟨_, rfl, rfl, ⟨by unfold sMending; rw [cite_f (by unfold isO; omega), Int.toNat_natCast]; exact (the_is (Or.inl ⟨m, rfl, ⟨hg1.1.1, by have := hg1.1.2.2; omega, hg1.2⟩, fun k hk3 => by rcases Nat.lt_trichotomy (pop k) n with y | y | y; exact absurd ⟨⟨hk3.1, fun j hj => absurd hj (by omega), rfl⟩, hk3.2.2⟩ (hk (pop k) y k); exact Or.inr ⟨hg1.1.2.2.trans y.symm, hg2 k ⟨⟨hk3.1, fun j hj => absurd hj (by omega), y⟩, hk3.2.2⟩⟩; exact Or.inl (by rw [hg1.1.2.2]; exact y)⟩) (fun a b h1 h2 => h1.uniq h2)).symm, hR.try e49⟩⟩
  · refine j_iconst X dX4_mending_11 ?_
    exact j_iret X dX4_mending_12 ⟨_, rfl, rfl, ⟨(cite_t (by unfold isO; omega) _ _).symm, hR, frX.refl _ _⟩⟩
