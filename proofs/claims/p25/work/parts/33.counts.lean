/-! ===== sums over the first numbers ===== -/
def sU (f : Nat → Nat) : Nat → Nat
  | 0 => 0
  | m + 1 => sU f m + f m
theorem sU_s (f : Nat → Nat) (m : Nat) : sU f (m + 1) = sU f m + f m := rfl
theorem sU_congr {f g : Nat → Nat} : ∀ {m : Nat}, (∀ i, i < m → f i = g i) → sU f m = sU g m
  | 0, _ => rfl
  | m + 1, h => by
    rw [sU_s, sU_s, sU_congr (fun i hi => h i (by omega)), h m (by omega)]
theorem sU_add (f g : Nat → Nat) : ∀ m, sU (fun i => f i + g i) m = sU f m + sU g m
  | 0 => rfl
  | m + 1 => by
    rw [sU_s, sU_s, sU_s, sU_add f g m]
    omega
theorem sU_zero : ∀ m, sU (fun _ => 0) m = 0
  | 0 => rfl
  | m + 1 => by rw [sU_s, sU_zero m]
theorem sU_one (w : Nat → Nat) (j : Nat) : ∀ m, sU (fun i => if i = j then w i else 0) m = if j < m then w j else 0
  | 0 => by simp [sU]
  | m + 1 => by
    rw [sU_s, sU_one w j m]
    by_cases h : m = j
    · subst h; simp
    · by_cases h2 : j < m
      · rw [if_pos h2, if_neg h, if_pos (by omega), Nat.add_zero]
      · rw [if_neg h2, if_neg h, if_neg (by omega)]
theorem sU_le {f g : Nat → Nat} : ∀ {m : Nat}, (∀ i, i < m → f i ≤ g i) → sU f m ≤ sU g m
  | 0, _ => Nat.le_refl _
  | m + 1, h => by
    rw [sU_s, sU_s]
    exact Nat.add_le_add (sU_le (fun i hi => h i (by omega))) (h m (by omega))
theorem sU_lt {f g : Nat → Nat} {j : Nat} : ∀ {m : Nat}, (∀ i, i < m → f i ≤ g i) → j < m → f j < g j → sU f m < sU g m
  | 0, _, hj, _ => absurd hj (Nat.not_lt_zero _)
  | m + 1, h, hj, hl => by
    rw [sU_s, sU_s]
    by_cases q : j = m
    · subst q
      exact Nat.add_lt_add_of_le_of_lt (sU_le (fun i hi => h i (by omega))) hl
    · exact Nat.add_lt_add_of_lt_of_le (sU_lt (fun i hi => h i (by omega)) (by omega) hl) (h m (by omega))
theorem sU_mono (f : Nat → Nat) {k m : Nat} (h : k ≤ m) : sU f k ≤ sU f m := by
  induction m with
  | zero => rw [Nat.le_zero.mp h]; exact Nat.le_refl _
  | succ m ih =>
    rw [sU_s]
    by_cases q : k ≤ m
    · exact Nat.le_trans (ih q) (Nat.le_add_right _ _)
    · rw [show k = m + 1 by omega, sU_s]
      exact Nat.le_refl _
theorem sU_blocks (f : Nat → Nat) : ∀ m, sU f (6 * m) = sU (fun d => sU (fun i => f (6 * d + i)) 6) m
  | 0 => rfl
  | m + 1 => by
    rw [sU_s, ← sU_blocks f m]
    show sU f (6 * m + 6) = _
    simp only [sU_s]
    simp only [sU, Nat.add_zero]
    omega
/-! ===== rows of counts, out of lists of leaves ===== -/
def lfc (k : Nat) : Nat := (k / 6 + 10) * 16 + k % 6
def ixL (x : Nat) : Nat := (x / 16 - 10) * 6 + x % 16
def cA (L : List Nat) (k : Nat) : Nat := L.count (lfc k)
def okx (x : Nat) : Prop := 160 ≤ x ∧ x < 320 ∧ x % 16 < 6
def okL (L : List Nat) : Prop := ∀ x ∈ L, okx x
theorem okL.nil : okL [] := fun _ h => absurd h List.not_mem_nil
theorem okL.tl {x : Nat} {t : List Nat} (h : okL (x :: t)) : okL t := fun y hy => h y (List.mem_cons_of_mem _ hy)
theorem okL.b {L : List Nat} (h : okL L) : ∀ x ∈ L, 160 ≤ x ∧ x < 1600 := fun x hx => by
  have := h x hx
  unfold okx at this
  omega
theorem lfc_ix {x : Nat} (h : okx x) : lfc (ixL x) = x ∧ ixL x < 60 := by
  unfold okx at h
  unfold lfc ixL
  omega
theorem ix_lfc {k : Nat} (h : k < 60) : ixL (lfc k) = k ∧ okx (lfc k) := by
  unfold okx lfc ixL
  omega
theorem lfc_6 (d : Nat) {i : Nat} (hi : i < 6) : lfc (6 * d + i) = (d + 10) * 16 + i := by
  unfold lfc
  omega
theorem lfc_eq {x k : Nat} (hx : okx x) (hk : k < 60) : x = lfc k ↔ k = ixL x :=
  ⟨fun h => by subst h; exact (ix_lfc hk).1.symm, fun h => by subst h; exact (lfc_ix hx).1.symm⟩
theorem cA_nil (k : Nat) : cA [] k = 0 := by simp [cA]
theorem cA_cons (x : Nat) (L : List Nat) (k : Nat) : cA (x :: L) k = cA L k + if x = lfc k then 1 else 0 := by
  unfold cA
  rw [List.count_cons]
  simp
theorem cA_perm {L M : List Nat} (h : L.Perm M) (k : Nat) : cA L k = cA M k := h.count_eq _
theorem ones : ∀ L : List Nat, (L.map (fun _ => 1)).sum = L.length
  | [] => rfl
  | x :: t => by
    rw [List.map_cons, List.sum_cons, ones t, List.length_cons]
    omega
/-- what a sum over the leaves is, over the cells -/
theorem dbl (w : Nat → Nat) : ∀ {L : List Nat}, okL L → sU (fun k => cA L k * w k) 60 = (L.map (fun x => w (ixL x))).sum
  | [], _ => by
    have e : ∀ k, k < 60 → cA [] k * w k = 0 := fun k _ => by rw [cA_nil, Nat.zero_mul]
    rw [sU_congr e, sU_zero]
    rfl
  | x :: t, h => by
    have hx := h x List.mem_cons_self
    have ih := dbl w h.tl
    have e : ∀ k, k < 60 → cA (x :: t) k * w k = cA t k * w k + (if k = ixL x then w k else 0) := fun k hk => by
      rw [cA_cons, Nat.add_mul]
      congr 1
      by_cases q : k = ixL x
      · rw [if_pos q, if_pos ((lfc_eq hx hk).mpr q), Nat.one_mul]
      · rw [if_neg q, if_neg (fun z => q ((lfc_eq hx hk).mp z)), Nat.zero_mul]
    rw [sU_congr e, sU_add, ih, sU_one, if_pos (lfc_ix hx).2, List.map_cons, List.sum_cons]
    omega
theorem len_cA {L : List Nat} (h : okL L) : sU (cA L) 60 = L.length := by
  have e := dbl (fun _ => 1) h
  have e2 : sU (fun k => cA L k * 1) 60 = sU (cA L) 60 := sU_congr (fun i _ => Nat.mul_one _)
  have e3 := ones L
  rw [← e2, ← e3]
  exact e
theorem cnt_cA {d : Nat} (hd : d < 10) : ∀ {L : List Nat}, okL L → sU (fun i => cA L (6 * d + i)) 6 = cntN L (d + 10)
  | [], _ => by
    have e : ∀ i, i < 6 → cA [] (6 * d + i) = 0 := fun k _ => cA_nil _
    rw [sU_congr e, sU_zero]
    rfl
  | x :: t, h => by
    have hx := h x List.mem_cons_self
    have ih := cnt_cA hd h.tl
    have e : ∀ i, i < 6 → cA (x :: t) (6 * d + i) = cA t (6 * d + i) + (if i = x % 16 then (fun _ => if x / 16 = d + 10 then 1 else 0) i else 0) := fun i hi => by
      rw [cA_cons, lfc_6 d hi]
      congr 1
      unfold okx at hx
      dsimp only
      by_cases q : i = x % 16
      · by_cases r : x / 16 = d + 10
        · rw [if_pos q, if_pos r, if_pos (by omega)]
        · rw [if_pos q, if_neg r, if_neg (by omega)]
      · rw [if_neg q, if_neg (by omega)]
    rw [sU_congr e, sU_add, ih, sU_one, if_pos hx.2.2]
    unfold cntN
    rw [List.countP_cons]
    simp
theorem len_CN {L : List Nat} (h : okL L) : sU (fun d => cntN L (d + 10)) 10 = L.length := by
  rw [← len_cA h, show 60 = 6 * 10 from rfl, sU_blocks]
  exact sU_congr (fun d hd => (cnt_cA hd h).symm)
theorem cA_le {L : List Nat} (k : Nat) : cA L k ≤ L.length := List.count_le_length
theorem cA_remA (L : List Nat) (n k : Nat) : cA (remA L n) k = if k / 6 + 10 = n then 0 else cA L k := by
  unfold cA remA
  by_cases q : k / 6 + 10 = n
  · rw [if_pos q, List.count_eq_zero]
    intro h
    have h2 := (List.mem_filter.mp h).2
    have e : lfc k / 16 = n := by unfold lfc; omega
    simp [e] at h2
  · have e : lfc k / 16 ≠ n := by unfold lfc; omega
    rw [if_neg q, List.count_filter (by simp [e])]
theorem cA_app (L : List Nat) (x k : Nat) : cA (L ++ [x]) k = cA L k + if x = lfc k then 1 else 0 := by
  unfold cA
  rw [List.count_append, List.count_cons, List.count_nil]
  simp
theorem cA_insL {L : List Nat} (h : L.length < 60) (x k : Nat) : cA (insL L x) k = cA L k + if x = lfc k then 1 else 0 := by
  unfold insL
  rw [if_pos h, cA_app]
theorem cA_erase (L : List Nat) (x k : Nat) : cA (L.erase x) k = cA L k - if x = lfc k then 1 else 0 := by
  unfold cA
  rw [List.count_erase]
  simp
theorem cA_pos {L : List Nat} {k : Nat} : cA L k ≠ 0 ↔ lfc k ∈ L := by
  unfold cA
  rw [← Nat.pos_iff_ne_zero, List.count_pos_iff]
/-- an order of the law's: its number is 1.0 to 1.9 -/
def oO (x : Nat) : Prop := 10 ≤ x % 100 ∧ x % 100 < 20 ∧ x < 200
theorem okL_remA {L : List Nat} (h : okL L) (n : Nat) : okL (remA L n) := fun x hx => h x (List.mem_filter.mp hx).1
theorem okL_app {L : List Nat} (h : okL L) {x : Nat} (hx : okx x) : okL (L ++ [x]) := fun y hy => by
  rcases List.mem_append.mp hy with q | q
  · exact h y q
  · rw [List.mem_singleton.mp q]; exact hx
theorem okL_insL {L : List Nat} (h : okL L) {x : Nat} (hx : okx x) : okL (insL L x) := by
  unfold insL
  split
  · exact okL_app h hx
  · exact h
theorem okL_erase {L : List Nat} (h : okL L) (x : Nat) : okL (L.erase x) := fun y hy => h y (List.mem_of_mem_erase hy)
theorem okx_put {x p : Nat} (hx : oO x) (hp : p < 6) : okx (x % 100 * 16 + p) := by
  unfold oO at hx
  unfold okx
  omega
theorem okL_care1 {L : List Nat} (h : okL L) {p x : Nat} (hp : p < 6) (hx : oO x) : okL (care1 p L x) := by
  unfold care1
  split
  · exact okL_insL (okL_remA h _) (okx_put hx hp)
  · exact okL_remA h _
theorem okL_remE {L : List Nat} (h : okL L) (n : Nat) : okL (remE L n) := by
  unfold remE
  split
  · exact h
  · exact okL_erase h _
theorem okL_less1 {L : List Nat} (h : okL L) {p x : Nat} (hp : p < 6) (hx : oO x) : okL (less1 p L x) := by
  unfold less1
  split
  · exact okL_insL h (okx_put hx hp)
  · exact okL_remE h _
theorem cA_care1 {L : List Nat} {p x : Nat} (hp : p < 6) (hl : (remA L (x % 100)).length < 60) (k : Nat) : cA (care1 p L x) k = if k / 6 + 10 = x % 100 then (if 100 ≤ x ∧ k % 6 = p then 1 else 0) else cA L k := by
  unfold care1
  by_cases q : 100 ≤ x
  · rw [if_pos q, cA_insL hl, cA_remA]
    by_cases r : k / 6 + 10 = x % 100
    · rw [if_pos r, if_pos r]
      by_cases t : k % 6 = p
      · rw [if_pos (show x % 100 * 16 + p = lfc k by unfold lfc; omega), if_pos ⟨q, t⟩]
      · rw [if_neg (show ¬ x % 100 * 16 + p = lfc k by unfold lfc; omega), if_neg (fun z => t z.2)]
    · rw [if_neg r, if_neg r, if_neg (by unfold lfc; omega)]
      rfl
  · rw [if_neg q, cA_remA]
    by_cases r : k / 6 + 10 = x % 100
    · rw [if_pos r, if_pos r, if_neg (fun z => q z.1)]
    · rw [if_neg r, if_neg r]
theorem cN_remA (L : List Nat) (n m : Nat) : cntN (remA L n) m = if m = n then 0 else cntN L m := by
  unfold cntN remA
  rw [List.countP_filter]
  by_cases q : m = n
  · rw [if_pos q, List.countP_eq_zero]
    intro x hx h
    simp at h
    omega
  · rw [if_neg q]
    refine List.countP_congr (fun x hx => ?_)
    simp
    omega
theorem cN_app (L : List Nat) (x m : Nat) : cntN (L ++ [x]) m = cntN L m + if x / 16 = m then 1 else 0 := by
  unfold cntN
  rw [List.countP_append, List.countP_cons, List.countP_nil]
  simp
theorem cN_insL_le (L : List Nat) (x m : Nat) : cntN (insL L x) m ≤ cntN L m + if x / 16 = m then 1 else 0 := by
  unfold insL
  split
  · rw [cN_app]
    exact Nat.le_refl _
  · omega
theorem cN_care1 {L : List Nat} {p x : Nat} (hp : p < 6) (hl : (remA L (x % 100)).length < 60) (m : Nat) : cntN (care1 p L x) m = if m = x % 100 then (if 100 ≤ x then 1 else 0) else cntN L m := by
  unfold care1 insL
  by_cases q : 100 ≤ x
  · rw [if_pos q, if_pos hl, cN_app, cN_remA]
    by_cases r : m = x % 100
    · rw [if_pos r, if_pos r, if_pos q, if_pos (by omega)]
    · rw [if_neg r, if_neg r, if_neg (by omega)]
      rfl
  · rw [if_neg q, cN_remA]
    by_cases r : m = x % 100
    · rw [if_pos r, if_pos r, if_neg q]
    · rw [if_neg r, if_neg r]
theorem cN_erase_le (L : List Nat) (x m : Nat) : cntN (L.erase x) m ≤ cntN L m := List.erase_sublist.countP_le
theorem cN_remE_le (L : List Nat) (n m : Nat) : cntN (remE L n) m ≤ cntN L m := by
  unfold remE
  split
  · exact Nat.le_refl _
  · exact cN_erase_le _ _ _
/-- room for the numbers that are not there, too -/
def Phi (L : List Nat) : Nat := sU (fun d => max (cntN L (d + 10)) 1) 10
theorem Phi_nil : Phi [] = 10 := rfl
theorem Phi_len {L : List Nat} (h : okL L) : L.length ≤ Phi L := by
  rw [← len_CN h]
  exact sU_le (fun d _ => Nat.le_max_left _ _)
theorem Phi_mono {L M : List Nat} (h : ∀ m, cntN L m ≤ cntN M m) : Phi L ≤ Phi M := sU_le (fun d _ => by
  have := h (d + 10)
  show max (cntN L (d + 10)) 1 ≤ max (cntN M (d + 10)) 1
  omega)
theorem Phi_10 {L M : List Nat} (hM : okL M) (h : ∀ m, cntN L m ≤ cntN M m + 1) : Phi L ≤ M.length + 10 := by
  have e : sU (fun d => cntN M (d + 10) + 1) 10 = M.length + 10 := by
    rw [sU_add, len_CN hM]
    rfl
  rw [← e]
  exact sU_le (fun d _ => by
    have := h (d + 10)
    show max (cntN L (d + 10)) 1 ≤ cntN M (d + 10) + 1
    omega)
theorem rem_len {L : List Nat} (h : okL L) {n : Nat} (hn : 10 ≤ n ∧ n < 20) (hP : Phi L ≤ 60) : (remA L n).length < 60 := by
  rw [← len_CN (okL_remA h n)]
  refine Nat.lt_of_lt_of_le (sU_lt (j := n - 10) (g := fun d => max (cntN L (d + 10)) 1) (fun d _ => ?_) (by omega) ?_) hP
  · show cntN (remA L n) (d + 10) ≤ max (cntN L (d + 10)) 1
    rw [cN_remA]
    split <;> omega
  · show cntN (remA L n) (n - 10 + 10) < max (cntN L (n - 10 + 10)) 1
    rw [cN_remA, if_pos (by omega)]
    omega
theorem Phi_care1 {L : List Nat} (h : okL L) {p x : Nat} (hp : p < 6) (hx : oO x) (hP : Phi L ≤ 60) : Phi (care1 p L x) ≤ Phi L := sU_le (fun d _ => by
  show max (cntN (care1 p L x) (d + 10)) 1 ≤ max (cntN L (d + 10)) 1
  rw [cN_care1 hp (rem_len h ⟨hx.1, hx.2.1⟩ hP)]
  split
  · split <;> omega
  · omega)
theorem careP_ok {p : Nat} (hp : p < 6) : ∀ (O : List Nat) {L : List Nat}, (∀ x ∈ O, oO x) → okL L → Phi L ≤ 60 → okL (careP O p L) ∧ Phi (careP O p L) ≤ 60
  | [], _, _, h, hP => ⟨h, hP⟩
  | x :: t, L, hO, h, hP => by
    have hx := hO x List.mem_cons_self
    exact careP_ok hp t (L := care1 p L x) (fun y hy => hO y (List.mem_cons_of_mem _ hy)) (okL_care1 h hp hx) (Nat.le_trans (Phi_care1 h hp hx hP) hP)
theorem careU_ok {o : Nat → List Nat} (w : Nat) {L : List Nat} (h : okL L) (hP : Phi L ≤ 60) : ∀ (m : Nat), m ≤ 6 → (∀ p, p < m → ∀ x ∈ o p, oO x) → okL (careU o w L m) ∧ Phi (careU o w L m) ≤ 60
  | 0, _, _ => ⟨h, hP⟩
  | m + 1, hm, hO => by
    have ih := careU_ok w h hP m (by omega) (fun p hp => hO p (by omega))
    unfold careU
    split
    · exact careP_ok (by omega) _ (hO m (by omega)) ih.1 ih.2
    · exact ih
theorem remE_len (L : List Nat) (n : Nat) : (remE L n).length ≤ L.length := by
  unfold remE
  split
  · exact Nat.le_refl _
  · exact List.erase_sublist.length_le
theorem less1_len (L : List Nat) (p x : Nat) : (less1 p L x).length ≤ L.length + 1 := by
  unfold less1 insL
  split
  · split
    · simp
    · omega
  · exact Nat.le_trans (remE_len _ _) (by omega)
theorem less1_cN (L : List Nat) {p x : Nat} (hp : p < 6) (m : Nat) : cntN (less1 p L x) m ≤ cntN L m + if x % 100 = m then 1 else 0 := by
  unfold less1
  split
  · refine Nat.le_trans (cN_insL_le _ _ _) ?_
    rw [show (x % 100 * 16 + p) / 16 = x % 100 by omega]
    exact Nat.le_refl _
  · exact Nat.le_trans (cN_remE_le _ _ _) (by omega)
theorem lessP_ok {p : Nat} (hp : p < 6) : ∀ (O : List Nat) {L : List Nat}, (∀ x ∈ O, oO x) → okL L → okL (lessP O p L) ∧ (lessP O p L).length ≤ L.length + O.length ∧ ∀ m, cntN (lessP O p L) m ≤ cntN L m + (O.map (fun x => x % 100)).count m
  | [], L, _, h => ⟨h, Nat.le_refl _, fun m => by show cntN L m ≤ _; omega⟩
  | x :: t, L, hO, h => by
    obtain ⟨h1, h2, h3⟩ := lessP_ok hp t (L := less1 p L x) (fun y hy => hO y (List.mem_cons_of_mem _ hy)) (okL_less1 h hp (hO x List.mem_cons_self))
    have l1 := less1_len L p x
    refine ⟨h1, ?_, fun m => ?_⟩
    · show (lessP t p (less1 p L x)).length ≤ _
      rw [List.length_cons]
      omega
    · have e := h3 m
      have e2 := less1_cN L (x := x) hp m
      show cntN (lessP t p (less1 p L x)) m ≤ _
      rw [List.map_cons, List.count_cons]
      simp only [beq_iff_eq]
      omega
/-- a parcel of the law's: at most 8 orders, no number twice -/
def oP (O : List Nat) : Prop := O.length ≤ 8 ∧ (∀ x ∈ O, oO x) ∧ (O.map (fun x => x % 100)).Nodup
theorem lessP_Phi {p : Nat} (hp : p < 6) {O L : List Nat} (hO : oP O) (h : okL L) (hl : L.length ≤ 50) : okL (lessP O p L) ∧ Phi (lessP O p L) ≤ 60 := by
  obtain ⟨h1, -, h3⟩ := lessP_ok hp O hO.2.1 h
  refine ⟨h1, Nat.le_trans (Phi_10 h (fun m => ?_)) (by omega)⟩
  have := h3 m
  have := List.nodup_iff_count.mp hO.2.2 m
  omega
theorem remE_none {L : List Nat} (h : okL L) {d : Nat} (h0 : ∀ i, i < 6 → cA L (6 * d + i) = 0) : remE L (d + 10) = L := by
  have e : L.filter (fun x => x / 16 == d + 10) = [] := List.filter_eq_nil_iff.mpr (fun y hy hn => by
    have hy2 := h y hy
    have hn : y / 16 = d + 10 := by simpa using hn
    unfold okx at hy2
    refine absurd (h0 (y % 16) hy2.2.2) (cA_pos.mpr ?_)
    rw [lfc_6 d hy2.2.2, show (d + 10) * 16 + y % 16 = y by omega]
    exact hy)
  unfold remE
  rw [e]
  rfl
theorem remE_some {L : List Nat} (h : okL L) {d i : Nat} (hi : i < 6) (h1 : cA L (6 * d + i) ≠ 0) (h0 : ∀ j, j < i → cA L (6 * d + j) = 0) : remE L (d + 10) = L.erase (lfc (6 * d + i)) := by
  have e : (L.filter (fun x => x / 16 == d + 10)).min? = some (lfc (6 * d + i)) := by
    rw [List.min?_eq_some_iff]
    rw [lfc_6 d hi]
    refine ⟨List.mem_filter.mpr ⟨by rw [← lfc_6 d hi]; exact cA_pos.mp h1, by simp; omega⟩, fun y hy => ?_⟩
    obtain ⟨hy1, hn⟩ := List.mem_filter.mp hy
    have hy2 := h y hy1
    have hn : y / 16 = d + 10 := by simpa using hn
    unfold okx at hy2
    rcases Nat.lt_or_ge (y % 16) i with q | q
    · refine absurd (h0 (y % 16) q) (cA_pos.mpr ?_)
      rw [lfc_6 d hy2.2.2, show (d + 10) * 16 + y % 16 = y by omega]
      exact hy1
    · omega
  unfold remE
  rw [e]
def eI (f : Nat → Nat) (i : Nat) (z : Int) : Prop := (z = -6 ∧ ∀ j, j < i → f j = 0) ∨ ∃ j : Nat, j < i ∧ z = (j : Int) ∧ f j ≠ 0 ∧ ∀ k, k < j → f k = 0
def lI (f : Nat → Nat) (i : Nat) (z : Int) : Prop := (z = -6 ∧ ∀ j, j < i → f j = 0) ∨ ∃ j : Nat, j < i ∧ z = (j : Int) ∧ f j ≠ 0 ∧ ∀ k, j < k → k < i → f k = 0
theorem leaf_at {L : List Nat} (h : okL L) {d y : Nat} (hy : y ∈ L) (hn : y / 16 = d + 10) : y % 16 < 6 ∧ cA L (6 * d + y % 16) ≠ 0 := by
  have hy2 := h y hy
  unfold okx at hy2
  refine ⟨hy2.2.2, cA_pos.mpr ?_⟩
  rw [lfc_6 d hy2.2.2, show (d + 10) * 16 + y % 16 = y by omega]
  exact hy
theorem eI_isE {L : List Nat} (h : okL L) {d : Nat} {z : Int} (g : eI (fun i => cA L (6 * d + i)) 6 z) : isE L (d + 10) z := by
  rcases g with ⟨g1, g2⟩ | ⟨j, g1, g2, g3, g4⟩
  · refine Or.inl ⟨g1, fun x hx hn => ?_⟩
    obtain ⟨a, b⟩ := leaf_at h hx hn
    exact b (g2 _ a)
  · have e := lfc_6 d g1
    refine Or.inr ⟨lfc (6 * d + j), cA_pos.mp g3, by omega, by rw [g2]; congr 1; omega, fun y hy hn => ?_⟩
    obtain ⟨a, b⟩ := leaf_at h hy hn
    rcases Nat.lt_or_ge (y % 16) j with q | q
    · exact absurd (g4 _ q) b
    · omega
theorem lI_isLt {L : List Nat} (h : okL L) {d : Nat} {z : Int} (g : lI (fun i => cA L (6 * d + i)) 6 z) : isLt L (d + 10) z := by
  rcases g with ⟨g1, g2⟩ | ⟨j, g1, g2, g3, g4⟩
  · refine Or.inl ⟨g1, fun x hx hn => ?_⟩
    obtain ⟨a, b⟩ := leaf_at h hx hn
    exact b (g2 _ a)
  · have e := lfc_6 d g1
    refine Or.inr ⟨lfc (6 * d + j), cA_pos.mp g3, by omega, by rw [g2]; congr 1; omega, fun y hy hn => ?_⟩
    obtain ⟨a, b⟩ := leaf_at h hy hn
    rcases Nat.lt_or_ge j (y % 16) with q | q
    · exact absurd (g4 _ q a) b
    · omega
