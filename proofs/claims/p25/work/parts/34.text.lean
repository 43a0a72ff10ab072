/-! ===== the text's row; what is wrong, by the last digit ===== -/
def RA (v : Mem) (a : Nat) (L : List Nat) : Prop := ∀ k, k < 60 → v a k = (cA L k : Int)
theorem RA.kept {v w : Mem} {a : Nat} {L : List Nat} (h : RA v a L) (e : w a = v a) : RA w a L := fun k hk => by rw [e]; exact h k hk
theorem RA.perm {v : Mem} {a : Nat} {L M : List Nat} (h : RA v a L) (g : L.Perm M) : RA v a M := fun k hk => by rw [← cA_perm g]; exact h k hk
def RTd (T : List Nat) (d : Nat) (z : Int) : Prop := (z = -1 ∧ cntN T (d + 10) = 0) ∨ ∃ i : Nat, i < 6 ∧ z = (i : Int) ∧ (d + 10) * 16 + i ∈ T
def RT (v : Mem) (a : Nat) (T : List Nat) : Prop := ∀ d, d < 10 → RTd T d (v a d)
theorem RT.kept {v w : Mem} {a : Nat} {T : List Nat} (h : RT v a T) (e : w a = v a) : RT w a T := fun k hk => by rw [e]; exact h k hk
theorem RTd.bd {T : List Nat} {d : Nat} {z : Int} (h : RTd T d z) : -1 ≤ z ∧ z < 6 := by
  rcases h with ⟨h1, -⟩ | ⟨i, h1, h2, -⟩ <;> omega
theorem hasN_0 {T : List Nat} {n : Nat} (h : cntN T n = 0) : hasN T n = false := hasN_no (fun x hx hn => by
  unfold cntN at h
  rw [List.countP_eq_zero] at h
  exact h x hx (by simpa using hn))
def W3 (L T : List Nat) (d : Nat) : Nat := 10000 * dif L T (d + 10) 3 + 100 * dif L T (d + 10) 4 + dif L T (d + 10) 5
theorem dif3 (L T : List Nat) (n : Nat) : dif L T n 3 = surp L T n := if_pos rfl
theorem dif4 (L T : List Nat) (n : Nat) : dif L T n 4 = oldN L T n := (if_neg (by decide)).trans (if_pos rfl)
theorem dif5 (L T : List Nat) (n : Nat) : dif L T n 5 = misN L T n := (if_neg (by decide)).trans (if_neg (by decide))
theorem W3_none {L T : List Nat} {d : Nat} (h : cntN T (d + 10) = 0) : W3 L T d = 10000 * cntN L (d + 10) := by
  have e := hasN_0 h
  unfold W3
  rw [dif3, dif4, dif5]
  unfold surp oldN misN
  rw [e]
  simp
theorem W3_mis {L T : List Nat} {d i : Nat} (hi : i < 6) (hx : (d + 10) * 16 + i ∈ T) (h0 : cntN L (d + 10) = 0) : W3 L T d = 1 := by
  have e : hasN T (d + 10) = true := hasN_of hx (by omega)
  unfold W3
  rw [dif3, dif4, dif5]
  unfold surp oldN misN
  rw [e, h0]
  simp
theorem W3_some {L T : List Nat} (hu : unq T) {d i : Nat} (hi : i < 6) (hx : (d + 10) * 16 + i ∈ T) (h0 : cntN L (d + 10) ≠ 0) : W3 L T d = 10000 * (cntN L (d + 10) - 1) + if cA L (6 * d + i) = 0 then 100 else 0 := by
  have e : hasN T (d + 10) = true := hasN_of hx (by omega)
  unfold W3
  rw [dif3, dif4, dif5]
  unfold surp oldN misN
  rw [e, if_pos rfl, if_neg (c := true = true ∧ cntN L (d + 10) = 0) (fun z => h0 z.2)]
  by_cases q : cA L (6 * d + i) = 0
  · have key : ∀ y ∈ T, y / 16 = d + 10 → y ∉ L := fun y hy hn hyL => by
      have e2 := hu y hy _ hx (by omega)
      rw [e2] at hyL
      exact cA_pos.mpr (by rw [lfc_6 d hi]; exact hyL) q
    rw [if_pos q, if_pos ⟨rfl, h0, key⟩]
  · rw [if_neg q, if_neg]
    intro z
    have e2 := cA_pos.mp q
    rw [lfc_6 d hi] at e2
    exact z.2.2 _ hx (by omega) e2
theorem dif_3le (L T : List Nat) (n : Nat) : dif L T n 3 ≤ cntN L n := by
  rw [dif3]
  unfold surp
  split <;> omega
theorem dif_4le (L T : List Nat) (n : Nat) : dif L T n 4 ≤ 1 := by
  rw [dif4]
  unfold oldN
  split <;> omega
theorem dif_5le (L T : List Nat) (n : Nat) : dif L T n 5 ≤ 1 := by
  rw [dif5]
  unfold misN
  split <;> omega
theorem W_sum (L T : List Nat) : ∀ m, sU (W3 L T) m = 10000 * difU L T 3 m + 100 * difU L T 4 m + difU L T 5 m
  | 0 => rfl
  | m + 1 => by
    rw [sU_s, W_sum L T m, difU_succ, difU_succ, difU_succ]
    unfold W3
    omega
theorem dif_out {L T : List Nat} (hL : okL L) (hT : okL T) {m : Nat} (hm : 10 ≤ m) (k : Int) : dif L T (m + 10) k = 0 := by
  have h1 : cntN L (m + 10) = 0 := by
    unfold cntN
    rw [List.countP_eq_zero]
    intro x hx hn
    have := hL x hx
    unfold okx at this
    simp at hn
    omega
  have h2 : hasN T (m + 10) = false := hasN_no (fun x hx hn => by
    have := hT x hx
    unfold okx at this
    omega)
  unfold dif surp oldN misN
  rw [h2, h1]
  simp
theorem difU_out {L T : List Nat} (hL : okL L) (hT : okL T) (k : Int) : ∀ j, difU L T k (10 + j) = difU L T k 10
  | 0 => rfl
  | j + 1 => by
    rw [show 10 + (j + 1) = (10 + j) + 1 by omega, difU_succ, difU_out hL hT k j, dif_out hL hT (by omega)]
    rfl
theorem difs_10 {L T : List Nat} (hL : okL L) (hT : okL T) (k : Int) : difs L T k = difU L T k 10 := difU_out hL hT k 80
theorem difU_4le (L T : List Nat) : ∀ m, difU L T 4 m ≤ m
  | 0 => Nat.le_refl _
  | m + 1 => by
    rw [difU_succ]
    exact Nat.add_le_add (difU_4le L T m) (dif_4le _ _ _)
theorem difU_5le (L T : List Nat) : ∀ m, difU L T 5 m ≤ m
  | 0 => Nat.le_refl _
  | m + 1 => by
    rw [difU_succ]
    exact Nat.add_le_add (difU_5le L T m) (dif_5le _ _ _)
theorem difU_3le (L T : List Nat) : ∀ m, difU L T 3 m ≤ sU (fun d => cntN L (d + 10)) m
  | 0 => Nat.le_refl _
  | m + 1 => by
    rw [difU_succ, sU_s]
    exact Nat.add_le_add (difU_3le L T m) (dif_3le _ _ _)
theorem W3_at (L T : List Nat) (d : Nat) (h : cntN L (d + 10) ≤ 60) : W3 L T d / 10000 = dif L T (d + 10) 3 ∧ W3 L T d / 100 % 100 = dif L T (d + 10) 4 ∧ W3 L T d % 100 = dif L T (d + 10) 5 ∧ W3 L T d ≤ 600101 := by
  have h3 := dif_3le L T (d + 10)
  have h4 := dif_4le L T (d + 10)
  have h5 := dif_5le L T (d + 10)
  unfold W3
  omega
theorem W_all {L T : List Nat} (hL : okL L) (hT : okL T) (h : L.length ≤ 60) : sU (W3 L T) 10 / 10000 = difs L T 3 ∧ sU (W3 L T) 10 / 100 % 100 = difs L T 4 ∧ sU (W3 L T) 10 % 100 = difs L T 5 ∧ sU (W3 L T) 10 ≤ 601010 := by
  have h3 := difU_3le L T 10
  have h4 := difU_4le L T 10
  have h5 := difU_5le L T 10
  rw [len_CN hL] at h3
  rw [W_sum, difs_10 hL hT, difs_10 hL hT, difs_10 hL hT]
  omega
theorem W_wrg {L T : List Nat} (hL : okL L) (hT : okL T) (h : L.length ≤ 60) : sU (W3 L T) 10 / 10000 + sU (W3 L T) 10 / 100 % 100 + sU (W3 L T) 10 % 100 = wrg L T := by
  obtain ⟨h1, h2, h3, -⟩ := W_all hL hT h
  rw [h1, h2, h3]
  rfl
theorem w_zero (w : Nat) : w = 0 ↔ w / 10000 + w / 100 % 100 + w % 100 = 0 := by
  constructor
  · intro h; subst h; rfl
  · intro h
    have h1 : w < 10000 := by omega
    have h2 : w / 100 < 100 := by omega
    rw [Nat.mod_eq_of_lt h2, Nat.div_eq_of_lt h1] at h
    have h3 : w / 100 = 0 := Nat.le_zero.mp (by omega)
    omega
theorem W_0 {L T : List Nat} (hL : okL L) (hT : okL T) (hN : NU T) (h : L.length ≤ 60) : sU (W3 L T) 10 = 0 ↔ rt L T = true := by
  rw [← wrg_0 hN hL.b hT.b, ← W_wrg hL hT h]
  exact w_zero _
theorem W_part (L T : List Nat) {m : Nat} (h : m ≤ 10) : sU (W3 L T) m ≤ sU (W3 L T) 10 := sU_mono _ h
theorem sU_two (f : Nat → Nat) {i j : Nat} : ∀ {m : Nat}, i < m → j < m → i ≠ j → f i + f j ≤ sU f m
  | 0, h, _, _ => absurd h (Nat.not_lt_zero _)
  | m + 1, hi, hj, hn => by
    rw [sU_s]
    by_cases q : i = m
    · subst q
      have := sU_mono f (show j + 1 ≤ i by omega)
      rw [sU_s] at this
      omega
    · by_cases r : j = m
      · subst r
        have := sU_mono f (show i + 1 ≤ j by omega)
        rw [sU_s] at this
        omega
      · have := sU_two f (m := m) (show i < m by omega) (show j < m by omega) hn
        omega
theorem sU_at (f : Nat → Nat) {i m : Nat} (h : i < m) : f i ≤ sU f m := by
  have := sU_mono f (show i + 1 ≤ m by omega)
  rw [sU_s] at this
  omega
theorem cA_tx {T : List Nat} (hN : NU T) (hT : okL T) {d : Nat} (hd : d < 10) {z : Int} (h : RTd T d z) {i : Nat} (hi : i < 6) : cA T (6 * d + i) = if z = (i : Int) then 1 else 0 := by
  have e := cnt_cA hd hT
  have c1 := hN.cnt (d + 10)
  have a1 := sU_at (fun i => cA T (6 * d + i)) hi
  rcases h with ⟨h1, h2⟩ | ⟨j, hj, h1, h2⟩
  · rw [if_neg (by omega)]
    omega
  · have h3 : cA T (6 * d + j) ≠ 0 := cA_pos.mpr (by rw [lfc_6 d hj]; exact h2)
    by_cases q : i = j
    · subst q
      rw [if_pos h1]
      omega
    · rw [if_neg (by omega)]
      have a2 := sU_two (fun i => cA T (6 * d + i)) hi hj q
      omega
theorem tx_sum (w : Nat → Nat) {T : List Nat} (hN : NU T) (hT : okL T) {z : Nat → Int} (hz : ∀ d, d < 10 → RTd T d (z d)) : (T.map (fun x => w (ixL x))).sum = sU (fun d => if z d < 0 then 0 else w (6 * d + (z d).toNat)) 10 := by
  rw [← dbl w hT, show 60 = 6 * 10 from rfl, sU_blocks]
  refine sU_congr (fun d hd => ?_)
  have hc : ∀ i, i < 6 → cA T (6 * d + i) = if z d = (i : Int) then 1 else 0 := fun i hi => cA_tx hN hT hd (hz d hd) hi
  rcases hz d hd with ⟨h1, h2⟩ | ⟨j, hj, h1, h2⟩
  · have e : ∀ i, i < 6 → cA T (6 * d + i) * w (6 * d + i) = 0 := fun i hi => by rw [hc i hi, if_neg (by omega), Nat.zero_mul]
    rw [sU_congr e, sU_zero, if_pos (by omega)]
  · have e : ∀ i, i < 6 → cA T (6 * d + i) * w (6 * d + i) = if i = j then (fun i => w (6 * d + i)) i else 0 := fun i hi => by
      rw [hc i hi]
      by_cases q : i = j
      · subst q
        rw [if_pos h1, if_pos rfl, Nat.one_mul]
      · rw [if_neg (by omega), if_neg q, Nat.zero_mul]
    rw [sU_congr e, sU_one, if_pos hj, if_neg (by omega), h1, Int.toNat_natCast]
theorem ix_parts {x : Nat} (h : okx x) : ixL x / 6 + 10 = x / 16 ∧ ixL x % 6 = x % 16 := by
  unfold okx at h
  unfold ixL
  omega
theorem tx_len {T : List Nat} (hN : NU T) (hT : okL T) {z : Nat → Int} (hz : ∀ d, d < 10 → RTd T d (z d)) : T.length = sU (fun d => if z d < 0 then 0 else 1) 10 := by
  have e := tx_sum (fun _ => 1) hN hT hz
  have e3 := ones T
  rw [← e3]
  exact e
def wchk (k : Nat) : Nat := (k / 6 + 10) * (k % 6 + 1)
theorem chk_ix {L : List Nat} (h : okL L) : chk L = (L.map (fun x => wchk (ixL x))).sum := by
  unfold chk
  congr 1
  apply List.map_congr_left
  intro x hx
  obtain ⟨h1, h2⟩ := ix_parts (h x hx)
  unfold wchk
  rw [h1, h2]
theorem chk_cA {L : List Nat} (h : okL L) : chk L = sU (fun k => cA L k * wchk k) 60 := by rw [chk_ix h, dbl wchk h]
theorem tx_chk {T : List Nat} (hN : NU T) (hT : okL T) {z : Nat → Int} (hz : ∀ d, d < 10 → RTd T d (z d)) : chk T = sU (fun d => if z d < 0 then 0 else (d + 10) * ((z d).toNat + 1)) 10 := by
  rw [chk_ix hT, tx_sum wchk hN hT hz]
  refine sU_congr (fun d hd => ?_)
  have := (hz d hd).bd
  by_cases q : z d < 0
  · rw [if_pos q, if_pos q]
  · rw [if_neg q, if_neg q]
    unfold wchk
    rw [show (6 * d + (z d).toNat) / 6 = d by omega, show (6 * d + (z d).toNat) % 6 = (z d).toNat by omega]
theorem countP_sum (P : Nat → Bool) : ∀ L : List Nat, L.countP P = (L.map (fun x => if P x then 1 else 0)).sum
  | [] => rfl
  | x :: t => by
    rw [List.countP_cons, List.map_cons, List.sum_cons, countP_sum P t]
    omega
theorem tx_cI {T : List Nat} (hN : NU T) (hT : okL T) {z : Nat → Int} (hz : ∀ d, d < 10 → RTd T d (z d)) (p : Nat) : cntI T p = sU (fun d => if z d = (p : Int) then 1 else 0) 10 := by
  have e := tx_sum (fun k => if k % 6 = p then 1 else 0) hN hT hz
  have e2 : cntI T p = (T.map (fun x => (fun k => if k % 6 = p then 1 else 0) (ixL x))).sum := by
    unfold cntI
    rw [countP_sum]
    congr 1
    apply List.map_congr_left
    intro x hx
    obtain ⟨h1, h2⟩ := ix_parts (hT x hx)
    dsimp only
    rw [h2]
    simp
  rw [e2, e]
  refine sU_congr (fun d hd => ?_)
  have := (hz d hd).bd
  by_cases q : z d < 0
  · rw [if_pos q, if_neg (by omega)]
  · rw [if_neg q, show (6 * d + (z d).toNat) % 6 = (z d).toNat by omega]
    by_cases r : (z d).toNat = p
    · rw [if_pos r, if_pos (by omega)]
    · rw [if_neg r, if_neg (by omega)]
theorem RTd_care1 {T : List Nat} {p x d : Nat} {z : Int} (hp : p < 6) (hx : oO x) (hl : (remA T (x % 100)).length < 60) (h1 : d + 10 = x % 100 → z = if 100 ≤ x then (p : Int) else -1) (h2 : d + 10 ≠ x % 100 → RTd T d z) : RTd (care1 p T x) d z := by
  by_cases q : d + 10 = x % 100
  · have e := h1 q
    by_cases r : 100 ≤ x
    · rw [if_pos r] at e
      refine Or.inr ⟨p, hp, e, ?_⟩
      rw [← lfc_6 d hp]
      refine cA_pos.mp ?_
      rw [cA_care1 hp hl, if_pos (by omega), if_pos ⟨r, by omega⟩]
      decide
    · rw [if_neg r] at e
      refine Or.inl ⟨e, ?_⟩
      rw [cN_care1 hp hl, if_pos q, if_neg r]
  · rcases h2 q with ⟨g1, g2⟩ | ⟨i, g1, g2, g3⟩
    · refine Or.inl ⟨g1, ?_⟩
      rw [cN_care1 hp hl, if_neg q]
      exact g2
    · refine Or.inr ⟨i, g1, g2, ?_⟩
      rw [← lfc_6 d g1] at g3 ⊢
      refine cA_pos.mp ?_
      rw [cA_care1 hp hl, if_neg (by omega)]
      exact cA_pos.mpr g3
/-! ===== a parcel's text on the pad ===== -/
def sgn (x : Nat) : Nat := if 100 ≤ x then 43 else 45
def PTX (P O : List Nat) : Prop := P.length = 5 * O.length - 1 ∧ (∀ (j : Nat) (h : j < O.length), P[5 * j]? = some (sgn O[j]) ∧ P[5 * j + 1]? = some 49 ∧ P[5 * j + 2]? = some 46 ∧ P[5 * j + 3]? = some (48 + O[j] % 10)) ∧ ∀ j, j + 1 < O.length → P[5 * j + 4]? = some 44
theorem PTX.nil : PTX [] [] := ⟨rfl, fun j h => absurd h (Nat.not_lt_zero _), fun j h => absurd h (Nat.not_lt_zero _)⟩
theorem PTX.one (x : Nat) : PTX [sgn x, 49, 46, 48 + x % 10] [x] := by
  refine ⟨rfl, fun j h => ?_, fun j h => ?_⟩
  · have : j = 0 := by simp at h; exact h
    subst this
    exact ⟨rfl, rfl, rfl, rfl⟩
  · simp at h
theorem PTX.more {P O : List Nat} (h : PTX P O) (hO : O ≠ []) (x : Nat) : PTX (P ++ [44, sgn x, 49, 46, 48 + x % 10]) (O ++ [x]) := by
  obtain ⟨h1, h2, h3⟩ := h
  have hl : 0 < O.length := List.length_pos_iff.mpr hO
  refine ⟨by simp; omega, fun j hj => ?_, fun j hj => ?_⟩
  · simp at hj
    by_cases q : j < O.length
    · obtain ⟨a, b, c, d⟩ := h2 j q
      rw [List.getElem?_append_left (by omega), List.getElem?_append_left (by omega), List.getElem?_append_left (by omega), List.getElem?_append_left (by omega), List.getElem_append_left q]
      exact ⟨a, b, c, d⟩
    · have : j = O.length := by omega
      subst this
      rw [List.getElem?_append_right (by omega), List.getElem?_append_right (by omega), List.getElem?_append_right (by omega), List.getElem?_append_right (by omega), List.getElem_append_right (by omega)]
      rw [show 5 * O.length - P.length = 1 by omega, show 5 * O.length + 1 - P.length = 2 by omega, show 5 * O.length + 2 - P.length = 3 by omega, show 5 * O.length + 3 - P.length = 4 by omega]
      simp
  · simp at hj
    by_cases q : j + 1 < O.length
    · rw [List.getElem?_append_left (by omega)]
      exact h3 j q
    · rw [List.getElem?_append_right (by omega), show 5 * j + 4 - P.length = 0 by omega]
      rfl
theorem PTX.isF {P O : List Nat} (h : PTX P O) (hO : O ≠ []) (h8 : O.length ≤ 8) : isF P (-6) := by
  obtain ⟨h1, h2, h3⟩ := h
  have hl : 0 < O.length := List.length_pos_iff.mpr hO
  refine Or.inr ⟨fun j hj => ?_, Or.inl ⟨by omega, rfl⟩⟩
  have hq : j / 5 < O.length := by omega
  obtain ⟨a, b, c, d⟩ := h2 _ hq
  have hg : P[j]? = some P[j] := List.getElem?_eq_getElem hj
  unfold stand
  refine ⟨by omega, ?_⟩
  rcases (show j % 5 = 0 ∨ j % 5 = 1 ∨ j % 5 = 2 ∨ j % 5 = 3 ∨ j % 5 = 4 by omega) with r | r | r | r | r
  · rw [show 5 * (j / 5) = j by omega, hg] at a
    have e := Option.some.inj a
    unfold sgn at e
    split at e <;> omega
  · rw [show 5 * (j / 5) + 1 = j by omega, hg] at b
    have e := Option.some.inj b
    omega
  · rw [show 5 * (j / 5) + 2 = j by omega, hg] at c
    have e := Option.some.inj c
    omega
  · rw [show 5 * (j / 5) + 3 = j by omega, hg] at d
    have e := Option.some.inj d
    omega
  · have g := h3 (j / 5) (by omega)
    rw [show 5 * (j / 5) + 4 = j by omega, hg] at g
    have e := Option.some.inj g
    omega
theorem PTX.ords {P O : List Nat} (h : PTX P O) (hO : ∀ x ∈ O, oO x) : ordsOf P = O := by
  obtain ⟨h1, h2, h3⟩ := h
  refine List.ext_getElem (by rw [ordsOf_len]; omega) (fun k g1 g2 => ?_)
  obtain ⟨a, b, c, d⟩ := h2 k g2
  rw [ordsOf_get]
  unfold ordAt ordOf
  rw [List.getD_eq_getElem?_getD, List.getD_eq_getElem?_getD, List.getD_eq_getElem?_getD, a, b, d]
  have hx := hO _ (List.getElem_mem g2)
  unfold oO at hx
  simp only [Option.getD_some]
  unfold sgn
  by_cases q : 100 ≤ O[k]
  · rw [if_pos q, if_pos rfl]
    omega
  · rw [if_neg q, if_neg (by decide)]
    omega
theorem not_twice {O : List Nat} (h : (O.map (fun x => x % 100)).Nodup) : ¬ twice O := by
  rintro ⟨i, j, hi, hj, hlt, e⟩
  rw [List.nodup_iff_pairwise_ne, List.pairwise_map] at h
  exact List.pairwise_iff_getElem.mp h j i hj hi hlt e.symm
theorem digs_nodup {O : List Nat} {f : Nat} (h8 : O.length ≤ 8) (h : ∀ (j : Nat) (hj : j < O.length), (O[j]'hj) % 100 = 10 + (f + 3 * j) % 10) : (O.map (fun x => x % 100)).Nodup := by
  rw [List.nodup_iff_pairwise_ne, List.pairwise_map, List.pairwise_iff_getElem]
  intro i j hi hj hlt e
  rw [h i hi, h j hj] at e
  omega
theorem chs_1 {w : Nat} (h : w < 256) : chs w 1 = [w] := by
  unfold chs
  simp
  omega
theorem chOK_1 {w : Nat} (h : 33 ≤ w ∧ w ≤ 126) : chOK w 1 := ⟨by decide, by decide, fun j hj => by
  have : j = 0 := by omega
  subst this
  simp
  omega, by omega⟩
