/-! ===== the state of one moment: as numbers and lists; parcels done in binders ===== -/
/-- parcels, owners, orders by parcel, the text, binders, waiting and lost sets by owner -/
abbrev AS : Type := Nat × Nat × (Nat → List Nat) × List Nat × (Nat → List Nat) × (Nat → Nat) × (Nat → Nat)
abbrev np (S : AS) : Nat := S.1
abbrev no (S : AS) : Nat := S.2.1
abbrev od (S : AS) : Nat → List Nat := S.2.2.1
abbrev tx (S : AS) : List Nat := S.2.2.2.1
abbrev bn (S : AS) : Nat → List Nat := S.2.2.2.2.1
abbrev wt (S : AS) : Nat → Nat := S.2.2.2.2.2.1
abbrev lo_ (S : AS) : Nat → Nat := S.2.2.2.2.2.2
def BP (v : Mem) (b : Nat) (L : List Nat) : Prop := ∃ L' : List Nat, L'.Perm L ∧ BA v b L'
def care1 (p : Nat) (L : List Nat) (x : Nat) : List Nat := if 100 ≤ x then insL (remA L (x % 100)) (x % 100 * 16 + p) else remA L (x % 100)
def less1 (p : Nat) (L : List Nat) (x : Nat) : List Nat := if 100 ≤ x then insL L (x % 100 * 16 + p) else remE L (x % 100)
def careP (O : List Nat) (p : Nat) (L : List Nat) : List Nat := O.foldl (care1 p) L
def lessP (O : List Nat) (p : Nat) (L : List Nat) : List Nat := O.foldl (less1 p) L
def careU (o : Nat → List Nat) (w : Nat) (L : List Nat) : Nat → List Nat
  | 0 => L
  | m + 1 => if w.testBit m then careP (o m) m (careU o w L m) else careU o w L m
/-- the set of the numbers below m that are so -/
def mk (P : Nat → Bool) : Nat → Nat
  | 0 => 0
  | m + 1 => if P m then mk P m ||| 2 ^ m else mk P m
def rt (L T : List Nat) : Bool := L.isPerm T
def cntI (T : List Nat) (t : Nat) : Nat := T.countP (fun x => x % 16 == t)
def mb (T : List Nat) : Nat → Int × Nat
  | 0 => (-6, 0)
  | m + 1 => if (mb T m).2 < cntI T m then ((m : Int), cntI T m) else mb T m
theorem remA_perm {L M : List Nat} (h : L.Perm M) (n : Nat) : (remA L n).Perm (remA M n) := h.filter _
theorem insL_perm {L M : List Nat} (h : L.Perm M) (x : Nat) : (insL L x).Perm (insL M x) := by
  unfold insL
  rw [h.length_eq]
  split
  · exact h.append_right _
  · exact h
theorem min_perm {L M : List Nat} (h : L.Perm M) : L.min? = M.min? := by
  cases hm : M.min? with
  | none =>
    have : M = [] := by simpa using hm
    subst this
    rw [List.perm_nil.mp h]
    rfl
  | some x =>
    rw [List.min?_eq_some_iff] at hm ⊢
    exact ⟨h.mem_iff.mpr hm.1, fun y hy => hm.2 y (h.mem_iff.mp hy)⟩
theorem remE_perm {L M : List Nat} (h : L.Perm M) (n : Nat) : (remE L n).Perm (remE M n) := by
  unfold remE
  rw [min_perm (h.filter (fun x => x / 16 == n))]
  split
  · exact h
  · exact h.erase _
theorem care1_perm {L M : List Nat} (h : L.Perm M) (p x : Nat) : (care1 p L x).Perm (care1 p M x) := by
  unfold care1
  split
  · exact insL_perm (remA_perm h _) _
  · exact remA_perm h _
theorem less1_perm {L M : List Nat} (h : L.Perm M) (p x : Nat) : (less1 p L x).Perm (less1 p M x) := by
  unfold less1
  split
  · exact insL_perm h _
  · exact remE_perm h _
theorem foldl_perm {f : List Nat → Nat → List Nat} (hf : ∀ L M x, L.Perm M → (f L x).Perm (f M x)) : ∀ (O : List Nat) {L M : List Nat}, L.Perm M → (O.foldl f L).Perm (O.foldl f M)
  | [], _, _, h => h
  | x :: t, _, _, h => foldl_perm hf t (hf _ _ x h)
theorem careP_perm {L M : List Nat} (h : L.Perm M) (O : List Nat) (p : Nat) : (careP O p L).Perm (careP O p M) := foldl_perm (fun _ _ x h => care1_perm h p x) O h
theorem lessP_perm {L M : List Nat} (h : L.Perm M) (O : List Nat) (p : Nat) : (lessP O p L).Perm (lessP O p M) := foldl_perm (fun _ _ x h => less1_perm h p x) O h
theorem careU_perm {L M : List Nat} (h : L.Perm M) (o : Nat → List Nat) (w : Nat) : ∀ m, (careU o w L m).Perm (careU o w M m)
  | 0 => h
  | m + 1 => by
    unfold careU
    split
    · exact careP_perm (careU_perm h o w m) _ _
    · exact careU_perm h o w m
theorem fold_take {f : List Nat → Nat → List Nat} {O L : List Nat} {k : Nat} (h : k < O.length) : (O.take (k + 1)).foldl f L = f ((O.take k).foldl f L) O[k] := by
  rw [List.take_succ_eq_append_getElem h, List.foldl_append]
  rfl
theorem cntN_perm {L M : List Nat} (h : L.Perm M) (n : Nat) : cntN L n = cntN M n := h.countP_eq _
theorem cntI_perm {L M : List Nat} (h : L.Perm M) (n : Nat) : cntI L n = cntI M n := h.countP_eq _
theorem hasN_perm {L M : List Nat} (h : L.Perm M) (n : Nat) : hasN L n = hasN M n := by
  rw [Bool.eq_iff_iff]
  unfold hasN
  rw [List.any_eq_true, List.any_eq_true]
  exact ⟨fun ⟨x, h1, h2⟩ => ⟨x, h.mem_iff.mp h1, h2⟩, fun ⟨x, h1, h2⟩ => ⟨x, h.mem_iff.mpr h1, h2⟩⟩
theorem dif_perm {L M T U : List Nat} (h : L.Perm M) (g : T.Perm U) (n : Nat) (k : Int) : dif L T n k = dif M U n k := by
  have e : (∀ x ∈ T, x / 16 = n → x ∉ L) ↔ (∀ x ∈ U, x / 16 = n → x ∉ M) := ⟨fun q x hx hn hm => q x (g.mem_iff.mpr hx) hn (h.mem_iff.mpr hm), fun q x hx hn hm => q x (g.mem_iff.mp hx) hn (h.mem_iff.mp hm)⟩
  unfold dif surp oldN misN
  rw [hasN_perm g, cntN_perm h]
  simp only [e]
theorem difU_perm {L M T U : List Nat} (h : L.Perm M) (g : T.Perm U) (k : Int) (m : Nat) : difU L T k m = difU M U k m := by
  unfold difU
  congr 1
  apply List.map_congr_left
  intro i _
  exact dif_perm h g _ _
theorem difs_perm {L M T U : List Nat} (h : L.Perm M) (g : T.Perm U) (k : Int) : difs L T k = difs M U k := difU_perm h g k 90
theorem wrg_perm {L M T U : List Nat} (h : L.Perm M) (g : T.Perm U) : wrg L T = wrg M U := by
  unfold wrg
  rw [difs_perm h g, difs_perm h g, difs_perm h g]
theorem chk_perm {L M : List Nat} (h : L.Perm M) : chk L = chk M := (h.map _).sum_nat
theorem isE_perm {L M : List Nat} (h : L.Perm M) {n : Nat} {z : Int} (g : isE L n z) : isE M n z := by
  rcases g with g | ⟨x, h1, h2, h3, h4⟩
  · exact Or.inl ⟨g.1, fun x hx => g.2 x (h.mem_iff.mpr hx)⟩
  · exact Or.inr ⟨x, h.mem_iff.mp h1, h2, h3, fun y hy => h4 y (h.mem_iff.mpr hy)⟩
theorem isLt_perm {L M : List Nat} (h : L.Perm M) {n : Nat} {z : Int} (g : isLt L n z) : isLt M n z := by
  rcases g with g | ⟨x, h1, h2, h3, h4⟩
  · exact Or.inl ⟨g.1, fun x hx => g.2 x (h.mem_iff.mpr hx)⟩
  · exact Or.inr ⟨x, h.mem_iff.mp h1, h2, h3, fun y hy => h4 y (h.mem_iff.mpr hy)⟩
theorem unq_perm {T U : List Nat} (h : T.Perm U) (g : unq T) : unq U := fun x hx y hy e => g x (h.mem_iff.mpr hx) y (h.mem_iff.mpr hy) e
theorem unq_remA {T : List Nat} (h : unq T) (n : Nat) : unq (remA T n) := fun x hx y hy e => h x ((List.mem_filter.mp hx).1) y ((List.mem_filter.mp hy).1) e
theorem unq_care1 {T : List Nat} (h : unq T) {p x : Nat} (hp : p < 16) : unq (care1 p T x) := by
  unfold care1
  split
  · unfold insL
    split
    · intro a ha b hb e
      rcases List.mem_append.mp ha with ha | ha <;> rcases List.mem_append.mp hb with hb | hb
      · exact unq_remA h _ a ha b hb e
      · rw [List.mem_singleton] at hb
        subst hb
        have := List.mem_filter.mp ha
        simp at this
        omega
      · rw [List.mem_singleton] at ha
        subst ha
        have := List.mem_filter.mp hb
        simp at this
        omega
      · rw [List.mem_singleton] at ha hb
        rw [ha, hb]
    · exact unq_remA h _
  · exact unq_remA h _
theorem unq_careP {p : Nat} (hp : p < 16) : ∀ (O : List Nat) {T : List Nat}, unq T → unq (careP O p T)
  | [], _, h => h
  | x :: t, _, h => unq_careP hp t (unq_care1 (x := x) h hp)
theorem rt_iff {L T : List Nat} : rt L T = true ↔ L.Perm T := List.isPerm_iff
theorem rt_perm {L M T U : List Nat} (h : L.Perm M) (g : T.Perm U) : rt L T = rt M U := by
  rw [Bool.eq_iff_iff, rt_iff, rt_iff]
  exact ⟨fun q => h.symm.trans (q.trans g), fun q => h.trans (q.trans g.symm)⟩
theorem sorted_eq {L M : List Nat} (h : L.Perm M) (hL : L.Pairwise (· ≤ ·)) (hM : M.Pairwise (· ≤ ·)) : L = M := h.eq_of_pairwise (fun a b _ _ h1 h2 => Nat.le_antisymm h1 h2) hL hM
theorem mk_lt (P : Nat → Bool) : ∀ m, mk P m < 2 ^ m
  | 0 => Nat.one_pos
  | m + 1 => by
    have h := mk_lt P m
    unfold mk
    have h2 : (2 : Nat) ^ (m + 1) = 2 * 2 ^ m := by rw [Nat.pow_succ, Nat.mul_comm]
    split
    · exact Nat.or_lt_two_pow (by omega) (by omega)
    · omega
theorem mk_lt8 (P : Nat → Bool) {m : Nat} (h : m ≤ 8) : mk P m < 65536 := Nat.lt_of_lt_of_le (mk_lt P m) (Nat.le_trans (Nat.pow_le_pow_right (by decide) h) (by decide))
theorem mk_congr {P Q : Nat → Bool} : ∀ {m : Nat}, (∀ i, i < m → P i = Q i) → mk P m = mk Q m
  | 0, _ => rfl
  | m + 1, h => by
    unfold mk
    rw [mk_congr (fun i hi => h i (by omega)), h m (by omega)]
theorem mb_bd (T : List Nat) : ∀ m, -6 ≤ (mb T m).1 ∧ (mb T m).1 < (m : Int) ∧ (mb T m).2 ≤ T.length
  | 0 => ⟨Int.le_refl _, (by show (-6 : Int) < 0; omega), Nat.zero_le _⟩
  | m + 1 => by
    have h := mb_bd T m
    unfold mb
    split
    · refine ⟨by show -6 ≤ (m : Int); omega, by show (m : Int) < _; omega, List.countP_le_length⟩
    · exact ⟨h.1, by omega, h.2.2⟩
theorem mb_perm {T U : List Nat} (h : T.Perm U) : ∀ m, mb T m = mb U m
  | 0 => rfl
  | m + 1 => by
    unfold mb
    rw [mb_perm h m, cntI_perm h]
theorem BP.kept {v w : Mem} {b : Nat} {L : List Nat} (h : BP v b L) (h1 : w b = v b) (h2 : w (b + 1) = v (b + 1)) : BP w b L := by
  obtain ⟨L', hp, hL⟩ := h
  exact ⟨L', hp, hL.kept h1 h2⟩
theorem BP.perm {v : Mem} {b : Nat} {L M : List Nat} (h : BP v b L) (g : L.Perm M) : BP v b M := by
  obtain ⟨L', hp, hL⟩ := h
  exact ⟨L', hp.trans g, hL⟩
-- where a state lies, and what it holds
def Sd (D : va_G) (sk : Sk) (o : Nat) : Prop := sk o = some (eO 3 [some (.ref (o + 1)), some (.ref (o + 2)), none, some (.ref (o + 3)), some (.ref (o + 5)), some (.ref (o + 6)), some (.ref (o + 7)), none]) ∧ sk (o + 1) = some (eA D 10 128) ∧ sk (o + 2) = some (eA D 10 16) ∧ Bd D sk (o + 3) ∧ (∃ g : Nat → Option Nat, sk (o + 5) = some (eQ D 13 8 g) ∧ ∀ k, k < 8 → g k = some (o + 8 + 2 * k)) ∧ sk (o + 6) = some (eA D 10 8) ∧ sk (o + 7) = some (eA D 10 8) ∧ ∀ k, k < 8 → Bd D sk (o + 8 + 2 * k)
def OKA (S : AS) : Prop := np S ≤ 16 ∧ no S ≤ 8 ∧ (∀ i, i < np S → (od S i).length ≤ 8 ∧ ∀ x ∈ od S i, oko x) ∧ unq (tx S) ∧ ∀ i, i < no S → wt S i < 65536 ∧ lo_ S i < 65536
/-- the orders of the state at o -/
def OR (v : Mem) (o : Nat) (S : AS) : Prop := v o 2 = (np S : Int) ∧ np S ≤ 16 ∧ ∀ i, i < np S → v (o + 2) i = ((od S i).length : Int) ∧ (od S i).length ≤ 8 ∧ (∀ x ∈ od S i, oko x) ∧ ∀ (k : Nat) (h : k < (od S i).length), v (o + 1) (8 * i + k) = (((od S i)[k]'h : Nat) : Int)
def SR (v : Mem) (o : Nat) (S : AS) : Prop := OKA S ∧ OR v o S ∧ v o 7 = (no S : Int) ∧ BP v (o + 3) (tx S) ∧ (∀ i, i < 8 → ∃ L, BA v (o + 8 + 2 * i) L) ∧ ∀ i, i < no S → BP v (o + 8 + 2 * i) (bn S i) ∧ v (o + 6) i = (wt S i : Int) ∧ v (o + 7) i = (lo_ S i : Int)
def frS (v v' : Mem) (o : Nat) : Prop := ∀ a, a < o ∨ o + 24 ≤ a → v' a = v a
theorem OR.kept {v w : Mem} {o : Nat} {S : AS} (h : OR v o S) (h0 : w o = v o) (h1 : w (o + 1) = v (o + 1)) (h2 : w (o + 2) = v (o + 2)) : OR w o S := by
  unfold OR at h ⊢
  rw [h0, h1, h2]
  exact h
theorem SR.kept {v w : Mem} {o : Nat} {S : AS} (h : SR v o S) (hw : ∀ a, o ≤ a → a < o + 24 → w a = v a) : SR w o S := by
  obtain ⟨h1, h2, h3, h4, h5, h6⟩ := h
  refine ⟨h1, h2.kept (hw _ (by omega) (by omega)) (hw _ (by omega) (by omega)) (hw _ (by omega) (by omega)), by rw [hw _ (by omega) (by omega)]; exact h3, h4.kept (hw _ (by omega) (by omega)) (hw _ (by omega) (by omega)), fun i hi => ?_, fun i hi => ?_⟩
  · obtain ⟨L, hL⟩ := h5 i hi
    exact ⟨L, hL.kept (hw _ (by omega) (by omega)) (hw _ (by omega) (by omega))⟩
  · have := h1.2.1
    obtain ⟨g1, g2, g3⟩ := h6 i hi
    exact ⟨g1.kept (hw _ (by omega) (by omega)) (hw _ (by omega) (by omega)), by rw [hw _ (by omega) (by omega)]; exact g2, by rw [hw _ (by omega) (by omega)]; exact g3⟩
theorem eA_inj {D : va_G} {k m n : Nat} (h : eA D k m = eA D k n) : m = n := by
  have := congrFun h (fun _ => 0)
  unfold eA at this
  simp only [Sum.inl.injEq, Prod.mk.injEq] at this
  exact this.2.1
theorem eO_inj {ci cj : Nat} {fs gs : List (Option Value)} (h : eO ci fs = eO cj gs) : ci = cj := by
  have := congrFun h (fun _ => 0)
  unfold eO at this
  simp only [Sum.inr.injEq, Prod.mk.injEq] at this
  exact this.1
theorem sk_ne {sk : Sk} {a b : Nat} {f g : (Nat → Int) → va_E} (h1 : sk a = some f) (h2 : sk b = some g) (h : f = g → False) : a ≠ b := by
  intro e
  subst e
  exact h (Option.some.inj (h1.symm.trans h2))
/-- a binder's cells are not those of a state's orders -/
theorem Sd.apart {D : va_G} {sk : Sk} {o b : Nat} (h : Sd D sk o) (hb : Bd D sk b) : o ≠ b ∧ o ≠ b + 1 ∧ o + 1 ≠ b ∧ o + 1 ≠ b + 1 ∧ o + 2 ≠ b ∧ o + 2 ≠ b + 1 :=
  ⟨sk_ne h.1 hb.1 (fun e => absurd (eO_inj e) (by decide)), sk_ne h.1 hb.2 eO_ne_eA, sk_ne h.2.1 hb.1 (fun e => eO_ne_eA e.symm), sk_ne h.2.1 hb.2 (fun e => absurd (eA_inj e) (by decide)), sk_ne h.2.2.1 hb.1 (fun e => eO_ne_eA e.symm), sk_ne h.2.2.1 hb.2 (fun e => absurd (eA_inj e) (by decide))⟩
theorem OR.fr {D : va_G} {sk : Sk} {v w : Mem} {o b : Nat} {S : AS} (h : OR v o S) (hS : Sd D sk o) (hb : Bd D sk b) (hf : fr v w b) : OR w o S := by
  obtain ⟨a0, a1, a2, a3, a4, a5⟩ := hS.apart hb
  exact h.kept (hf _ a0 a1) (hf _ a2 a3) (hf _ a4 a5)
