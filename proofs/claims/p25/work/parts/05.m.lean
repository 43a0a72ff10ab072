/-! ===== lists of leaves, and how a binder's cells hold one ===== -/
def AL (r : Nat → Int) (L : List Nat) : Prop := ∀ (k : Nat) (h : k < L.length), r k = ((L[k]'h : Nat) : Int)
def Bd (D : va_G) (sk : Sk) (b : Nat) : Prop := sk b = some (eO 0 [some (.ref (b + 1)), none]) ∧ sk (b + 1) = some (eA D 10 60)
/-- the binder at b holds the row L, in order -/
def BA (v : Mem) (b : Nat) (L : List Nat) : Prop := v b 1 = (L.length : Int) ∧ L.length ≤ 60 ∧ AL (v (b + 1)) L ∧ L.Pairwise (· ≤ ·) ∧ ∀ x ∈ L, x < 1600
/-- nothing but the binder at b changed -/
def fr (v v' : Mem) (b : Nat) : Prop := ∀ a, a ≠ b → a ≠ b + 1 → v' a = v a
def isPl (L : List Nat) (x : Int) (p : Nat) : Prop := p ≤ L.length ∧ (∀ (k : Nat) (h : k < L.length), k < p → ((L[k]'h : Nat) : Int) < x) ∧ ∀ (k : Nat) (h : k < L.length), p ≤ k → x ≤ ((L[k]'h : Nat) : Int)
def insL (L : List Nat) (x : Nat) : List Nat := if L.length < 60 then L ++ [x] else L
def remA (L : List Nat) (n : Nat) : List Nat := L.filter (fun x => !(x / 16 == n))
def remE (L : List Nat) (n : Nat) : List Nat := match (L.filter (fun x => x / 16 == n)).min? with
  | none => L
  | some x => L.erase x
def cntN (L : List Nat) (n : Nat) : Nat := L.countP (fun x => x / 16 == n)
def isE (L : List Nat) (n : Nat) (z : Int) : Prop := (z = -6 ∧ ∀ x ∈ L, x / 16 ≠ n) ∨ ∃ x ∈ L, x / 16 = n ∧ z = ((x % 16 : Nat) : Int) ∧ ∀ y ∈ L, y / 16 = n → x % 16 ≤ y % 16
def isLt (L : List Nat) (n : Nat) (z : Int) : Prop := (z = -6 ∧ ∀ x ∈ L, x / 16 ≠ n) ∨ ∃ x ∈ L, x / 16 = n ∧ z = ((x % 16 : Nat) : Int) ∧ ∀ y ∈ L, y / 16 = n → y % 16 ≤ x % 16
def chk (L : List Nat) : Nat := (L.map (fun x => x / 16 * (x % 16 + 1))).sum
theorem fr.refl (v : Mem) (b : Nat) : fr v v b := fun _ _ _ => rfl
theorem fr.trans {v w u : Mem} {b : Nat} (h1 : fr v w b) (h2 : fr w u b) : fr v u b := fun a ha hb => (h2 a ha hb).trans (h1 a ha hb)
theorem AL.at {r : Nat → Int} {L : List Nat} (h : AL r L) {i : Int} (h0 : 0 ≤ i) (h1 : i < (L.length : Int)) : ∃ (hk : i.toNat < L.length), r i.toNat = ((L[i.toNat]'hk : Nat) : Int) := ⟨by omega, h _ _⟩
theorem BA.lt {v : Mem} {b : Nat} {L : List Nat} (h : BA v b L) {k : Nat} (hk : k < L.length) : L[k] < 1600 := h.2.2.2.2 _ (List.getElem_mem hk)
theorem BA.mono {v : Mem} {b : Nat} {L : List Nat} (h : BA v b L) {i j : Nat} (hi : i < L.length) (hj : j < L.length) (hij : i ≤ j) : L[i] ≤ L[j] := by
  rcases Nat.lt_or_ge i j with q | q
  · exact List.pairwise_iff_getElem.mp h.2.2.2.1 i j hi hj q
  · have : i = j := by omega
    subst this; exact Nat.le_refl _
theorem BA.kept {v w : Mem} {b : Nat} {L : List Nat} (h : BA v b L) (h1 : w b = v b) (h2 : w (b + 1) = v (b + 1)) : BA w b L := by
  unfold BA at h ⊢
  rw [h1, h2]
  exact h
theorem AL_cut {r : Nat → Int} {L : List Nat} (h : AL r L) {f t : Nat} (hft : f ≤ t) (ht : t ≤ L.length) : AL (cpy r r t f (L.length - t)) (L.take f ++ L.drop t) := by
  intro k hk
  have hlen : (L.take f ++ L.drop t).length = f + (L.length - t) := by simp; omega
  rw [List.getElem_append]
  by_cases q : k < f
  · have q' : k < (L.take f).length := by simp; omega
    rw [dif_pos q', List.getElem_take]
    unfold cpy
    rw [if_neg (by omega)]
    exact h k (by omega)
  · have q' : ¬ k < (L.take f).length := by simp; omega
    rw [dif_neg q', List.getElem_drop]
    unfold cpy
    rw [if_pos (by omega), h (t + (k - f)) (by omega)]
    congr 2
    simp
    omega
theorem AL_ins {r : Nat → Int} {L : List Nat} (h : AL r L) {p x : Nat} (hp : p ≤ L.length) : AL (upE (cpy r r p (p + 1) (L.length - p)) p (x : Int)) (L.take p ++ x :: L.drop p) := by
  intro k hk
  have hlen : (L.take p ++ x :: L.drop p).length = L.length + 1 := by simp; omega
  rw [List.getElem_append]
  by_cases q : k < p
  · have q' : k < (L.take p).length := by simp; omega
    rw [dif_pos q', List.getElem_take, upE_n _ _ (by omega)]
    unfold cpy
    rw [if_neg (by omega)]
    exact h k (by omega)
  · have q' : ¬ k < (L.take p).length := by simp; omega
    rw [dif_neg q']
    have hl : (L.take p).length = p := by simp; omega
    by_cases q2 : k = p
    · subst q2
      rw [upE_s]
      simp [hl]
    · obtain ⟨j, hj⟩ : ∃ j, k - (L.take p).length = j + 1 := ⟨k - p - 1, by omega⟩
      rw [upE_n _ _ q2]
      simp only [hj, List.getElem_cons_succ, List.getElem_drop]
      unfold cpy
      rw [if_pos (by omega), h (p + (k - (p + 1))) (by omega)]
      congr 2
      omega
theorem cut_perm (L : List Nat) (p x : Nat) : (L.take p ++ x :: L.drop p).Perm (L ++ [x]) := by
  have h1 : (L.take p ++ x :: L.drop p).Perm (x :: (L.take p ++ L.drop p)) := List.perm_middle
  rw [List.take_append_drop] at h1
  exact h1.trans (by simpa using (List.perm_append_comm (l₁ := [x]) (l₂ := L)))
theorem ins_sorted {L : List Nat} {p x : Nat} (hs : L.Pairwise (· ≤ ·)) (hp : isPl L (x : Int) p) : (L.take p ++ x :: L.drop p).Pairwise (· ≤ ·) := by
  obtain ⟨h1, h2, h3⟩ := hp
  have hs2 := hs
  rw [← List.take_append_drop p L, List.pairwise_append] at hs2
  rw [List.pairwise_append]
  refine ⟨hs2.1, List.pairwise_cons.mpr ⟨fun y hy => ?_, hs2.2.1⟩, fun y hy z hz => ?_⟩
  · obtain ⟨k, hk, rfl⟩ := List.getElem_of_mem hy
    rw [List.getElem_drop]
    have := h3 (p + k) (by simp at hk; omega) (by omega)
    omega
  · rcases List.mem_cons.mp hz with rfl | hz
    · obtain ⟨k, hk, rfl⟩ := List.getElem_of_mem hy
      rw [List.getElem_take]
      simp at hk
      have := h2 k (by omega) (by omega)
      omega
    · exact hs2.2.2 y hy z hz
theorem cut_sorted {L : List Nat} {f t : Nat} (hs : L.Pairwise (· ≤ ·)) (hft : f ≤ t) : (L.take f ++ L.drop t).Pairwise (· ≤ ·) := by
  refine List.Pairwise.sublist ?_ hs
  have h1 : (L.drop t).Sublist (L.drop f) := by
    rw [show t = f + (t - f) by omega, ← List.drop_drop]
    exact List.drop_sublist _ _
  have h2 := List.Sublist.append (List.Sublist.refl (L.take f)) h1
  rwa [List.take_append_drop] at h2
theorem cut_mem {L : List Nat} {f t y : Nat} (h : y ∈ L.take f ++ L.drop t) : y ∈ L := by
  rcases List.mem_append.mp h with h | h
  · exact List.mem_of_mem_take h
  · exact List.mem_of_mem_drop h
/-- the leaves with a number stand side by side -/
def isRg (L : List Nat) (n p q : Nat) : Prop := isPl L ((n : Int) * 16) p ∧ p ≤ q ∧ q ≤ L.length ∧ (∀ (k : Nat) (h : k < L.length), p ≤ k → k < q → (L[k]'h) / 16 = n) ∧ ∀ (k : Nat) (h : k < L.length), q ≤ k → n < (L[k]'h) / 16
theorem rg_split {L : List Nat} {n p q : Nat} (h : isRg L n p q) : L = L.take p ++ ((L.drop p).take (q - p) ++ L.drop q) := by
  have h1 : L.drop q = (L.drop p).drop (q - p) := by rw [List.drop_drop]; congr 1; have := h.2.1; omega
  rw [h1, List.take_append_drop, List.take_append_drop]
theorem rg_lo {L : List Nat} {n p q y : Nat} (h : isRg L n p q) (hy : y ∈ L.take p) : y / 16 < n := by
  obtain ⟨k, hk, rfl⟩ := List.getElem_of_mem hy
  rw [List.getElem_take]
  simp at hk
  have := h.1.2.1 k (by omega) (by omega)
  omega
theorem rg_mid {L : List Nat} {n p q y : Nat} (h : isRg L n p q) (hy : y ∈ (L.drop p).take (q - p)) : y / 16 = n := by
  obtain ⟨k, hk, rfl⟩ := List.getElem_of_mem hy
  rw [List.getElem_take, List.getElem_drop]
  simp at hk
  exact h.2.2.2.1 _ (by omega) (by omega) (by omega)
theorem rg_hi {L : List Nat} {n p q y : Nat} (h : isRg L n p q) (hy : y ∈ L.drop q) : n < y / 16 := by
  obtain ⟨k, hk, rfl⟩ := List.getElem_of_mem hy
  rw [List.getElem_drop]
  simp at hk
  exact h.2.2.2.2 _ (by omega) (by omega)
theorem rg_filter {L : List Nat} {n p q : Nat} (h : isRg L n p q) : L.filter (fun x => x / 16 == n) = (L.drop p).take (q - p) := by
  have e := rg_split h
  have h1 : (L.take p).filter (fun x => x / 16 == n) = [] := List.filter_eq_nil_iff.mpr (fun y hy => by have := rg_lo h hy; simp; omega)
  have h2 : ((L.drop p).take (q - p)).filter (fun x => x / 16 == n) = (L.drop p).take (q - p) := List.filter_eq_self.mpr (fun y hy => by have := rg_mid h hy; simp [this])
  have h3 : (L.drop q).filter (fun x => x / 16 == n) = [] := List.filter_eq_nil_iff.mpr (fun y hy => by have := rg_hi h hy; simp; omega)
  calc L.filter (fun x => x / 16 == n) = (L.take p ++ ((L.drop p).take (q - p) ++ L.drop q)).filter (fun x => x / 16 == n) := congrArg _ e
    _ = _ := by rw [List.filter_append, List.filter_append, h1, h2, h3]; simp
theorem rg_remA {L : List Nat} {n p q : Nat} (h : isRg L n p q) : L.take p ++ L.drop q = remA L n := by
  have e := rg_split h
  have h1 : (L.take p).filter (fun x => !(x / 16 == n)) = L.take p := List.filter_eq_self.mpr (fun y hy => by have := rg_lo h hy; simp; omega)
  have h2 : ((L.drop p).take (q - p)).filter (fun x => !(x / 16 == n)) = [] := List.filter_eq_nil_iff.mpr (fun y hy => by have := rg_mid h hy; simp [this])
  have h3 : (L.drop q).filter (fun x => !(x / 16 == n)) = L.drop q := List.filter_eq_self.mpr (fun y hy => by have := rg_hi h hy; simp; omega)
  have : remA L n = (L.take p ++ ((L.drop p).take (q - p) ++ L.drop q)).filter (fun x => !(x / 16 == n)) := congrArg _ e
  rw [this, List.filter_append, List.filter_append, h1, h2, h3]
  simp
theorem rg_cnt {L : List Nat} {n p q : Nat} (h : isRg L n p q) : cntN L n = q - p := by
  unfold cntN
  rw [List.countP_eq_length_filter, rg_filter h]
  have h1 := h.2.2.1
  simp
  omega
theorem rg_mem {L : List Nat} {n p q y : Nat} (h : isRg L n p q) (hy : y ∈ L) (hn : y / 16 = n) : ∃ (k : Nat) (hk : k < L.length), p ≤ k ∧ k < q ∧ y = L[k] := by
  obtain ⟨k, hk, rfl⟩ := List.getElem_of_mem hy
  refine ⟨k, hk, ?_, ?_, rfl⟩
  · rcases Nat.lt_or_ge k p with z | z
    · have := h.1.2.1 k hk z
      omega
    · exact z
  · rcases Nat.lt_or_ge k q with z | z
    · exact z
    · have := h.2.2.2.2 k hk z
      omega
theorem take1_drop {L : List Nat} {p : Nat} (hp : p < L.length) : L.take p ++ L.drop (p + 1) = L.eraseIdx p := by
  rw [List.eraseIdx_eq_take_drop_succ]
theorem erase_at {L : List Nat} {p x : Nat} (hp : p < L.length) (hx : L[p] = x) (hl : ∀ (k : Nat) (h : k < L.length), k < p → L[k] ≠ x) : L.take p ++ L.drop (p + 1) = L.erase x := by
  have e : L = L.take p ++ L.drop p := (List.take_append_drop p L).symm
  have e2 : L.drop p = x :: L.drop (p + 1) := by rw [← hx]; exact List.drop_eq_getElem_cons hp
  have hn : x ∉ L.take p := by
    intro hm
    obtain ⟨k, hk, hkx⟩ := List.getElem_of_mem hm
    rw [List.getElem_take] at hkx
    simp at hk
    exact hl k (by omega) (by omega) hkx
  have : L.erase x = (L.take p ++ x :: L.drop (p + 1)).erase x := by rw [← e2, ← e]
  rw [this, List.erase_append_right _ hn, List.erase_cons_head]
theorem rg_remE {L : List Nat} {n p q : Nat} (hs : L.Pairwise (· ≤ ·)) (h : isRg L n p q) : remE L n = if p < q then L.take p ++ L.drop (p + 1) else L := by
  unfold remE
  rw [rg_filter h]
  by_cases hpq : p < q
  · rw [if_pos hpq]
    have hq := h.2.2.1
    have e2 : L.drop p = L[p] :: L.drop (p + 1) := List.drop_eq_getElem_cons (by omega)
    have e3 : (L.drop p).take (q - p) = L[p] :: (L.drop (p + 1)).take (q - p - 1) := by
      rw [e2, show q - p = (q - p - 1) + 1 by omega, List.take_succ_cons]; simp
    have hm : ((L.drop p).take (q - p)).min? = some L[p] := by
      rw [List.min?_eq_some_iff]
      refine ⟨by rw [e3]; exact List.mem_cons_self, fun y hy => ?_⟩
      obtain ⟨k, hk, rfl⟩ := List.getElem_of_mem hy
      rw [List.getElem_take, List.getElem_drop]
      simp at hk
      rcases Nat.eq_zero_or_pos k with z | z
      · subst z; exact Nat.le_refl _
      · exact List.pairwise_iff_getElem.mp hs p (p + k) (by omega) (by omega) (by omega)
    rw [hm]
    refine (erase_at (by omega) rfl (fun k hk hkp z => ?_)).symm
    have h1 := h.1.2.1 k hk hkp
    have h2 := h.2.2.2.1 p (by omega) (Nat.le_refl _) hpq
    omega
  · rw [if_neg hpq]
    have : (L.drop p).take (q - p) = [] := by rw [show q - p = 0 by omega]; rfl
    rw [this]
    rfl
theorem rg_isE {L : List Nat} {n p q : Nat} (hs : L.Pairwise (· ≤ ·)) (h : isRg L n p q) : (∀ (hp : p < L.length), p < q → isE L n (((L[p]'hp) % 16 : Nat) : Int)) ∧ (¬ p < q → isE L n (-6)) := by
  refine ⟨fun hp hpq => Or.inr ⟨L[p], List.getElem_mem hp, h.2.2.2.1 p hp (Nat.le_refl _) hpq, rfl, fun y hy hn => ?_⟩, fun hpq => Or.inl ⟨rfl, fun x hx hn => ?_⟩⟩
  · obtain ⟨k, hk, k1, k2, rfl⟩ := rg_mem h hy hn
    have h2 := h.2.2.2.1 p hp (Nat.le_refl _) hpq
    rcases Nat.eq_or_lt_of_le k1 with z | z
    · subst z; exact Nat.le_refl _
    · have := List.pairwise_iff_getElem.mp hs p k hp hk z
      omega
  · obtain ⟨k, hk, k1, k2, rfl⟩ := rg_mem h hx hn
    omega
theorem rg_isLt {L : List Nat} {n p q : Nat} (hs : L.Pairwise (· ≤ ·)) (h : isRg L n p q) : (∀ (hp : q - 1 < L.length), p < q → isLt L n (((L[q - 1]'hp) % 16 : Nat) : Int)) ∧ (¬ p < q → isLt L n (-6)) := by
  refine ⟨fun hp hpq => Or.inr ⟨L[q - 1], List.getElem_mem hp, h.2.2.2.1 (q - 1) hp (by omega) (by omega), rfl, fun y hy hn => ?_⟩, fun hpq => Or.inl ⟨rfl, fun x hx hn => ?_⟩⟩
  · obtain ⟨k, hk, k1, k2, rfl⟩ := rg_mem h hy hn
    have h2 := h.2.2.2.1 (q - 1) hp (by omega) (by omega)
    rcases Nat.eq_or_lt_of_le (show k ≤ q - 1 by omega) with z | z
    · subst z; exact Nat.le_refl _
    · have := List.pairwise_iff_getElem.mp hs k (q - 1) hk hp z
      omega
  · obtain ⟨k, hk, k1, k2, rfl⟩ := rg_mem h hx hn
    omega
theorem pl_mem {L : List Nat} {x p : Nat} (hs : L.Pairwise (· ≤ ·)) (h : isPl L (x : Int) p) : x ∈ L ↔ ∃ hp : p < L.length, L[p] = x := by
  constructor
  · intro hm
    obtain ⟨k, hk, rfl⟩ := List.getElem_of_mem hm
    rcases Nat.lt_or_ge k p with z | z
    · have := h.2.1 k hk z
      omega
    · have hp : p < L.length := by omega
      refine ⟨hp, ?_⟩
      have h1 := h.2.2 p hp (Nat.le_refl _)
      rcases Nat.eq_or_lt_of_le z with y | y
      · subst y; rfl
      · have := List.pairwise_iff_getElem.mp hs p k hp hk y
        omega
  · rintro ⟨hp, rfl⟩
    exact List.getElem_mem hp
theorem isRg_of {L : List Nat} {n p q : Nat} (hs : L.Pairwise (· ≤ ·)) (h : isPl L ((n : Int) * 16) p) (h1 : p ≤ q) (h2 : q ≤ L.length) (h3 : ∀ (k : Nat) (h : k < L.length), p ≤ k → k < q → (L[k]'h) / 16 = n) (h4 : ∀ h : q < L.length, (L[q]'h) / 16 ≠ n) : isRg L n p q := by
  refine ⟨h, h1, h2, h3, fun k hk hqk => ?_⟩
  have hq : q < L.length := by omega
  have e1 := h.2.2 q hq h1
  have e2 := h4 hq
  rcases Nat.eq_or_lt_of_le hqk with y | y
  · subst y; omega
  · have := List.pairwise_iff_getElem.mp hs q k hq hk y
    omega
theorem eO_ne_eA {D : va_G} {ci k nn : Nat} {fs : List (Option Value)} (h : eO ci fs = eA D k nn) : False := by
  have := congrFun h (fun _ => 0)
  unfold eO eA at this
  cases this
theorem Bd.ne {D : va_G} {sk : Sk} {b o : Nat} (hb : Bd D sk b) (ho : Bd D sk o) : o ≠ b + 1 := by
  intro h
  have h1 := ho.1
  rw [h, hb.2] at h1
  exact eO_ne_eA (Option.some.inj h1).symm
theorem AL_cpy0 {r r' : Nat → Int} {L : List Nat} (h : AL r L) : AL (cpy r r' 0 0 L.length) L := by
  intro k hk
  unfold cpy
  rw [if_pos (by omega), show 0 + (k - 0) = k by omega]
  exact h k hk
def hasN (T : List Nat) (n : Nat) : Bool := T.any (fun x => x / 16 == n)
def surp (L T : List Nat) (n : Nat) : Nat := if hasN T n then cntN L n - 1 else cntN L n
def oldN (L T : List Nat) (n : Nat) : Nat := if hasN T n = true ∧ cntN L n ≠ 0 ∧ ∀ x ∈ T, x / 16 = n → x ∉ L then 1 else 0
def misN (L T : List Nat) (n : Nat) : Nat := if hasN T n = true ∧ cntN L n = 0 then 1 else 0
def dif (L T : List Nat) (n : Nat) (k : Int) : Nat := if k = 3 then surp L T n else if k = 4 then oldN L T n else misN L T n
def difU (L T : List Nat) (k : Int) (m : Nat) : Nat := ((List.range m).map (fun i => dif L T (i + 10) k)).sum
def difs (L T : List Nat) (k : Int) : Nat := difU L T k 90
def wrg (L T : List Nat) : Nat := difs L T 3 + difs L T 4 + difs L T 5
theorem difU_succ (L T : List Nat) (k : Int) (m : Nat) : difU L T k (m + 1) = difU L T k m + dif L T (m + 10) k := by
  unfold difU
  rw [List.range_succ, List.map_append, List.sum_append]
  simp
theorem hasN_of {T : List Nat} {n x : Nat} (h : x ∈ T) (hn : x / 16 = n) : hasN T n = true := List.any_eq_true.mpr ⟨x, h, by simp [hn]⟩
theorem hasN_no {T : List Nat} {n : Nat} (h : ∀ x ∈ T, x / 16 ≠ n) : hasN T n = false := by
  cases hh : hasN T n with
  | false => rfl
  | true =>
    obtain ⟨x, h1, h2⟩ := List.any_eq_true.mp hh
    exact absurd (by simpa using h2) (h x h1)
/-- the numbers of the text are apart -/
def unq (T : List Nat) : Prop := ∀ x ∈ T, ∀ y ∈ T, x / 16 = y / 16 → x = y
theorem chk_take {L : List Nat} {k : Nat} (h : k < L.length) : chk (L.take (k + 1)) = chk (L.take k) + L[k] / 16 * (L[k] % 16 + 1) := by
  unfold chk
  rw [List.take_succ_eq_append_getElem h, List.map_append, List.sum_append]
  simp
theorem cnt_take {L : List Nat} {P : Nat → Bool} {k : Nat} (h : k < L.length) : (L.take (k + 1)).countP P = (L.take k).countP P + if P L[k] then 1 else 0 := by
  rw [List.take_succ_eq_append_getElem h, List.countP_append]
  congr 1
  simp [List.countP_cons]
theorem chk_le {L : List Nat} (h : ∀ x ∈ L, x < 1600) : chk L ≤ L.length * 1600 := by
  induction L with
  | nil => simp [chk]
  | cons a t ih =>
    have h1 := ih (fun x hx => h x (List.mem_cons_of_mem _ hx))
    have h2 := h a List.mem_cons_self
    have h3 : a / 16 * (a % 16 + 1) ≤ 99 * 16 := Nat.mul_le_mul (by omega) (by omega)
    have h4 : chk (a :: t) = a / 16 * (a % 16 + 1) + chk t := by simp [chk]
    rw [h4, List.length_cons]
    omega
section JC
variable {p : Program} {l : Launch} {e : Env} {R : Room} {s : State} {m : MethodId} {args : Array Value} {below : List Frame} {meth : Method} {c : Code} {D : va_G} {A : Nat → Prop} {nL cells slots n pc : Nat} {Q : State → Prop} {sk : Sk} {L : List (Option Value)} {st : List Value} {cc : ByteArray} {own : String} {Ts : List Cond} {ret : Option FieldType}
theorem j_loop {σ : Type} (Inv : σ → Prop) (μ : σ → Nat) (F : σ → Mem × List (Option Value)) (hs : ∀ x, Inv x → (∀ y, Inv y → μ y < μ x → J p l e R s m args below meth c D A nL cells slots Q n sk (F y).1 pc (F y).2 []) → J p l e R s m args below meth c D A nL cells slots Q n sk (F x).1 pc (F x).2 []) (x : σ) (hx : Inv x) : J p l e R s m args below meth c D A nL cells slots Q n sk (F x).1 pc (F x).2 [] := by
  have key : ∀ (k : Nat) (x : σ), Inv x → μ x < k → J p l e R s m args below meth c D A nL cells slots Q n sk (F x).1 pc (F x).2 [] := by
    intro k
    induction k with
    | zero => intro x _ h; exact absurd h (Nat.not_lt_zero _)
    | succ k ih => intro x hx h; exact hs x hx (fun y hy hlt => ih y hy (by omega))
  exact key _ x hx (Nat.lt_succ_self _)
end JC
