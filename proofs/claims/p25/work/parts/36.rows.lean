/-! ===== what the law's methods do to rows of counts ===== -/
def enc (x : Nat) : Nat := x % 100 - 10 + if 100 ≤ x then 10 else 0
/-- the law's row of parcels at ap: the p-th has the orders O -/
def OP (v : Mem) (ap p : Nat) (O : List Nat) : Prop := v ap (9 * p) = (O.length : Int) ∧ ∀ (k : Nat) (h : k < O.length), v ap (9 * p + 1 + k) = ((enc (O[k]'h) : Nat) : Int)
theorem OP.kept {v w : Mem} {ap p : Nat} {O : List Nat} (h : OP v ap p O) (e : w ap = v ap) : OP w ap p O := by
  unfold OP at h ⊢
  rw [e]
  exact h
theorem enc_10 {x : Nat} (hx : oO x) : enc x % 10 = x % 100 - 10 ∧ enc x < 20 ∧ (9 < enc x ↔ 100 ≤ x) := by
  unfold oO at hx
  unfold enc
  split <;> omega
/-- one parcel, with care (1) or without (0) -/
def dn (c : Int) (O : List Nat) (p : Nat) (L : List Nat) : List Nat := if c = 0 then lessP O p L else careP O p L
def mid (c : Int) (x : Nat) (M : List Nat) : List Nat := if c = 0 then (if 100 ≤ x then M else remE M (x % 100)) else remA M (x % 100)
theorem dn_0 (c : Int) (p : Nat) (L : List Nat) : dn c [] p L = L := by
  unfold dn
  split <;> rfl
theorem dn_take {c : Int} {O : List Nat} {p : Nat} {L : List Nat} {k : Nat} (h : k < O.length) : dn c (O.take (k + 1)) p L = if 100 ≤ O[k] then insL (mid c O[k] (dn c (O.take k) p L)) (O[k] % 100 * 16 + p) else mid c O[k] (dn c (O.take k) p L) := by
  unfold dn mid
  by_cases q : c = 0
  · rw [if_pos q, if_pos q, if_pos q]
    unfold lessP
    rw [fold_take h]
    unfold less1
    split <;> rfl
  · rw [if_neg q, if_neg q, if_neg q]
    unfold careP
    rw [fold_take h]
    rfl
theorem dn_ok {c : Int} {O : List Nat} {p : Nat} {L : List Nat} (hp : p < 6) (hO : oP O) (h : okL L) (hc : (c = 1 ∧ Phi L ≤ 60) ∨ (c = 0 ∧ L.length ≤ 50)) {k : Nat} (hk : k < O.length) : okL (dn c (O.take k) p L) ∧ (mid c O[k] (dn c (O.take k) p L)).length < 60 ∧ (dn c (O.take k) p L).length ≤ 60 := by
  obtain ⟨h8, hoo, -⟩ := hO
  have hot : ∀ x ∈ O.take k, oO x := fun x hx => hoo x (List.mem_of_mem_take hx)
  have hx := hoo _ (List.getElem_mem hk)
  rcases hc with ⟨rfl, hP⟩ | ⟨rfl, hl⟩
  · obtain ⟨h1, h2⟩ := careP_ok hp (O.take k) hot h hP
    exact ⟨h1, rem_len h1 ⟨hx.1, hx.2.1⟩ h2, Nat.le_trans (Phi_len h1) h2⟩
  · obtain ⟨h1, h2, -⟩ := lessP_ok hp (O.take k) hot h
    rw [List.length_take] at h2
    refine ⟨h1, ?_, by show (lessP (O.take k) p L).length ≤ 60; omega⟩
    show (if 100 ≤ O[k] then lessP (O.take k) p L else remE (lessP (O.take k) p L) (O[k] % 100)).length < 60
    have := remE_len (lessP (O.take k) p L) (O[k] % 100)
    split <;> omega
theorem RA_remA {v w : Mem} {a d x : Nat} {M : List Nat} (hx : oO x) (hd : d = x % 100 - 10) (h : RA v a M) (e : ∀ k, k < 60 → w a k = if k / 6 = d then 0 else v a k) : RA w a (remA M (x % 100)) := fun k hk => by
  unfold oO at hx
  rw [e k hk, cA_remA, h k hk]
  by_cases q : k / 6 = d
  · rw [if_pos q, if_pos (by omega)]
    rfl
  · rw [if_neg q, if_neg (by omega)]
theorem RA_same {v w : Mem} {a : Nat} {M : List Nat} (h : RA v a M) (e : ∀ k, w a k = v a k) : RA w a M := fun k hk => by rw [e k]; exact h k hk
theorem RA_remE0 {v : Mem} {a d x : Nat} {M : List Nat} (hx : oO x) (hd : d = x % 100 - 10) (hM : okL M) (h : RA v a M) (e : ∀ j, j < 6 → v a (6 * d + j) = 0) : RA v a (remE M (x % 100)) := by
  unfold oO at hx
  rw [show x % 100 = d + 10 by omega, remE_none hM (fun i hi => by have := e i hi; rw [h _ (by omega)] at this; omega)]
  exact h
theorem RA_remE1 {v w : Mem} {a d x i : Nat} {M : List Nat} (hx : oO x) (hd : d = x % 100 - 10) (hM : okL M) (h : RA v a M) (hi : i < 6) (e : ∀ j, j < i → v a (6 * d + j) = 0) (e1 : v a (6 * d + i) ≠ 0) (f : w a (6 * d + i) = v a (6 * d + i) - 1) (g : ∀ k, k ≠ 6 * d + i → w a k = v a k) : RA w a (remE M (x % 100)) := by
  unfold oO at hx
  have h1 : cA M (6 * d + i) ≠ 0 := fun z => by rw [h _ (by omega), z] at e1; exact e1 rfl
  rw [show x % 100 = d + 10 by omega, remE_some hM hi h1 (fun j hj => by have := e j hj; rw [h _ (by omega)] at this; omega)]
  intro k hk
  rw [cA_erase]
  by_cases q : k = 6 * d + i
  · subst q
    rw [f, h _ hk, if_pos rfl]
    omega
  · rw [g k q, h k hk, if_neg (by unfold lfc; omega)]
    rfl
theorem RA_put {v w : Mem} {a d x p : Nat} {M : List Nat} (hx : oO x) (hd : d = x % 100 - 10) (hp : p < 6) (hl : M.length < 60) (h : RA v a M) (f : w a (6 * d + p) = v a (6 * d + p) + 1) (g : ∀ k, k ≠ 6 * d + p → w a k = v a k) : RA w a (insL M (x % 100 * 16 + p)) := fun k hk => by
  unfold oO at hx
  rw [cA_insL hl]
  by_cases q : k = 6 * d + p
  · subst q
    rw [f, h _ hk, if_pos (by unfold lfc; omega)]
    rfl
  · rw [g k q, h k hk, if_neg (by unfold lfc; omega)]
    rfl
theorem pop_64 : (List.range 64).all (fun w => w == 0 || (pop (w &&& (w - 1)) + 1 == pop w && decide (w &&& (w - 1) < w))) = true := by decide +kernel
theorem pop_step {w : Nat} (h : w < 64) (h0 : w ≠ 0) : pop (w &&& (w - 1)) + 1 = pop w ∧ w &&& (w - 1) < w := by
  have := List.all_eq_true.mp pop_64 w (List.mem_range.mpr h)
  simp [h0] at this
  exact this
theorem pop_le {w : Nat} (h : w < 64) : pop w ≤ 6 := by
  unfold pop
  omega
theorem careU_s (o : Nat → List Nat) (w : Nat) (L : List Nat) (m : Nat) : careU o w L (m + 1) = if w.testBit m then careP (o m) m (careU o w L m) else careU o w L m := rfl
/-- the law's rows of parcels: how many, and each -/
def PS (v : Mem) (q ap : Nat) (S : AS) : Prop := v q 0 = (np S : Int) ∧ np S ≤ 6 ∧ ∀ p, p < np S → OP v ap p (od S p) ∧ oP (od S p)
theorem PS.kept {v w : Mem} {q ap : Nat} {S : AS} (h : PS v q ap S) (e1 : w q = v q) (e2 : w ap = v ap) : PS w q ap S := ⟨by rw [e1]; exact h.1, h.2.1, fun p hp => ⟨(h.2.2 p hp).1.kept e2, (h.2.2 p hp).2⟩⟩
