/-! ===== what the class answers of the text, of parcels, of all ===== -/
theorem A_text {G : GS} {d : Nat} (hd : d < 10) (hN : NU (tx G.1)) {z : Int} (h : RTd (tx G.1) d z) : sText G (10 + (d : Int)) = if z < 0 then -6 else z := by
  unfold sText
  rw [cite_f (nn_nu hd), tn_10]
  refine the_is ?_ (fun a b h1 h2 => h1.uniq h2)
  rcases h with ⟨h1, h2⟩ | ⟨i, h1, h2, h3⟩
  · rw [if_pos (by omega)]
    refine Or.inl ⟨rfl, fun x hx hn => ?_⟩
    unfold cntN at h2
    rw [List.countP_eq_zero] at h2
    exact h2 x hx (by simpa using hn)
  · rw [if_neg (by omega)]
    refine Or.inr ⟨_, h3, by omega, by rw [h2]; congr 1; omega, fun y hy hn => ?_⟩
    rw [hN.unq y hy _ h3 (by omega)]
    exact Nat.le_refl _
theorem nn_P {G : GS} {p : Nat} (h : p < np G.1) : ¬ ¬ isP G.1 (p : Int) := fun q => q ⟨by omega, by omega⟩
theorem A_p0 {G : GS} {p : Nat} (h : p < np G.1) : sParcel G (p : Int) 0 = ((od G.1 p).length : Int) := by
  unfold sParcel
  rw [cite_f (nn_P h), cite_f (by omega), cite_t rfl, Int.toNat_natCast]
theorem A_pk {G : GS} {p k : Nat} (h : p < np G.1) (h1 : 1 ≤ k) (h8 : k ≤ 8) (hk : k - 1 < (od G.1 p).length) : sParcel G (p : Int) (k : Int) = (((od G.1 p)[k - 1]'hk : Nat) : Int) := by
  unfold sParcel
  rw [cite_f (nn_P h), cite_f (by omega), cite_f (by omega), cite_t (by omega), cite_t (by rw [Int.toNat_natCast]; omega), Int.toNat_natCast, Int.toNat_natCast, List.getD_eq_getElem?_getD, List.getElem?_eq_getElem hk]
  rfl
theorem A_pn {G : GS} {p k : Nat} (h : p < np G.1) (h1 : 1 ≤ k) (h8 : k ≤ 8) (hk : (od G.1 p).length < k) : sParcel G (p : Int) (k : Int) = -6 := by
  unfold sParcel
  rw [cite_f (nn_P h), cite_f (by omega), cite_f (by omega), cite_t (by omega), cite_f (by rw [Int.toNat_natCast]; omega)]
theorem mk2 (P : Nat → Bool) {n : Nat} (hn : n ≤ 2) : mk P n = (if 0 < n ∧ P 0 = true then 1 else 0) + 2 * (if 1 < n ∧ P 1 = true then 1 else 0) := by
  rcases (show n = 0 ∨ n = 1 ∨ n = 2 by omega) with rfl | rfl | rfl <;> cases h0 : P 0 <;> cases h1 : P 1 <;> simp [mk, h0, h1]
theorem bitL (w p : Nat) : w / 2 ^ p % 2 = if w.testBit p = true then 1 else 0 := by
  rw [tb_div]
  have := Nat.mod_lt (w / 2 ^ p) (show 0 < 2 by decide)
  by_cases q : w / 2 ^ p % 2 = 1
  · rw [q]; rfl
  · rw [decide_eq_false q, if_neg (by decide)]
    omega
theorem bitL_if {c : Prop} [Decidable c] (w p : Nat) : (if c then w else 0) / 2 ^ p % 2 = if c ∧ w.testBit p = true then 1 else 0 := by
  by_cases q : c
  · rw [if_pos q, bitL]
    by_cases r : w.testBit p = true
    · rw [if_pos r, if_pos ⟨q, r⟩]
    · rw [if_neg r, if_neg (fun z => r z.2)]
  · rw [if_neg q, if_neg (fun z => q z.1), Nat.zero_div]
theorem A_p9 {G : GS} {p : Nat} (h : p < np G.1) (h2 : no G.1 ≤ 2) : sParcel G (p : Int) 9 = ((wtL G.1 0 / 2 ^ p % 2 : Nat) : Int) + 2 * ((wtL G.1 1 / 2 ^ p % 2 : Nat) : Int) := by
  unfold sParcel wtL
  rw [cite_f (nn_P h), cite_f (by omega), cite_f (by decide), cite_f (by decide), cite_t rfl, Int.toNat_natCast, mk2 _ h2, bitL_if, bitL_if]
  omega
theorem A_p10 {G : GS} {p : Nat} (h : p < np G.1) (h2 : no G.1 ≤ 2) : sParcel G (p : Int) 10 = ((loL G.1 0 / 2 ^ p % 2 : Nat) : Int) + 2 * ((loL G.1 1 / 2 ^ p % 2 : Nat) : Int) := by
  unfold sParcel loL
  rw [cite_f (nn_P h), cite_f (by omega), cite_f (by decide), cite_f (by decide), cite_f (by decide), Int.toNat_natCast, mk2 _ h2, bitL_if, bitL_if]
  omega
def rbit (S : AS) (i : Nat) : Nat := if i < no S ∧ rt (bn S i) (tx S) = true then 1 else 0
theorem rbit_le (S : AS) (i : Nat) : rbit S i ≤ 1 := by
  unfold rbit
  split <;> omega
theorem A_c0 (G : GS) : sCount G 0 = (np G.1 : Int) := cite_t rfl _ _
theorem A_c1 (G : GS) : sCount G 1 = (no G.1 : Int) := by
  unfold sCount
  rw [cite_f (by decide), cite_t rfl]
theorem A_c2 (G : GS) : sCount G 2 = ((tx G.1).length : Int) := by
  unfold sCount
  rw [cite_f (by decide), cite_f (by decide), cite_t rfl]
theorem A_c3 (G : GS) : sCount G 3 = ((chk (tx G.1) % 997 : Nat) : Int) := by
  unfold sCount
  rw [cite_f (by decide), cite_f (by decide), cite_f (by decide), cite_t rfl]
theorem A_c4 {G : GS} (h2 : no G.1 ≤ 2) : sCount G 4 = (rbit G.1 0 : Int) + 2 * (rbit G.1 1 : Int) := by
  unfold sCount
  rw [cite_f (by decide), cite_f (by decide), cite_f (by decide), cite_f (by decide), cite_t rfl, mk2 _ h2]
  unfold rbit
  omega
theorem A_c5 (G : GS) : sCount G 5 = (cntI (tx G.1) 0 : Int) := by
  unfold sCount
  rw [cite_f (by decide), cite_f (by decide), cite_f (by decide), cite_f (by decide), cite_f (by decide), cite_t rfl]
theorem A_c6 (G : GS) : sCount G 6 = (mb (tx G.1) (np G.1)).1 := by
  unfold sCount
  rw [cite_f (by decide), cite_f (by decide), cite_f (by decide), cite_f (by decide), cite_f (by decide), cite_f (by decide), cite_t rfl]
theorem mb_s (T : List Nat) (m : Nat) : mb T (m + 1) = if (mb T m).2 < cntI T m then ((m : Int), cntI T m) else mb T m := rfl
theorem sU_step {f : Nat → Nat} {d a : Nat} {y : Int} (h : f d = a) (hy : y = (a : Int)) : ((sU f d : Nat) : Int) + y = ((sU f (d + 1) : Nat) : Int) := by
  rw [sU_s, h, hy]
  rfl
