/-! ===== for the law's walk ===== -/
theorem PTX_next {P O P1 : List Nat} {w dd b0 k : Nat} (h : PTX P O) (hk : O.length = k) (hP1 : P1 = if k = 0 then P else P ++ [44]) (hw : (w = 43 ∧ b0 = 1) ∨ (w = 45 ∧ b0 = 0)) (hdd : dd < 10) : PTX (P1 ++ [w] ++ [49] ++ [46] ++ [48 + dd]) (O ++ [10 + dd + 100 * b0]) := by
  have e1 : sgn (10 + dd + 100 * b0) = w := by
    unfold sgn
    split <;> omega
  have e2 : (10 + dd + 100 * b0) % 10 = dd := by omega
  by_cases q : k = 0
  · have hO : O = [] := List.length_eq_zero_iff.mp (by omega)
    have hP : P = [] := by
      have := h.1
      rw [hO] at this
      exact List.length_eq_zero_iff.mp this
    have g := PTX.one (10 + dd + 100 * b0)
    rw [e1, e2] at g
    rw [hP1, if_pos q, hO, hP]
    exact g
  · have hO : O ≠ [] := fun z => by rw [z] at hk; exact q hk.symm
    have g := h.more hO (10 + dd + 100 * b0)
    rw [e1, e2] at g
    rw [hP1, if_neg q]
    simp only [List.append_assoc, List.cons_append, List.nil_append]
    exact g
theorem dn_fin {c : Int} {O : List Nat} {p : Nat} {L : List Nat} (hp : p < 6) (hO : oP O) (h : okL L) (hc : (c = 1 ∧ Phi L ≤ 60) ∨ (c = 0 ∧ L.length ≤ 50)) : okL (dn c O p L) ∧ Phi (dn c O p L) ≤ 60 := by
  rcases hc with ⟨rfl, hP⟩ | ⟨rfl, hl⟩
  · exact careP_ok hp O hO.2.1 h hP
  · exact lessP_Phi hp hO h hl
theorem S_id (S : AS) (i : Nat) : S = setW (setB S i (bn S i)) i (wt S i) (lo_ S i) := by
  rw [setW_id]
  unfold setB
  rw [fset_id]
theorem mem_cA {L : List Nat} {d p : Nat} (hp : p < 6) : cA L (6 * d + p) ≠ 0 ↔ (d + 10) * 16 + p ∈ L := by
  rw [← lfc_6 d hp]
  exact cA_pos
theorem LI.zero {v : Mem} {x : Nat} {G : GS} (h : LI v x G) (hn : no G.1 < 2) : ∀ j, j < 60 → v (x + 235 + no G.1) j = 0 := fun j hj => by
  have e := (h.lb hn).1 j hj
  rw [show bnL G.1 (no G.1) = [] from if_neg (by omega), cA_nil] at e
  exact e
theorem RA_hin {v w : Mem} {a d p : Nat} {L : List Nat} (h : RA v a L) (hd : d < 10) (hp : p < 6) (hl : L.length < 60) (f : w a (6 * d + p) = (cA L (6 * d + p) : Int) + 1) (g : ∀ k, k ≠ 6 * d + p → w a k = v a k) : RA w a (insL L ((d + 10) * 16 + p)) := fun k hk => by
  rw [cA_insL hl, ← lfc_6 d hp]
  by_cases q : k = 6 * d + p
  · subst q
    rw [f, if_pos rfl]
    rfl
  · rw [g k q, h k hk, if_neg (by unfold lfc; omega)]
    rfl
theorem RA_hout {v w : Mem} {a d p : Nat} {L : List Nat} (h : RA v a L) (hd : d < 10) (hp : p < 6) (hm : (d + 10) * 16 + p ∈ L) (f : w a (6 * d + p) = (cA L (6 * d + p) : Int) + -1) (g : ∀ k, k ≠ 6 * d + p → w a k = v a k) : RA w a (L.erase ((d + 10) * 16 + p)) := fun k hk => by
  have h1 := (mem_cA (L := L) (d := d) hp).mpr hm
  rw [← lfc_6 d hp, cA_erase]
  by_cases q : k = 6 * d + p
  · subst q
    rw [f, if_pos rfl]
    omega
  · rw [g k q, h k hk, if_neg (by unfold lfc; omega)]
    rfl
theorem Phi_ins {L : List Nat} (h : okL L) (hl : L.length ≤ 50) (x : Nat) : Phi (insL L x) ≤ 60 := Nat.le_trans (Phi_10 h (fun m => Nat.le_trans (cN_insL_le L x m) (by split <;> omega))) (by omega)
theorem Phi_er {L : List Nat} (h : Phi L ≤ 60) (x : Nat) : Phi (L.erase x) ≤ 60 := Nat.le_trans (Phi_mono (fun m => cN_erase_le L x m)) h
theorem okx_hd {d p : Nat} (hd : d < 10) (hp : p < 6) : okx ((d + 10) * 16 + p) := by
  unfold okx
  omega
theorem lw_64 {w n : Nat} (h : w < 2 ^ n) (hn : n ≤ 6) : w < 64 := Nat.lt_of_lt_of_le h (p2_64 hn)
theorem Xd.up {D : va_G} {sk sk' : Sk} {x : Nat} (h : Xd D sk x) (e : ∀ a, x ≤ a → a < x + 232 → sk' a = sk a) : Xd D sk' x := by
  obtain ⟨h1, h2, h3, ⟨g, h4, hg⟩, h5, h6, ⟨g2, h7, hg2⟩, h8, h9⟩ := h
  exact ⟨(e _ (by omega) (by omega)).trans h1, h2.up (fun a _ _ => e a (by omega) (by omega)), h3.up (fun a _ _ => e a (by omega) (by omega)), ⟨g, (e _ (by omega) (by omega)).trans h4, hg⟩, (e _ (by omega) (by omega)).trans h5, ⟨(e _ (by omega) (by omega)).trans h6.1, (e _ (by omega) (by omega)).trans h6.2⟩, ⟨g2, (e _ (by omega) (by omega)).trans h7, hg2⟩, fun k hk => (h8 k hk).up (fun a _ _ => e a (by omega) (by omega)), fun k hk => (h9 k hk).up (e _ (by omega) (by omega)) (e _ (by omega) (by omega))⟩
