/-! ===== what the law holds beside the class ===== -/
def wtL (S : AS) (i : Nat) : Nat := if i < no S then wt S i else 0
def loL (S : AS) (i : Nat) : Nat := if i < no S then lo_ S i else 0
def bnL (S : AS) (i : Nat) : List Nat := if i < no S then bn S i else []
/-- the law's rows lie behind the object at x -/
def Ld (D : va_G) (sk : Sk) (x : Nat) : Prop := Xd D sk x ∧ sk (x + 232) = some (eA D 10 6) ∧ sk (x + 233) = some (eA D 10 54) ∧ sk (x + 234) = some (eA D 10 10) ∧ sk (x + 235) = some (eA D 10 60) ∧ sk (x + 236) = some (eA D 10 60) ∧ sk (x + 237) = some (eA D 10 60)
def SO (S : AS) : Prop := no S ≤ 2 ∧ okL (tx S) ∧ NU (tx S) ∧ ∀ i, i < 2 → wtL S i < 2 ^ np S ∧ loL S i < 2 ^ np S
def QR (v : Mem) (x : Nat) (S : AS) : Prop := v (x + 232) 1 = (no S : Int) ∧ ∀ i, i < 2 → v (x + 232) (2 + i) = (wtL S i : Int) ∧ v (x + 232) (4 + i) = (loL S i : Int)
def LC (v : Mem) (x : Nat) (G : GS) : Prop := XR v x G ∧ SO G.1 ∧ PS v (x + 232) (x + 233) G.1 ∧ QR v x G.1 ∧ RT v (x + 234) (tx G.1)
def LB (v : Mem) (a : Nat) (L : List Nat) : Prop := RA v a L ∧ okL L ∧ Phi L ≤ 60
def LI (v : Mem) (x : Nat) (G : GS) : Prop := LC v x G ∧ LB v (x + 235) (bnL G.1 0) ∧ LB v (x + 236) (bnL G.1 1)
/-- nothing but the class's own and the scratch row changed -/
def frT (v v' : Mem) (x : Nat) : Prop := ∀ a, (a < x ∨ x + 232 ≤ a) → a ≠ x + 237 → v' a = v a
theorem frT.refl (v : Mem) (x : Nat) : frT v v x := fun _ _ _ => rfl
theorem XR.kept {v w : Mem} {x : Nat} {G : GS} (h : XR v x G) (hw : ∀ a, x ≤ a → a < x + 232 → w a = v a) : XR w x G := by
  obtain ⟨h1, h2, h3, h4⟩ := h
  refine ⟨h1.kept (fun a _ _ => hw a (by omega) (by omega)), h2.kept (fun a _ _ => hw a (by omega) (by omega)), h3.kept (hw _ (by omega) (by omega)) (hw _ (by omega) (by omega)), fun k hk => ?_⟩
  obtain ⟨g1, g2⟩ := h4 k hk
  rw [hw _ (by omega) (by omega)]
  refine ⟨g1, fun S hS => ?_⟩
  obtain ⟨g3, g4⟩ := g2 S hS
  exact ⟨g3, g4.kept (fun a _ _ => hw a (by omega) (by omega))⟩
theorem QR.kept {v w : Mem} {x : Nat} {S : AS} (h : QR v x S) (e : w (x + 232) = v (x + 232)) : QR w x S := by
  unfold QR at h ⊢
  rw [e]
  exact h
theorem LC.kept {v w : Mem} {x : Nat} {G : GS} (h : LC v x G) (hX : XR w x G) (f : frT v w x) : LC w x G := by
  obtain ⟨h1, h2, h3, h4, h5⟩ := h
  exact ⟨hX, h2, h3.kept (f _ (by omega) (by omega)) (f _ (by omega) (by omega)), h4.kept (f _ (by omega) (by omega)), h5.kept (f _ (by omega) (by omega))⟩
theorem LB.kept {v w : Mem} {a : Nat} {L : List Nat} (h : LB v a L) (e : w a = v a) : LB w a L := ⟨h.1.kept e, h.2⟩
theorem LB.len {v : Mem} {a : Nat} {L : List Nat} (h : LB v a L) : L.length ≤ 60 := Nat.le_trans (Phi_len h.2.1) h.2.2
/-- while one owner is asked about -/
def OW (v u : Mem) (x h : Nat) (G : GS) : Prop := LC u x G ∧ LB u (x + 235 + h) (bn G.1 h) ∧ frT v u x
theorem OW.cls {v u w : Mem} {x h : Nat} {G : GS} (H : OW v u x h G) (hX : XR w x G) (f : frX u w x) : OW v w x h G := by
  obtain ⟨h1, h2, h3⟩ := H
  exact ⟨h1.kept hX (fun a ha _ => f a ha), h2.kept (f _ (by omega)), fun a ha hb => (f a ha).trans (h3 a ha hb)⟩
theorem OW.scr {v u w : Mem} {x h : Nat} {G : GS} (H : OW v u x h G) (hh : h < 2) (f : ∀ r, r ≠ x + 237 → w r = u r) : OW v w x h G := by
  obtain ⟨h1, h2, h3⟩ := H
  exact ⟨h1.kept (h1.1.kept (fun a _ _ => f a (by omega))) (fun a _ hb => f a hb), h2.kept (f _ (by omega)), fun a ha hb => (f a hb).trans (h3 a ha hb)⟩
theorem OW.nn {v u : Mem} {x h : Nat} {G : GS} (H : OW v u x h G) : u (x + 232) 0 = (np G.1 : Int) := H.1.2.2.1.1
/-! ===== what the class answers then ===== -/
theorem nn_isO {G : GS} {i : Nat} (h : i < no G.1) : ¬ ¬ isO G.1 (i : Int) := fun q => q ⟨by omega, by omega⟩
theorem nn_isP {G : GS} {i p : Nat} (h : i < no G.1) (hp : p < np G.1) : ¬ ¬ (isO G.1 (i : Int) ∧ isP G.1 (p : Int)) := fun q => q ⟨⟨by omega, by omega⟩, ⟨by omega, by omega⟩⟩
theorem nn_nu {d : Nat} (h : d < 10) : ¬ ¬ isNu (10 + (d : Int)) := fun q => q ⟨by omega, by omega⟩
theorem tn_10 (d : Nat) : (10 + (d : Int)).toNat = d + 10 := by omega
theorem A_leaf {G : GS} {i d : Nat} (h : i < no G.1) (hd : d < 10) (w : Int) : sLeaf G (i : Int) (10 + (d : Int)) w = cite (w = 0) (cntN (bn G.1 i) (d + 10) : Int) (cite (w = 1) (the (isE (bn G.1 i) (d + 10))) (cite (w = 2) (the (isLt (bn G.1 i) (d + 10))) (cite (3 ≤ w ∧ w ≤ 5) (dif (bn G.1 i) (tx G.1) (d + 10) w : Int) (-2)))) := by
  unfold sLeaf
  rw [cite_f (nn_isO h), cite_f (nn_nu hd), tn_10, Int.toNat_natCast]
theorem A_l0 {G : GS} {i d : Nat} (h : i < no G.1) (hd : d < 10) : sLeaf G (i : Int) (10 + (d : Int)) 0 = (cntN (bn G.1 i) (d + 10) : Int) := by
  rw [A_leaf h hd, cite_t rfl]
theorem A_l1 {G : GS} {i d : Nat} (h : i < no G.1) (hd : d < 10) (hL : okL (bn G.1 i)) {z : Int} (g : eI (fun j => cA (bn G.1 i) (6 * d + j)) 6 z) : sLeaf G (i : Int) (10 + (d : Int)) 1 = z := by
  rw [A_leaf h hd, cite_f (by decide), cite_t rfl]
  exact the_is (eI_isE hL g) (fun a b h1 h2 => h1.uniq h2)
theorem A_l2 {G : GS} {i d : Nat} (h : i < no G.1) (hd : d < 10) (hL : okL (bn G.1 i)) {z : Int} (g : lI (fun j => cA (bn G.1 i) (6 * d + j)) 6 z) : sLeaf G (i : Int) (10 + (d : Int)) 2 = z := by
  rw [A_leaf h hd, cite_f (by decide), cite_f (by decide), cite_t rfl]
  exact the_is (lI_isLt hL g) (fun a b h1 h2 => h1.uniq h2)
theorem A_l3 {G : GS} {i d : Nat} (h : i < no G.1) (hd : d < 10) (w : Int) (hw : 3 ≤ w ∧ w ≤ 5) : sLeaf G (i : Int) (10 + (d : Int)) w = (dif (bn G.1 i) (tx G.1) (d + 10) w : Int) := by
  rw [A_leaf h hd, cite_f (by omega), cite_f (by omega), cite_f (by omega), cite_t hw]
theorem A_o0 {G : GS} {i : Nat} (h : i < no G.1) : sOf G (i : Int) 0 = ((bn G.1 i).length : Int) := by
  unfold sOf
  rw [cite_f (nn_isO h), cite_t rfl, Int.toNat_natCast]
theorem A_o1 {G : GS} {i : Nat} (h : i < no G.1) : sOf G (i : Int) 1 = (wt G.1 i : Int) := by
  unfold sOf
  rw [cite_f (nn_isO h), cite_f (by decide), cite_t rfl, Int.toNat_natCast]
theorem A_o2 {G : GS} {i : Nat} (h : i < no G.1) : sOf G (i : Int) 2 = (lo_ G.1 i : Int) := by
  unfold sOf
  rw [cite_f (nn_isO h), cite_f (by decide), cite_f (by decide), cite_t rfl, Int.toNat_natCast]
theorem A_o3 {G : GS} {i : Nat} (h : i < no G.1) (w : Int) (hw : 3 ≤ w ∧ w ≤ 5) : sOf G (i : Int) w = (difs (bn G.1 i) (tx G.1) w : Int) := by
  unfold sOf
  rw [cite_f (nn_isO h), cite_f (by omega), cite_f (by omega), cite_f (by omega), cite_t hw, Int.toNat_natCast]
theorem A_o6 {G : GS} {i : Nat} (h : i < no G.1) : sOf G (i : Int) 6 = if rt (bn G.1 i) (tx G.1) = true then 1 else 0 := by
  unfold sOf
  rw [cite_f (nn_isO h), cite_f (by decide), cite_f (by decide), cite_f (by decide), cite_f (by decide), cite_t rfl, Int.toNat_natCast]
  by_cases q : rt (bn G.1 i) (tx G.1) = true
  · rw [if_pos q, cite_t q]
  · rw [if_neg q, cite_f q]
theorem A_o7 {G : GS} {i : Nat} (h : i < no G.1) : sOf G (i : Int) 7 = ((chk (bn G.1 i) % 997 : Nat) : Int) := by
  unfold sOf
  rw [cite_f (nn_isO h), cite_f (by decide), cite_f (by decide), cite_f (by decide), cite_f (by decide), cite_f (by decide), cite_t rfl, Int.toNat_natCast]
theorem A_ia {G : GS} {i : Nat} (h : i < no G.1) : sIfAllDone G (i : Int) = (wrg (careU (od G.1) (wt G.1 i) (bn G.1 i) (np G.1)) (tx G.1) : Int) := by
  unfold sIfAllDone
  rw [cite_f (nn_isO h), Int.toNat_natCast]
  rfl
theorem A_id {G : GS} {i p : Nat} (h : i < no G.1) (hp : p < np G.1) : sIfDone G (i : Int) (p : Int) = (wrg (careU (od G.1) (2 ^ p) (bn G.1 i) (np G.1)) (tx G.1) : Int) := by
  unfold sIfDone
  rw [cite_f (nn_isP h hp), Int.toNat_natCast, Int.toNat_natCast]
  rfl
theorem A_m {G : GS} {i : Nat} (h : i < no G.1) {z : Int} (g : isM G.1 i z) : sMending G (i : Int) = z := by
  unfold sMending
  rw [cite_f (nn_isO h), Int.toNat_natCast]
  exact the_is g (fun a b h1 h2 => h1.uniq h2)
theorem A_r {G : GS} {i : Nat} (h : i < no G.1) {z : Int} (g : isR G.1 i z) : sRightFrom G (i : Int) = z := by
  unfold sRightFrom
  rw [cite_f (nn_isO h), Int.toNat_natCast]
  exact the_is g (fun a b h1 h2 => h1.uniq h2)
theorem chk_step (L : List Nat) (d i : Nat) (hi : i < 6) : (((sU (fun k => cA L k * wchk k) (6 * d + i) : Nat) : Int) + ((cA L (6 * d + i) : Nat) : Int) * (10 + (d : Int)) * ((i : Int) + 1)) = ((sU (fun k => cA L k * wchk k) (6 * d + i + 1) : Nat) : Int) := by
  have e : wchk (6 * d + i) = (d + 10) * (i + 1) := by
    unfold wchk
    rw [show (6 * d + i) / 6 = d by omega, show (6 * d + i) % 6 = i by omega]
  rw [sU_s, e, Int.natCast_add, Int.natCast_mul, Int.natCast_mul, Int.natCast_add, Int.natCast_add, Int.mul_assoc, Int.add_comm 10]
  rfl
theorem eI_nil (f : Nat → Nat) : eI f 0 (-6) := Or.inl ⟨rfl, fun j hj => absurd hj (Nat.not_lt_zero _)⟩
theorem lI_nil (f : Nat → Nat) : lI f 0 (-6) := Or.inl ⟨rfl, fun j hj => absurd hj (Nat.not_lt_zero _)⟩
theorem eI_keep {f : Nat → Nat} {i : Nat} {e : Int} (h : eI f i e) (g : f i = 0 ∨ 0 ≤ e) : eI f (i + 1) e := by
  rcases h with ⟨h1, h2⟩ | ⟨j, h1, h2, h3, h4⟩
  · refine Or.inl ⟨h1, fun j hj => ?_⟩
    by_cases q : j = i
    · subst q
      rcases g with g | g
      · exact g
      · omega
    · exact h2 j (by omega)
  · exact Or.inr ⟨j, by omega, h2, h3, h4⟩
theorem eI_new {f : Nat → Nat} {i : Nat} {e : Int} (h : eI f i e) (he : e < 0) (g : f i ≠ 0) : eI f (i + 1) (i : Int) := by
  rcases h with ⟨h1, h2⟩ | ⟨j, h1, h2, h3, h4⟩
  · exact Or.inr ⟨i, by omega, rfl, g, h2⟩
  · omega
theorem eI_bd {f : Nat → Nat} {i : Nat} {e : Int} (h : eI f i e) (hi : i ≤ 6) : -6 ≤ e ∧ e ≤ 6 := by
  rcases h with ⟨h1, h2⟩ | ⟨j, h1, h2, h3, h4⟩ <;> omega
theorem lI_keep {f : Nat → Nat} {i : Nat} {e : Int} (h : lI f i e) (g : f i = 0) : lI f (i + 1) e := by
  rcases h with ⟨h1, h2⟩ | ⟨j, h1, h2, h3, h4⟩
  · refine Or.inl ⟨h1, fun j hj => ?_⟩
    by_cases q : j = i
    · subst q
      exact g
    · exact h2 j (by omega)
  · refine Or.inr ⟨j, by omega, h2, h3, fun k h5 h6 => ?_⟩
    by_cases q : k = i
    · subst q
      exact g
    · exact h4 k h5 (by omega)
theorem lI_new {f : Nat → Nat} {i : Nat} (g : f i ≠ 0) : lI f (i + 1) (i : Int) := Or.inr ⟨i, by omega, rfl, g, fun k h1 h2 => by omega⟩
theorem lI_bd {f : Nat → Nat} {i : Nat} {e : Int} (h : lI f i e) (hi : i ≤ 6) : -6 ≤ e ∧ e ≤ 6 := by
  rcases h with ⟨h1, h2⟩ | ⟨j, h1, h2, h3, h4⟩ <;> omega
/-- the best set so far; the latest parcel so far -/
def bI (S : AS) (i m : Nat) (z : Int) : Prop := (z = -6 ∧ ∀ k, k < m → ¬ mends S i k) ∨ ∃ b : Nat, z = (b : Int) ∧ b < m ∧ mends S i b ∧ ∀ k, k < m → mends S i k → pop b < pop k ∨ (pop b = pop k ∧ b ≤ k)
def rI (S : AS) (i p : Nat) (z : Int) : Prop := (z = -6 ∧ ∀ g, g < p → ¬ rt (tryL S i (2 ^ np S - 2 ^ g)) (tx S) = true) ∨ ∃ f : Nat, z = (f : Int) ∧ f < p ∧ rt (tryL S i (2 ^ np S - 2 ^ f)) (tx S) = true ∧ ∀ g, f < g → g < p → ¬ rt (tryL S i (2 ^ np S - 2 ^ g)) (tx S) = true
theorem bI_nil (S : AS) (i : Nat) : bI S i 0 (-6) := Or.inl ⟨rfl, fun j hj => absurd hj (Nat.not_lt_zero _)⟩
theorem rI_nil (S : AS) (i : Nat) : rI S i 0 (-6) := Or.inl ⟨rfl, fun j hj => absurd hj (Nat.not_lt_zero _)⟩
theorem bI_not {S : AS} {i m : Nat} {z : Int} (h : bI S i m z) (g : ¬ mends S i m) : bI S i (m + 1) z := by
  rcases h with ⟨h1, h2⟩ | ⟨b, h1, h2, h3, h4⟩
  · refine Or.inl ⟨h1, fun k hk => ?_⟩
    by_cases q : k = m
    · subst q; exact g
    · exact h2 k (by omega)
  · refine Or.inr ⟨b, h1, by omega, h3, fun k hk hm => ?_⟩
    by_cases q : k = m
    · subst q; exact absurd hm g
    · exact h4 k (by omega) hm
theorem bI_worse {S : AS} {i m b : Nat} (h : bI S i m (b : Int)) (g : pop b ≤ pop m) : bI S i (m + 1) (b : Int) := by
  rcases h with ⟨h1, h2⟩ | ⟨c, h1, h2, h3, h4⟩
  · omega
  · have e : b = c := by omega
    subst e
    refine Or.inr ⟨b, rfl, by omega, h3, fun k hk hm => ?_⟩
    by_cases q : k = m
    · subst q; omega
    · exact h4 k (by omega) hm
theorem bI_take {S : AS} {i m : Nat} {z : Int} (h : bI S i m z) (g : mends S i m) (hz : z < 0 ∨ ∃ b : Nat, z = (b : Int) ∧ pop m < pop b) : bI S i (m + 1) (m : Int) := by
  refine Or.inr ⟨m, rfl, by omega, g, fun k hk hm => ?_⟩
  by_cases q : k = m
  · subst q; omega
  · rcases h with ⟨h1, h2⟩ | ⟨c, h1, h2, h3, h4⟩
    · exact absurd hm (h2 k (by omega))
    · rcases hz with hz | ⟨b, hz, hlt⟩
      · omega
      · have e : b = c := by omega
        subst e
        have := h4 k (by omega) hm
        omega
theorem bI_bd {S : AS} {i m : Nat} {z : Int} (h : bI S i m z) (hm : m ≤ 64) : -6 ≤ z ∧ z < 64 := by
  rcases h with ⟨h1, h2⟩ | ⟨c, h1, h2, h3, h4⟩ <;> omega
theorem bI_isM {S : AS} {i : Nat} {z : Int} (h : bI S i (2 ^ np S) z) : isM S i z := by
  rcases h with ⟨h1, h2⟩ | ⟨c, h1, h2, h3, h4⟩
  · exact Or.inr ⟨h1, fun m hm => h2 m hm.1 hm⟩
  · exact Or.inl ⟨c, h1, h3, fun k hk => h4 k hk.1 hk⟩
theorem rI_not {S : AS} {i p : Nat} {z : Int} (h : rI S i p z) (g : ¬ rt (tryL S i (2 ^ np S - 2 ^ p)) (tx S) = true) : rI S i (p + 1) z := by
  rcases h with ⟨h1, h2⟩ | ⟨b, h1, h2, h3, h4⟩
  · refine Or.inl ⟨h1, fun k hk => ?_⟩
    by_cases q : k = p
    · subst q; exact g
    · exact h2 k (by omega)
  · refine Or.inr ⟨b, h1, by omega, h3, fun k hk hm => ?_⟩
    by_cases q : k = p
    · subst q; exact g
    · exact h4 k hk (by omega)
theorem rI_take {S : AS} {i p : Nat} (g : rt (tryL S i (2 ^ np S - 2 ^ p)) (tx S) = true) : rI S i (p + 1) (p : Int) := Or.inr ⟨p, rfl, by omega, g, fun k h1 h2 => by omega⟩
theorem rI_bd {S : AS} {i p : Nat} {z : Int} (h : rI S i p z) (hp : p ≤ 64) : -6 ≤ z ∧ z < 64 := by
  rcases h with ⟨h1, h2⟩ | ⟨c, h1, h2, h3, h4⟩ <;> omega
theorem rI_isR {S : AS} {i : Nat} {z : Int} (h : rI S i (np S + 1) z) : isR S i z := by
  rcases h with ⟨h1, h2⟩ | ⟨c, h1, h2, h3, h4⟩
  · exact Or.inr ⟨h1, fun g hg => h2 g (by omega)⟩
  · exact Or.inl ⟨c, h1, by omega, h3, fun g h5 h6 => h4 g h5 (by omega)⟩
theorem wrg_le {L T : List Nat} (hL : okL L) (hT : okL T) (h : L.length ≤ 60) : wrg L T ≤ 80 := by
  have h3 := difU_3le L T 10
  have h4 := difU_4le L T 10
  have h5 := difU_5le L T 10
  rw [len_CN hL] at h3
  unfold wrg
  rw [difs_10 hL hT, difs_10 hL hT, difs_10 hL hT]
  omega
/-- what is tried on an owner's binder -/
theorem OW.try {v u : Mem} {x h : Nat} {G : GS} (H : OW v u x h G) (w : Nat) : wrg (careU (od G.1) w (bn G.1 h) (np G.1)) (tx G.1) ≤ 80 ∧ (wrg (careU (od G.1) w (bn G.1 h) (np G.1)) (tx G.1) = 0 ↔ rt (tryL G.1 h w) (tx G.1) = true) := by
  obtain ⟨⟨-, ⟨-, hT, hN, -⟩, ⟨-, h6, hP⟩, -, -⟩, ⟨-, hL, hPh⟩, -⟩ := H
  obtain ⟨h1, h2⟩ := careU_ok (o := od G.1) w hL hPh (np G.1) h6 (fun p hp => (hP p hp).2.2.1)
  exact ⟨wrg_le h1 hT (Nat.le_trans (Phi_len h1) h2), wrg_0 hN h1.b hT.b⟩
theorem p2_64 {k : Nat} (h : k ≤ 6) : 2 ^ k ≤ 64 := Nat.pow_le_pow_right (n := 2) (by decide) h
