/-! ===== how a turn of the law changes what it holds ===== -/
theorem Phi_NU {T : List Nat} (h : NU T) : Phi T ≤ 60 := Nat.le_trans (Phi_10 (M := []) okL.nil (fun m => Nat.le_trans (h.cnt m) (by omega))) (by decide)
theorem LI_new {v : Mem} {x : Nat} (h : ∀ a, x ≤ a → a < x + 232 → v a = fun _ => 0) (hq : v (x + 232) = fun _ => 0) (ha : v (x + 235) = fun _ => 0) (hb : v (x + 236) = fun _ => 0) (ht : ∀ d, d < 10 → v (x + 234) d = -1) : LI v x G00 := by
  have e : ∀ i, bnL G00.1 i = [] := fun i => if_neg (Nat.not_lt_zero _)
  have e2 : ∀ i, wtL G00.1 i = 0 := fun i => if_neg (Nat.not_lt_zero _)
  have e3 : ∀ i, loL G00.1 i = 0 := fun i => if_neg (Nat.not_lt_zero _)
  refine ⟨⟨XR_new h, ⟨Nat.zero_le _, okL.nil, NU.nil, fun i hi => ?_⟩, ⟨by rw [hq]; rfl, Nat.zero_le _, fun p hp => absurd hp (Nat.not_lt_zero _)⟩, ⟨by rw [hq]; rfl, fun i hi => ?_⟩, fun d hd => Or.inl ⟨ht d hd, rfl⟩⟩, ?_, ?_⟩
  · rw [e2, e3]
    exact ⟨Nat.one_pos, Nat.one_pos⟩
  · rw [e2, e3, hq]
    exact ⟨rfl, rfl⟩
  · rw [e]
    exact ⟨fun k hk => by rw [ha, cA_nil]; rfl, okL.nil, by rw [Phi_nil]; decide⟩
  · rw [e]
    exact ⟨fun k hk => by rw [hb, cA_nil]; rfl, okL.nil, by rw [Phi_nil]; decide⟩
theorem LI.cls {v w : Mem} {x : Nat} {G : GS} (h : LI v x G) (hX : XR w x G) (f : frT v w x) : LI w x G := by
  obtain ⟨h1, h2, h3⟩ := h
  exact ⟨h1.kept hX f, h2.kept (f _ (by omega) (by omega)), h3.kept (f _ (by omega) (by omega))⟩
theorem LI.lb {v : Mem} {x : Nat} {G : GS} (h : LI v x G) {i : Nat} (hi : i < 2) : LB v (x + 235 + i) (bnL G.1 i) := by
  rcases (show i = 0 ∨ i = 1 by omega) with rfl | rfl
  · exact h.2.1
  · exact h.2.2
theorem LI.ob {v : Mem} {x : Nat} {G : GS} (h : LI v x G) {i : Nat} (hi : i < no G.1) : LB v (x + 235 + i) (bn G.1 i) := by
  have h2 := h.1.2.1.1
  have := h.lb (show i < 2 by omega)
  rw [show bnL G.1 i = bn G.1 i from if_pos hi] at this
  exact this
theorem LI.wl {v : Mem} {x : Nat} {G : GS} (h : LI v x G) {i : Nat} (hi : i < no G.1) : v (x + 232) (2 + i) = (wt G.1 i : Int) ∧ v (x + 232) (4 + i) = (lo_ G.1 i : Int) ∧ wt G.1 i < 2 ^ np G.1 ∧ lo_ G.1 i < 2 ^ np G.1 := by
  have h2 := h.1.2.1.1
  obtain ⟨a1, a2⟩ := h.1.2.2.2.1.2 i (by omega)
  obtain ⟨a3, a4⟩ := h.1.2.1.2.2.2 i (by omega)
  rw [show wtL G.1 i = wt G.1 i from if_pos hi] at a1 a3
  rw [show loL G.1 i = lo_ G.1 i from if_pos hi] at a2 a4
  exact ⟨a1, a2, a3, a4⟩
theorem LI_mod {v y : Mem} {x h : Nat} {G G' : GS} {L' : List Nat} {w' k' : Nat} (hI : LI v x G) (hh : h < no G.1) (hG : G'.1 = setW (setB G.1 h L') h w' k') (hX : XR y x G') (hw : w' < 2 ^ np G.1) (hk : k' < 2 ^ np G.1) (hR : RA y (x + 235 + h) L') (hL : okL L') (hP : Phi L' ≤ 60) (h2 : y (x + 232) (2 + h) = (w' : Int)) (h4 : y (x + 232) (4 + h) = (k' : Int)) (hq : ∀ j, j ≠ 2 + h → j ≠ 4 + h → y (x + 232) j = v (x + 232) j) (hf : ∀ a, x + 232 ≤ a → a ≠ x + 232 → a ≠ x + 235 + h → a ≠ x + 237 → y a = v a) : LI y x G' := by
  obtain ⟨S', H', sl', P'⟩ := G'
  dsimp only at hG
  subst hG
  have hlb : ∀ i, i < 2 → LB v (x + 235 + i) (bnL G.1 i) := fun i hi => hI.lb hi
  obtain ⟨⟨-, ⟨g1, g2, g3, g4⟩, ⟨p1, p2, p3⟩, ⟨q1, q2⟩, t1⟩, -, -⟩ := hI
  have ew : ∀ i, wtL (setW (setB G.1 h L') h w' k') i = if i = h then w' else wtL G.1 i := fun i => by
    unfold wtL
    show (if i < no G.1 then fset (wt G.1) h w' i else 0) = _
    by_cases q : i = h
    · subst q
      rw [if_pos hh, if_pos rfl, fset_s]
    · rw [if_neg q, fset_n _ _ q]
  have el : ∀ i, loL (setW (setB G.1 h L') h w' k') i = if i = h then k' else loL G.1 i := fun i => by
    unfold loL
    show (if i < no G.1 then fset (lo_ G.1) h k' i else 0) = _
    by_cases q : i = h
    · subst q
      rw [if_pos hh, if_pos rfl, fset_s]
    · rw [if_neg q, fset_n _ _ q]
  have eb : ∀ i, bnL (setW (setB G.1 h L') h w' k') i = if i = h then L' else bnL G.1 i := fun i => by
    unfold bnL
    show (if i < no G.1 then fset (bn G.1) h L' i else []) = _
    by_cases q : i = h
    · subst q
      rw [if_pos hh, if_pos rfl, fset_s]
    · rw [if_neg q, fset_n _ _ q]
  have key : ∀ i, i < 2 → LB y (x + 235 + i) (bnL (setW (setB G.1 h L') h w' k') i) := fun i hi => by
    rw [eb]
    by_cases q : i = h
    · subst q
      rw [if_pos rfl]
      exact ⟨hR, hL, hP⟩
    · rw [if_neg q]
      exact (hlb i hi).kept (hf _ (by omega) (by omega) (by omega) (by omega))
  refine ⟨⟨hX, ⟨g1, g2, g3, fun i hi => ?_⟩, ⟨by rw [hq 0 (by omega) (by omega)]; exact p1, p2, fun p hp => ⟨(p3 p hp).1.kept (hf _ (by omega) (by omega) (by omega) (by omega)), (p3 p hp).2⟩⟩, ⟨by rw [hq 1 (by omega) (by omega)]; exact q1, fun i hi => ?_⟩, t1.kept (hf _ (by omega) (by omega) (by omega) (by omega))⟩, key 0 (by omega), key 1 (by omega)⟩
  · show wtL (setW (setB G.1 h L') h w' k') i < 2 ^ np G.1 ∧ loL (setW (setB G.1 h L') h w' k') i < 2 ^ np G.1
    rw [ew, el]
    by_cases q : i = h
    · rw [if_pos q, if_pos q]
      exact ⟨hw, hk⟩
    · rw [if_neg q, if_neg q]
      exact g4 i hi
  · show y (x + 232) (2 + i) = ((wtL (setW (setB G.1 h L') h w' k') i : Nat) : Int) ∧ y (x + 232) (4 + i) = ((loL (setW (setB G.1 h L') h w' k') i : Nat) : Int)
    rw [ew, el]
    by_cases q : i = h
    · subst q
      rw [if_pos rfl, if_pos rfl]
      exact ⟨h2, h4⟩
    · rw [if_neg q, if_neg q, hq (2 + i) (by omega) (by omega), hq (4 + i) (by omega) (by omega)]
      exact q2 i hi
theorem LI_own {v y : Mem} {x : Nat} {G G' : GS} (hI : LI v x G) (hn : no G.1 < 2) (hG : G'.1 = ownA G.1) (hX : XR y x G') (hq1 : y (x + 232) 1 = (no G.1 : Int) + 1) (hq : ∀ j, j ≠ 1 → y (x + 232) j = v (x + 232) j) (hR : RA y (x + 235 + no G.1) (tx G.1)) (hf : ∀ a, x + 232 ≤ a → a ≠ x + 232 → a ≠ x + 235 + no G.1 → a ≠ x + 237 → y a = v a) : LI y x G' := by
  obtain ⟨S', H', sl', P'⟩ := G'
  dsimp only at hG
  subst hG
  have hlb : ∀ i, i < 2 → LB v (x + 235 + i) (bnL G.1 i) := fun i hi => hI.lb hi
  obtain ⟨⟨-, ⟨g1, g2, g3, g4⟩, ⟨p1, p2, p3⟩, ⟨q1, q2⟩, t1⟩, -, -⟩ := hI
  have ew : ∀ i, wtL (ownA G.1) i = wtL G.1 i := fun i => by
    unfold wtL
    show (if i < no G.1 + 1 then fset (wt G.1) (no G.1) 0 i else 0) = _
    by_cases q : i = no G.1
    · rw [q, if_pos (by omega), fset_s, if_neg (by omega)]
    · rw [fset_n _ _ q]
      by_cases r : i < no G.1
      · rw [if_pos r, if_pos (by omega)]
      · rw [if_neg r, if_neg (by omega)]
  have el : ∀ i, loL (ownA G.1) i = loL G.1 i := fun i => by
    unfold loL
    show (if i < no G.1 + 1 then fset (lo_ G.1) (no G.1) 0 i else 0) = _
    by_cases q : i = no G.1
    · rw [q, if_pos (by omega), fset_s, if_neg (by omega)]
    · rw [fset_n _ _ q]
      by_cases r : i < no G.1
      · rw [if_pos r, if_pos (by omega)]
      · rw [if_neg r, if_neg (by omega)]
  have key : ∀ i, i < 2 → LB y (x + 235 + i) (bnL (ownA G.1) i) := fun i hi => by
    have eb : bnL (ownA G.1) i = if i = no G.1 then tx G.1 else bnL G.1 i := by
      unfold bnL
      show (if i < no G.1 + 1 then fset (bn G.1) (no G.1) (tx G.1) i else []) = _
      by_cases q : i = no G.1
      · rw [q, if_pos (by omega), fset_s, if_pos rfl]
      · rw [fset_n _ _ q, if_neg q]
        by_cases r : i < no G.1
        · rw [if_pos r, if_pos (by omega)]
        · rw [if_neg r, if_neg (by omega)]
    rw [eb]
    by_cases q : i = no G.1
    · rw [if_pos q, q]
      exact ⟨hR, g2, Phi_NU g3⟩
    · rw [if_neg q]
      exact (hlb i hi).kept (hf _ (by omega) (by omega) (by omega) (by omega))
  refine ⟨⟨hX, ⟨hn, g2, g3, fun i hi => ?_⟩, ⟨by rw [hq 0 (by omega)]; exact p1, p2, fun p hp => ⟨(p3 p hp).1.kept (hf _ (by omega) (by omega) (by omega) (by omega)), (p3 p hp).2⟩⟩, ⟨hq1, fun i hi => ?_⟩, t1.kept (hf _ (by omega) (by omega) (by omega) (by omega))⟩, key 0 (by omega), key 1 (by omega)⟩
  · show wtL (ownA G.1) i < 2 ^ np G.1 ∧ loL (ownA G.1) i < 2 ^ np G.1
    rw [ew, el]
    exact g4 i hi
  · show y (x + 232) (2 + i) = ((wtL (ownA G.1) i : Nat) : Int) ∧ y (x + 232) (4 + i) = ((loL (ownA G.1) i : Nat) : Int)
    rw [ew, el, hq (2 + i) (by omega), hq (4 + i) (by omega)]
    exact q2 i hi
theorem LI_issue {v y : Mem} {x : Nat} {G G' : GS} {O P : List Nat} (hI : LI v x G) (hn : np G.1 < 6) (hPT : PTX P O) (hO : oP O) (hG : G'.1 = issA G.1 P) (hX : XR y x G') (hq0 : y (x + 232) 0 = (np G.1 : Int) + 1) (hq1 : y (x + 232) 1 = v (x + 232) 1) (hw : ∀ j, j < no G.1 → y (x + 232) (2 + j) = ((wtL G.1 j ||| 2 ^ np G.1 : Nat) : Int)) (hw2 : ∀ j, 2 + no G.1 ≤ j → y (x + 232) j = v (x + 232) j) (hpa : y (x + 233) (9 * np G.1) = (O.length : Int)) (hpb : ∀ (j : Nat) (h : j < O.length), y (x + 233) (9 * np G.1 + 1 + j) = ((enc (O[j]'h) : Nat) : Int)) (hpc : ∀ i, i < 9 * np G.1 → y (x + 233) i = v (x + 233) i) (hT : RT y (x + 234) (careP O (np G.1) (tx G.1))) (hf : ∀ a, x + 235 ≤ a → a ≠ x + 237 → y a = v a) : LI y x G' := by
  obtain ⟨S', H', sl', P'⟩ := G'
  dsimp only at hG
  subst hG
  have hlb : ∀ i, i < 2 → LB v (x + 235 + i) (bnL G.1 i) := fun i hi => hI.lb hi
  obtain ⟨⟨-, ⟨g1, g2, g3, g4⟩, ⟨p1, p2, p3⟩, ⟨q1, q2⟩, t1⟩, -, -⟩ := hI
  have eO := hPT.ords hO.2.1
  have ck := careP_ok hn O hO.2.1 g2 (Phi_NU g3)
  have h2n : 2 ^ (np G.1 + 1) = 2 * 2 ^ np G.1 := by rw [Nat.pow_succ, Nat.mul_comm]
  have ew : ∀ i, wtL (issA G.1 P) i = if i < no G.1 then wtL G.1 i ||| 2 ^ np G.1 else 0 := fun i => by
    unfold wtL
    show (if i < no G.1 then wt G.1 i ||| 2 ^ np G.1 else 0) = _
    by_cases r : i < no G.1
    · rw [if_pos r, if_pos r, if_pos r]
    · rw [if_neg r, if_neg r]
  have key : ∀ i, i < 2 → LB y (x + 235 + i) (bnL (issA G.1 P) i) := fun i hi => (hlb i hi).kept (hf _ (by omega) (by omega))
  refine ⟨⟨hX, ⟨g1, ?_, ?_, fun i hi => ?_⟩, ⟨hq0, hn, fun p hp => ?_⟩, ⟨hq1.trans q1, fun i hi => ?_⟩, ?_⟩, key 0 (by omega), key 1 (by omega)⟩
  · show okL (careP (ordsOf P) (np G.1) (tx G.1))
    rw [eO]
    exact ck.1
  · show NU (careP (ordsOf P) (np G.1) (tx G.1))
    exact NU_careP (by omega) _ g3
  · show wtL (issA G.1 P) i < 2 ^ (np G.1 + 1) ∧ loL G.1 i < 2 ^ (np G.1 + 1)
    rw [ew]
    obtain ⟨a1, a2⟩ := g4 i hi
    refine ⟨?_, by omega⟩
    split
    · exact Nat.or_lt_two_pow (by omega) (by omega)
    · omega
  · have hp : p < np G.1 + 1 := hp
    show OP y (x + 233) p (fset (od G.1) (np G.1) (ordsOf P) p) ∧ oP (fset (od G.1) (np G.1) (ordsOf P) p)
    by_cases q : p = np G.1
    · subst q
      rw [fset_s, eO]
      exact ⟨⟨hpa, hpb⟩, hO⟩
    · rw [fset_n _ _ q]
      obtain ⟨⟨b1, b2⟩, b3⟩ := p3 p (by omega)
      have b8 := b3.1
      exact ⟨⟨by rw [hpc _ (by omega)]; exact b1, fun k hk => by rw [hpc _ (by omega)]; exact b2 k hk⟩, b3⟩
  · show y (x + 232) (2 + i) = ((wtL (issA G.1 P) i : Nat) : Int) ∧ y (x + 232) (4 + i) = ((loL G.1 i : Nat) : Int)
    rw [ew, hw2 (4 + i) (by omega)]
    refine ⟨?_, (q2 i hi).2⟩
    by_cases r : i < no G.1
    · rw [if_pos r]
      exact hw i r
    · rw [if_neg r, hw2 (2 + i) (by omega), (q2 i hi).1]
      show ((if i < no G.1 then wt G.1 i else 0 : Nat) : Int) = _
      rw [if_neg r]
  · show RT y (x + 234) (careP (ordsOf P) (np G.1) (tx G.1))
    rw [eO]
    exact hT
/-- while a parcel is written -/
def QI (v : Mem) (x f0 : Nat) (G : GS) (k : Nat) (O P : List Nat) (u : Mem) : Prop :=
  O.length = k ∧ k ≤ 8 ∧ PTX P O ∧ XR u x (G.1, G.2.1, G.2.2.1, P) ∧ (∀ a, (a < x ∨ x + 232 ≤ a) → a ≠ x + 233 → a ≠ x + 234 → u a = v a) ∧ (∀ i, i < 9 * np G.1 → u (x + 233) i = v (x + 233) i) ∧ (∀ (j : Nat) (h : j < O.length), u (x + 233) (9 * np G.1 + 1 + j) = ((enc (O[j]'h) : Nat) : Int) ∧ oO (O[j]'h) ∧ (O[j]'h) % 100 = 10 + (f0 + 3 * j) % 10) ∧ RT u (x + 234) (careP O (np G.1) (tx G.1))
theorem QI.init {v w : Mem} {x f0 : Nat} {G : GS} (hI : LI v x G) (hX : XR w x (G.1, G.2.1, G.2.2.1, [])) (f : frX v w x) : QI v x f0 G 0 [] [] w := ⟨rfl, Nat.zero_le _, PTX.nil, hX, fun a ha _ _ => f a ha, fun i _ => by rw [f _ (by omega)], fun j h => absurd h (Nat.not_lt_zero _), hI.1.2.2.2.2.kept (f _ (by omega))⟩
theorem QI.oo {v u : Mem} {x f0 k : Nat} {G : GS} {O P : List Nat} (h : QI v x f0 G k O P u) : (∀ y ∈ O, oO y) ∧ oP O := by
  obtain ⟨h1, h2, h3, h4, h5, h6, h7, h8⟩ := h
  have a : ∀ y ∈ O, oO y := fun y hy => by
    obtain ⟨j, hj, rfl⟩ := List.getElem_of_mem hy
    exact (h7 j hj).2.1
  exact ⟨a, by omega, a, digs_nodup (by omega) (fun j hj => (h7 j hj).2.2)⟩
theorem QI.step {v u w : Mem} {x f0 k dd b0 : Nat} {G : GS} {O P P' : List Nat} (h : QI v x f0 G k O P u) (hI : LI v x G) (hn : np G.1 < 6) (hk : k < 8) (hdd : dd = (f0 + 3 * k) % 10) (hb : b0 ≤ 1) (hP' : PTX P' (O ++ [10 + dd + 100 * b0])) (hX : XR w x (G.1, G.2.1, G.2.2.1, P')) (hf : ∀ a, (a < x ∨ x + 232 ≤ a) → a ≠ x + 233 → a ≠ x + 234 → w a = u a) (hp1 : w (x + 233) (9 * np G.1 + 1 + k) = (dd : Int) + 10 * (b0 : Int)) (hp2 : ∀ j, j ≠ 9 * np G.1 + 1 + k → w (x + 233) j = u (x + 233) j) (ht1 : w (x + 234) dd = if b0 = 1 then (np G.1 : Int) else -1) (ht2 : ∀ j, j ≠ dd → w (x + 234) j = u (x + 234) j) : QI v x f0 G (k + 1) (O ++ [10 + dd + 100 * b0]) P' w := by
  have hoo := h.oo.1
  obtain ⟨h1, h2, h3, h4, h5, h6, h7, h8⟩ := h
  have hxo : oO (10 + dd + 100 * b0) := by unfold oO; omega
  have hck := careP_ok hn O hoo hI.1.2.1.2.1 (Phi_NU hI.1.2.1.2.2.1)
  have hrl := rem_len hck.1 (n := (10 + dd + 100 * b0) % 100) ⟨hxo.1, hxo.2.1⟩ hck.2
  refine ⟨by simp; omega, by omega, hP', hX, fun a ha hb hc => (hf a ha hb hc).trans (h5 a ha hb hc), fun i hi => by rw [hp2 i (by omega)]; exact h6 i hi, fun j hj => ?_, fun d hd => ?_⟩
  · simp at hj
    by_cases q : j < O.length
    · rw [List.getElem_append_left q, hp2 _ (by omega)]
      exact h7 j q
    · have e : j = k := by omega
      subst e
      rw [List.getElem_append_right (by omega)]
      simp only [h1, Nat.sub_self, List.getElem_cons_zero]
      refine ⟨?_, hxo, by omega⟩
      rw [hp1]
      unfold enc
      split <;> omega
  · have ec : careP (O ++ [10 + dd + 100 * b0]) (np G.1) (tx G.1) = care1 (np G.1) (careP O (np G.1) (tx G.1)) (10 + dd + 100 * b0) := by
      unfold careP
      rw [List.foldl_append]
      rfl
    rw [ec]
    refine RTd_care1 hn hxo hrl (fun q => ?_) (fun q => ?_)
    · have e : d = dd := by omega
      rw [e, ht1]
      by_cases r : b0 = 1
      · rw [if_pos r, if_pos (by omega)]
      · rw [if_neg r, if_neg (by omega)]
    · rw [ht2 d (by omega)]
      exact h8 d hd
/-! ===== what the class answers to a turn ===== -/
theorem put1 {G : GS} {w : Nat} (h : 33 ≤ w ∧ w ≤ 126) (hl : G.2.2.2.length < 48) : sPut G w = (((G.2.2.2.length + 1 : Nat) : Int), (G.1, G.2.1, G.2.2.1, G.2.2.2 ++ [w])) := by
  unfold sPut
  rw [cite_f (fun q => q ⟨1, chOK_1 h⟩), putK_is (chOK_1 h), cite_f (by omega), chs_1 (by omega)]
theorem issue_is {S : AS} {H : List AS} {sl : Nat → Option AS} {P O : List Nat} (h : PTX P O) (hO : O ≠ []) (ho : oP O) (hn : np S < 6) : sIssue (S, H, sl, P) = ((np S : Int), (issA S P, recH H S, sl, [])) := by
  unfold sIssue
  rw [cite_f (fun q => q (h.isF hO ho.1)), cite_f (by show ¬ twice (ordsOf P); rw [h.ords ho.2.1]; exact not_twice ho.2.2), cite_f (by show ¬ np S = 16; omega)]
theorem own_is {G : GS} (h : no G.1 < 2) : sOwn G = ((no G.1 : Int), recG G (ownA G.1)) := by
  unfold sOwn
  rw [cite_f (by omega)]
theorem done_no {G : GS} {h p : Nat} (c : Int) (hz : no G.1 = 0 ∨ np G.1 = 0) : sDone G (h : Int) (p : Int) c = (-1, G) := cite_t (fun q => by
  obtain ⟨⟨a1, a2⟩, a3, a4⟩ := q
  omega) _ _
theorem done_w {G : GS} {h p : Nat} (c : Int) (hh : h < no G.1) (hp : p < np G.1) (hb : (wt G.1 h).testBit p = true) : sDone G (h : Int) (p : Int) c = (((dn c (od G.1 p) p (bn G.1 h)).length : Int), recG G (setW (setB G.1 h (dn c (od G.1 p) p (bn G.1 h))) h (clr (wt G.1 h) p) (lo_ G.1 h))) := by
  unfold sDone
  rw [cite_f (nn_isP hh hp), Int.toNat_natCast, Int.toNat_natCast, cite_f (fun q => q hb)]
  rfl
theorem done_n {G : GS} {h p : Nat} (c : Int) (hh : h < no G.1) (hp : p < np G.1) (hb : ¬ (wt G.1 h).testBit p = true) : sDone G (h : Int) (p : Int) c = (-5, G) := by
  unfold sDone
  rw [cite_f (nn_isP hh hp), Int.toNat_natCast, Int.toNat_natCast, cite_t hb]
theorem lose_w {G : GS} {h p : Nat} (hh : h < no G.1) (hp : p < np G.1) (hb : (wt G.1 h).testBit p = true) : sLose G (h : Int) (p : Int) = ((pop (clr (wt G.1 h) p) : Int), recG G (setW G.1 h (clr (wt G.1 h) p) (lo_ G.1 h ||| 2 ^ p))) := by
  unfold sLose
  rw [cite_f (nn_isP hh hp), Int.toNat_natCast, Int.toNat_natCast, cite_f (fun q => q hb)]
theorem lose_n {G : GS} {h p : Nat} (hh : h < no G.1) (hp : p < np G.1) (hb : ¬ (wt G.1 h).testBit p = true) : sLose G (h : Int) (p : Int) = (-5, G) := by
  unfold sLose
  rw [cite_f (nn_isP hh hp), Int.toNat_natCast, Int.toNat_natCast, cite_t hb]
theorem again_w {G : GS} {h p : Nat} (hh : h < no G.1) (hp : p < np G.1) (hb : (wt G.1 h).testBit p = true) : sAgain G (h : Int) (p : Int) = (-5, G) := by
  unfold sAgain
  rw [cite_f (nn_isP hh hp), Int.toNat_natCast, Int.toNat_natCast, cite_t hb]
theorem again_n {G : GS} {h p : Nat} (hh : h < no G.1) (hp : p < np G.1) (hb : ¬ (wt G.1 h).testBit p = true) : sAgain G (h : Int) (p : Int) = ((pop (wt G.1 h ||| 2 ^ p) : Int), recG G (setW G.1 h (wt G.1 h ||| 2 ^ p) (clr (lo_ G.1 h) p))) := by
  unfold sAgain
  rw [cite_f (nn_isP hh hp), Int.toNat_natCast, Int.toNat_natCast, cite_f hb]
theorem doAll_is {G : GS} {h : Nat} (hh : h < no G.1) : sDoAll G (h : Int) = ((pop (wt G.1 h) : Int), recG G (setW (setB G.1 h (careU (od G.1) (wt G.1 h) (bn G.1 h) (np G.1))) h 0 (lo_ G.1 h))) := by
  unfold sDoAll
  rw [cite_f (nn_isO hh), Int.toNat_natCast]
theorem hand_in {G : GS} {h p d : Nat} (hh : h < no G.1) (hp : p < np G.1) (hd : d < 10) (hl : (bn G.1 h).length < 60) : sHand G (h : Int) (10 + (d : Int)) (p : Int) 1 = (((insL (bn G.1 h) ((d + 10) * 16 + p)).length : Int), recG G (setW (setB G.1 h (insL (bn G.1 h) ((d + 10) * 16 + p))) h (wt G.1 h) (lo_ G.1 h))) := by
  unfold sHand
  rw [cite_f (nn_isP hh hp), cite_f (nn_nu hd), cite_f (by decide), Int.toNat_natCast, Int.toNat_natCast, tn_10, cite_t hl, setW_id]
theorem hand_out {G : GS} {h p d : Nat} (hh : h < no G.1) (hp : p < np G.1) (hd : d < 10) (hm : (d + 10) * 16 + p ∈ bn G.1 h) : sHand G (h : Int) (10 + (d : Int)) (p : Int) 0 = ((((bn G.1 h).erase ((d + 10) * 16 + p)).length : Int), recG G (setW (setB G.1 h ((bn G.1 h).erase ((d + 10) * 16 + p))) h (wt G.1 h) (lo_ G.1 h))) := by
  unfold sHand
  rw [cite_f (nn_isP hh hp), cite_f (nn_nu hd), cite_t rfl, Int.toNat_natCast, Int.toNat_natCast, tn_10, cite_t hm, setW_id]
theorem hand_no {G : GS} {h p d : Nat} (hh : h < no G.1) (hp : p < np G.1) (hd : d < 10) (hm : ¬ (d + 10) * 16 + p ∈ bn G.1 h) : sHand G (h : Int) (10 + (d : Int)) (p : Int) 0 = (-5, G) := by
  unfold sHand
  rw [cite_f (nn_isP hh hp), cite_f (nn_nu hd), cite_t rfl, Int.toNat_natCast, Int.toNat_natCast, tn_10, cite_f hm]
theorem i2l_48 {d : Nat} (h : d < 10) : (I ((48 + d : Nat) : Int)).toInt64 = lN (48 + d) := by
  rcases (show d = 0 ∨ d = 1 ∨ d = 2 ∨ d = 3 ∨ d = 4 ∨ d = 5 ∨ d = 6 ∨ d = 7 ∨ d = 8 ∨ d = 9 by omega) with rfl | rfl | rfl | rfl | rfl | rfl | rfl | rfl | rfl | rfl <;> rfl
theorem clr_id {w p : Nat} (h : ¬ w.testBit p = true) : clr w p = w := if_neg h
theorem or_id {w p : Nat} (h : w.testBit p = true) : w ||| 2 ^ p = w := by
  apply Nat.eq_of_testBit_eq
  intro i
  rw [Nat.testBit_or, Nat.testBit_two_pow]
  by_cases q : p = i
  · subst q
    rw [h]
    rfl
  · rw [decide_eq_false q, Bool.or_false]
theorem clr_le (w p n : Nat) (h : w < 2 ^ n) : clr w p < 2 ^ n := by
  refine Nat.lt_pow_two_of_testBit _ (fun i hi => ?_)
  rw [clr_bit, Nat.testBit_lt_two_pow (Nat.lt_of_lt_of_le h (Nat.pow_le_pow_right (by decide) hi))]
  rfl
theorem or_le {w p n : Nat} (h : w < 2 ^ n) (hp : p < n) : w ||| 2 ^ p < 2 ^ n := Nat.or_lt_two_pow h (Nat.pow_lt_pow_right (by decide) hp)
