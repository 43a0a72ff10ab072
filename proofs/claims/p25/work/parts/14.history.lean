/-! ===== the history's rows ===== -/
def Hd (D : va_G) (sk : Sk) (h : Nat) : Prop := sk h = some (eO 1 [some (.ref (h + 1)), none, none]) ∧ (∃ g : Nat → Option Nat, sk (h + 1) = some (eQ D 14 6 g) ∧ ∀ k, k < 6 → g k = some (h + 2 + 24 * k)) ∧ ∀ k, k < 6 → Sd D sk (h + 2 + 24 * k)
def HR (v : Mem) (h : Nat) (Hs : List AS) : Prop := ∃ d : Nat, d < 6 ∧ v h 1 = (d : Int) ∧ v h 2 = (Hs.length : Int) ∧ Hs.length ≤ 6 ∧ ∀ (j : Nat) (hj : j < Hs.length), SR v (h + 2 + 24 * ((d + j) % 6)) (Hs[j]'hj)
def recH (Hs : List AS) (S : AS) : List AS := if Hs.length < 6 then Hs ++ [S] else Hs.tail ++ [S]
theorem recH_len {Hs : List AS} (h : Hs.length ≤ 6) (S : AS) : (recH Hs S).length ≤ 6 ∧ recH Hs S ≠ [] := by
  unfold recH
  split <;> simp <;> omega
theorem HR.kept {v w : Mem} {h : Nat} {Hs : List AS} (hH : HR v h Hs) (hw : ∀ a, h ≤ a → a < h + 146 → w a = v a) : HR w h Hs := by
  obtain ⟨d, h1, h2, h3, h4, h5⟩ := hH
  refine ⟨d, h1, by rw [hw h (by omega) (by omega)]; exact h2, by rw [hw h (by omega) (by omega)]; exact h3, h4, fun j hj => (h5 j hj).kept (fun a h6 h7 => hw a (by omega) (by omega))⟩
/-! ===== what the calls answer and change ===== -/
/-- the moment, the history, the slots, the pad -/
abbrev GS : Type := AS × List AS × (Nat → Option AS) × List Nat
noncomputable def cite {α : Type} (P : Prop) (a b : α) : α := @ite α P (Classical.propDecidable P) a b
theorem cite_t {α : Type} {P : Prop} (h : P) (a b : α) : cite P a b = a := if_pos h
theorem cite_f {α : Type} {P : Prop} (h : ¬ P) (a b : α) : cite P a b = b := if_neg h
noncomputable def the (P : Int → Prop) : Int := Classical.epsilon P
theorem the_is {P : Int → Prop} {z : Int} (h : P z) (hu : ∀ a b, P a → P b → a = b) : the P = z := hu _ _ (Classical.epsilon_spec ⟨z, h⟩) h
def recG (G : GS) (S : AS) : GS := (S, recH G.2.1 G.1, G.2.2.1, G.2.2.2)
def isO (S : AS) (x : Int) : Prop := 0 ≤ x ∧ x < (no S : Int)
def isP (S : AS) (x : Int) : Prop := 0 ≤ x ∧ x < (np S : Int)
def isNu (x : Int) : Prop := 10 ≤ x ∧ x ≤ 99
def setB (S : AS) (i : Nat) (L : List Nat) : AS := (np S, no S, od S, tx S, fset (bn S) i L, wt S, lo_ S)
def setW (S : AS) (i w k : Nat) : AS := (np S, no S, od S, tx S, bn S, fset (wt S) i w, fset (lo_ S) i k)
noncomputable def sIssue (G : GS) : Int × GS := cite (¬ isF G.2.2.2 (-6)) (-3, G) (cite (twice (ordsOf G.2.2.2)) (-2, G) (cite (np G.1 = 16) (-4, G) ((np G.1 : Int), (issA G.1 G.2.2.2, recH G.2.1 G.1, G.2.2.1, []))))
noncomputable def sOwn (G : GS) : Int × GS := cite (no G.1 = 8) (-4, G) ((no G.1 : Int), recG G (ownA G.1))
def doneL (S : AS) (i p : Nat) (c : Int) : List Nat := if c = 0 then lessP (od S p) p (bn S i) else careP (od S p) p (bn S i)
noncomputable def sDone (G : GS) (o p c : Int) : Int × GS := cite (¬ (isO G.1 o ∧ isP G.1 p)) (-1, G) (cite (¬ (wt G.1 o.toNat).testBit p.toNat = true) (-5, G) (((doneL G.1 o.toNat p.toNat c).length : Int), recG G (setW (setB G.1 o.toNat (doneL G.1 o.toNat p.toNat c)) o.toNat (clr (wt G.1 o.toNat) p.toNat) (lo_ G.1 o.toNat))))
noncomputable def sDoAll (G : GS) (o : Int) : Int × GS := cite (¬ isO G.1 o) (-1, G) ((pop (wt G.1 o.toNat) : Int), recG G (setW (setB G.1 o.toNat (careU (od G.1) (wt G.1 o.toNat) (bn G.1 o.toNat) (np G.1))) o.toNat 0 (lo_ G.1 o.toNat)))
noncomputable def sLose (G : GS) (o p : Int) : Int × GS := cite (¬ (isO G.1 o ∧ isP G.1 p)) (-1, G) (cite (¬ (wt G.1 o.toNat).testBit p.toNat = true) (-5, G) ((pop (clr (wt G.1 o.toNat) p.toNat) : Int), recG G (setW G.1 o.toNat (clr (wt G.1 o.toNat) p.toNat) (lo_ G.1 o.toNat ||| 2 ^ p.toNat))))
noncomputable def sAgain (G : GS) (o p : Int) : Int × GS := cite (¬ (isO G.1 o ∧ isP G.1 p)) (-1, G) (cite ((wt G.1 o.toNat).testBit p.toNat = true) (-5, G) ((pop (wt G.1 o.toNat ||| 2 ^ p.toNat) : Int), recG G (setW G.1 o.toNat (wt G.1 o.toNat ||| 2 ^ p.toNat) (clr (lo_ G.1 o.toNat) p.toNat))))
noncomputable def sHand (G : GS) (o n p c : Int) : Int × GS := cite (¬ (isO G.1 o ∧ isP G.1 p)) (-1, G) (cite (¬ isNu n) (-2, G) (cite (c = 0) (cite (n.toNat * 16 + p.toNat ∈ bn G.1 o.toNat) ((((bn G.1 o.toNat).erase (n.toNat * 16 + p.toNat)).length : Int), recG G (setB G.1 o.toNat ((bn G.1 o.toNat).erase (n.toNat * 16 + p.toNat)))) (-5, G)) (cite ((bn G.1 o.toNat).length < 60) (((insL (bn G.1 o.toNat) (n.toNat * 16 + p.toNat)).length : Int), recG G (setB G.1 o.toNat (insL (bn G.1 o.toNat) (n.toNat * 16 + p.toNat)))) (-5, G))))
noncomputable def sParcel (G : GS) (p w : Int) : Int := cite (¬ isP G.1 p) (-1) (cite (¬ (0 ≤ w ∧ w ≤ 10)) (-2) (cite (w = 0) ((od G.1 p.toNat).length : Int) (cite (w ≤ 8) (cite (w ≤ ((od G.1 p.toNat).length : Int)) (((od G.1 p.toNat).getD (w.toNat - 1) 0 : Nat) : Int) (-6)) (cite (w = 9) (mk (fun i => (wt G.1 i).testBit p.toNat) (no G.1) : Int) (mk (fun i => (lo_ G.1 i).testBit p.toNat) (no G.1) : Int)))))
noncomputable def sText (G : GS) (n : Int) : Int := cite (¬ isNu n) (-2) (the (isE (tx G.1) n.toNat))
noncomputable def sLeaf (G : GS) (o n w : Int) : Int := cite (¬ isO G.1 o) (-1) (cite (¬ isNu n) (-2) (cite (w = 0) (cntN (bn G.1 o.toNat) n.toNat : Int) (cite (w = 1) (the (isE (bn G.1 o.toNat) n.toNat)) (cite (w = 2) (the (isLt (bn G.1 o.toNat) n.toNat)) (cite (3 ≤ w ∧ w ≤ 5) (dif (bn G.1 o.toNat) (tx G.1) n.toNat w : Int) (-2))))))
noncomputable def sOf (G : GS) (o w : Int) : Int := cite (¬ isO G.1 o) (-1) (cite (w = 0) ((bn G.1 o.toNat).length : Int) (cite (w = 1) (wt G.1 o.toNat : Int) (cite (w = 2) (lo_ G.1 o.toNat : Int) (cite (3 ≤ w ∧ w ≤ 5) (difs (bn G.1 o.toNat) (tx G.1) w : Int) (cite (w = 6) (cite (rt (bn G.1 o.toNat) (tx G.1) = true) 1 0) (cite (w = 7) ((chk (bn G.1 o.toNat) % 997 : Nat) : Int) (-2)))))))
noncomputable def sCount (G : GS) (w : Int) : Int := cite (w = 0) (np G.1 : Int) (cite (w = 1) (no G.1 : Int) (cite (w = 2) ((tx G.1).length : Int) (cite (w = 3) ((chk (tx G.1) % 997 : Nat) : Int) (cite (w = 4) (mk (fun i => rt (bn G.1 i) (tx G.1)) (no G.1) : Int) (cite (w = 5) (cntI (tx G.1) 0 : Int) (cite (w = 6) (mb (tx G.1) (np G.1)).1 (cite (w = 7) (G.2.2.2.length : Int) (cite (w = 8) (G.2.1.length : Int) (-2)))))))))
def tryL (S : AS) (i w : Nat) : List Nat := careU (od S) w (bn S i) (np S)
noncomputable def sIfDone (G : GS) (o p : Int) : Int := cite (¬ (isO G.1 o ∧ isP G.1 p)) (-1) (wrg (tryL G.1 o.toNat (2 ^ p.toNat)) (tx G.1) : Int)
noncomputable def sIfAllDone (G : GS) (o : Int) : Int := cite (¬ isO G.1 o) (-1) (wrg (tryL G.1 o.toNat (wt G.1 o.toNat)) (tx G.1) : Int)
def mends (S : AS) (i m : Nat) : Prop := m < 2 ^ np S ∧ pop m ≤ 3 ∧ rt (tryL S i m) (tx S) = true
def isM (S : AS) (i : Nat) (z : Int) : Prop := (∃ m : Nat, z = (m : Int) ∧ mends S i m ∧ ∀ k, mends S i k → pop m < pop k ∨ (pop m = pop k ∧ m ≤ k)) ∨ (z = -6 ∧ ∀ m, ¬ mends S i m)
def isR (S : AS) (i : Nat) (z : Int) : Prop := (∃ f : Nat, z = (f : Int) ∧ f ≤ np S ∧ rt (tryL S i (2 ^ np S - 2 ^ f)) (tx S) = true ∧ ∀ g, f < g → g ≤ np S → ¬ rt (tryL S i (2 ^ np S - 2 ^ g)) (tx S) = true) ∨ (z = -6 ∧ ∀ g, g ≤ np S → ¬ rt (tryL S i (2 ^ np S - 2 ^ g)) (tx S) = true)
theorem isM.uniq {S : AS} {i : Nat} {a b : Int} (h : isM S i a) (g : isM S i b) : a = b := by
  rcases h with ⟨m, h1, h2, h3⟩ | ⟨h1, h2⟩ <;> rcases g with ⟨k, g1, g2, g3⟩ | ⟨g1, g2⟩
  · have := h3 k g2
    have := g3 m h2
    omega
  · exact absurd h2 (g2 m)
  · exact absurd g2 (h2 k)
  · omega
theorem isR.uniq {S : AS} {i : Nat} {a b : Int} (h : isR S i a) (g : isR S i b) : a = b := by
  rcases h with ⟨m, h1, h2, h3, h4⟩ | ⟨h1, h2⟩ <;> rcases g with ⟨k, g1, g2, g3, g4⟩ | ⟨g1, g2⟩
  · rcases Nat.lt_trichotomy m k with q | q | q
    · exact absurd g3 (h4 k q g2)
    · omega
    · exact absurd h3 (g4 m q h2)
  · exact absurd h3 (g2 m h2)
  · exact absurd g3 (h2 k g2)
  · omega
noncomputable def sMending (G : GS) (o : Int) : Int := cite (¬ isO G.1 o) (-1) (the (isM G.1 o.toNat))
noncomputable def sRightFrom (G : GS) (o : Int) : Int := cite (¬ isO G.1 o) (-1) (the (isR G.1 o.toNat))
noncomputable def putK (w : Nat) : Nat := (the (fun z => ∃ k : Nat, z = (k : Int) ∧ chOK w k)).toNat
theorem putK_is {w k : Nat} (h : chOK w k) : putK w = k := by
  unfold putK
  rw [the_is (z := (k : Int)) ⟨k, rfl, h⟩ (fun a b ⟨i, hi, h1⟩ ⟨j, hj, h2⟩ => by rw [hi, hj, h1.uniq h2])]
  rfl
noncomputable def sPut (G : GS) (w : Nat) : Int × GS := cite (¬ ∃ k, chOK w k) (-2, G) (cite (48 < G.2.2.2.length + putK w) (-4, G) (((G.2.2.2.length + putK w : Nat) : Int), (G.1, G.2.1, G.2.2.1, G.2.2.2 ++ chs w (putK w))))
def sWipe (G : GS) : Int × GS := ((G.2.2.2.length : Int), (G.1, G.2.1, G.2.2.1, []))
noncomputable def sFault (G : GS) : Int := the (isF G.2.2.2)
def sUndo (G : GS) : Int × GS := match G.2.1.getLast? with
  | none => (-5, G)
  | some S => (((G.2.1.length - 1 : Nat) : Int), (S, G.2.1.dropLast, G.2.2.1, G.2.2.2))
noncomputable def sSave (G : GS) (t : Int) : Int × GS := cite (¬ (0 ≤ t ∧ t < 2)) (-2, G) ((np G.1 : Int), (G.1, G.2.1, fset G.2.2.1 t.toNat (some G.1), G.2.2.2))
noncomputable def sRestore (G : GS) (t : Int) : Int × GS := cite (¬ (0 ≤ t ∧ t < 2)) (-2, G) (match G.2.2.1 t.toNat with
  | none => (-5, G)
  | some S => ((np S : Int), recG G S))
theorem OKA.setB {S : AS} (h : OKA S) (i : Nat) (L : List Nat) : OKA (setB S i L) := h
theorem OKA.setW {S : AS} (h : OKA S) {i w k : Nat} (hw : w < 65536) (hk : k < 65536) : OKA (setW S i w k) := by
  obtain ⟨h1, h2, h3, h4, h5⟩ := h
  refine ⟨h1, h2, h3, h4, fun j hj => ?_⟩
  show fset (wt S) i w j < 65536 ∧ fset (lo_ S) i k j < 65536
  by_cases q : j = i
  · subst q
    rw [fset_s, fset_s]
    exact ⟨hw, hk⟩
  · rw [fset_n _ _ q, fset_n _ _ q]
    exact h5 j hj
def rmX1_record : Room := { frames := 3, cells := 0, slots := 0, locals := 69 }
set_option maxHeartbeats 4000000 in
set_option maxRecDepth 100000 in
theorem c_X1_record (l : Launch) (D : va_G) (nH : Nat) (sk : Sk) (v : Mem) (h n : Nat) (Hs : List AS) (S : AS) (hH : Hd D sk h) (hN : Sd D sk n) (hap : h + 146 ≤ n ∨ n + 24 ≤ h) (hR : HR v h Hs) (hS : SR v n S) : CtV l D yX1_record wsX1_record rmX1_record [.ref h, .ref n] nH sk v (fun v' => HR v' h (recH Hs S) ∧ ∀ a, a < h ∨ h + 146 ≤ a → v' a = v a) := by
  refine ct_of (cc := cX1_record) (maxL := 2) (ret := none) rfl rfl (Nat.le_of_ble_eq_true rfl) ?_
  intro p_ e_ s_ m_ args_ below_ meth_ c_ X hmn hsz
  have hinX1 : ∀ w ∈ wsX10, w ∈ wsX1_record := by decide +kernel
  obtain ⟨h0, ⟨g, h1, hg⟩, h2⟩ := id hH
  obtain ⟨n0, n1⟩ := id hN
  obtain ⟨d, r1, r2, r3, r4, r5⟩ := id hR
  have hsk := h2 ((d + Hs.length) % 6) (by omega)
  obtain ⟨hsk0, hsk1⟩ := id hsk
  refine j_aload_n X dX1_record_0 rfl ?_
  refine j_getr X dX1_record_1 (T := TX1) (N := 3) (C := RX1) hinX1 rfl (by assumption) 0 (by decide) (by decide +kernel) rfl ?_
  refine j_aload_n X dX1_record_4 rfl ?_
  refine j_geti X dX1_record_5 (T := TX1) (N := 3) (C := RX1) hinX1 rfl (by assumption) 1 (by decide) (by decide +kernel) rfl ?_
  refine j_aload_n X dX1_record_8 rfl ?_
  refine j_geti X dX1_record_9 (T := TX1) (N := 3) (C := RX1) hinX1 rfl (by assumption) 2 (by decide) (by decide +kernel) rfl ?_
  rw [r2, r3]
  refine j_iadd X dX1_record_12 ?_
  refine j_bipush X dX1_record_13 (by decide) ?_
  refine j_irem X dX1_record_15 (by omega) (by omega) ?_
  refine j_aald (t0 := 4) X dX1_record_16 (by assumption) rfl (by omega) (by decide) (by rw [show (((d : Int) + (Hs.length : Int)) % 6).toNat = (d + Hs.length) % 6 by omega]; exact hg _ (by omega)) ?_
  refine j_aload_n X dX1_record_17 rfl ?_
  refine j_callV (nn := 1) X dX1_record_18 (c_X3_copy l D nH sk v (h + 2 + 24 * ((d + Hs.length) % 6)) n S hsk hN (by omega) hS) gX1_record_X3_copy rfl ⟨rfl, rfl⟩ (by decide +kernel) ⟨Nat.le_of_ble_eq_true rfl, Nat.le_of_ble_eq_true rfl⟩ (by assumption) ⟨rfl, rfl⟩ rfl rfl (Nat.le_of_ble_eq_true rfl) ⟨Nat.zero_le _, Nat.zero_le _⟩ (kV (fun v18 h18 => ?_))
  obtain ⟨hS18, f18⟩ := h18
  refine j_aload_n X dX1_record_21 rfl ?_
  refine j_geti X dX1_record_22 (T := TX1) (N := 3) (C := RX1) hinX1 rfl (by assumption) 2 (by decide) (by decide +kernel) rfl ?_
  have e2 : v18 h 2 = (Hs.length : Int) := by rw [f18 h (by omega)]; exact r3
  have e1 : v18 h 1 = (d : Int) := by rw [f18 h (by omega)]; exact r2
  refine j_bipush X dX1_record_25 (by decide) ?_
  refine j_icmp_ge (tgt := 43) X dX1_record_27 (by omega) (by decide) (fun c27 => ?_) (fun c27 => ?_)
  · refine j_aload_n X dX1_record_43 rfl ?_
    refine j_aload_n X dX1_record_44 rfl ?_
    refine j_geti X dX1_record_45 (T := TX1) (N := 3) (C := RX1) hinX1 rfl (by assumption) 1 (by decide) (by decide +kernel) rfl ?_
    rw [e1]
    refine j_iconst X dX1_record_48 ?_
    refine j_iadd X dX1_record_49 ?_
    refine j_bipush X dX1_record_50 (by decide) ?_
    refine j_irem X dX1_record_52 (by omega) (by omega) ?_
    refine j_put X dX1_record_53 (T := TX1) (N := 3) (C := RX1) hinX1 rfl (by assumption) 1 (by decide) tyX1 tyX1_ok nmX1 rfl rfl rfl (by decide +kernel) ?_
    skip
    first
      | have hret : HR u1 h (recH Hs S) ∧ ∀ a, a < h ∨ h + 146 ≤ a → u1 a = v a := by
          refine ⟨⟨d, r1, by rw [g_u1 1 (by omega)]; exact e1, ?_, (recH_len r4 S).1, fun j hj => ?_⟩, fun a ha => by rw [n_u1 a (by omega), f18 a (by omega)]⟩
          · rw [f_u1]; unfold recH; rw [if_pos (by omega)]; simp
          · unfold recH at hj ⊢
            simp only [show Hs.length < 6 by omega, if_true] at hj ⊢
            rw [List.getElem_append]
            by_cases q : j < Hs.length
            · rw [dif_pos q]
              refine (r5 j q).kept (fun a ha hb => by rw [n_u1 a (by omega), f18 a (by omega)])
            · rw [dif_neg q]
              simp at hj
              have hjl : j = Hs.length := by omega
              subst hjl
              simp only [Nat.sub_self, List.getElem_cons_zero]
              exact hS18.kept (fun a ha hb => n_u1 a (by omega))
      | have hret : HR (up2 v18 h 1 (((d : Int) + 1) % 6)) h (recH Hs S) ∧ ∀ a, a < h ∨ h + 146 ≤ a → (up2 v18 h 1 (((d : Int) + 1) % 6)) a = v a := by
          refine ⟨⟨(d + 1) % 6, by omega, by rw [up2_s, upE_s]; omega, ?_, (recH_len r4 S).1, fun j hj => ?_⟩, fun a ha => by rw [up2_n _ _ _ (by omega), f18 a (by omega)]⟩
          · rw [up2_s, upE_n _ _ (by omega), e2]; unfold recH; rw [if_neg (by omega)]; simp; omega
          · have h6 : Hs.length = 6 := by omega
            unfold recH at hj ⊢
            simp only [show ¬ Hs.length < 6 by omega, if_false] at hj ⊢
            rw [List.getElem_append]
            by_cases q : j < Hs.tail.length
            · rw [dif_pos q, List.getElem_tail]
              simp at q
              have := r5 (j + 1) (by omega)
              rw [show (d + (j + 1)) % 6 = ((d + 1) % 6 + j) % 6 by omega] at this
              refine this.kept (fun a ha hb => by rw [up2_n _ _ _ (by omega), f18 a (by omega)])
            · rw [dif_neg q]
              simp at hj q
              have hj5 : j = 5 := by omega
              subst hj5
              simp only [List.length_tail, h6, Nat.sub_self, List.getElem_cons_zero]
              rw [show ((d + 1) % 6 + 5) % 6 = (d + Hs.length) % 6 by omega]
              exact hS18.kept (fun a ha hb => by rw [up2_n _ _ _ (by omega)])
    exact j_vret X dX1_record_56 ⟨rfl, rfl, hret⟩
  · refine j_aload_n X dX1_record_30 rfl ?_
    refine j_dup X dX1_record_31 rfl ?_
    refine j_geti X dX1_record_32 (T := TX1) (N := 3) (C := RX1) hinX1 rfl (by assumption) 2 (by decide) (by decide +kernel) rfl ?_
    rw [e2]
    refine j_iconst X dX1_record_35 ?_
    refine j_iadd X dX1_record_36 ?_
    refine j_put X dX1_record_37 (T := TX1) (N := 3) (C := RX1) hinX1 rfl (by assumption) 2 (by decide) tyX1 tyX1_ok nmX1 rfl rfl rfl (by decide +kernel) ?_
    generalize hd_u1 : up2 v18 (h) 2 ((Hs.length : Int) + 1) = u1
    have f_u1 : u1 (h) 2 = (Hs.length : Int) + 1 := by rw [← hd_u1, up2_s, upE_s]
    have g_u1 : ∀ k, k ≠ 2 → u1 (h) k = v18 (h) k := fun k hk => by rw [← hd_u1, up2_s, upE_n _ _ hk]
    have n_u1 : ∀ a, a ≠ h → u1 a = v18 a := fun a ha => by rw [← hd_u1, up2_n _ _ _ ha]
    refine j_goto (tgt := 56) X dX1_record_40 (by decide) ?_
    skip
    first
      | have hret : HR u1 h (recH Hs S) ∧ ∀ a, a < h ∨ h + 146 ≤ a → u1 a = v a := by
          refine ⟨⟨d, r1, by rw [g_u1 1 (by omega)]; exact e1, ?_, (recH_len r4 S).1, fun j hj => ?_⟩, fun a ha => by rw [n_u1 a (by omega), f18 a (by omega)]⟩
          · rw [f_u1]; unfold recH; rw [if_pos (by omega)]; simp
          · unfold recH at hj ⊢
            simp only [show Hs.length < 6 by omega, if_true] at hj ⊢
            rw [List.getElem_append]
            by_cases q : j < Hs.length
            · rw [dif_pos q]
              refine (r5 j q).kept (fun a ha hb => by rw [n_u1 a (by omega), f18 a (by omega)])
            · rw [dif_neg q]
              simp at hj
              have hjl : j = Hs.length := by omega
              subst hjl
              simp only [Nat.sub_self, List.getElem_cons_zero]
              exact hS18.kept (fun a ha hb => n_u1 a (by omega))
      | have hret : HR (up2 v18 h 1 (((d : Int) + 1) % 6)) h (recH Hs S) ∧ ∀ a, a < h ∨ h + 146 ≤ a → (up2 v18 h 1 (((d : Int) + 1) % 6)) a = v a := by
          refine ⟨⟨(d + 1) % 6, by omega, by rw [up2_s, upE_s]; omega, ?_, (recH_len r4 S).1, fun j hj => ?_⟩, fun a ha => by rw [up2_n _ _ _ (by omega), f18 a (by omega)]⟩
          · rw [up2_s, upE_n _ _ (by omega), e2]; unfold recH; rw [if_neg (by omega)]; simp; omega
          · have h6 : Hs.length = 6 := by omega
            unfold recH at hj ⊢
            simp only [show ¬ Hs.length < 6 by omega, if_false] at hj ⊢
            rw [List.getElem_append]
            by_cases q : j < Hs.tail.length
            · rw [dif_pos q, List.getElem_tail]
              simp at q
              have := r5 (j + 1) (by omega)
              rw [show (d + (j + 1)) % 6 = ((d + 1) % 6 + j) % 6 by omega] at this
              refine this.kept (fun a ha hb => by rw [up2_n _ _ _ (by omega), f18 a (by omega)])
            · rw [dif_neg q]
              simp at hj q
              have hj5 : j = 5 := by omega
              subst hj5
              simp only [List.length_tail, h6, Nat.sub_self, List.getElem_cons_zero]
              rw [show ((d + 1) % 6 + 5) % 6 = (d + Hs.length) % 6 by omega]
              exact hS18.kept (fun a ha hb => by rw [up2_n _ _ _ (by omega)])
    exact j_vret X dX1_record_56 ⟨rfl, rfl, hret⟩
def rmX1_takeBack : Room := { frames := 3, cells := 0, slots := 0, locals := 69 }
