/-! ===== the model whole ===== -/
def MH (v : Mem) (m : Nat) (Hs : List AS) : Prop := v m 3 = (Hs.length : Int) ∧ Hs.length ≤ 6 ∧ ∀ (j : Nat) (h : j < Hs.length), MR (fun k => v (m + 3) (713 * j + k)) (Hs[j]'h)
def MS (v : Mem) (m : Nat) (sl : Nat → Option AS) : Prop := ∀ t, t < 2 → (sl t = none → v (m + 5) t = 0) ∧ ∀ S, sl t = some S → v (m + 5) t = 1 ∧ MR (fun k => v (m + 4) (713 * t + k)) S
def MP (v : Mem) (m : Nat) (P : List Nat) : Prop := v m 7 = (P.length : Int) ∧ P.length ≤ 48 ∧ AL (v (m + 6)) P ∧ ∀ x ∈ P, 33 ≤ x ∧ x ≤ 126
def MXR (v : Mem) (m : Nat) (G : GS) : Prop := MR (v (m + 1)) G.1 ∧ MH v m G.2.1 ∧ MS v m G.2.2.1 ∧ MP v m G.2.2.2
/-- nothing but the model changed -/
def frM (v v' : Mem) (m : Nat) : Prop := ∀ a, a < m ∨ m + 11 ≤ a → v' a = v a
theorem frM.refl (v : Mem) (m : Nat) : frM v v m := fun _ _ => rfl
theorem frM.trans {v w u : Mem} {m : Nat} (h1 : frM v w m) (h2 : frM w u m) : frM v u m := fun a ha => (h2 a ha).trans (h1 a ha)
/-- nothing of the model that counts changed -/
def frW (v v' : Mem) (m : Nat) : Prop := (∀ j, j < 713 → v' (m + 1) j = v (m + 1) j) ∧ (∀ j, j ≠ 9 → v' m j = v m j) ∧ (∀ a, a = m + 3 ∨ a = m + 4 ∨ a = m + 5 ∨ a = m + 6 → v' a = v a) ∧ frM v v' m
theorem frW.refl (v : Mem) (m : Nat) : frW v v m := ⟨fun _ _ => rfl, fun _ _ => rfl, fun _ _ => rfl, frM.refl _ _⟩
theorem frW.trans {v w u : Mem} {m : Nat} (h1 : frW v w m) (h2 : frW w u m) : frW v u m := ⟨fun j hj => (h2.1 j hj).trans (h1.1 j hj), fun j hj => (h2.2.1 j hj).trans (h1.2.1 j hj), fun a ha => (h2.2.2.1 a ha).trans (h1.2.2.1 a ha), h1.2.2.2.trans h2.2.2.2⟩
theorem frL.w {v w : Mem} {m : Nat} (h : frL v w m) : frW v w m := ⟨fun j _ => by rw [h _ (by omega)], fun j _ => by rw [h _ (by omega)], fun a ha => h a (by omega), fun a ha => h a (by omega)⟩
theorem MH.kept {v w : Mem} {m : Nat} {Hs : List AS} (h : MH v m Hs) (h1 : w m 3 = v m 3) (h2 : w (m + 3) = v (m + 3)) : MH w m Hs := ⟨by rw [h1]; exact h.1, h.2.1, fun j hj => by rw [h2]; exact h.2.2 j hj⟩
theorem MS.kept {v w : Mem} {m : Nat} {sl : Nat → Option AS} (h : MS v m sl) (h1 : w (m + 4) = v (m + 4)) (h2 : w (m + 5) = v (m + 5)) : MS w m sl := fun t ht => by rw [h1, h2]; exact h t ht
theorem MP.kept {v w : Mem} {m : Nat} {P : List Nat} (h : MP v m P) (h1 : w m 7 = v m 7) (h2 : w (m + 6) = v (m + 6)) : MP w m P := ⟨by rw [h1]; exact h.1, h.2.1, by rw [h2]; exact h.2.2.1, h.2.2.2⟩
theorem MXR.w {v w : Mem} {m : Nat} {G : GS} (h : MXR v m G) (f : frW v w m) : MXR w m G := ⟨h.1.kept f.1, h.2.1.kept (f.2.1 _ (by omega)) (f.2.2.1 _ (by omega)), h.2.2.1.kept (f.2.2.1 _ (by omega)) (f.2.2.1 _ (by omega)), h.2.2.2.kept (f.2.1 _ (by omega)) (f.2.2.1 _ (by omega))⟩
theorem MXR.rec {v v1 v2 : Mem} {m : Nat} {G : GS} {S : AS} (h : MXR v m G) (hH : MH v1 m (recH G.2.1 G.1)) (f1 : ∀ j, j ≠ 3 → v1 m j = v m j) (f2 : ∀ a, a ≠ m → a ≠ m + 3 → v1 a = v a) (f3 : ∀ a, a ≠ m + 1 → v2 a = v1 a) (hS : MR (v2 (m + 1)) S) : MXR v2 m (recG G S) ∧ frM v v2 m := by
  obtain ⟨h1, h2, h3, h4⟩ := h
  exact ⟨⟨hS, hH.kept (by rw [f3 _ (by omega)]) (f3 _ (by omega)), h3.kept (by rw [f3 _ (by omega), f2 _ (by omega) (by omega)]) (by rw [f3 _ (by omega), f2 _ (by omega) (by omega)]), h4.kept (by rw [f3 _ (by omega), f1 _ (by omega)]) (by rw [f3 _ (by omega), f2 _ (by omega) (by omega)])⟩, fun a ha => by rw [f3 _ (by omega), f2 _ (by omega) (by omega)]⟩
theorem no_ch {w k z : Nat} (hk : k ≤ 8) (hd : ∀ j, j < k → w / 256 ^ j % 256 ≠ 0) (he : k = 8 ∨ w / 256 ^ k % 256 = 0) (h : chOK w z) : z = k := by
  rcases Nat.lt_trichotomy z k with q | q | q
  · have := hd z q
    rw [h.2.2.2] at this
    exact absurd rfl this
  · exact q
  · have h1 := h.2.2.1 k q
    have := h.2.1
    omega
theorem amt8 : ∀ j : Nat, j < 8 → ((I (8 * (j : Int))).toInt64.toUInt64 &&& Int64.toUInt64 63) = UInt64.ofNat (8 * j) := by decide
theorem b_ushrJ {w j : Nat} (h : w < 2 ^ 64) (hj : j < 8) : ((lN w).toUInt64 >>> ((I (8 * (j : Int))).toInt64.toUInt64 &&& Int64.toUInt64 63)).toInt64 = lN (w / 256 ^ j) := g_ushr (k := 8 * j) (amt8 j hj) (by omega) (by rw [Nat.pow_mul]) h
def rmX5_canStand : Room := { frames := 1, cells := 0, slots := 0, locals := 22 }
set_option maxHeartbeats 4000000 in
set_option maxRecDepth 100000 in
theorem c_X5_canStand (l : Launch) (D : va_G) (nH : Nat) (sk : Sk) (v : Mem) (i c : Nat) (hi : i ≤ 39) (hc : c < 65536) : CtI l D yX5_canStand wsX5_canStand rmX5_canStand [.int (I i), .int (I c)] nH sk v (fun z v' => (z = 0 ∨ z = 1) ∧ (z = 1 ↔ stand c i) ∧ v = v') := by
  refine ct_of (cc := cX5_canStand) (maxL := 2) (ret := (some .boolean)) rfl rfl (Nat.le_of_ble_eq_true rfl) ?_
  intro p_ e_ s_ m_ args_ below_ meth_ c_ X hmn hsz
  refine j_iload_n X dX5_canStand_0 rfl ?_
  refine j_iconst X dX5_canStand_1 ?_
  refine j_irem X dX5_canStand_2 (by omega) (by omega) ?_
  by_cases cs3_0 : ((i : Int) % 5) = 0
  · refine j_tabIn (tgt := 32) (off := 29) X dX5_canStand_3 (by omega) (by omega) (by rw [cs3_0]; rfl) (by decide) ?_
    refine j_iload_n X dX5_canStand_32 rfl ?_
    refine j_bipush X dX5_canStand_33 (by decide) ?_
    refine j_icmp_ge (tgt := 54) X dX5_canStand_35 (by omega) (by decide) (fun c35 => ?_) (fun c35 => ?_)
    · exfalso; omega
    · refine j_iload_n X dX5_canStand_38 rfl ?_
      refine j_bipush X dX5_canStand_39 (by decide) ?_
      refine j_icmp_eq (tgt := 50) X dX5_canStand_41 (by omega) (by decide) (fun c41 => ?_) (fun c41 => ?_)
      · refine j_iconst X dX5_canStand_50 ?_
        refine j_goto (tgt := 55) X dX5_canStand_51 (by decide) ?_
        first
        | have hret : ((1 : Int) = 0 ∨ (1 : Int) = 1) ∧ ((1 : Int) = 1 ↔ stand c i) ∧ v = v := ⟨Or.inr rfl, ⟨fun _ => ⟨by omega, by omega⟩, fun _ => rfl⟩, rfl⟩
        | have hret : ((0 : Int) = 0 ∨ (0 : Int) = 1) ∧ ((0 : Int) = 1 ↔ stand c i) ∧ v = v := ⟨Or.inl rfl, ⟨fun h => absurd h (by omega), fun h => by have h1 := h.1; have h2 := h.2; omega⟩, rfl⟩
        | have hret : (z61 = 0 ∨ z61 = 1) ∧ (z61 = 1 ↔ stand c i) ∧ v = v := ⟨by omega, ⟨fun h => ⟨by omega, by omega⟩, fun h => by have h1 := h.1; have h2 := h.2; omega⟩, rfl⟩
        | have hret : (z82 = 0 ∨ z82 = 1) ∧ (z82 = 1 ↔ stand c i) ∧ v = v := ⟨by omega, ⟨fun h => ⟨by omega, by omega⟩, fun h => by have h1 := h.1; have h2 := h.2; omega⟩, rfl⟩
        exact j_zret X dX5_canStand_55 (by omega) ⟨_, rfl, rfl, hret⟩
      · refine j_iload_n X dX5_canStand_44 rfl ?_
        refine j_bipush X dX5_canStand_45 (by decide) ?_
        refine j_icmp_ne (tgt := 54) X dX5_canStand_47 (by omega) (by decide) (fun c47 => ?_) (fun c47 => ?_)
        · refine j_iconst X dX5_canStand_54 ?_
          first
          | have hret : ((1 : Int) = 0 ∨ (1 : Int) = 1) ∧ ((1 : Int) = 1 ↔ stand c i) ∧ v = v := ⟨Or.inr rfl, ⟨fun _ => ⟨by omega, by omega⟩, fun _ => rfl⟩, rfl⟩
          | have hret : ((0 : Int) = 0 ∨ (0 : Int) = 1) ∧ ((0 : Int) = 1 ↔ stand c i) ∧ v = v := ⟨Or.inl rfl, ⟨fun h => absurd h (by omega), fun h => by have h1 := h.1; have h2 := h.2; omega⟩, rfl⟩
          | have hret : (z61 = 0 ∨ z61 = 1) ∧ (z61 = 1 ↔ stand c i) ∧ v = v := ⟨by omega, ⟨fun h => ⟨by omega, by omega⟩, fun h => by have h1 := h.1; have h2 := h.2; omega⟩, rfl⟩
          | have hret : (z82 = 0 ∨ z82 = 1) ∧ (z82 = 1 ↔ stand c i) ∧ v = v := ⟨by omega, ⟨fun h => ⟨by omega, by omega⟩, fun h => by have h1 := h.1; have h2 := h.2; omega⟩, rfl⟩
          exact j_zret X dX5_canStand_55 (by omega) ⟨_, rfl, rfl, hret⟩
        · refine j_iconst X dX5_canStand_50 ?_
          refine j_goto (tgt := 55) X dX5_canStand_51 (by decide) ?_
          first
          | have hret : ((1 : Int) = 0 ∨ (1 : Int) = 1) ∧ ((1 : Int) = 1 ↔ stand c i) ∧ v = v := ⟨Or.inr rfl, ⟨fun _ => ⟨by omega, by omega⟩, fun _ => rfl⟩, rfl⟩
          | have hret : ((0 : Int) = 0 ∨ (0 : Int) = 1) ∧ ((0 : Int) = 1 ↔ stand c i) ∧ v = v := ⟨Or.inl rfl, ⟨fun h => absurd h (by omega), fun h => by have h1 := h.1; have h2 := h.2; omega⟩, rfl⟩
          | have hret : (z61 = 0 ∨ z61 = 1) ∧ (z61 = 1 ↔ stand c i) ∧ v = v := ⟨by omega, ⟨fun h => ⟨by omega, by omega⟩, fun h => by have h1 := h.1; have h2 := h.2; omega⟩, rfl⟩
          | have hret : (z82 = 0 ∨ z82 = 1) ∧ (z82 = 1 ↔ stand c i) ∧ v = v := ⟨by omega, ⟨fun h => ⟨by omega, by omega⟩, fun h => by have h1 := h.1; have h2 := h.2; omega⟩, rfl⟩
          exact j_zret X dX5_canStand_55 (by omega) ⟨_, rfl, rfl, hret⟩
  by_cases cs3_1 : ((i : Int) % 5) = 1
  · refine j_tabIn (tgt := 56) (off := 53) X dX5_canStand_3 (by omega) (by omega) (by rw [cs3_1]; rfl) (by decide) ?_
    refine j_iload_n X dX5_canStand_56 rfl ?_
    refine j_bipush X dX5_canStand_57 (by decide) ?_
    refine j_bipush X dX5_canStand_59 (by decide) ?_
    refine j_callS (nn := 3) X dX5_canStand_61 (c_X5_within l D nH sk v (c : Int) 49 57 (by omega) (by omega) (by omega)) gX5_canStand_X5_within rfl ⟨rfl, rfl⟩ (by decide +kernel) ⟨Nat.le_of_ble_eq_true rfl, Nat.le_of_ble_eq_true rfl⟩ rfl rfl (Nat.le_of_ble_eq_true rfl) ⟨Nat.zero_le _, Nat.zero_le _⟩ (kI (fun z61 v61 h61 => ?_))
    obtain ⟨h61a, h61b, rfl⟩ := h61
    first
    | have hret : ((1 : Int) = 0 ∨ (1 : Int) = 1) ∧ ((1 : Int) = 1 ↔ stand c i) ∧ v = v := ⟨Or.inr rfl, ⟨fun _ => ⟨by omega, by omega⟩, fun _ => rfl⟩, rfl⟩
    | have hret : ((0 : Int) = 0 ∨ (0 : Int) = 1) ∧ ((0 : Int) = 1 ↔ stand c i) ∧ v = v := ⟨Or.inl rfl, ⟨fun h => absurd h (by omega), fun h => by have h1 := h.1; have h2 := h.2; omega⟩, rfl⟩
    | have hret : (z61 = 0 ∨ z61 = 1) ∧ (z61 = 1 ↔ stand c i) ∧ v = v := ⟨by omega, ⟨fun h => ⟨by omega, by omega⟩, fun h => by have h1 := h.1; have h2 := h.2; omega⟩, rfl⟩
    | have hret : (z82 = 0 ∨ z82 = 1) ∧ (z82 = 1 ↔ stand c i) ∧ v = v := ⟨by omega, ⟨fun h => ⟨by omega, by omega⟩, fun h => by have h1 := h.1; have h2 := h.2; omega⟩, rfl⟩
    exact j_zret X dX5_canStand_64 (by omega) ⟨_, rfl, rfl, hret⟩
  by_cases cs3_2 : ((i : Int) % 5) = 2
  · refine j_tabIn (tgt := 65) (off := 62) X dX5_canStand_3 (by omega) (by omega) (by rw [cs3_2]; rfl) (by decide) ?_
    refine j_iload_n X dX5_canStand_65 rfl ?_
    refine j_bipush X dX5_canStand_66 (by decide) ?_
    refine j_icmp_ne (tgt := 75) X dX5_canStand_68 (by omega) (by decide) (fun c68 => ?_) (fun c68 => ?_)
    · refine j_iconst X dX5_canStand_75 ?_
      first
      | have hret : ((1 : Int) = 0 ∨ (1 : Int) = 1) ∧ ((1 : Int) = 1 ↔ stand c i) ∧ v = v := ⟨Or.inr rfl, ⟨fun _ => ⟨by omega, by omega⟩, fun _ => rfl⟩, rfl⟩
      | have hret : ((0 : Int) = 0 ∨ (0 : Int) = 1) ∧ ((0 : Int) = 1 ↔ stand c i) ∧ v = v := ⟨Or.inl rfl, ⟨fun h => absurd h (by omega), fun h => by have h1 := h.1; have h2 := h.2; omega⟩, rfl⟩
      | have hret : (z61 = 0 ∨ z61 = 1) ∧ (z61 = 1 ↔ stand c i) ∧ v = v := ⟨by omega, ⟨fun h => ⟨by omega, by omega⟩, fun h => by have h1 := h.1; have h2 := h.2; omega⟩, rfl⟩
      | have hret : (z82 = 0 ∨ z82 = 1) ∧ (z82 = 1 ↔ stand c i) ∧ v = v := ⟨by omega, ⟨fun h => ⟨by omega, by omega⟩, fun h => by have h1 := h.1; have h2 := h.2; omega⟩, rfl⟩
      exact j_zret X dX5_canStand_76 (by omega) ⟨_, rfl, rfl, hret⟩
    · refine j_iconst X dX5_canStand_71 ?_
      refine j_goto (tgt := 76) X dX5_canStand_72 (by decide) ?_
      first
      | have hret : ((1 : Int) = 0 ∨ (1 : Int) = 1) ∧ ((1 : Int) = 1 ↔ stand c i) ∧ v = v := ⟨Or.inr rfl, ⟨fun _ => ⟨by omega, by omega⟩, fun _ => rfl⟩, rfl⟩
      | have hret : ((0 : Int) = 0 ∨ (0 : Int) = 1) ∧ ((0 : Int) = 1 ↔ stand c i) ∧ v = v := ⟨Or.inl rfl, ⟨fun h => absurd h (by omega), fun h => by have h1 := h.1; have h2 := h.2; omega⟩, rfl⟩
      | have hret : (z61 = 0 ∨ z61 = 1) ∧ (z61 = 1 ↔ stand c i) ∧ v = v := ⟨by omega, ⟨fun h => ⟨by omega, by omega⟩, fun h => by have h1 := h.1; have h2 := h.2; omega⟩, rfl⟩
      | have hret : (z82 = 0 ∨ z82 = 1) ∧ (z82 = 1 ↔ stand c i) ∧ v = v := ⟨by omega, ⟨fun h => ⟨by omega, by omega⟩, fun h => by have h1 := h.1; have h2 := h.2; omega⟩, rfl⟩
      exact j_zret X dX5_canStand_76 (by omega) ⟨_, rfl, rfl, hret⟩
  by_cases cs3_3 : ((i : Int) % 5) = 3
  · refine j_tabIn (tgt := 77) (off := 74) X dX5_canStand_3 (by omega) (by omega) (by rw [cs3_3]; rfl) (by decide) ?_
    refine j_iload_n X dX5_canStand_77 rfl ?_
    refine j_bipush X dX5_canStand_78 (by decide) ?_
    refine j_bipush X dX5_canStand_80 (by decide) ?_
    refine j_callS (nn := 3) X dX5_canStand_82 (c_X5_within l D nH sk v (c : Int) 48 57 (by omega) (by omega) (by omega)) gX5_canStand_X5_within rfl ⟨rfl, rfl⟩ (by decide +kernel) ⟨Nat.le_of_ble_eq_true rfl, Nat.le_of_ble_eq_true rfl⟩ rfl rfl (Nat.le_of_ble_eq_true rfl) ⟨Nat.zero_le _, Nat.zero_le _⟩ (kI (fun z82 v82 h82 => ?_))
    obtain ⟨h82a, h82b, rfl⟩ := h82
    first
    | have hret : ((1 : Int) = 0 ∨ (1 : Int) = 1) ∧ ((1 : Int) = 1 ↔ stand c i) ∧ v = v := ⟨Or.inr rfl, ⟨fun _ => ⟨by omega, by omega⟩, fun _ => rfl⟩, rfl⟩
    | have hret : ((0 : Int) = 0 ∨ (0 : Int) = 1) ∧ ((0 : Int) = 1 ↔ stand c i) ∧ v = v := ⟨Or.inl rfl, ⟨fun h => absurd h (by omega), fun h => by have h1 := h.1; have h2 := h.2; omega⟩, rfl⟩
    | have hret : (z61 = 0 ∨ z61 = 1) ∧ (z61 = 1 ↔ stand c i) ∧ v = v := ⟨by omega, ⟨fun h => ⟨by omega, by omega⟩, fun h => by have h1 := h.1; have h2 := h.2; omega⟩, rfl⟩
    | have hret : (z82 = 0 ∨ z82 = 1) ∧ (z82 = 1 ↔ stand c i) ∧ v = v := ⟨by omega, ⟨fun h => ⟨by omega, by omega⟩, fun h => by have h1 := h.1; have h2 := h.2; omega⟩, rfl⟩
    exact j_zret X dX5_canStand_85 (by omega) ⟨_, rfl, rfl, hret⟩
  refine j_tabOut (tgt := 86) X dX5_canStand_3 (by omega) (by omega) (by decide) ?_
  refine j_iload_n X dX5_canStand_86 rfl ?_
  refine j_bipush X dX5_canStand_87 (by decide) ?_
  refine j_icmp_ne (tgt := 102) X dX5_canStand_89 (by omega) (by decide) (fun c89 => ?_) (fun c89 => ?_)
  · refine j_iconst X dX5_canStand_102 ?_
    first
    | have hret : ((1 : Int) = 0 ∨ (1 : Int) = 1) ∧ ((1 : Int) = 1 ↔ stand c i) ∧ v = v := ⟨Or.inr rfl, ⟨fun _ => ⟨by omega, by omega⟩, fun _ => rfl⟩, rfl⟩
    | have hret : ((0 : Int) = 0 ∨ (0 : Int) = 1) ∧ ((0 : Int) = 1 ↔ stand c i) ∧ v = v := ⟨Or.inl rfl, ⟨fun h => absurd h (by omega), fun h => by have h1 := h.1; have h2 := h.2; omega⟩, rfl⟩
    | have hret : (z61 = 0 ∨ z61 = 1) ∧ (z61 = 1 ↔ stand c i) ∧ v = v := ⟨by omega, ⟨fun h => ⟨by omega, by omega⟩, fun h => by have h1 := h.1; have h2 := h.2; omega⟩, rfl⟩
    | have hret : (z82 = 0 ∨ z82 = 1) ∧ (z82 = 1 ↔ stand c i) ∧ v = v := ⟨by omega, ⟨fun h => ⟨by omega, by omega⟩, fun h => by have h1 := h.1; have h2 := h.2; omega⟩, rfl⟩
    exact j_zret X dX5_canStand_103 (by omega) ⟨_, rfl, rfl, hret⟩
  · refine j_iload_n X dX5_canStand_92 rfl ?_
    refine j_bipush X dX5_canStand_93 (by decide) ?_
    refine j_icmp_ge (tgt := 102) X dX5_canStand_95 (by omega) (by decide) (fun c95 => ?_) (fun c95 => ?_)
    · refine j_iconst X dX5_canStand_102 ?_
      first
      | have hret : ((1 : Int) = 0 ∨ (1 : Int) = 1) ∧ ((1 : Int) = 1 ↔ stand c i) ∧ v = v := ⟨Or.inr rfl, ⟨fun _ => ⟨by omega, by omega⟩, fun _ => rfl⟩, rfl⟩
      | have hret : ((0 : Int) = 0 ∨ (0 : Int) = 1) ∧ ((0 : Int) = 1 ↔ stand c i) ∧ v = v := ⟨Or.inl rfl, ⟨fun h => absurd h (by omega), fun h => by have h1 := h.1; have h2 := h.2; omega⟩, rfl⟩
      | have hret : (z61 = 0 ∨ z61 = 1) ∧ (z61 = 1 ↔ stand c i) ∧ v = v := ⟨by omega, ⟨fun h => ⟨by omega, by omega⟩, fun h => by have h1 := h.1; have h2 := h.2; omega⟩, rfl⟩
      | have hret : (z82 = 0 ∨ z82 = 1) ∧ (z82 = 1 ↔ stand c i) ∧ v = v := ⟨by omega, ⟨fun h => ⟨by omega, by omega⟩, fun h => by have h1 := h.1; have h2 := h.2; omega⟩, rfl⟩
      exact j_zret X dX5_canStand_103 (by omega) ⟨_, rfl, rfl, hret⟩
    · refine j_iconst X dX5_canStand_98 ?_
      refine j_goto (tgt := 103) X dX5_canStand_99 (by decide) ?_
      first
      | have hret : ((1 : Int) = 0 ∨ (1 : Int) = 1) ∧ ((1 : Int) = 1 ↔ stand c i) ∧ v = v := ⟨Or.inr rfl, ⟨fun _ => ⟨by omega, by omega⟩, fun _ => rfl⟩, rfl⟩
      | have hret : ((0 : Int) = 0 ∨ (0 : Int) = 1) ∧ ((0 : Int) = 1 ↔ stand c i) ∧ v = v := ⟨Or.inl rfl, ⟨fun h => absurd h (by omega), fun h => by have h1 := h.1; have h2 := h.2; omega⟩, rfl⟩
      | have hret : (z61 = 0 ∨ z61 = 1) ∧ (z61 = 1 ↔ stand c i) ∧ v = v := ⟨by omega, ⟨fun h => ⟨by omega, by omega⟩, fun h => by have h1 := h.1; have h2 := h.2; omega⟩, rfl⟩
      | have hret : (z82 = 0 ∨ z82 = 1) ∧ (z82 = 1 ↔ stand c i) ∧ v = v := ⟨by omega, ⟨fun h => ⟨by omega, by omega⟩, fun h => by have h1 := h.1; have h2 := h.2; omega⟩, rfl⟩
      exact j_zret X dX5_canStand_103 (by omega) ⟨_, rfl, rfl, hret⟩
def rmX5_findFault : Room := { frames := 2, cells := 0, slots := 0, locals := 43 }
set_option maxHeartbeats 4000000 in
set_option maxRecDepth 100000 in
theorem c_X5_findFault (l : Launch) (D : va_G) (nH : Nat) (sk : Sk) (v : Mem) (m : Nat) (P : List Nat) (hM : Md D sk m) (hP : MP v m P) : CtI l D yX5_findFault wsX5_findFault rmX5_findFault [.ref m] nH sk v (fun z v' => isF P z ∧ (∀ j, j ≠ 9 → v' m j = v m j) ∧ (∀ a, a ≠ m → a ≠ m + 7 → v' a = v a) ∧ (z = -6 → v' m 9 = ((ordsOf P).length : Int) ∧ ∀ (k : Nat) (h : k < (ordsOf P).length), v' (m + 7) k = (((ordsOf P)[k]'h : Nat) : Int))) := by
  refine ct_of (cc := cX5_findFault) (maxL := 2) (ret := (some .int)) rfl rfl (Nat.le_of_ble_eq_true rfl) ?_
  intro p_ e_ s_ m_ args_ below_ meth_ c_ X hmn hsz
  have hinX5 : ∀ w ∈ wsX50, w ∈ wsX5_findFault := by decide +kernel
  obtain ⟨m0, m1, m2, m3, m4, m5, m6, m7, m8, m9, m10⟩ := id hM
  obtain ⟨hp0, hp1, hp2, hp3⟩ := id hP
  have hlen := ordsOf_len P
  refine j_aload_n X dX5_findFault_0 rfl ?_
  refine j_iconst X dX5_findFault_1 ?_
  refine j_putU X dX5_findFault_2 (T := TX5) (N := 13) (C := RX5) hinX5 rfl (by assumption) 9 (by decide) tyX5 tyX5_ok nmX5 rfl rfl rfl (by decide +kernel) (fun u2 f2 g2 n2 => ?_)
  refine j_iconst X dX5_findFault_5 ?_
  refine j_istore_n X dX5_findFault_6 rfl (Nat.le_of_ble_eq_true rfl) ?_
  refine j_loop (σ := Nat × Mem) (fun (y_ : Nat × Mem) => match y_ with | (i, u) => i ≤ P.length ∧ (∀ (j : Nat) (h : j < P.length), j < i → stand (P[j]'h) j) ∧ u m 9 = (((i + 1) / 5 : Nat) : Int) ∧ (∀ j, j ≠ 9 → u m j = v m j) ∧ (∀ a, a ≠ m → a ≠ m + 7 → u a = v a) ∧ ∀ k, k < (i + 1) / 5 → u (m + 7) k = (ordAt P k : Int)) (fun (y_ : Nat × Mem) => match y_ with | (i, u) => P.length - i) (fun (y_ : Nat × Mem) => match y_ with | (i, u) => (u, [some (.ref m), some (.int (I (i : Int)))])) ?_ (0, u2) ⟨Nat.zero_le _, fun j _ h => absurd h (by omega), f2, g2, fun a h1 h2 => n2 a h1, fun k h => absurd h (by omega)⟩
  intro y_ hx ih7
  obtain ⟨i, u⟩ := y_
  dsimp only at hx ih7 ⊢
  obtain ⟨hi, hs, h9, hm0, hma, hor⟩ := hx
  refine j_iload_n X dX5_findFault_7 rfl ?_
  refine j_aload_n X dX5_findFault_8 rfl ?_
  refine j_geti X dX5_findFault_9 (T := TX5) (N := 13) (C := RX5) hinX5 rfl (by assumption) 7 (by decide) (by decide +kernel) rfl ?_
  rw [show u m 7 = (P.length : Int) by rw [hm0 _ (by omega)]; exact hp0]
  refine j_icmp_ge (tgt := 106) X dX5_findFault_12 (by omega) (by decide) (fun c12 => ?_) (fun c12 => ?_)
  · have hiP : i = P.length := by omega
    have hb : ∀ (j : Nat) (h : j < P.length), stand (P[j]'h) j := fun j h => hs j h (by omega)
    refine j_aload_n X dX5_findFault_106 rfl ?_
    refine j_geti X dX5_findFault_107 (T := TX5) (N := 13) (C := RX5) hinX5 rfl (by assumption) 7 (by decide) (by decide +kernel) rfl ?_
    rw [show u m 7 = (P.length : Int) by rw [hm0 _ (by omega)]; exact hp0]
    refine j_iconst X dX5_findFault_110 ?_
    refine j_irem X dX5_findFault_111 (by omega) (by omega) ?_
    refine j_iconst X dX5_findFault_112 ?_
    refine j_icmp_ne (tgt := 121) X dX5_findFault_113 (by omega) (by decide) (fun c113 => ?_) (fun c113 => ?_)
    · refine j_aload_n X dX5_findFault_121 rfl ?_
      refine j_geti X dX5_findFault_122 (T := TX5) (N := 13) (C := RX5) hinX5 rfl (by assumption) 7 (by decide) (by decide +kernel) rfl ?_
      try rw [show u m 7 = (P.length : Int) by rw [hm0 _ (by omega)]; exact hp0]
      exact j_iret X dX5_findFault_125 ⟨_, rfl, rfl, ⟨Or.inr ⟨hb, by omega⟩, hm0, hma, fun h => ⟨by rw [h9, hlen, hiP], fun k hk => by rw [ordsOf_get]; exact hor k (by omega)⟩⟩⟩
    · refine j_bipush X dX5_findFault_116 (by decide) ?_
      refine j_goto (tgt := 125) X dX5_findFault_118 (by decide) ?_
      try rw [show u m 7 = (P.length : Int) by rw [hm0 _ (by omega)]; exact hp0]
      exact j_iret X dX5_findFault_125 ⟨_, rfl, rfl, ⟨Or.inr ⟨hb, by omega⟩, hm0, hma, fun h => ⟨by rw [h9, hlen, hiP], fun k hk => by rw [ordsOf_get]; exact hor k (by omega)⟩⟩⟩
  · have hi2 : i < P.length := by omega
    have hib := hp3 _ (List.getElem_mem hi2)
    have hur : ∀ (j : Nat) (h : j < P.length), u (m + 6) j = ((P[j]'h : Nat) : Int) := fun j h => by rw [hma _ (by omega) (by omega)]; exact hp2 j h
    have hi39 : i ≤ 39 := by
      rcases Nat.lt_or_ge 39 i with q | q
      · exact absurd (hs 39 (by omega) q).1 (by omega)
      · exact q
    refine j_iload_n X dX5_findFault_15 rfl ?_
    refine j_aload_n X dX5_findFault_16 rfl ?_
    refine j_getr X dX5_findFault_17 (T := TX5) (N := 13) (C := RX5) hinX5 rfl (by assumption) 6 (by decide) (by decide +kernel) rfl ?_
    refine j_iload_n X dX5_findFault_20 rfl ?_
    refine j_ialN X dX5_findFault_21 (by assumption) (i) (by omega) (by omega) (by decide) ?_
    rw [hur i hi2]
    refine j_callS (nn := 2) X dX5_findFault_22 (c_X5_canStand l D nH sk u i (P[i]'hi2) hi39 (by omega)) gX5_findFault_X5_canStand rfl ⟨rfl, rfl⟩ (by decide +kernel) ⟨Nat.le_of_ble_eq_true rfl, Nat.le_of_ble_eq_true rfl⟩ rfl rfl (Nat.le_of_ble_eq_true rfl) ⟨Nat.zero_le _, Nat.zero_le _⟩ (kI (fun z22 v22 h22 => ?_))
    obtain ⟨hz22a, hz22b, rfl⟩ := h22
    refine j_if_ne (tgt := 30) X dX5_findFault_25 (by omega) (by decide) (fun c25 => ?_) (fun c25 => ?_)
    · refine j_iload_n X dX5_findFault_30 rfl ?_
      refine j_iconst X dX5_findFault_31 ?_
      refine j_irem X dX5_findFault_32 (by omega) (by omega) ?_
      refine j_iconst X dX5_findFault_33 ?_
      refine j_icmp_ne (tgt := 100) X dX5_findFault_34 (by omega) (by decide) (fun c34 => ?_) (fun c34 => ?_)
      · have hst := hz22b.mp (by omega)
        refine j_iinc X dX5_findFault_100 rfl rfl (Nat.le_of_ble_eq_true rfl) ?_
        refine j_goto (tgt := 7) X dX5_findFault_103 (by decide) ?_
        have hsn : ∀ (j : Nat) (h : j < P.length), j < i + 1 → stand (P[j]'h) j := fun j h hj => by
          rcases Nat.lt_or_ge j i with y | y
          · exact hs j h y
          · have e : j = i := by omega
            subst e; exact hst
        first
        | (have hnx : u m 9 = (((i + 1 + 1) / 5 : Nat) : Int) ∧ (∀ j, j ≠ 9 → u m j = v m j) ∧ (∀ a, a ≠ m → a ≠ m + 7 → u a = v a) ∧ ∀ k, k < (i + 1 + 1) / 5 → u (m + 7) k = (ordAt P k : Int) := ⟨by rw [h9]; omega, hm0, hma, fun k hk => hor k (by omega)⟩)
        | (have hnx : u97 m 9 = (((i + 1 + 1) / 5 : Nat) : Int) ∧ (∀ j, j ≠ 9 → u97 m j = v m j) ∧ (∀ a, a ≠ m → a ≠ m + 7 → u97 a = v a) ∧ ∀ k, k < (i + 1 + 1) / 5 → u97 (m + 7) k = (ordAt P k : Int) := by
            refine ⟨by rw [f97]; omega, fun j hj => by rw [g97 j hj, n89 _ (by omega)]; exact hm0 j hj, fun a h1 h2 => by rw [n97 a h1, n89 a h2]; exact hma a h1 h2, fun k hk => ?_⟩
            rw [n97 _ (by omega)]
            by_cases q : k = (i + 1) / 5
            · rw [q, f89]
              unfold ordAt ordOf
              rw [show 5 * ((i + 1) / 5) = i - 3 by omega, show i - 3 + 1 = i - 2 by omega, show i - 3 + 3 = i by omega, getD_at (show i - 3 < P.length by omega), getD_at (show i - 2 < P.length by omega), getD_at hi2]
              first
              | (rw [if_pos (by omega)]; omega)
              | (rw [if_neg (by omega)]; omega)
            · rw [g89 k q]; exact hor k (by omega))
        exact ih7 (i + 1, _) (by (try dsimp only); exact ⟨by omega, hsn, hnx⟩) (by (try dsimp only); omega)
      · have hq : i % 5 = 3 := by omega
        have hst := hz22b.mp (by omega)
        have hst2 := hst.2
        have hs2 := (hs (i - 2) (by omega) (by omega)).2
        have hs3 := (hs (i - 3) (by omega) (by omega)).2
        have hb2 := hp3 _ (List.getElem_mem (show i - 2 < P.length by omega))
        have hb3 := hp3 _ (List.getElem_mem (show i - 3 < P.length by omega))
        refine j_aload_n X dX5_findFault_37 rfl ?_
        refine j_getr X dX5_findFault_38 (T := TX5) (N := 13) (C := RX5) hinX5 rfl (by assumption) 8 (by decide) (by decide +kernel) rfl ?_
        refine j_aload_n X dX5_findFault_41 rfl ?_
        refine j_geti X dX5_findFault_42 (T := TX5) (N := 13) (C := RX5) hinX5 rfl (by assumption) 9 (by decide) (by decide +kernel) rfl ?_
        rw [h9]
        refine j_bipush X dX5_findFault_45 (by decide) ?_
        refine j_aload_n X dX5_findFault_47 rfl ?_
        refine j_getr X dX5_findFault_48 (T := TX5) (N := 13) (C := RX5) hinX5 rfl (by assumption) 6 (by decide) (by decide +kernel) rfl ?_
        refine j_iload_n X dX5_findFault_51 rfl ?_
        refine j_iconst X dX5_findFault_52 ?_
        refine j_isub X dX5_findFault_53 ?_
        refine j_ialN X dX5_findFault_54 (by assumption) (i - 2) (by omega) (by omega) (by decide) ?_
        rw [hur (i - 2) (by omega)]
        refine j_bipush X dX5_findFault_55 (by decide) ?_
        refine j_isub X dX5_findFault_57 ?_
        refine j_imul X dX5_findFault_58 ?_
        refine j_aload_n X dX5_findFault_59 rfl ?_
        refine j_getr X dX5_findFault_60 (T := TX5) (N := 13) (C := RX5) hinX5 rfl (by assumption) 6 (by decide) (by decide +kernel) rfl ?_
        refine j_iload_n X dX5_findFault_63 rfl ?_
        refine j_ialN X dX5_findFault_64 (by assumption) (i) (by omega) (by omega) (by decide) ?_
        rw [hur i hi2]
        refine j_iadd X dX5_findFault_65 ?_
        refine j_bipush X dX5_findFault_66 (by decide) ?_
        refine j_isub X dX5_findFault_68 ?_
        refine j_aload_n X dX5_findFault_69 rfl ?_
        refine j_getr X dX5_findFault_70 (T := TX5) (N := 13) (C := RX5) hinX5 rfl (by assumption) 6 (by decide) (by decide +kernel) rfl ?_
        refine j_iload_n X dX5_findFault_73 rfl ?_
        refine j_iconst X dX5_findFault_74 ?_
        refine j_isub X dX5_findFault_75 ?_
        refine j_ialN X dX5_findFault_76 (by assumption) (i - 3) (by omega) (by omega) (by decide) ?_
        rw [hur (i - 3) (by omega)]
        refine j_bipush X dX5_findFault_77 (by decide) ?_
        refine j_icmp_ne (tgt := 87) X dX5_findFault_79 (by omega) (by decide) (fun c79 => ?_) (fun c79 => ?_)
        · refine j_iconst X dX5_findFault_87 ?_
          refine j_iadd X dX5_findFault_88 ?_
          refine j_iasN X dX5_findFault_89 (by assumption) ((i + 1) / 5) (by omega) (by omega) (by decide) (fun u89 f89 g89 n89 => ?_)
          refine j_aload_n X dX5_findFault_90 rfl ?_
          refine j_dup X dX5_findFault_91 rfl ?_
          refine j_geti X dX5_findFault_92 (T := TX5) (N := 13) (C := RX5) hinX5 rfl (by assumption) 9 (by decide) (by decide +kernel) rfl ?_
          rw [show u89 m 9 = (((i + 1) / 5 : Nat) : Int) by rw [n89 _ (by omega)]; exact h9]
          refine j_iconst X dX5_findFault_95 ?_
          refine j_iadd X dX5_findFault_96 ?_
          refine j_putU X dX5_findFault_97 (T := TX5) (N := 13) (C := RX5) hinX5 rfl (by assumption) 9 (by decide) tyX5 tyX5_ok nmX5 rfl rfl rfl (by decide +kernel) (fun u97 f97 g97 n97 => ?_)
          refine j_iinc X dX5_findFault_100 rfl rfl (Nat.le_of_ble_eq_true rfl) ?_
          refine j_goto (tgt := 7) X dX5_findFault_103 (by decide) ?_
          have hsn : ∀ (j : Nat) (h : j < P.length), j < i + 1 → stand (P[j]'h) j := fun j h hj => by
            rcases Nat.lt_or_ge j i with y | y
            · exact hs j h y
            · have e : j = i := by omega
              subst e; exact hst
          first
          | (have hnx : u m 9 = (((i + 1 + 1) / 5 : Nat) : Int) ∧ (∀ j, j ≠ 9 → u m j = v m j) ∧ (∀ a, a ≠ m → a ≠ m + 7 → u a = v a) ∧ ∀ k, k < (i + 1 + 1) / 5 → u (m + 7) k = (ordAt P k : Int) := ⟨by rw [h9]; omega, hm0, hma, fun k hk => hor k (by omega)⟩)
          | (have hnx : u97 m 9 = (((i + 1 + 1) / 5 : Nat) : Int) ∧ (∀ j, j ≠ 9 → u97 m j = v m j) ∧ (∀ a, a ≠ m → a ≠ m + 7 → u97 a = v a) ∧ ∀ k, k < (i + 1 + 1) / 5 → u97 (m + 7) k = (ordAt P k : Int) := by
              refine ⟨by rw [f97]; omega, fun j hj => by rw [g97 j hj, n89 _ (by omega)]; exact hm0 j hj, fun a h1 h2 => by rw [n97 a h1, n89 a h2]; exact hma a h1 h2, fun k hk => ?_⟩
              rw [n97 _ (by omega)]
              by_cases q : k = (i + 1) / 5
              · rw [q, f89]
                unfold ordAt ordOf
                rw [show 5 * ((i + 1) / 5) = i - 3 by omega, show i - 3 + 1 = i - 2 by omega, show i - 3 + 3 = i by omega, getD_at (show i - 3 < P.length by omega), getD_at (show i - 2 < P.length by omega), getD_at hi2]
                first
                | (rw [if_pos (by omega)]; omega)
                | (rw [if_neg (by omega)]; omega)
              · rw [g89 k q]; exact hor k (by omega))
          exact ih7 (i + 1, _) (by (try dsimp only); exact ⟨by omega, hsn, hnx⟩) (by (try dsimp only); omega)
        · refine j_bipush X dX5_findFault_82 (by decide) ?_
          refine j_goto (tgt := 88) X dX5_findFault_84 (by decide) ?_
          refine j_iadd X dX5_findFault_88 ?_
          refine j_iasN X dX5_findFault_89 (by assumption) ((i + 1) / 5) (by omega) (by omega) (by decide) (fun u89 f89 g89 n89 => ?_)
          refine j_aload_n X dX5_findFault_90 rfl ?_
          refine j_dup X dX5_findFault_91 rfl ?_
          refine j_geti X dX5_findFault_92 (T := TX5) (N := 13) (C := RX5) hinX5 rfl (by assumption) 9 (by decide) (by decide +kernel) rfl ?_
          rw [show u89 m 9 = (((i + 1) / 5 : Nat) : Int) by rw [n89 _ (by omega)]; exact h9]
          refine j_iconst X dX5_findFault_95 ?_
          refine j_iadd X dX5_findFault_96 ?_
          refine j_putU X dX5_findFault_97 (T := TX5) (N := 13) (C := RX5) hinX5 rfl (by assumption) 9 (by decide) tyX5 tyX5_ok nmX5 rfl rfl rfl (by decide +kernel) (fun u97 f97 g97 n97 => ?_)
          refine j_iinc X dX5_findFault_100 rfl rfl (Nat.le_of_ble_eq_true rfl) ?_
          refine j_goto (tgt := 7) X dX5_findFault_103 (by decide) ?_
          have hsn : ∀ (j : Nat) (h : j < P.length), j < i + 1 → stand (P[j]'h) j := fun j h hj => by
            rcases Nat.lt_or_ge j i with y | y
            · exact hs j h y
            · have e : j = i := by omega
              subst e; exact hst
          first
          | (have hnx : u m 9 = (((i + 1 + 1) / 5 : Nat) : Int) ∧ (∀ j, j ≠ 9 → u m j = v m j) ∧ (∀ a, a ≠ m → a ≠ m + 7 → u a = v a) ∧ ∀ k, k < (i + 1 + 1) / 5 → u (m + 7) k = (ordAt P k : Int) := ⟨by rw [h9]; omega, hm0, hma, fun k hk => hor k (by omega)⟩)
          | (have hnx : u97 m 9 = (((i + 1 + 1) / 5 : Nat) : Int) ∧ (∀ j, j ≠ 9 → u97 m j = v m j) ∧ (∀ a, a ≠ m → a ≠ m + 7 → u97 a = v a) ∧ ∀ k, k < (i + 1 + 1) / 5 → u97 (m + 7) k = (ordAt P k : Int) := by
              refine ⟨by rw [f97]; omega, fun j hj => by rw [g97 j hj, n89 _ (by omega)]; exact hm0 j hj, fun a h1 h2 => by rw [n97 a h1, n89 a h2]; exact hma a h1 h2, fun k hk => ?_⟩
              rw [n97 _ (by omega)]
              by_cases q : k = (i + 1) / 5
              · rw [q, f89]
                unfold ordAt ordOf
                rw [show 5 * ((i + 1) / 5) = i - 3 by omega, show i - 3 + 1 = i - 2 by omega, show i - 3 + 3 = i by omega, getD_at (show i - 3 < P.length by omega), getD_at (show i - 2 < P.length by omega), getD_at hi2]
                first
                | (rw [if_pos (by omega)]; omega)
                | (rw [if_neg (by omega)]; omega)
              · rw [g89 k q]; exact hor k (by omega))
          exact ih7 (i + 1, _) (by (try dsimp only); exact ⟨by omega, hsn, hnx⟩) (by (try dsimp only); omega)
    · refine j_iload_n X dX5_findFault_28 rfl ?_
      exact j_iret X dX5_findFault_29 ⟨_, rfl, rfl, ⟨Or.inl ⟨i, hi2, fun h => by have := hz22b.mpr h; omega, fun j h hj => hs j h hj, rfl⟩, hm0, hma, fun h => absurd h (by omega)⟩⟩
def rmX5_record : Room := { frames := 1, cells := 0, slots := 0, locals := 24 }
set_option maxHeartbeats 4000000 in
set_option maxRecDepth 100000 in
theorem c_X5_record (l : Launch) (D : va_G) (nH : Nat) (sk : Sk) (v : Mem) (m : Nat) (Hs : List AS) (S : AS) (hM : Md D sk m) (hH : MH v m Hs) (hS : MR (v (m + 1)) S) : CtV l D yX5_record wsX5_record rmX5_record [.ref m] nH sk v (fun v' => MH v' m (recH Hs S) ∧ (∀ j, j ≠ 3 → v' m j = v m j) ∧ ∀ a, a ≠ m → a ≠ m + 3 → v' a = v a) := by
  refine ct_of (cc := cX5_record) (maxL := 2) (ret := none) rfl rfl (Nat.le_of_ble_eq_true rfl) ?_
  intro p_ e_ s_ m_ args_ below_ meth_ c_ X hmn hsz
  have hinX5 : ∀ w ∈ wsX50, w ∈ wsX5_record := by decide +kernel
  obtain ⟨m0, m1, m2, m3, m4, m5, m6, m7, m8, m9, m10⟩ := id hM
  obtain ⟨hr0, hr1, hr2⟩ := id hH
  refine j_aload_n X dX5_record_0 rfl ?_
  refine j_geti X dX5_record_1 (T := TX5) (N := 13) (C := RX5) hinX5 rfl (by assumption) 3 (by decide) (by decide +kernel) rfl ?_
  rw [hr0]
  refine j_bipush X dX5_record_4 (by decide) ?_
  refine j_icmp_ne (tgt := 50) X dX5_record_6 (by omega) (by decide) (fun c6 => ?_) (fun c6 => ?_)
  · refine j_aload_n X dX5_record_50 rfl ?_
    refine j_getr X dX5_record_51 (T := TX5) (N := 13) (C := RX5) hinX5 rfl (by assumption) 0 (by decide) (by decide +kernel) rfl ?_
    refine j_iconst X dX5_record_54 ?_
    refine j_aload_n X dX5_record_55 rfl ?_
    refine j_getr X dX5_record_56 (T := TX5) (N := 13) (C := RX5) hinX5 rfl (by assumption) 2 (by decide) (by decide +kernel) rfl ?_
    refine j_aload_n X dX5_record_59 rfl ?_
    refine j_geti X dX5_record_60 (T := TX5) (N := 13) (C := RX5) hinX5 rfl (by assumption) 3 (by decide) (by decide +kernel) rfl ?_
    first
    | rw [f47]
    | rw [hr0]
    refine j_sipush X dX5_record_63 (by decide) ?_
    refine j_imul X dX5_record_66 ?_
    refine j_callS (nn := 4) X dX5_record_67 (c_X5_moves l D nH sk _ (m + 1) (m + 3) 0 (713 * (if Hs.length = 6 then 5 else Hs.length)) 713 4278 _ _ rfl (by split <;> omega) m1 m3 (by omega) (by omega) (by split <;> omega) (by omega) (by omega)) gX5_record_X5_moves rfl ⟨rfl, rfl⟩ (by decide +kernel) ⟨Nat.le_of_ble_eq_true rfl, Nat.le_of_ble_eq_true rfl⟩ rfl rfl (Nat.le_of_ble_eq_true rfl) ⟨Nat.zero_le _, Nat.zero_le _⟩ (kV (fun v67 h67 => ?_))
    obtain ⟨p67, q67⟩ := h67
    refine j_aload_n X dX5_record_70 rfl ?_
    refine j_dup X dX5_record_71 rfl ?_
    refine j_geti X dX5_record_72 (T := TX5) (N := 13) (C := RX5) hinX5 rfl (by assumption) 3 (by decide) (by decide +kernel) rfl ?_
    first
    | rw [show v67 m 3 = (Hs.length : Int) - 1 by rw [p67 _ (by omega)]; exact f47]
    | rw [show v67 m 3 = (Hs.length : Int) by rw [p67 _ (by omega)]; exact hr0]
    refine j_iconst X dX5_record_75 ?_
    refine j_iadd X dX5_record_76 ?_
    refine j_putU X dX5_record_77 (T := TX5) (N := 13) (C := RX5) hinX5 rfl (by assumption) 3 (by decide) tyX5 tyX5_ok nmX5 rfl rfl rfl (by decide +kernel) (fun u77 f77 g77 n77 => ?_)
    first
    | (have hret : MH u77 m (recH Hs S) ∧ (∀ j, j ≠ 3 → u77 m j = v m j) ∧ ∀ a, a ≠ m → a ≠ m + 3 → u77 a = v a := by
        have h6 : Hs.length = 6 := by omega
        have hk5 : k = 3565 := by omega
        subst hk5
        rw [if_pos h6] at q67
        have hm7 : ∀ j, j ≠ 3 → u77 m j = v m j := fun j hj => by rw [g77 j hj, p67 _ (by omega), g47 j hj, hu2 _ (by omega)]
        refine ⟨⟨?_, (recH_len hr1 S).1, fun j hj => ?_⟩, hm7, fun a h1 h2 => by rw [n77 a h1, p67 a h2, n47 a h1, hu2 a h2]⟩
        · rw [f77]; unfold recH; rw [if_neg (by omega)]; simp; omega
        · rw [n77 _ (by omega)]
          unfold recH at hj ⊢
          simp only [show ¬ Hs.length < 6 by omega, if_false] at hj ⊢
          rw [List.getElem_append]
          by_cases q : j < Hs.tail.length
          · rw [dif_pos q, List.getElem_tail]
            simp at q
            refine (hr2 (j + 1) (by omega)).kept (fun k hk => ?_)
            rw [q67, if_neg (by omega), n47 _ (by omega), hu1, if_pos (by omega)]
            congr 1
            omega
          · rw [dif_neg q]
            simp at hj q
            have hj5 : j = 5 := by omega
            subst hj5
            simp only [List.length_tail, h6, Nat.sub_self, List.getElem_cons_zero]
            refine hS.kept (fun k hk => ?_)
            rw [q67, if_pos (by omega), n47 _ (by omega), hu2 _ (by omega)]
            congr 1
            omega)
    | (have hret : MH u77 m (recH Hs S) ∧ (∀ j, j ≠ 3 → u77 m j = v m j) ∧ ∀ a, a ≠ m → a ≠ m + 3 → u77 a = v a := by
        rw [if_neg (by omega)] at q67
        refine ⟨⟨?_, (recH_len hr1 S).1, fun j hj => ?_⟩, fun j hj => by rw [g77 j hj, p67 _ (by omega)], fun a h1 h2 => by rw [n77 a h1, p67 a h2]⟩
        · rw [f77]; unfold recH; rw [if_pos (by omega)]; simp
        · rw [n77 _ (by omega)]
          unfold recH at hj ⊢
          simp only [show Hs.length < 6 by omega, if_true] at hj ⊢
          rw [List.getElem_append]
          by_cases q : j < Hs.length
          · rw [dif_pos q]
            refine (hr2 j q).kept (fun k hk => ?_)
            rw [q67, if_neg (by omega)]
          · rw [dif_neg q]
            simp at hj
            have hjl : j = Hs.length := by omega
            subst hjl
            simp only [Nat.sub_self, List.getElem_cons_zero]
            refine hS.kept (fun k hk => ?_)
            rw [q67, if_pos (by omega)]
            congr 1
            omega)
    exact j_vret X dX5_record_80 ⟨rfl, rfl, hret⟩
  · refine j_iconst X dX5_record_9 ?_
    refine j_istore_n X dX5_record_10 rfl (Nat.le_of_ble_eq_true rfl) ?_
    refine j_loop (σ := Nat × Mem) (fun (y_ : Nat × Mem) => match y_ with | (k, u) => k ≤ 3565 ∧ (∀ j, u (m + 3) j = if j < k then v (m + 3) (j + 713) else v (m + 3) j) ∧ ∀ a, a ≠ m + 3 → u a = v a) (fun (y_ : Nat × Mem) => match y_ with | (k, u) => 3565 - k) (fun (y_ : Nat × Mem) => match y_ with | (k, u) => (u, [some (.ref m), some (.int (I (k : Int)))])) ?_ (0, v) ⟨by omega, fun j => by rw [if_neg (by omega)], fun _ _ => rfl⟩
    intro y_ hx ih11
    obtain ⟨k, u⟩ := y_
    dsimp only at hx ih11 ⊢
    obtain ⟨hk, hu1, hu2⟩ := hx
    refine j_iload_n X dX5_record_11 rfl ?_
    refine j_sipush X dX5_record_12 (by decide) ?_
    refine j_icmp_ge (tgt := 40) X dX5_record_15 (by omega) (by decide) (fun c15 => ?_) (fun c15 => ?_)
    · refine j_aload_n X dX5_record_40 rfl ?_
      refine j_dup X dX5_record_41 rfl ?_
      refine j_geti X dX5_record_42 (T := TX5) (N := 13) (C := RX5) hinX5 rfl (by assumption) 3 (by decide) (by decide +kernel) rfl ?_
      rw [show u m 3 = (Hs.length : Int) by rw [hu2 _ (by omega)]; exact hr0]
      refine j_iconst X dX5_record_45 ?_
      refine j_isub X dX5_record_46 ?_
      refine j_putU X dX5_record_47 (T := TX5) (N := 13) (C := RX5) hinX5 rfl (by assumption) 3 (by decide) tyX5 tyX5_ok nmX5 rfl rfl rfl (by decide +kernel) (fun u47 f47 g47 n47 => ?_)
      refine j_aload_n X dX5_record_50 rfl ?_
      refine j_getr X dX5_record_51 (T := TX5) (N := 13) (C := RX5) hinX5 rfl (by assumption) 0 (by decide) (by decide +kernel) rfl ?_
      refine j_iconst X dX5_record_54 ?_
      refine j_aload_n X dX5_record_55 rfl ?_
      refine j_getr X dX5_record_56 (T := TX5) (N := 13) (C := RX5) hinX5 rfl (by assumption) 2 (by decide) (by decide +kernel) rfl ?_
      refine j_aload_n X dX5_record_59 rfl ?_
      refine j_geti X dX5_record_60 (T := TX5) (N := 13) (C := RX5) hinX5 rfl (by assumption) 3 (by decide) (by decide +kernel) rfl ?_
      first
      | rw [f47]
      | rw [hr0]
      refine j_sipush X dX5_record_63 (by decide) ?_
      refine j_imul X dX5_record_66 ?_
      refine j_callS (nn := 4) X dX5_record_67 (c_X5_moves l D nH sk _ (m + 1) (m + 3) 0 (713 * (if Hs.length = 6 then 5 else Hs.length)) 713 4278 _ _ rfl (by split <;> omega) m1 m3 (by omega) (by omega) (by split <;> omega) (by omega) (by omega)) gX5_record_X5_moves rfl ⟨rfl, rfl⟩ (by decide +kernel) ⟨Nat.le_of_ble_eq_true rfl, Nat.le_of_ble_eq_true rfl⟩ rfl rfl (Nat.le_of_ble_eq_true rfl) ⟨Nat.zero_le _, Nat.zero_le _⟩ (kV (fun v67 h67 => ?_))
      obtain ⟨p67, q67⟩ := h67
      refine j_aload_n X dX5_record_70 rfl ?_
      refine j_dup X dX5_record_71 rfl ?_
      refine j_geti X dX5_record_72 (T := TX5) (N := 13) (C := RX5) hinX5 rfl (by assumption) 3 (by decide) (by decide +kernel) rfl ?_
      first
      | rw [show v67 m 3 = (Hs.length : Int) - 1 by rw [p67 _ (by omega)]; exact f47]
      | rw [show v67 m 3 = (Hs.length : Int) by rw [p67 _ (by omega)]; exact hr0]
      refine j_iconst X dX5_record_75 ?_
      refine j_iadd X dX5_record_76 ?_
      refine j_putU X dX5_record_77 (T := TX5) (N := 13) (C := RX5) hinX5 rfl (by assumption) 3 (by decide) tyX5 tyX5_ok nmX5 rfl rfl rfl (by decide +kernel) (fun u77 f77 g77 n77 => ?_)
      first
      | (have hret : MH u77 m (recH Hs S) ∧ (∀ j, j ≠ 3 → u77 m j = v m j) ∧ ∀ a, a ≠ m → a ≠ m + 3 → u77 a = v a := by
          have h6 : Hs.length = 6 := by omega
          have hk5 : k = 3565 := by omega
          subst hk5
          rw [if_pos h6] at q67
          have hm7 : ∀ j, j ≠ 3 → u77 m j = v m j := fun j hj => by rw [g77 j hj, p67 _ (by omega), g47 j hj, hu2 _ (by omega)]
          refine ⟨⟨?_, (recH_len hr1 S).1, fun j hj => ?_⟩, hm7, fun a h1 h2 => by rw [n77 a h1, p67 a h2, n47 a h1, hu2 a h2]⟩
          · rw [f77]; unfold recH; rw [if_neg (by omega)]; simp; omega
          · rw [n77 _ (by omega)]
            unfold recH at hj ⊢
            simp only [show ¬ Hs.length < 6 by omega, if_false] at hj ⊢
            rw [List.getElem_append]
            by_cases q : j < Hs.tail.length
            · rw [dif_pos q, List.getElem_tail]
              simp at q
              refine (hr2 (j + 1) (by omega)).kept (fun k hk => ?_)
              rw [q67, if_neg (by omega), n47 _ (by omega), hu1, if_pos (by omega)]
              congr 1
              omega
            · rw [dif_neg q]
              simp at hj q
              have hj5 : j = 5 := by omega
              subst hj5
              simp only [List.length_tail, h6, Nat.sub_self, List.getElem_cons_zero]
              refine hS.kept (fun k hk => ?_)
              rw [q67, if_pos (by omega), n47 _ (by omega), hu2 _ (by omega)]
              congr 1
              omega)
      | (have hret : MH u77 m (recH Hs S) ∧ (∀ j, j ≠ 3 → u77 m j = v m j) ∧ ∀ a, a ≠ m → a ≠ m + 3 → u77 a = v a := by
          rw [if_neg (by omega)] at q67
          refine ⟨⟨?_, (recH_len hr1 S).1, fun j hj => ?_⟩, fun j hj => by rw [g77 j hj, p67 _ (by omega)], fun a h1 h2 => by rw [n77 a h1, p67 a h2]⟩
          · rw [f77]; unfold recH; rw [if_pos (by omega)]; simp
          · rw [n77 _ (by omega)]
            unfold recH at hj ⊢
            simp only [show Hs.length < 6 by omega, if_true] at hj ⊢
            rw [List.getElem_append]
            by_cases q : j < Hs.length
            · rw [dif_pos q]
              refine (hr2 j q).kept (fun k hk => ?_)
              rw [q67, if_neg (by omega)]
            · rw [dif_neg q]
              simp at hj
              have hjl : j = Hs.length := by omega
              subst hjl
              simp only [Nat.sub_self, List.getElem_cons_zero]
              refine hS.kept (fun k hk => ?_)
              rw [q67, if_pos (by omega)]
              congr 1
              omega)
      exact j_vret X dX5_record_80 ⟨rfl, rfl, hret⟩
    · refine j_aload_n X dX5_record_18 rfl ?_
      refine j_getr X dX5_record_19 (T := TX5) (N := 13) (C := RX5) hinX5 rfl (by assumption) 2 (by decide) (by decide +kernel) rfl ?_
      refine j_iload_n X dX5_record_22 rfl ?_
      refine j_aload_n X dX5_record_23 rfl ?_
      refine j_getr X dX5_record_24 (T := TX5) (N := 13) (C := RX5) hinX5 rfl (by assumption) 2 (by decide) (by decide +kernel) rfl ?_
      refine j_iload_n X dX5_record_27 rfl ?_
      refine j_sipush X dX5_record_28 (by decide) ?_
      refine j_iadd X dX5_record_31 ?_
      refine j_ialN X dX5_record_32 (by assumption) (k + 713) (by omega) (by omega) (by decide) ?_
      refine j_iasN X dX5_record_33 (by assumption) (k) (by omega) (by omega) (by decide) (fun u33 f33 g33 n33 => ?_)
      refine j_iinc X dX5_record_34 rfl rfl (Nat.le_of_ble_eq_true rfl) ?_
      refine j_goto (tgt := 11) X dX5_record_37 (by decide) ?_
      exact ih11 (k + 1, u33) (by (try dsimp only); exact ⟨by omega, fun j => by
  by_cases q : j = k
  · rw [q, f33, hu1, if_neg (by omega), if_pos (by omega)]
  · rw [g33 j q, hu1]
    by_cases q2 : j < k
    · rw [if_pos q2, if_pos (by omega)]
    · rw [if_neg q2, if_neg (by omega)], fun a ha => by rw [n33 a ha]; exact hu2 a ha⟩) (by (try dsimp only); omega)
def rmX5_wipe : Room := { frames := 0, cells := 0, slots := 0, locals := 0 }
set_option maxHeartbeats 4000000 in
set_option maxRecDepth 100000 in
theorem c_X5_wipe (l : Launch) (D : va_G) (nH : Nat) (sk : Sk) (v : Mem) (m : Nat) (G : GS) (hM : Md D sk m) (hR : MXR v m G) : CtI l D yX5_wipe wsX5_wipe rmX5_wipe [.ref m] nH sk v (fun z v' => z = (sWipe G).1 ∧ MXR v' m (sWipe G).2 ∧ frM v v' m) := by
  refine ct_of (cc := cX5_wipe) (maxL := 2) (ret := (some .int)) rfl rfl (Nat.le_of_ble_eq_true rfl) ?_
  intro p_ e_ s_ m_ args_ below_ meth_ c_ X hmn hsz
  have hinX5 : ∀ w ∈ wsX50, w ∈ wsX5_wipe := by decide +kernel
  obtain ⟨m0, m1, m2, m3, m4, m5, m6, m7, m8, m9, m10⟩ := id hM
  obtain ⟨hR1, hR2, hR3, hR4⟩ := id hR
  obtain ⟨hp0, hp1, hp2, hp3⟩ := id hR4
  refine j_aload_n X dX5_wipe_0 rfl ?_
  refine j_geti X dX5_wipe_1 (T := TX5) (N := 13) (C := RX5) hinX5 rfl (by assumption) 7 (by decide) (by decide +kernel) rfl ?_
  rw [hp0]
  refine j_istore_n X dX5_wipe_4 rfl (Nat.le_of_ble_eq_true rfl) ?_
  refine j_aload_n X dX5_wipe_5 rfl ?_
  refine j_iconst X dX5_wipe_6 ?_
  refine j_putU X dX5_wipe_7 (T := TX5) (N := 13) (C := RX5) hinX5 rfl (by assumption) 7 (by decide) tyX5 tyX5_ok nmX5 rfl rfl rfl (by decide +kernel) (fun u7 f7 g7 n7 => ?_)
  refine j_iload_n X dX5_wipe_10 rfl ?_
  exact j_iret X dX5_wipe_11 ⟨_, rfl, rfl, ⟨rfl, ⟨by rw [show u7 (m + 1) = v (m + 1) from n7 _ (by omega)]; exact hR1, hR2.kept (g7 _ (by omega)) (n7 _ (by omega)), hR3.kept (n7 _ (by omega)) (n7 _ (by omega)), ⟨f7, by simp [sWipe], fun k h => absurd h (by simp [sWipe]), fun x h => absurd h (by simp [sWipe])⟩⟩, fun a ha => n7 a (by omega)⟩⟩
