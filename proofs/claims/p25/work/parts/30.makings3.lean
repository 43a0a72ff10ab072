def S00 : AS := (0, 0, fun _ => [], [], fun _ => [], fun _ => 0, fun _ => 0)
def G00 : GS := (S00, [], fun _ => none, [])
theorem BA_new {v : Mem} {b : Nat} (h : v b = fun _ => 0) : BA v b [] := ⟨by rw [h]; rfl, by simp, fun k hk => absurd hk (by simp), List.Pairwise.nil, fun x hx => absurd hx List.not_mem_nil⟩
theorem SR_new {v : Mem} {o : Nat} (h : ∀ a, o ≤ a → a < o + 24 → v a = fun _ => 0) : SR v o S00 := by
  refine ⟨⟨Nat.zero_le _, Nat.zero_le _, fun i hi => absurd hi (Nat.not_lt_zero _), fun x hx => absurd hx List.not_mem_nil, fun i hi => absurd hi (Nat.not_lt_zero _)⟩, ⟨by rw [h o (by omega) (by omega)]; rfl, Nat.zero_le _, fun i hi => absurd hi (Nat.not_lt_zero _)⟩, by rw [h o (by omega) (by omega)]; rfl, ⟨[], List.Perm.refl _, BA_new (h _ (by omega) (by omega))⟩, fun i hi => ⟨[], BA_new (h _ (by omega) (by omega))⟩, fun i hi => absurd hi (Nat.not_lt_zero _)⟩
theorem XR_new {v : Mem} {x : Nat} (h : ∀ a, x ≤ a → a < x + 232 → v a = fun _ => 0) : XR v x G00 := by
  refine ⟨SR_new (fun a h1 h2 => h a (by omega) (by omega)), ⟨0, by omega, by rw [h _ (by omega) (by omega)]; rfl, by rw [h _ (by omega) (by omega)]; rfl, by simp [G00], fun j hj => absurd hj (Nat.not_lt_zero _)⟩, ⟨by rw [h _ (by omega) (by omega)]; rfl, by simp [G00], fun k hk => absurd hk (Nat.not_lt_zero _), fun y hy => absurd hy List.not_mem_nil⟩, fun k hk => ⟨fun _ => by rw [h _ (by omega) (by omega)], fun S hS => by cases hS⟩⟩
def rmX4_init : Room := { frames := 4, cells := 231, slots := 6921, locals := 82 }
set_option maxHeartbeats 4000000 in
set_option maxRecDepth 100000 in
theorem c_X4_init (l : Launch) (D : va_G) (nH : Nat) (sk : Sk) (v : Mem) (b : Nat) (hn : nH = b + 1) (hb : sk b = some (eO 4 [some .null, some .null, some .null, some .null, some .null, some .null])) : CtN l D yX4_init wsX4_init rmX4_init 231 6921 [.ref b] nH sk v (fun sk' v' => (Xd D sk' b ∧ ∀ a, a < b → sk' a = sk a) ∧ frN sk sk' v v' b (b + 232)) := by
  refine ct_of (cc := cX4_init) (maxL := 2) (ret := none) rfl rfl (Nat.le_of_ble_eq_true rfl) ?_
  intro p_ e_ s_ m_ args_ below_ meth_ c_ X hmn hsz
  have hinX0 : ∀ w ∈ wsX00, w ∈ wsX4_init := by decide +kernel
  have hinX1 : ∀ w ∈ wsX10, w ∈ wsX4_init := by decide +kernel
  have hinX2 : ∀ w ∈ wsX20, w ∈ wsX4_init := by decide +kernel
  have hinX3 : ∀ w ∈ wsX30, w ∈ wsX4_init := by decide +kernel
  have hinX4 : ∀ w ∈ wsX40, w ∈ wsX4_init := by decide +kernel
  subst hn
  refine j_aload_n X dX4_init_0 rfl ?_
  refine j_obj X dX4_init_1 ⟨by decide +kernel, by decide +kernel, by decide +kernel⟩ (Nat.le_of_ble_eq_true rfl) (Nat.le_of_ble_eq_true rfl) ?_
  refine j_aload_n X dX4_init_4 rfl ?_
  refine j_newU X dX4_init_5 (T := TX3) (N := 8) (C := RX3) (ci := 3) (fs := [some .null, some .null, none, some .null, some .null, some .null, some .null, none]) hinX3 rfl tyX3 tyX3_ok ⟨by decide +kernel, by decide +kernel, by decide +kernel⟩ (fun j hj => by rcases (show j = 0 ∨ j = 1 ∨ j = 2 ∨ j = 3 ∨ j = 4 ∨ j = 5 ∨ j = 6 ∨ j = 7 by omega) with rfl | rfl | rfl | rfl | rfl | rfl | rfl | rfl <;> rfl) ⟨by show _ ≤ 231; omega, by show _ ≤ 6921; omega⟩ (fun k5 w5 e5 o5 z5 q5 => ?_)
  refine j_dup X dX4_init_8 rfl ?_
  refine j_callI (nn := 0) X dX4_init_9 (c_X3_init l D _ k5 w5 _ rfl e5) gX4_init_X3_init rfl ⟨rfl, rfl⟩ (by decide +kernel) (by decide +kernel) rfl (by decide +kernel) ⟨Nat.le_of_ble_eq_true rfl, Nat.le_of_ble_eq_true rfl⟩ rfl rfl (Nat.le_of_ble_eq_true rfl) ⟨by show _ ≤ 231; omega, by show _ ≤ 6921; omega⟩ (by decide +kernel) (kN (fun k9 w9 h9 => ?_))
  obtain ⟨hS9, o9, q9, z9⟩ := h9
  refine j_putFU X dX4_init_12 (T := TX4) (N := 6) (C := RX4) hinX4 rfl ((o9 _ (by omega)).trans ((o5 _ (by omega)).trans hb)) 0 (by decide) tyX4 tyX4_ok nmX4 rfl hmn rfl ⟨rfl, rfl⟩ (by show 0 < 6; decide) (by decide +kernel) (fun k12 e12 o12 => ?_)
  refine j_aload_n X dX4_init_15 rfl ?_
  refine j_newU X dX4_init_16 (T := TX1) (N := 3) (C := RX1) (ci := 1) (fs := [some .null, none, none]) hinX1 rfl tyX1 tyX1_ok ⟨by decide +kernel, by decide +kernel, by decide +kernel⟩ (fun j hj => by rcases (show j = 0 ∨ j = 1 ∨ j = 2 by omega) with rfl | rfl | rfl <;> rfl) ⟨by show _ ≤ 231; omega, by show _ ≤ 6921; omega⟩ (fun k16 w16 e16 o16 z16 q16 => ?_)
  refine j_dup X dX4_init_19 rfl ?_
  refine j_callI (nn := 0) X dX4_init_20 (c_X1_init l D _ k16 w16 _ rfl e16) gX4_init_X1_init rfl ⟨rfl, rfl⟩ (by decide +kernel) (by decide +kernel) rfl (by decide +kernel) ⟨Nat.le_of_ble_eq_true rfl, Nat.le_of_ble_eq_true rfl⟩ rfl rfl (Nat.le_of_ble_eq_true rfl) ⟨by show _ ≤ 231; omega, by show _ ≤ 6921; omega⟩ (by decide +kernel) (kN (fun k20 w20 h20 => ?_))
  obtain ⟨hH20, o20, q20, z20⟩ := h20
  refine j_putFU X dX4_init_23 (T := TX4) (N := 6) (C := RX4) hinX4 rfl ((o20 _ (by omega)).trans ((o16 _ (by omega)).trans e12)) 1 (by decide) tyX4 tyX4_ok nmX4 rfl hmn rfl ⟨rfl, rfl⟩ (by show 1 < 6; decide) (by decide +kernel) (fun k23 e23 o23 => ?_)
  refine j_aload_n X dX4_init_26 rfl ?_
  refine j_iconst X dX4_init_27 ?_
  refine j_newqU X dX4_init_28 (C := RX3) (t0 := 4) (k := 14) (N' := 2) (by decide +kernel) X.2.2.2.2.2.2.1.2.2.2 rfl rfl (by decide) ⟨by show _ ≤ 231; omega, by show _ ≤ 6921; omega⟩ (fun k28 w28 e28 o28 z28 q28 => ?_)
  refine j_putFU X dX4_init_31 (T := TX4) (N := 6) (C := RX4) hinX4 rfl ((o28 _ (by omega)).trans e23) 2 (by decide) tyX4 tyX4_ok nmX4 rfl hmn rfl ⟨rfl, rfl⟩ (by show 2 < 6; decide) (by decide +kernel) (fun k31 e31 o31 => ?_)
  refine j_aload_n X dX4_init_34 rfl ?_
  refine j_iconst X dX4_init_35 ?_
  refine j_newaU X dX4_init_36 (ty := .boolean) (t0 := 2) (k := 12) (N' := 2) rfl (by decide +kernel) rfl (fun _ h => by cases h) rfl rfl (by decide) ⟨by show _ ≤ 231; omega, by show _ ≤ 6921; omega⟩ (fun k36 w36 e36 o36 z36 q36 => ?_)
  refine j_putFU X dX4_init_38 (T := TX4) (N := 6) (C := RX4) hinX4 rfl ((o36 _ (by omega)).trans e31) 3 (by decide) tyX4 tyX4_ok nmX4 rfl hmn rfl ⟨rfl, rfl⟩ (by show 3 < 6; decide) (by decide +kernel) (fun k38 e38 o38 => ?_)
  refine j_aload_n X dX4_init_41 rfl ?_
  refine j_newU X dX4_init_42 (T := TX2) (N := 2) (C := RX2) (ci := 2) (fs := [some .null, none]) hinX2 rfl tyX2 tyX2_ok ⟨by decide +kernel, by decide +kernel, by decide +kernel⟩ (fun j hj => by rcases (show j = 0 ∨ j = 1 by omega) with rfl | rfl <;> rfl) ⟨by show _ ≤ 231; omega, by show _ ≤ 6921; omega⟩ (fun k42 w42 e42 o42 z42 q42 => ?_)
  refine j_dup X dX4_init_45 rfl ?_
  refine j_callIN (nn := 0) X dX4_init_46 (c_X2_init l D _ k42 w42 _ rfl e42) gX4_init_X2_init_n33 rfl ⟨rfl, rfl⟩ (by decide +kernel) (by decide +kernel) rfl (by decide +kernel) ⟨Nat.le_of_ble_eq_true rfl, Nat.le_of_ble_eq_true rfl⟩ rfl rfl (Nat.le_of_ble_eq_true rfl) ⟨by show _ ≤ 231; omega, by show _ ≤ 6921; omega⟩ (by decide) (kN (fun k46 w46 h46 => ?_))
  obtain ⟨hP46, o46, q46, z46⟩ := h46
  refine j_putFU X dX4_init_49 (T := TX4) (N := 6) (C := RX4) hinX4 rfl ((o46 _ (by omega)).trans ((o42 _ (by omega)).trans e38)) 4 (by decide) tyX4 tyX4_ok nmX4 rfl hmn rfl ⟨rfl, rfl⟩ (by show 4 < 6; decide) (by decide +kernel) (fun k49 e49 o49 => ?_)
  refine j_aload_n X dX4_init_52 rfl ?_
  refine j_iconst X dX4_init_53 ?_
  refine j_newqU X dX4_init_54 (C := RX0) (t0 := 3) (k := 13) (N' := 4) (by decide +kernel) X.2.2.2.2.2.2.1.2.2.1 rfl rfl (by decide) ⟨by show _ ≤ 231; omega, by show _ ≤ 6921; omega⟩ (fun k54 w54 e54 o54 z54 q54 => ?_)
  refine j_putFU X dX4_init_57 (T := TX4) (N := 6) (C := RX4) hinX4 rfl ((o54 _ (by omega)).trans e49) 5 (by decide) tyX4 tyX4_ok nmX4 rfl hmn rfl ⟨rfl, rfl⟩ (by show 5 < 6; decide) (by decide +kernel) (fun k57 e57 o57 => ?_)
  refine j_iconst X dX4_init_60 ?_
  refine j_istore_n X dX4_init_61 rfl (Nat.le_of_ble_eq_true rfl) ?_
  have t0 : k57 b = some (eO 4 [some (.ref (b + 1)), some (.ref (b + 25)), some (.ref (b + 171)), some (.ref (b + 172)), some (.ref (b + 173)), some (.ref (b + 175))]) := e57
  have t1 : Sd D k57 (b + 1) := Sd.up (o := b + 1) hS9 (fun a h1 h2 => ((o57 _ (by omega)).trans ((o54 _ (by omega)).trans ((o49 _ (by omega)).trans ((o46 _ (by omega)).trans ((o42 _ (by omega)).trans ((o38 _ (by omega)).trans ((o36 _ (by omega)).trans ((o31 _ (by omega)).trans ((o28 _ (by omega)).trans ((o23 _ (by omega)).trans ((o20 _ (by omega)).trans ((o16 _ (by omega)).trans (o12 _ (by omega)))))))))))))))
  have t2 : Hd D k57 (b + 25) := Hd.up (h := b + 25) hH20 (fun a h1 h2 => ((o57 _ (by omega)).trans ((o54 _ (by omega)).trans ((o49 _ (by omega)).trans ((o46 _ (by omega)).trans ((o42 _ (by omega)).trans ((o38 _ (by omega)).trans ((o36 _ (by omega)).trans ((o31 _ (by omega)).trans ((o28 _ (by omega)).trans (o23 _ (by omega))))))))))))
  have t3 : k57 (b + 171) = some (eQ D 14 2 (fun _ => none)) := ((o57 _ (by omega)).trans ((o54 _ (by omega)).trans ((o49 _ (by omega)).trans ((o46 _ (by omega)).trans ((o42 _ (by omega)).trans ((o38 _ (by omega)).trans ((o36 _ (by omega)).trans ((o31 _ (by omega)).trans e28))))))))
  have t4 : k57 (b + 172) = some (eA D 12 2) := ((o57 _ (by omega)).trans ((o54 _ (by omega)).trans ((o49 _ (by omega)).trans ((o46 _ (by omega)).trans ((o42 _ (by omega)).trans ((o38 _ (by omega)).trans e36))))))
  have t5 : Pd D k57 (b + 173) := ⟨((o57 _ (by omega)).trans ((o54 _ (by omega)).trans ((o49 _ (by omega)).trans hP46.1))), ((o57 _ (by omega)).trans ((o54 _ (by omega)).trans ((o49 _ (by omega)).trans hP46.2)))⟩
  have t6 : k57 (b + 175) = some (eQ D 13 4 (fun _ => none)) := ((o57 _ (by omega)).trans e54)
  have t8 : ∀ a, a < b → k57 a = sk a := fun a ha => (((o57 _ (by omega)).trans ((o54 _ (by omega)).trans ((o49 _ (by omega)).trans ((o46 _ (by omega)).trans ((o42 _ (by omega)).trans ((o38 _ (by omega)).trans ((o36 _ (by omega)).trans ((o31 _ (by omega)).trans ((o28 _ (by omega)).trans ((o23 _ (by omega)).trans ((o20 _ (by omega)).trans ((o16 _ (by omega)).trans ((o12 _ (by omega)).trans ((o9 _ (by omega)).trans (o5 _ (by omega)))))))))))))))))
  have t9 : ∀ a, a ≤ b → w54 a = v a := fun a ha => by rw [q54 _ (by omega), q46 _ (by omega), q42 _ (by omega), q36 _ (by omega), q28 _ (by omega), q20 _ (by omega), q16 _ (by omega), q9 _ (by omega), q5 _ (by omega)]
  have t10 : ∀ a, b < a → a < b + 176 → w54 a = fun _ => 0 := fun a h1 h2 => by
    by_cases c1 : a = b + 1
    · rw [q54 _ (by omega), q46 _ (by omega), q42 _ (by omega), q36 _ (by omega), q28 _ (by omega), q20 _ (by omega), q16 _ (by omega), q9 _ (by omega)]; rw [c1]; exact z5
    by_cases c2 : a < b + 25
    · rw [q54 _ (by omega), q46 _ (by omega), q42 _ (by omega), q36 _ (by omega), q28 _ (by omega), q20 _ (by omega), q16 _ (by omega)]; exact z9 _ (by omega) c2
    by_cases c3 : a = b + 25
    · rw [q54 _ (by omega), q46 _ (by omega), q42 _ (by omega), q36 _ (by omega), q28 _ (by omega), q20 _ (by omega)]; rw [c3]; exact z16
    by_cases c4 : a < b + 171
    · rw [q54 _ (by omega), q46 _ (by omega), q42 _ (by omega), q36 _ (by omega), q28 _ (by omega)]; exact z20 _ (by omega) c4
    by_cases c5 : a = b + 171
    · rw [q54 _ (by omega), q46 _ (by omega), q42 _ (by omega), q36 _ (by omega)]; rw [c5]; exact z28
    by_cases c6 : a = b + 172
    · rw [q54 _ (by omega), q46 _ (by omega), q42 _ (by omega)]; rw [c6]; exact z36
    by_cases c7 : a = b + 173
    · rw [q54 _ (by omega), q46 _ (by omega)]; rw [c7]; exact z42
    by_cases c8 : a = b + 174
    · rw [q54 _ (by omega)]; exact z46 _ (by omega) (by omega)
    · rw [show a = b + 175 by omega]; exact z54
  refine j_loopN (σ := Nat × Sk × Mem) (fun (y_ : Nat × Sk × Mem) => match y_ with | (i, k, w) => i ≤ 2 ∧ Xa D k b ∧ (∃ g : Nat → Option Nat, k (b + 171) = some (eQ D 14 2 g) ∧ ∀ j, j < i → g j = some (b + 176 + 24 * j)) ∧ k (b + 175) = some (eQ D 13 4 (fun _ => none)) ∧ (∀ j, j < i → Sd D k (b + 176 + 24 * j)) ∧ (∀ a, a < b → k a = sk a) ∧ (∀ a, a ≤ b → w a = v a) ∧ ∀ a, b < a → a < b + 176 + 24 * i → w a = fun _ => 0) (fun (y_ : Nat × Sk × Mem) => match y_ with | (i, k, w) => 2 - i) (fun (y_ : Nat × Sk × Mem) => match y_ with | (i, k, w) => (175 + 24 * i, 5205 + 734 * i, b + 176 + 24 * i, k, w, [some (.ref b), some (.int (I (i : Int)))])) ?_ (0, k57, w54) _ _ _ ⟨by omega, ⟨t0, t1, t2, t4, t5⟩, ⟨_, t3, fun j h => absurd h (by omega)⟩, t6, fun j h => absurd h (by omega), t8, t9, fun a h1 h2 => t10 a h1 (by omega)⟩ (by first | rfl | omega | (dsimp only; omega)) (by first | rfl | omega | (dsimp only; omega)) (by first | rfl | omega | (dsimp only; omega))
  intro y_ hx ih62
  obtain ⟨i, k, w⟩ := y_
  dsimp only at hx ih62 ⊢
  obtain ⟨hi, hX, ⟨g, hk1, hg⟩, hk2, hkb, hfa, hfb, hfc⟩ := hx
  refine j_iload_n X dX4_init_62 rfl ?_
  refine j_aload_n X dX4_init_63 rfl ?_
  refine j_getr X dX4_init_64 (T := TX4) (N := 6) (C := RX4) hinX4 rfl hX.1 2 (by decide) (by decide +kernel) rfl ?_
  refine j_alenQ (t0 := 4) X dX4_init_67 hk1 rfl ?_
  refine j_icmp_ge (tgt := 90) X dX4_init_68 (by omega) (by decide) (fun c68 => ?_) (fun c68 => ?_)
  · refine j_iconst X dX4_init_90 ?_
    refine j_istore_n X dX4_init_91 rfl (Nat.le_of_ble_eq_true rfl) ?_
    have hi2 : i = 2 := by omega
    subst hi2
    refine j_loopN (σ := Nat × Sk × Mem) (fun (y_ : Nat × Sk × Mem) => match y_ with | (i, k, w) => i ≤ 4 ∧ Xa D k b ∧ (∃ g : Nat → Option Nat, k (b + 171) = some (eQ D 14 2 g) ∧ ∀ j, j < 2 → g j = some (b + 176 + 24 * j)) ∧ (∃ g : Nat → Option Nat, k (b + 175) = some (eQ D 13 4 g) ∧ ∀ j, j < i → g j = some (b + 224 + 2 * j)) ∧ (∀ j, j < 2 → Sd D k (b + 176 + 24 * j)) ∧ (∀ j, j < i → Bd D k (b + 224 + 2 * j)) ∧ (∀ a, a < b → k a = sk a) ∧ (∀ a, a ≤ b → w a = v a) ∧ ∀ a, b < a → a < b + 224 + 2 * i → w a = fun _ => 0) (fun (y_ : Nat × Sk × Mem) => match y_ with | (i, k, w) => 4 - i) (fun (y_ : Nat × Sk × Mem) => match y_ with | (i, k, w) => (223 + 2 * i, 6673 + 62 * i, b + 224 + 2 * i, k, w, [some (.ref b), some (.int (I (i : Int)))])) ?_ (0, k, w) _ _ _ ⟨by omega, hX, ⟨g, hk1, hg⟩, ⟨_, hk2, fun j h => absurd h (by omega)⟩, hkb, fun j h => absurd h (by omega), hfa, hfb, fun a h1 h2 => hfc a h1 (by omega)⟩ (by first | rfl | omega | (dsimp only; omega)) (by first | rfl | omega | (dsimp only; omega)) (by first | rfl | omega | (dsimp only; omega))
    intro y_ hx ih92
    obtain ⟨i, k, w⟩ := y_
    dsimp only at hx ih92 ⊢
    obtain ⟨hi, hX, ⟨g1, hk1, hg1⟩, ⟨g, hk2, hg⟩, hkb, hkt, hfa, hfb, hfc⟩ := hx
    refine j_iload_n X dX4_init_92 rfl ?_
    refine j_aload_n X dX4_init_93 rfl ?_
    refine j_getr X dX4_init_94 (T := TX4) (N := 6) (C := RX4) hinX4 rfl hX.1 5 (by decide) (by decide +kernel) rfl ?_
    refine j_alenQ (t0 := 3) X dX4_init_97 hk2 rfl ?_
    refine j_icmp_ge (tgt := 120) X dX4_init_98 (by omega) (by decide) (fun c98 => ?_) (fun c98 => ?_)
    · have hi4 : i = 4 := by omega
      subst hi4
      obtain ⟨y1, y2, y3, y4, y5⟩ := hX
      have hret : (Xd D k b ∧ ∀ a, a < b → k a = sk a) ∧ frN sk k v w b (b + 232) := ⟨⟨⟨y1, y2, y3, ⟨g1, hk1, hg1⟩, y4, y5, ⟨g, hk2, hg⟩, hkb, hkt⟩, hfa⟩, hfa, hfb, fun a h1 h2 => hfc a h1 (by omega)⟩
      exact j_vret X dX4_init_120 ⟨rfl, hret⟩
    · refine j_aload_n X dX4_init_101 rfl ?_
      refine j_getr X dX4_init_102 (T := TX4) (N := 6) (C := RX4) hinX4 rfl hX.1 5 (by decide) (by decide +kernel) rfl ?_
      refine j_iload_n X dX4_init_105 rfl ?_
      refine j_newU X dX4_init_106 (T := TX0) (N := 2) (C := RX0) (ci := 0) (fs := [some .null, none]) hinX0 rfl tyX0 tyX0_ok ⟨by decide +kernel, by decide +kernel, by decide +kernel⟩ (fun j hj => by rcases (show j = 0 ∨ j = 1 by omega) with rfl | rfl <;> rfl) ⟨by show _ ≤ 231; omega, by show _ ≤ 6921; omega⟩ (fun k106 w106 e106 o106 z106 q106 => ?_)
      refine j_dup X dX4_init_109 rfl ?_
      refine j_callIN (nn := 0) X dX4_init_110 (c_X0_init l D _ k106 w106 _ rfl e106) gX4_init_X0_init_n44 rfl ⟨rfl, rfl⟩ (by decide +kernel) (by decide +kernel) rfl (by decide +kernel) ⟨Nat.le_of_ble_eq_true rfl, Nat.le_of_ble_eq_true rfl⟩ rfl rfl (Nat.le_of_ble_eq_true rfl) ⟨by show _ ≤ 231; omega, by show _ ≤ 6921; omega⟩ (by decide) (kN (fun k110 w110 h110 => ?_))
      obtain ⟨hB110, o110, q110, z110⟩ := h110
      refine j_aastU (t0 := 3) X dX4_init_113 ((o110 _ (by omega)).trans ((o106 _ (by omega)).trans hk2)) rfl hB110.1 rfl (by omega) (by decide) (fun k113 e113 o113 => ?_)
      refine j_iinc X dX4_init_114 rfl rfl (Nat.le_of_ble_eq_true rfl) ?_
      refine j_goto (tgt := 92) X dX4_init_117 (by decide) ?_
      have kk : ∀ a, a < b + 224 + 2 * i → a ≠ b + 175 → k113 a = k a := fun a h1 h2 => (o113 a h2).trans ((o110 a (by omega)).trans (o106 a (by omega)))
      exact ih92 (i + 1, k113, w110) _ _ _ (by (try dsimp only); exact ⟨by omega, hX.up (fun a h1 h2 h3 => kk a (by omega) (by omega)), ⟨_, (kk _ (by omega) (by omega)).trans hk1, hg1⟩, ⟨_, e113, up_lt (f := fun j => b + 224 + 2 * j) hg⟩, fun j hj => (hkb j hj).up (fun a h1 h2 => kk a (by omega) (by omega)), fun j hj => by
  by_cases q : j = i
  · subst q; exact hB110.up (o113 _ (by omega)) (o113 _ (by omega))
  · exact (hkt j (by omega)).up (kk _ (by omega) (by omega)) (kk _ (by omega) (by omega)), fun a ha => (kk a (by omega) (by omega)).trans (hfa a ha), fun a ha => by rw [q110 a (by omega), q106 a (by omega)]; exact hfb a ha, fun a h1 h2 => by
  by_cases q : a < b + 224 + 2 * i
  · rw [q110 a (by omega), q106 a (by omega)]; exact hfc a h1 q
  · by_cases q2 : a = b + 224 + 2 * i
    · rw [q2, q110 _ (by omega)]; exact z106
    · exact z110 a (by omega) (by omega)⟩) (by (try dsimp only); omega) (by first | rfl | omega | (dsimp only; omega)) (by first | rfl | omega | (dsimp only; omega)) (by first | rfl | omega | (dsimp only; omega))
  · refine j_aload_n X dX4_init_71 rfl ?_
    refine j_getr X dX4_init_72 (T := TX4) (N := 6) (C := RX4) hinX4 rfl hX.1 2 (by decide) (by decide +kernel) rfl ?_
    refine j_iload_n X dX4_init_75 rfl ?_
    refine j_newU X dX4_init_76 (T := TX3) (N := 8) (C := RX3) (ci := 3) (fs := [some .null, some .null, none, some .null, some .null, some .null, some .null, none]) hinX3 rfl tyX3 tyX3_ok ⟨by decide +kernel, by decide +kernel, by decide +kernel⟩ (fun j hj => by rcases (show j = 0 ∨ j = 1 ∨ j = 2 ∨ j = 3 ∨ j = 4 ∨ j = 5 ∨ j = 6 ∨ j = 7 by omega) with rfl | rfl | rfl | rfl | rfl | rfl | rfl | rfl <;> rfl) ⟨by show _ ≤ 231; omega, by show _ ≤ 6921; omega⟩ (fun k76 w76 e76 o76 z76 q76 => ?_)
    refine j_dup X dX4_init_79 rfl ?_
    refine j_callI (nn := 0) X dX4_init_80 (c_X3_init l D _ k76 w76 _ rfl e76) gX4_init_X3_init rfl ⟨rfl, rfl⟩ (by decide +kernel) (by decide +kernel) rfl (by decide +kernel) ⟨Nat.le_of_ble_eq_true rfl, Nat.le_of_ble_eq_true rfl⟩ rfl rfl (Nat.le_of_ble_eq_true rfl) ⟨by show _ ≤ 231; omega, by show _ ≤ 6921; omega⟩ (by decide +kernel) (kN (fun k80 w80 h80 => ?_))
    obtain ⟨hS80, o80, q80, z80⟩ := h80
    refine j_aastU (t0 := 4) X dX4_init_83 ((o80 _ (by omega)).trans ((o76 _ (by omega)).trans hk1)) rfl hS80.1 rfl (by omega) (by decide) (fun k83 e83 o83 => ?_)
    refine j_iinc X dX4_init_84 rfl rfl (Nat.le_of_ble_eq_true rfl) ?_
    refine j_goto (tgt := 62) X dX4_init_87 (by decide) ?_
    have kk : ∀ a, a < b + 176 + 24 * i → a ≠ b + 171 → k83 a = k a := fun a h1 h2 => (o83 a h2).trans ((o80 a (by omega)).trans (o76 a (by omega)))
    exact ih62 (i + 1, k83, w80) _ _ _ (by (try dsimp only); exact ⟨by omega, hX.up (fun a h1 h2 h3 => kk a (by omega) h3), ⟨_, e83, up_lt (f := fun j => b + 176 + 24 * j) hg⟩, (kk _ (by omega) (by omega)).trans hk2, fun j hj => by
  by_cases q : j = i
  · subst q; exact hS80.up (fun a h1 h2 => o83 a (by omega))
  · exact (hkb j (by omega)).up (fun a h1 h2 => kk a (by omega) (by omega)), fun a ha => (kk a (by omega) (by omega)).trans (hfa a ha), fun a ha => by rw [q80 a (by omega), q76 a (by omega)]; exact hfb a ha, fun a h1 h2 => by
  by_cases q : a < b + 176 + 24 * i
  · rw [q80 a (by omega), q76 a (by omega)]; exact hfc a h1 q
  · by_cases q2 : a = b + 176 + 24 * i
    · rw [q2, q80 _ (by omega)]; exact z76
    · exact z80 a (by omega) (by omega)⟩) (by (try dsimp only); omega) (by first | rfl | omega | (dsimp only; omega)) (by first | rfl | omega | (dsimp only; omega)) (by first | rfl | omega | (dsimp only; omega))
