theorem up_s (g : Nat → Option Nat) (i : Nat) (x : Option Nat) : va_up g i x i = x := by simp [va_up]
theorem up_n (g : Nat → Option Nat) {i j : Nat} (x : Option Nat) (h : j ≠ i) : va_up g i x j = g j := by simp [va_up, h]
theorem up_lt {g : Nat → Option Nat} {i : Nat} {f : Nat → Nat} (h : ∀ j, j < i → g j = some (f j)) : ∀ j, j < i + 1 → va_up g ((i : Int).toNat) (some (f i)) j = some (f j) := by
  intro j hj
  rw [Int.toNat_natCast]
  by_cases q : j = i
  · subst q; exact up_s _ _ _
  · rw [up_n _ _ q]; exact h j (by omega)
theorem Bd.up {D : va_G} {sk sk' : Sk} {b : Nat} (h : Bd D sk b) (e0 : sk' b = sk b) (e1 : sk' (b + 1) = sk (b + 1)) : Bd D sk' b := ⟨e0.trans h.1, e1.trans h.2⟩
theorem Sd.up {D : va_G} {sk sk' : Sk} {o : Nat} (h : Sd D sk o) (e : ∀ a, o ≤ a → a < o + 24 → sk' a = sk a) : Sd D sk' o := by
  obtain ⟨h1, h2, h3, h4, ⟨g, h5, hg⟩, h6, h7, h8⟩ := h
  exact ⟨(e _ (by omega) (by omega)).trans h1, (e _ (by omega) (by omega)).trans h2, (e _ (by omega) (by omega)).trans h3, h4.up (e _ (by omega) (by omega)) (e _ (by omega) (by omega)), ⟨g, (e _ (by omega) (by omega)).trans h5, hg⟩, (e _ (by omega) (by omega)).trans h6, (e _ (by omega) (by omega)).trans h7, fun k hk => (h8 k hk).up (e _ (by omega) (by omega)) (e _ (by omega) (by omega))⟩
theorem Hd.up {D : va_G} {sk sk' : Sk} {h : Nat} (hH : Hd D sk h) (e : ∀ a, h ≤ a → a < h + 146 → sk' a = sk a) : Hd D sk' h := by
  obtain ⟨h1, ⟨g, h2, hg⟩, h3⟩ := hH
  exact ⟨(e _ (by omega) (by omega)).trans h1, ⟨g, (e _ (by omega) (by omega)).trans h2, hg⟩, fun k hk => (h3 k hk).up (fun a h4 h5 => e a (by omega) (by omega))⟩
/-- the class's object without its two rows of objects -/
def Xa (D : va_G) (sk : Sk) (x : Nat) : Prop := sk x = some (eO 4 [some (.ref (x + 1)), some (.ref (x + 25)), some (.ref (x + 171)), some (.ref (x + 172)), some (.ref (x + 173)), some (.ref (x + 175))]) ∧ Sd D sk (x + 1) ∧ Hd D sk (x + 25) ∧ sk (x + 172) = some (eA D 12 2) ∧ Pd D sk (x + 173)
theorem Xa.up {D : va_G} {sk sk' : Sk} {x : Nat} (h : Xa D sk x) (e : ∀ a, x ≤ a → a < x + 175 → a ≠ x + 171 → sk' a = sk a) : Xa D sk' x := by
  obtain ⟨h1, h2, h3, h4, h5⟩ := h
  exact ⟨(e _ (by omega) (by omega) (by omega)).trans h1, h2.up (fun a a1 a2 => e a (by omega) (by omega) (by omega)), h3.up (fun a a1 a2 => e a (by omega) (by omega) (by omega)), (e _ (by omega) (by omega) (by omega)).trans h4, ⟨(e _ (by omega) (by omega) (by omega)).trans h5.1, (e _ (by omega) (by omega) (by omega)).trans h5.2⟩⟩
def rmX3_init : Room := { frames := 2, cells := 23, slots := 726, locals := 40 }
set_option maxHeartbeats 4000000 in
set_option maxRecDepth 100000 in
theorem c_X3_init (l : Launch) (D : va_G) (nH : Nat) (sk : Sk) (v : Mem) (b : Nat) (hn : nH = b + 1) (hb : sk b = some (eO 3 [some .null, some .null, none, some .null, some .null, some .null, some .null, none])) : CtN l D yX3_init wsX3_init rmX3_init 23 726 [.ref b] nH sk v (fun sk' v' => Sd D sk' b ∧ frN sk sk' v v' b (b + 24)) := by
  refine ct_of (cc := cX3_init) (maxL := 2) (ret := none) rfl rfl (Nat.le_of_ble_eq_true rfl) ?_
  intro p_ e_ s_ m_ args_ below_ meth_ c_ X hmn hsz
  have hinX0 : ∀ w ∈ wsX00, w ∈ wsX3_init := by decide +kernel
  have hinX3 : ∀ w ∈ wsX30, w ∈ wsX3_init := by decide +kernel
  subst hn
  refine j_aload_n X dX3_init_0 rfl ?_
  refine j_obj X dX3_init_1 ⟨by decide +kernel, by decide +kernel, by decide +kernel⟩ (Nat.le_of_ble_eq_true rfl) (Nat.le_of_ble_eq_true rfl) ?_
  refine j_aload_n X dX3_init_4 rfl ?_
  refine j_sipush X dX3_init_5 (by decide) ?_
  refine j_newaU X dX3_init_8 (ty := .int) (t0 := 0) (k := 10) (N' := 128) rfl (by decide +kernel) rfl (fun _ h => by cases h) rfl rfl (by decide) ⟨by show _ ≤ 23; omega, by show _ ≤ 726; omega⟩ (fun k8 w8 e8 o8 z8 q8 => ?_)
  refine j_putFU X dX3_init_10 (T := TX3) (N := 8) (C := RX3) hinX3 rfl ((o8 _ (by omega)).trans hb) 0 (by decide) tyX3 tyX3_ok nmX3 rfl hmn rfl ⟨rfl, rfl⟩ (by show 0 < 8; decide) (by decide +kernel) (fun k10 e10 o10 => ?_)
  refine j_aload_n X dX3_init_13 rfl ?_
  refine j_bipush X dX3_init_14 (by decide) ?_
  refine j_newaU X dX3_init_16 (ty := .int) (t0 := 0) (k := 10) (N' := 16) rfl (by decide +kernel) rfl (fun _ h => by cases h) rfl rfl (by decide) ⟨by show _ ≤ 23; omega, by show _ ≤ 726; omega⟩ (fun k16 w16 e16 o16 z16 q16 => ?_)
  refine j_putFU X dX3_init_18 (T := TX3) (N := 8) (C := RX3) hinX3 rfl ((o16 _ (by omega)).trans e10) 1 (by decide) tyX3 tyX3_ok nmX3 rfl hmn rfl ⟨rfl, rfl⟩ (by show 1 < 8; decide) (by decide +kernel) (fun k18 e18 o18 => ?_)
  refine j_aload_n X dX3_init_21 rfl ?_
  refine j_newU X dX3_init_22 (T := TX0) (N := 2) (C := RX0) (ci := 0) (fs := [some .null, none]) hinX0 rfl tyX0 tyX0_ok ⟨by decide +kernel, by decide +kernel, by decide +kernel⟩ (fun j hj => by rcases (show j = 0 ∨ j = 1 by omega) with rfl | rfl <;> rfl) ⟨by show _ ≤ 23; omega, by show _ ≤ 726; omega⟩ (fun k22 w22 e22 o22 z22 q22 => ?_)
  refine j_dup X dX3_init_25 rfl ?_
  refine j_callIN (nn := 0) X dX3_init_26 (c_X0_init l D _ k22 w22 _ rfl e22) gX3_init_X0_init_n20 rfl ⟨rfl, rfl⟩ (by decide +kernel) (by decide +kernel) rfl (by decide +kernel) ⟨Nat.le_of_ble_eq_true rfl, Nat.le_of_ble_eq_true rfl⟩ rfl rfl (Nat.le_of_ble_eq_true rfl) ⟨by show _ ≤ 23; omega, by show _ ≤ 726; omega⟩ (by decide) (kN (fun k26 w26 h26 => ?_))
  obtain ⟨hB26, o26, q26, z26⟩ := h26
  refine j_putFU X dX3_init_29 (T := TX3) (N := 8) (C := RX3) hinX3 rfl ((o26 _ (by omega)).trans ((o22 _ (by omega)).trans e18)) 3 (by decide) tyX3 tyX3_ok nmX3 rfl hmn rfl ⟨rfl, rfl⟩ (by show 3 < 8; decide) (by decide +kernel) (fun k29 e29 o29 => ?_)
  refine j_aload_n X dX3_init_32 rfl ?_
  refine j_bipush X dX3_init_33 (by decide) ?_
  refine j_newqU X dX3_init_35 (C := RX0) (t0 := 3) (k := 13) (N' := 8) (by decide +kernel) X.2.2.2.2.2.2.1.2.2.1 rfl rfl (by decide) ⟨by show _ ≤ 23; omega, by show _ ≤ 726; omega⟩ (fun k35 w35 e35 o35 z35 q35 => ?_)
  refine j_putFU X dX3_init_38 (T := TX3) (N := 8) (C := RX3) hinX3 rfl ((o35 _ (by omega)).trans e29) 4 (by decide) tyX3 tyX3_ok nmX3 rfl hmn rfl ⟨rfl, rfl⟩ (by show 4 < 8; decide) (by decide +kernel) (fun k38 e38 o38 => ?_)
  refine j_aload_n X dX3_init_41 rfl ?_
  refine j_bipush X dX3_init_42 (by decide) ?_
  refine j_newaU X dX3_init_44 (ty := .int) (t0 := 0) (k := 10) (N' := 8) rfl (by decide +kernel) rfl (fun _ h => by cases h) rfl rfl (by decide) ⟨by show _ ≤ 23; omega, by show _ ≤ 726; omega⟩ (fun k44 w44 e44 o44 z44 q44 => ?_)
  refine j_putFU X dX3_init_46 (T := TX3) (N := 8) (C := RX3) hinX3 rfl ((o44 _ (by omega)).trans e38) 5 (by decide) tyX3 tyX3_ok nmX3 rfl hmn rfl ⟨rfl, rfl⟩ (by show 5 < 8; decide) (by decide +kernel) (fun k46 e46 o46 => ?_)
  refine j_aload_n X dX3_init_49 rfl ?_
  refine j_bipush X dX3_init_50 (by decide) ?_
  refine j_newaU X dX3_init_52 (ty := .int) (t0 := 0) (k := 10) (N' := 8) rfl (by decide +kernel) rfl (fun _ h => by cases h) rfl rfl (by decide) ⟨by show _ ≤ 23; omega, by show _ ≤ 726; omega⟩ (fun k52 w52 e52 o52 z52 q52 => ?_)
  refine j_putFU X dX3_init_54 (T := TX3) (N := 8) (C := RX3) hinX3 rfl ((o52 _ (by omega)).trans e46) 6 (by decide) tyX3 tyX3_ok nmX3 rfl hmn rfl ⟨rfl, rfl⟩ (by show 6 < 8; decide) (by decide +kernel) (fun k54 e54 o54 => ?_)
  refine j_iconst X dX3_init_57 ?_
  refine j_istore_n X dX3_init_58 rfl (Nat.le_of_ble_eq_true rfl) ?_
  have t0 : k54 b = some (eO 3 [some (.ref (b + 1)), some (.ref (b + 2)), none, some (.ref (b + 3)), some (.ref (b + 5)), some (.ref (b + 6)), some (.ref (b + 7)), none]) := e54
  have t1 : k54 (b + 1) = some (eA D 10 128) := ((o54 _ (by omega)).trans ((o52 _ (by omega)).trans ((o46 _ (by omega)).trans ((o44 _ (by omega)).trans ((o38 _ (by omega)).trans ((o35 _ (by omega)).trans ((o29 _ (by omega)).trans ((o26 _ (by omega)).trans ((o22 _ (by omega)).trans ((o18 _ (by omega)).trans ((o16 _ (by omega)).trans ((o10 _ (by omega)).trans e8))))))))))))
  have t2 : k54 (b + 2) = some (eA D 10 16) := ((o54 _ (by omega)).trans ((o52 _ (by omega)).trans ((o46 _ (by omega)).trans ((o44 _ (by omega)).trans ((o38 _ (by omega)).trans ((o35 _ (by omega)).trans ((o29 _ (by omega)).trans ((o26 _ (by omega)).trans ((o22 _ (by omega)).trans ((o18 _ (by omega)).trans e16))))))))))
  have t3 : Bd D k54 (b + 3) := hB26.up (((o54 _ (by omega)).trans ((o52 _ (by omega)).trans ((o46 _ (by omega)).trans ((o44 _ (by omega)).trans ((o38 _ (by omega)).trans ((o35 _ (by omega)).trans (o29 _ (by omega))))))))) (((o54 _ (by omega)).trans ((o52 _ (by omega)).trans ((o46 _ (by omega)).trans ((o44 _ (by omega)).trans ((o38 _ (by omega)).trans ((o35 _ (by omega)).trans (o29 _ (by omega)))))))))
  have t5 : k54 (b + 5) = some (eQ D 13 8 (fun _ => none)) := ((o54 _ (by omega)).trans ((o52 _ (by omega)).trans ((o46 _ (by omega)).trans ((o44 _ (by omega)).trans ((o38 _ (by omega)).trans e35)))))
  have t6 : k54 (b + 6) = some (eA D 10 8) := ((o54 _ (by omega)).trans ((o52 _ (by omega)).trans ((o46 _ (by omega)).trans e44)))
  have t7 : k54 (b + 7) = some (eA D 10 8) := ((o54 _ (by omega)).trans e52)
  have t8 : ∀ a, a < b → k54 a = sk a := fun a ha => (((o54 _ (by omega)).trans ((o52 _ (by omega)).trans ((o46 _ (by omega)).trans ((o44 _ (by omega)).trans ((o38 _ (by omega)).trans ((o35 _ (by omega)).trans ((o29 _ (by omega)).trans ((o26 _ (by omega)).trans ((o22 _ (by omega)).trans ((o18 _ (by omega)).trans ((o16 _ (by omega)).trans ((o10 _ (by omega)).trans (o8 _ (by omega)))))))))))))))
  have t9 : ∀ a, a ≤ b → w52 a = v a := fun a ha => by rw [q52 _ (by omega), q44 _ (by omega), q35 _ (by omega), q26 _ (by omega), q22 _ (by omega), q16 _ (by omega), q8 _ (by omega)]
  have t10 : ∀ a, b < a → a < b + 8 → w52 a = fun _ => 0 := fun a h1 h2 => by
    rcases (show a = b + 1 ∨ a = b + 2 ∨ a = b + 3 ∨ a = b + 4 ∨ a = b + 5 ∨ a = b + 6 ∨ a = b + 7 by omega) with rfl | rfl | rfl | rfl | rfl | rfl | rfl
    · rw [q52 _ (by omega), q44 _ (by omega), q35 _ (by omega), q26 _ (by omega), q22 _ (by omega), q16 _ (by omega)]; exact z8
    · rw [q52 _ (by omega), q44 _ (by omega), q35 _ (by omega), q26 _ (by omega), q22 _ (by omega)]; exact z16
    · rw [q52 _ (by omega), q44 _ (by omega), q35 _ (by omega), q26 _ (by omega)]; exact z22
    · rw [q52 _ (by omega), q44 _ (by omega), q35 _ (by omega)]; exact z26 _ (by omega) (by omega)
    · rw [q52 _ (by omega), q44 _ (by omega)]; exact z35
    · rw [q52 _ (by omega)]; exact z44
    · exact z52
  refine j_loopN (σ := Nat × Sk × Mem) (fun (y_ : Nat × Sk × Mem) => match y_ with | (i, k, w) => i ≤ 8 ∧ k b = some (eO 3 [some (.ref (b + 1)), some (.ref (b + 2)), none, some (.ref (b + 3)), some (.ref (b + 5)), some (.ref (b + 6)), some (.ref (b + 7)), none]) ∧ k (b + 1) = some (eA D 10 128) ∧ k (b + 2) = some (eA D 10 16) ∧ Bd D k (b + 3) ∧ (∃ g : Nat → Option Nat, k (b + 5) = some (eQ D 13 8 g) ∧ ∀ j, j < i → g j = some (b + 8 + 2 * j)) ∧ k (b + 6) = some (eA D 10 8) ∧ k (b + 7) = some (eA D 10 8) ∧ (∀ j, j < i → Bd D k (b + 8 + 2 * j)) ∧ (∀ a, a < b → k a = sk a) ∧ (∀ a, a ≤ b → w a = v a) ∧ ∀ a, b < a → a < b + 8 + 2 * i → w a = fun _ => 0) (fun (y_ : Nat × Sk × Mem) => match y_ with | (i, k, w) => 8 - i) (fun (y_ : Nat × Sk × Mem) => match y_ with | (i, k, w) => (7 + 2 * i, 230 + 62 * i, b + 8 + 2 * i, k, w, [some (.ref b), some (.int (I (i : Int)))])) ?_ (0, k54, w52) _ _ _ ⟨by omega, t0, t1, t2, t3, ⟨_, t5, fun j h => absurd h (by omega)⟩, t6, t7, fun j h => absurd h (by omega), t8, t9, fun a h1 h2 => t10 a h1 (by omega)⟩ (by first | rfl | omega | (dsimp only; omega)) (by first | rfl | omega | (dsimp only; omega)) (by first | rfl | omega | (dsimp only; omega))
  intro y_ hx ih59
  obtain ⟨i, k, w⟩ := y_
  dsimp only at hx ih59 ⊢
  obtain ⟨hi, hk0, hk1, hk2, hk3, ⟨g, hk5, hg⟩, hk6, hk7, hkb, hfa, hfb, hfc⟩ := hx
  refine j_iload_n X dX3_init_59 rfl ?_
  refine j_aload_n X dX3_init_60 rfl ?_
  refine j_getr X dX3_init_61 (T := TX3) (N := 8) (C := RX3) hinX3 rfl hk0 4 (by decide) (by decide +kernel) rfl ?_
  refine j_alenQ (t0 := 3) X dX3_init_64 hk5 rfl ?_
  refine j_icmp_ge (tgt := 87) X dX3_init_65 (by omega) (by decide) (fun c65 => ?_) (fun c65 => ?_)
  · have hi8 : i = 8 := by omega
    subst hi8
    have hret : Sd D k b ∧ frN sk k v w b (b + 24) := ⟨⟨hk0, hk1, hk2, hk3, ⟨g, hk5, hg⟩, hk6, hk7, hkb⟩, hfa, hfb, fun a h1 h2 => hfc a h1 (by omega)⟩
    exact j_vret X dX3_init_87 ⟨rfl, hret⟩
  · refine j_aload_n X dX3_init_68 rfl ?_
    refine j_getr X dX3_init_69 (T := TX3) (N := 8) (C := RX3) hinX3 rfl hk0 4 (by decide) (by decide +kernel) rfl ?_
    refine j_iload_n X dX3_init_72 rfl ?_
    refine j_newU X dX3_init_73 (T := TX0) (N := 2) (C := RX0) (ci := 0) (fs := [some .null, none]) hinX0 rfl tyX0 tyX0_ok ⟨by decide +kernel, by decide +kernel, by decide +kernel⟩ (fun j hj => by rcases (show j = 0 ∨ j = 1 by omega) with rfl | rfl <;> rfl) ⟨by show _ ≤ 23; omega, by show _ ≤ 726; omega⟩ (fun k73 w73 e73 o73 z73 q73 => ?_)
    refine j_dup X dX3_init_76 rfl ?_
    refine j_callIN (nn := 0) X dX3_init_77 (c_X0_init l D _ k73 w73 _ rfl e73) gX3_init_X0_init_n20 rfl ⟨rfl, rfl⟩ (by decide +kernel) (by decide +kernel) rfl (by decide +kernel) ⟨Nat.le_of_ble_eq_true rfl, Nat.le_of_ble_eq_true rfl⟩ rfl rfl (Nat.le_of_ble_eq_true rfl) ⟨by show _ ≤ 23; omega, by show _ ≤ 726; omega⟩ (by decide) (kN (fun k77 w77 h77 => ?_))
    obtain ⟨hB77, o77, q77, z77⟩ := h77
    refine j_aastU (t0 := 3) X dX3_init_80 ((o77 _ (by omega)).trans ((o73 _ (by omega)).trans hk5)) rfl hB77.1 rfl (by omega) (by decide) (fun k80 e80 o80 => ?_)
    refine j_iinc X dX3_init_81 rfl rfl (Nat.le_of_ble_eq_true rfl) ?_
    refine j_goto (tgt := 59) X dX3_init_84 (by decide) ?_
    have kk : ∀ a, a < b + 8 + 2 * i → a ≠ b + 5 → k80 a = k a := fun a h1 h2 => (o80 a h2).trans ((o77 a (by omega)).trans (o73 a (by omega)))
    have hn1 : k80 (b + 8 + 2 * i) = k77 (b + 8 + 2 * i) := o80 _ (by omega)
    have hn2 : k80 (b + 8 + 2 * i + 1) = k77 (b + 8 + 2 * i + 1) := o80 _ (by omega)
    exact ih59 (i + 1, k80, w77) _ _ _ (by (try dsimp only); exact ⟨by omega, (kk _ (by omega) (by omega)).trans hk0, (kk _ (by omega) (by omega)).trans hk1, (kk _ (by omega) (by omega)).trans hk2, hk3.up (kk _ (by omega) (by omega)) (kk _ (by omega) (by omega)), ⟨_, e80, up_lt (f := fun j => b + 8 + 2 * j) hg⟩, (kk _ (by omega) (by omega)).trans hk6, (kk _ (by omega) (by omega)).trans hk7, fun j hj => by
  by_cases q : j = i
  · subst q; exact hB77.up hn1 hn2
  · exact (hkb j (by omega)).up (kk _ (by omega) (by omega)) (kk _ (by omega) (by omega)), fun a ha => (kk a (by omega) (by omega)).trans (hfa a ha), fun a ha => by rw [q77 a (by omega), q73 a (by omega)]; exact hfb a ha, fun a h1 h2 => by
  by_cases q : a < b + 8 + 2 * i
  · rw [q77 a (by omega), q73 a (by omega)]; exact hfc a h1 q
  · by_cases q2 : a = b + 8 + 2 * i
    · rw [q2, q77 _ (by omega)]; exact z73
    · exact z77 a (by omega) (by omega)⟩) (by (try dsimp only); omega) (by first | rfl | omega | (dsimp only; omega)) (by first | rfl | omega | (dsimp only; omega)) (by first | rfl | omega | (dsimp only; omega))
def rmX1_init : Room := { frames := 3, cells := 145, slots := 4410, locals := 61 }
set_option maxHeartbeats 4000000 in
set_option maxRecDepth 100000 in
theorem c_X1_init (l : Launch) (D : va_G) (nH : Nat) (sk : Sk) (v : Mem) (b : Nat) (hn : nH = b + 1) (hb : sk b = some (eO 1 [some .null, none, none])) : CtN l D yX1_init wsX1_init rmX1_init 145 4410 [.ref b] nH sk v (fun sk' v' => Hd D sk' b ∧ frN sk sk' v v' b (b + 146)) := by
  refine ct_of (cc := cX1_init) (maxL := 2) (ret := none) rfl rfl (Nat.le_of_ble_eq_true rfl) ?_
  intro p_ e_ s_ m_ args_ below_ meth_ c_ X hmn hsz
  have hinX1 : ∀ w ∈ wsX10, w ∈ wsX1_init := by decide +kernel
  have hinX3 : ∀ w ∈ wsX30, w ∈ wsX1_init := by decide +kernel
  subst hn
  refine j_aload_n X dX1_init_0 rfl ?_
  refine j_obj X dX1_init_1 ⟨by decide +kernel, by decide +kernel, by decide +kernel⟩ (Nat.le_of_ble_eq_true rfl) (Nat.le_of_ble_eq_true rfl) ?_
  refine j_aload_n X dX1_init_4 rfl ?_
  refine j_bipush X dX1_init_5 (by decide) ?_
  refine j_newqU X dX1_init_7 (C := RX3) (t0 := 4) (k := 14) (N' := 6) (by decide +kernel) X.2.2.2.2.2.2.1.2.2.2 rfl rfl (by decide) ⟨by show _ ≤ 145; omega, by show _ ≤ 4410; omega⟩ (fun k7 w7 e7 o7 z7 q7 => ?_)
  refine j_putFU X dX1_init_10 (T := TX1) (N := 3) (C := RX1) hinX1 rfl ((o7 _ (by omega)).trans hb) 0 (by decide) tyX1 tyX1_ok nmX1 rfl hmn rfl ⟨rfl, rfl⟩ (by show 0 < 3; decide) (by decide +kernel) (fun k10 e10 o10 => ?_)
  refine j_iconst X dX1_init_13 ?_
  refine j_istore_n X dX1_init_14 rfl (Nat.le_of_ble_eq_true rfl) ?_
  refine j_loopN (σ := Nat × Sk × Mem) (fun (y_ : Nat × Sk × Mem) => match y_ with | (i, k, w) => i ≤ 6 ∧ k b = some (eO 1 [some (.ref (b + 1)), none, none]) ∧ (∃ g : Nat → Option Nat, k (b + 1) = some (eQ D 14 6 g) ∧ ∀ j, j < i → g j = some (b + 2 + 24 * j)) ∧ (∀ j, j < i → Sd D k (b + 2 + 24 * j)) ∧ (∀ a, a < b → k a = sk a) ∧ (∀ a, a ≤ b → w a = v a) ∧ ∀ a, b < a → a < b + 2 + 24 * i → w a = fun _ => 0) (fun (y_ : Nat × Sk × Mem) => match y_ with | (i, k, w) => 6 - i) (fun (y_ : Nat × Sk × Mem) => match y_ with | (i, k, w) => (1 + 24 * i, 6 + 734 * i, b + 2 + 24 * i, k, w, [some (.ref b), some (.int (I (i : Int)))])) ?_ (0, k10, w7) _ _ _ ⟨by omega, e10, ⟨_, ((o10 _ (by omega)).trans e7), fun j h => absurd h (by omega)⟩, fun j h => absurd h (by omega), fun a ha => (o10 _ (by omega)).trans (o7 _ (by omega)), fun a ha => q7 _ (by omega), fun a h1 h2 => by rw [show a = b + 1 by omega]; exact z7⟩ (by first | rfl | omega | (dsimp only; omega)) (by first | rfl | omega | (dsimp only; omega)) (by first | rfl | omega | (dsimp only; omega))
  intro y_ hx ih15
  obtain ⟨i, k, w⟩ := y_
  dsimp only at hx ih15 ⊢
  obtain ⟨hi, hk0, ⟨g, hk5, hg⟩, hkb, hfa, hfb, hfc⟩ := hx
  refine j_iload_n X dX1_init_15 rfl ?_
  refine j_aload_n X dX1_init_16 rfl ?_
  refine j_getr X dX1_init_17 (T := TX1) (N := 3) (C := RX1) hinX1 rfl hk0 0 (by decide) (by decide +kernel) rfl ?_
  refine j_alenQ (t0 := 4) X dX1_init_20 hk5 rfl ?_
  refine j_icmp_ge (tgt := 43) X dX1_init_21 (by omega) (by decide) (fun c21 => ?_) (fun c21 => ?_)
  · have hi6 : i = 6 := by omega
    subst hi6
    have hret : Hd D k b ∧ frN sk k v w b (b + 146) := ⟨⟨hk0, ⟨g, hk5, hg⟩, hkb⟩, hfa, hfb, fun a h1 h2 => hfc a h1 (by omega)⟩
    exact j_vret X dX1_init_43 ⟨rfl, hret⟩
  · refine j_aload_n X dX1_init_24 rfl ?_
    refine j_getr X dX1_init_25 (T := TX1) (N := 3) (C := RX1) hinX1 rfl hk0 0 (by decide) (by decide +kernel) rfl ?_
    refine j_iload_n X dX1_init_28 rfl ?_
    refine j_newU X dX1_init_29 (T := TX3) (N := 8) (C := RX3) (ci := 3) (fs := [some .null, some .null, none, some .null, some .null, some .null, some .null, none]) hinX3 rfl tyX3 tyX3_ok ⟨by decide +kernel, by decide +kernel, by decide +kernel⟩ (fun j hj => by rcases (show j = 0 ∨ j = 1 ∨ j = 2 ∨ j = 3 ∨ j = 4 ∨ j = 5 ∨ j = 6 ∨ j = 7 by omega) with rfl | rfl | rfl | rfl | rfl | rfl | rfl | rfl <;> rfl) ⟨by show _ ≤ 145; omega, by show _ ≤ 4410; omega⟩ (fun k29 w29 e29 o29 z29 q29 => ?_)
    refine j_dup X dX1_init_32 rfl ?_
    refine j_callI (nn := 0) X dX1_init_33 (c_X3_init l D _ k29 w29 _ rfl e29) gX1_init_X3_init rfl ⟨rfl, rfl⟩ (by decide +kernel) (by decide +kernel) rfl (by decide +kernel) ⟨Nat.le_of_ble_eq_true rfl, Nat.le_of_ble_eq_true rfl⟩ rfl rfl (Nat.le_of_ble_eq_true rfl) ⟨by show _ ≤ 145; omega, by show _ ≤ 4410; omega⟩ (by decide +kernel) (kN (fun k33 w33 h33 => ?_))
    obtain ⟨hB33, o33, q33, z33⟩ := h33
    refine j_aastU (t0 := 4) X dX1_init_36 ((o33 _ (by omega)).trans ((o29 _ (by omega)).trans hk5)) rfl hB33.1 rfl (by omega) (by decide) (fun k36 e36 o36 => ?_)
    refine j_iinc X dX1_init_37 rfl rfl (Nat.le_of_ble_eq_true rfl) ?_
    refine j_goto (tgt := 15) X dX1_init_40 (by decide) ?_
    have kk : ∀ a, a < b + 2 + 24 * i → a ≠ b + 1 → k36 a = k a := fun a h1 h2 => (o36 a h2).trans ((o33 a (by omega)).trans (o29 a (by omega)))
    exact ih15 (i + 1, k36, w33) _ _ _ (by (try dsimp only); exact ⟨by omega, (kk _ (by omega) (by omega)).trans hk0, ⟨_, e36, up_lt (f := fun j => b + 2 + 24 * j) hg⟩, fun j hj => by
  by_cases q : j = i
  · subst q; exact hB33.up (fun a h1 h2 => o36 a (by omega))
  · exact (hkb j (by omega)).up (fun a h1 h2 => kk a (by omega) (by omega)), fun a ha => (kk a (by omega) (by omega)).trans (hfa a ha), fun a ha => by rw [q33 a (by omega), q29 a (by omega)]; exact hfb a ha, fun a h1 h2 => by
  by_cases q : a < b + 2 + 24 * i
  · rw [q33 a (by omega), q29 a (by omega)]; exact hfc a h1 q
  · by_cases q2 : a = b + 2 + 24 * i
    · rw [q2, q33 _ (by omega)]; exact z29
    · exact z33 a (by omega) (by omega)⟩) (by (try dsimp only); omega) (by first | rfl | omega | (dsimp only; omega)) (by first | rfl | omega | (dsimp only; omega)) (by first | rfl | omega | (dsimp only; omega))
