/-! ===== new objects ===== -/
theorem upR_id (v : Mem) (a : Nat) : upR v a (v a) = v := by
  funext b
  by_cases h : b = a
  · subst h; exact upR_s v b _
  · exact upR_n v _ h
section JN
variable {p : Program} {l : Launch} {e : Env} {R : Room} {s : State} {m : MethodId} {args : Array Value} {below : List Frame} {meth : Method} {c : Code} {D : va_G} {A : Nat → Prop} {nL cells slots n pc : Nat} {Q : State → Prop} {sk : Sk} {v : Mem} {L : List (Option Value)} {st : List Value} {cc : ByteArray} {own : String} {Ts : List Cond} {ret : Option FieldType}
theorem j_newU (X : Cx p s m args meth c D cc nL own Ts ret) {C : String} {T : u_T} {N ci index : Nat} {fs : List (Option Value)} (d : decode cc pc = .ok (.new index, 3)) (hin : ∀ w ∈ u_ws C T N, w ∈ Ts) (hc : vwCl[ci]? = some (C, T, N)) (ty0 : Nat → FieldType) (hty : ∀ k, k < N → parseFieldDescriptor (T k).2.2.1 = some (ty0 k)) (hl : Cond.classLink own index C ∈ Ts ∧ Cond.instantiable C N ∈ Ts ∧ Cond.initialized C ∈ Ts) (hfs : ∀ j, j < N → defaultValue (ty0 j) = vp_V (flds (fun _ => 0) 0 fs) j) (hf : cells + 1 ≤ R.cells ∧ slots + N ≤ R.slots)
    (K : ∀ (sk' : Sk) (v' : Mem), sk' n = some (eO ci fs) → (∀ a, a ≠ n → sk' a = sk a) → v' n = (fun _ => 0) → (∀ a, a ≠ n → v' a = v a) → J p l e R s m args below meth c D A nL (cells + 1) (slots + N) Q (n + 1) sk' v' (pc + 3) L (.ref n :: st)) : J p l e R s m args below meth c D A nL cells slots Q n sk v pc L st :=
  j_new X d hin hc ty0 hty hl hfs hf (K _ _ (upS_s _ _ _) (fun _ h => upS_n _ _ h) (upR_s _ _ _) (fun _ h => upR_n _ _ h))
theorem j_newaU (X : Cx p s m args meth c D cc nL own Ts ret) {atype : ArrayType} {k t0 N' : Nat} {z : Int} {ty : FieldType} (d : decode cc pc = .ok (.newarray atype, 2)) (hty : newarray.typeOf atype = ty) (harr : Cond.arrayClass ty ∈ Ts) (ht0 : (tysA D)[t0]? = some (D.1 k, ty)) (hra : ∀ C, ty ≠ .object C) (hdv : defaultValue ty = .int 0) (hz : z = (N' : Int)) (hN : N' * componentBytes ty ≤ 536870912 ∧ N' ≤ 2147483647) (hf : cells + 1 ≤ R.cells ∧ slots + N' ≤ R.slots)
    (K : ∀ (sk' : Sk) (v' : Mem), sk' n = some (eA D k N') → (∀ a, a ≠ n → sk' a = sk a) → v' n = (fun _ => 0) → (∀ a, a ≠ n → v' a = v a) → J p l e R s m args below meth c D A nL (cells + 1) (slots + N') Q (n + 1) sk' v' (pc + 2) L (.ref n :: st)) : J p l e R s m args below meth c D A nL cells slots Q n sk v pc L (.int (I z) :: st) :=
  j_newa X d hty harr ht0 hra hdv hz hN hf (K _ _ (upS_s _ _ _) (fun _ h => upS_n _ _ h) (upR_s _ _ _) (fun _ h => upR_n _ _ h))
theorem j_newqU (X : Cx p s m args meth c D cc nL own Ts ret) {C : String} {index k t0 N' : Nat} {z : Int} (d : decode cc pc = .ok (.anewarray index, 3)) (hl : Cond.classLink own index C ∈ Ts) (ho : va_AO C s) (ht0 : (tysA D)[t0]? = some (D.1 k, .object C)) (hz : z = (N' : Int)) (hN : N' * 4 ≤ 536870912) (hf : cells + 1 ≤ R.cells ∧ slots + N' ≤ R.slots)
    (K : ∀ (sk' : Sk) (v' : Mem), sk' n = some (eQ D k N' (fun _ => none)) → (∀ a, a ≠ n → sk' a = sk a) → v' n = (fun _ => 0) → (∀ a, a ≠ n → v' a = v a) → J p l e R s m args below meth c D A nL (cells + 1) (slots + N') Q (n + 1) sk' v' (pc + 3) L (.ref n :: st)) : J p l e R s m args below meth c D A nL cells slots Q n sk v pc L (.int (I z) :: st) :=
  j_newq X d hl ho ht0 hz hN hf (K _ _ (upS_s _ _ _) (fun _ h => upS_n _ _ h) (upR_s _ _ _) (fun _ h => upR_n _ _ h))
theorem j_aastU (X : Cx p s m args meth c D cc nL own Ts ret) {a nn k b t0 ci : Nat} {i : Int} {g : Nat → Option Nat} {r : vw_C} {fs : List (Option Value)} (d : decode cc pc = .ok (.aastore, 1)) (hs : sk a = some (eQ D k nn g)) (ht0 : (tysA D)[t0]? = some (D.1 k, .object r.1)) (hv : sk b = some (eO ci fs)) (hc : vwCl[ci]? = some r) (hi : 0 ≤ i ∧ i < nn) (hnn : nn ≤ 2147483647)
    (K : ∀ sk' : Sk, sk' a = some (eQ D k nn (va_up g i.toNat (some b))) → (∀ c, c ≠ a → sk' c = sk c) → J p l e R s m args below meth c D A nL cells slots Q n sk' v (pc + 1) L st) : J p l e R s m args below meth c D A nL cells slots Q n sk v pc L (.ref b :: .int (I i) :: .ref a :: st) := by
  refine j_aast X d hs ht0 hv hc hi hnn ?_
  rw [upR_id]
  exact K _ (upS_s _ _ _) (fun _ h => upS_n _ _ h)
theorem j_putFU (X : Cx p s m args meth c D cc nL own Ts ret) {C : String} {T : u_T} {N ci index a : Nat} {fs : List (Option Value)} {b : Nat} (d : decode cc pc = .ok (.putfield index, 3)) (hin : ∀ w ∈ u_ws C T N, w ∈ Ts) (hc : vwCl[ci]? = some (C, T, N)) (hs : sk a = some (eO ci fs)) (k : Nat) (hk : k < N) (ty0 : Nat → FieldType) (hty : ∀ k, k < N → parseFieldDescriptor (T k).2.2.1 = some (ty0 k)) (hnm : ∀ a, a < N → ∀ b, b < N → a ≠ b → (T a).2.1 ≠ (T b).2.1) (hfin : (T k).2.2.2 = true) (hin2 : meth.name = "<init>") (hdecl : (T k).1 = own) (hnf : narrow (ty0 k) (.ref b) = .ref b ∧ fits (ty0 k) (.ref b) = true) (hl : k < fs.length) (hlink : Cond.fieldLink own index (T k).1 (T k).2.1 (T k).2.2.1 ∈ Ts)
    (K : ∀ sk' : Sk, sk' a = some (eO ci (fs.set k (some (.ref b)))) → (∀ c, c ≠ a → sk' c = sk c) → J p l e R s m args below meth c D A nL cells slots Q n sk' v (pc + 3) L st) : J p l e R s m args below meth c D A nL cells slots Q n sk v pc L (.ref b :: .ref a :: st) := by
  refine j_putF X d hin hc hs k hk ty0 hty hnm hfin hin2 hdecl hnf hl hlink ?_
  rw [upR_id]
  exact K _ (upS_s _ _ _) (fun _ h => upS_n _ _ h)
theorem j_loopN {σ : Type} (Inv : σ → Prop) (μ : σ → Nat) (F : σ → Nat × Nat × Nat × Sk × Mem × List (Option Value)) (hs : ∀ x, Inv x → (∀ y c1 s1 n1, Inv y → μ y < μ x → c1 = (F y).1 → s1 = (F y).2.1 → n1 = (F y).2.2.1 → J p l e R s m args below meth c D A nL c1 s1 Q n1 (F y).2.2.2.1 (F y).2.2.2.2.1 pc (F y).2.2.2.2.2 []) → J p l e R s m args below meth c D A nL (F x).1 (F x).2.1 Q (F x).2.2.1 (F x).2.2.2.1 (F x).2.2.2.2.1 pc (F x).2.2.2.2.2 []) (x : σ) (c1 s1 n1 : Nat) (hx : Inv x) (hc : c1 = (F x).1) (hsl : s1 = (F x).2.1) (hn : n1 = (F x).2.2.1) : J p l e R s m args below meth c D A nL c1 s1 Q n1 (F x).2.2.2.1 (F x).2.2.2.2.1 pc (F x).2.2.2.2.2 [] := by
  have key : ∀ (k : Nat) (x : σ), Inv x → μ x < k → J p l e R s m args below meth c D A nL (F x).1 (F x).2.1 Q (F x).2.2.1 (F x).2.2.2.1 (F x).2.2.2.2.1 pc (F x).2.2.2.2.2 [] := by
    intro k
    induction k with
    | zero => intro x _ h; exact absurd h (Nat.not_lt_zero _)
    | succ k ih =>
      intro x hx h
      refine hs x hx (fun y c1 s1 n1 hy hlt h1 h2 h3 => ?_)
      subst h1 h2 h3
      exact ih y hy (by omega)
  subst hc hsl hn
  exact key _ x hx (Nat.lt_succ_self _)
end JN
/-- what was before the new object at b stays; its own cells up to t are new -/
def frN (sk sk' : Sk) (v v' : Mem) (b t : Nat) : Prop := (∀ a, a < b → sk' a = sk a) ∧ (∀ a, a ≤ b → v' a = v a) ∧ ∀ a, b < a → a < t → v' a = fun _ => 0
def rmX0_init : Room := { frames := 1, cells := 1, slots := 60, locals := 20 }
set_option maxHeartbeats 4000000 in
set_option maxRecDepth 100000 in
theorem c_X0_init (l : Launch) (D : va_G) (nH : Nat) (sk : Sk) (v : Mem) (b : Nat) (hn : nH = b + 1) (hb : sk b = some (eO 0 [some .null, none])) : CtN l D yX0_init wsX0_init rmX0_init 1 60 [.ref b] nH sk v (fun sk' v' => Bd D sk' b ∧ frN sk sk' v v' b (b + 2)) := by
  refine ct_of (cc := cX0_init) (maxL := 1) (ret := none) rfl rfl (Nat.le_of_ble_eq_true rfl) ?_
  intro p_ e_ s_ m_ args_ below_ meth_ c_ X hmn hsz
  have hinX0 : ∀ w ∈ wsX00, w ∈ wsX0_init := by decide +kernel
  subst hn
  refine j_aload_n X dX0_init_0 rfl ?_
  refine j_obj X dX0_init_1 ⟨by decide +kernel, by decide +kernel, by decide +kernel⟩ (Nat.le_of_ble_eq_true rfl) (Nat.le_of_ble_eq_true rfl) ?_
  refine j_aload_n X dX0_init_4 rfl ?_
  refine j_bipush X dX0_init_5 (by decide) ?_
  refine j_newaU X dX0_init_7 (ty := .int) (t0 := 0) (k := 10) (N' := 60) rfl (by decide +kernel) rfl (fun _ h => by cases h) rfl rfl (by decide) ⟨by show _ ≤ 1; omega, by show _ ≤ 60; omega⟩ (fun k7 w7 e7 o7 z7 q7 => ?_)
  refine j_putFU X dX0_init_9 (T := TX0) (N := 2) (C := RX0) hinX0 rfl ((o7 _ (by omega)).trans hb) 0 (by decide) tyX0 tyX0_ok nmX0 rfl hmn rfl ⟨rfl, rfl⟩ (by show 0 < 2; decide) (by decide +kernel) (fun k9 e9 o9 => ?_)
  exact j_vret X dX0_init_12 ⟨rfl, ⟨e9, (o9 _ (by omega)).trans e7⟩, ⟨fun a ha => (o9 _ (by omega)).trans (o7 _ (by omega)), fun a ha => q7 _ (by omega), fun a h1 h2 => by rw [show a = b + 1 by omega]; exact z7⟩⟩
def rmX2_init : Room := { frames := 1, cells := 1, slots := 48, locals := 20 }
set_option maxHeartbeats 4000000 in
set_option maxRecDepth 100000 in
theorem c_X2_init (l : Launch) (D : va_G) (nH : Nat) (sk : Sk) (v : Mem) (b : Nat) (hn : nH = b + 1) (hb : sk b = some (eO 2 [some .null, none])) : CtN l D yX2_init wsX2_init rmX2_init 1 48 [.ref b] nH sk v (fun sk' v' => Pd D sk' b ∧ frN sk sk' v v' b (b + 2)) := by
  refine ct_of (cc := cX2_init) (maxL := 1) (ret := none) rfl rfl (Nat.le_of_ble_eq_true rfl) ?_
  intro p_ e_ s_ m_ args_ below_ meth_ c_ X hmn hsz
  have hinX2 : ∀ w ∈ wsX20, w ∈ wsX2_init := by decide +kernel
  subst hn
  refine j_aload_n X dX2_init_0 rfl ?_
  refine j_obj X dX2_init_1 ⟨by decide +kernel, by decide +kernel, by decide +kernel⟩ (Nat.le_of_ble_eq_true rfl) (Nat.le_of_ble_eq_true rfl) ?_
  refine j_aload_n X dX2_init_4 rfl ?_
  refine j_bipush X dX2_init_5 (by decide) ?_
  refine j_newaU X dX2_init_7 (ty := .char) (t0 := 1) (k := 11) (N' := 48) rfl (by decide +kernel) rfl (fun _ h => by cases h) rfl rfl (by decide) ⟨by show _ ≤ 1; omega, by show _ ≤ 48; omega⟩ (fun k7 w7 e7 o7 z7 q7 => ?_)
  refine j_putFU X dX2_init_9 (T := TX2) (N := 2) (C := RX2) hinX2 rfl ((o7 _ (by omega)).trans hb) 0 (by decide) tyX2 tyX2_ok nmX2 rfl hmn rfl ⟨rfl, rfl⟩ (by show 0 < 2; decide) (by decide +kernel) (fun k9 e9 o9 => ?_)
  exact j_vret X dX2_init_12 ⟨rfl, ⟨e9, (o9 _ (by omega)).trans e7⟩, ⟨fun a ha => (o9 _ (by omega)).trans (o7 _ (by omega)), fun a ha => q7 _ (by omega), fun a h1 h2 => by rw [show a = b + 1 by omega]; exact z7⟩⟩
