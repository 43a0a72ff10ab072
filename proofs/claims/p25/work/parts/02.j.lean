/-! ===== the layer J: ints by their values, one memory for all cells, locals by their places ===== -/
def I (z : Int) : Int32 := Int32.ofInt z
theorem I_toInt {z : Int} (h : -2147483648 ≤ z ∧ z ≤ 2147483647) : (I z).toInt = z := Int32.toInt_ofInt_of_le (by omega) (by omega)
theorem I_of (x : Int32) : ∃ z : Int, (-2147483648 ≤ z ∧ z ≤ 2147483647) ∧ x = I z := ⟨x.toInt, ⟨by have := x.le_toInt; omega, by have := x.toInt_lt; omega⟩, (Int32.ofInt_toInt x).symm⟩
theorem I_nat (k : Nat) : I (k : Int) = nI k := Int32.ofInt_eq_ofNat
theorem I_add (a b : Int) : I a + I b = I (a + b) := (Int32.ofInt_add a b).symm
theorem I_sub (a b : Int) : I a - I b = I (a - b) := (Int32.ofInt_sub a b).symm
theorem I_mul (a b : Int) : I a * I b = I (a * b) := (Int32.ofInt_mul a b).symm
theorem I_lt {a b : Int} (ha : -2147483648 ≤ a ∧ a ≤ 2147483647) (hb : -2147483648 ≤ b ∧ b ≤ 2147483647) : I a < I b ↔ a < b := by rw [Int32.lt_iff_toInt_lt, I_toInt ha, I_toInt hb]
theorem I_le {a b : Int} (ha : -2147483648 ≤ a ∧ a ≤ 2147483647) (hb : -2147483648 ≤ b ∧ b ≤ 2147483647) : I a ≤ I b ↔ a ≤ b := by rw [Int32.le_iff_toInt_le, I_toInt ha, I_toInt hb]
theorem I_eq {a b : Int} (ha : -2147483648 ≤ a ∧ a ≤ 2147483647) (hb : -2147483648 ≤ b ∧ b ≤ 2147483647) : I a = I b ↔ a = b := by rw [← Int32.toInt_inj, I_toInt ha, I_toInt hb]
theorem I_0 : (0 : Int32) = I 0 := rfl
theorem I_1 : (1 : Int32) = I 1 := rfl
theorem I_ne0 {b : Int} (hb : 0 < b ∧ b ≤ 2147483647) : ¬ I b = 0 := by rw [I_0, I_eq (by omega) (by omega)]; omega
theorem I_div {a b : Int} (ha : 0 ≤ a ∧ a ≤ 2147483647) (hb : 0 < b ∧ b ≤ 2147483647) : I a / I b = I (a / b) := by
  obtain ⟨x, rfl⟩ := Int.eq_ofNat_of_zero_le ha.1
  obtain ⟨y, rfl⟩ := Int.eq_ofNat_of_zero_le (Int.le_of_lt hb.1)
  rw [I_nat, I_nat, pk_div (by omega) (by omega) (by omega), ← I_nat]; rfl
theorem I_rem {a b : Int} (ha : 0 ≤ a ∧ a ≤ 2147483647) (hb : 0 < b ∧ b ≤ 2147483647) : I a - I a / I b * I b = I (a % b) := by
  rw [I_div ha hb, I_mul, I_sub]
  congr 1
  have := Int.emod_add_mul_ediv a b
  rw [Int.mul_comm] at this
  omega
theorem I_clamp {a : Int} (ha : 0 ≤ a ∧ a ≤ 2147483647) : (I a).toNatClampNeg = a.toNat := by
  obtain ⟨x, rfl⟩ := Int.eq_ofNat_of_zero_le ha.1
  rw [I_nat, nI_clamp (by omega)]; rfl
theorem I_in {a : Int} {N : Nat} (ha : 0 ≤ a ∧ a < N) (hN : N ≤ 2147483647) : vp_in (I a) N := by
  obtain ⟨x, rfl⟩ := Int.eq_ofNat_of_zero_le ha.1
  rw [I_nat]; exact vp_in_nI (by omega) (by omega)
theorem I_nneg {a : Int} (ha : 0 ≤ a ∧ a ≤ 2147483647) : ¬ I a < 0 := by rw [I_0, I_lt (by omega) (by omega)]; omega
-- memory
abbrev Mem : Type := Nat → Nat → Int
abbrev Sk : Type := Nat → Option ((Nat → Int) → va_E)
def upE (r : Nat → Int) (k : Nat) (z : Int) : Nat → Int := fun j => if j = k then z else r j
def upR (v : Mem) (a : Nat) (r : Nat → Int) : Mem := fun b => if b = a then r else v b
def up2 (v : Mem) (a k : Nat) (z : Int) : Mem := upR v a (upE (v a) k z)
def upS (sk : Sk) (a : Nat) (f : (Nat → Int) → va_E) : Sk := fun b => if b = a then some f else sk b
theorem upE_s (r : Nat → Int) (k : Nat) (z : Int) : upE r k z k = z := if_pos rfl
theorem upE_n (r : Nat → Int) {j k : Nat} (z : Int) (h : j ≠ k) : upE r k z j = r j := if_neg h
theorem upR_s (v : Mem) (a : Nat) (r : Nat → Int) : upR v a r a = r := if_pos rfl
theorem upR_n (v : Mem) {a b : Nat} (r : Nat → Int) (h : b ≠ a) : upR v a r b = v b := if_neg h
theorem up2_s (v : Mem) (a k : Nat) (z : Int) : up2 v a k z a = upE (v a) k z := if_pos rfl
theorem up2_n (v : Mem) {a b : Nat} (k : Nat) (z : Int) (h : b ≠ a) : up2 v a k z b = v b := if_neg h
theorem upS_s (sk : Sk) (a : Nat) (f : (Nat → Int) → va_E) : upS sk a f a = some f := if_pos rfl
theorem upS_n (sk : Sk) {a b : Nat} (f : (Nat → Int) → va_E) (h : b ≠ a) : upS sk a f b = sk b := if_neg h
def Wd (D : va_G) (sk : Sk) (v : Mem) (H : Heap) : Prop := ∀ (a : Nat) (f : (Nat → Int) → va_E), sk a = some f → va_at D vwCl (a, f (v a)) H
-- the kinds of cells
def flds (r : Nat → Int) : Nat → List (Option Value) → List Value
  | _, [] => []
  | k, o :: t => (o.getD (.int (I (r k)))) :: flds r (k + 1) t
def eO (ci : Nat) (fs : List (Option Value)) : (Nat → Int) → va_E := fun r => .inr (ci, flds r 0 fs)
def eA (D : va_G) (k nn : Nat) : (Nat → Int) → va_E := fun r => .inl (D.1 k, nn, .inl (fun j => I (r j)))
def eQ (D : va_G) (k nn : Nat) (g : Nat → Option Nat) : (Nat → Int) → va_E := fun _ => .inl (D.1 k, nn, .inr (.inr (.inr (.inr g))))
theorem flds_get (r : Nat → Int) : ∀ (fs : List (Option Value)) (j k : Nat), (flds r j fs)[k]? = (fs[k]?).map (fun o => o.getD (.int (I (r (j + k)))))
  | [], j, k => by simp [flds]
  | o :: t, j, 0 => by simp [flds]
  | o :: t, j, k + 1 => by
    simp only [flds, List.getElem?_cons_succ]
    rw [flds_get r t (j + 1) k, show j + 1 + k = j + (k + 1) by omega]
theorem flds_len (r : Nat → Int) : ∀ (fs : List (Option Value)) (j : Nat), (flds r j fs).length = fs.length
  | [], j => rfl
  | o :: t, j => by simp [flds, flds_len r t (j + 1)]
theorem flds_put (r : Nat → Int) (z : Int) (fs : List (Option Value)) (k : Nat) (h : fs[k]? = some none) : flds (upE r k z) 0 fs = (flds r 0 fs).set k (.int (I z)) := by
  apply List.ext_getElem?
  intro i
  rw [List.getElem?_set, flds_get, flds_get, flds_len]
  by_cases hi : k = i
  · subst hi
    have hl := (List.getElem?_eq_some_iff.mp h).1
    rw [if_pos rfl, if_pos hl, h]
    simp [upE]
  · rw [if_neg hi]
    rw [show upE r k z (0 + i) = r (0 + i) from upE_n r z (by omega)]
theorem flds_ref (r : Nat → Int) (x : Value) (fs : List (Option Value)) (k : Nat) (h : k < fs.length) : flds r 0 (fs.set k (some x)) = (flds r 0 fs).set k x := by
  apply List.ext_getElem?
  intro i
  rw [List.getElem?_set, flds_get, flds_get, flds_len, List.getElem?_set]
  by_cases hi : k = i
  · subst hi
    simp [h]
  · simp [hi]
def tysA (D : va_G) : List (ClassId × FieldType) := [(D.1 10, .int), (D.1 11, .char), (D.1 12, .boolean), (D.1 13, .object RX0), (D.1 14, .object RX3)]
/-- private members of nest mates: the tables' words that are not among a method's own -/
def nestF : List (Nat × String × String × String) := [(99, RX0, "size", "I"), (127, RX3, "orderCounts", "[I"), (53, RX3, "parcels", "I"), (138, RX3, "text", "LBinderParcels$Binder;"), (89, RX3, "binders", "[LBinderParcels$Binder;"), (85, RX3, "waiting", "[I"), (111, RX3, "lost", "[I"), (68, RX3, "owners", "I"), (178, RX1, "size", "I"), (175, RX2, "length", "I")]
def nestM : List (String × Nat × MethodName) := [(RX3, 20, yX0_init), (RX4, 33, yX2_init), (RX4, 44, yX0_init)]
def NX (s : State) : Prop := (∀ q ∈ nestF, va_Nw (.fieldLinkNest RX4 q.1 q.2.1 q.2.2.1 q.2.2.2 RX4) s) ∧ (∀ q ∈ nestM, va_Nw (.methodLinkNest q.1 q.2.1 q.2.2 RX4) s) ∧ va_AO RX0 s ∧ va_AO RX3 s
theorem NX.warm {s U : State} (hW : s.WarmedH U.vm) (h : NX s) : NX U := ⟨fun q hq => va_Nw.warmF hW (h.1 q hq), fun q hq => va_Nw.warmM hW (h.2.1 q hq), va_AO.moved hW.alike h.2.2.1, va_AO.moved hW.alike h.2.2.2⟩
theorem NX.same {u U : State} (hv : u.vm = U.vm) (h : NX u) : NX U := ⟨fun q hq => va_Nw.same rfl hv (h.1 q hq), fun q hq => va_Nw.same rfl hv (h.2.1 q hq), va_AO.moved (by rw [hv]; exact Vm.Alike.refl _) h.2.2.1, va_AO.moved (by rw [hv]; exact Vm.Alike.refl _) h.2.2.2⟩
-- locals
def lh (ls : Array Slot) (nL : Nat) (L : List (Option Value)) : Prop := ls.size = nL ∧ lv_wf ls ∧ ∀ (k : Nat) (x : Value), L[k]? = some (some x) → ls[k]? = some (.val x)
def aL (L : List (Option Value)) : List (Nat × Value) := (List.range L.length).filterMap (fun k => (L[k]?).bind (fun o => o.map (fun x => (k, x))))
theorem aL_mem {L : List (Option Value)} {k : Nat} {x : Value} (h : L[k]? = some (some x)) : (k, x) ∈ aL L := by
  refine List.mem_filterMap.mpr ⟨k, List.mem_range.mpr (List.getElem?_eq_some_iff.mp h).1, ?_⟩
  simp [h]
theorem aL_of {L : List (Option Value)} {k : Nat} {x : Value} (h : (k, x) ∈ aL L) : L[k]? = some (some x) := by
  obtain ⟨i, -, hi⟩ := List.mem_filterMap.mp h
  cases hL : L[i]? with
  | none => simp [hL] at hi
  | some o =>
    cases o with
    | none => simp [hL] at hi
    | some y =>
      simp only [hL, Option.bind_some, Option.map_some, Option.some.injEq, Prod.mk.injEq] at hi
      obtain ⟨rfl, rfl⟩ := hi
      exact hL
theorem lh.has {ls : Array Slot} {nL : Nat} {L : List (Option Value)} (h : lh ls nL L) : lv_has ls nL (aL L) := ⟨h.1, h.2.1, fun q hq => h.2.2 q.1 q.2 (aL_of hq)⟩
/-- no long stands right ahead -/
def okst (L : List (Option Value)) : Nat → Bool
  | 0 => true
  | j + 1 => match L[j]? with
    | some (some (.long _)) => false
    | some (some (.double _)) => false
    | _ => true
theorem okst_1 {L : List (Option Value)} {i k : Nat} {y : Value} (ho : okst L i = true) (h : L[k]? = some (some y)) (hk : k + 1 = i) : (y.category == 2) = false := by
  subst hk
  simp only [okst, h] at ho
  cases y <;> first | rfl | cases ho
theorem lh.store {ls' : Array Slot} {nL i : Nat} {x : Value} {L : List (Option Value)} (ho : okst L i = true) (h : lv_has ls' nL ((i, x) :: (aL L).filter (fun q => !(q.1 == i) && !(q.1 + 1 == i && q.2.category == 2)))) : lh ls' nL (L.set i (some x)) := by
  refine ⟨h.1, h.2.1, fun k y hk => ?_⟩
  rw [List.getElem?_set] at hk
  by_cases hi : i = k
  · subst hi
    rw [if_pos rfl] at hk
    split at hk
    · cases hk
      exact h.2.2 (i, x) List.mem_cons_self
    · cases hk
  · rw [if_neg hi] at hk
    refine h.2.2 (k, y) (List.mem_cons_of_mem _ (List.mem_filter.mpr ⟨aL_mem hk, ?_⟩))
    have h1 : (k == i) = false := by simpa using fun q : k = i => hi q.symm
    by_cases h2 : k + 1 = i
    · rw [show (k, y).2.category = y.category from rfl, okst_1 ho hk h2]
      simp [h1]
    · have h3 : (k + 1 == i) = false := by simpa using h2
      simp [h1, h3]
theorem lh.store2 {ls' : Array Slot} {nL i : Nat} {x : Value} {L : List (Option Value)} (ho : okst L i = true) (h : lv_has ls' nL ((i, x) :: (aL L).filter (fun q => !(q.1 == i) && (!(q.1 == i + 1) && !(q.1 + 1 == i && q.2.category == 2))))) : lh ls' nL ((L.set i (some x)).set (i + 1) none) := by
  refine ⟨h.1, h.2.1, fun k y hk => ?_⟩
  rw [List.getElem?_set] at hk
  by_cases hj : i + 1 = k
  · rw [if_pos hj] at hk
    split at hk <;> cases hk
  · rw [if_neg hj, List.getElem?_set] at hk
    by_cases hi : i = k
    · subst hi
      rw [if_pos rfl] at hk
      split at hk
      · cases hk
        exact h.2.2 (i, x) List.mem_cons_self
      · cases hk
    · rw [if_neg hi] at hk
      refine h.2.2 (k, y) (List.mem_cons_of_mem _ (List.mem_filter.mpr ⟨aL_mem hk, ?_⟩))
      have h1 : (k == i) = false := by simpa using fun q : k = i => hi q.symm
      have h4 : (k == i + 1) = false := by simpa using fun q : k = i + 1 => hj q.symm
      by_cases h2 : k + 1 = i
      · rw [show (k, y).2.category = y.category from rfl, okst_1 ho hk h2]
        simp [h1, h4]
      · have h3 : (k + 1 == i) = false := by simpa using h2
        simp [h1, h3, h4]
def lo1 : List Value → List (Option Value)
  | [] => []
  | x :: t => if x.category = 2 then some x :: none :: lo1 t else some x :: lo1 t
def lo (vs : List Value) (n : Nat) : List (Option Value) := lo1 vs ++ List.replicate (n - (lo1 vs).length) none
theorem lo1_args : ∀ (vs : List Value) (i k : Nat) (x : Value), (lo1 vs)[k]? = some (some x) → (i + k, x) ∈ lv_args i vs
  | [], i, k, x, h => by simp [lo1] at h
  | y :: t, i, k, x, h => by
    by_cases hy : y.category = 2
    · rw [lo1, if_pos hy] at h
      match k, h with
      | 0, h => simp at h; subst h; simp [lv_args]
      | 1, h => simp at h
      | k + 2, h =>
        simp at h
        have := lo1_args t (i + 2) k x h
        rw [show i + 2 + k = i + (k + 2) by omega] at this
        simp [lv_args, hy]
        exact this
    · rw [lo1, if_neg hy] at h
      match k, h with
      | 0, h => simp at h; subst h; simp [lv_args]
      | k + 1, h =>
        simp at h
        have := lo1_args t (i + 1) k x h
        rw [show i + 1 + k = i + (k + 1) by omega] at this
        simp [lv_args, hy]
        exact this
theorem lo_lh {vs : List Value} {n : Nat} {ls : Array Slot} (h : lv_has ls n (lv_args 0 vs)) : lh ls n (lo vs n) := by
  refine ⟨h.1, h.2.1, fun k x hk => ?_⟩
  unfold lo at hk
  by_cases hl : k < (lo1 vs).length
  · rw [List.getElem?_append_left hl] at hk
    have := h.2.2 (0 + k, x) (lo1_args vs 0 k x hk)
    simpa using this
  · rw [List.getElem?_append_right (by omega)] at hk
    have := List.mem_of_getElem? hk
    simp at this
-- the context, the judgement, the contract
abbrev Cx (p : Program) (s : State) (m : MethodId) (args : Array Value) (meth : Method) (c : Code) (D : va_G) (cc : ByteArray) (nL : Nat) (own : String) (Ts : List Cond) (ret : Option FieldType) : Prop :=
  p.tables.exec = Jvm.exec ∧ c.code = cc ∧ c.maxLocals = nL ∧ s.vm.findClass own = some m.cls ∧ (∀ w ∈ Ts, w.before args s = true) ∧ va_K D vwCl (tysA D) s ∧ NX s ∧ meth.sig.returnType = ret ∧ meth.locks = false
def AJ (sk : Sk) (n : Nat) : Nat → Prop := fun q => sk q ≠ none ∨ n ≤ q
def J (p : Program) (l : Launch) (e : Env) (R : Room) (s : State) (m : MethodId) (args : Array Value) (below : List Frame) (meth : Method) (c : Code) (D : va_G) (A : Nat → Prop) (nL : Nat) (cells slots : Nat) (Q : State → Prop) (n : Nat) (sk : Sk) (v : Mem) (pc : Nat) (L : List (Option Value)) (st : List Value) : Prop :=
  ∀ (H : Heap) (locs : List Loc) (ls : Array Slot), H.size = n → (∀ a, sk a ≠ none → A a) → (∀ q, s.heap.size ≤ q → A q) → Wd D sk v H → va_S A s.heap H locs → lh ls nL L → W p l e R s m args below meth c H locs cells slots Q (F0 m pc ls st)
def QcJ (D : va_G) (n mc : Nat) (sk : Sk) (post : Option Value → Sk → Mem → Prop) : Array Value → State → Outcome → State → Prop := fun _ st oc t =>
  (∃ (r : Option Value) (sk' : Sk) (v' : Mem), oc = .returned r ∧ post r sk' v' ∧ (∀ a, sk' a ≠ none → AJ sk n a) ∧ t.heap.size = n + mc ∧ Wd D sk' v' t.heap) ∧ va_F (AJ sk n) st t
def Ct (l : Launch) (D : va_G) (y : MethodName) (ws : List Cond) (rm : Room) (mc ms : Nat) (av : List Value) (n : Nat) (sk : Sk) (v : Mem) (post : Option Value → Sk → Mem → Prop) : Prop :=
  Met l y ws rm (va_Pc av (fun U => U.heap.size = n ∧ Wd D sk v U.heap ∧ va_K D vwCl (tysA D) U ∧ NX U)) (QcJ D n mc sk post) mc ms (AJ sk n)
theorem j_narc {z : Int} (hz : 0 ≤ z ∧ z < 65536) : narrow .char (.int (I z)) = .int (I z) := by
  obtain ⟨x, rfl⟩ := Int.eq_ofNat_of_zero_le hz.1
  rw [I_nat]; exact (pk_charN (by omega)).1
theorem j_narz {z : Int} (hz : z = 0 ∨ z = 1) : narrow .boolean (.int (I z)) = .int (I z) := by
  rcases hz with rfl | rfl <;> rfl
section JA
variable {p : Program} {l : Launch} {e : Env} {R : Room} {s : State} {m : MethodId} {args : Array Value} {below : List Frame} {meth : Method} {c : Code} {D : va_G} {A : Nat → Prop} {nL cells slots n pc : Nat} {Q : State → Prop} {sk : Sk} {v : Mem} {L : List (Option Value)} {st : List Value} {cc : ByteArray} {own : String} {Ts : List Cond} {ret : Option FieldType}
theorem j_iconst (X : Cx p s m args meth c D cc nL own Ts ret) {k : Int} (d : decode cc pc = .ok (.iconst k, 1)) 
    (K : J p l e R s m args below meth c D A nL cells slots Q n sk v (pc + 1) L (.int (I k) :: st)) : J p l e R s m args below meth c D A nL cells slots Q n sk v pc L (st) := by
  intro H locs ls h1 h2 h3 h4 h5 h6
  exact lv_iconst X.1 X.2.1 d rfl (K H locs ls h1 h2 h3 h4 h5 h6)
theorem j_bipush (X : Cx p s m args meth c D cc nL own Ts ret) {k : Int} (d : decode cc pc = .ok (.bipush k, 2)) (hv : (Int8.ofInt k).toInt32 = I k)
    (K : J p l e R s m args below meth c D A nL cells slots Q n sk v (pc + 2) L (.int (I k) :: st)) : J p l e R s m args below meth c D A nL cells slots Q n sk v pc L (st) := by
  intro H locs ls h1 h2 h3 h4 h5 h6
  exact lv_bipush X.1 X.2.1 d hv (K H locs ls h1 h2 h3 h4 h5 h6)
theorem j_sipush (X : Cx p s m args meth c D cc nL own Ts ret) {k : Int} (d : decode cc pc = .ok (.sipush k, 3)) (hv : (Int16.ofInt k).toInt32 = I k)
    (K : J p l e R s m args below meth c D A nL cells slots Q n sk v (pc + 3) L (.int (I k) :: st)) : J p l e R s m args below meth c D A nL cells slots Q n sk v pc L (st) := by
  intro H locs ls h1 h2 h3 h4 h5 h6
  exact lv_sipush X.1 X.2.1 d hv (K H locs ls h1 h2 h3 h4 h5 h6)
theorem j_lconst (X : Cx p s m args meth c D cc nL own Ts ret) {k : Fin 2} (d : decode cc pc = .ok (.lconst k, 1)) 
    (K : J p l e R s m args below meth c D A nL cells slots Q n sk v (pc + 1) L (.long (lN (k : Nat)) :: st)) : J p l e R s m args below meth c D A nL cells slots Q n sk v pc L (st) := by
  intro H locs ls h1 h2 h3 h4 h5 h6
  exact lv_lconst X.1 X.2.1 d rfl (K H locs ls h1 h2 h3 h4 h5 h6)
theorem j_iload_n (X : Cx p s m args meth c D cc nL own Ts ret) {k : Fin 4} {x : Int32} (d : decode cc pc = .ok (.iload_n k, 1)) (h : L[(k : Nat)]? = some (some (.int x)))
    (K : J p l e R s m args below meth c D A nL cells slots Q n sk v (pc + 1) L (.int x :: st)) : J p l e R s m args below meth c D A nL cells slots Q n sk v pc L (st) := by
  intro H locs ls h1 h2 h3 h4 h5 h6
  exact lv_iload_n X.1 X.2.1 d rfl (h6.2.2 _ _ h) (K H locs ls h1 h2 h3 h4 h5 h6)
theorem j_iload (X : Cx p s m args meth c D cc nL own Ts ret) {k : Nat} {x : Int32} (d : decode cc pc = .ok (.iload k, 2)) (h : L[k]? = some (some (.int x)))
    (K : J p l e R s m args below meth c D A nL cells slots Q n sk v (pc + 2) L (.int x :: st)) : J p l e R s m args below meth c D A nL cells slots Q n sk v pc L (st) := by
  intro H locs ls h1 h2 h3 h4 h5 h6
  exact lv_iload X.1 X.2.1 d (h6.2.2 _ _ h) (K H locs ls h1 h2 h3 h4 h5 h6)
theorem j_aload_n (X : Cx p s m args meth c D cc nL own Ts ret) {k : Fin 4} {x : Nat} (d : decode cc pc = .ok (.aload_n k, 1)) (h : L[(k : Nat)]? = some (some (.ref x)))
    (K : J p l e R s m args below meth c D A nL cells slots Q n sk v (pc + 1) L (.ref x :: st)) : J p l e R s m args below meth c D A nL cells slots Q n sk v pc L (st) := by
  intro H locs ls h1 h2 h3 h4 h5 h6
  exact lv_aload_n X.1 X.2.1 d rfl (h6.2.2 _ _ h) (K H locs ls h1 h2 h3 h4 h5 h6)
theorem j_aload (X : Cx p s m args meth c D cc nL own Ts ret) {k : Nat} {x : Nat} (d : decode cc pc = .ok (.aload k, 2)) (h : L[k]? = some (some (.ref x)))
    (K : J p l e R s m args below meth c D A nL cells slots Q n sk v (pc + 2) L (.ref x :: st)) : J p l e R s m args below meth c D A nL cells slots Q n sk v pc L (st) := by
  intro H locs ls h1 h2 h3 h4 h5 h6
  exact lv_aload X.1 X.2.1 d (h6.2.2 _ _ h) (K H locs ls h1 h2 h3 h4 h5 h6)
theorem j_lload_n (X : Cx p s m args meth c D cc nL own Ts ret) {k : Fin 4} {x : Int64} (d : decode cc pc = .ok (.lload_n k, 1)) (h : L[(k : Nat)]? = some (some (.long x)))
    (K : J p l e R s m args below meth c D A nL cells slots Q n sk v (pc + 1) L (.long x :: st)) : J p l e R s m args below meth c D A nL cells slots Q n sk v pc L (st) := by
  intro H locs ls h1 h2 h3 h4 h5 h6
  exact lv_lload_n X.1 X.2.1 d rfl (h6.2.2 _ _ h) (K H locs ls h1 h2 h3 h4 h5 h6)
theorem j_lload (X : Cx p s m args meth c D cc nL own Ts ret) {k : Nat} {x : Int64} (d : decode cc pc = .ok (.lload k, 2)) (h : L[k]? = some (some (.long x)))
    (K : J p l e R s m args below meth c D A nL cells slots Q n sk v (pc + 2) L (.long x :: st)) : J p l e R s m args below meth c D A nL cells slots Q n sk v pc L (st) := by
  intro H locs ls h1 h2 h3 h4 h5 h6
  exact lv_lload X.1 X.2.1 d (h6.2.2 _ _ h) (K H locs ls h1 h2 h3 h4 h5 h6)
theorem j_istore_n (X : Cx p s m args meth c D cc nL own Ts ret) {k : Fin 4} {x : Int32} (d : decode cc pc = .ok (.istore_n k, 1)) (ho : okst L (k : Nat) = true) (hn : (k : Nat) < nL)
    (K : J p l e R s m args below meth c D A nL cells slots Q n sk v (pc + 1) (L.set (k : Nat) (some (.int x))) st) : J p l e R s m args below meth c D A nL cells slots Q n sk v pc L (.int x :: st) := by
  intro H locs ls h1 h2 h3 h4 h5 h6
  exact lv_istore_n X.1 X.2.1 d rfl h6.has hn rfl (fun ls' h' => K H locs ls' h1 h2 h3 h4 h5 (lh.store ho h'))
theorem j_istore (X : Cx p s m args meth c D cc nL own Ts ret) {k : Nat} {x : Int32} (d : decode cc pc = .ok (.istore k, 2)) (ho : okst L k = true) (hn : k < nL)
    (K : J p l e R s m args below meth c D A nL cells slots Q n sk v (pc + 2) (L.set k (some (.int x))) st) : J p l e R s m args below meth c D A nL cells slots Q n sk v pc L (.int x :: st) := by
  intro H locs ls h1 h2 h3 h4 h5 h6
  exact lv_istore X.1 X.2.1 d h6.has hn rfl (fun ls' h' => K H locs ls' h1 h2 h3 h4 h5 (lh.store ho h'))
theorem j_astore_n (X : Cx p s m args meth c D cc nL own Ts ret) {k : Fin 4} {x : Nat} (d : decode cc pc = .ok (.astore_n k, 1)) (ho : okst L (k : Nat) = true) (hn : (k : Nat) < nL)
    (K : J p l e R s m args below meth c D A nL cells slots Q n sk v (pc + 1) (L.set (k : Nat) (some (.ref x))) st) : J p l e R s m args below meth c D A nL cells slots Q n sk v pc L (.ref x :: st) := by
  intro H locs ls h1 h2 h3 h4 h5 h6
  exact lv_astore_n X.1 X.2.1 d rfl h6.has hn rfl (fun ls' h' => K H locs ls' h1 h2 h3 h4 h5 (lh.store ho h'))
theorem j_astore (X : Cx p s m args meth c D cc nL own Ts ret) {k : Nat} {x : Nat} (d : decode cc pc = .ok (.astore k, 2)) (ho : okst L k = true) (hn : k < nL)
    (K : J p l e R s m args below meth c D A nL cells slots Q n sk v (pc + 2) (L.set k (some (.ref x))) st) : J p l e R s m args below meth c D A nL cells slots Q n sk v pc L (.ref x :: st) := by
  intro H locs ls h1 h2 h3 h4 h5 h6
  exact lv_astore X.1 X.2.1 d h6.has hn rfl (fun ls' h' => K H locs ls' h1 h2 h3 h4 h5 (lh.store ho h'))
theorem j_lstore_n (X : Cx p s m args meth c D cc nL own Ts ret) {k : Fin 4} {x : Int64} (d : decode cc pc = .ok (.lstore_n k, 1)) (ho : okst L (k : Nat) = true) (hn : (k : Nat) + 1 < nL)
    (K : J p l e R s m args below meth c D A nL cells slots Q n sk v (pc + 1) ((L.set (k : Nat) (some (.long x))).set ((k : Nat) + 1) none) st) : J p l e R s m args below meth c D A nL cells slots Q n sk v pc L (.long x :: st) := by
  intro H locs ls h1 h2 h3 h4 h5 h6
  exact lv_lstore_n X.1 X.2.1 d rfl h6.has hn rfl (fun ls' h' => K H locs ls' h1 h2 h3 h4 h5 (lh.store2 ho h'))
theorem j_lstore (X : Cx p s m args meth c D cc nL own Ts ret) {k : Nat} {x : Int64} (d : decode cc pc = .ok (.lstore k, 2)) (ho : okst L k = true) (hn : k + 1 < nL)
    (K : J p l e R s m args below meth c D A nL cells slots Q n sk v (pc + 2) ((L.set k (some (.long x))).set (k + 1) none) st) : J p l e R s m args below meth c D A nL cells slots Q n sk v pc L (.long x :: st) := by
  intro H locs ls h1 h2 h3 h4 h5 h6
  exact lv_lstore X.1 X.2.1 d h6.has hn rfl (fun ls' h' => K H locs ls' h1 h2 h3 h4 h5 (lh.store2 ho h'))
theorem aL_place {L : List (Option Value)} {i : Nat} {x : Value} (h : L[i]? = some (some x)) : ∃ k : Nat, (aL L)[k]? = some (i, x) := List.getElem?_of_mem (aL_mem h)
theorem j_iinc (X : Cx p s m args meth c D cc nL own Ts ret) {k : Nat} {z w : Int} (d : decode cc pc = .ok (.iinc k w, 3)) (h : L[k]? = some (some (.int (I z)))) (ho : okst L k = true) (hn : k < nL)
    (K : J p l e R s m args below meth c D A nL cells slots Q n sk v (pc + 3) (L.set k (some (.int (I (z + w))))) st) : J p l e R s m args below meth c D A nL cells slots Q n sk v pc L st := by
  intro H locs ls h1 h2 h3 h4 h5 h6
  obtain ⟨j, hj⟩ := aL_place h
  exact lv_iinc X.1 X.2.1 d h6.has hj (I_add z w) hn rfl (fun ls' h' => K H locs ls' h1 h2 h3 h4 h5 (lh.store ho h'))
theorem j_iadd (X : Cx p s m args meth c D cc nL own Ts ret) {x y : Int} (d : decode cc pc = .ok (.iadd, 1)) 
    (K : J p l e R s m args below meth c D A nL cells slots Q n sk v (pc + 1) L (.int (I (x + y)) :: st)) : J p l e R s m args below meth c D A nL cells slots Q n sk v pc L (.int (I y) :: .int (I x) :: st) := by
  intro H locs ls h1 h2 h3 h4 h5 h6
  exact lv_iadd X.1 X.2.1 d (by rw [I_add]; exact K H locs ls h1 h2 h3 h4 h5 h6)
theorem j_isub (X : Cx p s m args meth c D cc nL own Ts ret) {x y : Int} (d : decode cc pc = .ok (.isub, 1)) 
    (K : J p l e R s m args below meth c D A nL cells slots Q n sk v (pc + 1) L (.int (I (x - y)) :: st)) : J p l e R s m args below meth c D A nL cells slots Q n sk v pc L (.int (I y) :: .int (I x) :: st) := by
  intro H locs ls h1 h2 h3 h4 h5 h6
  exact lv_isub X.1 X.2.1 d (by rw [I_sub]; exact K H locs ls h1 h2 h3 h4 h5 h6)
theorem j_imul (X : Cx p s m args meth c D cc nL own Ts ret) {x y : Int} (d : decode cc pc = .ok (.imul, 1)) 
    (K : J p l e R s m args below meth c D A nL cells slots Q n sk v (pc + 1) L (.int (I (x * y)) :: st)) : J p l e R s m args below meth c D A nL cells slots Q n sk v pc L (.int (I y) :: .int (I x) :: st) := by
  intro H locs ls h1 h2 h3 h4 h5 h6
  exact lv_imul X.1 X.2.1 d (by rw [I_mul]; exact K H locs ls h1 h2 h3 h4 h5 h6)
theorem j_idiv (X : Cx p s m args meth c D cc nL own Ts ret) {x y : Int} (d : decode cc pc = .ok (.idiv, 1)) (hx : 0 ≤ x ∧ x ≤ 2147483647) (hy : 0 < y ∧ y ≤ 2147483647)
    (K : J p l e R s m args below meth c D A nL cells slots Q n sk v (pc + 1) L (.int (I (x / y)) :: st)) : J p l e R s m args below meth c D A nL cells slots Q n sk v pc L (.int (I y) :: .int (I x) :: st) := by
  intro H locs ls h1 h2 h3 h4 h5 h6
  exact lv_idiv X.1 X.2.1 d (I_ne0 hy) (by rw [I_div hx hy]; exact K H locs ls h1 h2 h3 h4 h5 h6)
theorem j_irem (X : Cx p s m args meth c D cc nL own Ts ret) {x y : Int} (d : decode cc pc = .ok (.irem, 1)) (hx : 0 ≤ x ∧ x ≤ 2147483647) (hy : 0 < y ∧ y ≤ 2147483647)
    (K : J p l e R s m args below meth c D A nL cells slots Q n sk v (pc + 1) L (.int (I (x % y)) :: st)) : J p l e R s m args below meth c D A nL cells slots Q n sk v pc L (.int (I y) :: .int (I x) :: st) := by
  intro H locs ls h1 h2 h3 h4 h5 h6
  exact lv_irem X.1 X.2.1 d (I_ne0 hy) (by rw [I_rem hx hy]; exact K H locs ls h1 h2 h3 h4 h5 h6)
theorem j_iand (X : Cx p s m args meth c D cc nL own Ts ret) {x y : Int32} {z : Int} (d : decode cc pc = .ok (.iand, 1)) (hv : x &&& y = I z)
    (K : J p l e R s m args below meth c D A nL cells slots Q n sk v (pc + 1) L (.int (I z) :: st)) : J p l e R s m args below meth c D A nL cells slots Q n sk v pc L (.int y :: .int x :: st) := by
  intro H locs ls h1 h2 h3 h4 h5 h6
  exact lv_iand X.1 X.2.1 d (by rw [hv]; exact K H locs ls h1 h2 h3 h4 h5 h6)
theorem j_ior (X : Cx p s m args meth c D cc nL own Ts ret) {x y : Int32} {z : Int} (d : decode cc pc = .ok (.ior, 1)) (hv : x ||| y = I z)
    (K : J p l e R s m args below meth c D A nL cells slots Q n sk v (pc + 1) L (.int (I z) :: st)) : J p l e R s m args below meth c D A nL cells slots Q n sk v pc L (.int y :: .int x :: st) := by
  intro H locs ls h1 h2 h3 h4 h5 h6
  exact lv_ior X.1 X.2.1 d (by rw [hv]; exact K H locs ls h1 h2 h3 h4 h5 h6)
theorem j_ixor (X : Cx p s m args meth c D cc nL own Ts ret) {x y : Int32} {z : Int} (d : decode cc pc = .ok (.ixor, 1)) (hv : x ^^^ y = I z)
    (K : J p l e R s m args below meth c D A nL cells slots Q n sk v (pc + 1) L (.int (I z) :: st)) : J p l e R s m args below meth c D A nL cells slots Q n sk v pc L (.int y :: .int x :: st) := by
  intro H locs ls h1 h2 h3 h4 h5 h6
  exact lv_ixor X.1 X.2.1 d (by rw [hv]; exact K H locs ls h1 h2 h3 h4 h5 h6)
theorem j_ishl (X : Cx p s m args meth c D cc nL own Ts ret) {x y : Int32} {z : Int} (d : decode cc pc = .ok (.ishl, 1)) (hv : x <<< (y &&& 31) = I z)
    (K : J p l e R s m args below meth c D A nL cells slots Q n sk v (pc + 1) L (.int (I z) :: st)) : J p l e R s m args below meth c D A nL cells slots Q n sk v pc L (.int y :: .int x :: st) := by
  intro H locs ls h1 h2 h3 h4 h5 h6
  exact lv_ishl X.1 X.2.1 d (by rw [hv]; exact K H locs ls h1 h2 h3 h4 h5 h6)
theorem j_ishr (X : Cx p s m args meth c D cc nL own Ts ret) {x y : Int32} {z : Int} (d : decode cc pc = .ok (.ishr, 1)) (hv : x >>> (y &&& 31) = I z)
    (K : J p l e R s m args below meth c D A nL cells slots Q n sk v (pc + 1) L (.int (I z) :: st)) : J p l e R s m args below meth c D A nL cells slots Q n sk v pc L (.int y :: .int x :: st) := by
  intro H locs ls h1 h2 h3 h4 h5 h6
  exact lv_ishr X.1 X.2.1 d (by rw [hv]; exact K H locs ls h1 h2 h3 h4 h5 h6)
theorem j_iushr (X : Cx p s m args meth c D cc nL own Ts ret) {x y : Int32} {z : Int32} (d : decode cc pc = .ok (.iushr, 1)) (hv : (x.toUInt32 >>> (y.toUInt32 &&& Int32.toUInt32 31)).toInt32 = z)
    (K : J p l e R s m args below meth c D A nL cells slots Q n sk v (pc + 1) L (.int z :: st)) : J p l e R s m args below meth c D A nL cells slots Q n sk v pc L (.int y :: .int x :: st) := by
  intro H locs ls h1 h2 h3 h4 h5 h6
  exact lv_iushr X.1 X.2.1 d hv (K H locs ls h1 h2 h3 h4 h5 h6)
theorem jr_iadd (X : Cx p s m args meth c D cc nL own Ts ret) {x y : Int32} (d : decode cc pc = .ok (.iadd, 1)) 
    (K : J p l e R s m args below meth c D A nL cells slots Q n sk v (pc + 1) L (.int (x + y) :: st)) : J p l e R s m args below meth c D A nL cells slots Q n sk v pc L (.int y :: .int x :: st) := by
  intro H locs ls h1 h2 h3 h4 h5 h6
  exact lv_iadd X.1 X.2.1 d (K H locs ls h1 h2 h3 h4 h5 h6)
theorem jr_isub (X : Cx p s m args meth c D cc nL own Ts ret) {x y : Int32} (d : decode cc pc = .ok (.isub, 1)) 
    (K : J p l e R s m args below meth c D A nL cells slots Q n sk v (pc + 1) L (.int (x - y) :: st)) : J p l e R s m args below meth c D A nL cells slots Q n sk v pc L (.int y :: .int x :: st) := by
  intro H locs ls h1 h2 h3 h4 h5 h6
  exact lv_isub X.1 X.2.1 d (K H locs ls h1 h2 h3 h4 h5 h6)
theorem jr_iand (X : Cx p s m args meth c D cc nL own Ts ret) {x y : Int32} (d : decode cc pc = .ok (.iand, 1)) 
    (K : J p l e R s m args below meth c D A nL cells slots Q n sk v (pc + 1) L (.int (x &&& y) :: st)) : J p l e R s m args below meth c D A nL cells slots Q n sk v pc L (.int y :: .int x :: st) := by
  intro H locs ls h1 h2 h3 h4 h5 h6
  exact lv_iand X.1 X.2.1 d (K H locs ls h1 h2 h3 h4 h5 h6)
theorem j_i2l (X : Cx p s m args meth c D cc nL own Ts ret) {x : Int32} {z : Int64} (d : decode cc pc = .ok (.i2l, 1)) (hv : x.toInt64 = z)
    (K : J p l e R s m args below meth c D A nL cells slots Q n sk v (pc + 1) L (.long z :: st)) : J p l e R s m args below meth c D A nL cells slots Q n sk v pc L (.int x :: st) := by
  intro H locs ls h1 h2 h3 h4 h5 h6
  exact lv_i2l X.1 X.2.1 d hv (K H locs ls h1 h2 h3 h4 h5 h6)
theorem j_l2i (X : Cx p s m args meth c D cc nL own Ts ret) {x : Int64} {z : Int} (d : decode cc pc = .ok (.l2i, 1)) (hv : x.toInt32 = I z)
    (K : J p l e R s m args below meth c D A nL cells slots Q n sk v (pc + 1) L (.int (I z) :: st)) : J p l e R s m args below meth c D A nL cells slots Q n sk v pc L (.long x :: st) := by
  intro H locs ls h1 h2 h3 h4 h5 h6
  exact lv_l2i X.1 X.2.1 d hv (K H locs ls h1 h2 h3 h4 h5 h6)
theorem j_i2c (X : Cx p s m args meth c D cc nL own Ts ret) {x : Int32} {z : Int} (d : decode cc pc = .ok (.i2c, 1)) (hv : (x.toUInt32 % 65536).toInt32 = I z)
    (K : J p l e R s m args below meth c D A nL cells slots Q n sk v (pc + 1) L (.int (I z) :: st)) : J p l e R s m args below meth c D A nL cells slots Q n sk v pc L (.int x :: st) := by
  intro H locs ls h1 h2 h3 h4 h5 h6
  exact lv_i2c X.1 X.2.1 d hv (K H locs ls h1 h2 h3 h4 h5 h6)
theorem j_land (X : Cx p s m args meth c D cc nL own Ts ret) {x y z : Int64} (d : decode cc pc = .ok (.land, 1)) (hv : x &&& y = z)
    (K : J p l e R s m args below meth c D A nL cells slots Q n sk v (pc + 1) L (.long z :: st)) : J p l e R s m args below meth c D A nL cells slots Q n sk v pc L (.long y :: .long x :: st) := by
  intro H locs ls h1 h2 h3 h4 h5 h6
  exact lv_land X.1 X.2.1 d (by rw [hv]; exact K H locs ls h1 h2 h3 h4 h5 h6)
theorem j_lor (X : Cx p s m args meth c D cc nL own Ts ret) {x y z : Int64} (d : decode cc pc = .ok (.lor, 1)) (hv : x ||| y = z)
    (K : J p l e R s m args below meth c D A nL cells slots Q n sk v (pc + 1) L (.long z :: st)) : J p l e R s m args below meth c D A nL cells slots Q n sk v pc L (.long y :: .long x :: st) := by
  intro H locs ls h1 h2 h3 h4 h5 h6
  exact lv_lor X.1 X.2.1 d (by rw [hv]; exact K H locs ls h1 h2 h3 h4 h5 h6)
theorem j_lushr (X : Cx p s m args meth c D cc nL own Ts ret) {x z : Int64} {y : Int32} (d : decode cc pc = .ok (.lushr, 1)) (hv : (x.toUInt64 >>> (y.toInt64.toUInt64 &&& Int64.toUInt64 63)).toInt64 = z)
    (K : J p l e R s m args below meth c D A nL cells slots Q n sk v (pc + 1) L (.long z :: st)) : J p l e R s m args below meth c D A nL cells slots Q n sk v pc L (.int y :: .long x :: st) := by
  intro H locs ls h1 h2 h3 h4 h5 h6
  exact lv_lushr X.1 X.2.1 d hv (K H locs ls h1 h2 h3 h4 h5 h6)
theorem j_lshl (X : Cx p s m args meth c D cc nL own Ts ret) {x z : Int64} {y : Int32} (d : decode cc pc = .ok (.lshl, 1)) (hv : x <<< (y.toInt64 &&& 63) = z)
    (K : J p l e R s m args below meth c D A nL cells slots Q n sk v (pc + 1) L (.long z :: st)) : J p l e R s m args below meth c D A nL cells slots Q n sk v pc L (.int y :: .long x :: st) := by
  intro H locs ls h1 h2 h3 h4 h5 h6
  exact lv_lshl X.1 X.2.1 d hv (K H locs ls h1 h2 h3 h4 h5 h6)
theorem j_dup (X : Cx p s m args meth c D cc nL own Ts ret) {x : Value} (d : decode cc pc = .ok (.dup, 1)) (hx : x.category = 1)
    (K : J p l e R s m args below meth c D A nL cells slots Q n sk v (pc + 1) L (x :: x :: st)) : J p l e R s m args below meth c D A nL cells slots Q n sk v pc L (x :: st) := by
  intro H locs ls h1 h2 h3 h4 h5 h6
  exact lv_dup X.1 X.2.1 d hx (K H locs ls h1 h2 h3 h4 h5 h6)
theorem j_dup2 (X : Cx p s m args meth c D cc nL own Ts ret) {x y : Value} (d : decode cc pc = .ok (.dup2, 1)) (hx : x.category = 1) (hy : y.category = 1)
    (K : J p l e R s m args below meth c D A nL cells slots Q n sk v (pc + 1) L (y :: x :: y :: x :: st)) : J p l e R s m args below meth c D A nL cells slots Q n sk v pc L (y :: x :: st) := by
  intro H locs ls h1 h2 h3 h4 h5 h6
  exact lv_dup2_11 X.1 X.2.1 d (by first | exact hx | exact hy) (by first | exact hy | exact hx) (K H locs ls h1 h2 h3 h4 h5 h6)
theorem j_icmp_eq (X : Cx p s m args meth c D cc nL own Ts ret) {x y off : Int} {tgt : Nat} (d : decode cc pc = .ok (.if_icmp .eq off, 3)) (hB : (-2147483648 ≤ x ∧ x ≤ 2147483647) ∧ (-2147483648 ≤ y ∧ y ≤ 2147483647)) (ht : (pc : Int) + off = (tgt : Int))
    (Kt : x = y → J p l e R s m args below meth c D A nL cells slots Q n sk v tgt L st) (Kf : ¬ x = y → J p l e R s m args below meth c D A nL cells slots Q n sk v (pc + 3) L st) : J p l e R s m args below meth c D A nL cells slots Q n sk v pc L (.int (I y) :: .int (I x) :: st) := by
  intro H locs ls h1 h2 h3 h4 h5 h6
  exact lv_icmp_eq X.1 X.2.1 d ht (fun q => Kt ((I_eq hB.1 hB.2).mp q) H locs ls h1 h2 h3 h4 h5 h6) (fun q => Kf (fun z => q ((I_eq hB.1 hB.2).mpr z)) H locs ls h1 h2 h3 h4 h5 h6)
theorem j_if_eq (X : Cx p s m args meth c D cc nL own Ts ret) {x off : Int} {tgt : Nat} (d : decode cc pc = .ok (.ifCond .eq off, 3)) (hB : -2147483648 ≤ x ∧ x ≤ 2147483647) (ht : (pc : Int) + off = (tgt : Int))
    (Kt : x = 0 → J p l e R s m args below meth c D A nL cells slots Q n sk v tgt L st) (Kf : ¬ x = 0 → J p l e R s m args below meth c D A nL cells slots Q n sk v (pc + 3) L st) : J p l e R s m args below meth c D A nL cells slots Q n sk v pc L (.int (I x) :: st) := by
  intro H locs ls h1 h2 h3 h4 h5 h6
  exact lv_if_eq X.1 X.2.1 d ht (fun q => Kt ((I_eq (b := 0) hB (by omega)).mp q) H locs ls h1 h2 h3 h4 h5 h6) (fun q => Kf (fun z => q ((I_eq (b := 0) hB (by omega)).mpr z)) H locs ls h1 h2 h3 h4 h5 h6)
theorem j_icmp_ne (X : Cx p s m args meth c D cc nL own Ts ret) {x y off : Int} {tgt : Nat} (d : decode cc pc = .ok (.if_icmp .ne off, 3)) (hB : (-2147483648 ≤ x ∧ x ≤ 2147483647) ∧ (-2147483648 ≤ y ∧ y ≤ 2147483647)) (ht : (pc : Int) + off = (tgt : Int))
    (Kt : ¬ x = y → J p l e R s m args below meth c D A nL cells slots Q n sk v tgt L st) (Kf : x = y → J p l e R s m args below meth c D A nL cells slots Q n sk v (pc + 3) L st) : J p l e R s m args below meth c D A nL cells slots Q n sk v pc L (.int (I y) :: .int (I x) :: st) := by
  intro H locs ls h1 h2 h3 h4 h5 h6
  exact lv_icmp_ne X.1 X.2.1 d ht (fun q => Kt (fun z => q ((I_eq hB.1 hB.2).mpr z)) H locs ls h1 h2 h3 h4 h5 h6) (fun q => Kf ((I_eq hB.1 hB.2).mp q) H locs ls h1 h2 h3 h4 h5 h6)
theorem j_if_ne (X : Cx p s m args meth c D cc nL own Ts ret) {x off : Int} {tgt : Nat} (d : decode cc pc = .ok (.ifCond .ne off, 3)) (hB : -2147483648 ≤ x ∧ x ≤ 2147483647) (ht : (pc : Int) + off = (tgt : Int))
    (Kt : ¬ x = 0 → J p l e R s m args below meth c D A nL cells slots Q n sk v tgt L st) (Kf : x = 0 → J p l e R s m args below meth c D A nL cells slots Q n sk v (pc + 3) L st) : J p l e R s m args below meth c D A nL cells slots Q n sk v pc L (.int (I x) :: st) := by
  intro H locs ls h1 h2 h3 h4 h5 h6
  exact lv_if_ne X.1 X.2.1 d ht (fun q => Kt (fun z => q ((I_eq (b := 0) hB (by omega)).mpr z)) H locs ls h1 h2 h3 h4 h5 h6) (fun q => Kf ((I_eq (b := 0) hB (by omega)).mp q) H locs ls h1 h2 h3 h4 h5 h6)
theorem j_icmp_lt (X : Cx p s m args meth c D cc nL own Ts ret) {x y off : Int} {tgt : Nat} (d : decode cc pc = .ok (.if_icmp .lt off, 3)) (hB : (-2147483648 ≤ x ∧ x ≤ 2147483647) ∧ (-2147483648 ≤ y ∧ y ≤ 2147483647)) (ht : (pc : Int) + off = (tgt : Int))
    (Kt : x < y → J p l e R s m args below meth c D A nL cells slots Q n sk v tgt L st) (Kf : ¬ x < y → J p l e R s m args below meth c D A nL cells slots Q n sk v (pc + 3) L st) : J p l e R s m args below meth c D A nL cells slots Q n sk v pc L (.int (I y) :: .int (I x) :: st) := by
  intro H locs ls h1 h2 h3 h4 h5 h6
  exact lv_icmp_lt X.1 X.2.1 d ht (fun q => Kt ((I_lt hB.1 hB.2).mp q) H locs ls h1 h2 h3 h4 h5 h6) (fun q => Kf (fun z => q ((I_lt hB.1 hB.2).mpr z)) H locs ls h1 h2 h3 h4 h5 h6)
theorem j_if_lt (X : Cx p s m args meth c D cc nL own Ts ret) {x off : Int} {tgt : Nat} (d : decode cc pc = .ok (.ifCond .lt off, 3)) (hB : -2147483648 ≤ x ∧ x ≤ 2147483647) (ht : (pc : Int) + off = (tgt : Int))
    (Kt : x < 0 → J p l e R s m args below meth c D A nL cells slots Q n sk v tgt L st) (Kf : ¬ x < 0 → J p l e R s m args below meth c D A nL cells slots Q n sk v (pc + 3) L st) : J p l e R s m args below meth c D A nL cells slots Q n sk v pc L (.int (I x) :: st) := by
  intro H locs ls h1 h2 h3 h4 h5 h6
  exact lv_if_lt X.1 X.2.1 d ht (fun q => Kt ((I_lt (b := 0) hB (by omega)).mp q) H locs ls h1 h2 h3 h4 h5 h6) (fun q => Kf (fun z => q ((I_lt (b := 0) hB (by omega)).mpr z)) H locs ls h1 h2 h3 h4 h5 h6)
theorem j_icmp_ge (X : Cx p s m args meth c D cc nL own Ts ret) {x y off : Int} {tgt : Nat} (d : decode cc pc = .ok (.if_icmp .ge off, 3)) (hB : (-2147483648 ≤ x ∧ x ≤ 2147483647) ∧ (-2147483648 ≤ y ∧ y ≤ 2147483647)) (ht : (pc : Int) + off = (tgt : Int))
    (Kt : y ≤ x → J p l e R s m args below meth c D A nL cells slots Q n sk v tgt L st) (Kf : ¬ y ≤ x → J p l e R s m args below meth c D A nL cells slots Q n sk v (pc + 3) L st) : J p l e R s m args below meth c D A nL cells slots Q n sk v pc L (.int (I y) :: .int (I x) :: st) := by
  intro H locs ls h1 h2 h3 h4 h5 h6
  exact lv_icmp_ge X.1 X.2.1 d ht (fun q => Kt ((I_le hB.2 hB.1).mp q) H locs ls h1 h2 h3 h4 h5 h6) (fun q => Kf (fun z => q ((I_le hB.2 hB.1).mpr z)) H locs ls h1 h2 h3 h4 h5 h6)
theorem j_if_ge (X : Cx p s m args meth c D cc nL own Ts ret) {x off : Int} {tgt : Nat} (d : decode cc pc = .ok (.ifCond .ge off, 3)) (hB : -2147483648 ≤ x ∧ x ≤ 2147483647) (ht : (pc : Int) + off = (tgt : Int))
    (Kt : 0 ≤ x → J p l e R s m args below meth c D A nL cells slots Q n sk v tgt L st) (Kf : ¬ 0 ≤ x → J p l e R s m args below meth c D A nL cells slots Q n sk v (pc + 3) L st) : J p l e R s m args below meth c D A nL cells slots Q n sk v pc L (.int (I x) :: st) := by
  intro H locs ls h1 h2 h3 h4 h5 h6
  exact lv_if_ge X.1 X.2.1 d ht (fun q => Kt ((I_le (a := 0) (by omega) hB).mp q) H locs ls h1 h2 h3 h4 h5 h6) (fun q => Kf (fun z => q ((I_le (a := 0) (by omega) hB).mpr z)) H locs ls h1 h2 h3 h4 h5 h6)
theorem j_icmp_gt (X : Cx p s m args meth c D cc nL own Ts ret) {x y off : Int} {tgt : Nat} (d : decode cc pc = .ok (.if_icmp .gt off, 3)) (hB : (-2147483648 ≤ x ∧ x ≤ 2147483647) ∧ (-2147483648 ≤ y ∧ y ≤ 2147483647)) (ht : (pc : Int) + off = (tgt : Int))
    (Kt : y < x → J p l e R s m args below meth c D A nL cells slots Q n sk v tgt L st) (Kf : ¬ y < x → J p l e R s m args below meth c D A nL cells slots Q n sk v (pc + 3) L st) : J p l e R s m args below meth c D A nL cells slots Q n sk v pc L (.int (I y) :: .int (I x) :: st) := by
  intro H locs ls h1 h2 h3 h4 h5 h6
  exact lv_icmp_gt X.1 X.2.1 d ht (fun q => Kt ((I_lt hB.2 hB.1).mp q) H locs ls h1 h2 h3 h4 h5 h6) (fun q => Kf (fun z => q ((I_lt hB.2 hB.1).mpr z)) H locs ls h1 h2 h3 h4 h5 h6)
theorem j_if_gt (X : Cx p s m args meth c D cc nL own Ts ret) {x off : Int} {tgt : Nat} (d : decode cc pc = .ok (.ifCond .gt off, 3)) (hB : -2147483648 ≤ x ∧ x ≤ 2147483647) (ht : (pc : Int) + off = (tgt : Int))
    (Kt : 0 < x → J p l e R s m args below meth c D A nL cells slots Q n sk v tgt L st) (Kf : ¬ 0 < x → J p l e R s m args below meth c D A nL cells slots Q n sk v (pc + 3) L st) : J p l e R s m args below meth c D A nL cells slots Q n sk v pc L (.int (I x) :: st) := by
  intro H locs ls h1 h2 h3 h4 h5 h6
  exact lv_if_gt X.1 X.2.1 d ht (fun q => Kt ((I_lt (a := 0) (by omega) hB).mp q) H locs ls h1 h2 h3 h4 h5 h6) (fun q => Kf (fun z => q ((I_lt (a := 0) (by omega) hB).mpr z)) H locs ls h1 h2 h3 h4 h5 h6)
theorem j_icmp_le (X : Cx p s m args meth c D cc nL own Ts ret) {x y off : Int} {tgt : Nat} (d : decode cc pc = .ok (.if_icmp .le off, 3)) (hB : (-2147483648 ≤ x ∧ x ≤ 2147483647) ∧ (-2147483648 ≤ y ∧ y ≤ 2147483647)) (ht : (pc : Int) + off = (tgt : Int))
    (Kt : x ≤ y → J p l e R s m args below meth c D A nL cells slots Q n sk v tgt L st) (Kf : ¬ x ≤ y → J p l e R s m args below meth c D A nL cells slots Q n sk v (pc + 3) L st) : J p l e R s m args below meth c D A nL cells slots Q n sk v pc L (.int (I y) :: .int (I x) :: st) := by
  intro H locs ls h1 h2 h3 h4 h5 h6
  exact lv_icmp_le X.1 X.2.1 d ht (fun q => Kt ((I_le hB.1 hB.2).mp q) H locs ls h1 h2 h3 h4 h5 h6) (fun q => Kf (fun z => q ((I_le hB.1 hB.2).mpr z)) H locs ls h1 h2 h3 h4 h5 h6)
theorem j_if_le (X : Cx p s m args meth c D cc nL own Ts ret) {x off : Int} {tgt : Nat} (d : decode cc pc = .ok (.ifCond .le off, 3)) (hB : -2147483648 ≤ x ∧ x ≤ 2147483647) (ht : (pc : Int) + off = (tgt : Int))
    (Kt : x ≤ 0 → J p l e R s m args below meth c D A nL cells slots Q n sk v tgt L st) (Kf : ¬ x ≤ 0 → J p l e R s m args below meth c D A nL cells slots Q n sk v (pc + 3) L st) : J p l e R s m args below meth c D A nL cells slots Q n sk v pc L (.int (I x) :: st) := by
  intro H locs ls h1 h2 h3 h4 h5 h6
  exact lv_if_le X.1 X.2.1 d ht (fun q => Kt ((I_le (b := 0) hB (by omega)).mp q) H locs ls h1 h2 h3 h4 h5 h6) (fun q => Kf (fun z => q ((I_le (b := 0) hB (by omega)).mpr z)) H locs ls h1 h2 h3 h4 h5 h6)
theorem j_goto (X : Cx p s m args meth c D cc nL own Ts ret) {off : Int} {tgt : Nat} (d : decode cc pc = .ok (.goto off, 3)) (ht : (pc : Int) + off = (tgt : Int))
    (K : J p l e R s m args below meth c D A nL cells slots Q n sk v tgt L st) : J p l e R s m args below meth c D A nL cells slots Q n sk v pc L st := by
  intro H locs ls h1 h2 h3 h4 h5 h6
  exact lv_goto X.1 X.2.1 d ht (K H locs ls h1 h2 h3 h4 h5 h6)
theorem j_tabOut (X : Cx p s m args meth c D cc nL own Ts ret) {x dflt lo hi : Int} {offs : Array Int} {len tgt : Nat} (d : decode cc pc = .ok (.tableswitch dflt lo hi offs, len)) (hB : -2147483648 ≤ x ∧ x ≤ 2147483647) (h : x < lo ∨ hi < x) (ht : (pc : Int) + dflt = (tgt : Int))
    (K : J p l e R s m args below meth c D A nL cells slots Q n sk v tgt L st) : J p l e R s m args below meth c D A nL cells slots Q n sk v pc L (.int (I x) :: st) := by
  intro H locs ls h1 h2 h3 h4 h5 h6
  exact lv_tableOut X.1 X.2.1 d (by rw [I_toInt hB]; exact h) ht (K H locs ls h1 h2 h3 h4 h5 h6)
theorem j_tabIn (X : Cx p s m args meth c D cc nL own Ts ret) {x dflt lo hi off : Int} {offs : Array Int} {len tgt : Nat} (d : decode cc pc = .ok (.tableswitch dflt lo hi offs, len)) (hB : -2147483648 ≤ x ∧ x ≤ 2147483647) (h : lo ≤ x ∧ x ≤ hi) (ho : offs[(x - lo).toNat]? = some off) (ht : (pc : Int) + off = (tgt : Int))
    (K : J p l e R s m args below meth c D A nL cells slots Q n sk v tgt L st) : J p l e R s m args below meth c D A nL cells slots Q n sk v pc L (.int (I x) :: st) := by
  intro H locs ls h1 h2 h3 h4 h5 h6
  exact lv_tableIn X.1 X.2.1 d (by rw [I_toInt hB]; omega) (by rw [I_toInt hB]; omega) (by rw [I_toInt hB]; exact ho) ht (K H locs ls h1 h2 h3 h4 h5 h6)
theorem Wd.one {H : Heap} {a : Nat} {f : (Nat → Int) → va_E} {x : va_E} (h : Wd D sk v H) (hs : sk a = some f) (hx : f (v a) = x) : va_P D vwCl [(a, x)] H := by
  subst hx
  intro k q hk
  cases k with
  | zero => cases hk; exact h _ _ hs
  | succ k => simp at hk
theorem Wd.set {H H1 : Heap} {a : Nat} {f g : (Nat → Int) → va_E} {r : Nat → Int} (h : Wd D sk v H) (hs : sk a = some f) (he : va_at D vwCl (a, g r) H1) (oq : ∀ q : Nat, q ≠ a → H1[q]? = H[q]?) : Wd D (upS sk a g) (upR v a r) H1 := by
  intro b f' hb
  by_cases hq : b = a
  · subst hq
    rw [upS_s] at hb
    cases hb
    rw [upR_s]
    exact he
  · rw [upS_n _ _ hq] at hb
    rw [upR_n _ _ hq]
    exact (h b f' hb).kept (oq b hq)
theorem upS_id {a : Nat} {f : (Nat → Int) → va_E} (hs : sk a = some f) : upS sk a f = sk := by
  funext b
  by_cases hq : b = a
  · subst hq; rw [upS_s, hs]
  · rw [upS_n _ _ hq]
theorem Wd.setv {H H1 : Heap} {a : Nat} {f : (Nat → Int) → va_E} {r : Nat → Int} (h : Wd D sk v H) (hs : sk a = some f) (he : va_at D vwCl (a, f r) H1) (oq : ∀ q : Nat, q ≠ a → H1[q]? = H[q]?) : Wd D sk (upR v a r) H1 := by
  have := h.set (g := f) hs he oq
  rwa [upS_id hs] at this
theorem j_geti (X : Cx p s m args meth c D cc nL own Ts ret) {C : String} {T : u_T} {N ci index a : Nat} {fs : List (Option Value)} (d : decode cc pc = .ok (.getfield index, 3)) (hin : ∀ w ∈ u_ws C T N, w ∈ Ts) (hc : vwCl[ci]? = some (C, T, N)) (hs : sk a = some (eO ci fs)) (k : Nat) (hk : k < N) (hlink : Cond.fieldLink own index (T k).1 (T k).2.1 (T k).2.2.1 ∈ Ts) (hf : fs[k]? = some none)
    (K : J p l e R s m args below meth c D A nL cells slots Q n sk v (pc + 3) L (.int (I (v a k)) :: st)) : J p l e R s m args below meth c D A nL cells slots Q n sk v pc L (.ref a :: st) := by
  intro H locs ls h1 h2 h3 h4 h5 h6
  exact va_get  X.1 X.2.1 X.2.2.2.2.1 hin X.2.2.2.1 X.2.2.2.2.2.1 (h4.one hs rfl) 0 rfl hc k hk (X.2.2.2.2.1 _ hlink) (fun _ h9 => h9) (by rw [flds_get, hf]; simp) d (K H locs ls h1 h2 h3 h4 h5 h6)
theorem j_getr (X : Cx p s m args meth c D cc nL own Ts ret) {C : String} {T : u_T} {N ci index a : Nat} {fs : List (Option Value)} {x : Value} (d : decode cc pc = .ok (.getfield index, 3)) (hin : ∀ w ∈ u_ws C T N, w ∈ Ts) (hc : vwCl[ci]? = some (C, T, N)) (hs : sk a = some (eO ci fs)) (k : Nat) (hk : k < N) (hlink : Cond.fieldLink own index (T k).1 (T k).2.1 (T k).2.2.1 ∈ Ts) (hf : fs[k]? = some (some x))
    (K : J p l e R s m args below meth c D A nL cells slots Q n sk v (pc + 3) L (x :: st)) : J p l e R s m args below meth c D A nL cells slots Q n sk v pc L (.ref a :: st) := by
  intro H locs ls h1 h2 h3 h4 h5 h6
  exact va_get  X.1 X.2.1 X.2.2.2.2.1 hin X.2.2.2.1 X.2.2.2.2.2.1 (h4.one hs rfl) 0 rfl hc k hk (X.2.2.2.2.1 _ hlink) (fun _ h9 => h9) (by rw [flds_get, hf]; simp) d (K H locs ls h1 h2 h3 h4 h5 h6)
theorem j_getiN (X : Cx p s m args meth c D cc nL own Ts ret) {C : String} {T : u_T} {N ci index a : Nat} {fs : List (Option Value)} (d : decode cc pc = .ok (.getfield index, 3)) (hin : ∀ w ∈ u_ws C T N, w ∈ Ts) (hc : vwCl[ci]? = some (C, T, N)) (hs : sk a = some (eO ci fs)) (k : Nat) (hk : k < N) (hlink : (index, (T k).1, (T k).2.1, (T k).2.2.1) ∈ nestF) (how : own = RX4) (hf : fs[k]? = some none)
    (K : J p l e R s m args below meth c D A nL cells slots Q n sk v (pc + 3) L (.int (I (v a k)) :: st)) : J p l e R s m args below meth c D A nL cells slots Q n sk v pc L (.ref a :: st) := by
  intro H locs ls h1 h2 h3 h4 h5 h6
  exact va_getN (host := RX4) X.1 X.2.1 X.2.2.2.2.1 hin X.2.2.2.1 X.2.2.2.2.2.1 (h4.one hs rfl) 0 rfl hc k hk (by rw [how]; exact va_Nw.use rfl (X.2.2.2.2.2.2.1.1 _ hlink)) (fun _ h9 => h9) (by rw [flds_get, hf]; simp) d (K H locs ls h1 h2 h3 h4 h5 h6)
theorem j_getrN (X : Cx p s m args meth c D cc nL own Ts ret) {C : String} {T : u_T} {N ci index a : Nat} {fs : List (Option Value)} {x : Value} (d : decode cc pc = .ok (.getfield index, 3)) (hin : ∀ w ∈ u_ws C T N, w ∈ Ts) (hc : vwCl[ci]? = some (C, T, N)) (hs : sk a = some (eO ci fs)) (k : Nat) (hk : k < N) (hlink : (index, (T k).1, (T k).2.1, (T k).2.2.1) ∈ nestF) (how : own = RX4) (hf : fs[k]? = some (some x))
    (K : J p l e R s m args below meth c D A nL cells slots Q n sk v (pc + 3) L (x :: st)) : J p l e R s m args below meth c D A nL cells slots Q n sk v pc L (.ref a :: st) := by
  intro H locs ls h1 h2 h3 h4 h5 h6
  exact va_getN (host := RX4) X.1 X.2.1 X.2.2.2.2.1 hin X.2.2.2.1 X.2.2.2.2.2.1 (h4.one hs rfl) 0 rfl hc k hk (by rw [how]; exact va_Nw.use rfl (X.2.2.2.2.2.2.1.1 _ hlink)) (fun _ h9 => h9) (by rw [flds_get, hf]; simp) d (K H locs ls h1 h2 h3 h4 h5 h6)
theorem j_put (X : Cx p s m args meth c D cc nL own Ts ret) {C : String} {T : u_T} {N ci index a : Nat} {fs : List (Option Value)} {z : Int} (d : decode cc pc = .ok (.putfield index, 3)) (hin : ∀ w ∈ u_ws C T N, w ∈ Ts) (hc : vwCl[ci]? = some (C, T, N)) (hs : sk a = some (eO ci fs)) (k : Nat) (hk : k < N) (ty0 : Nat → FieldType) (hty : ∀ k, k < N → parseFieldDescriptor (T k).2.2.1 = some (ty0 k)) (hnm : ∀ a, a < N → ∀ b, b < N → a ≠ b → (T a).2.1 ≠ (T b).2.1) (hfin : (T k).2.2.2 = false) (hint : ty0 k = .int) (hf : fs[k]? = some none) (hlink : Cond.fieldLink own index (T k).1 (T k).2.1 (T k).2.2.1 ∈ Ts)
    (K : J p l e R s m args below meth c D A nL cells slots Q n sk (up2 v a k z) (pc + 3) L st) : J p l e R s m args below meth c D A nL cells slots Q n sk v pc L (.int (I z) :: .ref a :: st) := by
  intro H locs ls h1 h2 h3 h4 h5 h6
  have hap := va_apart (own := own) X.2.2.2.2.1 hin ty0 hty hnm X.2.2.2.2.2.1 hc
  obtain ⟨r, g1, cell, q1, q2, q3, q4⟩ := h4 a _ hs
  have hr : r = (C, T, N) := Option.some.inj (g1.symm.trans hc)
  subst hr
  obtain ⟨hS, hfc, kC, hkC, hkind⟩ := X.2.2.2.2.2.1.1 ci _ hc
  obtain ⟨cf, kf, fi, f, hi, hsl⟩ := hS k hk
  have hlay := X.2.2.2.2.1 _ (hin _ (u_in_lay hk))
  unfold u_lay at hlay
  rw [if_neg (by rw [hfin]; decide)] at hlay
  have hst := (u_facts hfc hkC (u_lays X.2.2.2.2.1 hin hk) hi).1
  have hk6 := u_store hfc hkC hkind hlay hi (hty k hk) (v := .int (I z)) (by rw [hint]; rfl) (by rw [hint]; rfl)
  refine W.putK X.1 X.2.1 (f := f) ⟨X.2.2.2.1, X.2.2.2.2.1 _ hlink, ⟨_, _, _, hi⟩, hst⟩ (by rw [q2]; exact hk6) q1 q3 (by rw [hsl]; exact k2_hasslot (q4 k hk)) rfl rfl d fun H' e1 e2 e3 => ?_
  rw [hsl] at e1 ⊢
  refine K H' _ ls (e2.trans h1) h2 h3 (h4.setv hs (r := upE (v a) k z) ⟨_, hc, ?_⟩ e3) (h5.put e2 e3 (h2 a (by rw [hs]; exact fun q => by cases q))) h6
  show t_OB a _ _ _ _ (vp_V (flds (upE (v a) k z) 0 fs))
  rw [flds_put _ _ _ _ hf]
  have hl : k < (flds (v a) 0 fs).length := by rw [flds_len]; exact (List.getElem?_eq_some_iff.mp hf).1
  exact t_OB.to (V := updV (vp_V (flds (v a) 0 fs)) k (.int (I z))) ⟨_, e1, q2, q3, t_set q4 hap hk (.int (I z))⟩ (fun j _ => vp_updV_set hl _ j)
theorem j_putN (X : Cx p s m args meth c D cc nL own Ts ret) {C : String} {T : u_T} {N ci index a : Nat} {fs : List (Option Value)} {z : Int} (d : decode cc pc = .ok (.putfield index, 3)) (hin : ∀ w ∈ u_ws C T N, w ∈ Ts) (hc : vwCl[ci]? = some (C, T, N)) (hs : sk a = some (eO ci fs)) (k : Nat) (hk : k < N) (ty0 : Nat → FieldType) (hty : ∀ k, k < N → parseFieldDescriptor (T k).2.2.1 = some (ty0 k)) (hnm : ∀ a, a < N → ∀ b, b < N → a ≠ b → (T a).2.1 ≠ (T b).2.1) (hfin : (T k).2.2.2 = false) (hint : ty0 k = .int) (hf : fs[k]? = some none) (hlink : (index, (T k).1, (T k).2.1, (T k).2.2.1) ∈ nestF) (how : own = RX4)
    (K : J p l e R s m args below meth c D A nL cells slots Q n sk (up2 v a k z) (pc + 3) L st) : J p l e R s m args below meth c D A nL cells slots Q n sk v pc L (.int (I z) :: .ref a :: st) := by
  intro H locs ls h1 h2 h3 h4 h5 h6
  have hap := va_apart (own := own) X.2.2.2.2.1 hin ty0 hty hnm X.2.2.2.2.2.1 hc
  obtain ⟨r, g1, cell, q1, q2, q3, q4⟩ := h4 a _ hs
  have hr : r = (C, T, N) := Option.some.inj (g1.symm.trans hc)
  subst hr
  obtain ⟨hS, hfc, kC, hkC, hkind⟩ := X.2.2.2.2.2.1.1 ci _ hc
  obtain ⟨cf, kf, fi, f, hi, hsl⟩ := hS k hk
  have hlay := X.2.2.2.2.1 _ (hin _ (u_in_lay hk))
  unfold u_lay at hlay
  rw [if_neg (by rw [hfin]; decide)] at hlay
  have hst := (u_facts hfc hkC (u_lays X.2.2.2.2.1 hin hk) hi).1
  have hk6 := u_store hfc hkC hkind hlay hi (hty k hk) (v := .int (I z)) (by rw [hint]; rfl) (by rw [hint]; rfl)
  refine va_WputK (host := RX4) X.1 X.2.1 (f := f) X.2.2.2.1 (by rw [how]; exact va_Nw.use rfl (X.2.2.2.2.2.2.1.1 _ hlink)) hi hst (by rw [q2]; exact hk6) q1 q3 (by rw [hsl]; exact k2_hasslot (q4 k hk)) rfl rfl d fun H' e1 e2 e3 => ?_
  rw [hsl] at e1 ⊢
  refine K H' _ ls (e2.trans h1) h2 h3 (h4.setv hs (r := upE (v a) k z) ⟨_, hc, ?_⟩ e3) (h5.put e2 e3 (h2 a (by rw [hs]; exact fun q => by cases q))) h6
  show t_OB a _ _ _ _ (vp_V (flds (upE (v a) k z) 0 fs))
  rw [flds_put _ _ _ _ hf]
  have hl : k < (flds (v a) 0 fs).length := by rw [flds_len]; exact (List.getElem?_eq_some_iff.mp hf).1
  exact t_OB.to (V := updV (vp_V (flds (v a) 0 fs)) k (.int (I z))) ⟨_, e1, q2, q3, t_set q4 hap hk (.int (I z))⟩ (fun j _ => vp_updV_set hl _ j)
theorem j_iald (X : Cx p s m args meth c D cc nL own Ts ret) {a nn : Nat} {i : Int} (d : decode cc pc = .ok (.iaload, 1)) (hs : sk a = some (eA D 10 nn)) (hi : 0 ≤ i ∧ i < nn) (hnn : nn ≤ 2147483647)
    (K : J p l e R s m args below meth c D A nL cells slots Q n sk v (pc + 1) L (.int (I (v a i.toNat)) :: st)) : J p l e R s m args below meth c D A nL cells slots Q n sk v pc L (.int (I i) :: .ref a :: st) := by
  intro H locs ls h1 h2 h3 h4 h5 h6
  refine va_iald X.1 X.2.1 X.2.2.2.2.2.1 (h4.one hs rfl) 0 0 rfl rfl (I_in hi hnn) d ?_
  rw [I_clamp (by omega)]
  exact K H locs ls h1 h2 h3 h4 h5 h6
theorem j_cald (X : Cx p s m args meth c D cc nL own Ts ret) {a nn : Nat} {i : Int} (d : decode cc pc = .ok (.caload, 1)) (hs : sk a = some (eA D 11 nn)) (hi : 0 ≤ i ∧ i < nn) (hnn : nn ≤ 2147483647)
    (K : J p l e R s m args below meth c D A nL cells slots Q n sk v (pc + 1) L (.int (I (v a i.toNat)) :: st)) : J p l e R s m args below meth c D A nL cells slots Q n sk v pc L (.int (I i) :: .ref a :: st) := by
  intro H locs ls h1 h2 h3 h4 h5 h6
  refine va_cald X.1 X.2.1 X.2.2.2.2.2.1 (h4.one hs rfl) 0 1 rfl rfl (I_in hi hnn) d ?_
  rw [I_clamp (by omega)]
  exact K H locs ls h1 h2 h3 h4 h5 h6
theorem j_zald (X : Cx p s m args meth c D cc nL own Ts ret) {a nn : Nat} {i : Int} (d : decode cc pc = .ok (.baload, 1)) (hs : sk a = some (eA D 12 nn)) (hi : 0 ≤ i ∧ i < nn) (hnn : nn ≤ 2147483647)
    (K : J p l e R s m args below meth c D A nL cells slots Q n sk v (pc + 1) L (.int (I (v a i.toNat)) :: st)) : J p l e R s m args below meth c D A nL cells slots Q n sk v pc L (.int (I i) :: .ref a :: st) := by
  intro H locs ls h1 h2 h3 h4 h5 h6
  refine va_zald X.1 X.2.1 X.2.2.2.2.2.1 (h4.one hs rfl) 0 2 rfl rfl (I_in hi hnn) d ?_
  rw [I_clamp (by omega)]
  exact K H locs ls h1 h2 h3 h4 h5 h6
theorem j_aald (X : Cx p s m args meth c D cc nL own Ts ret) {a nn k b : Nat} {i : Int} {C : String} {t0 : Nat} {g : Nat → Option Nat} (d : decode cc pc = .ok (.aaload, 1)) (hs : sk a = some (eQ D k nn g)) (ht0 : (tysA D)[t0]? = some (D.1 k, .object C)) (hi : 0 ≤ i ∧ i < nn) (hnn : nn ≤ 2147483647) (hb : g i.toNat = some b)
    (K : J p l e R s m args below meth c D A nL cells slots Q n sk v (pc + 1) L (.ref b :: st)) : J p l e R s m args below meth c D A nL cells slots Q n sk v pc L (.int (I i) :: .ref a :: st) := by
  intro H locs ls h1 h2 h3 h4 h5 h6
  refine va_aldq X.1 X.2.1 X.2.2.2.2.2.1 (h4.one hs rfl) 0 t0 rfl ht0 (I_in hi hnn) d ?_
  rw [I_clamp (by omega), hb]
  exact K H locs ls h1 h2 h3 h4 h5 h6
theorem j_alen (X : Cx p s m args meth c D cc nL own Ts ret) {a nn k t0 : Nat} {ty : FieldType} (d : decode cc pc = .ok (.arraylength, 1)) (hs : sk a = some (eA D k nn)) (ht0 : (tysA D)[t0]? = some (D.1 k, ty))
    (K : J p l e R s m args below meth c D A nL cells slots Q n sk v (pc + 1) L (.int (I nn) :: st)) : J p l e R s m args below meth c D A nL cells slots Q n sk v pc L (.ref a :: st) := by
  intro H locs ls h1 h2 h3 h4 h5 h6
  exact va_alen X.1 X.2.1 X.2.2.2.2.2.1 (h4.one hs rfl) 0 t0 rfl ht0 (I_nat nn).symm d (K H locs ls h1 h2 h3 h4 h5 h6)
theorem j_alenQ (X : Cx p s m args meth c D cc nL own Ts ret) {a nn k t0 : Nat} {ty : FieldType} {g : Nat → Option Nat} (d : decode cc pc = .ok (.arraylength, 1)) (hs : sk a = some (eQ D k nn g)) (ht0 : (tysA D)[t0]? = some (D.1 k, ty))
    (K : J p l e R s m args below meth c D A nL cells slots Q n sk v (pc + 1) L (.int (I nn) :: st)) : J p l e R s m args below meth c D A nL cells slots Q n sk v pc L (.ref a :: st) := by
  intro H locs ls h1 h2 h3 h4 h5 h6
  exact va_alen X.1 X.2.1 X.2.2.2.2.2.1 (h4.one hs rfl) 0 t0 rfl ht0 (I_nat nn).symm d (K H locs ls h1 h2 h3 h4 h5 h6)
theorem j_iast (X : Cx p s m args meth c D cc nL own Ts ret) {a nn : Nat} {i z : Int} (d : decode cc pc = .ok (.iastore, 1)) (hs : sk a = some (eA D 10 nn)) (hi : 0 ≤ i ∧ i < nn) (hnn : nn ≤ 2147483647)
    (K : J p l e R s m args below meth c D A nL cells slots Q n sk (up2 v a i.toNat z) (pc + 1) L st) : J p l e R s m args below meth c D A nL cells slots Q n sk v pc L (.int (I z) :: .int (I i) :: .ref a :: st) := by
  intro H locs ls h1 h2 h3 h4 h5 h6
  have hn := I_in hi hnn
  have hcl : (I i).toNatClampNeg = i.toNat := I_clamp (by omega)
  refine W.iast X.1 X.2.1 (h4 a _ hs) ((X.2.2.2.2.2.1.2 0 _ rfl).1 nn (fun j => .int (I (v a j)))) (fun q => by cases q) (by show ¬ (I i < 0 ∨ (arrV _ _ _).slots.size ≤ _); rw [arrV_size]; exact hn) rfl rfl d fun H1 e1 e2 e3 => ?_
  refine K H1 _ ls (e2.trans h1) h2 h3 (h4.setv hs (r := upE (v a) i.toNat z) ?_ e3) (h5.put e2 e3 (h2 a (by rw [hs]; exact fun q => by cases q))) h6
  show H1[a]? = some (vp_cell _ (nn, .inl (fun j => I (upE (v a) i.toNat z j))))
  rw [e1, vp_cell_i]
  show some (Cell.setSlot (vp_cell (D.1 10) (nn, .inl (fun j => I (v a j)))) _ _) = _
  rw [vp_cell_i, arrV_store, hcl]
  show some (arrV (D.1 10) nn _) = some (arrV (D.1 10) nn (fun j => .int (I (upE (v a) i.toNat z j))))
  refine congrArg some (congrArg (arrV _ nn) ?_)
  funext q
  by_cases hq : q = i.toNat
  · subst hq
    simp [updV, upE]
  · simp [updV, upE, hq]
theorem j_cast (X : Cx p s m args meth c D cc nL own Ts ret) {a nn : Nat} {i z : Int} (d : decode cc pc = .ok (.castore, 1)) (hs : sk a = some (eA D 11 nn)) (hi : 0 ≤ i ∧ i < nn) (hnn : nn ≤ 2147483647) (hz : 0 ≤ z ∧ z < 65536)
    (K : J p l e R s m args below meth c D A nL cells slots Q n sk (up2 v a i.toNat z) (pc + 1) L st) : J p l e R s m args below meth c D A nL cells slots Q n sk v pc L (.int (I z) :: .int (I i) :: .ref a :: st) := by
  intro H locs ls h1 h2 h3 h4 h5 h6
  have hn := I_in hi hnn
  have hcl : (I i).toNatClampNeg = i.toNat := I_clamp (by omega)
  refine W.cast X.1 X.2.1 (h4 a _ hs) ((X.2.2.2.2.2.1.2 1 _ rfl).1 nn (fun j => .int (I (v a j)))) (fun q => by cases q) (by show ¬ (I i < 0 ∨ (arrV _ _ _).slots.size ≤ _); rw [arrV_size]; exact hn) rfl rfl d fun H1 e1 e2 e3 => ?_
  refine K H1 _ ls (e2.trans h1) h2 h3 (h4.setv hs (r := upE (v a) i.toNat z) ?_ e3) (h5.put e2 e3 (h2 a (by rw [hs]; exact fun q => by cases q))) h6
  show H1[a]? = some (vp_cell _ (nn, .inl (fun j => I (upE (v a) i.toNat z j))))
  rw [e1, vp_cell_i]
  show some (Cell.setSlot (vp_cell (D.1 11) (nn, .inl (fun j => I (v a j)))) _ _) = _
  rw [vp_cell_i, arrV_store, hcl]
  show some (arrV (D.1 11) nn _) = some (arrV (D.1 11) nn (fun j => .int (I (upE (v a) i.toNat z j))))
  refine congrArg some (congrArg (arrV _ nn) ?_)
  funext q
  by_cases hq : q = i.toNat
  · subst hq
    simp only [updV, upE, if_true]
    rw [j_narc hz]
  · simp [updV, upE, hq]
theorem j_zast (X : Cx p s m args meth c D cc nL own Ts ret) {a nn : Nat} {i z : Int} (d : decode cc pc = .ok (.bastore, 1)) (hs : sk a = some (eA D 12 nn)) (hi : 0 ≤ i ∧ i < nn) (hnn : nn ≤ 2147483647) (hz : z = 0 ∨ z = 1)
    (K : J p l e R s m args below meth c D A nL cells slots Q n sk (up2 v a i.toNat z) (pc + 1) L st) : J p l e R s m args below meth c D A nL cells slots Q n sk v pc L (.int (I z) :: .int (I i) :: .ref a :: st) := by
  intro H locs ls h1 h2 h3 h4 h5 h6
  have hn := I_in hi hnn
  have hcl : (I i).toNatClampNeg = i.toNat := I_clamp (by omega)
  refine W.zast X.1 X.2.1 (h4 a _ hs) ((X.2.2.2.2.2.1.2 2 _ rfl).1 nn (fun j => .int (I (v a j)))) (fun q => by cases q) (by show ¬ (I i < 0 ∨ (arrV _ _ _).slots.size ≤ _); rw [arrV_size]; exact hn) rfl rfl d fun H1 e1 e2 e3 => ?_
  refine K H1 _ ls (e2.trans h1) h2 h3 (h4.setv hs (r := upE (v a) i.toNat z) ?_ e3) (h5.put e2 e3 (h2 a (by rw [hs]; exact fun q => by cases q))) h6
  show H1[a]? = some (vp_cell _ (nn, .inl (fun j => I (upE (v a) i.toNat z j))))
  rw [e1, vp_cell_i]
  show some (Cell.setSlot (vp_cell (D.1 12) (nn, .inl (fun j => I (v a j)))) _ _) = _
  rw [vp_cell_i, arrV_store, hcl]
  show some (arrV (D.1 12) nn _) = some (arrV (D.1 12) nn (fun j => .int (I (upE (v a) i.toNat z j))))
  refine congrArg some (congrArg (arrV _ nn) ?_)
  funext q
  by_cases hq : q = i.toNat
  · subst hq
    simp only [updV, upE, if_true]
    rw [j_narz hz]
  · simp [updV, upE, hq]
end JA
