/-! ===== more rows of the layer J ===== -/
def cutL : Nat → List (Option Value) → List (Option Value)
  | _, [] => []
  | 0, _ :: t => none :: cutL 0 t
  | k + 1, x :: t => x :: cutL k t
theorem cutL_at : ∀ (L : List (Option Value)) (k : Nat) {i : Nat} {x : Value}, (cutL k L)[i]? = some (some x) → L[i]? = some (some x)
  | [], _, i, x, h => by simp [cutL] at h
  | y :: t, 0, 0, x, h => by simp [cutL] at h
  | y :: t, 0, i + 1, x, h => by
    simp only [cutL, List.getElem?_cons_succ] at h ⊢
    exact cutL_at t 0 h
  | y :: t, k + 1, 0, x, h => h
  | y :: t, k + 1, i + 1, x, h => by
    simp only [cutL, List.getElem?_cons_succ] at h ⊢
    exact cutL_at t k h
section JM
variable {p : Program} {l : Launch} {e : Env} {R : Room} {s : State} {m : MethodId} {args : Array Value} {below : List Frame} {meth : Method} {c : Code} {D : va_G} {A : Nat → Prop} {nL cells slots n pc : Nat} {Q : State → Prop} {sk : Sk} {v : Mem} {L : List (Option Value)} {st : List Value} {cc : ByteArray} {own : String} {Ts : List Cond} {ret : Option FieldType}
theorem j_ialN (X : Cx p s m args meth c D cc nL own Ts ret) {a nn : Nat} {i : Int} (d : decode cc pc = .ok (.iaload, 1)) (hs : sk a = some (eA D 10 nn)) (k : Nat) (hk : i = (k : Int)) (hi : k < nn) (hnn : nn ≤ 2147483647)
    (K : J p l e R s m args below meth c D A nL cells slots Q n sk v (pc + 1) L (.int (I (v a k)) :: st)) : J p l e R s m args below meth c D A nL cells slots Q n sk v pc L (.int (I i) :: .ref a :: st) := by
  subst hk
  refine j_iald X d hs (by omega) hnn ?_
  rw [Int.toNat_natCast]
  exact K
theorem j_iasN (X : Cx p s m args meth c D cc nL own Ts ret) {a nn : Nat} {i z : Int} (d : decode cc pc = .ok (.iastore, 1)) (hs : sk a = some (eA D 10 nn)) (k : Nat) (hk : i = (k : Int)) (hi : k < nn) (hnn : nn ≤ 2147483647)
    (K : ∀ w : Mem, w a k = z → (∀ j, j ≠ k → w a j = v a j) → (∀ b, b ≠ a → w b = v b) → J p l e R s m args below meth c D A nL cells slots Q n sk w (pc + 1) L st) : J p l e R s m args below meth c D A nL cells slots Q n sk v pc L (.int (I z) :: .int (I i) :: .ref a :: st) := by
  subst hk
  refine j_iast X d hs (by omega) hnn ?_
  rw [Int.toNat_natCast]
  exact K _ (by rw [up2_s, upE_s]) (fun j hj => by rw [up2_s, upE_n _ _ hj]) (fun b hb => up2_n _ _ _ hb)
theorem j_ldc (X : Cx p s m args meth c D cc nL own Ts ret) {index : Nat} {x : Int32} (d : decode cc pc = .ok (.ldc index, 2)) (hl : Cond.constant own index x ∈ Ts) (K : J p l e R s m args below meth c D A nL cells slots Q n sk v (pc + 2) L (.int x :: st)) : J p l e R s m args below meth c D A nL cells slots Q n sk v pc L st := by
  intro H locs ls h1 h2 h3 h4 h5 h6
  exact lv_ldc X.1 X.2.1 X.2.2.2.1 (X.2.2.2.2.1 _ hl) d (K H locs ls h1 h2 h3 h4 h5 h6)
theorem j_pop (X : Cx p s m args meth c D cc nL own Ts ret) {x : Value} (d : decode cc pc = .ok (.pop, 1)) (hx : x.category = 1) (K : J p l e R s m args below meth c D A nL cells slots Q n sk v (pc + 1) L st) : J p l e R s m args below meth c D A nL cells slots Q n sk v pc L (x :: st) := by
  intro H locs ls h1 h2 h3 h4 h5 h6
  exact lv_pop X.1 X.2.1 d hx (K H locs ls h1 h2 h3 h4 h5 h6)
theorem jr_ishr (X : Cx p s m args meth c D cc nL own Ts ret) {x y : Int32} (d : decode cc pc = .ok (.ishr, 1))
    (K : J p l e R s m args below meth c D A nL cells slots Q n sk v (pc + 1) L (.int (x >>> (y &&& 31)) :: st)) : J p l e R s m args below meth c D A nL cells slots Q n sk v pc L (.int y :: .int x :: st) := by
  intro H locs ls h1 h2 h3 h4 h5 h6
  exact lv_ishr X.1 X.2.1 d (K H locs ls h1 h2 h3 h4 h5 h6)
theorem jr_imul (X : Cx p s m args meth c D cc nL own Ts ret) {x y : Int32} (d : decode cc pc = .ok (.imul, 1))
    (K : J p l e R s m args below meth c D A nL cells slots Q n sk v (pc + 1) L (.int (x * y) :: st)) : J p l e R s m args below meth c D A nL cells slots Q n sk v pc L (.int y :: .int x :: st) := by
  intro H locs ls h1 h2 h3 h4 h5 h6
  exact lv_imul X.1 X.2.1 d (K H locs ls h1 h2 h3 h4 h5 h6)
/-- where several ways come together: the way behind first, then those before -/
theorem j_join {σ : Type} (P : σ → Prop) (F : σ → Mem × List (Option Value) × List Value) (pc2 : Nat) (K : ∀ y, P y → J p l e R s m args below meth c D A nL cells slots Q n sk (F y).1 pc2 (F y).2.1 (F y).2.2) (h : (∀ y, P y → J p l e R s m args below meth c D A nL cells slots Q n sk (F y).1 pc2 (F y).2.1 (F y).2.2) → J p l e R s m args below meth c D A nL cells slots Q n sk v pc L st) : J p l e R s m args below meth c D A nL cells slots Q n sk v pc L st := h K
/-- locals behind a place may be forgotten -/
theorem j_cut (k : Nat) (h : J p l e R s m args below meth c D A nL cells slots Q n sk v pc (cutL k L) st) : J p l e R s m args below meth c D A nL cells slots Q n sk v pc L st := by
  intro H locs ls h1 h2 h3 h4 h5 h6
  exact h H locs ls h1 h2 h3 h4 h5 ⟨h6.1, h6.2.1, fun i x hi => h6.2.2 i x (cutL_at L k hi)⟩
theorem j_topi {x y : Int} (h : x = y) (K : J p l e R s m args below meth c D A nL cells slots Q n sk v pc L (.int (I y) :: st)) : J p l e R s m args below meth c D A nL cells slots Q n sk v pc L (.int (I x) :: st) := by
  subst h; exact K
theorem j_topx {x : Int32} {y : Int} (h : x = I y) (K : J p l e R s m args below meth c D A nL cells slots Q n sk v pc L (.int (I y) :: st)) : J p l e R s m args below meth c D A nL cells slots Q n sk v pc L (.int x :: st) := by
  subst h; exact K
theorem j_mem {w : Mem} (h : v = w) (K : J p l e R s m args below meth c D A nL cells slots Q n sk w pc L st) : J p l e R s m args below meth c D A nL cells slots Q n sk v pc L st := by
  subst h; exact K
theorem I_ti (x : Int32) : I x.toInt = x := Int32.ofInt_toInt x
theorem ti_b (x : Int32) : -2147483648 ≤ x.toInt ∧ x.toInt ≤ 2147483647 := by
  have h1 := Int32.le_toInt x
  have h2 := Int32.toInt_lt x
  omega
theorem and_max (x : Int32) : ∃ z : Int, x &&& (2147483647 : Int32) = I z ∧ 0 ≤ z ∧ z ≤ 2147483647 := by
  refine ⟨((x.toBitVec.toNat % 2147483648 : Nat) : Int), ?_, by omega, by omega⟩
  rw [I_nat]
  apply Int32.toBitVec_inj.1
  show x.toBitVec &&& BitVec.ofNat 32 2147483647 = BitVec.ofNat 32 (x.toBitVec.toNat % 2147483648)
  apply BitVec.eq_of_toNat_eq
  rw [BitVec.toNat_and, BitVec.toNat_ofNat, BitVec.toNat_ofNat, show 2147483647 % 2 ^ 32 = 2 ^ 31 - 1 by decide, Nat.and_two_pow_sub_one_eq_mod, Nat.mod_eq_of_lt (show x.toBitVec.toNat % 2147483648 < 2 ^ 32 by omega)]
/-! ===== the script's reads; a call that reads the script ===== -/
theorem j_sald (X : Cx p s m args meth c D cc nL own Ts ret) {b L0 : Nat} {xs : Nat → Int32} {i : Int} (d : decode cc pc = .ok (.iaload, 1)) (hX : va_X b L0 xs s s.heap) (hbl : b < s.heap.size) (hbA : ¬ A b) (k : Nat) (hk : i = (k : Int)) (hk2 : k < L0) (hL : L0 ≤ 2147483647)
    (K : J p l e R s m args below meth c D A nL cells slots Q n sk v (pc + 1) L (.int (I (xs k).toInt) :: st)) : J p l e R s m args below meth c D A nL cells slots Q n sk v pc L (.int (I i) :: .ref b :: st) := by
  intro H locs ls h1 h2 h3 h4 h5 h6
  subst hk
  refine va_sld X.1 X.2.1 hX hbl hbA h5 (I_in (by omega) hL) d ?_
  have hc : (I (k : Int)).toNatClampNeg = k := by rw [I_clamp (by omega), Int.toNat_natCast]
  have hg := K H locs ls h1 h2 h3 h4 h5 h6
  rw [I_ti] at hg
  rw [hc]
  exact hg
theorem j_slen (X : Cx p s m args meth c D cc nL own Ts ret) {b L0 : Nat} {xs : Nat → Int32} (d : decode cc pc = .ok (.arraylength, 1)) (hX : va_X b L0 xs s s.heap) (hbl : b < s.heap.size) (hbA : ¬ A b)
    (K : J p l e R s m args below meth c D A nL cells slots Q n sk v (pc + 1) L (.int (I (L0 : Int)) :: st)) : J p l e R s m args below meth c D A nL cells slots Q n sk v pc L (.ref b :: st) := by
  intro H locs ls h1 h2 h3 h4 h5 h6
  refine va_slen X.1 X.2.1 hX hbl hbA h5 d ?_
  have hg := K H locs ls h1 h2 h3 h4 h5 h6
  rw [I_nat] at hg
  exact hg
end JM
def QcX (n : Nat) (post : Int → Prop) : Array Value → State → Outcome → State → Prop := fun _ st oc t => (∃ z : Int, oc = .returned (some (.int (I z))) ∧ post z ∧ t.heap.size = n) ∧ va_F (fun q => n ≤ q) st t
def CtX (l : Launch) (D : va_G) (y : MethodName) (ws : List Cond) (rm : Room) (av : List Value) (n b L0 : Nat) (xs : Nat → Int32) (post : Int → Prop) : Prop :=
  Met l y ws rm (va_Pc av (fun U => U.heap.size = n ∧ (va_X b L0 xs U U.heap ∧ b < n) ∧ va_K D vwCl (tysA D) U ∧ NX U)) (QcX n post) 0 0 (fun q => n ≤ q)
theorem ct_blindX {D : va_G} {n b L0 : Nat} {xs : Nat → Int32} {av : List Value} : FrameBlind (va_Pc av (fun U => U.heap.size = n ∧ (va_X b L0 xs U U.heap ∧ b < n) ∧ va_K D vwCl (tysA D) U ∧ NX U)) := fun a U g mk q => ⟨q.1, q.2.1, ⟨va_X.moved (u := U) (U := U.calling g mk a) (Vm.Alike.refl U.vm) q.2.2.1.1, q.2.2.1.2⟩, va_K.moved (u := U) (U := U.calling g mk a) (Vm.Alike.refl U.vm) q.2.2.2.1, NX.same (u := U) (U := U.calling g mk a) rfl q.2.2.2.2⟩
theorem ct_ofX {l : Launch} {D : va_G} {y : MethodName} {ws ws' : List Cond} {rm : Room} {av : List Value} {n b L0 : Nat} {xs : Nat → Int32} {post : Int → Prop} {cc : ByteArray} {maxL : Nat} {ret : Option FieldType} (hy : plainName y.cls = true) (hw : ws = Cond.code y cc maxL ret :: ws') (hlen : (lg_sl av).length ≤ maxL)
    (body : ∀ (p : Program) (e : Env) (s : State) (m : MethodId) (args : Array Value) (below : List Frame) (meth : Method) (c : Code), Cx p s m args meth c D cc maxL y.cls ws ret → va_X b L0 xs s s.heap → b < s.heap.size → s.heap.size = n → J p l e rm s m args below meth c D (fun q => n ≤ q) maxL 0 0 (MQ below (QcX n post) args s 0 0 (fun q => n ≤ q)) n (fun _ => none) (fun _ _ => 0) 0 (lo av maxL) []) : CtX l D y ws rm av n b L0 xs post := by
  refine Met.ofW (cc := cc) (maxL := maxL) (ret := ret) hy hw ?_
  intro p e s m args below meth c s₁ B hml hv
  obtain ⟨rfl, hsz, ⟨hXs, hbn⟩, hK, hN⟩ := hv
  have hts := atoms_spec (ws := ws) B.pre
  have X : Cx p s m av.toArray meth c D cc maxL y.cls ws ret := ⟨B.exec, B.bytes, hml, findClass_of_methodNamed B.named, hts, hK, hN, B.returns, B.notSynchronized⟩
  have hl := lv_entry av (n := maxL) hlen
  rw [lg_entry_eq]
  exact body p e s m _ below meth c X hXs (by omega) hsz s.heap [] _ hsz (fun a h => absurd rfl h) (fun q h => (by omega : n ≤ q)) (fun a f h => by cases h) va_S.rf (lo_lh hl)
section JX
variable {p : Program} {l : Launch} {e : Env} {R : Room} {s : State} {m : MethodId} {args : Array Value} {below : List Frame} {meth : Method} {c : Code} {D : va_G} {A : Nat → Prop} {nL cells slots n pc : Nat} {Q : State → Prop} {sk : Sk} {v : Mem} {L : List (Option Value)} {st : List Value} {cc : ByteArray} {own : String} {Ts : List Cond} {ret : Option FieldType}
theorem j_iretX (X : Cx p s m args meth c D cc nL own Ts (some .int)) {n0 : Nat} {post : Int → Prop} {z : Int} (d : decode cc pc = .ok (.ireturn, 1)) (hp : post z) : J p l e R s m args below meth c D (fun q => n0 ≤ q) nL 0 0 (MQ below (QcX n0 post) args s 0 0 (fun q => n0 ≤ q)) n0 sk v pc L [.int (I z)] := by
  intro H locs ls h1 h2 h3 h4 h5 h6
  have hlk := X.2.2.2.2.2.2.2.2
  exact W.iret X.1 X.2.1 X.2.2.2.2.2.2.2.1 (fun t ht hW => ⟨⟨z, rfl, hp, by rw [ht]; exact h1⟩, h5.F ht⟩) h5.2.2 d
theorem j_callX (X : Cx p s m args meth c D cc nL own Ts ret) {y : MethodName} {ws ws' : List Cond} {rm : Room} {bytes : ByteArray} {maxL index nn b L0 : Nat} {xs : Nat → Int32} {rt : Option FieldType} {As rest : List Value} {post : Int → Prop} (d : decode cc pc = .ok (.invokestatic index, 3)) (hM : CtX l D y ws rm As n b L0 xs post) (hXs : va_X b L0 xs s s.heap) (hbl : b < s.heap.size) (hbA : ¬ A b) (hG : GoodIn Ts (va_wsS own index y ws)) (hw : ws = Cond.code y bytes maxL rt :: ws') (hrm : rm.cells = 0 ∧ rm.slots = 0) (hd : y.cls ≠ "java/lang/invoke/MethodHandle" ∧ y.cls ≠ "java/lang/invoke/VarHandle" ∧ (parseMethodDescriptor y.desc).map (fun d => d.parameters.length) = some nn) (hR : rm.frames + 1 ≤ R.frames ∧ 8 + (maxL + 11) + rm.locals ≤ R.locals) (hn : As.length = nn) (hst : st = As.reverse ++ rest) (hW : (rest.map fun v => v.category).sum ≤ 8) (hf : cells + 0 ≤ R.cells ∧ slots + 0 ≤ R.slots)
    (K : ∀ z : Int, post z → J p l e R s m args below meth c D A nL cells slots Q n sk v (pc + 3) L (.int (I z) :: rest)) : J p l e R s m args below meth c D A nL cells slots Q n sk v pc L st := by
  subst hst
  intro H locs ls h1 h2 h3 h4 h5 h6
  intro T hT XS
  have hXH : va_X b L0 xs s H := hXs.kept (h5.2.1 b hbl hbA)
  have hbn : b < n := by rw [← h1]; exact Nat.lt_of_lt_of_le hbl h5.1
  have hpre : ∀ U : State, U.heap = H → s.WarmedH U.vm → va_Pc As (fun U => U.heap.size = n ∧ (va_X b L0 xs U U.heap ∧ b < n) ∧ va_K D vwCl (tysA D) U ∧ NX U) As.toArray U := fun U hU hW => ⟨rfl, by rw [hU]; exact h1, ⟨by rw [hU]; exact va_X.moved hW.alike hXH, hbn⟩, va_K.moved hW.alike X.2.2.2.2.2.1, NX.warm hW X.2.2.2.2.2.2.1⟩
  have hr := va_runS ⟨X.1, X.2.1, X.2.2.1, X.2.2.2.1, X.2.2.2.2.1⟩ hM (va_cwS nn X.2.2.2.2.1 hG hw hrm.1 hrm.2 hd hR) ⟨ct_blindX, hpre⟩ rfl hn h6.1 rfl (lv_room hW) d hf T hT XS
  obtain ⟨r, st₀, t, T', LL, h0, X', hL, e1, e2, ⟨⟨z, hv, hp, hz⟩, hz2, hk⟩, hst⟩ := hr
  cases hv
  rw [h0] at hz2 hk
  have hA : ∀ q, n ≤ q → A q := fun q hq => h3 q (Nat.le_trans h5.1 (by omega))
  have old : ∀ q, q < H.size → T'.heap[q]? = H[q]? := fun q hq => by rw [e1]; exact hk q hq (by omega)
  obtain ⟨t2, a1, b1⟩ := K z hp T'.heap (locs ++ LL) ls (by rw [e1]; exact hz) h2 h3 (fun a f ha => (h4 a f ha).kept (old a (h4 a f ha).lt))
    ⟨Nat.le_trans h5.1 (by rw [e1]; exact hz2), fun q g1 g2 => by rw [old q (Nat.lt_of_lt_of_le g1 h5.1)]; exact h5.2.1 q g1 g2, fun q hq => by
      rcases List.mem_append.mp hq with h | h
      · exact h5.2.2 q h
      · exact hA _ (hL q h)⟩ h6 T' rfl X'
  exact ⟨t2, hst t2 a1, b1⟩
end JX
