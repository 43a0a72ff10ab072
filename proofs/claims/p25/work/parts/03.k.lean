/-! ===== the layer J: contracts, calls, copies, makings ===== -/
def PostI (sk : Sk) (P : Int → Mem → Prop) : Option Value → Sk → Mem → Prop := fun r sk' v' => ∃ z : Int, r = some (.int (I z)) ∧ sk' = sk ∧ P z v'
def PostV (sk : Sk) (P : Mem → Prop) : Option Value → Sk → Mem → Prop := fun r sk' v' => r = none ∧ sk' = sk ∧ P v'
def PostA (sk : Sk) (P : Nat → Mem → Prop) : Option Value → Sk → Mem → Prop := fun r sk' v' => ∃ a : Nat, r = some (.ref a) ∧ sk' = sk ∧ P a v'
def PostN (P : Sk → Mem → Prop) : Option Value → Sk → Mem → Prop := fun r sk' v' => r = none ∧ P sk' v'
abbrev CtI (l : Launch) (D : va_G) (y : MethodName) (ws : List Cond) (rm : Room) (av : List Value) (n : Nat) (sk : Sk) (v : Mem) (P : Int → Mem → Prop) : Prop := Ct l D y ws rm 0 0 av n sk v (PostI sk P)
abbrev CtV (l : Launch) (D : va_G) (y : MethodName) (ws : List Cond) (rm : Room) (av : List Value) (n : Nat) (sk : Sk) (v : Mem) (P : Mem → Prop) : Prop := Ct l D y ws rm 0 0 av n sk v (PostV sk P)
abbrev CtA (l : Launch) (D : va_G) (y : MethodName) (ws : List Cond) (rm : Room) (av : List Value) (n : Nat) (sk : Sk) (v : Mem) (P : Nat → Mem → Prop) : Prop := Ct l D y ws rm 0 0 av n sk v (PostA sk P)
abbrev CtN (l : Launch) (D : va_G) (y : MethodName) (ws : List Cond) (rm : Room) (mc ms : Nat) (av : List Value) (n : Nat) (sk : Sk) (v : Mem) (P : Sk → Mem → Prop) : Prop := Ct l D y ws rm mc ms av n sk v (PostN P)
theorem ct_blind {D : va_G} {n : Nat} {sk : Sk} {v : Mem} {av : List Value} : FrameBlind (va_Pc av (fun U => U.heap.size = n ∧ Wd D sk v U.heap ∧ va_K D vwCl (tysA D) U ∧ NX U)) := fun a U g mk q => ⟨q.1, q.2.1, q.2.2.1, va_K.moved (u := U) (U := U.calling g mk a) (Vm.Alike.refl U.vm) q.2.2.2.1, NX.same (u := U) (U := U.calling g mk a) rfl q.2.2.2.2⟩
theorem ct_of {l : Launch} {D : va_G} {y : MethodName} {ws ws' : List Cond} {rm : Room} {mc ms : Nat} {av : List Value} {n : Nat} {sk : Sk} {v : Mem} {post : Option Value → Sk → Mem → Prop} {cc : ByteArray} {maxL : Nat} {ret : Option FieldType} (hy : plainName y.cls = true) (hw : ws = Cond.code y cc maxL ret :: ws') (hlen : (lg_sl av).length ≤ maxL)
    (body : ∀ (p : Program) (e : Env) (s : State) (m : MethodId) (args : Array Value) (below : List Frame) (meth : Method) (c : Code), Cx p s m args meth c D cc maxL y.cls ws ret → meth.name = y.name → s.heap.size = n → J p l e rm s m args below meth c D (AJ sk n) maxL 0 0 (MQ below (QcJ D n mc sk post) args s mc ms (AJ sk n)) n sk v 0 (lo av maxL) []) : Ct l D y ws rm mc ms av n sk v post := by
  refine Met.ofW (cc := cc) (maxL := maxL) (ret := ret) hy hw ?_
  intro p e s m args below meth c s₁ B hml hv
  obtain ⟨rfl, hsz, hW, hK, hN⟩ := hv
  have hts := atoms_spec (ws := ws) B.pre
  have X : Cx p s m av.toArray meth c D cc maxL y.cls ws ret := ⟨B.exec, B.bytes, hml, findClass_of_methodNamed B.named, hts, hK, hN, B.returns, B.notSynchronized⟩
  have hl := lv_entry av (n := maxL) hlen
  rw [lg_entry_eq]
  exact body p e s m _ below meth c X (name_of_methodNamed B.named B.method).1 hsz s.heap [] _ hsz (fun a h => Or.inl h) (fun q h => Or.inr (by omega)) hW va_S.rf (lo_lh hl)
section JB
variable {p : Program} {l : Launch} {e : Env} {R : Room} {s : State} {m : MethodId} {args : Array Value} {below : List Frame} {meth : Method} {c : Code} {D : va_G} {A : Nat → Prop} {nL cells slots n pc : Nat} {Q : State → Prop} {sk : Sk} {v : Mem} {L : List (Option Value)} {st : List Value} {cc : ByteArray} {own : String} {Ts : List Cond} {ret : Option FieldType}
theorem j_end {n0 mc : Nat} {sk0 : Sk} {post : Option Value → Sk → Mem → Prop} {r : Option Value} (hp : post r sk v) {H : Heap} {locs : List Loc} (h1 : H.size = n0 + mc) (h2 : ∀ a, sk a ≠ none → AJ sk0 n0 a) (h4 : Wd D sk v H) (h5 : va_S (AJ sk0 n0) s.heap H locs) (t : State) (ht : t.heap = H) : QcJ D n0 mc sk0 post args s (.returned r) t := ⟨⟨r, sk, v, rfl, hp, h2, by rw [ht]; exact h1, by rw [ht]; exact h4⟩, h5.F ht⟩
theorem j_iret (X : Cx p s m args meth c D cc nL own Ts (some .int)) {n0 mc ms : Nat} {sk0 : Sk} {post : Option Value → Sk → Mem → Prop} {z : Int} (d : decode cc pc = .ok (.ireturn, 1)) (hp : post (some (.int (I z))) sk v) : J p l e R s m args below meth c D (AJ sk0 n0) nL mc ms (MQ below (QcJ D n0 mc sk0 post) args s mc ms (AJ sk0 n0)) (n0 + mc) sk v pc L [.int (I z)] := by
  intro H locs ls h1 h2 h3 h4 h5 h6
  have hlk := X.2.2.2.2.2.2.2.2
  exact W.iret X.1 X.2.1 X.2.2.2.2.2.2.2.1 (fun t ht hW => j_end hp h1 h2 h4 h5 t ht) h5.2.2 d
theorem j_zret (X : Cx p s m args meth c D cc nL own Ts (some .boolean)) {n0 mc ms : Nat} {sk0 : Sk} {post : Option Value → Sk → Mem → Prop} {z : Int} (d : decode cc pc = .ok (.ireturn, 1)) (hz : z = 0 ∨ z = 1) (hp : post (some (.int (I z))) sk v) : J p l e R s m args below meth c D (AJ sk0 n0) nL mc ms (MQ below (QcJ D n0 mc sk0 post) args s mc ms (AJ sk0 n0)) (n0 + mc) sk v pc L [.int (I z)] := by
  intro H locs ls h1 h2 h3 h4 h5 h6
  have hlk := X.2.2.2.2.2.2.2.2
  exact W.zret X.1 X.2.1 X.2.2.2.2.2.2.2.1 (j_narz hz) (fun t ht hW => j_end hp h1 h2 h4 h5 t ht) h5.2.2 d
theorem j_vret (X : Cx p s m args meth c D cc nL own Ts none) {n0 mc ms : Nat} {sk0 : Sk} {post : Option Value → Sk → Mem → Prop} (d : decode cc pc = .ok (.return_, 1)) (hp : post none sk v) : J p l e R s m args below meth c D (AJ sk0 n0) nL mc ms (MQ below (QcJ D n0 mc sk0 post) args s mc ms (AJ sk0 n0)) (n0 + mc) sk v pc L [] := by
  intro H locs ls h1 h2 h3 h4 h5 h6
  have hlk := X.2.2.2.2.2.2.2.2
  exact W.vret X.1 X.2.1 X.2.2.2.2.2.2.2.1 (fun t ht hW => j_end hp h1 h2 h4 h5 t ht) h5.2.2 d
theorem j_aret {nm : String} (X : Cx p s m args meth c D cc nL own Ts (some (.object nm))) {n0 mc ms : Nat} {sk0 : Sk} {post : Option Value → Sk → Mem → Prop} {a : Nat} (d : decode cc pc = .ok (.areturn, 1)) (hp : post (some (.ref a)) sk v) : J p l e R s m args below meth c D (AJ sk0 n0) nL mc ms (MQ below (QcJ D n0 mc sk0 post) args s mc ms (AJ sk0 n0)) (n0 + mc) sk v pc L [.ref a] := by
  intro H locs ls h1 h2 h3 h4 h5 h6
  have hlk := X.2.2.2.2.2.2.2.2
  exact W.aret X.1 X.2.1 X.2.2.2.2.2.2.2.1 (Or.inl ⟨_, rfl⟩) (Or.inr ⟨_, rfl⟩) (fun t ht hW => j_end hp h1 h2 h4 h5 t ht) h5.2.2 d
theorem j_run {mc ms : Nat} {post : Option Value → Sk → Mem → Prop} {a0 : Array Value} {rest : List Value} (hr : ∀ (H : Heap) (locs : List Loc) (ls : Array Slot), H.size = n → Wd D sk v H → lh ls nL L → va_Run p l e R s m args below meth c H locs cells slots mc ms (F0 m pc ls st) rest (QcJ D n mc sk post a0) (AJ sk n))
    (K : ∀ (r : Option Value) (sk' : Sk) (v' : Mem), post r sk' v' → J p l e R s m args below meth c D A nL (cells + mc) (slots + ms) Q (n + mc) sk' v' (pc + 3) L (r.toList ++ rest)) : J p l e R s m args below meth c D A nL cells slots Q n sk v pc L st := by
  intro H locs ls h1 h2 h3 h4 h5 h6
  intro T hT XS
  obtain ⟨r, st₀, t, T', LL, h0, X', hL, e1, e2, ⟨⟨r', sk', v', hv, hp, hd, hz, hw⟩, hz2, hk⟩, hst⟩ := hr H locs ls h1 h4 h6 T hT XS
  cases hv
  rw [h0] at hz2 hk
  have hAJ : ∀ q, AJ sk n q → A q := fun q hq => by
    rcases hq with hq | hq
    · exact h2 q hq
    · exact h3 q (Nat.le_trans h5.1 (by omega))
  obtain ⟨t2, a1, b1⟩ := K r sk' v' hp T'.heap (locs ++ LL) ls (by rw [e1]; exact hz) (fun a ha => hAJ a (hd a ha)) h3 (by rw [e1]; exact hw)
    ⟨Nat.le_trans h5.1 (by rw [e1]; exact hz2), fun q g1 g2 => by rw [e1, hk q (Nat.lt_of_lt_of_le g1 h5.1) (fun z => g2 (hAJ q z))]; exact h5.2.1 q g1 g2, fun q hq => by
      rcases List.mem_append.mp hq with h | h
      · exact h5.2.2 q h
      · exact hAJ _ (hL q h)⟩ h6 T' rfl X'
  exact ⟨t2, hst t2 a1, b1⟩
theorem Wd.recv {H : Heap} {b ci : Nat} {fs : List (Option Value)} {q : vw_C} (hK : va_K D vwCl (tysA D) s) (h4 : Wd D sk v H) (hs : sk b = some (eO ci fs)) (hc : vwCl[ci]? = some q) : ∃ cell : Cell, H[b]? = some cell ∧ cell.vm.isStatics = false ∧ s.vm.findClass q.1 = some cell.cls := va_recv hK (h4.one hs rfl) (q0 := 0) (ci := ci) (fs := flds (v b) 0 fs) hc rfl
theorem Cx.pre {H : Heap} (X : Cx p s m args meth c D cc nL own Ts ret) (h1 : H.size = n) (h4 : Wd D sk v H) {As : List Value} : ∀ U : State, U.heap = H → s.WarmedH U.vm → va_Pc As (fun U => U.heap.size = n ∧ Wd D sk v U.heap ∧ va_K D vwCl (tysA D) U ∧ NX U) As.toArray U := fun U hU hW => ⟨rfl, by rw [hU]; exact h1, by rw [hU]; exact h4, va_K.moved hW.alike X.2.2.2.2.2.1, NX.warm hW X.2.2.2.2.2.2.1⟩
theorem j_callV (X : Cx p s m args meth c D cc nL own Ts ret) {y : MethodName} {ws ws' : List Cond} {rm : Room} {bytes : ByteArray} {maxL index nn b ci mc ms : Nat} {rt : Option FieldType} {C : String} {As rest : List Value} {fs : List (Option Value)} {q : vw_C} {post : Option Value → Sk → Mem → Prop} (d : decode cc pc = .ok (.invokevirtual index, 3)) (hM : Ct l D y ws rm mc ms (.ref b :: As) n sk v post) (hG : GoodIn Ts (wsV own index C y ws)) (hw : ws = Cond.code y bytes maxL rt :: ws') (hrm : rm.cells = mc ∧ rm.slots = ms) (hd : y.cls = C ∧ y.cls ≠ "java/lang/invoke/MethodHandle" ∧ y.cls ≠ "java/lang/invoke/VarHandle" ∧ (parseMethodDescriptor y.desc).map (fun d => d.parameters.length) = some nn) (hR : rm.frames + 1 ≤ R.frames ∧ 8 + (maxL + 11) + rm.locals ≤ R.locals) (hs : sk b = some (eO ci fs)) (hc : vwCl[ci]? = some q ∧ q.1 = C) (hn : As.length = nn) (hst : st = As.reverse ++ .ref b :: rest) (hW : (rest.map fun v => v.category).sum ≤ 8) (hf : cells + mc ≤ R.cells ∧ slots + ms ≤ R.slots)
    (K : ∀ (r : Option Value) (sk' : Sk) (v' : Mem), post r sk' v' → J p l e R s m args below meth c D A nL (cells + mc) (slots + ms) Q (n + mc) sk' v' (pc + 3) L (r.toList ++ rest)) : J p l e R s m args below meth c D A nL cells slots Q n sk v pc L st := by
  subst hst
  refine j_run (a0 := (Value.ref b :: As).toArray) (fun H locs ls h1 h4 h6 => ?_) K
  exact va_runV ⟨X.1, X.2.1, X.2.2.1, X.2.2.2.1, X.2.2.2.2.1⟩ hM (cwV nn X.2.2.2.2.1 hG hw hrm.1 hrm.2 hd hR) ⟨ct_blind, by rw [← hc.2]; exact h4.recv X.2.2.2.2.2.1 hs hc.1, X.pre h1 h4⟩ rfl hn h6.1 rfl (lv_room hW) d hf
theorem j_callS (X : Cx p s m args meth c D cc nL own Ts ret) {y : MethodName} {ws ws' : List Cond} {rm : Room} {bytes : ByteArray} {maxL index nn mc ms : Nat} {rt : Option FieldType} {As rest : List Value} {post : Option Value → Sk → Mem → Prop} (d : decode cc pc = .ok (.invokestatic index, 3)) (hM : Ct l D y ws rm mc ms As n sk v post) (hG : GoodIn Ts (va_wsS own index y ws)) (hw : ws = Cond.code y bytes maxL rt :: ws') (hrm : rm.cells = mc ∧ rm.slots = ms) (hd : y.cls ≠ "java/lang/invoke/MethodHandle" ∧ y.cls ≠ "java/lang/invoke/VarHandle" ∧ (parseMethodDescriptor y.desc).map (fun d => d.parameters.length) = some nn) (hR : rm.frames + 1 ≤ R.frames ∧ 8 + (maxL + 11) + rm.locals ≤ R.locals) (hn : As.length = nn) (hst : st = As.reverse ++ rest) (hW : (rest.map fun v => v.category).sum ≤ 8) (hf : cells + mc ≤ R.cells ∧ slots + ms ≤ R.slots)
    (K : ∀ (r : Option Value) (sk' : Sk) (v' : Mem), post r sk' v' → J p l e R s m args below meth c D A nL (cells + mc) (slots + ms) Q (n + mc) sk' v' (pc + 3) L (r.toList ++ rest)) : J p l e R s m args below meth c D A nL cells slots Q n sk v pc L st := by
  subst hst
  refine j_run (a0 := As.toArray) (fun H locs ls h1 h4 h6 => ?_) K
  exact va_runS ⟨X.1, X.2.1, X.2.2.1, X.2.2.2.1, X.2.2.2.2.1⟩ hM (va_cwS nn X.2.2.2.2.1 hG hw hrm.1 hrm.2 hd hR) ⟨ct_blind, X.pre h1 h4⟩ rfl hn h6.1 rfl (lv_room hW) d hf
theorem j_callI (X : Cx p s m args meth c D cc nL own Ts ret) {y : MethodName} {ws ws' : List Cond} {rm : Room} {bytes : ByteArray} {maxL index nn b mc ms : Nat} {As rest : List Value} {post : Option Value → Sk → Mem → Prop} (d : decode cc pc = .ok (.invokespecial index, 3)) (hM : Ct l D y ws rm mc ms (.ref b :: As) n sk v post) (hG : GoodIn Ts ws) (hw : ws = Cond.code y bytes maxL none :: ws') (hrm : rm.cells = mc ∧ rm.slots = ms) (hini : Cond.initialized y.cls ∈ Ts) (hin : Cond.instanceMethod y ∈ Ts) (hy1 : y.name = "<init>") (hd : y.cls ≠ "java/lang/invoke/MethodHandle" ∧ y.cls ≠ "java/lang/invoke/VarHandle" ∧ (parseMethodDescriptor y.desc).map (fun d => d.parameters.length) = some nn) (hR : rm.frames + 1 ≤ R.frames ∧ 8 + (maxL + 11) + rm.locals ≤ R.locals) (hn : As.length = nn) (hst : st = As.reverse ++ .ref b :: rest) (hW : (rest.map fun v => v.category).sum ≤ 8) (hf : cells + mc ≤ R.cells ∧ slots + ms ≤ R.slots) (hl : Cond.methodLink own index y ∈ Ts)
    (K : ∀ (r : Option Value) (sk' : Sk) (v' : Mem), post r sk' v' → J p l e R s m args below meth c D A nL (cells + mc) (slots + ms) Q (n + mc) sk' v' (pc + 3) L (r.toList ++ rest)) : J p l e R s m args below meth c D A nL cells slots Q n sk v pc L st := by
  subst hst
  refine j_run (a0 := (Value.ref b :: As).toArray) (fun H locs ls h1 h4 h6 => ?_) K
  exact va_runI ⟨X.1, X.2.1, X.2.2.1, X.2.2.2.1, X.2.2.2.2.1⟩ hM (cwI nn X.2.2.2.2.1 hG hw hrm.1 hrm.2 (X.2.2.2.2.1 _ hini) (X.2.2.2.2.1 _ hl) (X.2.2.2.2.1 _ hin) hy1 hd hR) ⟨ct_blind, X.pre h1 h4⟩ rfl hn h6.1 rfl (lv_room hW) d hf
theorem j_callIN (X : Cx p s m args meth c D cc nL own Ts ret) {y : MethodName} {ws ws' : List Cond} {rm : Room} {bytes : ByteArray} {maxL index nn b mc ms : Nat} {As rest : List Value} {post : Option Value → Sk → Mem → Prop} (d : decode cc pc = .ok (.invokespecial index, 3)) (hM : Ct l D y ws rm mc ms (.ref b :: As) n sk v post) (hG : GoodIn Ts ws) (hw : ws = Cond.code y bytes maxL none :: ws') (hrm : rm.cells = mc ∧ rm.slots = ms) (hini : Cond.initialized y.cls ∈ Ts) (hin : Cond.instanceMethod y ∈ Ts) (hy1 : y.name = "<init>") (hd : y.cls ≠ "java/lang/invoke/MethodHandle" ∧ y.cls ≠ "java/lang/invoke/VarHandle" ∧ (parseMethodDescriptor y.desc).map (fun d => d.parameters.length) = some nn) (hR : rm.frames + 1 ≤ R.frames ∧ 8 + (maxL + 11) + rm.locals ≤ R.locals) (hn : As.length = nn) (hst : st = As.reverse ++ .ref b :: rest) (hW : (rest.map fun v => v.category).sum ≤ 8) (hf : cells + mc ≤ R.cells ∧ slots + ms ≤ R.slots) (hl : (own, index, y) ∈ nestM)
    (K : ∀ (r : Option Value) (sk' : Sk) (v' : Mem), post r sk' v' → J p l e R s m args below meth c D A nL (cells + mc) (slots + ms) Q (n + mc) sk' v' (pc + 3) L (r.toList ++ rest)) : J p l e R s m args below meth c D A nL cells slots Q n sk v pc L st := by
  subst hst
  refine j_run (a0 := (Value.ref b :: As).toArray) (fun H locs ls h1 h4 h6 => ?_) K
  exact va_runIN ⟨X.1, X.2.1, X.2.2.1, X.2.2.2.1, X.2.2.2.2.1⟩ hM ⟨va_cnB (host := RX4) nn X.2.2.2.2.1 hG hw hrm.1 hrm.2 (X.2.2.2.2.2.2.1.2.1 _ hl) (X.2.2.2.2.1 _ hini) hd hR, hy1, X.2.2.2.2.1 _ hin⟩ ⟨ct_blind, X.pre h1 h4⟩ rfl hn h6.1 rfl (lv_room hW) d hf
theorem kI {post : Int → Mem → Prop} {rest : List Value} (K : ∀ (z : Int) (v' : Mem), post z v' → J p l e R s m args below meth c D A nL cells slots Q n sk v' pc L (.int (I z) :: rest)) : ∀ (r : Option Value) (sk' : Sk) (v' : Mem), PostI sk post r sk' v' → J p l e R s m args below meth c D A nL (cells + 0) (slots + 0) Q (n + 0) sk' v' pc L (r.toList ++ rest) := by
  rintro r sk' v' ⟨z, rfl, rfl, h⟩
  exact K z v' h
theorem kV {post : Mem → Prop} {rest : List Value} (K : ∀ (v' : Mem), post v' → J p l e R s m args below meth c D A nL cells slots Q n sk v' pc L rest) : ∀ (r : Option Value) (sk' : Sk) (v' : Mem), PostV sk post r sk' v' → J p l e R s m args below meth c D A nL (cells + 0) (slots + 0) Q (n + 0) sk' v' pc L (r.toList ++ rest) := by
  rintro r sk' v' ⟨rfl, rfl, h⟩
  exact K v' h
theorem kA {post : Nat → Mem → Prop} {rest : List Value} (K : ∀ (a : Nat) (v' : Mem), post a v' → J p l e R s m args below meth c D A nL cells slots Q n sk v' pc L (.ref a :: rest)) : ∀ (r : Option Value) (sk' : Sk) (v' : Mem), PostA sk post r sk' v' → J p l e R s m args below meth c D A nL (cells + 0) (slots + 0) Q (n + 0) sk' v' pc L (r.toList ++ rest) := by
  rintro r sk' v' ⟨z, rfl, rfl, h⟩
  exact K z v' h
theorem kN {mc ms : Nat} {post : Sk → Mem → Prop} {rest : List Value} (K : ∀ (sk' : Sk) (v' : Mem), post sk' v' → J p l e R s m args below meth c D A nL (cells + mc) (slots + ms) Q (n + mc) sk' v' pc L rest) : ∀ (r : Option Value) (sk' : Sk) (v' : Mem), PostN post r sk' v' → J p l e R s m args below meth c D A nL (cells + mc) (slots + ms) Q (n + mc) sk' v' pc L (r.toList ++ rest) := by
  rintro r sk' v' ⟨rfl, h⟩
  exact K sk' v' h
def cpy (f g : Nat → Int) (sp dp n : Nat) : Nat → Int := fun k => if dp ≤ k ∧ k < dp + n then f (sp + (k - dp)) else g k
theorem cpy_I (f g : Nat → Int) (sp dp n : Nat) : va_cpy (fun j => I (f j)) (fun j => I (g j)) sp dp n = fun j => I (cpy f g sp dp n j) := by
  funext j
  unfold va_cpy cpy
  split <;> rfl
theorem j_copy (X : Cx p s m args meth c D cc nL own Ts ret) {index a a0 n0 n1 : Nat} {sp dp k : Int} {rest : List Value} (d : decode cc pc = .ok (.invokestatic index, 3)) (hl : Cond.methodLink own index arraycopyName ∈ Ts ∧ Cond.native arraycopyName ∈ Ts ∧ Cond.static arraycopyName ∈ Ts ∧ Cond.initialized "java/lang/System" ∈ Ts) (hs0 : sk a0 = some (eA D 10 n0)) (hs : sk a = some (eA D 10 n1)) (hk : 0 ≤ k ∧ (0 ≤ sp ∧ sp + k ≤ n0) ∧ (0 ≤ dp ∧ dp + k ≤ n1)) (hnn : n0 ≤ 2147483647 ∧ n1 ≤ 2147483647) (hfr : 1 ≤ R.frames) (hlo : (rest.map fun v => v.category).sum + 18 ≤ R.locals)
    (K : J p l e R s m args below meth c D A nL cells slots Q n sk (upR v a (cpy (v a0) (v a) sp.toNat dp.toNat k.toNat)) (pc + 3) L rest) : J p l e R s m args below meth c D A nL cells slots Q n sk v pc L (.int (I k) :: .int (I dp) :: .ref a :: .int (I sp) :: .ref a0 :: rest) := by
  intro H locs ls h1 h2 h3 h4 h5 h6
  intro T hT XS
  have hb := X.2.1
  have hml := X.2.2.1
  have csp : (I sp).toNatClampNeg = sp.toNat := I_clamp (by omega)
  have cdp : (I dp).toNatClampNeg = dp.toNat := I_clamp (by omega)
  have ck : (I k).toNatClampNeg = k.toNat := I_clamp (by omega)
  have hc0 : H[a0]? = some (vp_cell (D.1 10) (n0, .inl (fun j => I (v a0 j)))) := h4 a0 _ hs0
  have hc1 : H[a]? = some (vp_cell (D.1 10) (n1, .inl (fun j => I (v a j)))) := h4 a _ hs
  obtain ⟨-, k0, hk0, cm0, hkk0⟩ := (X.2.2.2.2.2.1.2 0 _ rfl).1 n0 (fun j => .int (I (v a0 j)))
  obtain ⟨-, k1, hk1, cm1, hkk1⟩ := (X.2.2.2.2.2.1.2 0 _ rfl).1 n1 (fun j => .int (I (v a j)))
  obtain ⟨vm', X', step⟩ := XS.arraycopy X.1 X.2.2.2.1 (X.2.2.2.2.1 _ hl.1) (X.2.2.2.2.1 _ hl.2.1) (X.2.2.2.2.1 _ hl.2.2.1) (X.2.2.2.2.1 _ hl.2.2.2) (src := a0) (dst := a) (cs := vp_cell (D.1 10) (n0, .inl (fun j => I (v a0 j)))) (cd := vp_cell (D.1 10) (n1, .inl (fun j => I (v a j)))) (srcPos := I sp) (destPos := I dp) (n := I k) (by rw [hT]; exact hc0) (by rw [hT]; exact hc1)
    (fun _ h => by cases h) (fun _ h => by cases h) (fun h => by cases h) (fun h => by cases h) hk0 hk1 hkk0 hkk1 (by simp [refKind]) (I_nneg (by omega)) (I_nneg (by omega)) (I_nneg (by omega))
    (by rw [I_toInt (by omega), I_toInt (by omega)]; show ¬ _ > ((arrV (D.1 10) n0 (fun j => .int (I (v a0 j)))).slots.size : Int); rw [arrV_size]; omega)
    (by rw [I_toInt (by omega), I_toInt (by omega)]; show ¬ _ > ((arrV (D.1 10) n1 (fun j => .int (I (v a j)))).slots.size : Int); rw [arrV_size]; omega)
    (fun vm₁ _ i hi => by
      rw [ck] at hi
      rw [csp]
      have e : (vp_cell (D.1 10) (n0, .inl (fun j => I (v a0 j)))).slots.getD (sp.toNat + i) .null = .int (I (v a0 (sp.toNat + i))) := by
        show (arrV (D.1 10) n0 (fun j => .int (I (v a0 j)))).slots.getD _ _ = _
        rw [Array.getD_eq_getD_getElem?, arrV_read _ _ (by omega)]
        rfl
      refine ⟨?_, ?_⟩
      · rw [e]; rfl
      · rw [e]; exact trivial)
    (g := F0 m pc ls (.int (I k) :: .int (I dp) :: .ref a :: .int (I sp) :: .ref a0 :: rest)) rfl (by rw [hml]; exact h6.1) (rest := rest) rfl (by rw [hb]; exact d) hfr (by show 2 * 0 + _ + _ ≤ _; have : nativeFrameWords "java/lang/System" "arraycopy" 5 = 7 := (by decide +kernel); omega)
  have e1 : copied (vp_cell (D.1 10) (n0, .inl (fun j => I (v a0 j)))) (vp_cell (D.1 10) (n1, .inl (fun j => I (v a j)))) (I sp) (I dp) (I k) = vp_cell (D.1 10) (n1, .inl (fun j => I (cpy (v a0) (v a) sp.toNat dp.toNat k.toNat j))) := by
    refine (va_copied (fun z => .int z) (D.1 10) (D.1 10) (fun j => I (v a0 j)) (fun j => I (v a j)) (by rw [csp, ck]; omega)).trans ?_
    rw [csp, cdp, ck, cpy_I]
    rfl
  rw [e1] at X' step
  have hl2 : a < H.size := (Array.getElem?_eq_some_iff.mp hc1).1
  generalize hcl : vp_cell (D.1 10) (n1, .inl (fun j => I (cpy (v a0) (v a) sp.toNat dp.toNat k.toNat j))) = cel at X' step
  have hheap : ((T.setVm vm').setCell a cel).heap = H.setIfInBounds a cel := by rw [← hT]; rfl
  have oq : ∀ q : Nat, q ≠ a → (H.setIfInBounds a cel)[q]? = H[q]? := fun q hq => by simp [Array.getElem?_setIfInBounds, Ne.symm hq]
  have haA : A a := h2 a (by rw [hs]; exact fun q => by cases q)
  obtain ⟨t, a1, b1⟩ := K (H.setIfInBounds a cel) _ ls (by simp [h1]) h2 h3 (h4.setv hs (by show (H.setIfInBounds a cel)[a]? = some _; rw [← hcl]; simp [Array.getElem?_setIfInBounds, hl2, eA]) oq) ⟨by simp; exact h5.1, fun q g1 g2 => by
      rw [oq q (fun e => g2 (by rw [e]; exact haA))]
      exact h5.2.1 q g1 g2, fun q hq => by
      rcases List.mem_append.mp hq with h | h
      · exact h5.2.2 q h
      · obtain ⟨z, -, hz⟩ := List.mem_map.mp h
        rw [← hz]
        exact haA⟩ h6 _ hheap X'
  exact ⟨t, step t a1, b1⟩
theorem j_min (X : Cx p s m args meth c D cc nL own Ts ret) {index : Nat} {x y : Int} {rest : List Value} (d : decode cc pc = .ok (.invokestatic index, 3)) (hl : Cond.methodLink own index Lib.Math.min.name ∈ Ts ∧ Cond.static Lib.Math.min.name ∈ Ts ∧ Cond.initialized "java/lang/Math" ∈ Ts ∧ Cond.code Lib.Math.min.name Lib.Math.min.code 2 (some .int) ∈ Ts) (hB : (-2147483648 ≤ x ∧ x ≤ 2147483647) ∧ (-2147483648 ≤ y ∧ y ≤ 2147483647)) (hfr : 1 ≤ R.frames) (hlo : (rest.map fun v => v.category).sum + 13 ≤ R.locals) (hf : cells ≤ R.cells ∧ slots ≤ R.slots)
    (K : ∀ z : Int, (y < x → z = y) → (¬ y < x → z = x) → J p l e R s m args below meth c D A nL cells slots Q n sk v (pc + 3) L (.int (I z) :: rest)) : J p l e R s m args below meth c D A nL cells slots Q n sk v pc L (.int (I y) :: .int (I x) :: rest) := by
  intro H locs ls h1 h2 h3 h4 h5 h6
  refine va_mmin X.1 X.2.1 (X.2.2.1.trans h6.1.symm) X.2.2.2.1 (X.2.2.2.2.1 _ hl.1) (X.2.2.2.2.1 _ hl.2.1) (X.2.2.2.2.1 _ hl.2.2.1) (X.2.2.2.2.1 _ hl.2.2.2) hfr hlo hf.1 hf.2 d ?_
  by_cases h : y < x
  · rw [if_pos ((I_lt hB.2 hB.1).mpr h)]
    exact K y (fun _ => rfl) (fun q => absurd h q) H locs ls h1 h2 h3 h4 h5 h6
  · rw [if_neg (fun q => h ((I_lt hB.2 hB.1).mp q))]
    exact K x (fun q => absurd q h) (fun _ => rfl) H locs ls h1 h2 h3 h4 h5 h6
theorem j_obj (X : Cx p s m args meth c D cc nL own Ts ret) {index b : Nat} {rest : List Value} (d : decode cc pc = .ok (.invokespecial index, 3)) (hl : Cond.methodLink own index objectInit ∈ Ts ∧ Cond.instanceMethod objectInit ∈ Ts ∧ Cond.code objectInit ⟨#[0xb1]⟩ 1 none ∈ Ts) (hfr : 1 ≤ R.frames) (hlo : (rest.map fun v => v.category).sum + 12 ≤ R.locals)
    (K : J p l e R s m args below meth c D A nL cells slots Q n sk v (pc + 3) L rest) : J p l e R s m args below meth c D A nL cells slots Q n sk v pc L (.ref b :: rest) := by
  intro H locs ls h1 h2 h3 h4 h5 h6
  exact W.objInit X.1 X.2.1 X.2.2.2.1 (X.2.2.2.2.1 _ hl.1) (X.2.2.2.2.1 _ hl.2.1) (X.2.2.2.2.1 _ hl.2.2) rfl (h6.1.trans X.2.2.1.symm) rfl d hfr (by show 2 * 0 + _ + 12 ≤ _; omega) (K H locs ls h1 h2 h3 h4 h5 h6)
theorem Wd.push {H H1 : Heap} {g : (Nat → Int) → va_E} {r : Nat → Int} (h1 : H.size = n) (h : Wd D sk v H) (he : va_at D vwCl (n, g r) H1) (oq : ∀ q : Nat, q < n → H1[q]? = H[q]?) : Wd D (upS sk n g) (upR v n r) H1 := by
  intro b f' hb
  by_cases hq : b = n
  · subst hq
    rw [upS_s] at hb
    cases hb
    rw [upR_s]
    exact he
  · rw [upS_n _ _ hq] at hb
    rw [upR_n _ _ hq]
    have hl := (h b f' hb).lt
    exact (h b f' hb).kept (oq b (by rw [← h1]; exact hl))
theorem va_S.push {H0 H H1 : Heap} {locs : List Loc} (h1 : H.size = n) (h5 : va_S A H0 H locs) (z : H1.size = n + 1) (oq : ∀ q : Nat, q < n → H1[q]? = H[q]?) : va_S A H0 H1 locs := ⟨Nat.le_trans h5.1 (by omega), fun q g1 g2 => (oq q (by rw [← h1]; exact Nat.lt_of_lt_of_le g1 h5.1)).trans (h5.2.1 q g1 g2), h5.2.2⟩
theorem dom_push {g : (Nat → Int) → va_E} (h2 : ∀ a, sk a ≠ none → A a) (hn : A n) : ∀ a, upS sk n g a ≠ none → A a := fun a ha => by
  by_cases hq : a = n
  · rw [hq]; exact hn
  · rw [upS_n _ _ hq] at ha; exact h2 a ha
theorem j_new (X : Cx p s m args meth c D cc nL own Ts ret) {C : String} {T : u_T} {N ci index : Nat} {fs : List (Option Value)} (d : decode cc pc = .ok (.new index, 3)) (hin : ∀ w ∈ u_ws C T N, w ∈ Ts) (hc : vwCl[ci]? = some (C, T, N)) (ty0 : Nat → FieldType) (hty : ∀ k, k < N → parseFieldDescriptor (T k).2.2.1 = some (ty0 k)) (hl : Cond.classLink own index C ∈ Ts ∧ Cond.instantiable C N ∈ Ts ∧ Cond.initialized C ∈ Ts) (hfs : ∀ j, j < N → defaultValue (ty0 j) = vp_V (flds (fun _ => 0) 0 fs) j) (hf : cells + 1 ≤ R.cells ∧ slots + N ≤ R.slots)
    (K : J p l e R s m args below meth c D A nL (cells + 1) (slots + N) Q (n + 1) (upS sk n (eO ci fs)) (upR v n (fun _ => 0)) (pc + 3) L (.ref n :: st)) : J p l e R s m args below meth c D A nL cells slots Q n sk v pc L st := by
  intro H locs ls h1 h2 h3 h4 h5 h6
  have hKn := X.2.2.2.2.2.1.1 ci _ hc
  refine W.newcK X.1 X.2.1 X.2.2.2.1 (X.2.2.2.2.1 _ hl.1) (X.2.2.2.2.1 _ hl.2.1) (X.2.2.2.2.1 _ hl.2.2) rfl d hf.1 hf.2 hKn.2.1 h1 fun H1 kC hkC e1 z1 o1 => ?_
  exact K H1 locs ls z1 (dom_push h2 (h3 _ (h1 ▸ h5.1))) h3 (h4.push h1 ⟨_, hc, (u_born ty0 X.2.2.2.2.1 hin hKn hkC e1 hty).to hfs⟩ o1) (va_S.push h1 h5 z1 o1) h6
theorem j_newa (X : Cx p s m args meth c D cc nL own Ts ret) {atype : ArrayType} {k t0 N' : Nat} {z : Int} {ty : FieldType} (d : decode cc pc = .ok (.newarray atype, 2)) (hty : newarray.typeOf atype = ty) (harr : Cond.arrayClass ty ∈ Ts) (ht0 : (tysA D)[t0]? = some (D.1 k, ty)) (hra : ∀ C, ty ≠ .object C) (hdv : defaultValue ty = .int 0) (hz : z = (N' : Int)) (hN : N' * componentBytes ty ≤ 536870912 ∧ N' ≤ 2147483647) (hf : cells + 1 ≤ R.cells ∧ slots + N' ≤ R.slots)
    (K : J p l e R s m args below meth c D A nL (cells + 1) (slots + N') Q (n + 1) (upS sk n (eA D k N')) (upR v n (fun _ => 0)) (pc + 2) L (.ref n :: st)) : J p l e R s m args below meth c D A nL cells slots Q n sk v pc L (.int (I z) :: st) := by
  subst hty
  subst hz
  intro H locs ls h1 h2 h3 h4 h5 h6
  refine va_newaK X.1 X.2.1 (X.2.2.2.2.1 _ harr) rfl d rfl (I_nneg (by omega)) (N := N') (by rw [I_clamp (by omega)]; rfl) hN.1 hf.1 hf.2 h1 fun H1 cA e1 z1 o1 hAr hNm => ?_
  have hRA := (X.2.2.2.2.2.1.2 t0 _ ht0).2
  have hcA : cA = D.1 k := by
    have h9 : s.vm.findClass ("[" ++ (newarray.typeOf atype).toString) = some (D.1 k) := by
      cases atype <;> exact hRA
    exact Option.some.inj (hNm.symm.trans h9)
  subst hcA
  refine K H1 locs ls z1 (dom_push h2 (h3 _ (h1 ▸ h5.1))) h3 (h4.push h1 ?_ o1) (va_S.push h1 h5 z1 o1) h6
  show H1[n]? = some (vp_cell _ _)
  rw [e1, hdv]
  rfl
theorem j_newq (X : Cx p s m args meth c D cc nL own Ts ret) {C : String} {index k t0 N' : Nat} {z : Int} (d : decode cc pc = .ok (.anewarray index, 3)) (hl : Cond.classLink own index C ∈ Ts) (ho : va_AO C s) (ht0 : (tysA D)[t0]? = some (D.1 k, .object C)) (hz : z = (N' : Int)) (hN : N' * 4 ≤ 536870912) (hf : cells + 1 ≤ R.cells ∧ slots + N' ≤ R.slots)
    (K : J p l e R s m args below meth c D A nL (cells + 1) (slots + N') Q (n + 1) (upS sk n (eQ D k N' (fun _ => none))) (upR v n (fun _ => 0)) (pc + 3) L (.ref n :: st)) : J p l e R s m args below meth c D A nL cells slots Q n sk v pc L (.int (I z) :: st) := by
  subst hz
  intro H locs ls h1 h2 h3 h4 h5 h6
  have hcl : (I (N' : Int)).toNatClampNeg = N' := by rw [I_clamp (by omega)]; rfl
  refine W.anew X.1 X.2.1 X.2.2.2.1 (X.2.2.2.2.1 _ hl) (va_AO.use ho) rfl d rfl (I_nneg (by omega)) (by rw [hcl]; exact hN) hf.1 (by rw [hcl]; exact hf.2) fun cA kA comp f1 f2 f3 f4 => ?_
  obtain ⟨kA', comp', g1, g2, g3, g4⟩ := (X.2.2.2.2.2.1.2 t0 _ ht0).2
  have hcA : cA = D.1 k := Option.some.inj (f1.symm.trans g4)
  subst hcA
  rw [hcl]
  generalize hH1 : H.push ({ cls := D.1 k, slots := Array.replicate N' .null, vm := .none } : Cell) = H1
  have z1 : H1.size = n + 1 := by rw [← hH1, Array.size_push, h1]
  have e1 : H1[n]? = some (arrV (D.1 k) N' (fun _ => .null)) := by rw [← hH1, ← h1, Array.getElem?_push_size, ← arrV_new]
  have o1 : ∀ q : Nat, q < n → H1[q]? = H[q]? := fun q hq => by rw [← hH1, Array.getElem?_push, if_neg (by omega)]
  rw [h1]
  refine K H1 locs ls z1 (dom_push h2 (h3 _ (h1 ▸ h5.1))) h3 (h4.push h1 ?_ o1) (va_S.push h1 h5 z1 o1) h6
  show H1[n]? = some (vp_cell _ _)
  rw [e1]
  rfl
theorem j_aast (X : Cx p s m args meth c D cc nL own Ts ret) {a nn k b t0 ci : Nat} {i : Int} {g : Nat → Option Nat} {r : vw_C} {fs : List (Option Value)} (d : decode cc pc = .ok (.aastore, 1)) (hs : sk a = some (eQ D k nn g)) (ht0 : (tysA D)[t0]? = some (D.1 k, .object r.1)) (hv : sk b = some (eO ci fs)) (hc : vwCl[ci]? = some r) (hi : 0 ≤ i ∧ i < nn) (hnn : nn ≤ 2147483647)
    (K : J p l e R s m args below meth c D A nL cells slots Q n (upS sk a (eQ D k nn (va_up g i.toNat (some b)))) (upR v a (v a)) (pc + 1) L st) : J p l e R s m args below meth c D A nL cells slots Q n sk v pc L (.ref b :: .int (I i) :: .ref a :: st) := by
  intro H locs ls h1 h2 h3 h4 h5 h6
  have hcl : (I i).toNatClampNeg = i.toNat := I_clamp (by omega)
  obtain ⟨r', hr', cellV, g1, g2, g3, -⟩ := h4 b _ hv
  have hcls := (X.2.2.2.2.2.1.1 ci r hc).2
  obtain ⟨kA, comp, k1, k2, k3, -⟩ := (X.2.2.2.2.2.1.2 t0 _ ht0).2
  have hcomp : comp = D.1 ci := Option.some.inj (k3.symm.trans hcls.1)
  subst hcomp
  obtain ⟨kC, hkC, -⟩ := hcls.2
  have hin9 : ¬ I i < 0 ∧ (I i).toNatClampNeg < (arrV (D.1 k) nn (fun j => va_rf (g j))).slots.size := ⟨I_nneg (by omega), by rw [arrV_size, hcl]; omega⟩
  refine W.aast X.1 X.2.1 (h4 a _ hs) (fun q h => by cases h) (fun h => by cases h) k1 k2 rfl hkC hin9 g1 (fun q h => by rw [g3] at h; cases h) (by rw [g2]; exact hkC) (by rw [g2]; exact va_assign hcls) rfl rfl d fun H1 e1 e2 e3 => ?_
  refine K H1 _ ls (e2.trans h1) ?_ h3 (h4.set (g := eQ D k nn (va_up g i.toNat (some b))) hs ?_ e3) (h5.put e2 e3 (h2 a (by rw [hs]; exact fun q => by cases q))) h6
  · intro x hx
    by_cases hq : x = a
    · rw [hq]; exact h2 a (by rw [hs]; exact fun q => by cases q)
    · rw [upS_n _ _ hq] at hx; exact h2 x hx
  · show H1[a]? = some (vp_cell _ _)
    rw [e1]
    show some (Cell.setSlot (vp_cell (D.1 k) (nn, .inr (.inr (.inr (.inr g))))) _ _) = _
    rw [vp_cell_q, arrV_store, hcl]
    show some (arrV (D.1 k) nn _) = some (arrV (D.1 k) nn (fun j => va_rf (va_up g i.toNat (some b) j)))
    refine congrArg some (congrArg (arrV _ nn) ?_)
    funext q
    by_cases hq : q = i.toNat
    · subst hq
      simp [updV, va_up, va_rf]
    · simp [updV, va_up, hq]
theorem j_putF (X : Cx p s m args meth c D cc nL own Ts ret) {C : String} {T : u_T} {N ci index a : Nat} {fs : List (Option Value)} {b : Nat} (d : decode cc pc = .ok (.putfield index, 3)) (hin : ∀ w ∈ u_ws C T N, w ∈ Ts) (hc : vwCl[ci]? = some (C, T, N)) (hs : sk a = some (eO ci fs)) (k : Nat) (hk : k < N) (ty0 : Nat → FieldType) (hty : ∀ k, k < N → parseFieldDescriptor (T k).2.2.1 = some (ty0 k)) (hnm : ∀ a, a < N → ∀ b, b < N → a ≠ b → (T a).2.1 ≠ (T b).2.1) (hfin : (T k).2.2.2 = true) (hin2 : meth.name = "<init>") (hdecl : (T k).1 = own) (hnf : narrow (ty0 k) (.ref b) = .ref b ∧ fits (ty0 k) (.ref b) = true) (hl : k < fs.length) (hlink : Cond.fieldLink own index (T k).1 (T k).2.1 (T k).2.2.1 ∈ Ts)
    (K : J p l e R s m args below meth c D A nL cells slots Q n (upS sk a (eO ci (fs.set k (some (.ref b))))) (upR v a (v a)) (pc + 3) L st) : J p l e R s m args below meth c D A nL cells slots Q n sk v pc L (.ref b :: .ref a :: st) := by
  intro H locs ls h1 h2 h3 h4 h5 h6
  have hap := va_apart (own := own) X.2.2.2.2.1 hin ty0 hty hnm X.2.2.2.2.2.1 hc
  obtain ⟨r, g1, cell, q1, q2, q3, q4⟩ := h4 a _ hs
  have hr : r = (C, T, N) := Option.some.inj (g1.symm.trans hc)
  subst hr
  obtain ⟨hS, hfc, kC, hkC, hkind⟩ := X.2.2.2.2.2.1.1 ci _ hc
  obtain ⟨cf, kf, fi, f, hi, hsl⟩ := hS k hk
  have hlay := X.2.2.2.2.1 _ (hin _ (u_in_lay hk))
  unfold u_lay at hlay
  rw [if_pos hfin] at hlay
  have hst := (u_facts hfc hkC (u_lays X.2.2.2.2.1 hin hk) hi).1
  have hcf : m.cls = cf := by
    obtain ⟨_, _, c', _, _, _, -, -, hf', -, -, -, hown2, -⟩ := Cond.laysFinal_spec hlay
    have e1 : c' = cf := by have := hi.symm.trans hf'; simp at this; exact this.1.symm
    rw [hdecl] at hown2
    rw [← e1]; exact Option.some.inj (X.2.2.2.1.symm.trans hown2)
  have hk6 := u_fits hfc hkC hkind (Or.inr hlay) hi (hty k hk) hnf.1 hnf.2
  refine W.putFinK X.1 X.2.1 X.2.2.2.1 (X.2.2.2.2.1 _ hlink) hi hst hcf hin2 (by rw [q2]; exact hk6) q1 q3 (by rw [hsl]; exact k2_hasslot (q4 k hk)) rfl rfl d fun H' e1 e2 e3 => ?_
  rw [hsl] at e1 ⊢
  have haA : A a := h2 a (by rw [hs]; exact fun q => by cases q)
  refine K H' _ ls (e2.trans h1) (fun x hx => ?_) h3 (h4.set (g := eO ci (fs.set k (some (.ref b)))) (r := v a) hs ⟨_, hc, ?_⟩ e3) (h5.put e2 e3 haA) h6
  · by_cases hq : x = a
    · rw [hq]; exact haA
    · rw [upS_n _ _ hq] at hx; exact h2 x hx
  show t_OB a _ _ _ _ (vp_V (flds (v a) 0 (fs.set k (some (.ref b)))))
  rw [flds_ref _ _ _ _ hl]
  have hl2 : k < (flds (v a) 0 fs).length := by rw [flds_len]; exact hl
  exact t_OB.to (V := updV (vp_V (flds (v a) 0 fs)) k (.ref b)) ⟨_, e1, q2, q3, t_set q4 hap hk (.ref b)⟩ (fun j _ => vp_updV_set hl2 _ j)
end JB
