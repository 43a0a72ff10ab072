theorem inlX0 : ∀ w ∈ wsX00, w ∈ wsL_law := fun _ h => List.mem_append_left _ (List.mem_append_right _ h)
theorem inlX1 : ∀ w ∈ wsX10, w ∈ wsL_law := fun _ h => List.mem_append_left _ (List.mem_append_left _ (List.mem_append_left _ (List.mem_append_right _ h)))
theorem inlX2 : ∀ w ∈ wsX20, w ∈ wsL_law := fun _ h => List.mem_append_left _ (List.mem_append_left _ (List.mem_append_right _ h))
theorem inlX3 : ∀ w ∈ wsX30, w ∈ wsL_law := fun _ h => List.mem_append_left _ (List.mem_append_left _ (List.mem_append_left _ (List.mem_append_left _ (List.mem_append_right _ h))))
theorem inlX4 : ∀ w ∈ wsX40, w ∈ wsL_law := fun _ h => List.mem_append_left _ (List.mem_append_left _ (List.mem_append_left _ (List.mem_append_left _ (List.mem_append_left _ (List.mem_append_left _ (List.mem_append_right _ h))))))
theorem inlX5 : ∀ w ∈ wsX50, w ∈ wsL_law := fun _ h => List.mem_append_left _ (List.mem_append_left _ (List.mem_append_left _ (List.mem_append_left _ (List.mem_append_left _ (List.mem_append_right _ h)))))
/-! ===== the law: its script, its ends ===== -/
theorem I_ti (x : Int32) : I x.toInt = x := Int32.ofInt_toInt x
theorem ti_b (x : Int32) : -2147483648 ≤ x.toInt ∧ x.toInt ≤ 2147483647 := by
  have h1 := Int32.le_toInt x
  have h2 := Int32.toInt_lt x
  omega
theorem and31 (x : Int32) : ∃ z : Int, x &&& I 31 = I z ∧ 0 ≤ z ∧ z ≤ 31 := by
  refine ⟨((x.toBitVec.toNat % 32 : Nat) : Int), ?_, by omega, by omega⟩
  rw [I_nat]
  apply Int32.toBitVec_inj.1
  show x.toBitVec &&& BitVec.ofNat 32 31 = BitVec.ofNat 32 (x.toBitVec.toNat % 32)
  apply BitVec.eq_of_toNat_eq
  rw [BitVec.toNat_and, BitVec.toNat_ofNat, BitVec.toNat_ofNat, show 31 % 2 ^ 32 = 2 ^ 5 - 1 by decide, Nat.and_two_pow_sub_one_eq_mod, Nat.mod_eq_of_lt (show x.toBitVec.toNat % 32 < 2 ^ 32 by omega)]
theorem XR.kept {v w : Mem} {x : Nat} {G : GS} (h : XR v x G) (hw : ∀ a, x ≤ a → a < x + 232 → w a = v a) : XR w x G := by
  obtain ⟨h1, h2, h3, h4⟩ := h
  refine ⟨h1.kept (fun a _ _ => hw a (by omega) (by omega)), h2.kept (fun a _ _ => hw a (by omega) (by omega)), h3.kept (hw _ (by omega) (by omega)) (hw _ (by omega) (by omega)), fun k hk => ?_⟩
  obtain ⟨g1, g2⟩ := h4 k hk
  rw [hw _ (by omega) (by omega)]
  refine ⟨g1, fun S hS => ?_⟩
  obtain ⟨g3, g4⟩ := g2 S hS
  exact ⟨g3, g4.kept (fun a _ _ => hw a (by omega) (by omega))⟩
theorem MXR.kept {v w : Mem} {m : Nat} {G : GS} (h : MXR v m G) (hw : ∀ a, m ≤ a → a < m + 11 → w a = v a) : MXR w m G := by
  obtain ⟨h1, h2, h3, h4⟩ := h
  exact ⟨by rw [hw _ (by omega) (by omega)]; exact h1, h2.kept (by rw [hw _ (by omega) (by omega)]) (hw _ (by omega) (by omega)), h3.kept (hw _ (by omega) (by omega)) (hw _ (by omega) (by omega)), h4.kept (by rw [hw _ (by omega) (by omega)]) (hw _ (by omega) (by omega))⟩
theorem Xd.up {D : va_G} {sk sk' : Sk} {x : Nat} (h : Xd D sk x) (e : ∀ a, x ≤ a → a < x + 232 → sk' a = sk a) : Xd D sk' x := by
  obtain ⟨h1, h2, h3, ⟨g, h4, hg⟩, h5, h6, ⟨g2, h7, hg2⟩, h8, h9⟩ := h
  exact ⟨(e _ (by omega) (by omega)).trans h1, h2.up (fun a _ _ => e a (by omega) (by omega)), h3.up (fun a _ _ => e a (by omega) (by omega)), ⟨g, (e _ (by omega) (by omega)).trans h4, hg⟩, (e _ (by omega) (by omega)).trans h5, ⟨(e _ (by omega) (by omega)).trans h6.1, (e _ (by omega) (by omega)).trans h6.2⟩, ⟨g2, (e _ (by omega) (by omega)).trans h7, hg2⟩, fun k hk => (h8 k hk).up (fun a _ _ => e a (by omega) (by omega)), fun k hk => (h9 k hk).up (e _ (by omega) (by omega)) (e _ (by omega) (by omega))⟩
section JW
variable {p : Program} {l : Launch} {e : Env} {R : Room} {s : State} {m : MethodId} {args : Array Value} {below : List Frame} {meth : Method} {c : Code} {D : va_G} {A : Nat → Prop} {nL cells slots n pc : Nat} {Q : State → Prop} {sk : Sk} {v : Mem} {Lc : List (Option Value)} {st : List Value} {cc : ByteArray} {own : String} {Ts : List Cond} {ret : Option FieldType}
theorem j_sald (X : Cx p s m args meth c D cc nL own Ts ret) {b L : Nat} {xs : Nat → Int32} {i : Int} (d : decode cc pc = .ok (.iaload, 1)) (hX : va_X b L xs s s.heap) (hbl : b < s.heap.size) (hbA : ¬ A b) (k : Nat) (hk : i = (k : Int)) (hk2 : k < L) (hL : L ≤ 2147483647)
    (K : J p l e R s m args below meth c D A nL cells slots Q n sk v (pc + 1) Lc (.int (I (xs k).toInt) :: st)) : J p l e R s m args below meth c D A nL cells slots Q n sk v pc Lc (.int (I i) :: .ref b :: st) := by
  intro H locs ls h1 h2 h3 h4 h5 h6
  subst hk
  refine va_sld X.1 X.2.1 hX hbl hbA h5 (I_in (by omega) hL) d ?_
  have hc : (I (k : Int)).toNatClampNeg = k := by rw [I_clamp (by omega), Int.toNat_natCast]
  have hg := K H locs ls h1 h2 h3 h4 h5 h6
  rw [I_ti] at hg
  rw [hc]
  exact hg
theorem j_slen (X : Cx p s m args meth c D cc nL own Ts ret) {b L : Nat} {xs : Nat → Int32} (d : decode cc pc = .ok (.arraylength, 1)) (hX : va_X b L xs s s.heap) (hbl : b < s.heap.size) (hbA : ¬ A b)
    (K : J p l e R s m args below meth c D A nL cells slots Q n sk v (pc + 1) Lc (.int (I (L : Int)) :: st)) : J p l e R s m args below meth c D A nL cells slots Q n sk v pc Lc (.ref b :: st) := by
  intro H locs ls h1 h2 h3 h4 h5 h6
  refine va_slen X.1 X.2.1 hX hbl hbA h5 d ?_
  have hg := K H locs ls h1 h2 h3 h4 h5 h6
  rw [I_nat] at hg
  exact hg
theorem j_icmp_same (X : Cx p s m args meth c D cc nL own Ts ret) {x : Int32} {off : Int} {tgt : Nat} (d : decode cc pc = .ok (.if_icmp .eq off, 3)) (ht : (pc : Int) + off = (tgt : Int))
    (K : J p l e R s m args below meth c D A nL cells slots Q n sk v tgt Lc st) : J p l e R s m args below meth c D A nL cells slots Q n sk v pc Lc (.int x :: .int x :: st) := by
  intro H locs ls h1 h2 h3 h4 h5 h6
  exact lv_icmp_eq X.1 X.2.1 d ht (fun _ => K H locs ls h1 h2 h3 h4 h5 h6) (fun q => absurd rfl q)
theorem j_topl {x : Int64} {y : Int64} (h : x = y) (K : J p l e R s m args below meth c D A nL cells slots Q n sk v pc Lc (.long y :: st)) : J p l e R s m args below meth c D A nL cells slots Q n sk v pc Lc (.long x :: st) := by
  subst h; exact K
theorem j_topw {x : Int64} (K : ∀ w : Nat, w < 2 ^ 64 → x = lN w → J p l e R s m args below meth c D A nL cells slots Q n sk v pc Lc (.long (lN w) :: st)) : J p l e R s m args below meth c D A nL cells slots Q n sk v pc Lc (.long x :: st) := by
  obtain ⟨w, h1, h2⟩ := uN_ex x
  have := K w h1 h2
  rw [← h2] at this
  exact this
end JW
/-! THE CLAIM OUT OF ONE WALK OF THE LAW'S BODY. Your part is whole_start (and what it stands on); all else here is the same for every law, but numbers. -/
def R_law : String := "BinderParcelsLaw"
def lw_P (b : Addr) (xs : List Int32) (args : Array Value) (s : State) : Prop := args = #[.ref b] ∧ s.IntsAt b xs ∧ xs.length ≤ 2560 ∧ (Jvm.Cond.and given_1 narrow_1).before args s = true
def lw_Q (_ : Array Value) (s : State) (o : Outcome) (t : State) : Prop := o = .returned (some (.int 1)) ∧ Framed s o t [] 600000 7302250
def lw_Z (below : List Frame) (a : Array Value) (s : State) : State → Prop := fun t => ∃ o, t.status = .running ∧ Ended t below o ∧ lw_Q a s o t
/-- the law's own end, with 1 on the stack, nothing written that was there before, its room as the claim has it -/
theorem lw_ret {p : Program} {l : Launch} {e : Env} {s : State} {m : MethodId} {below : List Frame} {meth : Method} {c : Code} {b : Nat} (hx : p.tables.exec = Jvm.exec) (hb : c.code = code) (hr : meth.sig.returnType = ret) (hlocks : meth.locks = false) {pc : Nat} {H : Heap} {ls : Array Slot} (hdg : decode code pc = .ok (.ireturn, 1)) : W p l e room_1 s m #[Value.ref b] below meth c H [] 600000 7302250 (lw_Z below #[Value.ref b] s) (F0 m pc ls [.int 1]) := by
  intro T hT X
  obtain ⟨fs, hret, hrun, hended, hW, hframe⟩ := X.leave (v := some (.int 1)) (hlocks := hlocks) (fun h => by rw [hr] at h; cases h)
  have hmeth' : T.vm.method? m = some meth := X.method'
  refine ⟨T.setFrames fs, ?_, .returned (some (.int 1)), hrun, hended, rfl, ⟨_, rfl⟩, hW, hframe⟩
  jvm_step X.here [X.here.top, hx, hb, hdg, hmeth', hr, ret, narrow_b1]
  (try refine ⟨rfl, ?_⟩); (try refine ⟨rfl, ?_⟩)
  first | (intro acts; rw [hret _ acts rfl rfl rfl]) | rw [hret _ _ rfl rfl rfl]
  exact Steps.refl _
/-- what holds at the law's entry: the machine, the code, the tables' words (any of lw_tbl by 'hts w (by decide +kernel)'), the script of L ints xs at the cell b, what the Statement gives of the start (any of its parts by flat_of_before) -/
def lw_At (p : Program) (s : State) (m : MethodId) (meth : Method) (c : Code) (b L : Nat) (xs : Nat → Int32) : Prop :=
  p.tables.exec = Jvm.exec ∧ c.code = code ∧ meth.sig.returnType = ret ∧ c.maxLocals = 4 ∧ s.vm.findClass R_law = some m.cls ∧ (∀ w ∈ lw_tbl, w.before #[Value.ref b] s = true) ∧ va_X b L xs s s.heap ∧ b < s.heap.size ∧ meth.locks = false ∧ (Jvm.Cond.and given_1 narrow_1).before #[Value.ref b] s = true
theorem j_lawend {p : Program} {l : Launch} {e : Env} {s : State} {m : MethodId} {b : Nat} {below : List Frame} {meth : Method} {c : Code} {D : va_G} {nL cells slots n : Nat} {sk : Sk} {v : Mem} {Lc : List (Option Value)} {own : String} {Ts : List Cond} (X : Cx p s m #[Value.ref b] meth c D cL_law nL own Ts (some .boolean)) (hr : meth.sig.returnType = ret) (hc : cells ≤ 600000) (hs : slots ≤ 7302250) : J p l e room_1 s m #[Value.ref b] below meth c D (fun q => s.heap.size ≤ q) nL cells slots (lw_Z below #[Value.ref b] s) n sk v 781 Lc [.int (I 1)] := by
  intro H locs ls h1 h2 h3 h4 h5 h6
  refine va_forget (fun q hq => h5.2.2 q hq) ?_
  refine W.widen (k := 600000) (n := 7302250) hc hs ?_
  exact lw_ret X.1 X.2.1 hr X.2.2.2.2.2.2.2.2 dL_law_781
set_option maxHeartbeats 4000000 in
set_option maxRecDepth 100000 in
theorem law_J {p : Program} {l : Launch} {e : Env} {s : State} {m : MethodId} {b L : Nat} {xs : Nat → Int32} {below : List Frame} {meth : Method} {c : Code} {D : va_G} (X : Cx p s m #[Value.ref b] meth c D cL_law 4 RL wsL_law (some .boolean)) (hr : meth.sig.returnType = ret) (hXs : va_X b L xs s s.heap) (hbl : b < s.heap.size) (hL : L ≤ 2560) : J p l e room_1 s m #[Value.ref b] below meth c D (fun q => s.heap.size ≤ q) 4 0 0 (lw_Z below #[Value.ref b] s) s.heap.size (fun _ => none) (fun _ _ => 0) 0 [some (.ref b), none, none, none] [] := by
  have hbA : ¬ (fun q : Nat => s.heap.size ≤ q) b := Nat.not_le.mpr hbl
  have hinX4 : ∀ w ∈ wsX40, w ∈ wsL_law := inlX4
  have hinX5 : ∀ w ∈ wsX50, w ∈ wsL_law := inlX5
  refine j_newU X dL_law_0 (T := TX4) (N := 6) (C := RX4) (ci := 4) (fs := [some .null, some .null, some .null, some .null, some .null, some .null]) hinX4 rfl tyX4 tyX4_ok ⟨by decide +kernel, by decide +kernel, by decide +kernel⟩ (fun j hj => by rcases (show j = 0 ∨ j = 1 ∨ j = 2 ∨ j = 3 ∨ j = 4 ∨ j = 5 by omega) with rfl | rfl | rfl | rfl | rfl | rfl <;> rfl) ⟨by show _ ≤ 600000; omega, by show _ ≤ 7302250; omega⟩ (fun k0 w0 e0 o0 z0 q0 => ?_)
  refine j_dup X dL_law_3 rfl ?_
  refine j_callI (nn := 0) X dL_law_4 (c_X4_init l D _ k0 w0 _ rfl e0) gL_law_X4_init rfl ⟨rfl, rfl⟩ (by decide +kernel) (by decide +kernel) rfl (by decide +kernel) ⟨Nat.le_of_ble_eq_true rfl, Nat.le_of_ble_eq_true rfl⟩ rfl rfl (Nat.le_of_ble_eq_true rfl) ⟨by show _ ≤ 600000; omega, by show _ ≤ 7302250; omega⟩ (by decide +kernel) (kN (fun k4 w4 h4 => ?_))
  obtain ⟨⟨hX4, o4⟩, -, q4, z4⟩ := h4
  refine j_astore_n X dL_law_7 rfl (Nat.le_of_ble_eq_true rfl) ?_
  refine j_newU X dL_law_8 (T := TX5) (N := 13) (C := RX5) (ci := 5) (fs := [some .null, some .null, some .null, none, some .null, some .null, some .null, none, some .null, none, some .null, some .null, some .null]) hinX5 rfl tyX5 tyX5_ok ⟨by decide +kernel, by decide +kernel, by decide +kernel⟩ (fun j hj => by rcases (show j = 0 ∨ j = 1 ∨ j = 2 ∨ j = 3 ∨ j = 4 ∨ j = 5 ∨ j = 6 ∨ j = 7 ∨ j = 8 ∨ j = 9 ∨ j = 10 ∨ j = 11 ∨ j = 12 by omega) with rfl | rfl | rfl | rfl | rfl | rfl | rfl | rfl | rfl | rfl | rfl | rfl | rfl <;> rfl) ⟨by show _ ≤ 600000; omega, by show _ ≤ 7302250; omega⟩ (fun k8 w8 e8 o8 z8 q8 => ?_)
  refine j_dup X dL_law_11 rfl ?_
  refine j_callI (nn := 0) X dL_law_12 (c_X5_init l D _ k8 w8 _ rfl e8) gL_law_X5_init rfl ⟨rfl, rfl⟩ (by decide +kernel) (by decide +kernel) rfl (by decide +kernel) ⟨Nat.le_of_ble_eq_true rfl, Nat.le_of_ble_eq_true rfl⟩ rfl rfl (Nat.le_of_ble_eq_true rfl) ⟨by show _ ≤ 600000; omega, by show _ ≤ 7302250; omega⟩ (by decide +kernel) (kN (fun k12 w12 h12 => ?_))
  obtain ⟨hM12, o12, q12, z12⟩ := h12
  refine j_astore_n X dL_law_15 rfl (Nat.le_of_ble_eq_true rfl) ?_
  refine j_iconst X dL_law_16 ?_
  refine j_istore_n X dL_law_17 rfl (Nat.le_of_ble_eq_true rfl) ?_
  have hX0 : Xd D k12 s.heap.size := hX4.up (fun a h1 h2 => (o12 a (by omega)).trans (o8 a (by omega)))
  have hM0 : Md D k12 (s.heap.size + 232) := hM12
  have hXR0 : XR w12 s.heap.size G00 := XR_new (fun a h1 h2 => by
    rw [q12 a (by omega), q8 a (by omega)]
    by_cases q : a = s.heap.size
    · rw [q, q4 _ (by omega)]; exact z0
    · exact z4 a (by omega) (by omega))
  have hMX0 : MXR w12 (s.heap.size + 232) G00 := MXR_new (fun a h1 h2 => by
    by_cases q : a = s.heap.size + 232
    · rw [q, q12 _ (by omega)]; exact z8
    · exact z12 a (by omega) (by omega))
  refine j_loop (σ := Nat × GS × Mem) (fun (y_ : Nat × GS × Mem) => match y_ with | (i, G, y) => i ≤ L + 5 ∧ XR y s.heap.size G ∧ MXR y (s.heap.size + 232) G) (fun (y_ : Nat × GS × Mem) => match y_ with | (i, G, y) => L + 5 - i) (fun (y_ : Nat × GS × Mem) => match y_ with | (i, G, y) => (y, [some (.ref b), some (.ref s.heap.size), some (.ref (s.heap.size + 232)), some (.int (I (i : Int)))])) ?_ (0, G00, w12) ⟨by omega, hXR0, hMX0⟩
  intro y_ hx ih18
  obtain ⟨i, G, y⟩ := y_
  dsimp only at hx ih18 ⊢
  obtain ⟨hi, hXR, hMX⟩ := hx
  refine j_iload_n X dL_law_18 rfl ?_
  refine j_aload_n X dL_law_19 rfl ?_
  refine j_slen X dL_law_20 hXs hbl hbA ?_
  refine j_iconst X dL_law_21 ?_
  refine j_isub X dL_law_22 ?_
  refine j_icmp_gt (tgt := 780) X dL_law_23 (by omega) (by decide) (fun c23 => ?_) (fun c23 => ?_)
  · refine j_iconst X dL_law_780 ?_
    exact j_lawend X hr (by omega) (by omega)
  · have hiL : i + 5 ≤ L := by omega
    refine j_aload_n X dL_law_26 rfl ?_
    refine j_iload_n X dL_law_27 rfl ?_
    refine j_sald X dL_law_28 hXs hbl hbA (i) (by omega) (by omega) (by omega) ?_
    refine j_bipush X dL_law_29 (by decide) ?_
    obtain ⟨zs, hzs, hzs1, hzs2⟩ := and31 (I (xs i).toInt)
    refine j_iand X dL_law_31 hzs ?_
    by_cases cs32_0 : zs = 0
    · refine j_tabIn (tgt := 136) (off := 104) X dL_law_32 (by omega) (by omega) (by rw [cs32_0]; rfl) (by decide) ?_
      refine j_aload_n X dL_law_136 rfl ?_
      refine j_callV (nn := 0) X dL_law_137 (c_X4_issue l D _ _ y (s.heap.size)  G hX0 hXR ) gL_law_X4_issue rfl ⟨rfl, rfl⟩ (by decide +kernel) ⟨Nat.le_of_ble_eq_true rfl, Nat.le_of_ble_eq_true rfl⟩ hX0.1 ⟨rfl, rfl⟩ rfl rfl (Nat.le_of_ble_eq_true rfl) ⟨by show _ ≤ 600000; omega, by show _ ≤ 7302250; omega⟩ (kI (fun z137 v137 h137 => ?_))
      obtain ⟨rfl, hXa, hfa⟩ := h137
      have hMa := hMX.kept (w := v137) (fun a _ _ => hfa a (by omega))
      refine j_aload_n X dL_law_140 rfl ?_
      refine j_callV (nn := 0) X dL_law_141 (c_X5_issue l D _ _ _ (s.heap.size + 232)  G hM0 hMa ) gL_law_X5_issue rfl ⟨rfl, rfl⟩ (by decide +kernel) ⟨Nat.le_of_ble_eq_true rfl, Nat.le_of_ble_eq_true rfl⟩ hM0.1 ⟨rfl, rfl⟩ rfl rfl (Nat.le_of_ble_eq_true rfl) ⟨by show _ ≤ 600000; omega, by show _ ≤ 7302250; omega⟩ (kI (fun z141 v141 h141 => ?_))
      obtain ⟨rfl, hMb, hfb⟩ := h141
      have hXb := hXa.kept (w := v141) (fun a _ _ => hfb a (by omega))
      refine j_icmp_same (tgt := 774) X dL_law_144 (by decide) ?_
      first
      | (have hXf := hXb; have hMf := hMb)
      | (have hXf := hXR; have hMf := hMX)
      refine j_iinc X dL_law_774 rfl rfl (Nat.le_of_ble_eq_true rfl) ?_
      refine j_goto (tgt := 18) X dL_law_777 (by decide) ?_
      exact ih18 (i + 5, _, _) (by (try dsimp only); exact ⟨by omega, hXf, hMf⟩) (by (try dsimp only); omega)
    by_cases cs32_1 : zs = 1
    · refine j_tabIn (tgt := 149) (off := 117) X dL_law_32 (by omega) (by omega) (by rw [cs32_1]; rfl) (by decide) ?_
      refine j_aload_n X dL_law_149 rfl ?_
      refine j_callV (nn := 0) X dL_law_150 (c_X4_own l D _ _ y (s.heap.size)  G hX0 hXR ) gL_law_X4_own rfl ⟨rfl, rfl⟩ (by decide +kernel) ⟨Nat.le_of_ble_eq_true rfl, Nat.le_of_ble_eq_true rfl⟩ hX0.1 ⟨rfl, rfl⟩ rfl rfl (Nat.le_of_ble_eq_true rfl) ⟨by show _ ≤ 600000; omega, by show _ ≤ 7302250; omega⟩ (kI (fun z150 v150 h150 => ?_))
      obtain ⟨rfl, hXa, hfa⟩ := h150
      have hMa := hMX.kept (w := v150) (fun a _ _ => hfa a (by omega))
      refine j_aload_n X dL_law_153 rfl ?_
      refine j_callV (nn := 0) X dL_law_154 (c_X5_own l D _ _ _ (s.heap.size + 232)  G hM0 hMa ) gL_law_X5_own rfl ⟨rfl, rfl⟩ (by decide +kernel) ⟨Nat.le_of_ble_eq_true rfl, Nat.le_of_ble_eq_true rfl⟩ hM0.1 ⟨rfl, rfl⟩ rfl rfl (Nat.le_of_ble_eq_true rfl) ⟨by show _ ≤ 600000; omega, by show _ ≤ 7302250; omega⟩ (kI (fun z154 v154 h154 => ?_))
      obtain ⟨rfl, hMb, hfb⟩ := h154
      have hXb := hXa.kept (w := v154) (fun a _ _ => hfb a (by omega))
      refine j_icmp_same (tgt := 774) X dL_law_157 (by decide) ?_
      first
      | (have hXf := hXb; have hMf := hMb)
      | (have hXf := hXR; have hMf := hMX)
      refine j_iinc X dL_law_774 rfl rfl (Nat.le_of_ble_eq_true rfl) ?_
      refine j_goto (tgt := 18) X dL_law_777 (by decide) ?_
      exact ih18 (i + 5, _, _) (by (try dsimp only); exact ⟨by omega, hXf, hMf⟩) (by (try dsimp only); omega)
    by_cases cs32_2 : zs = 2
    · refine j_tabIn (tgt := 162) (off := 130) X dL_law_32 (by omega) (by omega) (by rw [cs32_2]; rfl) (by decide) ?_
      refine j_aload_n X dL_law_162 rfl ?_
      refine j_aload_n X dL_law_163 rfl ?_
      refine j_iload_n X dL_law_164 rfl ?_
      refine j_iconst X dL_law_165 ?_
      refine j_iadd X dL_law_166 ?_
      refine j_sald X dL_law_167 hXs hbl hbA (i + 1) (by omega) (by omega) (by omega) ?_
      refine j_aload_n X dL_law_168 rfl ?_
      refine j_iload_n X dL_law_169 rfl ?_
      refine j_iconst X dL_law_170 ?_
      refine j_iadd X dL_law_171 ?_
      refine j_sald X dL_law_172 hXs hbl hbA (i + 2) (by omega) (by omega) (by omega) ?_
      refine j_aload_n X dL_law_173 rfl ?_
      refine j_iload_n X dL_law_174 rfl ?_
      refine j_iconst X dL_law_175 ?_
      refine j_iadd X dL_law_176 ?_
      refine j_sald X dL_law_177 hXs hbl hbA (i + 3) (by omega) (by omega) (by omega) ?_
      refine j_if_eq (tgt := 185) X dL_law_178 (ti_b _) (by decide) (fun c178 => ?_) (fun c178 => ?_)
      · refine j_iconst X dL_law_185 ?_
        refine j_callV (nn := 3) X dL_law_186 (c_X4_done l D _ _ y (s.heap.size) _ _ _ G hX0 hXR (ti_b _) (ti_b _) (by first | exact Or.inl rfl | exact Or.inr rfl)) gL_law_X4_done rfl ⟨rfl, rfl⟩ (by decide +kernel) ⟨Nat.le_of_ble_eq_true rfl, Nat.le_of_ble_eq_true rfl⟩ hX0.1 ⟨rfl, rfl⟩ rfl rfl (Nat.le_of_ble_eq_true rfl) ⟨by show _ ≤ 600000; omega, by show _ ≤ 7302250; omega⟩ (kI (fun z186 v186 h186 => ?_))
        obtain ⟨rfl, hXa, hfa⟩ := h186
        have hMa := hMX.kept (w := v186) (fun a _ _ => hfa a (by omega))
        refine j_aload_n X dL_law_189 rfl ?_
        refine j_aload_n X dL_law_190 rfl ?_
        refine j_iload_n X dL_law_191 rfl ?_
        refine j_iconst X dL_law_192 ?_
        refine j_iadd X dL_law_193 ?_
        refine j_sald X dL_law_194 hXs hbl hbA (i + 1) (by omega) (by omega) (by omega) ?_
        refine j_aload_n X dL_law_195 rfl ?_
        refine j_iload_n X dL_law_196 rfl ?_
        refine j_iconst X dL_law_197 ?_
        refine j_iadd X dL_law_198 ?_
        refine j_sald X dL_law_199 hXs hbl hbA (i + 2) (by omega) (by omega) (by omega) ?_
        refine j_aload_n X dL_law_200 rfl ?_
        refine j_iload_n X dL_law_201 rfl ?_
        refine j_iconst X dL_law_202 ?_
        refine j_iadd X dL_law_203 ?_
        refine j_sald X dL_law_204 hXs hbl hbA (i + 3) (by omega) (by omega) (by omega) ?_
        refine j_if_eq (tgt := 212) X dL_law_205 (ti_b _) (by decide) (fun c205 => ?_) (fun c205 => ?_)
        · refine j_iconst X dL_law_212 ?_
          refine j_callV (nn := 3) X dL_law_213 (c_X5_done l D _ _ _ (s.heap.size + 232) _ _ _ G hM0 hMa (ti_b _) (ti_b _) (by first | exact Or.inl rfl | exact Or.inr rfl)) gL_law_X5_done rfl ⟨rfl, rfl⟩ (by decide +kernel) ⟨Nat.le_of_ble_eq_true rfl, Nat.le_of_ble_eq_true rfl⟩ hM0.1 ⟨rfl, rfl⟩ rfl rfl (Nat.le_of_ble_eq_true rfl) ⟨by show _ ≤ 600000; omega, by show _ ≤ 7302250; omega⟩ (kI (fun z213 v213 h213 => ?_))
          obtain ⟨rfl, hMb, hfb⟩ := h213
          have hXb := hXa.kept (w := v213) (fun a _ _ => hfb a (by omega))
          refine j_icmp_same (tgt := 774) X dL_law_216 (by decide) ?_
          first
          | (have hXf := hXb; have hMf := hMb)
          | (have hXf := hXR; have hMf := hMX)
          refine j_iinc X dL_law_774 rfl rfl (Nat.le_of_ble_eq_true rfl) ?_
          refine j_goto (tgt := 18) X dL_law_777 (by decide) ?_
          exact ih18 (i + 5, _, _) (by (try dsimp only); exact ⟨by omega, hXf, hMf⟩) (by (try dsimp only); omega)
        · exfalso; omega
      · refine j_iconst X dL_law_181 ?_
        refine j_goto (tgt := 186) X dL_law_182 (by decide) ?_
        refine j_callV (nn := 3) X dL_law_186 (c_X4_done l D _ _ y (s.heap.size) _ _ _ G hX0 hXR (ti_b _) (ti_b _) (by first | exact Or.inl rfl | exact Or.inr rfl)) gL_law_X4_done rfl ⟨rfl, rfl⟩ (by decide +kernel) ⟨Nat.le_of_ble_eq_true rfl, Nat.le_of_ble_eq_true rfl⟩ hX0.1 ⟨rfl, rfl⟩ rfl rfl (Nat.le_of_ble_eq_true rfl) ⟨by show _ ≤ 600000; omega, by show _ ≤ 7302250; omega⟩ (kI (fun z186 v186 h186 => ?_))
        obtain ⟨rfl, hXa, hfa⟩ := h186
        have hMa := hMX.kept (w := v186) (fun a _ _ => hfa a (by omega))
        refine j_aload_n X dL_law_189 rfl ?_
        refine j_aload_n X dL_law_190 rfl ?_
        refine j_iload_n X dL_law_191 rfl ?_
        refine j_iconst X dL_law_192 ?_
        refine j_iadd X dL_law_193 ?_
        refine j_sald X dL_law_194 hXs hbl hbA (i + 1) (by omega) (by omega) (by omega) ?_
        refine j_aload_n X dL_law_195 rfl ?_
        refine j_iload_n X dL_law_196 rfl ?_
        refine j_iconst X dL_law_197 ?_
        refine j_iadd X dL_law_198 ?_
        refine j_sald X dL_law_199 hXs hbl hbA (i + 2) (by omega) (by omega) (by omega) ?_
        refine j_aload_n X dL_law_200 rfl ?_
        refine j_iload_n X dL_law_201 rfl ?_
        refine j_iconst X dL_law_202 ?_
        refine j_iadd X dL_law_203 ?_
        refine j_sald X dL_law_204 hXs hbl hbA (i + 3) (by omega) (by omega) (by omega) ?_
        refine j_if_eq (tgt := 212) X dL_law_205 (ti_b _) (by decide) (fun c205 => ?_) (fun c205 => ?_)
        · exfalso; omega
        · refine j_iconst X dL_law_208 ?_
          refine j_goto (tgt := 213) X dL_law_209 (by decide) ?_
          refine j_callV (nn := 3) X dL_law_213 (c_X5_done l D _ _ _ (s.heap.size + 232) _ _ _ G hM0 hMa (ti_b _) (ti_b _) (by first | exact Or.inl rfl | exact Or.inr rfl)) gL_law_X5_done rfl ⟨rfl, rfl⟩ (by decide +kernel) ⟨Nat.le_of_ble_eq_true rfl, Nat.le_of_ble_eq_true rfl⟩ hM0.1 ⟨rfl, rfl⟩ rfl rfl (Nat.le_of_ble_eq_true rfl) ⟨by show _ ≤ 600000; omega, by show _ ≤ 7302250; omega⟩ (kI (fun z213 v213 h213 => ?_))
          obtain ⟨rfl, hMb, hfb⟩ := h213
          have hXb := hXa.kept (w := v213) (fun a _ _ => hfb a (by omega))
          refine j_icmp_same (tgt := 774) X dL_law_216 (by decide) ?_
          first
          | (have hXf := hXb; have hMf := hMb)
          | (have hXf := hXR; have hMf := hMX)
          refine j_iinc X dL_law_774 rfl rfl (Nat.le_of_ble_eq_true rfl) ?_
          refine j_goto (tgt := 18) X dL_law_777 (by decide) ?_
          exact ih18 (i + 5, _, _) (by (try dsimp only); exact ⟨by omega, hXf, hMf⟩) (by (try dsimp only); omega)
    by_cases cs32_3 : zs = 3
    · refine j_tabIn (tgt := 221) (off := 189) X dL_law_32 (by omega) (by omega) (by rw [cs32_3]; rfl) (by decide) ?_
      refine j_aload_n X dL_law_221 rfl ?_
      refine j_aload_n X dL_law_222 rfl ?_
      refine j_iload_n X dL_law_223 rfl ?_
      refine j_iconst X dL_law_224 ?_
      refine j_iadd X dL_law_225 ?_
      refine j_sald X dL_law_226 hXs hbl hbA (i + 1) (by omega) (by omega) (by omega) ?_
      refine j_callV (nn := 1) X dL_law_227 (c_X4_doAll l D _ _ y (s.heap.size) _ G hX0 hXR (ti_b _)) gL_law_X4_doAll rfl ⟨rfl, rfl⟩ (by decide +kernel) ⟨Nat.le_of_ble_eq_true rfl, Nat.le_of_ble_eq_true rfl⟩ hX0.1 ⟨rfl, rfl⟩ rfl rfl (Nat.le_of_ble_eq_true rfl) ⟨by show _ ≤ 600000; omega, by show _ ≤ 7302250; omega⟩ (kI (fun z227 v227 h227 => ?_))
      obtain ⟨rfl, hXa, hfa⟩ := h227
      have hMa := hMX.kept (w := v227) (fun a _ _ => hfa a (by omega))
      refine j_aload_n X dL_law_230 rfl ?_
      refine j_aload_n X dL_law_231 rfl ?_
      refine j_iload_n X dL_law_232 rfl ?_
      refine j_iconst X dL_law_233 ?_
      refine j_iadd X dL_law_234 ?_
      refine j_sald X dL_law_235 hXs hbl hbA (i + 1) (by omega) (by omega) (by omega) ?_
      refine j_callV (nn := 1) X dL_law_236 (c_X5_doAll l D _ _ _ (s.heap.size + 232) _ G hM0 hMa (ti_b _)) gL_law_X5_doAll rfl ⟨rfl, rfl⟩ (by decide +kernel) ⟨Nat.le_of_ble_eq_true rfl, Nat.le_of_ble_eq_true rfl⟩ hM0.1 ⟨rfl, rfl⟩ rfl rfl (Nat.le_of_ble_eq_true rfl) ⟨by show _ ≤ 600000; omega, by show _ ≤ 7302250; omega⟩ (kI (fun z236 v236 h236 => ?_))
      obtain ⟨rfl, hMb, hfb⟩ := h236
      have hXb := hXa.kept (w := v236) (fun a _ _ => hfb a (by omega))
      refine j_icmp_same (tgt := 774) X dL_law_239 (by decide) ?_
      first
      | (have hXf := hXb; have hMf := hMb)
      | (have hXf := hXR; have hMf := hMX)
      refine j_iinc X dL_law_774 rfl rfl (Nat.le_of_ble_eq_true rfl) ?_
      refine j_goto (tgt := 18) X dL_law_777 (by decide) ?_
      exact ih18 (i + 5, _, _) (by (try dsimp only); exact ⟨by omega, hXf, hMf⟩) (by (try dsimp only); omega)
    by_cases cs32_4 : zs = 4
    · refine j_tabIn (tgt := 244) (off := 212) X dL_law_32 (by omega) (by omega) (by rw [cs32_4]; rfl) (by decide) ?_
      refine j_aload_n X dL_law_244 rfl ?_
      refine j_aload_n X dL_law_245 rfl ?_
      refine j_iload_n X dL_law_246 rfl ?_
      refine j_iconst X dL_law_247 ?_
      refine j_iadd X dL_law_248 ?_
      refine j_sald X dL_law_249 hXs hbl hbA (i + 1) (by omega) (by omega) (by omega) ?_
      refine j_aload_n X dL_law_250 rfl ?_
      refine j_iload_n X dL_law_251 rfl ?_
      refine j_iconst X dL_law_252 ?_
      refine j_iadd X dL_law_253 ?_
      refine j_sald X dL_law_254 hXs hbl hbA (i + 2) (by omega) (by omega) (by omega) ?_
      refine j_callV (nn := 2) X dL_law_255 (c_X4_lose l D _ _ y (s.heap.size) _ _ G hX0 hXR (ti_b _) (ti_b _)) gL_law_X4_lose rfl ⟨rfl, rfl⟩ (by decide +kernel) ⟨Nat.le_of_ble_eq_true rfl, Nat.le_of_ble_eq_true rfl⟩ hX0.1 ⟨rfl, rfl⟩ rfl rfl (Nat.le_of_ble_eq_true rfl) ⟨by show _ ≤ 600000; omega, by show _ ≤ 7302250; omega⟩ (kI (fun z255 v255 h255 => ?_))
      obtain ⟨rfl, hXa, hfa⟩ := h255
      have hMa := hMX.kept (w := v255) (fun a _ _ => hfa a (by omega))
      refine j_aload_n X dL_law_258 rfl ?_
      refine j_aload_n X dL_law_259 rfl ?_
      refine j_iload_n X dL_law_260 rfl ?_
      refine j_iconst X dL_law_261 ?_
      refine j_iadd X dL_law_262 ?_
      refine j_sald X dL_law_263 hXs hbl hbA (i + 1) (by omega) (by omega) (by omega) ?_
      refine j_aload_n X dL_law_264 rfl ?_
      refine j_iload_n X dL_law_265 rfl ?_
      refine j_iconst X dL_law_266 ?_
      refine j_iadd X dL_law_267 ?_
      refine j_sald X dL_law_268 hXs hbl hbA (i + 2) (by omega) (by omega) (by omega) ?_
      refine j_callV (nn := 2) X dL_law_269 (c_X5_lose l D _ _ _ (s.heap.size + 232) _ _ G hM0 hMa (ti_b _) (ti_b _)) gL_law_X5_lose rfl ⟨rfl, rfl⟩ (by decide +kernel) ⟨Nat.le_of_ble_eq_true rfl, Nat.le_of_ble_eq_true rfl⟩ hM0.1 ⟨rfl, rfl⟩ rfl rfl (Nat.le_of_ble_eq_true rfl) ⟨by show _ ≤ 600000; omega, by show _ ≤ 7302250; omega⟩ (kI (fun z269 v269 h269 => ?_))
      obtain ⟨rfl, hMb, hfb⟩ := h269
      have hXb := hXa.kept (w := v269) (fun a _ _ => hfb a (by omega))
      refine j_icmp_same (tgt := 774) X dL_law_272 (by decide) ?_
      first
      | (have hXf := hXb; have hMf := hMb)
      | (have hXf := hXR; have hMf := hMX)
      refine j_iinc X dL_law_774 rfl rfl (Nat.le_of_ble_eq_true rfl) ?_
      refine j_goto (tgt := 18) X dL_law_777 (by decide) ?_
      exact ih18 (i + 5, _, _) (by (try dsimp only); exact ⟨by omega, hXf, hMf⟩) (by (try dsimp only); omega)
    by_cases cs32_5 : zs = 5
    · refine j_tabIn (tgt := 277) (off := 245) X dL_law_32 (by omega) (by omega) (by rw [cs32_5]; rfl) (by decide) ?_
      refine j_aload_n X dL_law_277 rfl ?_
      refine j_aload_n X dL_law_278 rfl ?_
      refine j_iload_n X dL_law_279 rfl ?_
      refine j_iconst X dL_law_280 ?_
      refine j_iadd X dL_law_281 ?_
      refine j_sald X dL_law_282 hXs hbl hbA (i + 1) (by omega) (by omega) (by omega) ?_
      refine j_aload_n X dL_law_283 rfl ?_
      refine j_iload_n X dL_law_284 rfl ?_
      refine j_iconst X dL_law_285 ?_
      refine j_iadd X dL_law_286 ?_
      refine j_sald X dL_law_287 hXs hbl hbA (i + 2) (by omega) (by omega) (by omega) ?_
      refine j_callV (nn := 2) X dL_law_288 (c_X4_again l D _ _ y (s.heap.size) _ _ G hX0 hXR (ti_b _) (ti_b _)) gL_law_X4_again rfl ⟨rfl, rfl⟩ (by decide +kernel) ⟨Nat.le_of_ble_eq_true rfl, Nat.le_of_ble_eq_true rfl⟩ hX0.1 ⟨rfl, rfl⟩ rfl rfl (Nat.le_of_ble_eq_true rfl) ⟨by show _ ≤ 600000; omega, by show _ ≤ 7302250; omega⟩ (kI (fun z288 v288 h288 => ?_))
      obtain ⟨rfl, hXa, hfa⟩ := h288
      have hMa := hMX.kept (w := v288) (fun a _ _ => hfa a (by omega))
      refine j_aload_n X dL_law_291 rfl ?_
      refine j_aload_n X dL_law_292 rfl ?_
      refine j_iload_n X dL_law_293 rfl ?_
      refine j_iconst X dL_law_294 ?_
      refine j_iadd X dL_law_295 ?_
      refine j_sald X dL_law_296 hXs hbl hbA (i + 1) (by omega) (by omega) (by omega) ?_
      refine j_aload_n X dL_law_297 rfl ?_
      refine j_iload_n X dL_law_298 rfl ?_
      refine j_iconst X dL_law_299 ?_
      refine j_iadd X dL_law_300 ?_
      refine j_sald X dL_law_301 hXs hbl hbA (i + 2) (by omega) (by omega) (by omega) ?_
      refine j_callV (nn := 2) X dL_law_302 (c_X5_again l D _ _ _ (s.heap.size + 232) _ _ G hM0 hMa (ti_b _) (ti_b _)) gL_law_X5_again rfl ⟨rfl, rfl⟩ (by decide +kernel) ⟨Nat.le_of_ble_eq_true rfl, Nat.le_of_ble_eq_true rfl⟩ hM0.1 ⟨rfl, rfl⟩ rfl rfl (Nat.le_of_ble_eq_true rfl) ⟨by show _ ≤ 600000; omega, by show _ ≤ 7302250; omega⟩ (kI (fun z302 v302 h302 => ?_))
      obtain ⟨rfl, hMb, hfb⟩ := h302
      have hXb := hXa.kept (w := v302) (fun a _ _ => hfb a (by omega))
      refine j_icmp_same (tgt := 774) X dL_law_305 (by decide) ?_
      first
      | (have hXf := hXb; have hMf := hMb)
      | (have hXf := hXR; have hMf := hMX)
      refine j_iinc X dL_law_774 rfl rfl (Nat.le_of_ble_eq_true rfl) ?_
      refine j_goto (tgt := 18) X dL_law_777 (by decide) ?_
      exact ih18 (i + 5, _, _) (by (try dsimp only); exact ⟨by omega, hXf, hMf⟩) (by (try dsimp only); omega)
    by_cases cs32_6 : zs = 6
    · refine j_tabIn (tgt := 310) (off := 278) X dL_law_32 (by omega) (by omega) (by rw [cs32_6]; rfl) (by decide) ?_
      refine j_aload_n X dL_law_310 rfl ?_
      refine j_aload_n X dL_law_311 rfl ?_
      refine j_iload_n X dL_law_312 rfl ?_
      refine j_iconst X dL_law_313 ?_
      refine j_iadd X dL_law_314 ?_
      refine j_sald X dL_law_315 hXs hbl hbA (i + 1) (by omega) (by omega) (by omega) ?_
      refine j_aload_n X dL_law_316 rfl ?_
      refine j_iload_n X dL_law_317 rfl ?_
      refine j_iconst X dL_law_318 ?_
      refine j_iadd X dL_law_319 ?_
      refine j_sald X dL_law_320 hXs hbl hbA (i + 2) (by omega) (by omega) (by omega) ?_
      refine j_aload_n X dL_law_321 rfl ?_
      refine j_iload_n X dL_law_322 rfl ?_
      refine j_iconst X dL_law_323 ?_
      refine j_iadd X dL_law_324 ?_
      refine j_sald X dL_law_325 hXs hbl hbA (i + 3) (by omega) (by omega) (by omega) ?_
      refine j_aload_n X dL_law_326 rfl ?_
      refine j_iload_n X dL_law_327 rfl ?_
      refine j_iconst X dL_law_328 ?_
      refine j_iadd X dL_law_329 ?_
      refine j_sald X dL_law_330 hXs hbl hbA (i + 4) (by omega) (by omega) (by omega) ?_
      refine j_if_eq (tgt := 338) X dL_law_331 (ti_b _) (by decide) (fun c331 => ?_) (fun c331 => ?_)
      · refine j_iconst X dL_law_338 ?_
        refine j_callV (nn := 4) X dL_law_339 (c_X4_hand l D _ _ y (s.heap.size) _ _ _ _ G hX0 hXR (ti_b _) (ti_b _) (ti_b _) (by first | exact Or.inl rfl | exact Or.inr rfl)) gL_law_X4_hand rfl ⟨rfl, rfl⟩ (by decide +kernel) ⟨Nat.le_of_ble_eq_true rfl, Nat.le_of_ble_eq_true rfl⟩ hX0.1 ⟨rfl, rfl⟩ rfl rfl (Nat.le_of_ble_eq_true rfl) ⟨by show _ ≤ 600000; omega, by show _ ≤ 7302250; omega⟩ (kI (fun z339 v339 h339 => ?_))
        obtain ⟨rfl, hXa, hfa⟩ := h339
        have hMa := hMX.kept (w := v339) (fun a _ _ => hfa a (by omega))
        refine j_aload_n X dL_law_342 rfl ?_
        refine j_aload_n X dL_law_343 rfl ?_
        refine j_iload_n X dL_law_344 rfl ?_
        refine j_iconst X dL_law_345 ?_
        refine j_iadd X dL_law_346 ?_
        refine j_sald X dL_law_347 hXs hbl hbA (i + 1) (by omega) (by omega) (by omega) ?_
        refine j_aload_n X dL_law_348 rfl ?_
        refine j_iload_n X dL_law_349 rfl ?_
        refine j_iconst X dL_law_350 ?_
        refine j_iadd X dL_law_351 ?_
        refine j_sald X dL_law_352 hXs hbl hbA (i + 2) (by omega) (by omega) (by omega) ?_
        refine j_aload_n X dL_law_353 rfl ?_
        refine j_iload_n X dL_law_354 rfl ?_
        refine j_iconst X dL_law_355 ?_
        refine j_iadd X dL_law_356 ?_
        refine j_sald X dL_law_357 hXs hbl hbA (i + 3) (by omega) (by omega) (by omega) ?_
        refine j_aload_n X dL_law_358 rfl ?_
        refine j_iload_n X dL_law_359 rfl ?_
        refine j_iconst X dL_law_360 ?_
        refine j_iadd X dL_law_361 ?_
        refine j_sald X dL_law_362 hXs hbl hbA (i + 4) (by omega) (by omega) (by omega) ?_
        refine j_if_eq (tgt := 370) X dL_law_363 (ti_b _) (by decide) (fun c363 => ?_) (fun c363 => ?_)
        · refine j_iconst X dL_law_370 ?_
          refine j_callV (nn := 4) X dL_law_371 (c_X5_hand l D _ _ _ (s.heap.size + 232) _ _ _ _ G hM0 hMa (ti_b _) (ti_b _) (ti_b _) (by first | exact Or.inl rfl | exact Or.inr rfl)) gL_law_X5_hand rfl ⟨rfl, rfl⟩ (by decide +kernel) ⟨Nat.le_of_ble_eq_true rfl, Nat.le_of_ble_eq_true rfl⟩ hM0.1 ⟨rfl, rfl⟩ rfl rfl (Nat.le_of_ble_eq_true rfl) ⟨by show _ ≤ 600000; omega, by show _ ≤ 7302250; omega⟩ (kI (fun z371 v371 h371 => ?_))
          obtain ⟨rfl, hMb, hfb⟩ := h371
          have hXb := hXa.kept (w := v371) (fun a _ _ => hfb a (by omega))
          refine j_icmp_same (tgt := 774) X dL_law_374 (by decide) ?_
          first
          | (have hXf := hXb; have hMf := hMb)
          | (have hXf := hXR; have hMf := hMX)
          refine j_iinc X dL_law_774 rfl rfl (Nat.le_of_ble_eq_true rfl) ?_
          refine j_goto (tgt := 18) X dL_law_777 (by decide) ?_
          exact ih18 (i + 5, _, _) (by (try dsimp only); exact ⟨by omega, hXf, hMf⟩) (by (try dsimp only); omega)
        · exfalso; omega
      · refine j_iconst X dL_law_334 ?_
        refine j_goto (tgt := 339) X dL_law_335 (by decide) ?_
        refine j_callV (nn := 4) X dL_law_339 (c_X4_hand l D _ _ y (s.heap.size) _ _ _ _ G hX0 hXR (ti_b _) (ti_b _) (ti_b _) (by first | exact Or.inl rfl | exact Or.inr rfl)) gL_law_X4_hand rfl ⟨rfl, rfl⟩ (by decide +kernel) ⟨Nat.le_of_ble_eq_true rfl, Nat.le_of_ble_eq_true rfl⟩ hX0.1 ⟨rfl, rfl⟩ rfl rfl (Nat.le_of_ble_eq_true rfl) ⟨by show _ ≤ 600000; omega, by show _ ≤ 7302250; omega⟩ (kI (fun z339 v339 h339 => ?_))
        obtain ⟨rfl, hXa, hfa⟩ := h339
        have hMa := hMX.kept (w := v339) (fun a _ _ => hfa a (by omega))
        refine j_aload_n X dL_law_342 rfl ?_
        refine j_aload_n X dL_law_343 rfl ?_
        refine j_iload_n X dL_law_344 rfl ?_
        refine j_iconst X dL_law_345 ?_
        refine j_iadd X dL_law_346 ?_
        refine j_sald X dL_law_347 hXs hbl hbA (i + 1) (by omega) (by omega) (by omega) ?_
        refine j_aload_n X dL_law_348 rfl ?_
        refine j_iload_n X dL_law_349 rfl ?_
        refine j_iconst X dL_law_350 ?_
        refine j_iadd X dL_law_351 ?_
        refine j_sald X dL_law_352 hXs hbl hbA (i + 2) (by omega) (by omega) (by omega) ?_
        refine j_aload_n X dL_law_353 rfl ?_
        refine j_iload_n X dL_law_354 rfl ?_
        refine j_iconst X dL_law_355 ?_
        refine j_iadd X dL_law_356 ?_
        refine j_sald X dL_law_357 hXs hbl hbA (i + 3) (by omega) (by omega) (by omega) ?_
        refine j_aload_n X dL_law_358 rfl ?_
        refine j_iload_n X dL_law_359 rfl ?_
        refine j_iconst X dL_law_360 ?_
        refine j_iadd X dL_law_361 ?_
        refine j_sald X dL_law_362 hXs hbl hbA (i + 4) (by omega) (by omega) (by omega) ?_
        refine j_if_eq (tgt := 370) X dL_law_363 (ti_b _) (by decide) (fun c363 => ?_) (fun c363 => ?_)
        · exfalso; omega
        · refine j_iconst X dL_law_366 ?_
          refine j_goto (tgt := 371) X dL_law_367 (by decide) ?_
          refine j_callV (nn := 4) X dL_law_371 (c_X5_hand l D _ _ _ (s.heap.size + 232) _ _ _ _ G hM0 hMa (ti_b _) (ti_b _) (ti_b _) (by first | exact Or.inl rfl | exact Or.inr rfl)) gL_law_X5_hand rfl ⟨rfl, rfl⟩ (by decide +kernel) ⟨Nat.le_of_ble_eq_true rfl, Nat.le_of_ble_eq_true rfl⟩ hM0.1 ⟨rfl, rfl⟩ rfl rfl (Nat.le_of_ble_eq_true rfl) ⟨by show _ ≤ 600000; omega, by show _ ≤ 7302250; omega⟩ (kI (fun z371 v371 h371 => ?_))
          obtain ⟨rfl, hMb, hfb⟩ := h371
          have hXb := hXa.kept (w := v371) (fun a _ _ => hfb a (by omega))
          refine j_icmp_same (tgt := 774) X dL_law_374 (by decide) ?_
          first
          | (have hXf := hXb; have hMf := hMb)
          | (have hXf := hXR; have hMf := hMX)
          refine j_iinc X dL_law_774 rfl rfl (Nat.le_of_ble_eq_true rfl) ?_
          refine j_goto (tgt := 18) X dL_law_777 (by decide) ?_
          exact ih18 (i + 5, _, _) (by (try dsimp only); exact ⟨by omega, hXf, hMf⟩) (by (try dsimp only); omega)
    by_cases cs32_7 : zs = 7
    · refine j_tabIn (tgt := 379) (off := 347) X dL_law_32 (by omega) (by omega) (by rw [cs32_7]; rfl) (by decide) ?_
      refine j_aload_n X dL_law_379 rfl ?_
      refine j_aload_n X dL_law_380 rfl ?_
      refine j_iload_n X dL_law_381 rfl ?_
      refine j_iconst X dL_law_382 ?_
      refine j_iadd X dL_law_383 ?_
      refine j_sald X dL_law_384 hXs hbl hbA (i + 1) (by omega) (by omega) (by omega) ?_
      refine j_aload_n X dL_law_385 rfl ?_
      refine j_iload_n X dL_law_386 rfl ?_
      refine j_iconst X dL_law_387 ?_
      refine j_iadd X dL_law_388 ?_
      refine j_sald X dL_law_389 hXs hbl hbA (i + 2) (by omega) (by omega) (by omega) ?_
      refine j_callV (nn := 2) X dL_law_390 (c_X4_parcel l D _ _ y (s.heap.size) _ _ G hX0 hXR (ti_b _) (ti_b _)) gL_law_X4_parcel rfl ⟨rfl, rfl⟩ (by decide +kernel) ⟨Nat.le_of_ble_eq_true rfl, Nat.le_of_ble_eq_true rfl⟩ hX0.1 ⟨rfl, rfl⟩ rfl rfl (Nat.le_of_ble_eq_true rfl) ⟨by show _ ≤ 600000; omega, by show _ ≤ 7302250; omega⟩ (kI (fun z390 v390 h390 => ?_))
      obtain ⟨rfl, rfl⟩ := h390
      have hXa := hXR
      have hMa := hMX
      refine j_aload_n X dL_law_393 rfl ?_
      refine j_aload_n X dL_law_394 rfl ?_
      refine j_iload_n X dL_law_395 rfl ?_
      refine j_iconst X dL_law_396 ?_
      refine j_iadd X dL_law_397 ?_
      refine j_sald X dL_law_398 hXs hbl hbA (i + 1) (by omega) (by omega) (by omega) ?_
      refine j_aload_n X dL_law_399 rfl ?_
      refine j_iload_n X dL_law_400 rfl ?_
      refine j_iconst X dL_law_401 ?_
      refine j_iadd X dL_law_402 ?_
      refine j_sald X dL_law_403 hXs hbl hbA (i + 2) (by omega) (by omega) (by omega) ?_
      refine j_callV (nn := 2) X dL_law_404 (c_X5_parcel l D _ _ _ (s.heap.size + 232) _ _ G hM0 hMa (ti_b _) (ti_b _)) gL_law_X5_parcel rfl ⟨rfl, rfl⟩ (by decide +kernel) ⟨Nat.le_of_ble_eq_true rfl, Nat.le_of_ble_eq_true rfl⟩ hM0.1 ⟨rfl, rfl⟩ rfl rfl (Nat.le_of_ble_eq_true rfl) ⟨by show _ ≤ 600000; omega, by show _ ≤ 7302250; omega⟩ (kI (fun z404 v404 h404 => ?_))
      obtain ⟨rfl, hMb, hfb⟩ := h404
      have hXb := hXa.kept (w := v404) (fun a _ _ => hfb a (by omega))
      refine j_icmp_same (tgt := 774) X dL_law_407 (by decide) ?_
      first
      | (have hXf := hXb; have hMf := hMb)
      | (have hXf := hXR; have hMf := hMX)
      refine j_iinc X dL_law_774 rfl rfl (Nat.le_of_ble_eq_true rfl) ?_
      refine j_goto (tgt := 18) X dL_law_777 (by decide) ?_
      exact ih18 (i + 5, _, _) (by (try dsimp only); exact ⟨by omega, hXf, hMf⟩) (by (try dsimp only); omega)
    by_cases cs32_8 : zs = 8
    · refine j_tabIn (tgt := 412) (off := 380) X dL_law_32 (by omega) (by omega) (by rw [cs32_8]; rfl) (by decide) ?_
      refine j_aload_n X dL_law_412 rfl ?_
      refine j_aload_n X dL_law_413 rfl ?_
      refine j_iload_n X dL_law_414 rfl ?_
      refine j_iconst X dL_law_415 ?_
      refine j_iadd X dL_law_416 ?_
      refine j_sald X dL_law_417 hXs hbl hbA (i + 1) (by omega) (by omega) (by omega) ?_
      refine j_callV (nn := 1) X dL_law_418 (c_X4_text l D _ _ y (s.heap.size) _ G hX0 hXR (ti_b _)) gL_law_X4_text rfl ⟨rfl, rfl⟩ (by decide +kernel) ⟨Nat.le_of_ble_eq_true rfl, Nat.le_of_ble_eq_true rfl⟩ hX0.1 ⟨rfl, rfl⟩ rfl rfl (Nat.le_of_ble_eq_true rfl) ⟨by show _ ≤ 600000; omega, by show _ ≤ 7302250; omega⟩ (kI (fun z418 v418 h418 => ?_))
      obtain ⟨rfl, rfl⟩ := h418
      have hXa := hXR
      have hMa := hMX
      refine j_aload_n X dL_law_421 rfl ?_
      refine j_aload_n X dL_law_422 rfl ?_
      refine j_iload_n X dL_law_423 rfl ?_
      refine j_iconst X dL_law_424 ?_
      refine j_iadd X dL_law_425 ?_
      refine j_sald X dL_law_426 hXs hbl hbA (i + 1) (by omega) (by omega) (by omega) ?_
      refine j_callV (nn := 1) X dL_law_427 (c_X5_text l D _ _ _ (s.heap.size + 232) _ G hM0 hMa (ti_b _)) gL_law_X5_text rfl ⟨rfl, rfl⟩ (by decide +kernel) ⟨Nat.le_of_ble_eq_true rfl, Nat.le_of_ble_eq_true rfl⟩ hM0.1 ⟨rfl, rfl⟩ rfl rfl (Nat.le_of_ble_eq_true rfl) ⟨by show _ ≤ 600000; omega, by show _ ≤ 7302250; omega⟩ (kI (fun z427 v427 h427 => ?_))
      obtain ⟨rfl, hMb, hfb⟩ := h427
      have hXb := hXa.kept (w := v427) (fun a _ _ => hfb a (by omega))
      refine j_icmp_same (tgt := 774) X dL_law_430 (by decide) ?_
      first
      | (have hXf := hXb; have hMf := hMb)
      | (have hXf := hXR; have hMf := hMX)
      refine j_iinc X dL_law_774 rfl rfl (Nat.le_of_ble_eq_true rfl) ?_
      refine j_goto (tgt := 18) X dL_law_777 (by decide) ?_
      exact ih18 (i + 5, _, _) (by (try dsimp only); exact ⟨by omega, hXf, hMf⟩) (by (try dsimp only); omega)
    by_cases cs32_9 : zs = 9
    · refine j_tabIn (tgt := 435) (off := 403) X dL_law_32 (by omega) (by omega) (by rw [cs32_9]; rfl) (by decide) ?_
      refine j_aload_n X dL_law_435 rfl ?_
      refine j_aload_n X dL_law_436 rfl ?_
      refine j_iload_n X dL_law_437 rfl ?_
      refine j_iconst X dL_law_438 ?_
      refine j_iadd X dL_law_439 ?_
      refine j_sald X dL_law_440 hXs hbl hbA (i + 1) (by omega) (by omega) (by omega) ?_
      refine j_aload_n X dL_law_441 rfl ?_
      refine j_iload_n X dL_law_442 rfl ?_
      refine j_iconst X dL_law_443 ?_
      refine j_iadd X dL_law_444 ?_
      refine j_sald X dL_law_445 hXs hbl hbA (i + 2) (by omega) (by omega) (by omega) ?_
      refine j_aload_n X dL_law_446 rfl ?_
      refine j_iload_n X dL_law_447 rfl ?_
      refine j_iconst X dL_law_448 ?_
      refine j_iadd X dL_law_449 ?_
      refine j_sald X dL_law_450 hXs hbl hbA (i + 3) (by omega) (by omega) (by omega) ?_
      refine j_callV (nn := 3) X dL_law_451 (c_X4_leaf l D _ _ y (s.heap.size) _ _ _ G hX0 hXR (ti_b _) (ti_b _) (ti_b _)) gL_law_X4_leaf rfl ⟨rfl, rfl⟩ (by decide +kernel) ⟨Nat.le_of_ble_eq_true rfl, Nat.le_of_ble_eq_true rfl⟩ hX0.1 ⟨rfl, rfl⟩ rfl rfl (Nat.le_of_ble_eq_true rfl) ⟨by show _ ≤ 600000; omega, by show _ ≤ 7302250; omega⟩ (kI (fun z451 v451 h451 => ?_))
      obtain ⟨rfl, rfl⟩ := h451
      have hXa := hXR
      have hMa := hMX
      refine j_aload_n X dL_law_454 rfl ?_
      refine j_aload_n X dL_law_455 rfl ?_
      refine j_iload_n X dL_law_456 rfl ?_
      refine j_iconst X dL_law_457 ?_
      refine j_iadd X dL_law_458 ?_
      refine j_sald X dL_law_459 hXs hbl hbA (i + 1) (by omega) (by omega) (by omega) ?_
      refine j_aload_n X dL_law_460 rfl ?_
      refine j_iload_n X dL_law_461 rfl ?_
      refine j_iconst X dL_law_462 ?_
      refine j_iadd X dL_law_463 ?_
      refine j_sald X dL_law_464 hXs hbl hbA (i + 2) (by omega) (by omega) (by omega) ?_
      refine j_aload_n X dL_law_465 rfl ?_
      refine j_iload_n X dL_law_466 rfl ?_
      refine j_iconst X dL_law_467 ?_
      refine j_iadd X dL_law_468 ?_
      refine j_sald X dL_law_469 hXs hbl hbA (i + 3) (by omega) (by omega) (by omega) ?_
      refine j_callV (nn := 3) X dL_law_470 (c_X5_leaf l D _ _ _ (s.heap.size + 232) _ _ _ G hM0 hMa (ti_b _) (ti_b _) (ti_b _)) gL_law_X5_leaf rfl ⟨rfl, rfl⟩ (by decide +kernel) ⟨Nat.le_of_ble_eq_true rfl, Nat.le_of_ble_eq_true rfl⟩ hM0.1 ⟨rfl, rfl⟩ rfl rfl (Nat.le_of_ble_eq_true rfl) ⟨by show _ ≤ 600000; omega, by show _ ≤ 7302250; omega⟩ (kI (fun z470 v470 h470 => ?_))
      obtain ⟨rfl, hMb, hfb⟩ := h470
      have hXb := hXa.kept (w := v470) (fun a _ _ => hfb a (by omega))
      refine j_icmp_same (tgt := 774) X dL_law_473 (by decide) ?_
      first
      | (have hXf := hXb; have hMf := hMb)
      | (have hXf := hXR; have hMf := hMX)
      refine j_iinc X dL_law_774 rfl rfl (Nat.le_of_ble_eq_true rfl) ?_
      refine j_goto (tgt := 18) X dL_law_777 (by decide) ?_
      exact ih18 (i + 5, _, _) (by (try dsimp only); exact ⟨by omega, hXf, hMf⟩) (by (try dsimp only); omega)
    by_cases cs32_10 : zs = 10
    · refine j_tabIn (tgt := 478) (off := 446) X dL_law_32 (by omega) (by omega) (by rw [cs32_10]; rfl) (by decide) ?_
      refine j_aload_n X dL_law_478 rfl ?_
      refine j_aload_n X dL_law_479 rfl ?_
      refine j_iload_n X dL_law_480 rfl ?_
      refine j_iconst X dL_law_481 ?_
      refine j_iadd X dL_law_482 ?_
      refine j_sald X dL_law_483 hXs hbl hbA (i + 1) (by omega) (by omega) (by omega) ?_
      refine j_aload_n X dL_law_484 rfl ?_
      refine j_iload_n X dL_law_485 rfl ?_
      refine j_iconst X dL_law_486 ?_
      refine j_iadd X dL_law_487 ?_
      refine j_sald X dL_law_488 hXs hbl hbA (i + 2) (by omega) (by omega) (by omega) ?_
      refine j_callV (nn := 2) X dL_law_489 (c_X4_of l D _ _ y (s.heap.size) _ _ G hX0 hXR (ti_b _) (ti_b _)) gL_law_X4_of rfl ⟨rfl, rfl⟩ (by decide +kernel) ⟨Nat.le_of_ble_eq_true rfl, Nat.le_of_ble_eq_true rfl⟩ hX0.1 ⟨rfl, rfl⟩ rfl rfl (Nat.le_of_ble_eq_true rfl) ⟨by show _ ≤ 600000; omega, by show _ ≤ 7302250; omega⟩ (kI (fun z489 v489 h489 => ?_))
      obtain ⟨rfl, rfl⟩ := h489
      have hXa := hXR
      have hMa := hMX
      refine j_aload_n X dL_law_492 rfl ?_
      refine j_aload_n X dL_law_493 rfl ?_
      refine j_iload_n X dL_law_494 rfl ?_
      refine j_iconst X dL_law_495 ?_
      refine j_iadd X dL_law_496 ?_
      refine j_sald X dL_law_497 hXs hbl hbA (i + 1) (by omega) (by omega) (by omega) ?_
      refine j_aload_n X dL_law_498 rfl ?_
      refine j_iload_n X dL_law_499 rfl ?_
      refine j_iconst X dL_law_500 ?_
      refine j_iadd X dL_law_501 ?_
      refine j_sald X dL_law_502 hXs hbl hbA (i + 2) (by omega) (by omega) (by omega) ?_
      refine j_callV (nn := 2) X dL_law_503 (c_X5_of l D _ _ _ (s.heap.size + 232) _ _ G hM0 hMa (ti_b _) (ti_b _)) gL_law_X5_of rfl ⟨rfl, rfl⟩ (by decide +kernel) ⟨Nat.le_of_ble_eq_true rfl, Nat.le_of_ble_eq_true rfl⟩ hM0.1 ⟨rfl, rfl⟩ rfl rfl (Nat.le_of_ble_eq_true rfl) ⟨by show _ ≤ 600000; omega, by show _ ≤ 7302250; omega⟩ (kI (fun z503 v503 h503 => ?_))
      obtain ⟨rfl, hMb, hfb⟩ := h503
      have hXb := hXa.kept (w := v503) (fun a _ _ => hfb a (by omega))
      refine j_icmp_same (tgt := 774) X dL_law_506 (by decide) ?_
      first
      | (have hXf := hXb; have hMf := hMb)
      | (have hXf := hXR; have hMf := hMX)
      refine j_iinc X dL_law_774 rfl rfl (Nat.le_of_ble_eq_true rfl) ?_
      refine j_goto (tgt := 18) X dL_law_777 (by decide) ?_
      exact ih18 (i + 5, _, _) (by (try dsimp only); exact ⟨by omega, hXf, hMf⟩) (by (try dsimp only); omega)
    by_cases cs32_11 : zs = 11
    · refine j_tabIn (tgt := 511) (off := 479) X dL_law_32 (by omega) (by omega) (by rw [cs32_11]; rfl) (by decide) ?_
      refine j_aload_n X dL_law_511 rfl ?_
      refine j_aload_n X dL_law_512 rfl ?_
      refine j_iload_n X dL_law_513 rfl ?_
      refine j_iconst X dL_law_514 ?_
      refine j_iadd X dL_law_515 ?_
      refine j_sald X dL_law_516 hXs hbl hbA (i + 1) (by omega) (by omega) (by omega) ?_
      refine j_callV (nn := 1) X dL_law_517 (c_X4_count l D _ _ y (s.heap.size) _ G hX0 hXR (ti_b _)) gL_law_X4_count rfl ⟨rfl, rfl⟩ (by decide +kernel) ⟨Nat.le_of_ble_eq_true rfl, Nat.le_of_ble_eq_true rfl⟩ hX0.1 ⟨rfl, rfl⟩ rfl rfl (Nat.le_of_ble_eq_true rfl) ⟨by show _ ≤ 600000; omega, by show _ ≤ 7302250; omega⟩ (kI (fun z517 v517 h517 => ?_))
      obtain ⟨rfl, rfl⟩ := h517
      have hXa := hXR
      have hMa := hMX
      refine j_aload_n X dL_law_520 rfl ?_
      refine j_aload_n X dL_law_521 rfl ?_
      refine j_iload_n X dL_law_522 rfl ?_
      refine j_iconst X dL_law_523 ?_
      refine j_iadd X dL_law_524 ?_
      refine j_sald X dL_law_525 hXs hbl hbA (i + 1) (by omega) (by omega) (by omega) ?_
      refine j_callV (nn := 1) X dL_law_526 (c_X5_count l D _ _ _ (s.heap.size + 232) _ G hM0 hMa (ti_b _)) gL_law_X5_count rfl ⟨rfl, rfl⟩ (by decide +kernel) ⟨Nat.le_of_ble_eq_true rfl, Nat.le_of_ble_eq_true rfl⟩ hM0.1 ⟨rfl, rfl⟩ rfl rfl (Nat.le_of_ble_eq_true rfl) ⟨by show _ ≤ 600000; omega, by show _ ≤ 7302250; omega⟩ (kI (fun z526 v526 h526 => ?_))
      obtain ⟨rfl, hMb, hfb⟩ := h526
      have hXb := hXa.kept (w := v526) (fun a _ _ => hfb a (by omega))
      refine j_icmp_same (tgt := 774) X dL_law_529 (by decide) ?_
      first
      | (have hXf := hXb; have hMf := hMb)
      | (have hXf := hXR; have hMf := hMX)
      refine j_iinc X dL_law_774 rfl rfl (Nat.le_of_ble_eq_true rfl) ?_
      refine j_goto (tgt := 18) X dL_law_777 (by decide) ?_
      exact ih18 (i + 5, _, _) (by (try dsimp only); exact ⟨by omega, hXf, hMf⟩) (by (try dsimp only); omega)
    by_cases cs32_12 : zs = 12
    · refine j_tabIn (tgt := 534) (off := 502) X dL_law_32 (by omega) (by omega) (by rw [cs32_12]; rfl) (by decide) ?_
      refine j_aload_n X dL_law_534 rfl ?_
      refine j_aload_n X dL_law_535 rfl ?_
      refine j_iload_n X dL_law_536 rfl ?_
      refine j_iconst X dL_law_537 ?_
      refine j_iadd X dL_law_538 ?_
      refine j_sald X dL_law_539 hXs hbl hbA (i + 1) (by omega) (by omega) (by omega) ?_
      refine j_aload_n X dL_law_540 rfl ?_
      refine j_iload_n X dL_law_541 rfl ?_
      refine j_iconst X dL_law_542 ?_
      refine j_iadd X dL_law_543 ?_
      refine j_sald X dL_law_544 hXs hbl hbA (i + 2) (by omega) (by omega) (by omega) ?_
      refine j_callV (nn := 2) X dL_law_545 (c_X4_ifDone l D _ _ y (s.heap.size) _ _ G hX0 hXR (ti_b _) (ti_b _)) gL_law_X4_ifDone rfl ⟨rfl, rfl⟩ (by decide +kernel) ⟨Nat.le_of_ble_eq_true rfl, Nat.le_of_ble_eq_true rfl⟩ hX0.1 ⟨rfl, rfl⟩ rfl rfl (Nat.le_of_ble_eq_true rfl) ⟨by show _ ≤ 600000; omega, by show _ ≤ 7302250; omega⟩ (kI (fun z545 v545 h545 => ?_))
      obtain ⟨rfl, hXa, hfa⟩ := h545
      have hMa := hMX.kept (w := v545) (fun a _ _ => hfa a (by omega))
      refine j_aload_n X dL_law_548 rfl ?_
      refine j_aload_n X dL_law_549 rfl ?_
      refine j_iload_n X dL_law_550 rfl ?_
      refine j_iconst X dL_law_551 ?_
      refine j_iadd X dL_law_552 ?_
      refine j_sald X dL_law_553 hXs hbl hbA (i + 1) (by omega) (by omega) (by omega) ?_
      refine j_aload_n X dL_law_554 rfl ?_
      refine j_iload_n X dL_law_555 rfl ?_
      refine j_iconst X dL_law_556 ?_
      refine j_iadd X dL_law_557 ?_
      refine j_sald X dL_law_558 hXs hbl hbA (i + 2) (by omega) (by omega) (by omega) ?_
      refine j_callV (nn := 2) X dL_law_559 (c_X5_ifDone l D _ _ _ (s.heap.size + 232) _ _ G hM0 hMa (ti_b _) (ti_b _)) gL_law_X5_ifDone rfl ⟨rfl, rfl⟩ (by decide +kernel) ⟨Nat.le_of_ble_eq_true rfl, Nat.le_of_ble_eq_true rfl⟩ hM0.1 ⟨rfl, rfl⟩ rfl rfl (Nat.le_of_ble_eq_true rfl) ⟨by show _ ≤ 600000; omega, by show _ ≤ 7302250; omega⟩ (kI (fun z559 v559 h559 => ?_))
      obtain ⟨rfl, hMb, hfb⟩ := h559
      have hXb := hXa.kept (w := v559) (fun a _ _ => hfb a (by omega))
      refine j_icmp_same (tgt := 774) X dL_law_562 (by decide) ?_
      first
      | (have hXf := hXb; have hMf := hMb)
      | (have hXf := hXR; have hMf := hMX)
      refine j_iinc X dL_law_774 rfl rfl (Nat.le_of_ble_eq_true rfl) ?_
      refine j_goto (tgt := 18) X dL_law_777 (by decide) ?_
      exact ih18 (i + 5, _, _) (by (try dsimp only); exact ⟨by omega, hXf, hMf⟩) (by (try dsimp only); omega)
    by_cases cs32_13 : zs = 13
    · refine j_tabIn (tgt := 567) (off := 535) X dL_law_32 (by omega) (by omega) (by rw [cs32_13]; rfl) (by decide) ?_
      refine j_aload_n X dL_law_567 rfl ?_
      refine j_aload_n X dL_law_568 rfl ?_
      refine j_iload_n X dL_law_569 rfl ?_
      refine j_iconst X dL_law_570 ?_
      refine j_iadd X dL_law_571 ?_
      refine j_sald X dL_law_572 hXs hbl hbA (i + 1) (by omega) (by omega) (by omega) ?_
      refine j_callV (nn := 1) X dL_law_573 (c_X4_ifAllDone l D _ _ y (s.heap.size) _ G hX0 hXR (ti_b _)) gL_law_X4_ifAllDone rfl ⟨rfl, rfl⟩ (by decide +kernel) ⟨Nat.le_of_ble_eq_true rfl, Nat.le_of_ble_eq_true rfl⟩ hX0.1 ⟨rfl, rfl⟩ rfl rfl (Nat.le_of_ble_eq_true rfl) ⟨by show _ ≤ 600000; omega, by show _ ≤ 7302250; omega⟩ (kI (fun z573 v573 h573 => ?_))
      obtain ⟨rfl, hXa, hfa⟩ := h573
      have hMa := hMX.kept (w := v573) (fun a _ _ => hfa a (by omega))
      refine j_aload_n X dL_law_576 rfl ?_
      refine j_aload_n X dL_law_577 rfl ?_
      refine j_iload_n X dL_law_578 rfl ?_
      refine j_iconst X dL_law_579 ?_
      refine j_iadd X dL_law_580 ?_
      refine j_sald X dL_law_581 hXs hbl hbA (i + 1) (by omega) (by omega) (by omega) ?_
      refine j_callV (nn := 1) X dL_law_582 (c_X5_ifAllDone l D _ _ _ (s.heap.size + 232) _ G hM0 hMa (ti_b _)) gL_law_X5_ifAllDone rfl ⟨rfl, rfl⟩ (by decide +kernel) ⟨Nat.le_of_ble_eq_true rfl, Nat.le_of_ble_eq_true rfl⟩ hM0.1 ⟨rfl, rfl⟩ rfl rfl (Nat.le_of_ble_eq_true rfl) ⟨by show _ ≤ 600000; omega, by show _ ≤ 7302250; omega⟩ (kI (fun z582 v582 h582 => ?_))
      obtain ⟨rfl, hMb, hfb⟩ := h582
      have hXb := hXa.kept (w := v582) (fun a _ _ => hfb a (by omega))
      refine j_icmp_same (tgt := 774) X dL_law_585 (by decide) ?_
      first
      | (have hXf := hXb; have hMf := hMb)
      | (have hXf := hXR; have hMf := hMX)
      refine j_iinc X dL_law_774 rfl rfl (Nat.le_of_ble_eq_true rfl) ?_
      refine j_goto (tgt := 18) X dL_law_777 (by decide) ?_
      exact ih18 (i + 5, _, _) (by (try dsimp only); exact ⟨by omega, hXf, hMf⟩) (by (try dsimp only); omega)
    by_cases cs32_14 : zs = 14
    · refine j_tabIn (tgt := 590) (off := 558) X dL_law_32 (by omega) (by omega) (by rw [cs32_14]; rfl) (by decide) ?_
      refine j_aload_n X dL_law_590 rfl ?_
      refine j_aload_n X dL_law_591 rfl ?_
      refine j_iload_n X dL_law_592 rfl ?_
      refine j_iconst X dL_law_593 ?_
      refine j_iadd X dL_law_594 ?_
      refine j_sald X dL_law_595 hXs hbl hbA (i + 1) (by omega) (by omega) (by omega) ?_
      refine j_callV (nn := 1) X dL_law_596 (c_X4_mending l D _ _ y (s.heap.size) _ G hX0 hXR (ti_b _)) gL_law_X4_mending rfl ⟨rfl, rfl⟩ (by decide +kernel) ⟨Nat.le_of_ble_eq_true rfl, Nat.le_of_ble_eq_true rfl⟩ hX0.1 ⟨rfl, rfl⟩ rfl rfl (Nat.le_of_ble_eq_true rfl) ⟨by show _ ≤ 600000; omega, by show _ ≤ 7302250; omega⟩ (kI (fun z596 v596 h596 => ?_))
      obtain ⟨rfl, hXa, hfa⟩ := h596
      have hMa := hMX.kept (w := v596) (fun a _ _ => hfa a (by omega))
      refine j_aload_n X dL_law_599 rfl ?_
      refine j_aload_n X dL_law_600 rfl ?_
      refine j_iload_n X dL_law_601 rfl ?_
      refine j_iconst X dL_law_602 ?_
      refine j_iadd X dL_law_603 ?_
      refine j_sald X dL_law_604 hXs hbl hbA (i + 1) (by omega) (by omega) (by omega) ?_
      refine j_callV (nn := 1) X dL_law_605 (c_X5_mending l D _ _ _ (s.heap.size + 232) _ G hM0 hMa (ti_b _)) gL_law_X5_mending rfl ⟨rfl, rfl⟩ (by decide +kernel) ⟨Nat.le_of_ble_eq_true rfl, Nat.le_of_ble_eq_true rfl⟩ hM0.1 ⟨rfl, rfl⟩ rfl rfl (Nat.le_of_ble_eq_true rfl) ⟨by show _ ≤ 600000; omega, by show _ ≤ 7302250; omega⟩ (kI (fun z605 v605 h605 => ?_))
      obtain ⟨rfl, hMb, hfb⟩ := h605
      have hXb := hXa.kept (w := v605) (fun a _ _ => hfb a (by omega))
      refine j_icmp_same (tgt := 774) X dL_law_608 (by decide) ?_
      first
      | (have hXf := hXb; have hMf := hMb)
      | (have hXf := hXR; have hMf := hMX)
      refine j_iinc X dL_law_774 rfl rfl (Nat.le_of_ble_eq_true rfl) ?_
      refine j_goto (tgt := 18) X dL_law_777 (by decide) ?_
      exact ih18 (i + 5, _, _) (by (try dsimp only); exact ⟨by omega, hXf, hMf⟩) (by (try dsimp only); omega)
    by_cases cs32_15 : zs = 15
    · refine j_tabIn (tgt := 613) (off := 581) X dL_law_32 (by omega) (by omega) (by rw [cs32_15]; rfl) (by decide) ?_
      refine j_aload_n X dL_law_613 rfl ?_
      refine j_aload_n X dL_law_614 rfl ?_
      refine j_iload_n X dL_law_615 rfl ?_
      refine j_iconst X dL_law_616 ?_
      refine j_iadd X dL_law_617 ?_
      refine j_sald X dL_law_618 hXs hbl hbA (i + 1) (by omega) (by omega) (by omega) ?_
      refine j_callV (nn := 1) X dL_law_619 (c_X4_rightFrom l D _ _ y (s.heap.size) _ G hX0 hXR (ti_b _)) gL_law_X4_rightFrom rfl ⟨rfl, rfl⟩ (by decide +kernel) ⟨Nat.le_of_ble_eq_true rfl, Nat.le_of_ble_eq_true rfl⟩ hX0.1 ⟨rfl, rfl⟩ rfl rfl (Nat.le_of_ble_eq_true rfl) ⟨by show _ ≤ 600000; omega, by show _ ≤ 7302250; omega⟩ (kI (fun z619 v619 h619 => ?_))
      obtain ⟨rfl, hXa, hfa⟩ := h619
      have hMa := hMX.kept (w := v619) (fun a _ _ => hfa a (by omega))
      refine j_aload_n X dL_law_622 rfl ?_
      refine j_aload_n X dL_law_623 rfl ?_
      refine j_iload_n X dL_law_624 rfl ?_
      refine j_iconst X dL_law_625 ?_
      refine j_iadd X dL_law_626 ?_
      refine j_sald X dL_law_627 hXs hbl hbA (i + 1) (by omega) (by omega) (by omega) ?_
      refine j_callV (nn := 1) X dL_law_628 (c_X5_rightFrom l D _ _ _ (s.heap.size + 232) _ G hM0 hMa (ti_b _)) gL_law_X5_rightFrom rfl ⟨rfl, rfl⟩ (by decide +kernel) ⟨Nat.le_of_ble_eq_true rfl, Nat.le_of_ble_eq_true rfl⟩ hM0.1 ⟨rfl, rfl⟩ rfl rfl (Nat.le_of_ble_eq_true rfl) ⟨by show _ ≤ 600000; omega, by show _ ≤ 7302250; omega⟩ (kI (fun z628 v628 h628 => ?_))
      obtain ⟨rfl, hMb, hfb⟩ := h628
      have hXb := hXa.kept (w := v628) (fun a _ _ => hfb a (by omega))
      refine j_icmp_same (tgt := 774) X dL_law_631 (by decide) ?_
      first
      | (have hXf := hXb; have hMf := hMb)
      | (have hXf := hXR; have hMf := hMX)
      refine j_iinc X dL_law_774 rfl rfl (Nat.le_of_ble_eq_true rfl) ?_
      refine j_goto (tgt := 18) X dL_law_777 (by decide) ?_
      exact ih18 (i + 5, _, _) (by (try dsimp only); exact ⟨by omega, hXf, hMf⟩) (by (try dsimp only); omega)
    by_cases cs32_16 : zs = 16
    · refine j_tabIn (tgt := 636) (off := 604) X dL_law_32 (by omega) (by omega) (by rw [cs32_16]; rfl) (by decide) ?_
      refine j_aload_n X dL_law_636 rfl ?_
      refine j_aload_n X dL_law_637 rfl ?_
      refine j_iload_n X dL_law_638 rfl ?_
      refine j_iconst X dL_law_639 ?_
      refine j_iadd X dL_law_640 ?_
      refine j_sald X dL_law_641 hXs hbl hbA (i + 1) (by omega) (by omega) (by omega) ?_
      refine j_i2l X dL_law_642 rfl ?_
      refine j_bipush X dL_law_643 (by decide) ?_
      refine j_lshl X dL_law_645 rfl ?_
      refine j_aload_n X dL_law_646 rfl ?_
      refine j_iload_n X dL_law_647 rfl ?_
      refine j_iconst X dL_law_648 ?_
      refine j_iadd X dL_law_649 ?_
      refine j_sald X dL_law_650 hXs hbl hbA (i + 2) (by omega) (by omega) (by omega) ?_
      refine j_i2l X dL_law_651 rfl ?_
      refine j_ldc2 X (w := 4294967295) dL_law_652 (by decide +kernel) ?_
      refine j_land X dL_law_655 rfl ?_
      refine j_lor X dL_law_656 rfl ?_
      refine j_topw (fun w hw ew => ?_)
      refine j_callV (nn := 1) X dL_law_657 (c_X4_put l D _ _ y (s.heap.size) w G hX0 hXR hw) gL_law_X4_put rfl ⟨rfl, rfl⟩ (by decide +kernel) ⟨Nat.le_of_ble_eq_true rfl, Nat.le_of_ble_eq_true rfl⟩ hX0.1 ⟨rfl, rfl⟩ rfl rfl (Nat.le_of_ble_eq_true rfl) ⟨by show _ ≤ 600000; omega, by show _ ≤ 7302250; omega⟩ (kI (fun z657 v657 h657 => ?_))
      obtain ⟨rfl, hXa, hfa⟩ := h657
      have hMa := hMX.kept (w := v657) (fun a _ _ => hfa a (by omega))
      refine j_aload_n X dL_law_660 rfl ?_
      refine j_aload_n X dL_law_661 rfl ?_
      refine j_iload_n X dL_law_662 rfl ?_
      refine j_iconst X dL_law_663 ?_
      refine j_iadd X dL_law_664 ?_
      refine j_sald X dL_law_665 hXs hbl hbA (i + 1) (by omega) (by omega) (by omega) ?_
      refine j_i2l X dL_law_666 rfl ?_
      refine j_bipush X dL_law_667 (by decide) ?_
      refine j_lshl X dL_law_669 rfl ?_
      refine j_aload_n X dL_law_670 rfl ?_
      refine j_iload_n X dL_law_671 rfl ?_
      refine j_iconst X dL_law_672 ?_
      refine j_iadd X dL_law_673 ?_
      refine j_sald X dL_law_674 hXs hbl hbA (i + 2) (by omega) (by omega) (by omega) ?_
      refine j_i2l X dL_law_675 rfl ?_
      refine j_ldc2 X (w := 4294967295) dL_law_676 (by decide +kernel) ?_
      refine j_land X dL_law_679 rfl ?_
      refine j_lor X dL_law_680 rfl ?_
      refine j_topl ew ?_
      refine j_callV (nn := 1) X dL_law_681 (c_X5_put l D _ _ _ (s.heap.size + 232) w G hM0 hMa hw) gL_law_X5_put rfl ⟨rfl, rfl⟩ (by decide +kernel) ⟨Nat.le_of_ble_eq_true rfl, Nat.le_of_ble_eq_true rfl⟩ hM0.1 ⟨rfl, rfl⟩ rfl rfl (Nat.le_of_ble_eq_true rfl) ⟨by show _ ≤ 600000; omega, by show _ ≤ 7302250; omega⟩ (kI (fun z681 v681 h681 => ?_))
      obtain ⟨rfl, hMb, hfb⟩ := h681
      have hXb := hXa.kept (w := v681) (fun a _ _ => hfb a (by omega))
      refine j_icmp_same (tgt := 774) X dL_law_684 (by decide) ?_
      first
      | (have hXf := hXb; have hMf := hMb)
      | (have hXf := hXR; have hMf := hMX)
      refine j_iinc X dL_law_774 rfl rfl (Nat.le_of_ble_eq_true rfl) ?_
      refine j_goto (tgt := 18) X dL_law_777 (by decide) ?_
      exact ih18 (i + 5, _, _) (by (try dsimp only); exact ⟨by omega, hXf, hMf⟩) (by (try dsimp only); omega)
    by_cases cs32_17 : zs = 17
    · refine j_tabIn (tgt := 689) (off := 657) X dL_law_32 (by omega) (by omega) (by rw [cs32_17]; rfl) (by decide) ?_
      refine j_aload_n X dL_law_689 rfl ?_
      refine j_callV (nn := 0) X dL_law_690 (c_X4_wipe l D _ _ y (s.heap.size)  G hX0 hXR ) gL_law_X4_wipe rfl ⟨rfl, rfl⟩ (by decide +kernel) ⟨Nat.le_of_ble_eq_true rfl, Nat.le_of_ble_eq_true rfl⟩ hX0.1 ⟨rfl, rfl⟩ rfl rfl (Nat.le_of_ble_eq_true rfl) ⟨by show _ ≤ 600000; omega, by show _ ≤ 7302250; omega⟩ (kI (fun z690 v690 h690 => ?_))
      obtain ⟨rfl, hXa, hfa⟩ := h690
      have hMa := hMX.kept (w := v690) (fun a _ _ => hfa a (by omega))
      refine j_aload_n X dL_law_693 rfl ?_
      refine j_callV (nn := 0) X dL_law_694 (c_X5_wipe l D _ _ _ (s.heap.size + 232)  G hM0 hMa ) gL_law_X5_wipe rfl ⟨rfl, rfl⟩ (by decide +kernel) ⟨Nat.le_of_ble_eq_true rfl, Nat.le_of_ble_eq_true rfl⟩ hM0.1 ⟨rfl, rfl⟩ rfl rfl (Nat.le_of_ble_eq_true rfl) ⟨by show _ ≤ 600000; omega, by show _ ≤ 7302250; omega⟩ (kI (fun z694 v694 h694 => ?_))
      obtain ⟨rfl, hMb, hfb⟩ := h694
      have hXb := hXa.kept (w := v694) (fun a _ _ => hfb a (by omega))
      refine j_icmp_same (tgt := 774) X dL_law_697 (by decide) ?_
      first
      | (have hXf := hXb; have hMf := hMb)
      | (have hXf := hXR; have hMf := hMX)
      refine j_iinc X dL_law_774 rfl rfl (Nat.le_of_ble_eq_true rfl) ?_
      refine j_goto (tgt := 18) X dL_law_777 (by decide) ?_
      exact ih18 (i + 5, _, _) (by (try dsimp only); exact ⟨by omega, hXf, hMf⟩) (by (try dsimp only); omega)
    by_cases cs32_18 : zs = 18
    · refine j_tabIn (tgt := 702) (off := 670) X dL_law_32 (by omega) (by omega) (by rw [cs32_18]; rfl) (by decide) ?_
      refine j_aload_n X dL_law_702 rfl ?_
      refine j_callV (nn := 0) X dL_law_703 (c_X4_fault l D _ _ y (s.heap.size)  G hX0 hXR ) gL_law_X4_fault rfl ⟨rfl, rfl⟩ (by decide +kernel) ⟨Nat.le_of_ble_eq_true rfl, Nat.le_of_ble_eq_true rfl⟩ hX0.1 ⟨rfl, rfl⟩ rfl rfl (Nat.le_of_ble_eq_true rfl) ⟨by show _ ≤ 600000; omega, by show _ ≤ 7302250; omega⟩ (kI (fun z703 v703 h703 => ?_))
      obtain ⟨rfl, rfl⟩ := h703
      have hXa := hXR
      have hMa := hMX
      refine j_aload_n X dL_law_706 rfl ?_
      refine j_callV (nn := 0) X dL_law_707 (c_X5_fault l D _ _ _ (s.heap.size + 232)  G hM0 hMa ) gL_law_X5_fault rfl ⟨rfl, rfl⟩ (by decide +kernel) ⟨Nat.le_of_ble_eq_true rfl, Nat.le_of_ble_eq_true rfl⟩ hM0.1 ⟨rfl, rfl⟩ rfl rfl (Nat.le_of_ble_eq_true rfl) ⟨by show _ ≤ 600000; omega, by show _ ≤ 7302250; omega⟩ (kI (fun z707 v707 h707 => ?_))
      obtain ⟨rfl, hMb, hfb⟩ := h707
      have hXb := hXa.kept (w := v707) (fun a _ _ => hfb a (by omega))
      refine j_icmp_same (tgt := 774) X dL_law_710 (by decide) ?_
      first
      | (have hXf := hXb; have hMf := hMb)
      | (have hXf := hXR; have hMf := hMX)
      refine j_iinc X dL_law_774 rfl rfl (Nat.le_of_ble_eq_true rfl) ?_
      refine j_goto (tgt := 18) X dL_law_777 (by decide) ?_
      exact ih18 (i + 5, _, _) (by (try dsimp only); exact ⟨by omega, hXf, hMf⟩) (by (try dsimp only); omega)
    by_cases cs32_19 : zs = 19
    · refine j_tabIn (tgt := 715) (off := 683) X dL_law_32 (by omega) (by omega) (by rw [cs32_19]; rfl) (by decide) ?_
      refine j_aload_n X dL_law_715 rfl ?_
      refine j_callV (nn := 0) X dL_law_716 (c_X4_undo l D _ _ y (s.heap.size)  G hX0 hXR ) gL_law_X4_undo rfl ⟨rfl, rfl⟩ (by decide +kernel) ⟨Nat.le_of_ble_eq_true rfl, Nat.le_of_ble_eq_true rfl⟩ hX0.1 ⟨rfl, rfl⟩ rfl rfl (Nat.le_of_ble_eq_true rfl) ⟨by show _ ≤ 600000; omega, by show _ ≤ 7302250; omega⟩ (kI (fun z716 v716 h716 => ?_))
      obtain ⟨rfl, hXa, hfa⟩ := h716
      have hMa := hMX.kept (w := v716) (fun a _ _ => hfa a (by omega))
      refine j_aload_n X dL_law_719 rfl ?_
      refine j_callV (nn := 0) X dL_law_720 (c_X5_undo l D _ _ _ (s.heap.size + 232)  G hM0 hMa ) gL_law_X5_undo rfl ⟨rfl, rfl⟩ (by decide +kernel) ⟨Nat.le_of_ble_eq_true rfl, Nat.le_of_ble_eq_true rfl⟩ hM0.1 ⟨rfl, rfl⟩ rfl rfl (Nat.le_of_ble_eq_true rfl) ⟨by show _ ≤ 600000; omega, by show _ ≤ 7302250; omega⟩ (kI (fun z720 v720 h720 => ?_))
      obtain ⟨rfl, hMb, hfb⟩ := h720
      have hXb := hXa.kept (w := v720) (fun a _ _ => hfb a (by omega))
      refine j_icmp_same (tgt := 774) X dL_law_723 (by decide) ?_
      first
      | (have hXf := hXb; have hMf := hMb)
      | (have hXf := hXR; have hMf := hMX)
      refine j_iinc X dL_law_774 rfl rfl (Nat.le_of_ble_eq_true rfl) ?_
      refine j_goto (tgt := 18) X dL_law_777 (by decide) ?_
      exact ih18 (i + 5, _, _) (by (try dsimp only); exact ⟨by omega, hXf, hMf⟩) (by (try dsimp only); omega)
    by_cases cs32_20 : zs = 20
    · refine j_tabIn (tgt := 728) (off := 696) X dL_law_32 (by omega) (by omega) (by rw [cs32_20]; rfl) (by decide) ?_
      refine j_aload_n X dL_law_728 rfl ?_
      refine j_aload_n X dL_law_729 rfl ?_
      refine j_iload_n X dL_law_730 rfl ?_
      refine j_iconst X dL_law_731 ?_
      refine j_iadd X dL_law_732 ?_
      refine j_sald X dL_law_733 hXs hbl hbA (i + 1) (by omega) (by omega) (by omega) ?_
      refine j_callV (nn := 1) X dL_law_734 (c_X4_save l D _ _ y (s.heap.size) _ G hX0 hXR (ti_b _)) gL_law_X4_save rfl ⟨rfl, rfl⟩ (by decide +kernel) ⟨Nat.le_of_ble_eq_true rfl, Nat.le_of_ble_eq_true rfl⟩ hX0.1 ⟨rfl, rfl⟩ rfl rfl (Nat.le_of_ble_eq_true rfl) ⟨by show _ ≤ 600000; omega, by show _ ≤ 7302250; omega⟩ (kI (fun z734 v734 h734 => ?_))
      obtain ⟨rfl, hXa, hfa⟩ := h734
      have hMa := hMX.kept (w := v734) (fun a _ _ => hfa a (by omega))
      refine j_aload_n X dL_law_737 rfl ?_
      refine j_aload_n X dL_law_738 rfl ?_
      refine j_iload_n X dL_law_739 rfl ?_
      refine j_iconst X dL_law_740 ?_
      refine j_iadd X dL_law_741 ?_
      refine j_sald X dL_law_742 hXs hbl hbA (i + 1) (by omega) (by omega) (by omega) ?_
      refine j_callV (nn := 1) X dL_law_743 (c_X5_save l D _ _ _ (s.heap.size + 232) _ G hM0 hMa (ti_b _)) gL_law_X5_save rfl ⟨rfl, rfl⟩ (by decide +kernel) ⟨Nat.le_of_ble_eq_true rfl, Nat.le_of_ble_eq_true rfl⟩ hM0.1 ⟨rfl, rfl⟩ rfl rfl (Nat.le_of_ble_eq_true rfl) ⟨by show _ ≤ 600000; omega, by show _ ≤ 7302250; omega⟩ (kI (fun z743 v743 h743 => ?_))
      obtain ⟨rfl, hMb, hfb⟩ := h743
      have hXb := hXa.kept (w := v743) (fun a _ _ => hfb a (by omega))
      refine j_icmp_same (tgt := 774) X dL_law_746 (by decide) ?_
      first
      | (have hXf := hXb; have hMf := hMb)
      | (have hXf := hXR; have hMf := hMX)
      refine j_iinc X dL_law_774 rfl rfl (Nat.le_of_ble_eq_true rfl) ?_
      refine j_goto (tgt := 18) X dL_law_777 (by decide) ?_
      exact ih18 (i + 5, _, _) (by (try dsimp only); exact ⟨by omega, hXf, hMf⟩) (by (try dsimp only); omega)
    by_cases cs32_21 : zs = 21
    · refine j_tabIn (tgt := 751) (off := 719) X dL_law_32 (by omega) (by omega) (by rw [cs32_21]; rfl) (by decide) ?_
      refine j_aload_n X dL_law_751 rfl ?_
      refine j_aload_n X dL_law_752 rfl ?_
      refine j_iload_n X dL_law_753 rfl ?_
      refine j_iconst X dL_law_754 ?_
      refine j_iadd X dL_law_755 ?_
      refine j_sald X dL_law_756 hXs hbl hbA (i + 1) (by omega) (by omega) (by omega) ?_
      refine j_callV (nn := 1) X dL_law_757 (c_X4_restore l D _ _ y (s.heap.size) _ G hX0 hXR (ti_b _)) gL_law_X4_restore rfl ⟨rfl, rfl⟩ (by decide +kernel) ⟨Nat.le_of_ble_eq_true rfl, Nat.le_of_ble_eq_true rfl⟩ hX0.1 ⟨rfl, rfl⟩ rfl rfl (Nat.le_of_ble_eq_true rfl) ⟨by show _ ≤ 600000; omega, by show _ ≤ 7302250; omega⟩ (kI (fun z757 v757 h757 => ?_))
      obtain ⟨rfl, hXa, hfa⟩ := h757
      have hMa := hMX.kept (w := v757) (fun a _ _ => hfa a (by omega))
      refine j_aload_n X dL_law_760 rfl ?_
      refine j_aload_n X dL_law_761 rfl ?_
      refine j_iload_n X dL_law_762 rfl ?_
      refine j_iconst X dL_law_763 ?_
      refine j_iadd X dL_law_764 ?_
      refine j_sald X dL_law_765 hXs hbl hbA (i + 1) (by omega) (by omega) (by omega) ?_
      refine j_callV (nn := 1) X dL_law_766 (c_X5_restore l D _ _ _ (s.heap.size + 232) _ G hM0 hMa (ti_b _)) gL_law_X5_restore rfl ⟨rfl, rfl⟩ (by decide +kernel) ⟨Nat.le_of_ble_eq_true rfl, Nat.le_of_ble_eq_true rfl⟩ hM0.1 ⟨rfl, rfl⟩ rfl rfl (Nat.le_of_ble_eq_true rfl) ⟨by show _ ≤ 600000; omega, by show _ ≤ 7302250; omega⟩ (kI (fun z766 v766 h766 => ?_))
      obtain ⟨rfl, hMb, hfb⟩ := h766
      have hXb := hXa.kept (w := v766) (fun a _ _ => hfb a (by omega))
      refine j_icmp_same (tgt := 774) X dL_law_769 (by decide) ?_
      first
      | (have hXf := hXb; have hMf := hMb)
      | (have hXf := hXR; have hMf := hMX)
      refine j_iinc X dL_law_774 rfl rfl (Nat.le_of_ble_eq_true rfl) ?_
      refine j_goto (tgt := 18) X dL_law_777 (by decide) ?_
      exact ih18 (i + 5, _, _) (by (try dsimp only); exact ⟨by omega, hXf, hMf⟩) (by (try dsimp only); omega)
    refine j_tabOut (tgt := 774) X dL_law_32 (by omega) (by omega) (by decide) ?_
    first
    | (have hXf := hXb; have hMf := hMb)
    | (have hXf := hXR; have hMf := hMX)
    refine j_iinc X dL_law_774 rfl rfl (Nat.le_of_ble_eq_true rfl) ?_
    refine j_goto (tgt := 18) X dL_law_777 (by decide) ?_
    exact ih18 (i + 5, _, _) (by (try dsimp only); exact ⟨by omega, hXf, hMf⟩) (by (try dsimp only); omega)
