/-! THE CLAIM OUT OF ONE WALK OF THE LAW'S BODY. Your part is whole_start (and what it stands on); all else here is the same for every law, but numbers. -/
def R_law : String := "BinderParcelsLaw"
def lw_P (b : Addr) (xs : List Int32) (args : Array Value) (s : State) : Prop := args = #[.ref b] ∧ s.IntsAt b xs ∧ xs.length ≤ 260 ∧ (Jvm.Cond.and given_1 narrow_1).before args s = true
def lw_Q (_ : Array Value) (s : State) (o : Outcome) (t : State) : Prop := o = .returned (some (.int 1)) ∧ Framed s o t [] 600000 7302250
def lw_Z (below : List Frame) (a : Array Value) (s : State) : State → Prop := fun t => ∃ o, t.status = .running ∧ Ended t below o ∧ lw_Q a s o t
/-- the law's own end, with 1 on the stack, nothing written that was there before, its room as the claim has it -/
theorem lw_ret {p : Program} {l : Launch} {e : Env} {s : State} {m : MethodId} {below : List Frame} {meth : Method} {c : Code} {b : Nat} (hx : p.tables.exec = Jvm.exec) (hb : c.code = code) (hr : meth.sig.returnType = ret) (hlocks : meth.locks = false) {pc : Nat} {H : Heap} {ls : Array Slot} (hdg : decode code pc = .ok (.ireturn, 1)) : W p l e room_1 s m #[Value.ref b] below meth c H [] 600000 7302250 (lw_Z below #[Value.ref b] s) (F0 m pc ls [.int 1]) := by
  intro T hT X
  obtain ⟨fs, hret, hrun, hended, hW, hframe⟩ := X.leave (v := some (.int 1)) (hlocks := hlocks) (fun h => by rw [hr] at h; cases h)
  have hmeth' : T.vm.method? m = some meth := X.method'
  refine ⟨T.setFrames fs, ?_, .returned (some (.int 1)), hrun, hended, rfl, ⟨_, rfl⟩, hW, hframe⟩
  jvm_step X.here [X.here.top, hx, hb, hdg, hmeth', hr, ret, narrow_b1]
  (try refine ⟨rfl, ?_⟩); (try refine ⟨rfl, ?_⟩)
  first | (intro acts; rw [hret _ acts rfl rfl rfl]) | rw [hret _ _ rfl rfl rfl]
  exact Steps.refl _
/-- what holds at the law's entry: the machine, the code, the tables' words (any of lw_tbl by 'hts w (by decide +kernel)'), the script of L ints xs at the cell b, what the Statement gives of the start (any of its parts by flat_of_before) -/
def lw_At (p : Program) (s : State) (m : MethodId) (meth : Method) (c : Code) (b L : Nat) (xs : Nat → Int32) : Prop :=
  p.tables.exec = Jvm.exec ∧ c.code = code ∧ meth.sig.returnType = ret ∧ c.maxLocals = 20 ∧ s.vm.findClass R_law = some m.cls ∧ (∀ w ∈ lw_tbl, w.before #[Value.ref b] s = true) ∧ va_X b L xs s s.heap ∧ b < s.heap.size ∧ meth.locks = false ∧ (Jvm.Cond.and given_1 narrow_1).before #[Value.ref b] s = true
theorem j_lawend {p : Program} {l : Launch} {e : Env} {s : State} {m : MethodId} {b : Nat} {below : List Frame} {meth : Method} {c : Code} {D : va_G} {nL cells slots n : Nat} {sk : Sk} {v : Mem} {Lc : List (Option Value)} {own : String} {Ts : List Cond} (X : Cx p s m #[Value.ref b] meth c D cL_law nL own Ts (some .boolean)) (hr : meth.sig.returnType = ret) (hc : cells ≤ 600000) (hs : slots ≤ 7302250) : J p l e room_1 s m #[Value.ref b] below meth c D (fun q => s.heap.size ≤ q) nL cells slots (lw_Z below #[Value.ref b] s) n sk v 1081 Lc [.int (I 1)] := by
  intro H locs ls h1 h2 h3 h4 h5 h6
  refine va_forget (fun q hq => h5.2.2 q hq) ?_
  refine W.widen (k := 600000) (n := 7302250) hc hs ?_
  exact lw_ret X.1 X.2.1 hr X.2.2.2.2.2.2.2.2 dL_law_1081
set_option maxHeartbeats 40000000 in
set_option maxRecDepth 100000 in
theorem law_J {p : Program} {l : Launch} {e : Env} {s : State} {m : MethodId} {b L : Nat} {xs : Nat → Int32} {below : List Frame} {meth : Method} {c : Code} {D : va_G} (X : Cx p s m #[Value.ref b] meth c D cL_law 20 RL wsL_law (some .boolean)) (hr : meth.sig.returnType = ret) (hXs : va_X b L xs s s.heap) (hbl : b < s.heap.size) (hL : L ≤ 260) : J p l e room_1 s m #[Value.ref b] below meth c D (fun q => s.heap.size ≤ q) 20 0 0 (lw_Z below #[Value.ref b] s) s.heap.size (fun _ => none) (fun _ _ => 0) 0 [some (.ref b), none, none, none, none, none, none, none, none, none, none, none, none, none, none, none, none, none, none, none] [] := by
  have hbA : ¬ (fun q : Nat => s.heap.size ≤ q) b := Nat.not_le.mpr hbl
  have hinX4 : ∀ w ∈ wsX40, w ∈ wsL_law := inlX4
  refine j_newU X dL_law_0 (T := TX4) (N := 6) (C := RX4) (ci := 4) (fs := [some .null, some .null, some .null, some .null, some .null, some .null]) hinX4 rfl tyX4 tyX4_ok ⟨by decide +kernel, by decide +kernel, by decide +kernel⟩ (fun j hj => by rcases (show j = 0 ∨ j = 1 ∨ j = 2 ∨ j = 3 ∨ j = 4 ∨ j = 5 by omega) with rfl | rfl | rfl | rfl | rfl | rfl <;> rfl) ⟨by show _ ≤ 600000; omega, by show _ ≤ 7302250; omega⟩ (fun k0 w0 e0 o0 z0 q0 => ?_)
  refine j_dup X dL_law_3 rfl ?_
  refine j_callI (nn := 0) X dL_law_4 (c_X4_init l D _ k0 w0 _ rfl e0) gL_law_X4_init rfl ⟨rfl, rfl⟩ (by decide +kernel) (by decide +kernel) rfl (by decide +kernel) ⟨Nat.le_of_ble_eq_true rfl, Nat.le_of_ble_eq_true rfl⟩ rfl rfl (Nat.le_of_ble_eq_true rfl) ⟨by show _ ≤ 600000; omega, by show _ ≤ 7302250; omega⟩ (by decide +kernel) (kN (fun k4 w4 h4 => ?_))
  obtain ⟨⟨hX4, o4⟩, -, q4, z4⟩ := h4
  refine j_astore_n X dL_law_7 rfl (Nat.le_of_ble_eq_true rfl) ?_
  refine j_bipush X dL_law_8 (by decide) ?_
  refine j_newaU X dL_law_10 (ty := .int) (t0 := 0) (k := 10) (N' := 6) rfl (by decide +kernel) rfl (fun _ h => by cases h) rfl rfl (by decide) ⟨by show _ ≤ 600000; omega, by show _ ≤ 7302250; omega⟩ (fun k10 w10 e10 o10 z10 q10 => ?_)
  refine j_astore_n X dL_law_12 rfl (Nat.le_of_ble_eq_true rfl) ?_
  refine j_bipush X dL_law_13 (by decide) ?_
  refine j_newaU X dL_law_15 (ty := .int) (t0 := 0) (k := 10) (N' := 54) rfl (by decide +kernel) rfl (fun _ h => by cases h) rfl rfl (by decide) ⟨by show _ ≤ 600000; omega, by show _ ≤ 7302250; omega⟩ (fun k15 w15 e15 o15 z15 q15 => ?_)
  refine j_astore_n X dL_law_17 rfl (Nat.le_of_ble_eq_true rfl) ?_
  refine j_bipush X dL_law_18 (by decide) ?_
  refine j_newaU X dL_law_20 (ty := .int) (t0 := 0) (k := 10) (N' := 10) rfl (by decide +kernel) rfl (fun _ h => by cases h) rfl rfl (by decide) ⟨by show _ ≤ 600000; omega, by show _ ≤ 7302250; omega⟩ (fun k20 w20 e20 o20 z20 q20 => ?_)
  refine j_astore X dL_law_22 rfl (Nat.le_of_ble_eq_true rfl) ?_
  refine j_bipush X dL_law_24 (by decide) ?_
  refine j_newaU X dL_law_26 (ty := .int) (t0 := 0) (k := 10) (N' := 60) rfl (by decide +kernel) rfl (fun _ h => by cases h) rfl rfl (by decide) ⟨by show _ ≤ 600000; omega, by show _ ≤ 7302250; omega⟩ (fun k26 w26 e26 o26 z26 q26 => ?_)
  refine j_astore X dL_law_28 rfl (Nat.le_of_ble_eq_true rfl) ?_
  refine j_bipush X dL_law_30 (by decide) ?_
  refine j_newaU X dL_law_32 (ty := .int) (t0 := 0) (k := 10) (N' := 60) rfl (by decide +kernel) rfl (fun _ h => by cases h) rfl rfl (by decide) ⟨by show _ ≤ 600000; omega, by show _ ≤ 7302250; omega⟩ (fun k32 w32 e32 o32 z32 q32 => ?_)
  refine j_astore X dL_law_34 rfl (Nat.le_of_ble_eq_true rfl) ?_
  refine j_bipush X dL_law_36 (by decide) ?_
  refine j_newaU X dL_law_38 (ty := .int) (t0 := 0) (k := 10) (N' := 60) rfl (by decide +kernel) rfl (fun _ h => by cases h) rfl rfl (by decide) ⟨by show _ ≤ 600000; omega, by show _ ≤ 7302250; omega⟩ (fun k38 w38 e38 o38 z38 q38 => ?_)
  refine j_astore X dL_law_40 rfl (Nat.le_of_ble_eq_true rfl) ?_
  refine j_iconst X dL_law_42 ?_
  refine j_istore X dL_law_43 rfl (Nat.le_of_ble_eq_true rfl) ?_
  have kk : ∀ a, a < s.heap.size + 232 → k38 a = k4 a := fun a ha => by rw [o38 a (by omega), o32 a (by omega), o26 a (by omega), o20 a (by omega), o15 a (by omega), o10 a (by omega)]
  have hX : Xd D k38 s.heap.size := hX4.up (fun a h1 h2 => kk a h2)
  have hq : k38 (s.heap.size + 232) = some (eA D 10 6) := by rw [o38 _ (by omega), o32 _ (by omega), o26 _ (by omega), o20 _ (by omega), o15 _ (by omega)]; exact e10
  have hpa : k38 (s.heap.size + 233) = some (eA D 10 54) := by rw [o38 _ (by omega), o32 _ (by omega), o26 _ (by omega), o20 _ (by omega)]; exact e15
  have ha : k38 (s.heap.size + 234) = some (eA D 10 10) := by rw [o38 _ (by omega), o32 _ (by omega), o26 _ (by omega)]; exact e20
  have hA : k38 (s.heap.size + 235) = some (eA D 10 60) := by rw [o38 _ (by omega), o32 _ (by omega)]; exact e26
  have hBb : k38 (s.heap.size + 236) = some (eA D 10 60) := by rw [o38 _ (by omega)]; exact e32
  have ht : k38 (s.heap.size + 237) = some (eA D 10 60) := e38
  have hLd : Ld D k38 s.heap.size := ⟨hX, hq, hpa, ha, hA, hBb, ht⟩
  have m0 : ∀ a, s.heap.size ≤ a → a < s.heap.size + 232 → w38 a = fun _ => 0 := fun a h1 h2 => by
    rw [q38 a (by omega), q32 a (by omega), q26 a (by omega), q20 a (by omega), q15 a (by omega), q10 a (by omega)]
    by_cases q : a = s.heap.size
    · rw [q, q4 _ (by omega)]; exact z0
    · exact z4 a (by omega) (by omega)
  have m1 : w38 (s.heap.size + 232) = fun _ => 0 := by rw [q38 _ (by omega), q32 _ (by omega), q26 _ (by omega), q20 _ (by omega), q15 _ (by omega)]; exact z10
  have m2 : w38 (s.heap.size + 235) = fun _ => 0 := by rw [q38 _ (by omega), q32 _ (by omega)]; exact z26
  have m3 : w38 (s.heap.size + 236) = fun _ => 0 := by rw [q38 _ (by omega)]; exact z32
  refine j_cut 9 (j_loop (σ := Nat × Mem) (fun (y_ : Nat × Mem) => match y_ with | (d, u) => d ≤ 10 ∧ (∀ j, j < d → u (s.heap.size + 234) j = -1) ∧ ∀ a, a ≠ s.heap.size + 234 → u a = w38 a) (fun (y_ : Nat × Mem) => match y_ with | (d, u) => 10 - d) (fun (y_ : Nat × Mem) => match y_ with | (d, u) => (u, [some (.ref b), some (.ref s.heap.size), some (.ref (s.heap.size + 232)), some (.ref (s.heap.size + 233)), some (.ref (s.heap.size + 234)), some (.ref (s.heap.size + 235)), some (.ref (s.heap.size + 236)), some (.ref (s.heap.size + 237)), some (.int (I (d : Int))), none, none, none, none, none, none, none, none, none, none, none])) ?_ (0, w38) ⟨by omega, fun j hj => absurd hj (Nat.not_lt_zero _), fun _ _ => rfl⟩)
  intro y_ hx_ ih45
  obtain ⟨d, u⟩ := y_
  dsimp only at hx_ ih45 ⊢
  obtain ⟨hd, hd1, hfu⟩ := hx_
  refine j_iload X dL_law_45 rfl ?_
  refine j_bipush X dL_law_47 (by decide) ?_
  refine j_icmp_ge (tgt := 64) X dL_law_49 (by omega) (by decide) (fun c49 => ?_) (fun c49 => ?_)
  · refine j_iconst X dL_law_64 ?_
    refine j_istore X dL_law_65 rfl (Nat.le_of_ble_eq_true rfl) ?_
    have hI0 : LI u s.heap.size G00 := LI_new (fun a h1 h2 => by rw [hfu a (by omega)]; exact m0 a h1 h2) (by rw [hfu _ (by omega)]; exact m1) (by rw [hfu _ (by omega)]; exact m2) (by rw [hfu _ (by omega)]; exact m3) (fun d h1 => hd1 d (by omega))
    refine j_cut 9 (j_loop (σ := Nat × GS × Mem) (fun (y_ : Nat × GS × Mem) => match y_ with | (turn, G, v) => turn ≤ 26 ∧ LI v s.heap.size G) (fun (y_ : Nat × GS × Mem) => match y_ with | (turn, G, v) => 26 - turn) (fun (y_ : Nat × GS × Mem) => match y_ with | (turn, G, v) => (v, [some (.ref b), some (.ref s.heap.size), some (.ref (s.heap.size + 232)), some (.ref (s.heap.size + 233)), some (.ref (s.heap.size + 234)), some (.ref (s.heap.size + 235)), some (.ref (s.heap.size + 236)), some (.ref (s.heap.size + 237)), some (.int (I (turn : Int))), none, none, none, none, none, none, none, none, none, none, none])) ?_ (0, G00, u) ⟨by omega, hI0⟩)
    intro y_ hx_ ih67
    obtain ⟨turn, G, v⟩ := y_
    dsimp only at hx_ ih67 ⊢
    obtain ⟨hturn, hI⟩ := hx_
    obtain ⟨hC, hB0, hB1⟩ := id hI
    obtain ⟨hXR, ⟨hn2, hoT, hN, hlt⟩, ⟨hq0, hn6, hPO⟩, ⟨hq1, hqw⟩, hRT⟩ := id hC
    have h64 := p2_64 hn6
    refine j_iload X dL_law_67 rfl ?_
    refine j_bipush X dL_law_69 (by decide) ?_
    refine j_icmp_ge (tgt := 1080) X dL_law_71 (by omega) (by decide) (fun c71 => ?_) (fun c71 => ?_)
    · refine j_iconst X dL_law_1080 ?_
      exact j_lawend X hr (by omega) (by omega)
    · refine j_aload_n X dL_law_74 rfl ?_
      refine j_iload X dL_law_75 rfl ?_
      refine j_callX (nn := 2) X dL_law_77 (c_L_cell l D _ b L xs turn (by omega) (by omega)) hXs hbl hbA gL_law_L_cell rfl ⟨rfl, rfl⟩ (by decide +kernel) ⟨Nat.le_of_ble_eq_true rfl, Nat.le_of_ble_eq_true rfl⟩ rfl rfl (Nat.le_of_ble_eq_true rfl) ⟨by show _ ≤ 600000; omega, by show _ ≤ 7302250; omega⟩ (fun z77 h77 => ?_)
      refine j_istore X dL_law_80 rfl (Nat.le_of_ble_eq_true rfl) ?_
      refine j_join (σ := Int) (fun (kd : Int) => 0 ≤ kd ∧ kd ≤ 9) (fun (kd : Int) => (v, [some (.ref b), some (.ref s.heap.size), some (.ref (s.heap.size + 232)), some (.ref (s.heap.size + 233)), some (.ref (s.heap.size + 234)), some (.ref (s.heap.size + 235)), some (.ref (s.heap.size + 236)), some (.ref (s.heap.size + 237)), some (.int (I (turn : Int))), some (.int (I z77)), none, none, none, none, none, none, none, none, none, none], [.int (I kd)])) 108 ?_ (fun K108 => ?_)
      · intro kd hx_
        dsimp only at hx_ ⊢
        have hkd := hx_
        refine j_istore X dL_law_108 rfl (Nat.le_of_ble_eq_true rfl) ?_
        have hkd9 := hkd
        refine j_join (σ := Nat) (fun (h : Nat) => h < 2 ∧ (0 < no G.1 → h < no G.1) ∧ (no G.1 = 0 → h = 0)) (fun (h : Nat) => (v, [some (.ref b), some (.ref s.heap.size), some (.ref (s.heap.size + 232)), some (.ref (s.heap.size + 233)), some (.ref (s.heap.size + 234)), some (.ref (s.heap.size + 235)), some (.ref (s.heap.size + 236)), some (.ref (s.heap.size + 237)), some (.int (I (turn : Int))), some (.int (I z77)), some (.int (I kd)), none, none, none, none, none, none, none, none, none], [.int (I (h : Int))])) 130 ?_ (fun K130 => ?_)
        · intro h hx_
          dsimp only at hx_ ⊢
          have hh0 := hx_
          refine j_istore X dL_law_130 rfl (Nat.le_of_ble_eq_true rfl) ?_
          refine j_join (σ := Nat) (fun (ca : Nat) => ca = s.heap.size + 235 + h) (fun (ca : Nat) => (v, [some (.ref b), some (.ref s.heap.size), some (.ref (s.heap.size + 232)), some (.ref (s.heap.size + 233)), some (.ref (s.heap.size + 234)), some (.ref (s.heap.size + 235)), some (.ref (s.heap.size + 236)), some (.ref (s.heap.size + 237)), some (.int (I (turn : Int))), some (.int (I z77)), some (.int (I kd)), some (.int (I (h : Int))), none, none, none, none, none, none, none, none], [.ref ca])) 144 ?_ (fun K144 => ?_)
          · intro ca hx_
            dsimp only at hx_ ⊢
            have hca := hx_
            subst hca
            refine j_astore X dL_law_144 rfl (Nat.le_of_ble_eq_true rfl) ?_
            refine j_join (σ := Nat) (fun (p : Nat) => (0 < np G.1 → p < np G.1) ∧ (np G.1 = 0 → p = 0)) (fun (p : Nat) => (v, [some (.ref b), some (.ref s.heap.size), some (.ref (s.heap.size + 232)), some (.ref (s.heap.size + 233)), some (.ref (s.heap.size + 234)), some (.ref (s.heap.size + 235)), some (.ref (s.heap.size + 236)), some (.ref (s.heap.size + 237)), some (.int (I (turn : Int))), some (.int (I z77)), some (.int (I kd)), some (.int (I (h : Int))), some (.ref (s.heap.size + 235 + h)), none, none, none, none, none, none, none], [.int (I (p : Int))])) 166 ?_ (fun K166 => ?_)
            · intro p hx_
              dsimp only at hx_ ⊢
              have hp0 := hx_
              refine j_istore X dL_law_166 rfl (Nat.le_of_ble_eq_true rfl) ?_
              refine j_join (σ := Int) (fun (wz : Int) => (wz = 1 ∧ (wtL G.1 h).testBit p = true) ∨ (wz = 0 ∧ ¬ (wtL G.1 h).testBit p = true)) (fun (wz : Int) => (v, [some (.ref b), some (.ref s.heap.size), some (.ref (s.heap.size + 232)), some (.ref (s.heap.size + 233)), some (.ref (s.heap.size + 234)), some (.ref (s.heap.size + 235)), some (.ref (s.heap.size + 236)), some (.ref (s.heap.size + 237)), some (.int (I (turn : Int))), some (.int (I z77)), some (.int (I kd)), some (.int (I (h : Int))), some (.ref (s.heap.size + 235 + h)), some (.int (I (p : Int))), none, none, none, none, none, none], [.int (I wz)])) 188 ?_ (fun K188 => ?_)
              · intro wz hx_
                dsimp only at hx_ ⊢
                have hwz := hx_
                refine j_join (σ := GS × Mem) (fun (y_ : GS × Mem) => match y_ with | (G2, v2) => LI v2 s.heap.size G2) (fun (y_ : GS × Mem) => match y_ with | (G2, v2) => (v2, [some (.ref b), some (.ref s.heap.size), some (.ref (s.heap.size + 232)), some (.ref (s.heap.size + 233)), some (.ref (s.heap.size + 234)), some (.ref (s.heap.size + 235)), some (.ref (s.heap.size + 236)), some (.ref (s.heap.size + 237)), some (.int (I (turn : Int))), some (.int (I z77)), none, none, none, none, none, none, none, none, none, none], [])) 1051 ?_ (fun K1051 => ?_)
                · intro y_ hx_
                  obtain ⟨G2, v2⟩ := y_
                  dsimp only at hx_ ⊢
                  have hI2 := hx_
                  refine j_aload_n X dL_law_1051 rfl ?_
                  refine j_iload X dL_law_1052 rfl ?_
                  refine j_iconst X dL_law_1054 ?_
                  refine jr_ishr X dL_law_1055 ?_
                  refine j_aload X dL_law_1056 rfl ?_
                  refine j_aload X dL_law_1058 rfl ?_
                  refine j_aload_n X dL_law_1060 rfl ?_
                  refine j_aload_n X dL_law_1061 rfl ?_
                  refine j_aload X dL_law_1062 rfl ?_
                  refine j_aload X dL_law_1064 rfl ?_
                  refine j_callS (nn := 8) X dL_law_1066 (c_L_same l D _ _ v2 s.heap.size _ G2 hLd hI2) gL_law_L_same rfl ⟨rfl, rfl⟩ (by decide +kernel) ⟨Nat.le_of_ble_eq_true rfl, Nat.le_of_ble_eq_true rfl⟩ rfl rfl (Nat.le_of_ble_eq_true rfl) ⟨by show _ ≤ 600000; omega, by show _ ≤ 7302250; omega⟩ (kI (fun z1066 v1066 h1066 => ?_))
                  obtain ⟨rfl, hX1066, f1066⟩ := h1066
                  have hI3 := hI2.cls hX1066 f1066
                  refine j_if_ne (tgt := 1074) X dL_law_1069 (by omega) (by decide) (fun c1069 => ?_) (fun c1069 => ?_)
                  · refine j_iinc X dL_law_1074 rfl rfl (Nat.le_of_ble_eq_true rfl) ?_
                    refine j_goto (tgt := 67) X dL_law_1077 (by decide) ?_
                    refine j_cut 9 (ih67 (turn + 1, G2, v1066) ?_ (by (try dsimp only); omega))
                    (try dsimp only)
                    exact ⟨by omega, hI3⟩
                  · exact absurd c1069 (by decide)
                · refine j_istore X dL_law_188 rfl (Nat.le_of_ble_eq_true rfl) ?_
                  refine j_join (σ := Nat) (fun (dm : Nat) => True) (fun (dm : Nat) => (v, [some (.ref b), some (.ref s.heap.size), some (.ref (s.heap.size + 232)), some (.ref (s.heap.size + 233)), some (.ref (s.heap.size + 234)), some (.ref (s.heap.size + 235)), some (.ref (s.heap.size + 236)), some (.ref (s.heap.size + 237)), some (.int (I (turn : Int))), some (.int (I z77)), some (.int (I kd)), some (.int (I (h : Int))), some (.ref (s.heap.size + 235 + h)), some (.int (I (p : Int))), some (.int (I wz)), none, none, none, none, none], [])) 468 ?_ (fun K468 => ?_)
                  · intro dm hx_
                    dsimp only at hx_ ⊢
                    have hdm := hx_
                    refine j_join (σ := Nat) (fun (dn_ : Nat) => True) (fun (dn_ : Nat) => (v, [some (.ref b), some (.ref s.heap.size), some (.ref (s.heap.size + 232)), some (.ref (s.heap.size + 233)), some (.ref (s.heap.size + 234)), some (.ref (s.heap.size + 235)), some (.ref (s.heap.size + 236)), some (.ref (s.heap.size + 237)), some (.int (I (turn : Int))), some (.int (I z77)), some (.int (I kd)), some (.int (I (h : Int))), some (.ref (s.heap.size + 235 + h)), some (.int (I (p : Int))), some (.int (I wz)), none, none, none, none, none], [])) 557 ?_ (fun K557 => ?_)
                    · intro dn_ hx_
                      dsimp only at hx_ ⊢
                      have hdn_ := hx_
                      refine j_join (σ := Nat) (fun (de : Nat) => no G.1 = 0 ∨ np G.1 = 0) (fun (de : Nat) => (v, [some (.ref b), some (.ref s.heap.size), some (.ref (s.heap.size + 232)), some (.ref (s.heap.size + 233)), some (.ref (s.heap.size + 234)), some (.ref (s.heap.size + 235)), some (.ref (s.heap.size + 236)), some (.ref (s.heap.size + 237)), some (.int (I (turn : Int))), some (.int (I z77)), some (.int (I kd)), some (.int (I (h : Int))), some (.ref (s.heap.size + 235 + h)), some (.int (I (p : Int))), some (.int (I wz)), none, none, none, none, none], [])) 569 ?_ (fun K569 => ?_)
                      · intro de hx_
                        dsimp only at hx_ ⊢
                        have hdz := hx_
                        refine j_aload_n X dL_law_569 rfl ?_
                        refine j_iload X dL_law_570 rfl ?_
                        refine j_iload X dL_law_572 rfl ?_
                        refine j_iconst X dL_law_574 ?_
                        refine j_callV (nn := 3) X dL_law_575 (c_X4_done l D _ _ v s.heap.size (h : Int) (p : Int) 1 G hX hXR (by omega) (by omega) (Or.inr rfl)) gL_law_X4_done rfl ⟨rfl, rfl⟩ (by decide +kernel) ⟨Nat.le_of_ble_eq_true rfl, Nat.le_of_ble_eq_true rfl⟩ hX.1 ⟨rfl, rfl⟩ rfl rfl (Nat.le_of_ble_eq_true rfl) ⟨by show _ ≤ 600000; omega, by show _ ≤ 7302250; omega⟩ (kI (fun z575 v575 h575 => ?_))
                        rw [done_no 1 hdz] at h575
                        dsimp only at h575
                        obtain ⟨rfl, hX575, f575⟩ := h575
                        refine j_iconst X dL_law_578 ?_
                        refine j_icmp_eq (tgt := 1051) X dL_law_579 (by omega) (by decide) (fun c579 => ?_) (fun c579 => ?_)
                        · refine j_cut 10 (K1051 (G, v575) ?_)
                          (try dsimp only)
                          exact (hI.cls hX575 (fun a h1 _ => f575 a h1))
                        · exact absurd rfl c579
                      · refine j_aload_n X dL_law_557 rfl ?_
                        refine j_iconst X dL_law_558 ?_
                        refine j_ialN X dL_law_559 (by assumption) (1) rfl (by omega) (by decide) ?_
                        rw [hq1]
                        refine j_if_eq (tgt := 569) X dL_law_560 (by omega) (by decide) (fun c560 => ?_) (fun c560 => ?_)
                        · refine j_cut 15 (K569 0 ?_)
                          (try dsimp only)
                          exact (by omega)
                        · refine j_aload_n X dL_law_563 rfl ?_
                          refine j_iconst X dL_law_564 ?_
                          refine j_ialN X dL_law_565 (by assumption) (0) rfl (by omega) (by decide) ?_
                          rw [hq0]
                          refine j_if_ne (tgt := 584) X dL_law_566 (by omega) (by decide) (fun c566 => ?_) (fun c566 => ?_)
                          · have hh : h < no G.1 := by omega
                            have hp : p < np G.1 := by omega
                            obtain ⟨hw1, hw2, hw3, hw4⟩ := hI.wl hh
                            obtain ⟨hR, hL, hPh⟩ := id (hI.ob hh)
                            have hl := (hI.ob hh).len
                            rw [show wtL G.1 h = wt G.1 h from if_pos hh] at hwz
                            have hsk : k38 (s.heap.size + 235 + h) = some (eA D 10 60) := by rcases (show h = 0 ∨ h = 1 by omega) with rfl | rfl; exact hA; exact hBb
                            have hOp := hPO p hp
                            have hw64 := lw_64 hw3 hn6
                            have ho64 := lw_64 hw4 hn6
                            refine j_iload X dL_law_584 rfl ?_
                            refine j_bipush X dL_law_586 (by decide) ?_
                            refine j_icmp_ge (tgt := 686) X dL_law_588 (by omega) (by decide) (fun c588 => ?_) (fun c588 => ?_)
                            · refine j_iload X dL_law_686 rfl ?_
                              refine j_bipush X dL_law_688 (by decide) ?_
                              refine j_icmp_ne (tgt := 758) X dL_law_690 (by omega) (by decide) (fun c690 => ?_) (fun c690 => ?_)
                              · refine j_iload X dL_law_758 rfl ?_
                                refine j_bipush X dL_law_760 (by decide) ?_
                                refine j_icmp_ne (tgt := 830) X dL_law_762 (by omega) (by decide) (fun c762 => ?_) (fun c762 => ?_)
                                · refine j_iload X dL_law_830 rfl ?_
                                  refine j_bipush X dL_law_832 (by decide) ?_
                                  refine j_icmp_ne (tgt := 979) X dL_law_834 (by omega) (by decide) (fun c834 => ?_) (fun c834 => ?_)
                                  · refine j_aload_n X dL_law_979 rfl ?_
                                    refine j_iconst X dL_law_980 ?_
                                    refine j_iload X dL_law_981 rfl ?_
                                    refine j_iadd X dL_law_983 ?_
                                    refine j_ialN X dL_law_984 (by assumption) (2 + h) (by omega) (by omega) (by decide) ?_
                                    rw [hw1]
                                    refine j_callS (nn := 1) X dL_law_985 (c_L_bits l D _ _ v (wt G.1 h) (lw_64 hw3 hn6)) gL_law_L_bits rfl ⟨rfl, rfl⟩ (by decide +kernel) ⟨Nat.le_of_ble_eq_true rfl, Nat.le_of_ble_eq_true rfl⟩ rfl rfl (Nat.le_of_ble_eq_true rfl) ⟨by show _ ≤ 600000; omega, by show _ ≤ 7302250; omega⟩ (kI (fun z985 v985 h985 => ?_))
                                    obtain ⟨rfl, rfl⟩ := h985
                                    refine j_istore X dL_law_988 rfl (Nat.le_of_ble_eq_true rfl) ?_
                                    refine j_iconst X dL_law_990 ?_
                                    refine j_istore X dL_law_991 rfl (Nat.le_of_ble_eq_true rfl) ?_
                                    refine j_cut 17 (j_loop (σ := Nat × Mem) (fun (y_ : Nat × Mem) => match y_ with | (i, u) => i ≤ np G.1 ∧ RA u (s.heap.size + 235 + h) (careU (od G.1) (wt G.1 h) (bn G.1 h) i) ∧ ∀ a, a ≠ s.heap.size + 235 + h → u a = v a) (fun (y_ : Nat × Mem) => match y_ with | (i, u) => np G.1 - i) (fun (y_ : Nat × Mem) => match y_ with | (i, u) => (u, [some (.ref b), some (.ref s.heap.size), some (.ref (s.heap.size + 232)), some (.ref (s.heap.size + 233)), some (.ref (s.heap.size + 234)), some (.ref (s.heap.size + 235)), some (.ref (s.heap.size + 236)), some (.ref (s.heap.size + 237)), some (.int (I (turn : Int))), some (.int (I z77)), some (.int (I kd)), some (.int (I (h : Int))), some (.ref (s.heap.size + 235 + h)), some (.int (I (p : Int))), some (.int (I wz)), some (.int (I ((pop (wt G.1 h) : Nat) : Int))), some (.int (I (i : Int))), none, none, none])) ?_ (0, v) ⟨by omega, hR, fun _ _ => rfl⟩)
                                    intro y_ hx_ ih993
                                    obtain ⟨i, u⟩ := y_
                                    dsimp only at hx_ ih993 ⊢
                                    obtain ⟨hi, hRu, hfu⟩ := hx_
                                    have hok := careU_ok (o := od G.1) (wt G.1 h) hL hPh i (by omega) (fun j hj => (hPO j (by omega)).2.2.1)
                                    refine j_iload X dL_law_993 rfl ?_
                                    refine j_aload_n X dL_law_995 rfl ?_
                                    refine j_iconst X dL_law_996 ?_
                                    refine j_ialN X dL_law_997 (by assumption) (0) rfl (by omega) (by decide) ?_
                                    rw [hfu _ (by omega), hq0]
                                    refine j_icmp_ge (tgt := 1031) X dL_law_998 (by omega) (by decide) (fun c998 => ?_) (fun c998 => ?_)
                                    · have hin : i = np G.1 := by omega
                                      subst hin
                                      have hpw := pop_le hw64
                                      refine j_aload_n X dL_law_1031 rfl ?_
                                      refine j_iconst X dL_law_1032 ?_
                                      refine j_iload X dL_law_1033 rfl ?_
                                      refine j_iadd X dL_law_1035 ?_
                                      refine j_iconst X dL_law_1036 ?_
                                      refine j_iasN X dL_law_1037 (by assumption) (2 + h) (by omega) (by omega) (by decide) (fun u1037 f1037 g1037 n1037 => ?_)
                                      refine j_aload_n X dL_law_1038 rfl ?_
                                      refine j_iload X dL_law_1039 rfl ?_
                                      refine j_callV (nn := 1) X dL_law_1041 (c_X4_doAll l D _ _ u1037 s.heap.size (h : Int) G hX (hXR.kept (fun a h1 h2 => by rw [n1037 a (by omega), hfu a (by omega)])) (by omega)) gL_law_X4_doAll rfl ⟨rfl, rfl⟩ (by decide +kernel) ⟨Nat.le_of_ble_eq_true rfl, Nat.le_of_ble_eq_true rfl⟩ hX.1 ⟨rfl, rfl⟩ rfl rfl (Nat.le_of_ble_eq_true rfl) ⟨by show _ ≤ 600000; omega, by show _ ≤ 7302250; omega⟩ (kI (fun z1041 v1041 h1041 => ?_))
                                      rw [doAll_is hh] at h1041
                                      dsimp only at h1041
                                      obtain ⟨rfl, hX1041, f1041⟩ := h1041
                                      refine j_iload X dL_law_1044 rfl ?_
                                      refine j_icmp_eq (tgt := 1051) X dL_law_1046 (by omega) (by decide) (fun c1046 => ?_) (fun c1046 => ?_)
                                      · refine j_cut 10 (K1051 (recG G (setW (setB G.1 h (careU (od G.1) (wt G.1 h) (bn G.1 h) (np G.1))) h 0 (lo_ G.1 h)), v1041) ?_)
                                        (try dsimp only)
                                        exact (LI_mod hI hh rfl hX1041 (Nat.lt_of_lt_of_le Nat.one_pos (Nat.one_le_two_pow)) hw4 (hRu.kept (by rw [f1041 _ (by omega), n1037 _ (by omega)])) hok.1 hok.2 (by rw [f1041 _ (by omega), f1037]; rfl) (by rw [f1041 _ (by omega), g1037 _ (by omega), hfu _ (by omega)]; exact hw2) (fun j h1 h2 => by rw [f1041 _ (by omega), g1037 j h1, hfu _ (by omega)]) (fun a h1 h2 h3 h4 => by rw [f1041 a (by omega), n1037 a h2, hfu a h3]))
                                      · exact absurd rfl c1046
                                    · refine j_aload_n X dL_law_1001 rfl ?_
                                      refine j_iconst X dL_law_1002 ?_
                                      refine j_iload X dL_law_1003 rfl ?_
                                      refine j_iadd X dL_law_1005 ?_
                                      refine j_ialN X dL_law_1006 (by assumption) (2 + h) (by omega) (by omega) (by decide) ?_
                                      rw [hfu _ (by omega), hw1]
                                      refine j_iload X dL_law_1007 rfl ?_
                                      refine j_ishr X dL_law_1009 (b_shr (by omega) (by omega)) ?_
                                      refine j_iconst X dL_law_1010 ?_
                                      refine j_iand X dL_law_1011 b_bit1 ?_
                                      have hb3 : wt G.1 h / 2 ^ i % 2 < 2 := Nat.mod_lt _ (by decide)
                                      have htb := tb_div (wt G.1 h) i
                                      generalize wt G.1 h / 2 ^ i % 2 = bit at hb3 htb ⊢
                                      refine j_iconst X dL_law_1012 ?_
                                      refine j_icmp_ne (tgt := 1025) X dL_law_1013 (by omega) (by decide) (fun c1013 => ?_) (fun c1013 => ?_)
                                      · refine j_iinc X dL_law_1025 rfl rfl (Nat.le_of_ble_eq_true rfl) ?_
                                        refine j_goto (tgt := 993) X dL_law_1028 (by decide) ?_
                                        refine j_cut 17 (ih993 (i + 1, _) ?_ (by (try dsimp only); omega))
                                        (try dsimp only)
                                        exact (by first | exact ⟨by omega, by rw [careU_s, if_pos htt]; exact hR1022, fun a h1 => (f1022 a h1).trans (hfu a h1)⟩ | exact ⟨by omega, by rw [careU_s, if_neg (fun hb => c1013 (by rw [hb] at htb; have := of_decide_eq_true htb.symm; omega))]; exact hRu, hfu⟩)
                                      · have htt : (wt G.1 h).testBit i = true := by rw [htb]; exact decide_eq_true (by omega)
                                        refine j_aload X dL_law_1016 rfl ?_
                                        refine j_iload X dL_law_1018 rfl ?_
                                        refine j_iconst X dL_law_1020 ?_
                                        refine j_aload_n X dL_law_1021 rfl ?_
                                        refine j_callS (nn := 4) X dL_law_1022 (c_L_does l D _ _ u (s.heap.size + 235 + h) (s.heap.size + 233) i 1 (od G.1 i) (careU (od G.1) (wt G.1 h) (bn G.1 h) i) hsk hpa (by omega) (by omega) hRu hok.1 ((hPO i (by omega)).1.kept (hfu _ (by omega))) (hPO i (by omega)).2 (Or.inl ⟨rfl, hok.2⟩)) gL_law_L_does rfl ⟨rfl, rfl⟩ (by decide +kernel) ⟨Nat.le_of_ble_eq_true rfl, Nat.le_of_ble_eq_true rfl⟩ rfl rfl (Nat.le_of_ble_eq_true rfl) ⟨by show _ ≤ 600000; omega, by show _ ≤ 7302250; omega⟩ (kV (fun v1022 h1022 => ?_))
                                        obtain ⟨hR1022, f1022⟩ := h1022
                                        refine j_iinc X dL_law_1025 rfl rfl (Nat.le_of_ble_eq_true rfl) ?_
                                        refine j_goto (tgt := 993) X dL_law_1028 (by decide) ?_
                                        refine j_cut 17 (ih993 (i + 1, _) ?_ (by (try dsimp only); omega))
                                        (try dsimp only)
                                        exact (by first | exact ⟨by omega, by rw [careU_s, if_pos htt]; exact hR1022, fun a h1 => (f1022 a h1).trans (hfu a h1)⟩ | exact ⟨by omega, by rw [careU_s, if_neg (fun hb => c1013 (by rw [hb] at htb; have := of_decide_eq_true htb.symm; omega))]; exact hRu, hfu⟩)
                                  · refine j_iload X dL_law_837 rfl ?_
                                    refine j_bipush X dL_law_839 (by decide) ?_
                                    refine jr_ishr X dL_law_841 ?_
                                    refine j_bipush X dL_law_842 (by decide) ?_
                                    refine j_callS (nn := 2) X dL_law_844 (c_L_low l D _ _ v _ 10 (by omega)) gL_law_L_low rfl ⟨rfl, rfl⟩ (by decide +kernel) ⟨Nat.le_of_ble_eq_true rfl, Nat.le_of_ble_eq_true rfl⟩ rfl rfl (Nat.le_of_ble_eq_true rfl) ⟨by show _ ≤ 600000; omega, by show _ ≤ 7302250; omega⟩ (kI (fun z844 v844 h844 => ?_))
                                    obtain ⟨hz844, rfl⟩ := h844
                                    obtain ⟨dd, rfl⟩ : ∃ dd : Nat, z844 = (dd : Int) := ⟨z844.toNat, by omega⟩
                                    refine j_istore X dL_law_847 rfl (Nat.le_of_ble_eq_true rfl) ?_
                                    refine j_join (σ := Int) (fun (iz : Int) => iz = 0 ∨ iz = 1) (fun (iz : Int) => (v, [some (.ref b), some (.ref s.heap.size), some (.ref (s.heap.size + 232)), some (.ref (s.heap.size + 233)), some (.ref (s.heap.size + 234)), some (.ref (s.heap.size + 235)), some (.ref (s.heap.size + 236)), some (.ref (s.heap.size + 237)), some (.int (I (turn : Int))), some (.int (I z77)), some (.int (I kd)), some (.int (I (h : Int))), some (.ref (s.heap.size + 235 + h)), some (.int (I (p : Int))), some (.int (I wz)), some (.int (I (dd : Int))), none, none, none, none], [.int (I iz)])) 866 ?_ (fun K866 => ?_)
                                    · intro iz hx_
                                      dsimp only at hx_ ⊢
                                      have hiz := hx_
                                      refine j_istore X dL_law_866 rfl (Nat.le_of_ble_eq_true rfl) ?_
                                      refine j_join (σ := Nat) (fun (df : Nat) => iz = 1 → (bn G.1 h).length ≤ 50) (fun (df : Nat) => (v, [some (.ref b), some (.ref s.heap.size), some (.ref (s.heap.size + 232)), some (.ref (s.heap.size + 233)), some (.ref (s.heap.size + 234)), some (.ref (s.heap.size + 235)), some (.ref (s.heap.size + 236)), some (.ref (s.heap.size + 237)), some (.int (I (turn : Int))), some (.int (I z77)), some (.int (I kd)), some (.int (I (h : Int))), some (.ref (s.heap.size + 235 + h)), some (.int (I (p : Int))), some (.int (I wz)), some (.int (I (dd : Int))), some (.int (I iz)), none, none, none], [])) 886 ?_ (fun K886 => ?_)
                                      · intro df hx_
                                        dsimp only at hx_ ⊢
                                        have hl50 := hx_
                                        refine j_join (σ := Int) (fun (cn : Int) => (cn = 1 ∧ (iz = 1 ∨ (iz = 0 ∧ (dd + 10) * 16 + p ∈ bn G.1 h))) ∨ (cn = 0 ∧ iz = 0 ∧ ¬ (dd + 10) * 16 + p ∈ bn G.1 h)) (fun (cn : Int) => (v, [some (.ref b), some (.ref s.heap.size), some (.ref (s.heap.size + 232)), some (.ref (s.heap.size + 233)), some (.ref (s.heap.size + 234)), some (.ref (s.heap.size + 235)), some (.ref (s.heap.size + 236)), some (.ref (s.heap.size + 237)), some (.int (I (turn : Int))), some (.int (I z77)), some (.int (I kd)), some (.int (I (h : Int))), some (.ref (s.heap.size + 235 + h)), some (.int (I (p : Int))), some (.int (I wz)), some (.int (I (dd : Int))), some (.int (I iz)), none, none, none], [.int (I cn)])) 910 ?_ (fun K910 => ?_)
                                        · intro cn hx_
                                          dsimp only at hx_ ⊢
                                          have hcn := hx_
                                          refine j_istore X dL_law_910 rfl (Nat.le_of_ble_eq_true rfl) ?_
                                          refine j_join (σ := List Nat × Mem) (fun (y_ : List Nat × Mem) => match y_ with | (L2, u) => RA u (s.heap.size + 235 + h) L2 ∧ (∀ a, a ≠ s.heap.size + 235 + h → u a = v a) ∧ okL L2 ∧ Phi L2 ≤ 60 ∧ ((cn = 1 ∧ iz = 1 ∧ L2 = insL (bn G.1 h) ((dd + 10) * 16 + p)) ∨ (cn = 1 ∧ iz = 0 ∧ (dd + 10) * 16 + p ∈ bn G.1 h ∧ L2 = (bn G.1 h).erase ((dd + 10) * 16 + p)) ∨ (cn = 0 ∧ iz = 0 ∧ ¬ (dd + 10) * 16 + p ∈ bn G.1 h ∧ L2 = bn G.1 h))) (fun (y_ : List Nat × Mem) => match y_ with | (L2, u) => (u, [some (.ref b), some (.ref s.heap.size), some (.ref (s.heap.size + 232)), some (.ref (s.heap.size + 233)), some (.ref (s.heap.size + 234)), some (.ref (s.heap.size + 235)), some (.ref (s.heap.size + 236)), some (.ref (s.heap.size + 237)), some (.int (I (turn : Int))), some (.int (I z77)), some (.int (I kd)), some (.int (I (h : Int))), some (.ref (s.heap.size + 235 + h)), some (.int (I (p : Int))), some (.int (I wz)), some (.int (I (dd : Int))), some (.int (I iz)), some (.int (I cn)), none, none], [])) 941 ?_ (fun K941 => ?_)
                                          · intro y_ hx_
                                            obtain ⟨L2, u⟩ := y_
                                            dsimp only at hx_ ⊢
                                            obtain ⟨hR2, hfu, hL2, hPh2, hcase⟩ := hx_
                                            refine j_aload_n X dL_law_941 rfl ?_
                                            refine j_iload X dL_law_942 rfl ?_
                                            refine j_bipush X dL_law_944 (by decide) ?_
                                            refine j_iload X dL_law_946 rfl ?_
                                            refine j_iadd X dL_law_948 ?_
                                            refine j_iload X dL_law_949 rfl ?_
                                            refine j_iload X dL_law_951 rfl ?_
                                            refine j_callV (nn := 4) X dL_law_953 (c_X4_hand l D _ _ u s.heap.size (h : Int) (10 + (dd : Int)) (p : Int) iz G hX (hXR.kept (fun a h1 h2 => hfu a (by omega))) (by omega) (by omega) (by omega) hiz) gL_law_X4_hand rfl ⟨rfl, rfl⟩ (by decide +kernel) ⟨Nat.le_of_ble_eq_true rfl, Nat.le_of_ble_eq_true rfl⟩ hX.1 ⟨rfl, rfl⟩ rfl rfl (Nat.le_of_ble_eq_true rfl) ⟨by show _ ≤ 600000; omega, by show _ ≤ 7302250; omega⟩ (kI (fun z953 v953 h953 => ?_))
                                            obtain ⟨hz953, hX953, f953⟩ := h953
                                            have hl2 := Nat.le_trans (Phi_len hL2) hPh2
                                            have hres : (cn = 1 ∧ z953 = (L2.length : Int) ∧ ∃ G3 : GS, XR v953 s.heap.size G3 ∧ G3.1 = setW (setB G.1 h L2) h (wt G.1 h) (lo_ G.1 h)) ∨ (cn = 0 ∧ z953 = -5 ∧ XR v953 s.heap.size G ∧ L2 = bn G.1 h) := by
                                              rcases hcase with ⟨q1, q2, q3⟩ | ⟨q1, q2, q3, q4⟩ | ⟨q1, q2, q3, q4⟩
                                              · rw [q2, hand_in hh hp (by omega) (by omega)] at hz953 hX953
                                                rw [q3]
                                                exact Or.inl ⟨q1, hz953, _, hX953, rfl⟩
                                              · rw [q2, hand_out hh hp (by omega) q3] at hz953 hX953
                                                rw [q4]
                                                exact Or.inl ⟨q1, hz953, _, hX953, rfl⟩
                                              · rw [q2, hand_no hh hp (by omega) q3] at hz953 hX953
                                                exact Or.inr ⟨q1, hz953, hX953, q4⟩
                                            refine j_iload X dL_law_956 rfl ?_
                                            refine j_if_eq (tgt := 969) X dL_law_958 (by omega) (by decide) (fun c958 => ?_) (fun c958 => ?_)
                                            · obtain ⟨hz9, hX9, hL2e⟩ : z953 = -5 ∧ XR v953 s.heap.size G ∧ L2 = bn G.1 h := by rcases hres with q | q; omega; exact q.2
                                              subst hz9
                                              refine j_bipush X dL_law_969 (by decide) ?_
                                              refine j_icmp_eq (tgt := 976) X dL_law_971 (by omega) (by decide) (fun c971 => ?_) (fun c971 => ?_)
                                              · refine j_goto (tgt := 1051) X dL_law_976 (by decide) ?_
                                                refine j_cut 10 (K1051 (G, v953) ?_)
                                                (try dsimp only)
                                                exact (LI_mod hI hh (S_id _ h) hX9 hw3 hw4 ((hL2e ▸ hR2).kept (f953 _ (by omega))) hL hPh (by rw [f953 _ (by omega), hfu _ (by omega)]; exact hw1) (by rw [f953 _ (by omega), hfu _ (by omega)]; exact hw2) (fun j h1 h2 => by rw [f953 _ (by omega), hfu _ (by omega)]) (fun a h1 h2 h3 h4 => by rw [f953 a (by omega), hfu a h3]))
                                              · exact absurd rfl c971
                                            · obtain ⟨hz9, G3, hX9, hG3⟩ : z953 = (L2.length : Int) ∧ ∃ G3 : GS, XR v953 s.heap.size G3 ∧ G3.1 = setW (setB G.1 h L2) h (wt G.1 h) (lo_ G.1 h) := by rcases hres with q | q; exact q.2; omega
                                              subst hz9
                                              refine j_aload X dL_law_961 rfl ?_
                                              refine j_callS (nn := 1) X dL_law_963 (c_L_all l D _ _ v953 (s.heap.size + 235 + h) L2 hsk (hR2.kept (f953 _ (by omega))) hL2) gL_law_L_all rfl ⟨rfl, rfl⟩ (by decide +kernel) ⟨Nat.le_of_ble_eq_true rfl, Nat.le_of_ble_eq_true rfl⟩ rfl rfl (Nat.le_of_ble_eq_true rfl) ⟨by show _ ≤ 600000; omega, by show _ ≤ 7302250; omega⟩ (kI (fun z963 v963 h963 => ?_))
                                              obtain ⟨rfl, rfl⟩ := h963
                                              refine j_goto (tgt := 971) X dL_law_966 (by decide) ?_
                                              refine j_icmp_eq (tgt := 976) X dL_law_971 (by omega) (by decide) (fun c971 => ?_) (fun c971 => ?_)
                                              · refine j_goto (tgt := 1051) X dL_law_976 (by decide) ?_
                                                refine j_cut 10 (K1051 (G3, v953) ?_)
                                                (try dsimp only)
                                                exact (LI_mod hI hh hG3 hX9 hw3 hw4 (hR2.kept (f953 _ (by omega))) hL2 hPh2 (by rw [f953 _ (by omega), hfu _ (by omega)]; exact hw1) (by rw [f953 _ (by omega), hfu _ (by omega)]; exact hw2) (fun j h1 h2 => by rw [f953 _ (by omega), hfu _ (by omega)]) (fun a h1 h2 h3 h4 => by rw [f953 a (by omega), hfu a h3]))
                                              · exact absurd rfl c971
                                          · refine j_iload X dL_law_912 rfl ?_
                                            refine j_if_eq (tgt := 941) X dL_law_914 (by omega) (by decide) (fun c914 => ?_) (fun c914 => ?_)
                                            · refine j_cut 18 (K941 (bn G.1 h, v) ?_)
                                              (try dsimp only)
                                              exact ⟨hR, fun _ _ => rfl, hL, hPh, Or.inr (Or.inr ⟨by omega, by rcases hcn with q | q; omega; exact ⟨q.2.1, q.2.2, rfl⟩⟩)⟩
                                            · refine j_aload X dL_law_917 rfl ?_
                                              refine j_bipush X dL_law_919 (by decide) ?_
                                              refine j_iload X dL_law_921 rfl ?_
                                              refine j_imul X dL_law_923 ?_
                                              refine j_iload X dL_law_924 rfl ?_
                                              refine j_iadd X dL_law_926 ?_
                                              refine j_dup2 X dL_law_927 rfl rfl ?_
                                              refine j_ialN X dL_law_928 (by assumption) (6 * dd + p) (by omega) (by omega) (by decide) ?_
                                              rw [hR (6 * dd + p) (by omega)]
                                              have hcl := cA_le (L := bn G.1 h) (6 * dd + p)
                                              refine j_iload X dL_law_929 rfl ?_
                                              refine j_if_eq (tgt := 938) X dL_law_931 (by omega) (by decide) (fun c931 => ?_) (fun c931 => ?_)
                                              · have hmem : (dd + 10) * 16 + p ∈ bn G.1 h := by rcases hcn with ⟨-, q | q⟩ | q; omega; exact q.2; omega
                                                refine j_iconst X dL_law_938 ?_
                                                refine j_iadd X dL_law_939 ?_
                                                refine j_iasN X dL_law_940 (by assumption) (6 * dd + p) (by omega) (by omega) (by decide) (fun u940 f940 g940 n940 => ?_)
                                                refine j_cut 18 (K941 ((bn G.1 h).erase ((dd + 10) * 16 + p), u940) ?_)
                                                (try dsimp only)
                                                exact ⟨RA_hout hR (by omega) (by omega) hmem f940 g940, n940, okL_erase hL _, Phi_er hPh _, Or.inr (Or.inl ⟨by omega, by omega, hmem, rfl⟩)⟩
                                              · refine j_iconst X dL_law_934 ?_
                                                refine j_goto (tgt := 939) X dL_law_935 (by decide) ?_
                                                refine j_iadd X dL_law_939 ?_
                                                refine j_iasN X dL_law_940 (by assumption) (6 * dd + p) (by omega) (by omega) (by decide) (fun u940 f940 g940 n940 => ?_)
                                                refine j_cut 18 (K941 (insL (bn G.1 h) ((dd + 10) * 16 + p), u940) ?_)
                                                (try dsimp only)
                                                exact ⟨RA_hin hR (by omega) (by omega) (by omega) f940 g940, n940, okL_insL hL (okx_hd (by omega) (by omega)), Phi_ins hL (by omega) _, Or.inl ⟨by omega, by omega, rfl⟩⟩
                                        · refine j_iload X dL_law_886 rfl ?_
                                          refine j_if_ne (tgt := 905) X dL_law_888 (by omega) (by decide) (fun c888 => ?_) (fun c888 => ?_)
                                          · refine j_iconst X dL_law_905 ?_
                                            refine j_goto (tgt := 910) X dL_law_906 (by decide) ?_
                                            refine j_cut 17 (K910 1 ?_)
                                            (try dsimp only)
                                            exact (by first | exact Or.inl ⟨rfl, Or.inl (by omega)⟩ | exact Or.inl ⟨rfl, Or.inr ⟨by omega, (mem_cA (by omega)).mp (by omega)⟩⟩)
                                          · refine j_aload X dL_law_891 rfl ?_
                                            refine j_bipush X dL_law_893 (by decide) ?_
                                            refine j_iload X dL_law_895 rfl ?_
                                            refine j_imul X dL_law_897 ?_
                                            refine j_iload X dL_law_898 rfl ?_
                                            refine j_iadd X dL_law_900 ?_
                                            refine j_ialN X dL_law_901 (by assumption) (6 * dd + p) (by omega) (by omega) (by decide) ?_
                                            rw [hR (6 * dd + p) (by omega)]
                                            have hcl := cA_le (L := bn G.1 h) (6 * dd + p)
                                            refine j_if_le (tgt := 909) X dL_law_902 (by omega) (by decide) (fun c902 => ?_) (fun c902 => ?_)
                                            · refine j_iconst X dL_law_909 ?_
                                              refine j_cut 17 (K910 0 ?_)
                                              (try dsimp only)
                                              exact (Or.inr ⟨rfl, by omega, fun hm => by have := (mem_cA (L := bn G.1 h) (d := dd) (show p < 6 by omega)).mpr hm; omega⟩)
                                            · refine j_iconst X dL_law_905 ?_
                                              refine j_goto (tgt := 910) X dL_law_906 (by decide) ?_
                                              refine j_cut 17 (K910 1 ?_)
                                              (try dsimp only)
                                              exact (by first | exact Or.inl ⟨rfl, Or.inl (by omega)⟩ | exact Or.inl ⟨rfl, Or.inr ⟨by omega, (mem_cA (by omega)).mp (by omega)⟩⟩)
                                      · refine j_iload X dL_law_868 rfl ?_
                                        refine j_if_eq (tgt := 886) X dL_law_870 (by omega) (by decide) (fun c870 => ?_) (fun c870 => ?_)
                                        · refine j_cut 17 (K886 0 ?_)
                                          (try dsimp only)
                                          exact (by omega)
                                        · refine j_aload X dL_law_873 rfl ?_
                                          refine j_callS (nn := 1) X dL_law_875 (c_L_all l D _ _ v (s.heap.size + 235 + h) (bn G.1 h) hsk hR hL) gL_law_L_all rfl ⟨rfl, rfl⟩ (by decide +kernel) ⟨Nat.le_of_ble_eq_true rfl, Nat.le_of_ble_eq_true rfl⟩ rfl rfl (Nat.le_of_ble_eq_true rfl) ⟨by show _ ≤ 600000; omega, by show _ ≤ 7302250; omega⟩ (kI (fun z875 v875 h875 => ?_))
                                          obtain ⟨rfl, rfl⟩ := h875
                                          refine j_bipush X dL_law_878 (by decide) ?_
                                          refine j_icmp_le (tgt := 886) X dL_law_880 (by omega) (by decide) (fun c880 => ?_) (fun c880 => ?_)
                                          · refine j_cut 17 (K886 0 ?_)
                                            (try dsimp only)
                                            exact (by omega)
                                          · refine j_goto (tgt := 1074) X dL_law_883 (by decide) ?_
                                            refine j_iinc X dL_law_1074 rfl rfl (Nat.le_of_ble_eq_true rfl) ?_
                                            refine j_goto (tgt := 67) X dL_law_1077 (by decide) ?_
                                            refine j_cut 9 (ih67 (turn + 1, G, v) ?_ (by (try dsimp only); omega))
                                            (try dsimp only)
                                            exact ⟨by omega, hI⟩
                                    · refine j_iload X dL_law_849 rfl ?_
                                      refine j_bipush X dL_law_851 (by decide) ?_
                                      refine jr_ishr X dL_law_853 ?_
                                      refine j_iconst X dL_law_854 ?_
                                      refine j_callS (nn := 2) X dL_law_855 (c_L_low l D _ _ v _ 2 (by omega)) gL_law_L_low rfl ⟨rfl, rfl⟩ (by decide +kernel) ⟨Nat.le_of_ble_eq_true rfl, Nat.le_of_ble_eq_true rfl⟩ rfl rfl (Nat.le_of_ble_eq_true rfl) ⟨by show _ ≤ 600000; omega, by show _ ≤ 7302250; omega⟩ (kI (fun z855 v855 h855 => ?_))
                                      obtain ⟨hz855, rfl⟩ := h855
                                      refine j_if_ne (tgt := 865) X dL_law_858 (by omega) (by decide) (fun c858 => ?_) (fun c858 => ?_)
                                      · refine j_iconst X dL_law_865 ?_
                                        refine j_cut 16 (K866 0 ?_)
                                        (try dsimp only)
                                        exact (by omega)
                                      · refine j_iconst X dL_law_861 ?_
                                        refine j_goto (tgt := 866) X dL_law_862 (by decide) ?_
                                        refine j_cut 16 (K866 1 ?_)
                                        (try dsimp only)
                                        exact (by omega)
                                · refine j_aload_n X dL_law_765 rfl ?_
                                  refine j_iconst X dL_law_766 ?_
                                  refine j_iload X dL_law_767 rfl ?_
                                  refine j_iadd X dL_law_769 ?_
                                  refine j_dup2 X dL_law_770 rfl rfl ?_
                                  refine j_ialN X dL_law_771 (by assumption) (2 + h) (by omega) (by omega) (by decide) ?_
                                  rw [hw1]
                                  refine j_iconst X dL_law_772 ?_
                                  refine j_iload X dL_law_773 rfl ?_
                                  refine j_ishl X dL_law_775 (b_shl (by omega)) ?_
                                  refine j_ior X dL_law_776 (b_or _ _) ?_
                                  refine j_iasN X dL_law_777 (by assumption) (2 + h) (by omega) (by omega) (by decide) (fun u777 f777 g777 n777 => ?_)
                                  refine j_join (σ := Mem) (fun (u : Mem) => u (s.heap.size + 232) (4 + h) = ((if wz = 1 then lo_ G.1 h else clr (lo_ G.1 h) p : Nat) : Int) ∧ u (s.heap.size + 232) (2 + h) = ((wt G.1 h ||| 2 ^ p : Nat) : Int) ∧ (∀ j, j ≠ 4 + h → j ≠ 2 + h → u (s.heap.size + 232) j = v (s.heap.size + 232) j) ∧ ∀ a, a ≠ s.heap.size + 232 → u a = v a) (fun (u : Mem) => (u, [some (.ref b), some (.ref s.heap.size), some (.ref (s.heap.size + 232)), some (.ref (s.heap.size + 233)), some (.ref (s.heap.size + 234)), some (.ref (s.heap.size + 235)), some (.ref (s.heap.size + 236)), some (.ref (s.heap.size + 237)), some (.int (I (turn : Int))), some (.int (I z77)), some (.int (I kd)), some (.int (I (h : Int))), some (.ref (s.heap.size + 235 + h)), some (.int (I (p : Int))), some (.int (I wz)), none, none, none, none, none], [])) 798 ?_ (fun K798 => ?_)
                                  · intro u hx_
                                    dsimp only at hx_ ⊢
                                    obtain ⟨hu4, hu2, huj, hfu⟩ := hx_
                                    refine j_aload_n X dL_law_798 rfl ?_
                                    refine j_iload X dL_law_799 rfl ?_
                                    refine j_iload X dL_law_801 rfl ?_
                                    refine j_callV (nn := 2) X dL_law_803 (c_X4_again l D _ _ u s.heap.size (h : Int) (p : Int) G hX (hXR.kept (fun a h1 h2 => hfu a (by omega))) (by omega) (by omega)) gL_law_X4_again rfl ⟨rfl, rfl⟩ (by decide +kernel) ⟨Nat.le_of_ble_eq_true rfl, Nat.le_of_ble_eq_true rfl⟩ hX.1 ⟨rfl, rfl⟩ rfl rfl (Nat.le_of_ble_eq_true rfl) ⟨by show _ ≤ 600000; omega, by show _ ≤ 7302250; omega⟩ (kI (fun z803 v803 h803 => ?_))
                                    obtain ⟨hz803, hX803, f803⟩ := h803
                                    refine j_iload X dL_law_806 rfl ?_
                                    refine j_if_eq (tgt := 816) X dL_law_808 (by omega) (by decide) (fun c808 => ?_) (fun c808 => ?_)
                                    · have hbit : ¬ (wt G.1 h).testBit p = true := by rcases hwz with q | q; omega; exact q.2
                                      rw [again_n hh hp hbit] at hz803 hX803
                                      dsimp only at hz803 hX803
                                      subst hz803
                                      have hpl := pop_le (lw_64 (or_le hw3 hp) hn6)
                                      refine j_aload_n X dL_law_816 rfl ?_
                                      refine j_iconst X dL_law_817 ?_
                                      refine j_iload X dL_law_818 rfl ?_
                                      refine j_iadd X dL_law_820 ?_
                                      refine j_ialN X dL_law_821 (by assumption) (2 + h) (by omega) (by omega) (by decide) ?_
                                      rw [f803 _ (by omega), hu2]
                                      refine j_callS (nn := 1) X dL_law_822 (c_L_bits l D _ _ v803 (wt G.1 h ||| 2 ^ p) (lw_64 (or_le hw3 hp) hn6)) gL_law_L_bits rfl ⟨rfl, rfl⟩ (by decide +kernel) ⟨Nat.le_of_ble_eq_true rfl, Nat.le_of_ble_eq_true rfl⟩ rfl rfl (Nat.le_of_ble_eq_true rfl) ⟨by show _ ≤ 600000; omega, by show _ ≤ 7302250; omega⟩ (kI (fun z822 v822 h822 => ?_))
                                      obtain ⟨rfl, rfl⟩ := h822
                                      refine j_icmp_eq (tgt := 1051) X dL_law_825 (by omega) (by decide) (fun c825 => ?_) (fun c825 => ?_)
                                      · refine j_cut 10 (K1051 (recG G (setW G.1 h (wt G.1 h ||| 2 ^ p) (clr (lo_ G.1 h) p)), v803) ?_)
                                        (try dsimp only)
                                        exact (LI_mod (L' := bn G.1 h) hI hh (setB_id _ _ _ _).symm hX803 (or_le hw3 hp) (clr_le _ p _ hw4) (hR.kept (by rw [f803 _ (by omega), hfu _ (by omega)])) hL hPh (by rw [f803 _ (by omega), hu2]) (by rw [f803 _ (by omega), hu4, if_neg (by omega)]) (fun j h1 h2 => by rw [f803 _ (by omega), huj j h2 h1]) (fun a h1 h2 h3 h4 => by rw [f803 a (by omega), hfu a h2]))
                                      · exact absurd rfl c825
                                    · have hbit : (wt G.1 h).testBit p = true := by rcases hwz with q | q; exact q.2; omega
                                      rw [again_w hh hp hbit] at hz803 hX803
                                      dsimp only at hz803 hX803
                                      subst hz803
                                      refine j_bipush X dL_law_811 (by decide) ?_
                                      refine j_goto (tgt := 825) X dL_law_813 (by decide) ?_
                                      refine j_icmp_eq (tgt := 1051) X dL_law_825 (by omega) (by decide) (fun c825 => ?_) (fun c825 => ?_)
                                      · refine j_cut 10 (K1051 (G, v803) ?_)
                                        (try dsimp only)
                                        exact (LI_mod hI hh (S_id _ h) hX803 hw3 hw4 (hR.kept (by rw [f803 _ (by omega), hfu _ (by omega)])) hL hPh (by rw [f803 _ (by omega), hu2, or_id hbit]) (by rw [f803 _ (by omega), hu4, if_pos (by omega)]) (fun j h1 h2 => by rw [f803 _ (by omega), huj j h2 h1]) (fun a h1 h2 h3 h4 => by rw [f803 a (by omega), hfu a h2]))
                                      · exact absurd rfl c825
                                  · refine j_iload X dL_law_778 rfl ?_
                                    refine j_if_ne (tgt := 798) X dL_law_780 (by omega) (by decide) (fun c780 => ?_) (fun c780 => ?_)
                                    · refine j_cut 15 (K798 u777 ?_)
                                      (try dsimp only)
                                      exact ⟨by rw [if_pos (by omega), g777 _ (by omega)]; exact hw2, f777, fun j _ h2 => g777 j h2, n777⟩
                                    · refine j_aload_n X dL_law_783 rfl ?_
                                      refine j_iconst X dL_law_784 ?_
                                      refine j_iload X dL_law_785 rfl ?_
                                      refine j_iadd X dL_law_787 ?_
                                      refine j_dup2 X dL_law_788 rfl rfl ?_
                                      refine j_ialN X dL_law_789 (by assumption) (4 + h) (by omega) (by omega) (by decide) ?_
                                      rw [g777 _ (by omega), hw2]
                                      refine j_iconst X dL_law_790 ?_
                                      refine j_iload X dL_law_791 rfl ?_
                                      refine j_ishl X dL_law_793 (b_shl (by omega)) ?_
                                      refine j_iconst X dL_law_794 ?_
                                      refine j_ixor X dL_law_795 (b_not (by omega)) ?_
                                      refine j_iand X dL_law_796 (b_clr (by omega) (by omega)) ?_
                                      refine j_iasN X dL_law_797 (by assumption) (4 + h) (by omega) (by omega) (by decide) (fun u797 f797 g797 n797 => ?_)
                                      refine j_cut 15 (K798 u797 ?_)
                                      (try dsimp only)
                                      exact ⟨by rw [if_neg (by omega)]; exact f797, by rw [g797 _ (by omega)]; exact f777, fun j h1 h2 => by rw [g797 j h1, g777 j h2], fun a h1 => (n797 a h1).trans (n777 a h1)⟩
                              · refine j_join (σ := Mem) (fun (u : Mem) => u (s.heap.size + 232) (4 + h) = ((if wz = 1 then lo_ G.1 h ||| 2 ^ p else lo_ G.1 h : Nat) : Int) ∧ (∀ j, j ≠ 4 + h → u (s.heap.size + 232) j = v (s.heap.size + 232) j) ∧ ∀ a, a ≠ s.heap.size + 232 → u a = v a) (fun (u : Mem) => (u, [some (.ref b), some (.ref s.heap.size), some (.ref (s.heap.size + 232)), some (.ref (s.heap.size + 233)), some (.ref (s.heap.size + 234)), some (.ref (s.heap.size + 235)), some (.ref (s.heap.size + 236)), some (.ref (s.heap.size + 237)), some (.int (I (turn : Int))), some (.int (I z77)), some (.int (I kd)), some (.int (I (h : Int))), some (.ref (s.heap.size + 235 + h)), some (.int (I (p : Int))), some (.int (I wz)), none, none, none, none, none], [])) 711 ?_ (fun K711 => ?_)
                                · intro u hx_
                                  dsimp only at hx_ ⊢
                                  obtain ⟨hu4, huj, hfu⟩ := hx_
                                  refine j_aload_n X dL_law_711 rfl ?_
                                  refine j_iconst X dL_law_712 ?_
                                  refine j_iload X dL_law_713 rfl ?_
                                  refine j_iadd X dL_law_715 ?_
                                  refine j_dup2 X dL_law_716 rfl rfl ?_
                                  refine j_ialN X dL_law_717 (by assumption) (2 + h) (by omega) (by omega) (by decide) ?_
                                  rw [huj _ (by omega), hw1]
                                  refine j_iconst X dL_law_718 ?_
                                  refine j_iload X dL_law_719 rfl ?_
                                  refine j_ishl X dL_law_721 (b_shl (by omega)) ?_
                                  refine j_iconst X dL_law_722 ?_
                                  refine j_ixor X dL_law_723 (b_not (by omega)) ?_
                                  refine j_iand X dL_law_724 (b_clr (by omega) (by omega)) ?_
                                  refine j_iasN X dL_law_725 (by assumption) (2 + h) (by omega) (by omega) (by decide) (fun u725 f725 g725 n725 => ?_)
                                  refine j_aload_n X dL_law_726 rfl ?_
                                  refine j_iload X dL_law_727 rfl ?_
                                  refine j_iload X dL_law_729 rfl ?_
                                  refine j_callV (nn := 2) X dL_law_731 (c_X4_lose l D _ _ u725 s.heap.size (h : Int) (p : Int) G hX (hXR.kept (fun a h1 h2 => by rw [n725 a (by omega), hfu a (by omega)])) (by omega) (by omega)) gL_law_X4_lose rfl ⟨rfl, rfl⟩ (by decide +kernel) ⟨Nat.le_of_ble_eq_true rfl, Nat.le_of_ble_eq_true rfl⟩ hX.1 ⟨rfl, rfl⟩ rfl rfl (Nat.le_of_ble_eq_true rfl) ⟨by show _ ≤ 600000; omega, by show _ ≤ 7302250; omega⟩ (kI (fun z731 v731 h731 => ?_))
                                  obtain ⟨hz731, hX731, f731⟩ := h731
                                  refine j_iload X dL_law_734 rfl ?_
                                  refine j_if_eq (tgt := 751) X dL_law_736 (by omega) (by decide) (fun c736 => ?_) (fun c736 => ?_)
                                  · have hbit : ¬ (wt G.1 h).testBit p = true := by rcases hwz with q | q; omega; exact q.2
                                    rw [lose_n hh hp hbit] at hz731 hX731
                                    dsimp only at hz731 hX731
                                    subst hz731
                                    refine j_bipush X dL_law_751 (by decide) ?_
                                    refine j_icmp_eq (tgt := 1051) X dL_law_753 (by omega) (by decide) (fun c753 => ?_) (fun c753 => ?_)
                                    · refine j_cut 10 (K1051 (G, v731) ?_)
                                      (try dsimp only)
                                      exact (LI_mod hI hh (S_id _ h) hX731 hw3 hw4 (hR.kept (by rw [f731 _ (by omega), n725 _ (by omega), hfu _ (by omega)])) hL hPh (by rw [f731 _ (by omega), f725, clr_id hbit]) (by rw [f731 _ (by omega), g725 _ (by omega), hu4, if_neg (by omega)]) (fun j h1 h2 => by rw [f731 _ (by omega), g725 j h1, huj j h2]) (fun a h1 h2 h3 h4 => by rw [f731 a (by omega), n725 a h2, hfu a h2]))
                                    · exact absurd rfl c753
                                  · have hbit : (wt G.1 h).testBit p = true := by rcases hwz with q | q; exact q.2; omega
                                    rw [lose_w hh hp hbit] at hz731 hX731
                                    dsimp only at hz731 hX731
                                    subst hz731
                                    have hpl := pop_le (lw_64 (clr_le _ p _ hw3) hn6)
                                    refine j_aload_n X dL_law_739 rfl ?_
                                    refine j_iconst X dL_law_740 ?_
                                    refine j_iload X dL_law_741 rfl ?_
                                    refine j_iadd X dL_law_743 ?_
                                    refine j_ialN X dL_law_744 (by assumption) (2 + h) (by omega) (by omega) (by decide) ?_
                                    rw [f731 _ (by omega), f725]
                                    refine j_callS (nn := 1) X dL_law_745 (c_L_bits l D _ _ v731 (clr (wt G.1 h) p) (lw_64 (clr_le _ p _ hw3) hn6)) gL_law_L_bits rfl ⟨rfl, rfl⟩ (by decide +kernel) ⟨Nat.le_of_ble_eq_true rfl, Nat.le_of_ble_eq_true rfl⟩ rfl rfl (Nat.le_of_ble_eq_true rfl) ⟨by show _ ≤ 600000; omega, by show _ ≤ 7302250; omega⟩ (kI (fun z745 v745 h745 => ?_))
                                    obtain ⟨rfl, rfl⟩ := h745
                                    refine j_goto (tgt := 753) X dL_law_748 (by decide) ?_
                                    refine j_icmp_eq (tgt := 1051) X dL_law_753 (by omega) (by decide) (fun c753 => ?_) (fun c753 => ?_)
                                    · refine j_cut 10 (K1051 (recG G (setW G.1 h (clr (wt G.1 h) p) (lo_ G.1 h ||| 2 ^ p)), v731) ?_)
                                      (try dsimp only)
                                      exact (LI_mod (L' := bn G.1 h) hI hh (setB_id _ _ _ _).symm hX731 (clr_le _ p _ hw3) (or_le hw4 hp) (hR.kept (by rw [f731 _ (by omega), n725 _ (by omega), hfu _ (by omega)])) hL hPh (by rw [f731 _ (by omega), f725]) (by rw [f731 _ (by omega), g725 _ (by omega), hu4, if_pos (by omega)]) (fun j h1 h2 => by rw [f731 _ (by omega), g725 j h1, huj j h2]) (fun a h1 h2 h3 h4 => by rw [f731 a (by omega), n725 a h2, hfu a h2]))
                                    · exact absurd rfl c753
                                · refine j_iload X dL_law_693 rfl ?_
                                  refine j_if_eq (tgt := 711) X dL_law_695 (by omega) (by decide) (fun c695 => ?_) (fun c695 => ?_)
                                  · refine j_cut 15 (K711 v ?_)
                                    (try dsimp only)
                                    exact ⟨by rw [if_neg (by omega)]; exact hw2, fun _ _ => rfl, fun _ _ => rfl⟩
                                  · refine j_aload_n X dL_law_698 rfl ?_
                                    refine j_iconst X dL_law_699 ?_
                                    refine j_iload X dL_law_700 rfl ?_
                                    refine j_iadd X dL_law_702 ?_
                                    refine j_dup2 X dL_law_703 rfl rfl ?_
                                    refine j_ialN X dL_law_704 (by assumption) (4 + h) (by omega) (by omega) (by decide) ?_
                                    rw [hw2]
                                    refine j_iconst X dL_law_705 ?_
                                    refine j_iload X dL_law_706 rfl ?_
                                    refine j_ishl X dL_law_708 (b_shl (by omega)) ?_
                                    refine j_ior X dL_law_709 (b_or _ _) ?_
                                    refine j_iasN X dL_law_710 (by assumption) (4 + h) (by omega) (by omega) (by decide) (fun u710 f710 g710 n710 => ?_)
                                    refine j_cut 15 (K711 u710 ?_)
                                    (try dsimp only)
                                    exact ⟨by rw [if_pos (by omega)]; exact f710, g710, n710⟩
                            · refine j_join (σ := Int) (fun (cz : Int) => cz = 0 ∨ cz = 1) (fun (cz : Int) => (v, [some (.ref b), some (.ref s.heap.size), some (.ref (s.heap.size + 232)), some (.ref (s.heap.size + 233)), some (.ref (s.heap.size + 234)), some (.ref (s.heap.size + 235)), some (.ref (s.heap.size + 236)), some (.ref (s.heap.size + 237)), some (.int (I (turn : Int))), some (.int (I z77)), some (.int (I kd)), some (.int (I (h : Int))), some (.ref (s.heap.size + 235 + h)), some (.int (I (p : Int))), some (.int (I wz)), none, none, none, none, none], [.int (I cz)])) 608 ?_ (fun K608 => ?_)
                              · intro cz hx_
                                dsimp only at hx_ ⊢
                                have hcz := hx_
                                refine j_istore X dL_law_608 rfl (Nat.le_of_ble_eq_true rfl) ?_
                                refine j_aload X dL_law_610 rfl ?_
                                refine j_callS (nn := 1) X dL_law_612 (c_L_all l D _ _ v (s.heap.size + 235 + h) (bn G.1 h) hsk hR hL) gL_law_L_all rfl ⟨rfl, rfl⟩ (by decide +kernel) ⟨Nat.le_of_ble_eq_true rfl, Nat.le_of_ble_eq_true rfl⟩ rfl rfl (Nat.le_of_ble_eq_true rfl) ⟨by show _ ≤ 600000; omega, by show _ ≤ 7302250; omega⟩ (kI (fun z612 v612 h612 => ?_))
                                obtain ⟨rfl, rfl⟩ := h612
                                refine j_bipush X dL_law_615 (by decide) ?_
                                refine j_icmp_le (tgt := 623) X dL_law_617 (by omega) (by decide) (fun c617 => ?_) (fun c617 => ?_)
                                · refine j_join (σ := Mem) (fun (u : Mem) => RA u (s.heap.size + 235 + h) (if wz = 1 then dn cz (od G.1 p) p (bn G.1 h) else bn G.1 h) ∧ ∀ a, a ≠ s.heap.size + 235 + h → u a = v a) (fun (u : Mem) => (u, [some (.ref b), some (.ref s.heap.size), some (.ref (s.heap.size + 232)), some (.ref (s.heap.size + 233)), some (.ref (s.heap.size + 234)), some (.ref (s.heap.size + 235)), some (.ref (s.heap.size + 236)), some (.ref (s.heap.size + 237)), some (.int (I (turn : Int))), some (.int (I z77)), some (.int (I kd)), some (.int (I (h : Int))), some (.ref (s.heap.size + 235 + h)), some (.int (I (p : Int))), some (.int (I wz)), some (.int (I cz)), none, none, none, none], [])) 638 ?_ (fun K638 => ?_)
                                  · intro u hx_
                                    dsimp only at hx_ ⊢
                                    obtain ⟨hR638, hfu⟩ := hx_
                                    refine j_aload_n X dL_law_638 rfl ?_
                                    refine j_iconst X dL_law_639 ?_
                                    refine j_iload X dL_law_640 rfl ?_
                                    refine j_iadd X dL_law_642 ?_
                                    refine j_dup2 X dL_law_643 rfl rfl ?_
                                    refine j_ialN X dL_law_644 (by assumption) (2 + h) (by omega) (by omega) (by decide) ?_
                                    rw [hfu _ (by omega), hw1]
                                    refine j_iconst X dL_law_645 ?_
                                    refine j_iload X dL_law_646 rfl ?_
                                    refine j_ishl X dL_law_648 (b_shl (by omega)) ?_
                                    refine j_iconst X dL_law_649 ?_
                                    refine j_ixor X dL_law_650 (b_not (by omega)) ?_
                                    refine j_iand X dL_law_651 (b_clr (by omega) (by omega)) ?_
                                    refine j_iasN X dL_law_652 (by assumption) (2 + h) (by omega) (by omega) (by decide) (fun u652 f652 g652 n652 => ?_)
                                    refine j_aload_n X dL_law_653 rfl ?_
                                    refine j_iload X dL_law_654 rfl ?_
                                    refine j_iload X dL_law_656 rfl ?_
                                    refine j_iload X dL_law_658 rfl ?_
                                    refine j_callV (nn := 3) X dL_law_660 (c_X4_done l D _ _ u652 s.heap.size (h : Int) (p : Int) cz G hX (hXR.kept (fun a h1 h2 => by rw [n652 a (by omega), hfu a (by omega)])) (by omega) (by omega) hcz) gL_law_X4_done rfl ⟨rfl, rfl⟩ (by decide +kernel) ⟨Nat.le_of_ble_eq_true rfl, Nat.le_of_ble_eq_true rfl⟩ hX.1 ⟨rfl, rfl⟩ rfl rfl (Nat.le_of_ble_eq_true rfl) ⟨by show _ ≤ 600000; omega, by show _ ≤ 7302250; omega⟩ (kI (fun z660 v660 h660 => ?_))
                                    obtain ⟨hz660, hX660, f660⟩ := h660
                                    refine j_iload X dL_law_663 rfl ?_
                                    refine j_if_eq (tgt := 676) X dL_law_665 (by omega) (by decide) (fun c665 => ?_) (fun c665 => ?_)
                                    · have hbit : ¬ (wt G.1 h).testBit p = true := by rcases hwz with q | q; omega; exact q.2
                                      rw [done_n cz hh hp hbit] at hz660 hX660
                                      dsimp only at hz660 hX660
                                      subst hz660
                                      rw [if_neg (by omega)] at hR638
                                      refine j_bipush X dL_law_676 (by decide) ?_
                                      refine j_icmp_eq (tgt := 683) X dL_law_678 (by omega) (by decide) (fun c678 => ?_) (fun c678 => ?_)
                                      · refine j_goto (tgt := 1051) X dL_law_683 (by decide) ?_
                                        refine j_cut 10 (K1051 (G, v660) ?_)
                                        (try dsimp only)
                                        exact (LI_mod hI hh (S_id _ h) hX660 hw3 hw4 (hR638.kept (by rw [f660 _ (by omega), n652 _ (by omega)])) hL hPh (by rw [f660 _ (by omega), f652, clr_id hbit]) (by rw [f660 _ (by omega), g652 _ (by omega), hfu _ (by omega)]; exact hw2) (fun j h1 h2 => by rw [f660 _ (by omega), g652 j h1, hfu _ (by omega)]) (fun a h1 h2 h3 h4 => by rw [f660 a (by omega), n652 a h2, hfu a h3]))
                                      · exact absurd rfl c678
                                    · have hbit : (wt G.1 h).testBit p = true := by rcases hwz with q | q; exact q.2; omega
                                      rw [done_w cz hh hp hbit] at hz660 hX660
                                      dsimp only at hz660 hX660
                                      subst hz660
                                      rw [if_pos (by omega)] at hR638
                                      have hdn := dn_fin (c := cz) (show p < 6 by omega) hOp.2 hL (by omega)
                                      have hdl := Nat.le_trans (Phi_len hdn.1) hdn.2
                                      have hR660 := hR638.kept (w := v660) (by rw [f660 _ (by omega), n652 _ (by omega)])
                                      refine j_aload X dL_law_668 rfl ?_
                                      refine j_callS (nn := 1) X dL_law_670 (c_L_all l D _ _ v660 (s.heap.size + 235 + h) (dn cz (od G.1 p) p (bn G.1 h)) hsk hR660 hdn.1) gL_law_L_all rfl ⟨rfl, rfl⟩ (by decide +kernel) ⟨Nat.le_of_ble_eq_true rfl, Nat.le_of_ble_eq_true rfl⟩ rfl rfl (Nat.le_of_ble_eq_true rfl) ⟨by show _ ≤ 600000; omega, by show _ ≤ 7302250; omega⟩ (kI (fun z670 v670 h670 => ?_))
                                      obtain ⟨rfl, rfl⟩ := h670
                                      refine j_goto (tgt := 678) X dL_law_673 (by decide) ?_
                                      refine j_icmp_eq (tgt := 683) X dL_law_678 (by omega) (by decide) (fun c678 => ?_) (fun c678 => ?_)
                                      · refine j_goto (tgt := 1051) X dL_law_683 (by decide) ?_
                                        refine j_cut 10 (K1051 (recG G (setW (setB G.1 h (dn cz (od G.1 p) p (bn G.1 h))) h (clr (wt G.1 h) p) (lo_ G.1 h)), v660) ?_)
                                        (try dsimp only)
                                        exact (LI_mod hI hh rfl hX660 (clr_le _ p _ hw3) hw4 hR660 hdn.1 hdn.2 (by rw [f660 _ (by omega), f652]) (by rw [f660 _ (by omega), g652 _ (by omega), hfu _ (by omega)]; exact hw2) (fun j h1 h2 => by rw [f660 _ (by omega), g652 j h1, hfu _ (by omega)]) (fun a h1 h2 h3 h4 => by rw [f660 a (by omega), n652 a h2, hfu a h3]))
                                      · exact absurd rfl c678
                                  · refine j_iload X dL_law_623 rfl ?_
                                    refine j_if_eq (tgt := 638) X dL_law_625 (by omega) (by decide) (fun c625 => ?_) (fun c625 => ?_)
                                    · refine j_cut 16 (K638 v ?_)
                                      (try dsimp only)
                                      exact ⟨by rw [if_neg (by omega)]; exact hR, fun _ _ => rfl⟩
                                    · refine j_aload X dL_law_628 rfl ?_
                                      refine j_iload X dL_law_630 rfl ?_
                                      refine j_iload X dL_law_632 rfl ?_
                                      refine j_aload_n X dL_law_634 rfl ?_
                                      refine j_callS (nn := 4) X dL_law_635 (c_L_does l D _ _ v (s.heap.size + 235 + h) (s.heap.size + 233) p cz (od G.1 p) (bn G.1 h) hsk hpa (by omega) (by omega) hR hL hOp.1 hOp.2 (by omega)) gL_law_L_does rfl ⟨rfl, rfl⟩ (by decide +kernel) ⟨Nat.le_of_ble_eq_true rfl, Nat.le_of_ble_eq_true rfl⟩ rfl rfl (Nat.le_of_ble_eq_true rfl) ⟨by show _ ≤ 600000; omega, by show _ ≤ 7302250; omega⟩ (kV (fun v635 h635 => ?_))
                                      obtain ⟨hR635, f635⟩ := h635
                                      refine j_cut 16 (K638 v635 ?_)
                                      (try dsimp only)
                                      exact ⟨by rw [if_pos (by omega)]; exact hR635, f635⟩
                                · refine j_goto (tgt := 1074) X dL_law_620 (by decide) ?_
                                  refine j_iinc X dL_law_1074 rfl rfl (Nat.le_of_ble_eq_true rfl) ?_
                                  refine j_goto (tgt := 67) X dL_law_1077 (by decide) ?_
                                  refine j_cut 9 (ih67 (turn + 1, G, v) ?_ (by (try dsimp only); omega))
                                  (try dsimp only)
                                  exact ⟨by omega, hI⟩
                              · refine j_iload X dL_law_591 rfl ?_
                                refine j_bipush X dL_law_593 (by decide) ?_
                                refine jr_ishr X dL_law_595 ?_
                                refine j_iconst X dL_law_596 ?_
                                refine j_callS (nn := 2) X dL_law_597 (c_L_low l D _ _ v _ 2 (by omega)) gL_law_L_low rfl ⟨rfl, rfl⟩ (by decide +kernel) ⟨Nat.le_of_ble_eq_true rfl, Nat.le_of_ble_eq_true rfl⟩ rfl rfl (Nat.le_of_ble_eq_true rfl) ⟨by show _ ≤ 600000; omega, by show _ ≤ 7302250; omega⟩ (kI (fun z597 v597 h597 => ?_))
                                obtain ⟨hz597, rfl⟩ := h597
                                refine j_if_ne (tgt := 607) X dL_law_600 (by omega) (by decide) (fun c600 => ?_) (fun c600 => ?_)
                                · refine j_iconst X dL_law_607 ?_
                                  refine j_cut 15 (K608 0 ?_)
                                  (try dsimp only)
                                  exact (by omega)
                                · refine j_iconst X dL_law_603 ?_
                                  refine j_goto (tgt := 608) X dL_law_604 (by decide) ?_
                                  refine j_cut 15 (K608 1 ?_)
                                  (try dsimp only)
                                  exact (by omega)
                          · refine j_cut 15 (K569 0 ?_)
                            (try dsimp only)
                            exact (by omega)
                    · refine j_iload X dL_law_468 rfl ?_
                      refine j_iconst X dL_law_470 ?_
                      refine j_icmp_ne (tgt := 557) X dL_law_471 (by omega) (by decide) (fun c471 => ?_) (fun c471 => ?_)
                      · refine j_cut 15 (K557 0 ?_)
                        exact trivial
                      · refine j_aload_n X dL_law_474 rfl ?_
                        refine j_iconst X dL_law_475 ?_
                        refine j_ialN X dL_law_476 (by assumption) (1) rfl (by omega) (by decide) ?_
                        rw [hq1]
                        refine j_iconst X dL_law_477 ?_
                        refine j_icmp_ge (tgt := 557) X dL_law_478 (by omega) (by decide) (fun c478 => ?_) (fun c478 => ?_)
                        · refine j_cut 15 (K557 0 ?_)
                          exact trivial
                        · refine j_join (σ := Nat) (fun (ca : Nat) => ca = s.heap.size + 235 + no G.1) (fun (ca : Nat) => (v, [some (.ref b), some (.ref s.heap.size), some (.ref (s.heap.size + 232)), some (.ref (s.heap.size + 233)), some (.ref (s.heap.size + 234)), some (.ref (s.heap.size + 235)), some (.ref (s.heap.size + 236)), some (.ref (s.heap.size + 237)), some (.int (I (turn : Int))), some (.int (I z77)), some (.int (I kd)), some (.int (I (h : Int))), some (.ref (s.heap.size + 235 + h)), some (.int (I (p : Int))), some (.int (I wz)), none, none, none, none, none], [.ref ca])) 494 ?_ (fun K494 => ?_)
                          · intro ca hx_
                            dsimp only at hx_ ⊢
                            have hca := hx_
                            subst hca
                            have hsn : k38 (s.heap.size + 235 + no G.1) = some (eA D 10 60) := by rcases (show no G.1 = 0 ∨ no G.1 = 1 by omega) with e | e <;> rw [e]; exact hA; exact hBb
                            refine j_astore X dL_law_494 rfl (Nat.le_of_ble_eq_true rfl) ?_
                            refine j_iconst X dL_law_496 ?_
                            refine j_istore X dL_law_497 rfl (Nat.le_of_ble_eq_true rfl) ?_
                            refine j_cut 17 (j_loop (σ := Nat × Mem) (fun (y_ : Nat × Mem) => match y_ with | (d, u) => d ≤ 10 ∧ (∀ j, j < 60 → u (s.heap.size + 235 + no G.1) j = if j / 6 < d then (cA (tx G.1) j : Int) else 0) ∧ ∀ a, a ≠ s.heap.size + 235 + no G.1 → u a = v a) (fun (y_ : Nat × Mem) => match y_ with | (d, u) => 10 - d) (fun (y_ : Nat × Mem) => match y_ with | (d, u) => (u, [some (.ref b), some (.ref s.heap.size), some (.ref (s.heap.size + 232)), some (.ref (s.heap.size + 233)), some (.ref (s.heap.size + 234)), some (.ref (s.heap.size + 235)), some (.ref (s.heap.size + 236)), some (.ref (s.heap.size + 237)), some (.int (I (turn : Int))), some (.int (I z77)), some (.int (I kd)), some (.int (I (h : Int))), some (.ref (s.heap.size + 235 + h)), some (.int (I (p : Int))), some (.int (I wz)), some (.ref (s.heap.size + 235 + no G.1)), some (.int (I (d : Int))), none, none, none])) ?_ (0, v) ⟨by omega, fun j hj => by rw [if_neg (by omega)]; exact hI.zero (by omega) j hj, fun _ _ => rfl⟩)
                            intro y_ hx_ ih499
                            obtain ⟨d, u⟩ := y_
                            dsimp only at hx_ ih499 ⊢
                            obtain ⟨hd, hd1, hfu⟩ := hx_
                            have hzd := fun hlt => (hRT d hlt).bd
                            refine j_iload X dL_law_499 rfl ?_
                            refine j_bipush X dL_law_501 (by decide) ?_
                            refine j_icmp_ge (tgt := 535) X dL_law_503 (by omega) (by decide) (fun c503 => ?_) (fun c503 => ?_)
                            · have hd10 : d = 10 := by omega
                              subst hd10
                              refine j_aload_n X dL_law_535 rfl ?_
                              refine j_callV (nn := 0) X dL_law_536 (c_X4_own l D _ _ u s.heap.size G hX (hXR.kept (fun a h1 h2 => hfu a (by omega)))) gL_law_X4_own rfl ⟨rfl, rfl⟩ (by decide +kernel) ⟨Nat.le_of_ble_eq_true rfl, Nat.le_of_ble_eq_true rfl⟩ hX.1 ⟨rfl, rfl⟩ rfl rfl (Nat.le_of_ble_eq_true rfl) ⟨by show _ ≤ 600000; omega, by show _ ≤ 7302250; omega⟩ (kI (fun z536 v536 h536 => ?_))
                              rw [own_is (by omega)] at h536
                              dsimp only at h536
                              obtain ⟨rfl, hX536, f536⟩ := h536
                              refine j_aload_n X dL_law_539 rfl ?_
                              refine j_iconst X dL_law_540 ?_
                              refine j_ialN X dL_law_541 (by assumption) (1) rfl (by omega) (by decide) ?_
                              rw [f536 _ (by omega), hfu _ (by omega), hq1]
                              refine j_icmp_eq (tgt := 547) X dL_law_542 (by omega) (by decide) (fun c542 => ?_) (fun c542 => ?_)
                              · refine j_aload_n X dL_law_547 rfl ?_
                                refine j_iconst X dL_law_548 ?_
                                refine j_dup2 X dL_law_549 rfl rfl ?_
                                refine j_ialN X dL_law_550 (by assumption) (1) rfl (by omega) (by decide) ?_
                                rw [f536 _ (by omega), hfu _ (by omega), hq1]
                                refine j_iconst X dL_law_551 ?_
                                refine j_iadd X dL_law_552 ?_
                                refine j_iasN X dL_law_553 (by assumption) (1) rfl (by omega) (by decide) (fun u553 f553 g553 n553 => ?_)
                                refine j_goto (tgt := 1051) X dL_law_554 (by decide) ?_
                                refine j_cut 10 (K1051 (recG G (ownA G.1), u553) ?_)
                                (try dsimp only)
                                exact (LI_own hI (by omega) rfl (hX536.kept (fun a h1 h2 => n553 a (by omega))) f553 (fun j hj => by rw [g553 j hj, f536 _ (by omega), hfu _ (by omega)]) (fun k hk => by rw [n553 _ (by omega), f536 _ (by omega), hd1 k hk, if_pos (by omega)]) (fun a h1 h2 h3 h4 => by rw [n553 a h2, f536 a (by omega), hfu a h3]))
                              · exact absurd rfl c542
                            · refine j_aload X dL_law_506 rfl ?_
                              refine j_iload X dL_law_508 rfl ?_
                              refine j_ialN X dL_law_510 (by assumption) (d) (by omega) (by omega) (by decide) ?_
                              rw [hfu _ (by omega)]
                              refine j_if_lt (tgt := 529) X dL_law_511 (by omega) (by decide) (fun c511 => ?_) (fun c511 => ?_)
                              · first
                                | (have hst : ∀ j, j < 60 → u528 (s.heap.size + 235 + no G.1) j = if j / 6 < d + 1 then (cA (tx G.1) j : Int) else 0 := fun j hj => by
                                    by_cases q : j / 6 = d
                                    · rw [if_pos (by omega)]
                                      have hc := cA_tx hN hoT (show d < 10 by omega) (hRT d (by omega)) (show j - 6 * d < 6 by omega)
                                      rw [show 6 * d + (j - 6 * d) = j by omega, hi] at hc
                                      by_cases r : j = 6 * d + i
                                      · rw [r, f528, ← r, hc, if_pos (by omega)]
                                        rfl
                                      · rw [g528 j r, hd1 j hj, if_neg (by omega), hc, if_neg (by omega)]
                                        rfl
                                    · rw [g528 j (by omega), hd1 j hj]
                                      by_cases r : j / 6 < d
                                      · rw [if_pos r, if_pos (by omega)]
                                      · rw [if_neg r, if_neg (by omega)]
                                   have hfr : ∀ a, a ≠ s.heap.size + 235 + no G.1 → u528 a = v a := fun a h1 => (n528 a h1).trans (hfu a h1))
                                | (have hst : ∀ j, j < 60 → u (s.heap.size + 235 + no G.1) j = if j / 6 < d + 1 then (cA (tx G.1) j : Int) else 0 := fun j hj => by
                                    rw [hd1 j hj]
                                    by_cases q : j / 6 = d
                                    · rw [if_neg (by omega), if_pos (by omega)]
                                      have hc := cA_tx hN hoT (show d < 10 by omega) (hRT d (by omega)) (show j - 6 * d < 6 by omega)
                                      rw [show 6 * d + (j - 6 * d) = j by omega] at hc
                                      rw [hc, if_neg (by omega)]
                                      rfl
                                    · by_cases r : j / 6 < d
                                      · rw [if_pos r, if_pos (by omega)]
                                      · rw [if_neg r, if_neg (by omega)]
                                   have hfr : ∀ a, a ≠ s.heap.size + 235 + no G.1 → u a = v a := hfu)
                                refine j_iinc X dL_law_529 rfl rfl (Nat.le_of_ble_eq_true rfl) ?_
                                refine j_goto (tgt := 499) X dL_law_532 (by decide) ?_
                                refine j_cut 17 (ih499 (d + 1, _) ?_ (by (try dsimp only); omega))
                                (try dsimp only)
                                exact ⟨by omega, hst, hfr⟩
                              · obtain ⟨i, hi⟩ : ∃ i : Nat, v (s.heap.size + 234) d = (i : Int) := ⟨(v (s.heap.size + 234) d).toNat, by omega⟩
                                have hzd2 := hzd (by omega)
                                refine j_aload X dL_law_514 rfl ?_
                                refine j_bipush X dL_law_516 (by decide) ?_
                                refine j_iload X dL_law_518 rfl ?_
                                refine j_imul X dL_law_520 ?_
                                refine j_aload X dL_law_521 rfl ?_
                                refine j_iload X dL_law_523 rfl ?_
                                refine j_ialN X dL_law_525 (by assumption) (d) (by omega) (by omega) (by decide) ?_
                                rw [hfu _ (by omega), hi]
                                refine j_iadd X dL_law_526 ?_
                                refine j_iconst X dL_law_527 ?_
                                refine j_iasN X dL_law_528 (by assumption) (6 * d + i) (by omega) (by omega) (by decide) (fun u528 f528 g528 n528 => ?_)
                                first
                                | (have hst : ∀ j, j < 60 → u528 (s.heap.size + 235 + no G.1) j = if j / 6 < d + 1 then (cA (tx G.1) j : Int) else 0 := fun j hj => by
                                    by_cases q : j / 6 = d
                                    · rw [if_pos (by omega)]
                                      have hc := cA_tx hN hoT (show d < 10 by omega) (hRT d (by omega)) (show j - 6 * d < 6 by omega)
                                      rw [show 6 * d + (j - 6 * d) = j by omega, hi] at hc
                                      by_cases r : j = 6 * d + i
                                      · rw [r, f528, ← r, hc, if_pos (by omega)]
                                        rfl
                                      · rw [g528 j r, hd1 j hj, if_neg (by omega), hc, if_neg (by omega)]
                                        rfl
                                    · rw [g528 j (by omega), hd1 j hj]
                                      by_cases r : j / 6 < d
                                      · rw [if_pos r, if_pos (by omega)]
                                      · rw [if_neg r, if_neg (by omega)]
                                   have hfr : ∀ a, a ≠ s.heap.size + 235 + no G.1 → u528 a = v a := fun a h1 => (n528 a h1).trans (hfu a h1))
                                | (have hst : ∀ j, j < 60 → u (s.heap.size + 235 + no G.1) j = if j / 6 < d + 1 then (cA (tx G.1) j : Int) else 0 := fun j hj => by
                                    rw [hd1 j hj]
                                    by_cases q : j / 6 = d
                                    · rw [if_neg (by omega), if_pos (by omega)]
                                      have hc := cA_tx hN hoT (show d < 10 by omega) (hRT d (by omega)) (show j - 6 * d < 6 by omega)
                                      rw [show 6 * d + (j - 6 * d) = j by omega] at hc
                                      rw [hc, if_neg (by omega)]
                                      rfl
                                    · by_cases r : j / 6 < d
                                      · rw [if_pos r, if_pos (by omega)]
                                      · rw [if_neg r, if_neg (by omega)]
                                   have hfr : ∀ a, a ≠ s.heap.size + 235 + no G.1 → u a = v a := hfu)
                                refine j_iinc X dL_law_529 rfl rfl (Nat.le_of_ble_eq_true rfl) ?_
                                refine j_goto (tgt := 499) X dL_law_532 (by decide) ?_
                                refine j_cut 17 (ih499 (d + 1, _) ?_ (by (try dsimp only); omega))
                                (try dsimp only)
                                exact ⟨by omega, hst, hfr⟩
                          · refine j_aload_n X dL_law_481 rfl ?_
                            refine j_iconst X dL_law_482 ?_
                            refine j_ialN X dL_law_483 (by assumption) (1) rfl (by omega) (by decide) ?_
                            rw [hq1]
                            refine j_if_ne (tgt := 492) X dL_law_484 (by omega) (by decide) (fun c484 => ?_) (fun c484 => ?_)
                            · refine j_aload X dL_law_492 rfl ?_
                              refine j_cut 15 (K494 (s.heap.size + 236) ?_)
                              (try dsimp only)
                              exact (by omega)
                            · refine j_aload X dL_law_487 rfl ?_
                              refine j_goto (tgt := 494) X dL_law_489 (by decide) ?_
                              refine j_cut 15 (K494 (s.heap.size + 235) ?_)
                              (try dsimp only)
                              exact (by omega)
                  · refine j_iload X dL_law_190 rfl ?_
                    refine j_iconst X dL_law_192 ?_
                    refine j_icmp_ge (tgt := 468) X dL_law_193 (by omega) (by decide) (fun c193 => ?_) (fun c193 => ?_)
                    · refine j_cut 15 (K468 0 ?_)
                      exact trivial
                    · refine j_aload_n X dL_law_196 rfl ?_
                      refine j_iconst X dL_law_197 ?_
                      refine j_ialN X dL_law_198 (by assumption) (0) rfl (by omega) (by decide) ?_
                      rw [hq0]
                      refine j_bipush X dL_law_199 (by decide) ?_
                      refine j_icmp_ge (tgt := 468) X dL_law_201 (by omega) (by decide) (fun c201 => ?_) (fun c201 => ?_)
                      · refine j_cut 15 (K468 0 ?_)
                        exact trivial
                      · have hnp : np G.1 < 6 := by omega
                        refine j_iconst X dL_law_204 ?_
                        refine j_iload X dL_law_205 rfl ?_
                        refine j_bipush X dL_law_207 (by decide) ?_
                        refine jr_ishr X dL_law_209 ?_
                        refine j_bipush X dL_law_210 (by decide) ?_
                        refine j_callS (nn := 2) X dL_law_212 (c_L_low l D _ _ v _ 8 (by omega)) gL_law_L_low rfl ⟨rfl, rfl⟩ (by decide +kernel) ⟨Nat.le_of_ble_eq_true rfl, Nat.le_of_ble_eq_true rfl⟩ rfl rfl (Nat.le_of_ble_eq_true rfl) ⟨by show _ ≤ 600000; omega, by show _ ≤ 7302250; omega⟩ (kI (fun z212 v212 h212 => ?_))
                        obtain ⟨hz212, rfl⟩ := h212
                        obtain ⟨n0, rfl⟩ : ∃ n0 : Nat, z212 = (n0 : Int) := ⟨z212.toNat, by omega⟩
                        refine j_iadd X dL_law_215 ?_
                        refine j_topi (y := ((n0 + 1 : Nat) : Int)) (by omega) ?_
                        refine j_istore X dL_law_216 rfl (Nat.le_of_ble_eq_true rfl) ?_
                        refine j_iload X dL_law_218 rfl ?_
                        refine j_bipush X dL_law_220 (by decide) ?_
                        refine jr_ishr X dL_law_222 ?_
                        refine j_bipush X dL_law_223 (by decide) ?_
                        refine j_callS (nn := 2) X dL_law_225 (c_L_low l D _ _ v _ 10 (by omega)) gL_law_L_low rfl ⟨rfl, rfl⟩ (by decide +kernel) ⟨Nat.le_of_ble_eq_true rfl, Nat.le_of_ble_eq_true rfl⟩ rfl rfl (Nat.le_of_ble_eq_true rfl) ⟨by show _ ≤ 600000; omega, by show _ ≤ 7302250; omega⟩ (kI (fun z225 v225 h225 => ?_))
                        obtain ⟨hz225, rfl⟩ := h225
                        obtain ⟨f0, rfl⟩ : ∃ f0 : Nat, z225 = (f0 : Int) := ⟨z225.toNat, by omega⟩
                        refine j_istore X dL_law_228 rfl (Nat.le_of_ble_eq_true rfl) ?_
                        refine j_aload_n X dL_law_230 rfl ?_
                        refine j_callV (nn := 0) X dL_law_231 (c_X4_wipe l D _ _ v s.heap.size G hX hXR) gL_law_X4_wipe rfl ⟨rfl, rfl⟩ (by decide +kernel) ⟨Nat.le_of_ble_eq_true rfl, Nat.le_of_ble_eq_true rfl⟩ hX.1 ⟨rfl, rfl⟩ rfl rfl (Nat.le_of_ble_eq_true rfl) ⟨by show _ ≤ 600000; omega, by show _ ≤ 7302250; omega⟩ (kI (fun z231 v231 h231 => ?_))
                        obtain ⟨rfl, hX231, f231⟩ := h231
                        have hQ0 : QI v s.heap.size f0 G 0 [] [] v231 := QI.init hI hX231 f231
                        refine j_pop X dL_law_234 rfl ?_
                        refine j_iconst X dL_law_235 ?_
                        refine j_istore X dL_law_236 rfl (Nat.le_of_ble_eq_true rfl) ?_
                        refine j_cut 18 (j_loop (σ := Nat × List Nat × List Nat × Mem) (fun (y_ : Nat × List Nat × List Nat × Mem) => match y_ with | (k, O, P, u) => k ≤ n0 + 1 ∧ QI v s.heap.size f0 G k O P u) (fun (y_ : Nat × List Nat × List Nat × Mem) => match y_ with | (k, O, P, u) => n0 + 1 - k) (fun (y_ : Nat × List Nat × List Nat × Mem) => match y_ with | (k, O, P, u) => (u, [some (.ref b), some (.ref s.heap.size), some (.ref (s.heap.size + 232)), some (.ref (s.heap.size + 233)), some (.ref (s.heap.size + 234)), some (.ref (s.heap.size + 235)), some (.ref (s.heap.size + 236)), some (.ref (s.heap.size + 237)), some (.int (I (turn : Int))), some (.int (I z77)), some (.int (I kd)), some (.int (I (h : Int))), some (.ref (s.heap.size + 235 + h)), some (.int (I (p : Int))), some (.int (I wz)), some (.int (I ((n0 + 1 : Nat) : Int))), some (.int (I (f0 : Int))), some (.int (I (k : Int))), none, none])) ?_ (0, [], [], v231) ⟨by omega, hQ0⟩)
                        intro y_ hx_ ih238
                        obtain ⟨k, O, P, u⟩ := y_
                        dsimp only at hx_ ih238 ⊢
                        obtain ⟨hk, hQ⟩ := hx_
                        obtain ⟨qk, qk8, hPT, hXu, hfu, hfp, hfo, hfT⟩ := id hQ
                        have hPl : P.length = 5 * k - 1 := by rw [hPT.1, qk]
                        refine j_iload X dL_law_238 rfl ?_
                        refine j_iload X dL_law_240 rfl ?_
                        refine j_icmp_ge (tgt := 405) X dL_law_242 (by omega) (by decide) (fun c242 => ?_) (fun c242 => ?_)
                        · have hkn : k = n0 + 1 := by omega
                          have hOn : O ≠ [] := fun h => by rw [h] at qk; simp at qk; omega
                          have hoP := hQ.oo.2
                          refine j_aload_n X dL_law_405 rfl ?_
                          refine j_bipush X dL_law_406 (by decide) ?_
                          refine j_aload_n X dL_law_408 rfl ?_
                          refine j_iconst X dL_law_409 ?_
                          refine j_ialN X dL_law_410 (by assumption) (0) rfl (by omega) (by decide) ?_
                          rw [hfu _ (by omega) (by omega) (by omega), hq0]
                          refine j_imul X dL_law_411 ?_
                          refine j_iload X dL_law_412 rfl ?_
                          refine j_iasN X dL_law_414 (by assumption) (9 * np G.1) (by omega) (by omega) (by decide) (fun u414 f414 g414 n414 => ?_)
                          refine j_aload_n X dL_law_415 rfl ?_
                          refine j_callV (nn := 0) X dL_law_416 (c_X4_issue l D _ _ u414 s.heap.size (G.1, G.2.1, G.2.2.1, P) hX (hXu.kept (fun a h1 h2 => n414 a (by omega)))) gL_law_X4_issue rfl ⟨rfl, rfl⟩ (by decide +kernel) ⟨Nat.le_of_ble_eq_true rfl, Nat.le_of_ble_eq_true rfl⟩ hX.1 ⟨rfl, rfl⟩ rfl rfl (Nat.le_of_ble_eq_true rfl) ⟨by show _ ≤ 600000; omega, by show _ ≤ 7302250; omega⟩ (kI (fun z416 v416 h416 => ?_))
                          rw [issue_is hPT hOn hoP hnp] at h416
                          dsimp only at h416
                          obtain ⟨rfl, hX416, f416⟩ := h416
                          refine j_aload_n X dL_law_419 rfl ?_
                          refine j_iconst X dL_law_420 ?_
                          refine j_ialN X dL_law_421 (by assumption) (0) rfl (by omega) (by decide) ?_
                          rw [f416 _ (by omega), n414 _ (by omega), hfu _ (by omega) (by omega) (by omega), hq0]
                          refine j_icmp_eq (tgt := 427) X dL_law_422 (by omega) (by decide) (fun c422 => ?_) (fun c422 => ?_)
                          · refine j_iconst X dL_law_427 ?_
                            refine j_istore X dL_law_428 rfl (Nat.le_of_ble_eq_true rfl) ?_
                            refine j_cut 18 (j_loop (σ := Nat × Mem) (fun (y_ : Nat × Mem) => match y_ with | (i, u2) => i ≤ no G.1 ∧ (∀ j, j < i → u2 (s.heap.size + 232) (2 + j) = ((wtL G.1 j ||| 2 ^ np G.1 : Nat) : Int)) ∧ (∀ j, j < 2 ∨ 2 + i ≤ j → u2 (s.heap.size + 232) j = v (s.heap.size + 232) j) ∧ ∀ a, a ≠ s.heap.size + 232 → u2 a = v416 a) (fun (y_ : Nat × Mem) => match y_ with | (i, u2) => no G.1 - i) (fun (y_ : Nat × Mem) => match y_ with | (i, u2) => (u2, [some (.ref b), some (.ref s.heap.size), some (.ref (s.heap.size + 232)), some (.ref (s.heap.size + 233)), some (.ref (s.heap.size + 234)), some (.ref (s.heap.size + 235)), some (.ref (s.heap.size + 236)), some (.ref (s.heap.size + 237)), some (.int (I (turn : Int))), some (.int (I z77)), some (.int (I kd)), some (.int (I (h : Int))), some (.ref (s.heap.size + 235 + h)), some (.int (I (p : Int))), some (.int (I wz)), some (.int (I ((n0 + 1 : Nat) : Int))), some (.int (I (f0 : Int))), some (.int (I (i : Int))), none, none])) ?_ (0, v416) ⟨by omega, fun j hj => absurd hj (Nat.not_lt_zero _), fun j _ => by rw [f416 _ (by omega), n414 _ (by omega), hfu _ (by omega) (by omega) (by omega)], fun _ _ => rfl⟩)
                            intro y_ hx_ ih430
                            obtain ⟨i, u2⟩ := y_
                            dsimp only at hx_ ih430 ⊢
                            obtain ⟨hi, hv1, hv2, hv3⟩ := hx_
                            refine j_iload X dL_law_430 rfl ?_
                            refine j_aload_n X dL_law_432 rfl ?_
                            refine j_iconst X dL_law_433 ?_
                            refine j_ialN X dL_law_434 (by assumption) (1) rfl (by omega) (by decide) ?_
                            rw [hv2 1 (by omega), hq1]
                            refine j_icmp_ge (tgt := 458) X dL_law_435 (by omega) (by decide) (fun c435 => ?_) (fun c435 => ?_)
                            · refine j_aload_n X dL_law_458 rfl ?_
                              refine j_iconst X dL_law_459 ?_
                              refine j_dup2 X dL_law_460 rfl rfl ?_
                              refine j_ialN X dL_law_461 (by assumption) (0) rfl (by omega) (by decide) ?_
                              rw [hv2 0 (by omega), hq0]
                              refine j_iconst X dL_law_462 ?_
                              refine j_iadd X dL_law_463 ?_
                              refine j_iasN X dL_law_464 (by assumption) (0) rfl (by omega) (by decide) (fun u464 f464 g464 n464 => ?_)
                              refine j_goto (tgt := 1051) X dL_law_465 (by decide) ?_
                              refine j_cut 10 (K1051 ((issA G.1 P, recH G.2.1 G.1, G.2.2.1, []), u464) ?_)
                              (try dsimp only)
                              exact (LI_issue hI hnp hPT hoP rfl (hX416.kept (fun a h1 h2 => by rw [n464 a (by omega), hv3 a (by omega)])) f464 (by rw [g464 1 (by omega), hv2 1 (by omega)]) (fun j hj => by rw [g464 _ (by omega)]; exact hv1 j (by omega)) (fun j hj => by rw [g464 j (by omega)]; exact hv2 j (by omega)) (by rw [n464 _ (by omega), hv3 _ (by omega), f416 _ (by omega), f414]; omega) (fun j hj => by rw [n464 _ (by omega), hv3 _ (by omega), f416 _ (by omega), g414 _ (by omega)]; exact (hfo j hj).1) (fun j hj => by rw [n464 _ (by omega), hv3 _ (by omega), f416 _ (by omega), g414 _ (by omega)]; exact hfp j hj) (hfT.kept (by rw [n464 _ (by omega), hv3 _ (by omega), f416 _ (by omega), n414 _ (by omega)])) (fun a h1 h2 => by rw [n464 a (by omega), hv3 a (by omega), f416 a (by omega), n414 a (by omega), hfu a (by omega) (by omega) (by omega)]))
                            · have hwi := (hqw i (by omega)).1
                              have hli := (hlt i (by omega)).1
                              refine j_aload_n X dL_law_438 rfl ?_
                              refine j_iconst X dL_law_439 ?_
                              refine j_iload X dL_law_440 rfl ?_
                              refine j_iadd X dL_law_442 ?_
                              refine j_dup2 X dL_law_443 rfl rfl ?_
                              refine j_ialN X dL_law_444 (by assumption) (2 + i) (by omega) (by omega) (by decide) ?_
                              rw [hv2 (2 + i) (by omega), hwi]
                              refine j_iconst X dL_law_445 ?_
                              refine j_aload_n X dL_law_446 rfl ?_
                              refine j_iconst X dL_law_447 ?_
                              refine j_ialN X dL_law_448 (by assumption) (0) rfl (by omega) (by decide) ?_
                              rw [hv2 0 (by omega), hq0]
                              refine j_ishl X dL_law_449 (b_shl (by omega)) ?_
                              refine j_ior X dL_law_450 (b_or _ _) ?_
                              refine j_iasN X dL_law_451 (by assumption) (2 + i) (by omega) (by omega) (by decide) (fun u451 f451 g451 n451 => ?_)
                              refine j_iinc X dL_law_452 rfl rfl (Nat.le_of_ble_eq_true rfl) ?_
                              refine j_goto (tgt := 430) X dL_law_455 (by decide) ?_
                              refine j_cut 18 (ih430 (i + 1, u451) ?_ (by (try dsimp only); omega))
                              (try dsimp only)
                              exact ⟨by omega, fun j hj => by
    by_cases hj2 : j = i
    · subst hj2; exact f451
    · rw [g451 _ (by omega)]; exact hv1 j (by omega), fun j hj => by rw [g451 j (by omega)]; exact hv2 j (by omega), fun a h1 => (n451 a h1).trans (hv3 a h1)⟩
                          · exact absurd rfl c422
                        · refine j_iload X dL_law_245 rfl ?_
                          refine j_iconst X dL_law_247 ?_
                          refine j_iload X dL_law_248 rfl ?_
                          refine j_imul X dL_law_250 ?_
                          refine j_iadd X dL_law_251 ?_
                          refine j_bipush X dL_law_252 (by decide) ?_
                          refine j_irem X dL_law_254 (by omega) (by omega) ?_
                          obtain ⟨dd, hdd⟩ : ∃ dd : Nat, dd = (f0 + 3 * k) % 10 := ⟨_, rfl⟩
                          refine j_topi (y := (dd : Int)) (by omega) ?_
                          refine j_istore X dL_law_255 rfl (Nat.le_of_ble_eq_true rfl) ?_
                          refine j_join (σ := Nat) (fun (b0 : Nat) => b0 ≤ 1) (fun (b0 : Nat) => (u, [some (.ref b), some (.ref s.heap.size), some (.ref (s.heap.size + 232)), some (.ref (s.heap.size + 233)), some (.ref (s.heap.size + 234)), some (.ref (s.heap.size + 235)), some (.ref (s.heap.size + 236)), some (.ref (s.heap.size + 237)), some (.int (I (turn : Int))), some (.int (I z77)), some (.int (I kd)), some (.int (I (h : Int))), some (.ref (s.heap.size + 235 + h)), some (.int (I (p : Int))), some (.int (I wz)), some (.int (I ((n0 + 1 : Nat) : Int))), some (.int (I (f0 : Int))), some (.int (I (k : Int))), some (.int (I (dd : Int))), none], [.int (I (b0 : Int))])) 277 ?_ (fun K277 => ?_)
                          · intro b0 hx_
                            dsimp only at hx_ ⊢
                            have hb0 := hx_
                            refine j_istore X dL_law_277 rfl (Nat.le_of_ble_eq_true rfl) ?_
                            refine j_join (σ := List Nat × Mem) (fun (y_ : List Nat × Mem) => match y_ with | (P1, u1) => P1 = (if k = 0 then P else P ++ [44]) ∧ XR u1 s.heap.size (G.1, G.2.1, G.2.2.1, P1) ∧ frX u u1 s.heap.size) (fun (y_ : List Nat × Mem) => match y_ with | (P1, u1) => (u1, [some (.ref b), some (.ref s.heap.size), some (.ref (s.heap.size + 232)), some (.ref (s.heap.size + 233)), some (.ref (s.heap.size + 234)), some (.ref (s.heap.size + 235)), some (.ref (s.heap.size + 236)), some (.ref (s.heap.size + 237)), some (.int (I (turn : Int))), some (.int (I z77)), some (.int (I kd)), some (.int (I (h : Int))), some (.ref (s.heap.size + 235 + h)), some (.int (I (p : Int))), some (.int (I wz)), some (.int (I ((n0 + 1 : Nat) : Int))), some (.int (I (f0 : Int))), some (.int (I (k : Int))), some (.int (I (dd : Int))), some (.int (I (b0 : Int)))], [])) 295 ?_ (fun K295 => ?_)
                            · intro y_ hx_
                              obtain ⟨P1, u1⟩ := y_
                              dsimp only at hx_ ⊢
                              obtain ⟨hP1, hX1, fu1⟩ := hx_
                              have hP1l : P1.length ≤ 40 := by
                                rw [hP1]
                                split
                                · omega
                                · rw [List.length_append]
                                  show P.length + 1 ≤ 40
                                  omega
                              refine j_join (σ := Nat) (fun (w : Nat) => (w = 43 ∧ b0 = 1) ∨ (w = 45 ∧ b0 = 0)) (fun (w : Nat) => (u1, [some (.ref b), some (.ref s.heap.size), some (.ref (s.heap.size + 232)), some (.ref (s.heap.size + 233)), some (.ref (s.heap.size + 234)), some (.ref (s.heap.size + 235)), some (.ref (s.heap.size + 236)), some (.ref (s.heap.size + 237)), some (.int (I (turn : Int))), some (.int (I z77)), some (.int (I kd)), some (.int (I (h : Int))), some (.ref (s.heap.size + 235 + h)), some (.int (I (p : Int))), some (.int (I wz)), some (.int (I ((n0 + 1 : Nat) : Int))), some (.int (I (f0 : Int))), some (.int (I (k : Int))), some (.int (I (dd : Int))), some (.int (I (b0 : Int)))], [.long (lN w), .ref s.heap.size])) 310 ?_ (fun K310 => ?_)
                              · intro w hx_
                                dsimp only at hx_ ⊢
                                have hw := hx_
                                have hl1 : (P1 ++ [w]).length ≤ 41 := by simp only [List.length_append, List.length_cons, List.length_nil]; omega
                                have hl2 : (P1 ++ [w] ++ [49]).length ≤ 42 := by simp only [List.length_append, List.length_cons, List.length_nil]; omega
                                have hl3 : (P1 ++ [w] ++ [49] ++ [46]).length ≤ 43 := by simp only [List.length_append, List.length_cons, List.length_nil]; omega
                                refine j_callV (nn := 1) X dL_law_310 (c_X4_put l D _ _ u1 s.heap.size (w) (G.1, G.2.1, G.2.2.1, P1) hX hX1 (by omega)) gL_law_X4_put rfl ⟨rfl, rfl⟩ (by decide +kernel) ⟨Nat.le_of_ble_eq_true rfl, Nat.le_of_ble_eq_true rfl⟩ hX.1 ⟨rfl, rfl⟩ rfl rfl (Nat.le_of_ble_eq_true rfl) ⟨by show _ ≤ 600000; omega, by show _ ≤ 7302250; omega⟩ (kI (fun z310 v310 h310 => ?_))
                                rw [put1 (w := w) (by omega) (by show P1.length < 48; omega)] at h310
                                dsimp only at h310
                                obtain ⟨rfl, hX310, f310⟩ := h310
                                refine j_iconst X dL_law_313 ?_
                                refine j_icmp_lt (tgt := 353) X dL_law_314 (by omega) (by decide) (fun c314 => ?_) (fun c314 => ?_)
                                · exfalso; omega
                                · refine j_aload_n X dL_law_317 rfl ?_
                                  refine j_ldc2 X (w := 49) dL_law_318 (by decide +kernel) ?_
                                  refine j_callV (nn := 1) X dL_law_321 (c_X4_put l D _ _ v310 s.heap.size (49) (G.1, G.2.1, G.2.2.1, P1 ++ [w]) hX hX310 (by omega)) gL_law_X4_put rfl ⟨rfl, rfl⟩ (by decide +kernel) ⟨Nat.le_of_ble_eq_true rfl, Nat.le_of_ble_eq_true rfl⟩ hX.1 ⟨rfl, rfl⟩ rfl rfl (Nat.le_of_ble_eq_true rfl) ⟨by show _ ≤ 600000; omega, by show _ ≤ 7302250; omega⟩ (kI (fun z321 v321 h321 => ?_))
                                  rw [put1 (w := 49) (by omega) (by show (P1 ++ [w]).length < 48; simp only [List.length_append, List.length_cons, List.length_nil]; omega)] at h321
                                  dsimp only at h321
                                  obtain ⟨rfl, hX321, f321⟩ := h321
                                  refine j_iconst X dL_law_324 ?_
                                  refine j_icmp_lt (tgt := 353) X dL_law_325 (by omega) (by decide) (fun c325 => ?_) (fun c325 => ?_)
                                  · exfalso; omega
                                  · refine j_aload_n X dL_law_328 rfl ?_
                                    refine j_ldc2 X (w := 46) dL_law_329 (by decide +kernel) ?_
                                    refine j_callV (nn := 1) X dL_law_332 (c_X4_put l D _ _ v321 s.heap.size (46) (G.1, G.2.1, G.2.2.1, P1 ++ [w] ++ [49]) hX hX321 (by omega)) gL_law_X4_put rfl ⟨rfl, rfl⟩ (by decide +kernel) ⟨Nat.le_of_ble_eq_true rfl, Nat.le_of_ble_eq_true rfl⟩ hX.1 ⟨rfl, rfl⟩ rfl rfl (Nat.le_of_ble_eq_true rfl) ⟨by show _ ≤ 600000; omega, by show _ ≤ 7302250; omega⟩ (kI (fun z332 v332 h332 => ?_))
                                    rw [put1 (w := 46) (by omega) (by show (P1 ++ [w] ++ [49]).length < 48; simp only [List.length_append, List.length_cons, List.length_nil]; omega)] at h332
                                    dsimp only at h332
                                    obtain ⟨rfl, hX332, f332⟩ := h332
                                    refine j_iconst X dL_law_335 ?_
                                    refine j_icmp_lt (tgt := 353) X dL_law_336 (by omega) (by decide) (fun c336 => ?_) (fun c336 => ?_)
                                    · exfalso; omega
                                    · refine j_aload_n X dL_law_339 rfl ?_
                                      refine j_bipush X dL_law_340 (by decide) ?_
                                      refine j_iload X dL_law_342 rfl ?_
                                      refine j_iadd X dL_law_344 ?_
                                      refine j_topi (y := ((48 + dd : Nat) : Int)) (by omega) ?_
                                      refine j_i2l X dL_law_345 (i2l_48 (by omega)) ?_
                                      refine j_callV (nn := 1) X dL_law_346 (c_X4_put l D _ _ v332 s.heap.size (48 + dd) (G.1, G.2.1, G.2.2.1, P1 ++ [w] ++ [49] ++ [46]) hX hX332 (by omega)) gL_law_X4_put rfl ⟨rfl, rfl⟩ (by decide +kernel) ⟨Nat.le_of_ble_eq_true rfl, Nat.le_of_ble_eq_true rfl⟩ hX.1 ⟨rfl, rfl⟩ rfl rfl (Nat.le_of_ble_eq_true rfl) ⟨by show _ ≤ 600000; omega, by show _ ≤ 7302250; omega⟩ (kI (fun z346 v346 h346 => ?_))
                                      rw [put1 (w := 48 + dd) (by omega) (by show (P1 ++ [w] ++ [49] ++ [46]).length < 48; simp only [List.length_append, List.length_cons, List.length_nil]; omega)] at h346
                                      dsimp only at h346
                                      obtain ⟨rfl, hX346, f346⟩ := h346
                                      refine j_iconst X dL_law_349 ?_
                                      refine j_icmp_ge (tgt := 355) X dL_law_350 (by omega) (by decide) (fun c350 => ?_) (fun c350 => ?_)
                                      · have e346 : ∀ a, (a < s.heap.size ∨ s.heap.size + 232 ≤ a) → v346 a = u a := fun a h1 => by rw [f346 a h1, f332 a h1, f321 a h1, f310 a h1, fu1 a h1]
                                        have hq346 : v346 (s.heap.size + 232) 0 = (np G.1 : Int) := by rw [e346 _ (by omega), hfu _ (by omega) (by omega) (by omega)]; exact hq0
                                        refine j_aload_n X dL_law_355 rfl ?_
                                        refine j_bipush X dL_law_356 (by decide) ?_
                                        refine j_aload_n X dL_law_358 rfl ?_
                                        refine j_iconst X dL_law_359 ?_
                                        refine j_ialN X dL_law_360 (by assumption) (0) rfl (by omega) (by decide) ?_
                                        rw [hq346]
                                        refine j_imul X dL_law_361 ?_
                                        refine j_iconst X dL_law_362 ?_
                                        refine j_iadd X dL_law_363 ?_
                                        refine j_iload X dL_law_364 rfl ?_
                                        refine j_iadd X dL_law_366 ?_
                                        refine j_iload X dL_law_367 rfl ?_
                                        refine j_join (σ := Int) (fun (zi : Int) => (dd : Int) + zi = (dd : Int) + 10 * (b0 : Int)) (fun (zi : Int) => (v346, [some (.ref b), some (.ref s.heap.size), some (.ref (s.heap.size + 232)), some (.ref (s.heap.size + 233)), some (.ref (s.heap.size + 234)), some (.ref (s.heap.size + 235)), some (.ref (s.heap.size + 236)), some (.ref (s.heap.size + 237)), some (.int (I (turn : Int))), some (.int (I z77)), some (.int (I kd)), some (.int (I (h : Int))), some (.ref (s.heap.size + 235 + h)), some (.int (I (p : Int))), some (.int (I wz)), some (.int (I ((n0 + 1 : Nat) : Int))), some (.int (I (f0 : Int))), some (.int (I (k : Int))), some (.int (I (dd : Int))), some (.int (I (b0 : Int)))], [.int (I zi), .int (I (dd : Int)), .int (I (9 * (np G.1 : Int) + 1 + (k : Int))), .ref (s.heap.size + 233)])) 380 ?_ (fun K380 => ?_)
                                        · intro zi hx_
                                          dsimp only at hx_ ⊢
                                          have hzi := hx_
                                          refine j_iadd X dL_law_380 ?_
                                          refine j_iasN X dL_law_381 (by assumption) (9 * np G.1 + 1 + k) (by omega) (by omega) (by decide) (fun u381 f381 g381 n381 => ?_)
                                          refine j_aload X dL_law_382 rfl ?_
                                          refine j_iload X dL_law_384 rfl ?_
                                          refine j_join (σ := Int) (fun (zt : Int) => zt = if b0 = 1 then (np G.1 : Int) else -1) (fun (zt : Int) => (u381, [some (.ref b), some (.ref s.heap.size), some (.ref (s.heap.size + 232)), some (.ref (s.heap.size + 233)), some (.ref (s.heap.size + 234)), some (.ref (s.heap.size + 235)), some (.ref (s.heap.size + 236)), some (.ref (s.heap.size + 237)), some (.int (I (turn : Int))), some (.int (I z77)), some (.int (I kd)), some (.int (I (h : Int))), some (.ref (s.heap.size + 235 + h)), some (.int (I (p : Int))), some (.int (I wz)), some (.int (I ((n0 + 1 : Nat) : Int))), some (.int (I (f0 : Int))), some (.int (I (k : Int))), some (.int (I (dd : Int))), some (.int (I (b0 : Int)))], [.int (I zt), .int (I (dd : Int)), .ref (s.heap.size + 234)])) 398 ?_ (fun K398 => ?_)
                                          · intro zt hx_
                                            dsimp only at hx_ ⊢
                                            have hzt := hx_
                                            refine j_iasN X dL_law_398 (by assumption) (dd) (by omega) (by omega) (by decide) (fun u398 f398 g398 n398 => ?_)
                                            refine j_iinc X dL_law_399 rfl rfl (Nat.le_of_ble_eq_true rfl) ?_
                                            refine j_goto (tgt := 238) X dL_law_402 (by decide) ?_
                                            have hPT5 := PTX_next (dd := dd) hPT qk hP1 hw (by omega)
                                            have hXf : XR u398 s.heap.size (G.1, G.2.1, G.2.2.1, P1 ++ [w] ++ [49] ++ [46] ++ [48 + dd]) := hX346.kept (fun a h1 h2 => by rw [n398 a (by omega), n381 a (by omega)])
                                            refine j_cut 18 (ih238 (k + 1, O ++ [10 + dd + 100 * b0], P1 ++ [w] ++ [49] ++ [46] ++ [48 + dd], u398) ?_ (by (try dsimp only); omega))
                                            (try dsimp only)
                                            exact ⟨by omega, hQ.step hI hnp (by omega) hdd hb0 hPT5 hXf (fun a h1 h2 h3 => by rw [n398 a h3, n381 a h2, e346 a h1]) (by rw [n398 _ (by omega), f381, hzi]) (fun j hj => by rw [n398 _ (by omega), g381 j hj, e346 _ (by omega)]) (by rw [f398]; exact hzt) (fun j hj => by rw [g398 j hj, n381 _ (by omega), e346 _ (by omega)])⟩
                                          · refine j_iload X dL_law_386 rfl ?_
                                            refine j_if_eq (tgt := 397) X dL_law_388 (by omega) (by decide) (fun c388 => ?_) (fun c388 => ?_)
                                            · refine j_iconst X dL_law_397 ?_
                                              refine j_cut 20 (K398 (-1) ?_)
                                              (try dsimp only)
                                              exact (by rw [if_neg (by omega)])
                                            · refine j_aload_n X dL_law_391 rfl ?_
                                              refine j_iconst X dL_law_392 ?_
                                              refine j_ialN X dL_law_393 (by assumption) (0) rfl (by omega) (by decide) ?_
                                              rw [n381 _ (by omega), hq346]
                                              refine j_goto (tgt := 398) X dL_law_394 (by decide) ?_
                                              refine j_cut 20 (K398 (np G.1 : Int) ?_)
                                              (try dsimp only)
                                              exact (by rw [if_pos (by omega)])
                                        · refine j_iload X dL_law_369 rfl ?_
                                          refine j_if_eq (tgt := 379) X dL_law_371 (by omega) (by decide) (fun c371 => ?_) (fun c371 => ?_)
                                          · refine j_iconst X dL_law_379 ?_
                                            refine j_cut 20 (K380 0 ?_)
                                            (try dsimp only)
                                            exact (by omega)
                                          · refine j_bipush X dL_law_374 (by decide) ?_
                                            refine j_goto (tgt := 380) X dL_law_376 (by decide) ?_
                                            refine j_cut 20 (K380 10 ?_)
                                            (try dsimp only)
                                            exact (by omega)
                                      · exfalso; omega
                              · refine j_aload_n X dL_law_295 rfl ?_
                                refine j_iload X dL_law_296 rfl ?_
                                refine j_if_eq (tgt := 307) X dL_law_298 (by omega) (by decide) (fun c298 => ?_) (fun c298 => ?_)
                                · refine j_ldc2 X (w := 45) dL_law_307 (by decide +kernel) ?_
                                  refine j_cut 20 (K310 45 ?_)
                                  (try dsimp only)
                                  exact (by omega)
                                · refine j_ldc2 X (w := 43) dL_law_301 (by decide +kernel) ?_
                                  refine j_goto (tgt := 310) X dL_law_304 (by decide) ?_
                                  refine j_cut 20 (K310 43 ?_)
                                  (try dsimp only)
                                  exact (by omega)
                            · refine j_iload X dL_law_279 rfl ?_
                              refine j_if_le (tgt := 295) X dL_law_281 (by omega) (by decide) (fun c281 => ?_) (fun c281 => ?_)
                              · refine j_cut 20 (K295 (P, u) ?_)
                                (try dsimp only)
                                exact ⟨by rw [if_pos (by omega)], hXu, frX.refl _ _⟩
                              · refine j_aload_n X dL_law_284 rfl ?_
                                refine j_ldc2 X (w := 44) dL_law_285 (by decide +kernel) ?_
                                refine j_callV (nn := 1) X dL_law_288 (c_X4_put l D _ _ u s.heap.size (44) (G.1, G.2.1, G.2.2.1, P) hX hXu (by omega)) gL_law_X4_put rfl ⟨rfl, rfl⟩ (by decide +kernel) ⟨Nat.le_of_ble_eq_true rfl, Nat.le_of_ble_eq_true rfl⟩ hX.1 ⟨rfl, rfl⟩ rfl rfl (Nat.le_of_ble_eq_true rfl) ⟨by show _ ≤ 600000; omega, by show _ ≤ 7302250; omega⟩ (kI (fun z288 v288 h288 => ?_))
                                rw [put1 (w := 44) (by omega) (by show P.length < 48; omega)] at h288
                                dsimp only at h288
                                obtain ⟨rfl, hX288, f288⟩ := h288
                                refine j_iconst X dL_law_291 ?_
                                refine j_icmp_lt (tgt := 353) X dL_law_292 (by omega) (by decide) (fun c292 => ?_) (fun c292 => ?_)
                                · exfalso; omega
                                · refine j_cut 20 (K295 (P ++ [44], v288) ?_)
                                  (try dsimp only)
                                  exact ⟨by rw [if_neg (by omega)], hX288, f288⟩
                          · refine j_iload X dL_law_257 rfl ?_
                            refine j_bipush X dL_law_259 (by decide) ?_
                            refine j_iload X dL_law_261 rfl ?_
                            refine j_iadd X dL_law_263 ?_
                            refine jr_ishr X dL_law_264 ?_
                            refine j_iconst X dL_law_265 ?_
                            refine j_callS (nn := 2) X dL_law_266 (c_L_low l D _ _ u _ 3 (by omega)) gL_law_L_low rfl ⟨rfl, rfl⟩ (by decide +kernel) ⟨Nat.le_of_ble_eq_true rfl, Nat.le_of_ble_eq_true rfl⟩ rfl rfl (Nat.le_of_ble_eq_true rfl) ⟨by show _ ≤ 600000; omega, by show _ ≤ 7302250; omega⟩ (kI (fun z266 v266 h266 => ?_))
                            obtain ⟨hz266, rfl⟩ := h266
                            refine j_if_le (tgt := 276) X dL_law_269 (by omega) (by decide) (fun c269 => ?_) (fun c269 => ?_)
                            · refine j_iconst X dL_law_276 ?_
                              refine j_cut 19 (K277 0 ?_)
                              (try dsimp only)
                              exact (by omega)
                            · refine j_iconst X dL_law_272 ?_
                              refine j_goto (tgt := 277) X dL_law_273 (by decide) ?_
                              refine j_cut 19 (K277 1 ?_)
                              (try dsimp only)
                              exact (by omega)
              · refine j_aload_n X dL_law_168 rfl ?_
                refine j_iconst X dL_law_169 ?_
                refine j_iload X dL_law_170 rfl ?_
                refine j_iadd X dL_law_172 ?_
                refine j_ialN X dL_law_173 (by assumption) (2 + h) (by omega) (by omega) (by decide) ?_
                rw [(hqw h (by omega)).1]
                have hwl := (hlt h (by omega)).1
                refine j_iload X dL_law_174 rfl ?_
                refine j_ishr X dL_law_176 (b_shr (by omega) (by omega)) ?_
                refine j_iconst X dL_law_177 ?_
                refine j_iand X dL_law_178 b_bit1 ?_
                have hb2 : wtL G.1 h / 2 ^ p % 2 < 2 := Nat.mod_lt _ (by decide)
                have htb := tb_div (wtL G.1 h) p
                generalize wtL G.1 h / 2 ^ p % 2 = bit at hb2 htb ⊢
                refine j_iconst X dL_law_179 ?_
                refine j_icmp_ne (tgt := 187) X dL_law_180 (by omega) (by decide) (fun c180 => ?_) (fun c180 => ?_)
                · refine j_iconst X dL_law_187 ?_
                  refine j_cut 14 (K188 0 ?_)
                  (try dsimp only)
                  exact (Or.inr ⟨rfl, fun hb => by rw [hb] at htb; have := of_decide_eq_true htb.symm; omega⟩)
                · refine j_iconst X dL_law_183 ?_
                  refine j_goto (tgt := 188) X dL_law_184 (by decide) ?_
                  refine j_cut 14 (K188 1 ?_)
                  (try dsimp only)
                  exact (Or.inl ⟨rfl, by rw [htb]; exact decide_eq_true (by omega)⟩)
            · refine j_aload_n X dL_law_146 rfl ?_
              refine j_iconst X dL_law_147 ?_
              refine j_ialN X dL_law_148 (by assumption) (0) rfl (by omega) (by decide) ?_
              rw [hq0]
              refine j_if_ne (tgt := 156) X dL_law_149 (by omega) (by decide) (fun c149 => ?_) (fun c149 => ?_)
              · refine j_iload X dL_law_156 rfl ?_
                refine j_iconst X dL_law_158 ?_
                refine jr_ishr X dL_law_159 ?_
                refine j_aload_n X dL_law_160 rfl ?_
                refine j_iconst X dL_law_161 ?_
                refine j_ialN X dL_law_162 (by assumption) (0) rfl (by omega) (by decide) ?_
                rw [hq0]
                refine j_callS (nn := 2) X dL_law_163 (c_L_low l D _ _ v _ (np G.1) (by omega)) gL_law_L_low rfl ⟨rfl, rfl⟩ (by decide +kernel) ⟨Nat.le_of_ble_eq_true rfl, Nat.le_of_ble_eq_true rfl⟩ rfl rfl (Nat.le_of_ble_eq_true rfl) ⟨by show _ ≤ 600000; omega, by show _ ≤ 7302250; omega⟩ (kI (fun z163 v163 h163 => ?_))
                obtain ⟨hz163, rfl⟩ := h163
                obtain ⟨p0, rfl⟩ : ∃ p0 : Nat, z163 = (p0 : Int) := ⟨z163.toNat, by omega⟩
                refine j_cut 13 (K166 p0 ?_)
                (try dsimp only)
                exact (by omega)
              · refine j_iconst X dL_law_152 ?_
                refine j_goto (tgt := 166) X dL_law_153 (by decide) ?_
                refine j_cut 13 (K166 0 ?_)
                (try dsimp only)
                exact (by omega)
          · refine j_iload X dL_law_132 rfl ?_
            refine j_if_ne (tgt := 142) X dL_law_134 (by omega) (by decide) (fun c134 => ?_) (fun c134 => ?_)
            · refine j_aload X dL_law_142 rfl ?_
              refine j_cut 12 (K144 (s.heap.size + 236) ?_)
              (try dsimp only)
              exact (by omega)
            · refine j_aload X dL_law_137 rfl ?_
              refine j_goto (tgt := 144) X dL_law_139 (by decide) ?_
              refine j_cut 12 (K144 (s.heap.size + 235) ?_)
              (try dsimp only)
              exact (by omega)
        · refine j_aload_n X dL_law_110 rfl ?_
          refine j_iconst X dL_law_111 ?_
          refine j_ialN X dL_law_112 (by assumption) (1) rfl (by omega) (by decide) ?_
          rw [hq1]
          refine j_if_ne (tgt := 120) X dL_law_113 (by omega) (by decide) (fun c113 => ?_) (fun c113 => ?_)
          · refine j_iload X dL_law_120 rfl ?_
            refine j_iconst X dL_law_122 ?_
            refine jr_ishr X dL_law_123 ?_
            refine j_aload_n X dL_law_124 rfl ?_
            refine j_iconst X dL_law_125 ?_
            refine j_ialN X dL_law_126 (by assumption) (1) rfl (by omega) (by decide) ?_
            rw [hq1]
            refine j_callS (nn := 2) X dL_law_127 (c_L_low l D _ _ v _ (no G.1) (by omega)) gL_law_L_low rfl ⟨rfl, rfl⟩ (by decide +kernel) ⟨Nat.le_of_ble_eq_true rfl, Nat.le_of_ble_eq_true rfl⟩ rfl rfl (Nat.le_of_ble_eq_true rfl) ⟨by show _ ≤ 600000; omega, by show _ ≤ 7302250; omega⟩ (kI (fun z127 v127 h127 => ?_))
            obtain ⟨hz127, rfl⟩ := h127
            obtain ⟨h0, rfl⟩ : ∃ h0 : Nat, z127 = (h0 : Int) := ⟨z127.toNat, by omega⟩
            refine j_cut 11 (K130 h0 ?_)
            (try dsimp only)
            exact (by omega)
          · refine j_iconst X dL_law_116 ?_
            refine j_goto (tgt := 130) X dL_law_117 (by decide) ?_
            refine j_cut 11 (K130 0 ?_)
            (try dsimp only)
            exact (by omega)
      · refine j_iload X dL_law_82 rfl ?_
        refine j_if_ne (tgt := 91) X dL_law_84 (by omega) (by decide) (fun c84 => ?_) (fun c84 => ?_)
        · refine j_iload X dL_law_91 rfl ?_
          refine j_iconst X dL_law_93 ?_
          refine j_icmp_ne (tgt := 101) X dL_law_94 (by omega) (by decide) (fun c94 => ?_) (fun c94 => ?_)
          · refine j_iload X dL_law_101 rfl ?_
            refine j_bipush X dL_law_103 (by decide) ?_
            refine j_callS (nn := 2) X dL_law_105 (c_L_low l D _ _ v _ 10 (by omega)) gL_law_L_low rfl ⟨rfl, rfl⟩ (by decide +kernel) ⟨Nat.le_of_ble_eq_true rfl, Nat.le_of_ble_eq_true rfl⟩ rfl rfl (Nat.le_of_ble_eq_true rfl) ⟨by show _ ≤ 600000; omega, by show _ ≤ 7302250; omega⟩ (kI (fun z105 v105 h105 => ?_))
            obtain ⟨hz105, rfl⟩ := h105
            refine j_cut 10 (K108 z105 ?_)
            (try dsimp only)
            exact (by omega)
          · refine j_iconst X dL_law_97 ?_
            refine j_goto (tgt := 108) X dL_law_98 (by decide) ?_
            refine j_cut 10 (K108 2 ?_)
            (try dsimp only)
            exact (by omega)
        · refine j_iconst X dL_law_87 ?_
          refine j_goto (tgt := 108) X dL_law_88 (by decide) ?_
          refine j_cut 10 (K108 0 ?_)
          (try dsimp only)
          exact (by omega)
  · refine j_aload X dL_law_52 rfl ?_
    refine j_iload X dL_law_54 rfl ?_
    refine j_iconst X dL_law_56 ?_
    refine j_iasN X dL_law_57 (by assumption) (d) (by omega) (by omega) (by decide) (fun u57 f57 g57 n57 => ?_)
    refine j_iinc X dL_law_58 rfl rfl (Nat.le_of_ble_eq_true rfl) ?_
    refine j_goto (tgt := 45) X dL_law_61 (by decide) ?_
    refine j_cut 9 (ih45 (d + 1, u57) ?_ (by (try dsimp only); omega))
    (try dsimp only)
    exact ⟨by omega, fun j hj => by
    by_cases hj2 : j = d
    · subst hj2; exact f57
    · rw [g57 j hj2]; exact hd1 j (by omega), fun a h1 => (n57 a h1).trans (hfu a h1)⟩
