/-! ===== the model: where it lies, rows of a moment ===== -/
section JM
variable {p : Program} {l : Launch} {e : Env} {R : Room} {s : State} {m : MethodId} {args : Array Value} {below : List Frame} {meth : Method} {c : Code} {D : va_G} {A : Nat → Prop} {nL cells slots n pc : Nat} {Q : State → Prop} {sk : Sk} {v : Mem} {L : List (Option Value)} {st : List Value} {cc : ByteArray} {own : String} {Ts : List Cond} {ret : Option FieldType}
theorem j_ialN (X : Cx p s m args meth c D cc nL own Ts ret) {a nn : Nat} {i : Int} (d : decode cc pc = .ok (.iaload, 1)) (hs : sk a = some (eA D 10 nn)) (k : Nat) (hk : i = (k : Int)) (hi : k < nn) (hnn : nn ≤ 2147483647)
    (K : J p l e R s m args below meth c D A nL cells slots Q n sk v (pc + 1) L (.int (I (v a k)) :: st)) : J p l e R s m args below meth c D A nL cells slots Q n sk v pc L (.int (I i) :: .ref a :: st) := by
  subst hk
  refine j_iald X d hs (by omega) hnn ?_
  rw [Int.toNat_natCast]
  exact K
theorem j_iasN (X : Cx p s m args meth c D cc nL own Ts ret) {a nn : Nat} {i z : Int} (d : decode cc pc = .ok (.iastore, 1)) (hs : sk a = some (eA D 10 nn)) (k : Nat) (hk : i = (k : Int)) (hi : k < nn) (hnn : nn ≤ 2147483647)
    (K : ∀ w : Mem, w a k = z → (∀ j, j ≠ k → w a j = v a j) → (∀ b, b ≠ a → w b = v b) → J p l e R s m args below meth c D A nL cells slots Q n sk w (pc + 1) L st) : J p l e R s m args below meth c D A nL cells slots Q n sk v pc L (.int (I z) :: .int (I i) :: .ref a :: st) := by
  subst hk
  refine j_iast X d hs (by omega) hnn ?_
  rw [Int.toNat_natCast]
  exact K _ (by rw [up2_s, upE_s]) (fun j hj => by rw [up2_s, upE_n _ _ hj]) (fun b hb => up2_n _ _ _ hb)
theorem j_putU (X : Cx p s m args meth c D cc nL own Ts ret) {C : String} {T : u_T} {N ci index a : Nat} {fs : List (Option Value)} {z : Int} (d : decode cc pc = .ok (.putfield index, 3)) (hin : ∀ w ∈ u_ws C T N, w ∈ Ts) (hc : vwCl[ci]? = some (C, T, N)) (hs : sk a = some (eO ci fs)) (k : Nat) (hk : k < N) (ty0 : Nat → FieldType) (hty : ∀ k, k < N → parseFieldDescriptor (T k).2.2.1 = some (ty0 k)) (hnm : ∀ a, a < N → ∀ b, b < N → a ≠ b → (T a).2.1 ≠ (T b).2.1) (hfin : (T k).2.2.2 = false) (hint : ty0 k = .int) (hf : fs[k]? = some none) (hlink : Cond.fieldLink own index (T k).1 (T k).2.1 (T k).2.2.1 ∈ Ts)
    (K : ∀ w : Mem, w a k = z → (∀ j, j ≠ k → w a j = v a j) → (∀ b, b ≠ a → w b = v b) → J p l e R s m args below meth c D A nL cells slots Q n sk w (pc + 3) L st) : J p l e R s m args below meth c D A nL cells slots Q n sk v pc L (.int (I z) :: .ref a :: st) :=
  j_put X d hin hc hs k hk ty0 hty hnm hfin hint hf hlink (K _ (by rw [up2_s, upE_s]) (fun j hj => by rw [up2_s, upE_n _ _ hj]) (fun b hb => up2_n _ _ _ hb))
end JM
def Md (D : va_G) (sk : Sk) (m : Nat) : Prop := sk m = some (eO 5 [some (.ref (m + 1)), some (.ref (m + 2)), some (.ref (m + 3)), none, some (.ref (m + 4)), some (.ref (m + 5)), some (.ref (m + 6)), none, some (.ref (m + 7)), none, some (.ref (m + 8)), some (.ref (m + 9)), some (.ref (m + 10))]) ∧ sk (m + 1) = some (eA D 10 713) ∧ sk (m + 2) = some (eA D 10 713) ∧ sk (m + 3) = some (eA D 10 4278) ∧ sk (m + 4) = some (eA D 10 1426) ∧ sk (m + 5) = some (eA D 10 2) ∧ sk (m + 6) = some (eA D 10 48) ∧ sk (m + 7) = some (eA D 10 8) ∧ sk (m + 8) = some (eA D 10 100) ∧ sk (m + 9) = some (eA D 10 100) ∧ sk (m + 10) = some (eA D 10 100)
/-- the row's b-th binder holds the leaves, in order -/
def LR (r : Nat → Int) (b : Nat) (L : List Nat) : Prop := r (146 + 63 * b) = (L.length : Int) ∧ L.length ≤ 60 ∧ (∀ (k : Nat) (h : k < L.length), r (149 + 63 * b + k) = ((L[k]'h : Nat) : Int)) ∧ ∀ x ∈ L, 160 ≤ x ∧ x < 1600
/-- only the b-th binder of the row changed -/
def frB (v v' : Mem) (m b : Nat) : Prop := (∀ a, a ≠ m + 1 → v' a = v a) ∧ ∀ j, j ≠ 146 + 63 * b → (j < 149 + 63 * b ∨ 209 + 63 * b ≤ j) → v' (m + 1) j = v (m + 1) j
theorem frB.refl (v : Mem) (m b : Nat) : frB v v m b := ⟨fun _ _ => rfl, fun _ _ _ => rfl⟩
theorem frB.trans {v w u : Mem} {m b : Nat} (h1 : frB v w m b) (h2 : frB w u m b) : frB v u m b := ⟨fun a ha => (h2.1 a ha).trans (h1.1 a ha), fun j h3 h4 => (h2.2 j h3 h4).trans (h1.2 j h3 h4)⟩
theorem LR.kept {r r' : Nat → Int} {b : Nat} {L : List Nat} (h : LR r b L) (hr : ∀ j, 146 + 63 * b ≤ j → j < 209 + 63 * b → r' j = r j) : LR r' b L := by
  obtain ⟨h1, h2, h3, h4⟩ := h
  exact ⟨by rw [hr _ (by omega) (by omega)]; exact h1, h2, fun k hk => by rw [hr _ (by omega) (by omega)]; exact h3 k hk, h4⟩
theorem LR.other {v w : Mem} {m b c : Nat} {L : List Nat} (h : LR (v (m + 1)) b L) (f : frB v w m c) (hbc : b ≠ c) : LR (w (m + 1)) b L := by
  refine h.kept (fun j h1 h2 => f.2 j ?_ ?_) <;> omega
theorem LR.lt {r : Nat → Int} {b : Nat} {L : List Nat} (h : LR r b L) {k : Nat} (hk : k < L.length) : 160 ≤ L[k] ∧ L[k] < 1600 := h.2.2.2 _ (List.getElem_mem hk)
def pcU (w : Nat) : Nat → Nat
  | 0 => 0
  | c + 1 => pcU w c + w / 2 ^ c % 2
theorem pcU_16 (w : Nat) : pcU w 16 = pop w := by simp only [pcU, pop, Nat.pow_zero, Nat.reducePow, Nat.div_one, Nat.zero_add]
theorem pcU_le (w : Nat) : ∀ c, pcU w c ≤ c
  | 0 => Nat.le_refl _
  | c + 1 => by
    have := pcU_le w c
    unfold pcU
    omega
theorem erase_len {L : List Nat} {i : Nat} (hi : i < L.length) : (L.eraseIdx i).length = L.length - 1 := by rw [List.length_eraseIdx, if_pos hi]
theorem erase_get {L : List Nat} {i k : Nat} (hi : i < L.length) (hk : k < (L.eraseIdx i).length) : ((k < i ∧ ∃ h : k < L.length, (L.eraseIdx i)[k] = L[k]) ∨ (i ≤ k ∧ ∃ h : k + 1 < L.length, (L.eraseIdx i)[k] = L[k + 1])) := by
  have hl := erase_len hi
  rw [List.getElem_eraseIdx]
  by_cases q : k < i
  · exact Or.inl ⟨q, by omega, by rw [dif_pos q]⟩
  · exact Or.inr ⟨by omega, by omega, by rw [dif_neg q]⟩
/-- the leaves on their way up, from i to j -/
def shf (L : List Nat) (i j k : Nat) : Nat := if i ≤ k ∧ k < j then L.getD (k + 1) 0 else L.getD k 0
theorem getD_at {L : List Nat} {k : Nat} (h : k < L.length) : L.getD k 0 = L[k] := by rw [List.getD_eq_getElem?_getD, List.getElem?_eq_getElem h]; rfl
theorem remA_snoc (L : List Nat) (x n : Nat) : remA (L ++ [x]) n = if x / 16 = n then remA L n else remA L n ++ [x] := by
  unfold remA
  rw [List.filter_append]
  by_cases h : x / 16 = n <;> simp [h]
theorem remA_cons (x n : Nat) (L : List Nat) : remA (x :: L) n = if x / 16 = n then remA L n else x :: remA L n := by
  unfold remA
  by_cases h : x / 16 = n <;> simp [h]
/-- the part from the front that still waits, and the part behind it that is left -/
def cutA (L : List Nat) (n i : Nat) : List Nat := L.take i ++ remA (L.drop i) n
theorem cutA_len {L : List Nat} {n i : Nat} : (cutA L n i).length ≤ L.length := by
  unfold cutA remA
  rw [List.length_append, List.length_take]
  have := List.length_filter_le (fun x => !(x / 16 == n)) (L.drop i)
  rw [List.length_drop] at this
  omega
theorem cutA_step {L : List Nat} {n i : Nat} (hi : i < L.length) : ∃ h : i < (cutA L n (i + 1)).length, (cutA L n (i + 1))[i] = L[i] ∧ cutA L n i = if L[i] / 16 = n then (cutA L n (i + 1)).eraseIdx i else cutA L n (i + 1) := by
  have e1 : L.take (i + 1) = L.take i ++ [L[i]] := (List.take_append_getElem hi).symm
  have e2 : cutA L n (i + 1) = L.take i ++ L[i] :: remA (L.drop (i + 1)) n := by unfold cutA; rw [e1, List.append_assoc]; rfl
  have hl : (L.take i).length = i := by simp; omega
  refine ⟨by rw [e2]; simp; omega, ?_, ?_⟩
  · simp only [e2]
    rw [List.getElem_append_right (by omega)]
    simp [hl]
  · have e3 : L.drop i = L[i] :: L.drop (i + 1) := List.drop_eq_getElem_cons hi
    rw [e2]
    unfold cutA
    rw [e3, remA_cons]
    split
    · rw [List.eraseIdx_append_of_length_le (by omega), hl, Nat.sub_self]
      rfl
    · rfl
theorem cutA_0 (L : List Nat) (n : Nat) : cutA L n 0 = remA L n := by unfold cutA; simp
theorem cutA_all (L : List Nat) (n : Nat) : cutA L n L.length = L := by unfold cutA remA; simp
/-- the first of the least leaves with the number, among the first m -/
def isFE (L : List Nat) (n m : Nat) (z : Int) : Prop := (z = -6 ∧ ∀ (k : Nat) (h : k < L.length), k < m → (L[k]'h) / 16 ≠ n) ∨ ∃ (k : Nat) (h : k < L.length), z = (k : Int) ∧ k < m ∧ (L[k]'h) / 16 = n ∧ (∀ (j : Nat) (h2 : j < L.length), j < m → (L[j]'h2) / 16 = n → (L[k]'h) ≤ (L[j]'h2)) ∧ ∀ (j : Nat) (h2 : j < L.length), j < k → (L[j]'h2) ≠ (L[k]'h)
theorem isFE.bd {L : List Nat} {n m : Nat} {z : Int} (h : isFE L n m z) : -6 ≤ z ∧ z < L.length := by
  rcases h with h | ⟨k, h1, h2, h3⟩ <;> omega
theorem isFE_remE {L : List Nat} {n : Nat} {z : Int} (h : isFE L n L.length z) : (z = -6 ∧ remE L n = L) ∨ ∃ (k : Nat) (h : k < L.length), z = (k : Int) ∧ remE L n = L.eraseIdx k := by
  rcases h with ⟨h1, h2⟩ | ⟨k, h1, rfl, h3, h4, h5, h6⟩
  · refine Or.inl ⟨h1, ?_⟩
    unfold remE
    have e : L.filter (fun x => x / 16 == n) = [] := List.filter_eq_nil_iff.mpr (fun y hy => by
      obtain ⟨k, hk, rfl⟩ := List.getElem_of_mem hy
      simpa using h2 k hk hk)
    rw [e]
    rfl
  · refine Or.inr ⟨k, h1, rfl, ?_⟩
    unfold remE
    have e : (L.filter (fun x => x / 16 == n)).min? = some L[k] := by
      rw [List.min?_eq_some_iff]
      refine ⟨List.mem_filter.mpr ⟨List.getElem_mem h1, by simpa using h4⟩, fun y hy => ?_⟩
      obtain ⟨g1, g2⟩ := List.mem_filter.mp hy
      obtain ⟨j, hj, rfl⟩ := List.getElem_of_mem g1
      exact h5 j hj hj (by simpa using g2)
    rw [e]
    show L.erase L[k] = _
    rw [← erase_at h1 rfl (fun j hj hjk => h6 j hj hjk), take1_drop h1]
theorem le_16 {x y n : Nat} (h1 : x / 16 = n) (h2 : y / 16 = n) : (x % 16 < y % 16 ↔ x < y) := by omega
theorem care1_ok {p x : Nat} {L : List Nat} (hx : oko x) (hp : p < 16) (hL : ∀ y ∈ L, 160 ≤ y ∧ y < 1600) : ∀ y ∈ care1 p L x, 160 ≤ y ∧ y < 1600 := by
  have h1 : ∀ y ∈ remA L (x % 100), 160 ≤ y ∧ y < 1600 := fun y hy => hL y (List.mem_filter.mp hy).1
  obtain ⟨g1, g2⟩ := hx
  unfold care1 insL
  intro y hy
  split at hy
  · split at hy
    · rcases List.mem_append.mp hy with q | q
      · exact h1 y q
      · rw [List.mem_singleton] at q
        omega
    · exact h1 y hy
  · exact h1 y hy
def rmX5_moves : Room := { frames := 0, cells := 0, slots := 0, locals := 0 }
set_option maxHeartbeats 4000000 in
set_option maxRecDepth 100000 in
theorem c_X5_moves (l : Launch) (D : va_G) (nH : Nat) (sk : Sk) (v : Mem) (a b f g na nb : Nat) (fz gz : Int) (hfz : fz = (f : Int)) (hgz : gz = (g : Int)) (ha : sk a = some (eA D 10 na)) (hb : sk b = some (eA D 10 nb)) (hab : a ≠ b) (hf : f + 713 ≤ na) (hg : g + 713 ≤ nb) (hna : na ≤ 2147483647) (hnb : nb ≤ 2147483647) : CtV l D yX5_moves wsX5_moves rmX5_moves [.ref a, .int (I fz), .ref b, .int (I gz)] nH sk v (fun v' => (∀ c, c ≠ b → v' c = v c) ∧ ∀ j, v' b j = if g ≤ j ∧ j < g + 713 then v a (f + (j - g)) else v b j) := by
  refine ct_of (cc := cX5_moves) (maxL := 5) (ret := none) rfl rfl (Nat.le_of_ble_eq_true rfl) ?_
  intro p_ e_ s_ m_ args_ below_ meth_ c_ X hmn hsz
  refine j_iconst X dX5_moves_0 ?_
  refine j_istore X dX5_moves_1 rfl (Nat.le_of_ble_eq_true rfl) ?_
  refine j_loop (σ := Nat × Mem) (fun (y_ : Nat × Mem) => match y_ with | (k, u) => k ≤ 713 ∧ (∀ c, c ≠ b → u c = v c) ∧ ∀ j, u b j = if g ≤ j ∧ j < g + k then v a (f + (j - g)) else v b j) (fun (y_ : Nat × Mem) => match y_ with | (k, u) => 713 - k) (fun (y_ : Nat × Mem) => match y_ with | (k, u) => (u, [some (.ref a), some (.int (I fz)), some (.ref b), some (.int (I gz)), some (.int (I (k : Int)))])) ?_ (0, v) ⟨by omega, fun _ _ => rfl, fun j => by rw [if_neg (by omega)]⟩
  intro y_ hx ih3
  obtain ⟨k, u⟩ := y_
  dsimp only at hx ih3 ⊢
  obtain ⟨hk, hu1, hu2⟩ := hx
  refine j_iload X dX5_moves_3 rfl ?_
  refine j_sipush X dX5_moves_5 (by decide) ?_
  refine j_icmp_ge (tgt := 29) X dX5_moves_8 (by omega) (by decide) (fun c8 => ?_) (fun c8 => ?_)
  · exact j_vret X dX5_moves_29 ⟨rfl, rfl, ⟨hu1, fun j => by rw [hu2 j, show k = 713 by omega]⟩⟩
  · refine j_aload_n X dX5_moves_11 rfl ?_
    refine j_iload_n X dX5_moves_12 rfl ?_
    refine j_iload X dX5_moves_13 rfl ?_
    refine j_iadd X dX5_moves_15 ?_
    refine j_aload_n X dX5_moves_16 rfl ?_
    refine j_iload_n X dX5_moves_17 rfl ?_
    refine j_iload X dX5_moves_18 rfl ?_
    refine j_iadd X dX5_moves_20 ?_
    refine j_ialN X dX5_moves_21 ha (f + k) (by omega) (by omega) hna ?_
    refine j_iasN X dX5_moves_22 hb (g + k) (by omega) (by omega) hnb (fun u22 f22 g22 n22 => ?_)
    refine j_iinc X dX5_moves_23 rfl rfl (Nat.le_of_ble_eq_true rfl) ?_
    refine j_goto (tgt := 3) X dX5_moves_26 (by decide) ?_
    exact ih3 (k + 1, u22) (by (try dsimp only); exact ⟨by omega, fun c hc => by rw [n22 c hc]; exact hu1 c hc, fun j => by
  by_cases q : j = g + k
  · subst q; rw [f22, if_pos (by omega), hu1 a hab, show g + k - g = k by omega]
  · rw [g22 j q, hu2 j]
    by_cases q2 : g ≤ j ∧ j < g + k
    · rw [if_pos q2, if_pos (by omega)]
    · rw [if_neg q2, if_neg (by omega)]⟩) (by (try dsimp only); omega)
def rmX5_within : Room := { frames := 0, cells := 0, slots := 0, locals := 0 }
set_option maxHeartbeats 4000000 in
set_option maxRecDepth 100000 in
theorem c_X5_within (l : Launch) (D : va_G) (nH : Nat) (sk : Sk) (v : Mem) (x lo hi : Int) (hx : -2147483648 ≤ x ∧ x ≤ 2147483647)(hlo : -2147483648 ≤ lo ∧ lo ≤ 2147483647)(hhi : -2147483648 ≤ hi ∧ hi ≤ 2147483647) : CtI l D yX5_within wsX5_within rmX5_within [.int (I x), .int (I lo), .int (I hi)] nH sk v (fun z v' => (z = 0 ∨ z = 1) ∧ (z = 1 ↔ lo ≤ x ∧ x ≤ hi) ∧ v = v') := by
  refine ct_of (cc := cX5_within) (maxL := 3) (ret := (some .boolean)) rfl rfl (Nat.le_of_ble_eq_true rfl) ?_
  intro p_ e_ s_ m_ args_ below_ meth_ c_ X hmn hsz
  refine j_iload_n X dX5_within_0 rfl ?_
  refine j_iload_n X dX5_within_1 rfl ?_
  refine j_icmp_lt (tgt := 14) X dX5_within_2 (by omega) (by decide) (fun c2 => ?_) (fun c2 => ?_)
  · refine j_iconst X dX5_within_14 ?_
    first
      | have hret : ((1 : Int) = 0 ∨ (1 : Int) = 1) ∧ ((1 : Int) = 1 ↔ lo ≤ x ∧ x ≤ hi) ∧ v = v := ⟨Or.inr rfl, ⟨fun _ => ⟨by omega, by omega⟩, fun _ => rfl⟩, rfl⟩
      | have hret : ((0 : Int) = 0 ∨ (0 : Int) = 1) ∧ ((0 : Int) = 1 ↔ lo ≤ x ∧ x ≤ hi) ∧ v = v := ⟨Or.inl rfl, ⟨fun h => absurd h (by omega), fun h => by omega⟩, rfl⟩
    exact j_zret X dX5_within_15 (by omega) ⟨_, rfl, rfl, hret⟩
  · refine j_iload_n X dX5_within_5 rfl ?_
    refine j_iload_n X dX5_within_6 rfl ?_
    refine j_icmp_gt (tgt := 14) X dX5_within_7 (by omega) (by decide) (fun c7 => ?_) (fun c7 => ?_)
    · refine j_iconst X dX5_within_14 ?_
      first
        | have hret : ((1 : Int) = 0 ∨ (1 : Int) = 1) ∧ ((1 : Int) = 1 ↔ lo ≤ x ∧ x ≤ hi) ∧ v = v := ⟨Or.inr rfl, ⟨fun _ => ⟨by omega, by omega⟩, fun _ => rfl⟩, rfl⟩
        | have hret : ((0 : Int) = 0 ∨ (0 : Int) = 1) ∧ ((0 : Int) = 1 ↔ lo ≤ x ∧ x ≤ hi) ∧ v = v := ⟨Or.inl rfl, ⟨fun h => absurd h (by omega), fun h => by omega⟩, rfl⟩
      exact j_zret X dX5_within_15 (by omega) ⟨_, rfl, rfl, hret⟩
    · refine j_iconst X dX5_within_10 ?_
      refine j_goto (tgt := 15) X dX5_within_11 (by decide) ?_
      first
        | have hret : ((1 : Int) = 0 ∨ (1 : Int) = 1) ∧ ((1 : Int) = 1 ↔ lo ≤ x ∧ x ≤ hi) ∧ v = v := ⟨Or.inr rfl, ⟨fun _ => ⟨by omega, by omega⟩, fun _ => rfl⟩, rfl⟩
        | have hret : ((0 : Int) = 0 ∨ (0 : Int) = 1) ∧ ((0 : Int) = 1 ↔ lo ≤ x ∧ x ≤ hi) ∧ v = v := ⟨Or.inl rfl, ⟨fun h => absurd h (by omega), fun h => by omega⟩, rfl⟩
      exact j_zret X dX5_within_15 (by omega) ⟨_, rfl, rfl, hret⟩
def rmX5_isOwner : Room := { frames := 1, cells := 0, slots := 0, locals := 22 }
set_option maxHeartbeats 4000000 in
set_option maxRecDepth 100000 in
theorem c_X5_isOwner (l : Launch) (D : va_G) (nH : Nat) (sk : Sk) (v : Mem) (m : Nat) (x : Int) (N : Nat) (hM : Md D sk m)(hx : -2147483648 ≤ x ∧ x ≤ 2147483647) (hN : v (m + 1) 1 = (N : Int)) (hN2 : N ≤ 16) : CtI l D yX5_isOwner wsX5_isOwner rmX5_isOwner [.ref m, .int (I x)] nH sk v (fun z v' => (z = 0 ∨ z = 1) ∧ (z = 1 ↔ 0 ≤ x ∧ x < (N : Int)) ∧ v = v') := by
  refine ct_of (cc := cX5_isOwner) (maxL := 2) (ret := (some .boolean)) rfl rfl (Nat.le_of_ble_eq_true rfl) ?_
  intro p_ e_ s_ m_ args_ below_ meth_ c_ X hmn hsz
  have hinX5 : ∀ w ∈ wsX50, w ∈ wsX5_isOwner := by decide +kernel
  obtain ⟨m0, m1, m2, m3, m4, m5, m6, m7, m8, m9, m10⟩ := id hM
  refine j_iload_n X dX5_isOwner_0 rfl ?_
  refine j_iconst X dX5_isOwner_1 ?_
  refine j_aload_n X dX5_isOwner_2 rfl ?_
  refine j_getr X dX5_isOwner_3 (T := TX5) (N := 13) (C := RX5) hinX5 rfl (by assumption) 0 (by decide) (by decide +kernel) rfl ?_
  refine j_iconst X dX5_isOwner_6 ?_
  refine j_ialN X dX5_isOwner_7 (by assumption) (1) (by omega) (by omega) (by decide) ?_
  rw [hN]
  refine j_iconst X dX5_isOwner_8 ?_
  refine j_isub X dX5_isOwner_9 ?_
  refine j_callS (nn := 3) X dX5_isOwner_10 (c_X5_within l D nH sk v x 0 ((N : Int) - 1) hx (by omega) (by omega)) gX5_isOwner_X5_within rfl ⟨rfl, rfl⟩ (by decide +kernel) ⟨Nat.le_of_ble_eq_true rfl, Nat.le_of_ble_eq_true rfl⟩ rfl rfl (Nat.le_of_ble_eq_true rfl) ⟨Nat.zero_le _, Nat.zero_le _⟩ (kI (fun z10 v10 h10 => ?_))
  obtain ⟨h10a, h10b, rfl⟩ := h10
  exact j_zret X dX5_isOwner_13 (by omega) ⟨_, rfl, rfl, ⟨h10a, by omega, rfl⟩⟩
def rmX5_isParcel : Room := { frames := 1, cells := 0, slots := 0, locals := 22 }
set_option maxHeartbeats 4000000 in
set_option maxRecDepth 100000 in
theorem c_X5_isParcel (l : Launch) (D : va_G) (nH : Nat) (sk : Sk) (v : Mem) (m : Nat) (x : Int) (N : Nat) (hM : Md D sk m)(hx : -2147483648 ≤ x ∧ x ≤ 2147483647) (hN : v (m + 1) 0 = (N : Int)) (hN2 : N ≤ 16) : CtI l D yX5_isParcel wsX5_isParcel rmX5_isParcel [.ref m, .int (I x)] nH sk v (fun z v' => (z = 0 ∨ z = 1) ∧ (z = 1 ↔ 0 ≤ x ∧ x < (N : Int)) ∧ v = v') := by
  refine ct_of (cc := cX5_isParcel) (maxL := 2) (ret := (some .boolean)) rfl rfl (Nat.le_of_ble_eq_true rfl) ?_
  intro p_ e_ s_ m_ args_ below_ meth_ c_ X hmn hsz
  have hinX5 : ∀ w ∈ wsX50, w ∈ wsX5_isParcel := by decide +kernel
  obtain ⟨m0, m1, m2, m3, m4, m5, m6, m7, m8, m9, m10⟩ := id hM
  refine j_iload_n X dX5_isParcel_0 rfl ?_
  refine j_iconst X dX5_isParcel_1 ?_
  refine j_aload_n X dX5_isParcel_2 rfl ?_
  refine j_getr X dX5_isParcel_3 (T := TX5) (N := 13) (C := RX5) hinX5 rfl (by assumption) 0 (by decide) (by decide +kernel) rfl ?_
  refine j_iconst X dX5_isParcel_6 ?_
  refine j_ialN X dX5_isParcel_7 (by assumption) (0) (by omega) (by omega) (by decide) ?_
  rw [hN]
  refine j_iconst X dX5_isParcel_8 ?_
  refine j_isub X dX5_isParcel_9 ?_
  refine j_callS (nn := 3) X dX5_isParcel_10 (c_X5_within l D nH sk v x 0 ((N : Int) - 1) hx (by omega) (by omega)) gX5_isParcel_X5_within rfl ⟨rfl, rfl⟩ (by decide +kernel) ⟨Nat.le_of_ble_eq_true rfl, Nat.le_of_ble_eq_true rfl⟩ rfl rfl (Nat.le_of_ble_eq_true rfl) ⟨Nat.zero_le _, Nat.zero_le _⟩ (kI (fun z10 v10 h10 => ?_))
  obtain ⟨h10a, h10b, rfl⟩ := h10
  exact j_zret X dX5_isParcel_13 (by omega) ⟨_, rfl, rfl, ⟨h10a, by omega, rfl⟩⟩
def rmX5_part : Room := { frames := 0, cells := 0, slots := 0, locals := 0 }
set_option maxHeartbeats 4000000 in
set_option maxRecDepth 100000 in
theorem c_X5_part (l : Launch) (D : va_G) (nH : Nat) (sk : Sk) (v : Mem) (m b k : Nat) (bz kz : Int) (hM : Md D sk m) (hbz : bz = (b : Int)) (hkz : kz = (k : Int)) (hb : b ≤ 8) (hk : k < 63) : CtI l D yX5_part wsX5_part rmX5_part [.ref m, .int (I bz), .int (I kz)] nH sk v (fun z v' => z = v (m + 1) (146 + 63 * b + k) ∧ v = v') := by
  refine ct_of (cc := cX5_part) (maxL := 3) (ret := (some .int)) rfl rfl (Nat.le_of_ble_eq_true rfl) ?_
  intro p_ e_ s_ m_ args_ below_ meth_ c_ X hmn hsz
  have hinX5 : ∀ w ∈ wsX50, w ∈ wsX5_part := by decide +kernel
  obtain ⟨m0, m1, m2, m3, m4, m5, m6, m7, m8, m9, m10⟩ := id hM
  refine j_aload_n X dX5_part_0 rfl ?_
  refine j_getr X dX5_part_1 (T := TX5) (N := 13) (C := RX5) hinX5 rfl (by assumption) 0 (by decide) (by decide +kernel) rfl ?_
  refine j_sipush X dX5_part_4 (by decide) ?_
  refine j_bipush X dX5_part_7 (by decide) ?_
  refine j_iload_n X dX5_part_9 rfl ?_
  refine j_imul X dX5_part_10 ?_
  refine j_iadd X dX5_part_11 ?_
  refine j_iload_n X dX5_part_12 rfl ?_
  refine j_iadd X dX5_part_13 ?_
  refine j_ialN X dX5_part_14 (by assumption) (146 + 63 * b + k) (by omega) (by omega) (by decide) ?_
  exact j_iret X dX5_part_15 ⟨_, rfl, rfl, ⟨rfl, rfl⟩⟩
def rmX5_setPart : Room := { frames := 0, cells := 0, slots := 0, locals := 0 }
set_option maxHeartbeats 4000000 in
set_option maxRecDepth 100000 in
theorem c_X5_setPart (l : Launch) (D : va_G) (nH : Nat) (sk : Sk) (v : Mem) (m b k : Nat) (bz kz : Int) (y : Int) (hM : Md D sk m) (hbz : bz = (b : Int)) (hkz : kz = (k : Int)) (hb : b ≤ 8) (hk : k < 63) : CtV l D yX5_setPart wsX5_setPart rmX5_setPart [.ref m, .int (I bz), .int (I kz), .int (I y)] nH sk v (fun v' => v' (m + 1) (146 + 63 * b + k) = y ∧ (∀ j, j ≠ 146 + 63 * b + k → v' (m + 1) j = v (m + 1) j) ∧ ∀ a, a ≠ m + 1 → v' a = v a) := by
  refine ct_of (cc := cX5_setPart) (maxL := 4) (ret := none) rfl rfl (Nat.le_of_ble_eq_true rfl) ?_
  intro p_ e_ s_ m_ args_ below_ meth_ c_ X hmn hsz
  have hinX5 : ∀ w ∈ wsX50, w ∈ wsX5_setPart := by decide +kernel
  obtain ⟨m0, m1, m2, m3, m4, m5, m6, m7, m8, m9, m10⟩ := id hM
  refine j_aload_n X dX5_setPart_0 rfl ?_
  refine j_getr X dX5_setPart_1 (T := TX5) (N := 13) (C := RX5) hinX5 rfl (by assumption) 0 (by decide) (by decide +kernel) rfl ?_
  refine j_sipush X dX5_setPart_4 (by decide) ?_
  refine j_bipush X dX5_setPart_7 (by decide) ?_
  refine j_iload_n X dX5_setPart_9 rfl ?_
  refine j_imul X dX5_setPart_10 ?_
  refine j_iadd X dX5_setPart_11 ?_
  refine j_iload_n X dX5_setPart_12 rfl ?_
  refine j_iadd X dX5_setPart_13 ?_
  refine j_iload_n X dX5_setPart_14 rfl ?_
  refine j_iasN X dX5_setPart_15 (by assumption) (146 + 63 * b + k) (by omega) (by omega) (by decide) (fun u15 f15 g15 n15 => ?_)
  exact j_vret X dX5_setPart_16 ⟨rfl, rfl, ⟨f15, g15, n15⟩⟩
theorem c_X5_len (l : Launch) (D : va_G) (nH : Nat) (sk : Sk) (v : Mem) (m b : Nat) (bz : Int) (L : List Nat) (hM : Md D sk m) (hbz : bz = (b : Int)) (hb : b ≤ 8) (hL : LR (v (m + 1)) b L) : CtI l D yX5_part wsX5_part rmX5_part [.ref m, .int (I bz), .int (I 0)] nH sk v (fun z v' => z = (L.length : Int) ∧ v = v') := by
  refine Ct.mono (c_X5_part l D nH sk v m b 0 bz 0 hM hbz rfl hb (by omega)) ?_
  rintro r sk' v' ⟨z, e1, e2, h1, rfl⟩
  exact ⟨z, e1, e2, h1.trans hL.1, rfl⟩
def rmX5_numberOf : Room := { frames := 1, cells := 0, slots := 0, locals := 22 }
set_option maxHeartbeats 4000000 in
set_option maxRecDepth 100000 in
theorem c_X5_numberOf (l : Launch) (D : va_G) (nH : Nat) (sk : Sk) (v : Mem) (m b i : Nat) (bz iz : Int) (L : List Nat) (hM : Md D sk m) (hbz : bz = (b : Int)) (hiz : iz = (i : Int)) (hb : b ≤ 8) (hL : LR (v (m + 1)) b L) (hi : i < L.length) : CtI l D yX5_numberOf wsX5_numberOf rmX5_numberOf [.ref m, .int (I bz), .int (I iz)] nH sk v (fun z v' => z = ((L[i]'hi / 16 : Nat) : Int) ∧ v = v') := by
  refine ct_of (cc := cX5_numberOf) (maxL := 3) (ret := (some .int)) rfl rfl (Nat.le_of_ble_eq_true rfl) ?_
  intro p_ e_ s_ m_ args_ below_ meth_ c_ X hmn hsz
  obtain ⟨m0, m1, m2, m3, m4, m5, m6, m7, m8, m9, m10⟩ := id hM
  have hlt := hL.lt hi
  have hLi := hL.2.2.1 i hi
  have h60 := hL.2.1
  refine j_aload_n X dX5_numberOf_0 rfl ?_
  refine j_iload_n X dX5_numberOf_1 rfl ?_
  refine j_iconst X dX5_numberOf_2 ?_
  refine j_iload_n X dX5_numberOf_3 rfl ?_
  refine j_iadd X dX5_numberOf_4 ?_
  refine j_callV (nn := 2) X dX5_numberOf_5 (c_X5_part l D nH sk v m b (3 + i) _ _ hM (by omega) (by omega) (by omega) (by omega)) gX5_numberOf_X5_part rfl ⟨rfl, rfl⟩ (by decide +kernel) ⟨Nat.le_of_ble_eq_true rfl, Nat.le_of_ble_eq_true rfl⟩ (by assumption) ⟨rfl, rfl⟩ rfl rfl (Nat.le_of_ble_eq_true rfl) ⟨Nat.zero_le _, Nat.zero_le _⟩ (kI (fun z5 v5 h5 => ?_))
  obtain ⟨rfl, rfl⟩ := h5
  rw [show 146 + 63 * b + (3 + i) = 149 + 63 * b + i by omega, hLi]
  refine j_bipush X dX5_numberOf_8 (by decide) ?_
  refine j_idiv X dX5_numberOf_10 (by omega) (by omega) ?_
  exact j_iret X dX5_numberOf_11 ⟨_, rfl, rfl, ⟨by omega, rfl⟩⟩
def rmX5_issueOf : Room := { frames := 1, cells := 0, slots := 0, locals := 22 }
set_option maxHeartbeats 4000000 in
set_option maxRecDepth 100000 in
theorem c_X5_issueOf (l : Launch) (D : va_G) (nH : Nat) (sk : Sk) (v : Mem) (m b i : Nat) (bz iz : Int) (L : List Nat) (hM : Md D sk m) (hbz : bz = (b : Int)) (hiz : iz = (i : Int)) (hb : b ≤ 8) (hL : LR (v (m + 1)) b L) (hi : i < L.length) : CtI l D yX5_issueOf wsX5_issueOf rmX5_issueOf [.ref m, .int (I bz), .int (I iz)] nH sk v (fun z v' => z = ((L[i]'hi % 16 : Nat) : Int) ∧ v = v') := by
  refine ct_of (cc := cX5_issueOf) (maxL := 3) (ret := (some .int)) rfl rfl (Nat.le_of_ble_eq_true rfl) ?_
  intro p_ e_ s_ m_ args_ below_ meth_ c_ X hmn hsz
  obtain ⟨m0, m1, m2, m3, m4, m5, m6, m7, m8, m9, m10⟩ := id hM
  have hlt := hL.lt hi
  have hLi := hL.2.2.1 i hi
  have h60 := hL.2.1
  refine j_aload_n X dX5_issueOf_0 rfl ?_
  refine j_iload_n X dX5_issueOf_1 rfl ?_
  refine j_iconst X dX5_issueOf_2 ?_
  refine j_iload_n X dX5_issueOf_3 rfl ?_
  refine j_iadd X dX5_issueOf_4 ?_
  refine j_callV (nn := 2) X dX5_issueOf_5 (c_X5_part l D nH sk v m b (3 + i) _ _ hM (by omega) (by omega) (by omega) (by omega)) gX5_issueOf_X5_part rfl ⟨rfl, rfl⟩ (by decide +kernel) ⟨Nat.le_of_ble_eq_true rfl, Nat.le_of_ble_eq_true rfl⟩ (by assumption) ⟨rfl, rfl⟩ rfl rfl (Nat.le_of_ble_eq_true rfl) ⟨Nat.zero_le _, Nat.zero_le _⟩ (kI (fun z5 v5 h5 => ?_))
  obtain ⟨rfl, rfl⟩ := h5
  rw [show 146 + 63 * b + (3 + i) = 149 + 63 * b + i by omega, hLi]
  refine j_bipush X dX5_issueOf_8 (by decide) ?_
  refine j_irem X dX5_issueOf_10 (by omega) (by omega) ?_
  exact j_iret X dX5_issueOf_11 ⟨_, rfl, rfl, ⟨by omega, rfl⟩⟩
def rmX5_orderOf : Room := { frames := 0, cells := 0, slots := 0, locals := 0 }
set_option maxHeartbeats 4000000 in
set_option maxRecDepth 100000 in
theorem c_X5_orderOf (l : Launch) (D : va_G) (nH : Nat) (sk : Sk) (v : Mem) (m q k : Nat) (qz kz : Int) (hM : Md D sk m) (hqz : qz = (q : Int)) (hkz : kz = (k : Int)) (hq : q < 16) (hk : k < 8) : CtI l D yX5_orderOf wsX5_orderOf rmX5_orderOf [.ref m, .int (I qz), .int (I kz)] nH sk v (fun z v' => z = v (m + 1) (3 + 9 * q + k) ∧ v = v') := by
  refine ct_of (cc := cX5_orderOf) (maxL := 3) (ret := (some .int)) rfl rfl (Nat.le_of_ble_eq_true rfl) ?_
  intro p_ e_ s_ m_ args_ below_ meth_ c_ X hmn hsz
  have hinX5 : ∀ w ∈ wsX50, w ∈ wsX5_orderOf := by decide +kernel
  obtain ⟨m0, m1, m2, m3, m4, m5, m6, m7, m8, m9, m10⟩ := id hM
  refine j_aload_n X dX5_orderOf_0 rfl ?_
  refine j_getr X dX5_orderOf_1 (T := TX5) (N := 13) (C := RX5) hinX5 rfl (by assumption) 0 (by decide) (by decide +kernel) rfl ?_
  refine j_iconst X dX5_orderOf_4 ?_
  refine j_bipush X dX5_orderOf_5 (by decide) ?_
  refine j_iload_n X dX5_orderOf_7 rfl ?_
  refine j_imul X dX5_orderOf_8 ?_
  refine j_iadd X dX5_orderOf_9 ?_
  refine j_iconst X dX5_orderOf_10 ?_
  refine j_iadd X dX5_orderOf_11 ?_
  refine j_iload_n X dX5_orderOf_12 rfl ?_
  refine j_iadd X dX5_orderOf_13 ?_
  refine j_ialN X dX5_orderOf_14 (by assumption) (3 + 9 * q + k) (by omega) (by omega) (by decide) ?_
  exact j_iret X dX5_orderOf_15 ⟨_, rfl, rfl, ⟨rfl, rfl⟩⟩
def rmX5_bits : Room := { frames := 0, cells := 0, slots := 0, locals := 0 }
set_option maxHeartbeats 4000000 in
set_option maxRecDepth 100000 in
theorem c_X5_bits (l : Launch) (D : va_G) (nH : Nat) (sk : Sk) (v : Mem) (w : Nat) (hw : w < 65536) : CtI l D yX5_bits wsX5_bits rmX5_bits [.int (I (w : Int))] nH sk v (fun z v' => z = (pop w : Int) ∧ v = v') := by
  refine ct_of (cc := cX5_bits) (maxL := 3) (ret := (some .int)) rfl rfl (Nat.le_of_ble_eq_true rfl) ?_
  intro p_ e_ s_ m_ args_ below_ meth_ c_ X hmn hsz
  refine j_iconst X dX5_bits_0 ?_
  refine j_istore_n X dX5_bits_1 rfl (Nat.le_of_ble_eq_true rfl) ?_
  refine j_iconst X dX5_bits_2 ?_
  refine j_istore_n X dX5_bits_3 rfl (Nat.le_of_ble_eq_true rfl) ?_
  refine j_loop (σ := Nat) (fun (c : Nat) => c ≤ 16) (fun (c : Nat) => 16 - c) (fun (c : Nat) => (v, [some (.int (I (w : Int))), some (.int (I (pcU w c : Int))), some (.int (I (c : Int)))])) ?_ 0 (by omega)
  intro c hx ih4
  dsimp only at hx ih4 ⊢
  obtain hc := hx
  refine j_iload_n X dX5_bits_4 rfl ?_
  refine j_bipush X dX5_bits_5 (by decide) ?_
  refine j_icmp_ge (tgt := 24) X dX5_bits_7 (by omega) (by decide) (fun c7 => ?_) (fun c7 => ?_)
  · refine j_iload_n X dX5_bits_24 rfl ?_
    exact j_iret X dX5_bits_25 ⟨_, rfl, rfl, ⟨by rw [show c = 16 by omega, pcU_16], rfl⟩⟩
  · refine j_iload_n X dX5_bits_10 rfl ?_
    refine j_iload_n X dX5_bits_11 rfl ?_
    refine j_iload_n X dX5_bits_12 rfl ?_
    refine j_ishr X dX5_bits_13 (b_shr (by omega) (by omega)) ?_
    refine j_iconst X dX5_bits_14 ?_
    refine j_iand X dX5_bits_15 b_bit1 ?_
    refine j_iadd X dX5_bits_16 ?_
    refine j_istore_n X dX5_bits_17 rfl (Nat.le_of_ble_eq_true rfl) ?_
    refine j_iinc X dX5_bits_18 rfl rfl (Nat.le_of_ble_eq_true rfl) ?_
    refine j_goto (tgt := 4) X dX5_bits_21 (by decide) ?_
    rw [show (pcU w c : Int) + ((w / 2 ^ c % 2 : Nat) : Int) = (pcU w (c + 1) : Int) by show _ = ((pcU w c + w / 2 ^ c % 2 : Nat) : Int); omega]
    exact ih4 (c + 1) (by (try dsimp only); exact (by omega)) (by (try dsimp only); omega)
