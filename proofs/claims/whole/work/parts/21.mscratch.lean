def issF (T : List Nat) (n : Nat) : Nat := T.foldl (fun a x => if x / 16 = n then x % 16 + 1 else a) 0
theorem issF_or (n : Nat) : ∀ (T : List Nat) (a : Nat), (T.foldl (fun a x => if x / 16 = n then x % 16 + 1 else a) a = a ∧ ∀ x ∈ T, x / 16 ≠ n) ∨ ∃ x ∈ T, x / 16 = n ∧ T.foldl (fun a x => if x / 16 = n then x % 16 + 1 else a) a = x % 16 + 1
  | [], a => Or.inl ⟨rfl, fun x hx => absurd hx List.not_mem_nil⟩
  | y :: t, a => by
    rcases issF_or n t (if y / 16 = n then y % 16 + 1 else a) with ⟨h1, h2⟩ | ⟨x, h1, h2, h3⟩
    · by_cases hy : y / 16 = n
      · refine Or.inr ⟨y, List.mem_cons_self, hy, ?_⟩
        rw [List.foldl_cons, h1, if_pos hy]
      · refine Or.inl ⟨?_, fun x hx => ?_⟩
        · rw [List.foldl_cons, h1, if_neg hy]
        · rcases List.mem_cons.mp hx with rfl | hx
          · exact hy
          · exact h2 x hx
    · exact Or.inr ⟨x, List.mem_cons_of_mem _ h1, h2, by rw [List.foldl_cons]; exact h3⟩
theorem issF_no {T : List Nat} {n : Nat} : issF T n = 0 ↔ hasN T n = false := by
  rcases issF_or n T 0 with ⟨h1, h2⟩ | ⟨x, h1, h2, h3⟩
  · exact ⟨fun _ => hasN_no h2, fun _ => h1⟩
  · have e : issF T n = x % 16 + 1 := h3
    refine ⟨fun h => by omega, fun h => ?_⟩
    rw [hasN_of h1 h2] at h
    cases h
theorem issF_at {T : List Nat} (hu : unq T) {x n : Nat} (hx : x ∈ T) (hn : x / 16 = n) : issF T n = x % 16 + 1 := by
  rcases issF_or n T 0 with ⟨h1, h2⟩ | ⟨y, h1, h2, h3⟩
  · exact absurd hn (h2 x hx)
  · rw [hu x hx y h1 (by omega)]
    exact h3
theorem issF_le (T : List Nat) (n : Nat) : issF T n ≤ 16 := by
  rcases issF_or n T 0 with ⟨h1, h2⟩ | ⟨y, h1, h2, h3⟩
  · have e : issF T n = 0 := h1
    omega
  · have e : issF T n = y % 16 + 1 := h3
    omega
theorem issF_take {T : List Nat} {n k : Nat} (h : k < T.length) : issF (T.take (k + 1)) n = if T[k] / 16 = n then T[k] % 16 + 1 else issF (T.take k) n := by
  unfold issF
  rw [List.take_succ_eq_append_getElem h, List.foldl_append]
  rfl
def rgO (L T : List Nat) (n : Nat) : Nat := if L.any (fun x => x / 16 == n && x % 16 + 1 == issF T n) then 1 else 0
theorem rgO_take {L T : List Nat} {n k : Nat} (h : k < L.length) : rgO (L.take (k + 1)) T n = if L[k] / 16 = n ∧ L[k] % 16 + 1 = issF T n then 1 else rgO (L.take k) T n := by
  unfold rgO
  rw [List.take_succ_eq_append_getElem h, List.any_append]
  by_cases q : L[k] / 16 = n ∧ L[k] % 16 + 1 = issF T n
  · rw [if_pos q]; simp [q.1, q.2]
  · rw [if_neg q]
    have : (List.any [L[k]] fun x => x / 16 == n && x % 16 + 1 == issF T n) = false := by
      simp only [List.any_cons, List.any_nil, Bool.or_false, Bool.and_eq_false_iff, beq_eq_false_iff_ne]
      omega
    rw [this, Bool.or_false]
theorem rgO_le (L T : List Nat) (n : Nat) : rgO L T n ≤ 1 := by
  unfold rgO
  split <;> omega
theorem cntN_take {L : List Nat} {n k : Nat} (h : k < L.length) : cntN (L.take (k + 1)) n = cntN (L.take k) n + if L[k] / 16 = n then 1 else 0 := by
  unfold cntN
  rw [cnt_take h]
  by_cases q : L[k] / 16 = n <;> simp [q]
def FL (v : Mem) (m : Nat) (L T : List Nat) : Prop := ∀ n, n < 100 → v (m + 8) n = (cntN L n : Int) ∧ v (m + 9) n = (rgO L T n : Int) ∧ v (m + 10) n = (issF T n : Int)
/-- only the scratch rows changed -/
def frL (v v' : Mem) (m : Nat) : Prop := ∀ a, a < m + 8 ∨ m + 11 ≤ a → v' a = v a
theorem frL.refl (v : Mem) (m : Nat) : frL v v m := fun _ _ => rfl
theorem frL.trans {v w u : Mem} {m : Nat} (h1 : frL v w m) (h2 : frL w u m) : frL v u m := fun a ha => (h2 a ha).trans (h1 a ha)
theorem surp_is {L T : List Nat} {n : Nat} : (dif L T n 3 : Nat) = if issF T n = 0 ∨ cntN L n = 0 then cntN L n else cntN L n - 1 := by
  unfold dif surp
  rw [if_pos rfl]
  by_cases h : issF T n = 0
  · rw [issF_no.mp h, if_pos (Or.inl h)]; rfl
  · have : hasN T n = true := by
      cases hh : hasN T n with
      | true => rfl
      | false => exact absurd (issF_no.mpr hh) h
    rw [this, if_pos rfl]
    split <;> omega
theorem mis_is {L T : List Nat} {n : Nat} : (dif L T n 5 : Nat) = if 0 < issF T n ∧ cntN L n = 0 then 1 else 0 := by
  unfold dif misN
  rw [if_neg (by decide), if_neg (by decide)]
  by_cases h : issF T n = 0
  · rw [issF_no.mp h, if_neg (by simp), if_neg (by omega)]
  · have : hasN T n = true := by
      cases hh : hasN T n with
      | true => rfl
      | false => exact absurd (issF_no.mpr hh) h
    rw [this]
    by_cases q : cntN L n = 0
    · rw [if_pos ⟨rfl, q⟩, if_pos ⟨by omega, q⟩]
    · rw [if_neg (fun x => q x.2), if_neg (fun x => q x.2)]
theorem old_is {L T : List Nat} (hu : unq T) {n : Nat} : (dif L T n 4 : Nat) = if 0 < issF T n ∧ 0 < cntN L n ∧ rgO L T n = 0 then 1 else 0 := by
  unfold dif oldN
  rw [if_neg (by decide), if_pos rfl]
  by_cases h : issF T n = 0
  · rw [issF_no.mp h, if_neg (by simp), if_neg (by omega)]
  · have hh : hasN T n = true := by
      cases hh : hasN T n with
      | true => rfl
      | false => exact absurd (issF_no.mpr hh) h
    obtain ⟨x, hx, hn⟩ := List.any_eq_true.mp hh
    have hn : x / 16 = n := by simpa using hn
    have e := issF_at hu hx hn
    have key : rgO L T n = 0 ↔ ∀ y ∈ T, y / 16 = n → y ∉ L := by
      unfold rgO
      constructor
      · intro h2 y hy hyn hyL
        rw [if_pos (List.any_eq_true.mpr ⟨y, hyL, by rw [issF_at hu hy hyn]; simp [hyn]⟩)] at h2
        omega
      · intro h2
        rw [if_neg]
        intro h3
        obtain ⟨z, hz, hz2⟩ := List.any_eq_true.mp h3
        simp only [Bool.and_eq_true, beq_iff_eq] at hz2
        have : z = x := by omega
        subst this
        exact h2 z hx hn hz
    by_cases q : cntN L n ≠ 0 ∧ rgO L T n = 0
    · rw [if_pos ⟨hh, q.1, key.mp q.2⟩, if_pos ⟨by omega, by omega, q.2⟩]
    · rw [if_neg (fun z => q ⟨z.2.1, key.mpr z.2.2⟩), if_neg (fun z => q ⟨by omega, z.2.2⟩)]
theorem dif_le (L T : List Nat) (n : Nat) (k : Int) : dif L T n k ≤ L.length + 1 := by
  have := cntN_le L n
  unfold dif surp oldN misN
  split
  · split <;> omega
  · split <;> split <;> omega
theorem difU_le (L T : List Nat) (k : Int) : ∀ m, difU L T k m ≤ m * (L.length + 1)
  | 0 => by simp [difU]
  | m + 1 => by
    rw [difU_succ, Nat.add_mul, Nat.one_mul]
    exact Nat.add_le_add (difU_le L T k m) (dif_le _ _ _ _)
theorem difs_le {L : List Nat} (h : L.length ≤ 60) (T : List Nat) (k : Int) : difs L T k ≤ 5490 := Nat.le_trans (difU_le L T k 90) (by omega)
/-- each number stands once -/
def NU (T : List Nat) : Prop := (T.map (fun x => x / 16)).Nodup
theorem NU.unq {T : List Nat} (h : NU T) : unq T := by
  intro x hx y hy e
  unfold NU at h
  rw [List.nodup_iff_pairwise_ne, List.pairwise_map] at h
  rcases Nat.lt_trichotomy x y with q | q | q
  · obtain ⟨i, hi, rfl⟩ := List.getElem_of_mem hx
    obtain ⟨j, hj, rfl⟩ := List.getElem_of_mem hy
    rcases Nat.lt_trichotomy i j with z | z | z
    · exact absurd e (List.pairwise_iff_getElem.mp h i j hi hj z)
    · subst z; rfl
    · exact absurd e.symm (List.pairwise_iff_getElem.mp h j i hj hi z)
  · exact q
  · obtain ⟨i, hi, rfl⟩ := List.getElem_of_mem hx
    obtain ⟨j, hj, rfl⟩ := List.getElem_of_mem hy
    rcases Nat.lt_trichotomy i j with z | z | z
    · exact absurd e (List.pairwise_iff_getElem.mp h i j hi hj z)
    · subst z; rfl
    · exact absurd e.symm (List.pairwise_iff_getElem.mp h j i hj hi z)
theorem NU.cnt {T : List Nat} (h : NU T) (n : Nat) : cntN T n ≤ 1 := by
  unfold NU at h
  have h2 := List.nodup_iff_count.mp h n
  unfold cntN
  rw [List.count, List.countP_map] at h2
  exact h2
theorem NU.nil : NU [] := List.nodup_nil
theorem NU_care1 {T : List Nat} (h : NU T) {p x : Nat} (hp : p < 16) : NU (care1 p T x) := by
  have hr : NU (remA T (x % 100)) := List.Nodup.sublist (List.Sublist.map _ List.filter_sublist) h
  unfold care1 insL
  split
  · split
    · unfold NU
      rw [List.map_append, List.nodup_append]
      refine ⟨hr, by simp, fun a ha b hb e => ?_⟩
      obtain ⟨y, hy, rfl⟩ := List.mem_map.mp ha
      have h1 := (List.mem_filter.mp hy).2
      simp at hb h1
      omega
    · exact hr
  · exact hr
theorem NU_careP {p : Nat} (hp : p < 16) : ∀ (O : List Nat) {T : List Nat}, NU T → NU (careP O p T)
  | [], _, h => h
  | x :: t, _, h => NU_careP hp t (NU_care1 (x := x) h hp)
theorem filt1 {L T : List Nat} {n : Nat} (hT : NU T) (h3 : dif L T n 3 = 0) (h4 : dif L T n 4 = 0) (h5 : dif L T n 5 = 0) : L.filter (fun x => x / 16 == n) = T.filter (fun x => x / 16 == n) := by
  have cL : (L.filter (fun x => x / 16 == n)).length = cntN L n := (List.countP_eq_length_filter ..).symm
  have cT : (T.filter (fun x => x / 16 == n)).length = cntN T n := (List.countP_eq_length_filter ..).symm
  have c1 := hT.cnt n
  cases hh : hasN T n with
  | false =>
    unfold dif surp at h3
    rw [hh, if_pos rfl] at h3
    have h3 : cntN L n = 0 := h3
    have eT : cntN T n = 0 := by
      unfold cntN
      rw [List.countP_eq_zero]
      intro x hx hn
      rw [hasN_of hx (by simpa using hn)] at hh
      cases hh
    rw [List.length_eq_zero_iff.mp (cL.trans h3), List.length_eq_zero_iff.mp (cT.trans eT)]
  | true =>
    obtain ⟨x, hx, hn⟩ := List.any_eq_true.mp hh
    have hxF : x ∈ T.filter (fun x => x / 16 == n) := List.mem_filter.mpr ⟨hx, hn⟩
    have hn' : x / 16 = n := by simpa using hn
    unfold dif surp at h3
    unfold dif oldN at h4
    unfold dif misN at h5
    rw [hh, if_pos rfl, if_pos rfl] at h3
    rw [hh, if_neg (by decide), if_pos rfl] at h4
    rw [hh, if_neg (by decide), if_neg (by decide)] at h5
    have g5 : cntN L n ≠ 0 := fun e => by rw [if_pos ⟨rfl, e⟩] at h5; cases h5
    have g4 : x ∈ L := by
      refine Classical.byContradiction fun hnx => ?_
      rw [if_pos ⟨rfl, g5, fun y hy hyn => by rw [hT.unq y hy x hx (by omega)]; exact hnx⟩] at h4
      cases h4
    have hxL : x ∈ L.filter (fun x => x / 16 == n) := List.mem_filter.mpr ⟨g4, hn⟩
    have l1 : (L.filter (fun x => x / 16 == n)).length = 1 := by omega
    have l2 : (T.filter (fun x => x / 16 == n)).length = 1 := by
      have := List.length_pos_of_mem hxF
      omega
    obtain ⟨a, ea⟩ := List.length_eq_one_iff.mp l1
    obtain ⟨b, eb⟩ := List.length_eq_one_iff.mp l2
    rw [ea] at hxL ⊢
    rw [eb] at hxF ⊢
    rw [List.mem_singleton] at hxL hxF
    rw [← hxL, hxF]
theorem difU_0 {L T : List Nat} {k : Int} : ∀ {m : Nat}, difU L T k m = 0 → ∀ i, i < m → dif L T (i + 10) k = 0
  | 0, _, i, hi => absurd hi (Nat.not_lt_zero _)
  | m + 1, h, i, hi => by
    rw [difU_succ] at h
    rcases Nat.lt_or_ge i m with q | q
    · exact difU_0 (m := m) (by omega) i q
    · have : i = m := by omega
      subst this; omega
theorem wrg_0 {L T : List Nat} (hT : NU T) (h1 : ∀ x ∈ L, 160 ≤ x ∧ x < 1600) (h2 : ∀ x ∈ T, 160 ≤ x ∧ x < 1600) : wrg L T = 0 ↔ rt L T = true := by
  rw [rt_iff]
  constructor
  · intro h
    unfold wrg at h
    have g : ∀ n, L.filter (fun x => x / 16 == n) = T.filter (fun x => x / 16 == n) := by
      intro n
      by_cases q : 10 ≤ n ∧ n < 100
      · have d3 := difU_0 (show difU L T 3 90 = 0 by have : difs L T 3 = 0 := by omega
                                                     exact this) (n - 10) (by omega)
        have d4 := difU_0 (show difU L T 4 90 = 0 by have : difs L T 4 = 0 := by omega
                                                     exact this) (n - 10) (by omega)
        have d5 := difU_0 (show difU L T 5 90 = 0 by have : difs L T 5 = 0 := by omega
                                                     exact this) (n - 10) (by omega)
        rw [show n - 10 + 10 = n by omega] at d3 d4 d5
        exact filt1 hT d3 d4 d5
      · rw [List.filter_eq_nil_iff.mpr (fun y hy => by have := h1 y hy; simp; omega), List.filter_eq_nil_iff.mpr (fun y hy => by have := h2 y hy; simp; omega)]
    rw [List.perm_iff_count]
    intro a
    have e1 : List.count a (L.filter (fun x => x / 16 == a / 16)) = List.count a L := List.count_filter (by simp)
    have e2 : List.count a (T.filter (fun x => x / 16 == a / 16)) = List.count a T := List.count_filter (by simp)
    rw [← e1, ← e2, g]
  · intro h
    rw [wrg_perm h (List.Perm.refl T)]
    have key : ∀ n k, k = 3 ∨ k = 4 ∨ k = 5 → dif T T n k = 0 := by
      intro n k hk
      cases hh : hasN T n with
      | false =>
        have eT : cntN T n = 0 := by
          unfold cntN
          rw [List.countP_eq_zero]
          intro x hx hn
          rw [hasN_of hx (by simpa using hn)] at hh
          cases hh
        unfold dif surp oldN misN
        rw [hh, eT]
        simp
      | true =>
        obtain ⟨x, hx, hn⟩ := List.any_eq_true.mp hh
        have hn' : x / 16 = n := by simpa using hn
        have c1 := hT.cnt n
        have c2 : cntN T n ≠ 0 := by
          unfold cntN
          rw [Ne, List.countP_eq_zero]
          exact fun q => q x hx (by simpa using hn')
        obtain ⟨g1, g2, g3, g4⟩ := dif_s (L := T) k hT.unq hk hx hn' c2
        rcases hk with rfl | rfl | rfl
        · rw [g1 rfl]; omega
        · exact g3 rfl hx
        · exact g2 rfl
    have kU : ∀ k m, k = 3 ∨ k = 4 ∨ k = 5 → difU T T k m = 0 := by
      intro k m hk
      induction m with
      | zero => rfl
      | succ m ih => rw [difU_succ, ih, key _ _ hk]
    unfold wrg difs
    rw [kU _ _ (Or.inl rfl), kU _ _ (Or.inr (Or.inl rfl)), kU _ _ (Or.inr (Or.inr rfl))]
def rmX5_findIssues : Room := { frames := 2, cells := 0, slots := 0, locals := 44 }
set_option maxHeartbeats 4000000 in
set_option maxRecDepth 100000 in
theorem c_X5_findIssues (l : Launch) (D : va_G) (nH : Nat) (sk : Sk) (v : Mem) (m : Nat) (T : List Nat) (hM : Md D sk m) (hT : LR (v (m + 1)) 8 T) : CtV l D yX5_findIssues wsX5_findIssues rmX5_findIssues [.ref m] nH sk v (fun v' => (∀ n, n < 100 → v' (m + 10) n = (issF T n : Int)) ∧ ∀ a, a ≠ m + 10 → v' a = v a) := by
  refine ct_of (cc := cX5_findIssues) (maxL := 2) (ret := none) rfl rfl (Nat.le_of_ble_eq_true rfl) ?_
  intro p_ e_ s_ m_ args_ below_ meth_ c_ X hmn hsz
  have hinX5 : ∀ w ∈ wsX50, w ∈ wsX5_findIssues := by decide +kernel
  obtain ⟨m0, m1, m2, m3, m4, m5, m6, m7, m8, m9, m10⟩ := id hM
  obtain ⟨hl0, h60, hlk, hll⟩ := id hT
  refine j_iconst X dX5_findIssues_0 ?_
  refine j_istore_n X dX5_findIssues_1 rfl (Nat.le_of_ble_eq_true rfl) ?_
  refine j_loop (σ := Nat × Mem) (fun (y_ : Nat × Mem) => match y_ with | (k, u) => k ≤ 100 ∧ (∀ j, j < k → u (m + 10) j = 0) ∧ ∀ a, a ≠ m + 10 → u a = v a) (fun (y_ : Nat × Mem) => match y_ with | (k, u) => 100 - k) (fun (y_ : Nat × Mem) => match y_ with | (k, u) => (u, [some (.ref m), some (.int (I (k : Int)))])) ?_ (0, v) ⟨by omega, fun j hj => absurd hj (by omega), fun _ _ => rfl⟩
  intro y_ hx ih2
  obtain ⟨k, u⟩ := y_
  dsimp only at hx ih2 ⊢
  obtain ⟨hk, hu1, hu2⟩ := hx
  refine j_iload_n X dX5_findIssues_2 rfl ?_
  refine j_bipush X dX5_findIssues_3 (by decide) ?_
  refine j_icmp_ge (tgt := 21) X dX5_findIssues_5 (by omega) (by decide) (fun c5 => ?_) (fun c5 => ?_)
  · refine j_iconst X dX5_findIssues_21 ?_
    refine j_istore_n X dX5_findIssues_22 rfl (Nat.le_of_ble_eq_true rfl) ?_
    refine j_loop (σ := Nat × Mem) (fun (y_ : Nat × Mem) => match y_ with | (k, u) => k ≤ T.length ∧ (∀ n, n < 100 → u (m + 10) n = (issF (T.take k) n : Int)) ∧ ∀ a, a ≠ m + 10 → u a = v a) (fun (y_ : Nat × Mem) => match y_ with | (k, u) => T.length - k) (fun (y_ : Nat × Mem) => match y_ with | (k, u) => (u, [some (.ref m), some (.int (I (k : Int)))])) ?_ (0, u) ⟨by omega, fun n hn => by rw [hu1 n (by omega)]; simp [issF], hu2⟩
    intro y_ hx ih23
    obtain ⟨k, u⟩ := y_
    dsimp only at hx ih23 ⊢
    obtain ⟨hk, hv1, hv2⟩ := hx
    have hTu : LR (u (m + 1)) 8 T := by rw [hv2 (m + 1) (by omega)]; exact hT
    refine j_iload_n X dX5_findIssues_23 rfl ?_
    refine j_aload_n X dX5_findIssues_24 rfl ?_
    refine j_bipush X dX5_findIssues_25 (by decide) ?_
    refine j_iconst X dX5_findIssues_27 ?_
    refine j_callV (nn := 2) X dX5_findIssues_28 (c_X5_len l D nH sk u m 8 _ (T) hM (by omega) (by omega) hTu) gX5_findIssues_X5_part rfl ⟨rfl, rfl⟩ (by decide +kernel) ⟨Nat.le_of_ble_eq_true rfl, Nat.le_of_ble_eq_true rfl⟩ (by assumption) ⟨rfl, rfl⟩ rfl rfl (Nat.le_of_ble_eq_true rfl) ⟨Nat.zero_le _, Nat.zero_le _⟩ (kI (fun z28 v28 h28 => ?_))
    obtain ⟨rfl, rfl⟩ := h28
    refine j_icmp_ge (tgt := 61) X dX5_findIssues_31 (by omega) (by decide) (fun c31 => ?_) (fun c31 => ?_)
    · exact j_vret X dX5_findIssues_61 ⟨rfl, rfl, ⟨by have e : k = T.length := (by omega); rw [e, List.take_length] at hv1; exact hv1, hv2⟩⟩
    · refine j_aload_n X dX5_findIssues_34 rfl ?_
      refine j_getr X dX5_findIssues_35 (T := TX5) (N := 13) (C := RX5) hinX5 rfl (by assumption) 12 (by decide) (by decide +kernel) rfl ?_
      refine j_aload_n X dX5_findIssues_38 rfl ?_
      have hkT := hT.lt (show k < T.length by omega)
      refine j_bipush X dX5_findIssues_39 (by decide) ?_
      refine j_iload_n X dX5_findIssues_41 rfl ?_
      refine j_callV (nn := 2) X dX5_findIssues_42 (c_X5_numberOf l D nH sk u m 8 (k) _ _ (T) hM (by omega) (by omega) (by omega) hTu (by omega)) gX5_findIssues_X5_numberOf rfl ⟨rfl, rfl⟩ (by decide +kernel) ⟨Nat.le_of_ble_eq_true rfl, Nat.le_of_ble_eq_true rfl⟩ (by assumption) ⟨rfl, rfl⟩ rfl rfl (Nat.le_of_ble_eq_true rfl) ⟨Nat.zero_le _, Nat.zero_le _⟩ (kI (fun z42 v42 h42 => ?_))
      obtain ⟨rfl, rfl⟩ := h42
      refine j_aload_n X dX5_findIssues_45 rfl ?_
      refine j_bipush X dX5_findIssues_46 (by decide) ?_
      refine j_iload_n X dX5_findIssues_48 rfl ?_
      refine j_callV (nn := 2) X dX5_findIssues_49 (c_X5_issueOf l D nH sk u m 8 (k) _ _ (T) hM (by omega) (by omega) (by omega) hTu (by omega)) gX5_findIssues_X5_issueOf rfl ⟨rfl, rfl⟩ (by decide +kernel) ⟨Nat.le_of_ble_eq_true rfl, Nat.le_of_ble_eq_true rfl⟩ (by assumption) ⟨rfl, rfl⟩ rfl rfl (Nat.le_of_ble_eq_true rfl) ⟨Nat.zero_le _, Nat.zero_le _⟩ (kI (fun z49 v49 h49 => ?_))
      obtain ⟨rfl, rfl⟩ := h49
      refine j_iconst X dX5_findIssues_52 ?_
      refine j_iadd X dX5_findIssues_53 ?_
      refine j_iasN X dX5_findIssues_54 (by assumption) (T[k]'(by omega) / 16) (by omega) (by omega) (by decide) (fun u54 f54 g54 n54 => ?_)
      refine j_iinc X dX5_findIssues_55 rfl rfl (Nat.le_of_ble_eq_true rfl) ?_
      refine j_goto (tgt := 23) X dX5_findIssues_58 (by decide) ?_
      exact ih23 (k + 1, u54) (by (try dsimp only); exact ⟨by omega, fun n hn => by
  rw [issF_take (show k < T.length by omega)]
  by_cases q : n = T[k]'(by omega) / 16
  · rw [q, f54, if_pos rfl]; omega
  · rw [g54 n q, if_neg (fun z => q z.symm)]; exact hv1 n hn, fun a ha => by rw [n54 a ha]; exact hv2 a ha⟩) (by (try dsimp only); omega)
  · refine j_aload_n X dX5_findIssues_8 rfl ?_
    refine j_getr X dX5_findIssues_9 (T := TX5) (N := 13) (C := RX5) hinX5 rfl (by assumption) 12 (by decide) (by decide +kernel) rfl ?_
    refine j_iload_n X dX5_findIssues_12 rfl ?_
    refine j_iconst X dX5_findIssues_13 ?_
    refine j_iasN X dX5_findIssues_14 (by assumption) (k) (by omega) (by omega) (by decide) (fun u14 f14 g14 n14 => ?_)
    refine j_iinc X dX5_findIssues_15 rfl rfl (Nat.le_of_ble_eq_true rfl) ?_
    refine j_goto (tgt := 2) X dX5_findIssues_18 (by decide) ?_
    exact ih2 (k + 1, u14) (by (try dsimp only); exact ⟨by omega, fun j hj => by
  by_cases q : j = k
  · subst q; exact f14
  · rw [g14 j q]; exact hu1 j (by omega), fun a ha => by rw [n14 a ha]; exact hu2 a ha⟩) (by (try dsimp only); omega)
def rmX5_findLeaves : Room := { frames := 3, cells := 0, slots := 0, locals := 65 }
set_option maxHeartbeats 4000000 in
set_option maxRecDepth 100000 in
theorem c_X5_findLeaves (l : Launch) (D : va_G) (nH : Nat) (sk : Sk) (v : Mem) (m b : Nat) (bz : Int) (L T : List Nat) (hM : Md D sk m) (hbz : bz = (b : Int)) (hb : b ≤ 8) (hL : LR (v (m + 1)) b L) (hT : LR (v (m + 1)) 8 T) : CtV l D yX5_findLeaves wsX5_findLeaves rmX5_findLeaves [.ref m, .int (I bz)] nH sk v (fun v' => FL v' m L T ∧ frL v v' m) := by
  refine ct_of (cc := cX5_findLeaves) (maxL := 4) (ret := none) rfl rfl (Nat.le_of_ble_eq_true rfl) ?_
  intro p_ e_ s_ m_ args_ below_ meth_ c_ X hmn hsz
  have hinX5 : ∀ w ∈ wsX50, w ∈ wsX5_findLeaves := by decide +kernel
  obtain ⟨m0, m1, m2, m3, m4, m5, m6, m7, m8, m9, m10⟩ := id hM
  obtain ⟨hl0, h60, hlk, hll⟩ := id hL
  refine j_aload_n X dX5_findLeaves_0 rfl ?_
  refine j_callV (nn := 0) X dX5_findLeaves_1 (c_X5_findIssues l D nH sk v m T hM hT) gX5_findLeaves_X5_findIssues rfl ⟨rfl, rfl⟩ (by decide +kernel) ⟨Nat.le_of_ble_eq_true rfl, Nat.le_of_ble_eq_true rfl⟩ (by assumption) ⟨rfl, rfl⟩ rfl rfl (Nat.le_of_ble_eq_true rfl) ⟨Nat.zero_le _, Nat.zero_le _⟩ (kV (fun v1 h1 => ?_))
  obtain ⟨hI1, hF1⟩ := h1
  refine j_iconst X dX5_findLeaves_4 ?_
  refine j_istore_n X dX5_findLeaves_5 rfl (Nat.le_of_ble_eq_true rfl) ?_
  refine j_loop (σ := Nat × Mem) (fun (y_ : Nat × Mem) => match y_ with | (k, u) => k ≤ 100 ∧ (∀ j, j < k → u (m + 8) j = 0 ∧ u (m + 9) j = 0) ∧ ∀ a, a ≠ m + 8 → a ≠ m + 9 → u a = v1 a) (fun (y_ : Nat × Mem) => match y_ with | (k, u) => 100 - k) (fun (y_ : Nat × Mem) => match y_ with | (k, u) => (u, [some (.ref m), some (.int (I bz)), some (.int (I (k : Int))), none])) ?_ (0, v1) ⟨by omega, fun j hj => absurd hj (by omega), fun _ _ _ => rfl⟩
  intro y_ hx ih6
  obtain ⟨k, u⟩ := y_
  dsimp only at hx ih6 ⊢
  obtain ⟨hk, hu1, hu2⟩ := hx
  refine j_iload_n X dX5_findLeaves_6 rfl ?_
  refine j_bipush X dX5_findLeaves_7 (by decide) ?_
  refine j_icmp_ge (tgt := 32) X dX5_findLeaves_9 (by omega) (by decide) (fun c9 => ?_) (fun c9 => ?_)
  · refine j_iconst X dX5_findLeaves_32 ?_
    refine j_istore_n X dX5_findLeaves_33 rfl (Nat.le_of_ble_eq_true rfl) ?_
    refine j_loop (σ := Nat × Mem) (fun (y_ : Nat × Mem) => match y_ with | (k, u) => k ≤ L.length ∧ FL u m (L.take k) T ∧ frL v u m) (fun (y_ : Nat × Mem) => match y_ with | (k, u) => L.length - k) (fun (y_ : Nat × Mem) => match y_ with | (k, u) => (u, [some (.ref m), some (.int (I bz)), some (.int (I (k : Int))), none])) ?_ (0, u) ⟨by omega, fun n hn => ⟨(hu1 n (by omega)).1.trans (by simp [cntN]), (hu1 n (by omega)).2.trans (by simp [rgO]), by rw [hu2 _ (by omega) (by omega)]; exact hI1 n hn⟩, fun a ha => by rw [hu2 a (by omega) (by omega)]; exact hF1 a (by omega)⟩
    intro y_ hx ih34
    obtain ⟨k, u⟩ := y_
    dsimp only at hx ih34 ⊢
    obtain ⟨hk, hv1, hv2⟩ := hx
    have hLu : LR (u (m + 1)) b L := hL.kept (fun j _ _ => by rw [hv2 _ (by omega)])
    refine j_iload_n X dX5_findLeaves_34 rfl ?_
    refine j_aload_n X dX5_findLeaves_35 rfl ?_
    refine j_iload_n X dX5_findLeaves_36 rfl ?_
    refine j_iconst X dX5_findLeaves_37 ?_
    refine j_callV (nn := 2) X dX5_findLeaves_38 (c_X5_len l D nH sk u m b _ (L) hM (by omega) (by omega) hLu) gX5_findLeaves_X5_part rfl ⟨rfl, rfl⟩ (by decide +kernel) ⟨Nat.le_of_ble_eq_true rfl, Nat.le_of_ble_eq_true rfl⟩ (by assumption) ⟨rfl, rfl⟩ rfl rfl (Nat.le_of_ble_eq_true rfl) ⟨Nat.zero_le _, Nat.zero_le _⟩ (kI (fun z38 v38 h38 => ?_))
    obtain ⟨rfl, rfl⟩ := h38
    refine j_icmp_ge (tgt := 100) X dX5_findLeaves_41 (by omega) (by decide) (fun c41 => ?_) (fun c41 => ?_)
    · exact j_vret X dX5_findLeaves_100 ⟨rfl, rfl, ⟨by have e : k = L.length := (by omega); rw [e, List.take_length] at hv1; exact hv1, hv2⟩⟩
    · refine j_aload_n X dX5_findLeaves_44 rfl ?_
      refine j_iload_n X dX5_findLeaves_45 rfl ?_
      refine j_iload_n X dX5_findLeaves_46 rfl ?_
      refine j_callV (nn := 2) X dX5_findLeaves_47 (c_X5_numberOf l D nH sk u m b (k) _ _ (L) hM (by omega) (by omega) (by omega) hLu (by omega)) gX5_findLeaves_X5_numberOf rfl ⟨rfl, rfl⟩ (by decide +kernel) ⟨Nat.le_of_ble_eq_true rfl, Nat.le_of_ble_eq_true rfl⟩ (by assumption) ⟨rfl, rfl⟩ rfl rfl (Nat.le_of_ble_eq_true rfl) ⟨Nat.zero_le _, Nat.zero_le _⟩ (kI (fun z47 v47 h47 => ?_))
      obtain ⟨rfl, rfl⟩ := h47
      refine j_istore_n X dX5_findLeaves_50 rfl (Nat.le_of_ble_eq_true rfl) ?_
      have hkL := hL.lt (show k < L.length by omega)
      have hi0 := hv1 (L[k]'(by omega) / 16) (by omega)
      refine j_aload_n X dX5_findLeaves_51 rfl ?_
      refine j_getr X dX5_findLeaves_52 (T := TX5) (N := 13) (C := RX5) hinX5 rfl (by assumption) 10 (by decide) (by decide +kernel) rfl ?_
      refine j_iload_n X dX5_findLeaves_55 rfl ?_
      refine j_dup2 X dX5_findLeaves_56 rfl rfl ?_
      refine j_ialN X dX5_findLeaves_57 (by assumption) (L[k]'(by omega) / 16) (by omega) (by omega) (by decide) ?_
      refine j_iconst X dX5_findLeaves_58 ?_
      refine j_iadd X dX5_findLeaves_59 ?_
      refine j_iasN X dX5_findLeaves_60 (by assumption) (L[k]'(by omega) / 16) (by omega) (by omega) (by decide) (fun u60 f60 g60 n60 => ?_)
      refine j_aload_n X dX5_findLeaves_61 rfl ?_
      refine j_getr X dX5_findLeaves_62 (T := TX5) (N := 13) (C := RX5) hinX5 rfl (by assumption) 11 (by decide) (by decide +kernel) rfl ?_
      refine j_iload_n X dX5_findLeaves_65 rfl ?_
      refine j_aload_n X dX5_findLeaves_66 rfl ?_
      refine j_iload_n X dX5_findLeaves_67 rfl ?_
      refine j_iload_n X dX5_findLeaves_68 rfl ?_
      refine j_callV (nn := 2) X dX5_findLeaves_69 (c_X5_issueOf l D nH sk u60 m b (k) _ _ (L) hM (by omega) (by omega) (by omega) (hLu.kept (fun j _ _ => by rw [n60 _ (by omega)])) (by omega)) gX5_findLeaves_X5_issueOf rfl ⟨rfl, rfl⟩ (by decide +kernel) ⟨Nat.le_of_ble_eq_true rfl, Nat.le_of_ble_eq_true rfl⟩ (by assumption) ⟨rfl, rfl⟩ rfl rfl (Nat.le_of_ble_eq_true rfl) ⟨Nat.zero_le _, Nat.zero_le _⟩ (kI (fun z69 v69 h69 => ?_))
      obtain ⟨rfl, rfl⟩ := h69
      refine j_iconst X dX5_findLeaves_72 ?_
      refine j_iadd X dX5_findLeaves_73 ?_
      refine j_aload_n X dX5_findLeaves_74 rfl ?_
      refine j_getr X dX5_findLeaves_75 (T := TX5) (N := 13) (C := RX5) hinX5 rfl (by assumption) 12 (by decide) (by decide +kernel) rfl ?_
      refine j_iload_n X dX5_findLeaves_78 rfl ?_
      refine j_ialN X dX5_findLeaves_79 (by assumption) (L[k]'(by omega) / 16) (by omega) (by omega) (by decide) ?_
      rw [show u60 (m + 10) (L[k]'(by omega) / 16) = (issF T (L[k]'(by omega) / 16) : Int) by rw [n60 _ (by omega)]; exact hi0.2.2]
      have hil := issF_le T (L[k]'(by omega) / 16)
      refine j_icmp_ne (tgt := 87) X dX5_findLeaves_80 (by omega) (by decide) (fun c80 => ?_) (fun c80 => ?_)
      · refine j_aload_n X dX5_findLeaves_87 rfl ?_
        refine j_getr X dX5_findLeaves_88 (T := TX5) (N := 13) (C := RX5) hinX5 rfl (by assumption) 11 (by decide) (by decide +kernel) rfl ?_
        refine j_iload_n X dX5_findLeaves_91 rfl ?_
        refine j_ialN X dX5_findLeaves_92 (by assumption) (L[k]'(by omega) / 16) (by omega) (by omega) (by decide) ?_
        refine j_iasN X dX5_findLeaves_93 (by assumption) (L[k]'(by omega) / 16) (by omega) (by omega) (by decide) (fun u93 f93 g93 n93 => ?_)
        refine j_iinc X dX5_findLeaves_94 rfl rfl (Nat.le_of_ble_eq_true rfl) ?_
        refine j_goto (tgt := 34) X dX5_findLeaves_97 (by decide) ?_
        refine j_drop 3 ?_
        exact ih34 (k + 1, u93) (by (try dsimp only); exact ⟨by omega, fun n hn => by
  obtain ⟨a1, a2, a3⟩ := hv1 n hn
  rw [cntN_take (show k < L.length by omega), rgO_take (show k < L.length by omega)]
  refine ⟨?_, ?_, by rw [n93 _ (by omega), n60 _ (by omega)]; exact a3⟩
  · rw [n93 _ (by omega)]
    by_cases q : n = L[k]'(by omega) / 16
    · rw [q] at a1 ⊢; rw [f60, if_pos rfl, a1]; omega
    · rw [g60 n q, if_neg (fun z => q z.symm), a1]; omega
  · by_cases q : n = L[k]'(by omega) / 16
    · rw [q] at a2 ⊢
      rw [f93]
      first
      | (rw [if_pos (by omega)]; done)
      | (rw [if_pos (by omega)]; rfl)
      | (rw [if_neg (by omega), n60 _ (by omega)]; exact a2)
    · rw [g93 n q, n60 _ (by omega), if_neg (fun z => q z.1.symm)]; exact a2, hv2.trans (fun a ha => by rw [n93 a (by omega), n60 a (by omega)])⟩) (by (try dsimp only); omega)
      · refine j_iconst X dX5_findLeaves_83 ?_
        refine j_goto (tgt := 93) X dX5_findLeaves_84 (by decide) ?_
        refine j_iasN X dX5_findLeaves_93 (by assumption) (L[k]'(by omega) / 16) (by omega) (by omega) (by decide) (fun u93 f93 g93 n93 => ?_)
        refine j_iinc X dX5_findLeaves_94 rfl rfl (Nat.le_of_ble_eq_true rfl) ?_
        refine j_goto (tgt := 34) X dX5_findLeaves_97 (by decide) ?_
        refine j_drop 3 ?_
        exact ih34 (k + 1, u93) (by (try dsimp only); exact ⟨by omega, fun n hn => by
  obtain ⟨a1, a2, a3⟩ := hv1 n hn
  rw [cntN_take (show k < L.length by omega), rgO_take (show k < L.length by omega)]
  refine ⟨?_, ?_, by rw [n93 _ (by omega), n60 _ (by omega)]; exact a3⟩
  · rw [n93 _ (by omega)]
    by_cases q : n = L[k]'(by omega) / 16
    · rw [q] at a1 ⊢; rw [f60, if_pos rfl, a1]; omega
    · rw [g60 n q, if_neg (fun z => q z.symm), a1]; omega
  · by_cases q : n = L[k]'(by omega) / 16
    · rw [q] at a2 ⊢
      rw [f93]
      first
      | (rw [if_pos (by omega)]; done)
      | (rw [if_pos (by omega)]; rfl)
      | (rw [if_neg (by omega), n60 _ (by omega)]; exact a2)
    · rw [g93 n q, n60 _ (by omega), if_neg (fun z => q z.1.symm)]; exact a2, hv2.trans (fun a ha => by rw [n93 a (by omega), n60 a (by omega)])⟩) (by (try dsimp only); omega)
  · refine j_aload_n X dX5_findLeaves_12 rfl ?_
    refine j_getr X dX5_findLeaves_13 (T := TX5) (N := 13) (C := RX5) hinX5 rfl (by assumption) 10 (by decide) (by decide +kernel) rfl ?_
    refine j_iload_n X dX5_findLeaves_16 rfl ?_
    refine j_iconst X dX5_findLeaves_17 ?_
    refine j_iasN X dX5_findLeaves_18 (by assumption) (k) (by omega) (by omega) (by decide) (fun u18 f18 g18 n18 => ?_)
    refine j_aload_n X dX5_findLeaves_19 rfl ?_
    refine j_getr X dX5_findLeaves_20 (T := TX5) (N := 13) (C := RX5) hinX5 rfl (by assumption) 11 (by decide) (by decide +kernel) rfl ?_
    refine j_iload_n X dX5_findLeaves_23 rfl ?_
    refine j_iconst X dX5_findLeaves_24 ?_
    refine j_iasN X dX5_findLeaves_25 (by assumption) (k) (by omega) (by omega) (by decide) (fun u25 f25 g25 n25 => ?_)
    refine j_iinc X dX5_findLeaves_26 rfl rfl (Nat.le_of_ble_eq_true rfl) ?_
    refine j_goto (tgt := 6) X dX5_findLeaves_29 (by decide) ?_
    exact ih6 (k + 1, u25) (by (try dsimp only); exact ⟨by omega, fun j hj => by
  by_cases q : j = k
  · subst q; exact ⟨by rw [n25 _ (by omega)]; exact f18, f25⟩
  · rw [g25 j q, n25 _ (by omega), g18 j q, n18 _ (by omega)]; exact hu1 j (by omega), fun a h1 h2 => by rw [n25 a h2, n18 a h1]; exact hu2 a h1 h2⟩) (by (try dsimp only); omega)
def rmX5_surplusOf : Room := { frames := 0, cells := 0, slots := 0, locals := 0 }
set_option maxHeartbeats 4000000 in
set_option maxRecDepth 100000 in
theorem c_X5_surplusOf (l : Launch) (D : va_G) (nH : Nat) (sk : Sk) (v : Mem) (m n : Nat) (nz : Int) (L T : List Nat) (hM : Md D sk m) (hnz : nz = (n : Int)) (hn : n < 100) (hF : FL v m L T) (hl : L.length ≤ 60) : CtI l D yX5_surplusOf wsX5_surplusOf rmX5_surplusOf [.ref m, .int (I nz)] nH sk v (fun z v' => z = (dif L T n 3 : Int) ∧ v = v') := by
  refine ct_of (cc := cX5_surplusOf) (maxL := 2) (ret := (some .int)) rfl rfl (Nat.le_of_ble_eq_true rfl) ?_
  intro p_ e_ s_ m_ args_ below_ meth_ c_ X hmn hsz
  have hinX5 : ∀ w ∈ wsX50, w ∈ wsX5_surplusOf := by decide +kernel
  obtain ⟨m0, m1, m2, m3, m4, m5, m6, m7, m8, m9, m10⟩ := id hM
  obtain ⟨a1, a2, a3⟩ := hF n hn
  have b1 := cntN_le L n
  have b2 := rgO_le L T n
  have b3 := issF_le T n
  refine j_aload_n X dX5_surplusOf_0 rfl ?_
  refine j_getr X dX5_surplusOf_1 (T := TX5) (N := 13) (C := RX5) hinX5 rfl (by assumption) 12 (by decide) (by decide +kernel) rfl ?_
  refine j_iload_n X dX5_surplusOf_4 rfl ?_
  refine j_ialN X dX5_surplusOf_5 (by assumption) (n) (by omega) (by omega) (by decide) ?_
  rw [a3]
  refine j_if_eq (tgt := 18) X dX5_surplusOf_6 (by omega) (by decide) (fun c6 => ?_) (fun c6 => ?_)
  · refine j_aload_n X dX5_surplusOf_18 rfl ?_
    refine j_getr X dX5_surplusOf_19 (T := TX5) (N := 13) (C := RX5) hinX5 rfl (by assumption) 10 (by decide) (by decide +kernel) rfl ?_
    refine j_iload_n X dX5_surplusOf_22 rfl ?_
    refine j_ialN X dX5_surplusOf_23 (by assumption) (n) (by omega) (by omega) (by decide) ?_
    rw [a1]
    refine j_goto (tgt := 35) X dX5_surplusOf_24 (by decide) ?_
    have hd := surp_is (L := L) (T := T) (n := n)
    first
    | (have hret : (cntN L n : Int) = (dif L T n 3 : Int) ∧ v = v := ⟨by rw [hd, if_pos (by omega)], rfl⟩)
    | (have hret : (cntN L n : Int) - 1 = (dif L T n 3 : Int) ∧ v = v := ⟨by rw [hd, if_neg (by omega)]; omega, rfl⟩)
    exact j_iret X dX5_surplusOf_35 ⟨_, rfl, rfl, hret⟩
  · refine j_aload_n X dX5_surplusOf_9 rfl ?_
    refine j_getr X dX5_surplusOf_10 (T := TX5) (N := 13) (C := RX5) hinX5 rfl (by assumption) 10 (by decide) (by decide +kernel) rfl ?_
    refine j_iload_n X dX5_surplusOf_13 rfl ?_
    refine j_ialN X dX5_surplusOf_14 (by assumption) (n) (by omega) (by omega) (by decide) ?_
    rw [a1]
    refine j_if_ne (tgt := 27) X dX5_surplusOf_15 (by omega) (by decide) (fun c15 => ?_) (fun c15 => ?_)
    · refine j_aload_n X dX5_surplusOf_27 rfl ?_
      refine j_getr X dX5_surplusOf_28 (T := TX5) (N := 13) (C := RX5) hinX5 rfl (by assumption) 10 (by decide) (by decide +kernel) rfl ?_
      refine j_iload_n X dX5_surplusOf_31 rfl ?_
      refine j_ialN X dX5_surplusOf_32 (by assumption) (n) (by omega) (by omega) (by decide) ?_
      rw [a1]
      refine j_iconst X dX5_surplusOf_33 ?_
      refine j_isub X dX5_surplusOf_34 ?_
      have hd := surp_is (L := L) (T := T) (n := n)
      first
      | (have hret : (cntN L n : Int) = (dif L T n 3 : Int) ∧ v = v := ⟨by rw [hd, if_pos (by omega)], rfl⟩)
      | (have hret : (cntN L n : Int) - 1 = (dif L T n 3 : Int) ∧ v = v := ⟨by rw [hd, if_neg (by omega)]; omega, rfl⟩)
      exact j_iret X dX5_surplusOf_35 ⟨_, rfl, rfl, hret⟩
    · refine j_aload_n X dX5_surplusOf_18 rfl ?_
      refine j_getr X dX5_surplusOf_19 (T := TX5) (N := 13) (C := RX5) hinX5 rfl (by assumption) 10 (by decide) (by decide +kernel) rfl ?_
      refine j_iload_n X dX5_surplusOf_22 rfl ?_
      refine j_ialN X dX5_surplusOf_23 (by assumption) (n) (by omega) (by omega) (by decide) ?_
      rw [a1]
      refine j_goto (tgt := 35) X dX5_surplusOf_24 (by decide) ?_
      have hd := surp_is (L := L) (T := T) (n := n)
      first
      | (have hret : (cntN L n : Int) = (dif L T n 3 : Int) ∧ v = v := ⟨by rw [hd, if_pos (by omega)], rfl⟩)
      | (have hret : (cntN L n : Int) - 1 = (dif L T n 3 : Int) ∧ v = v := ⟨by rw [hd, if_neg (by omega)]; omega, rfl⟩)
      exact j_iret X dX5_surplusOf_35 ⟨_, rfl, rfl, hret⟩
def rmX5_oldOf : Room := { frames := 0, cells := 0, slots := 0, locals := 0 }
set_option maxHeartbeats 4000000 in
set_option maxRecDepth 100000 in
theorem c_X5_oldOf (l : Launch) (D : va_G) (nH : Nat) (sk : Sk) (v : Mem) (m n : Nat) (nz : Int) (L T : List Nat) (hM : Md D sk m) (hnz : nz = (n : Int)) (hn : n < 100) (hF : FL v m L T) (hl : L.length ≤ 60) (hu : unq T) : CtI l D yX5_oldOf wsX5_oldOf rmX5_oldOf [.ref m, .int (I nz)] nH sk v (fun z v' => z = (dif L T n 4 : Int) ∧ v = v') := by
  refine ct_of (cc := cX5_oldOf) (maxL := 2) (ret := (some .int)) rfl rfl (Nat.le_of_ble_eq_true rfl) ?_
  intro p_ e_ s_ m_ args_ below_ meth_ c_ X hmn hsz
  have hinX5 : ∀ w ∈ wsX50, w ∈ wsX5_oldOf := by decide +kernel
  obtain ⟨m0, m1, m2, m3, m4, m5, m6, m7, m8, m9, m10⟩ := id hM
  obtain ⟨a1, a2, a3⟩ := hF n hn
  have b1 := cntN_le L n
  have b2 := rgO_le L T n
  have b3 := issF_le T n
  refine j_aload_n X dX5_oldOf_0 rfl ?_
  refine j_getr X dX5_oldOf_1 (T := TX5) (N := 13) (C := RX5) hinX5 rfl (by assumption) 12 (by decide) (by decide +kernel) rfl ?_
  refine j_iload_n X dX5_oldOf_4 rfl ?_
  refine j_ialN X dX5_oldOf_5 (by assumption) (n) (by omega) (by omega) (by decide) ?_
  rw [a3]
  refine j_if_le (tgt := 31) X dX5_oldOf_6 (by omega) (by decide) (fun c6 => ?_) (fun c6 => ?_)
  · refine j_iconst X dX5_oldOf_31 ?_
    have hd := old_is (L := L) hu (n := n)
    first
    | (have hret : (1 : Int) = (dif L T n 4 : Int) ∧ v = v := ⟨by rw [hd, if_pos (by omega)]; rfl, rfl⟩)
    | (have hret : (0 : Int) = (dif L T n 4 : Int) ∧ v = v := ⟨by rw [hd, if_neg (by omega)]; rfl, rfl⟩)
    exact j_iret X dX5_oldOf_32 ⟨_, rfl, rfl, hret⟩
  · refine j_aload_n X dX5_oldOf_9 rfl ?_
    refine j_getr X dX5_oldOf_10 (T := TX5) (N := 13) (C := RX5) hinX5 rfl (by assumption) 10 (by decide) (by decide +kernel) rfl ?_
    refine j_iload_n X dX5_oldOf_13 rfl ?_
    refine j_ialN X dX5_oldOf_14 (by assumption) (n) (by omega) (by omega) (by decide) ?_
    rw [a1]
    refine j_if_le (tgt := 31) X dX5_oldOf_15 (by omega) (by decide) (fun c15 => ?_) (fun c15 => ?_)
    · refine j_iconst X dX5_oldOf_31 ?_
      have hd := old_is (L := L) hu (n := n)
      first
      | (have hret : (1 : Int) = (dif L T n 4 : Int) ∧ v = v := ⟨by rw [hd, if_pos (by omega)]; rfl, rfl⟩)
      | (have hret : (0 : Int) = (dif L T n 4 : Int) ∧ v = v := ⟨by rw [hd, if_neg (by omega)]; rfl, rfl⟩)
      exact j_iret X dX5_oldOf_32 ⟨_, rfl, rfl, hret⟩
    · refine j_aload_n X dX5_oldOf_18 rfl ?_
      refine j_getr X dX5_oldOf_19 (T := TX5) (N := 13) (C := RX5) hinX5 rfl (by assumption) 11 (by decide) (by decide +kernel) rfl ?_
      refine j_iload_n X dX5_oldOf_22 rfl ?_
      refine j_ialN X dX5_oldOf_23 (by assumption) (n) (by omega) (by omega) (by decide) ?_
      rw [a2]
      refine j_if_ne (tgt := 31) X dX5_oldOf_24 (by omega) (by decide) (fun c24 => ?_) (fun c24 => ?_)
      · refine j_iconst X dX5_oldOf_31 ?_
        have hd := old_is (L := L) hu (n := n)
        first
        | (have hret : (1 : Int) = (dif L T n 4 : Int) ∧ v = v := ⟨by rw [hd, if_pos (by omega)]; rfl, rfl⟩)
        | (have hret : (0 : Int) = (dif L T n 4 : Int) ∧ v = v := ⟨by rw [hd, if_neg (by omega)]; rfl, rfl⟩)
        exact j_iret X dX5_oldOf_32 ⟨_, rfl, rfl, hret⟩
      · refine j_iconst X dX5_oldOf_27 ?_
        refine j_goto (tgt := 32) X dX5_oldOf_28 (by decide) ?_
        have hd := old_is (L := L) hu (n := n)
        first
        | (have hret : (1 : Int) = (dif L T n 4 : Int) ∧ v = v := ⟨by rw [hd, if_pos (by omega)]; rfl, rfl⟩)
        | (have hret : (0 : Int) = (dif L T n 4 : Int) ∧ v = v := ⟨by rw [hd, if_neg (by omega)]; rfl, rfl⟩)
        exact j_iret X dX5_oldOf_32 ⟨_, rfl, rfl, hret⟩
def rmX5_missingOf : Room := { frames := 0, cells := 0, slots := 0, locals := 0 }
set_option maxHeartbeats 4000000 in
set_option maxRecDepth 100000 in
theorem c_X5_missingOf (l : Launch) (D : va_G) (nH : Nat) (sk : Sk) (v : Mem) (m n : Nat) (nz : Int) (L T : List Nat) (hM : Md D sk m) (hnz : nz = (n : Int)) (hn : n < 100) (hF : FL v m L T) (hl : L.length ≤ 60) : CtI l D yX5_missingOf wsX5_missingOf rmX5_missingOf [.ref m, .int (I nz)] nH sk v (fun z v' => z = (dif L T n 5 : Int) ∧ v = v') := by
  refine ct_of (cc := cX5_missingOf) (maxL := 2) (ret := (some .int)) rfl rfl (Nat.le_of_ble_eq_true rfl) ?_
  intro p_ e_ s_ m_ args_ below_ meth_ c_ X hmn hsz
  have hinX5 : ∀ w ∈ wsX50, w ∈ wsX5_missingOf := by decide +kernel
  obtain ⟨m0, m1, m2, m3, m4, m5, m6, m7, m8, m9, m10⟩ := id hM
  obtain ⟨a1, a2, a3⟩ := hF n hn
  have b1 := cntN_le L n
  have b2 := rgO_le L T n
  have b3 := issF_le T n
  refine j_aload_n X dX5_missingOf_0 rfl ?_
  refine j_getr X dX5_missingOf_1 (T := TX5) (N := 13) (C := RX5) hinX5 rfl (by assumption) 12 (by decide) (by decide +kernel) rfl ?_
  refine j_iload_n X dX5_missingOf_4 rfl ?_
  refine j_ialN X dX5_missingOf_5 (by assumption) (n) (by omega) (by omega) (by decide) ?_
  rw [a3]
  refine j_if_le (tgt := 22) X dX5_missingOf_6 (by omega) (by decide) (fun c6 => ?_) (fun c6 => ?_)
  · refine j_iconst X dX5_missingOf_22 ?_
    have hd := mis_is (L := L) (T := T) (n := n)
    first
    | (have hret : (1 : Int) = (dif L T n 5 : Int) ∧ v = v := ⟨by rw [hd, if_pos (by omega)]; rfl, rfl⟩)
    | (have hret : (0 : Int) = (dif L T n 5 : Int) ∧ v = v := ⟨by rw [hd, if_neg (by omega)]; rfl, rfl⟩)
    exact j_iret X dX5_missingOf_23 ⟨_, rfl, rfl, hret⟩
  · refine j_aload_n X dX5_missingOf_9 rfl ?_
    refine j_getr X dX5_missingOf_10 (T := TX5) (N := 13) (C := RX5) hinX5 rfl (by assumption) 10 (by decide) (by decide +kernel) rfl ?_
    refine j_iload_n X dX5_missingOf_13 rfl ?_
    refine j_ialN X dX5_missingOf_14 (by assumption) (n) (by omega) (by omega) (by decide) ?_
    rw [a1]
    refine j_if_ne (tgt := 22) X dX5_missingOf_15 (by omega) (by decide) (fun c15 => ?_) (fun c15 => ?_)
    · refine j_iconst X dX5_missingOf_22 ?_
      have hd := mis_is (L := L) (T := T) (n := n)
      first
      | (have hret : (1 : Int) = (dif L T n 5 : Int) ∧ v = v := ⟨by rw [hd, if_pos (by omega)]; rfl, rfl⟩)
      | (have hret : (0 : Int) = (dif L T n 5 : Int) ∧ v = v := ⟨by rw [hd, if_neg (by omega)]; rfl, rfl⟩)
      exact j_iret X dX5_missingOf_23 ⟨_, rfl, rfl, hret⟩
    · refine j_iconst X dX5_missingOf_18 ?_
      refine j_goto (tgt := 23) X dX5_missingOf_19 (by decide) ?_
      have hd := mis_is (L := L) (T := T) (n := n)
      first
      | (have hret : (1 : Int) = (dif L T n 5 : Int) ∧ v = v := ⟨by rw [hd, if_pos (by omega)]; rfl, rfl⟩)
      | (have hret : (0 : Int) = (dif L T n 5 : Int) ∧ v = v := ⟨by rw [hd, if_neg (by omega)]; rfl, rfl⟩)
      exact j_iret X dX5_missingOf_23 ⟨_, rfl, rfl, hret⟩
def rmX5_wrong : Room := { frames := 4, cells := 0, slots := 0, locals := 88 }
set_option maxHeartbeats 4000000 in
set_option maxRecDepth 100000 in
theorem c_X5_wrong (l : Launch) (D : va_G) (nH : Nat) (sk : Sk) (v : Mem) (m b : Nat) (bz k : Int) (L T : List Nat) (hM : Md D sk m) (hbz : bz = (b : Int)) (hb : b ≤ 8) (hL : LR (v (m + 1)) b L) (hT : LR (v (m + 1)) 8 T) (hu : unq T) (hk : 0 ≤ k ∧ k ≤ 3) : CtI l D yX5_wrong wsX5_wrong rmX5_wrong [.ref m, .int (I bz), .int (I k)] nH sk v (fun z v' => (k = 0 → z = (difs L T 3 : Int)) ∧ (k = 1 → z = (difs L T 4 : Int)) ∧ (k = 2 → z = (difs L T 5 : Int)) ∧ (k = 3 → z = (wrg L T : Int)) ∧ frL v v' m) := by
  refine ct_of (cc := cX5_wrong) (maxL := 7) (ret := (some .int)) rfl rfl (Nat.le_of_ble_eq_true rfl) ?_
  intro p_ e_ s_ m_ args_ below_ meth_ c_ X hmn hsz
  obtain ⟨m0, m1, m2, m3, m4, m5, m6, m7, m8, m9, m10⟩ := id hM
  obtain ⟨hl0, h60, hlk, hll⟩ := id hL
  refine j_aload_n X dX5_wrong_0 rfl ?_
  refine j_iload_n X dX5_wrong_1 rfl ?_
  refine j_callV (nn := 1) X dX5_wrong_2 (c_X5_findLeaves l D nH sk v m b _ L T hM (by omega) hb hL hT) gX5_wrong_X5_findLeaves rfl ⟨rfl, rfl⟩ (by decide +kernel) ⟨Nat.le_of_ble_eq_true rfl, Nat.le_of_ble_eq_true rfl⟩ (by assumption) ⟨rfl, rfl⟩ rfl rfl (Nat.le_of_ble_eq_true rfl) ⟨Nat.zero_le _, Nat.zero_le _⟩ (kV (fun v1 h1 => ?_))
  obtain ⟨hF1, hf1⟩ := h1
  refine j_iconst X dX5_wrong_5 ?_
  refine j_istore_n X dX5_wrong_6 rfl (Nat.le_of_ble_eq_true rfl) ?_
  refine j_iconst X dX5_wrong_7 ?_
  refine j_istore X dX5_wrong_8 rfl (Nat.le_of_ble_eq_true rfl) ?_
  refine j_iconst X dX5_wrong_10 ?_
  refine j_istore X dX5_wrong_11 rfl (Nat.le_of_ble_eq_true rfl) ?_
  refine j_bipush X dX5_wrong_13 (by decide) ?_
  refine j_istore X dX5_wrong_15 rfl (Nat.le_of_ble_eq_true rfl) ?_
  refine j_loop (σ := Nat) (fun (i : Nat) => 10 ≤ i ∧ i ≤ 100) (fun (i : Nat) => 100 - i) (fun (i : Nat) => (v1, [some (.ref m), some (.int (I bz)), some (.int (I k)), some (.int (I (difU L T 3 (i - 10) : Int))), some (.int (I (difU L T 4 (i - 10) : Int))), some (.int (I (difU L T 5 (i - 10) : Int))), some (.int (I (i : Int)))])) ?_ 10 (by omega)
  intro i hx ih17
  dsimp only at hx ih17 ⊢
  obtain hi := hx
  refine j_iload X dX5_wrong_17 rfl ?_
  refine j_bipush X dX5_wrong_19 (by decide) ?_
  refine j_icmp_gt (tgt := 61) X dX5_wrong_21 (by omega) (by decide) (fun c21 => ?_) (fun c21 => ?_)
  · have hi100 : i = 100 := by omega
    have hd3 : difU L T 3 (i - 10) = difs L T 3 := by rw [hi100]; rfl
    have hd4 : difU L T 4 (i - 10) = difs L T 4 := by rw [hi100]; rfl
    have hd5 : difU L T 5 (i - 10) = difs L T 5 := by rw [hi100]; rfl
    rw [hd3, hd4, hd5]
    have hdw : wrg L T = difs L T 3 + difs L T 4 + difs L T 5 := rfl
    generalize difs L T 3 = d3 at hdw ⊢
    generalize difs L T 4 = d4 at hdw ⊢
    generalize difs L T 5 = d5 at hdw ⊢
    generalize wrg L T = dw at hdw ⊢
    refine j_iload_n X dX5_wrong_61 rfl ?_
    refine j_if_ne (tgt := 69) X dX5_wrong_62 (by omega) (by decide) (fun c62 => ?_) (fun c62 => ?_)
    · refine j_iload_n X dX5_wrong_69 rfl ?_
      refine j_iconst X dX5_wrong_70 ?_
      refine j_icmp_ne (tgt := 79) X dX5_wrong_71 (by omega) (by decide) (fun c71 => ?_) (fun c71 => ?_)
      · refine j_iload_n X dX5_wrong_79 rfl ?_
        refine j_iconst X dX5_wrong_80 ?_
        refine j_icmp_ne (tgt := 89) X dX5_wrong_81 (by omega) (by decide) (fun c81 => ?_) (fun c81 => ?_)
        · refine j_iload_n X dX5_wrong_89 rfl ?_
          refine j_iload X dX5_wrong_90 rfl ?_
          refine j_iadd X dX5_wrong_92 ?_
          refine j_iload X dX5_wrong_93 rfl ?_
          refine j_iadd X dX5_wrong_95 ?_
          exact j_iret X dX5_wrong_96 ⟨_, rfl, rfl, ⟨fun h => (by omega), fun h => (by omega), fun h => (by omega), fun h => (by omega), hf1⟩⟩
        · refine j_iload X dX5_wrong_84 rfl ?_
          refine j_goto (tgt := 96) X dX5_wrong_86 (by decide) ?_
          exact j_iret X dX5_wrong_96 ⟨_, rfl, rfl, ⟨fun h => (by omega), fun h => (by omega), fun h => (by omega), fun h => (by omega), hf1⟩⟩
      · refine j_iload X dX5_wrong_74 rfl ?_
        refine j_goto (tgt := 96) X dX5_wrong_76 (by decide) ?_
        exact j_iret X dX5_wrong_96 ⟨_, rfl, rfl, ⟨fun h => (by omega), fun h => (by omega), fun h => (by omega), fun h => (by omega), hf1⟩⟩
    · refine j_iload_n X dX5_wrong_65 rfl ?_
      refine j_goto (tgt := 96) X dX5_wrong_66 (by decide) ?_
      exact j_iret X dX5_wrong_96 ⟨_, rfl, rfl, ⟨fun h => (by omega), fun h => (by omega), fun h => (by omega), fun h => (by omega), hf1⟩⟩
  · refine j_iload_n X dX5_wrong_24 rfl ?_
    refine j_aload_n X dX5_wrong_25 rfl ?_
    refine j_iload X dX5_wrong_26 rfl ?_
    refine j_callV (nn := 1) X dX5_wrong_28 (c_X5_surplusOf l D nH sk v1 m i _ L T hM (by omega) (by omega) hF1 h60) gX5_wrong_X5_surplusOf rfl ⟨rfl, rfl⟩ (by decide +kernel) ⟨Nat.le_of_ble_eq_true rfl, Nat.le_of_ble_eq_true rfl⟩ (by assumption) ⟨rfl, rfl⟩ rfl rfl (Nat.le_of_ble_eq_true rfl) ⟨Nat.zero_le _, Nat.zero_le _⟩ (kI (fun z28 v28 h28 => ?_))
    obtain ⟨rfl, rfl⟩ := h28
    refine j_iadd X dX5_wrong_31 ?_
    refine j_istore_n X dX5_wrong_32 rfl (Nat.le_of_ble_eq_true rfl) ?_
    refine j_iload X dX5_wrong_33 rfl ?_
    refine j_aload_n X dX5_wrong_35 rfl ?_
    refine j_iload X dX5_wrong_36 rfl ?_
    refine j_callV (nn := 1) X dX5_wrong_38 (c_X5_oldOf l D nH sk v1 m i _ L T hM (by omega) (by omega) hF1 h60 hu) gX5_wrong_X5_oldOf rfl ⟨rfl, rfl⟩ (by decide +kernel) ⟨Nat.le_of_ble_eq_true rfl, Nat.le_of_ble_eq_true rfl⟩ (by assumption) ⟨rfl, rfl⟩ rfl rfl (Nat.le_of_ble_eq_true rfl) ⟨Nat.zero_le _, Nat.zero_le _⟩ (kI (fun z38 v38 h38 => ?_))
    obtain ⟨rfl, rfl⟩ := h38
    refine j_iadd X dX5_wrong_41 ?_
    refine j_istore X dX5_wrong_42 rfl (Nat.le_of_ble_eq_true rfl) ?_
    refine j_iload X dX5_wrong_44 rfl ?_
    refine j_aload_n X dX5_wrong_46 rfl ?_
    refine j_iload X dX5_wrong_47 rfl ?_
    refine j_callV (nn := 1) X dX5_wrong_49 (c_X5_missingOf l D nH sk v1 m i _ L T hM (by omega) (by omega) hF1 h60) gX5_wrong_X5_missingOf rfl ⟨rfl, rfl⟩ (by decide +kernel) ⟨Nat.le_of_ble_eq_true rfl, Nat.le_of_ble_eq_true rfl⟩ (by assumption) ⟨rfl, rfl⟩ rfl rfl (Nat.le_of_ble_eq_true rfl) ⟨Nat.zero_le _, Nat.zero_le _⟩ (kI (fun z49 v49 h49 => ?_))
    obtain ⟨rfl, rfl⟩ := h49
    refine j_iadd X dX5_wrong_52 ?_
    refine j_istore X dX5_wrong_53 rfl (Nat.le_of_ble_eq_true rfl) ?_
    refine j_iinc X dX5_wrong_55 rfl rfl (Nat.le_of_ble_eq_true rfl) ?_
    refine j_goto (tgt := 17) X dX5_wrong_58 (by decide) ?_
    have e3 := difU_succ L T 3 (i - 10)
    have e4 := difU_succ L T 4 (i - 10)
    have e5 := difU_succ L T 5 (i - 10)
    rw [show i - 10 + 1 = i + 1 - 10 by omega, show i - 10 + 10 = i by omega] at e3 e4 e5
    rw [show (difU L T 3 (i - 10) : Int) + (dif L T i 3 : Int) = (difU L T 3 (i + 1 - 10) : Int) by omega, show (difU L T 4 (i - 10) : Int) + (dif L T i 4 : Int) = (difU L T 4 (i + 1 - 10) : Int) by omega, show (difU L T 5 (i - 10) : Int) + (dif L T i 5 : Int) = (difU L T 5 (i + 1 - 10) : Int) by omega]
    exact ih17 (i + 1) (by (try dsimp only); exact (by omega)) (by (try dsimp only); omega)
def rmX5_isRight : Room := { frames := 5, cells := 0, slots := 0, locals := 114 }
set_option maxHeartbeats 4000000 in
set_option maxRecDepth 100000 in
theorem c_X5_isRight (l : Launch) (D : va_G) (nH : Nat) (sk : Sk) (v : Mem) (m b : Nat) (bz : Int) (L T : List Nat) (hM : Md D sk m) (hbz : bz = (b : Int)) (hb : b ≤ 8) (hL : LR (v (m + 1)) b L) (hT : LR (v (m + 1)) 8 T) (hu : NU T) : CtI l D yX5_isRight wsX5_isRight rmX5_isRight [.ref m, .int (I bz)] nH sk v (fun z v' => (z = 0 ∨ z = 1) ∧ (z = 1 ↔ rt L T = true) ∧ frL v v' m) := by
  refine ct_of (cc := cX5_isRight) (maxL := 2) (ret := (some .boolean)) rfl rfl (Nat.le_of_ble_eq_true rfl) ?_
  intro p_ e_ s_ m_ args_ below_ meth_ c_ X hmn hsz
  obtain ⟨m0, m1, m2, m3, m4, m5, m6, m7, m8, m9, m10⟩ := id hM
  have h60 := hL.2.1
  have hw0 := wrg_0 hu hL.2.2.2 hT.2.2.2
  have hb3 := difs_le h60 T 3
  have hb4 := difs_le h60 T 4
  have hb5 := difs_le h60 T 5
  have hbw : wrg L T ≤ 20000 := by unfold wrg; omega
  refine j_aload_n X dX5_isRight_0 rfl ?_
  refine j_iload_n X dX5_isRight_1 rfl ?_
  refine j_iconst X dX5_isRight_2 ?_
  refine j_callV (nn := 2) X dX5_isRight_3 (c_X5_wrong l D nH sk v m b _ 3 L T hM (by omega) hb hL hT hu.unq (by omega)) gX5_isRight_X5_wrong rfl ⟨rfl, rfl⟩ (by decide +kernel) ⟨Nat.le_of_ble_eq_true rfl, Nat.le_of_ble_eq_true rfl⟩ (by assumption) ⟨rfl, rfl⟩ rfl rfl (Nat.le_of_ble_eq_true rfl) ⟨Nat.zero_le _, Nat.zero_le _⟩ (kI (fun z3 v3 h3 => ?_))
  obtain ⟨-, -, -, hz3, hf3⟩ := h3
  have hz3 := hz3 rfl
  subst hz3
  refine j_if_ne (tgt := 13) X dX5_isRight_6 (by omega) (by decide) (fun c6 => ?_) (fun c6 => ?_)
  · refine j_iconst X dX5_isRight_13 ?_
    first
    | (have hret : ((1 : Int) = 0 ∨ (1 : Int) = 1) ∧ ((1 : Int) = 1 ↔ rt L T = true) ∧ frL v v3 m := ⟨Or.inr rfl, ⟨fun _ => hw0.mp (by omega), fun _ => rfl⟩, hf3⟩)
    | (have hret : ((0 : Int) = 0 ∨ (0 : Int) = 1) ∧ ((0 : Int) = 1 ↔ rt L T = true) ∧ frL v v3 m := ⟨Or.inl rfl, ⟨fun h => absurd h (by omega), fun h => absurd (hw0.mpr h) (by omega)⟩, hf3⟩)
    exact j_zret X dX5_isRight_14 (by omega) ⟨_, rfl, rfl, hret⟩
  · refine j_iconst X dX5_isRight_9 ?_
    refine j_goto (tgt := 14) X dX5_isRight_10 (by decide) ?_
    first
    | (have hret : ((1 : Int) = 0 ∨ (1 : Int) = 1) ∧ ((1 : Int) = 1 ↔ rt L T = true) ∧ frL v v3 m := ⟨Or.inr rfl, ⟨fun _ => hw0.mp (by omega), fun _ => rfl⟩, hf3⟩)
    | (have hret : ((0 : Int) = 0 ∨ (0 : Int) = 1) ∧ ((0 : Int) = 1 ↔ rt L T = true) ∧ frL v v3 m := ⟨Or.inl rfl, ⟨fun h => absurd h (by omega), fun h => absurd (hw0.mpr h) (by omega)⟩, hf3⟩)
    exact j_zret X dX5_isRight_14 (by omega) ⟨_, rfl, rfl, hret⟩
