/-! ===== each number once; what is right ===== -/
def NU (T : List Nat) : Prop := (T.map (fun x => x / 16)).Nodup
theorem NU.unq {T : List Nat} (h : NU T) : unq T := by
  intro x hx y hy e
  unfold NU at h
  rw [List.nodup_iff_pairwise_ne, List.pairwise_map] at h
  rcases Nat.lt_trichotomy x y with q | q | q
  · obtain ⟨i, hi, rfl⟩ := List.getElem_of_mem hx
    obtain ⟨j, hj, rfl⟩ := List.getElem_of_mem hy
    rcases Nat.lt_trichotomy i j with z | z | z
    · exact absurd e (List.pairwise_iff_getElem.mp h i j hi hj z)
    · subst z; rfl
    · exact absurd e.symm (List.pairwise_iff_getElem.mp h j i hj hi z)
  · exact q
  · obtain ⟨i, hi, rfl⟩ := List.getElem_of_mem hx
    obtain ⟨j, hj, rfl⟩ := List.getElem_of_mem hy
    rcases Nat.lt_trichotomy i j with z | z | z
    · exact absurd e (List.pairwise_iff_getElem.mp h i j hi hj z)
    · subst z; rfl
    · exact absurd e.symm (List.pairwise_iff_getElem.mp h j i hj hi z)
theorem NU.cnt {T : List Nat} (h : NU T) (n : Nat) : cntN T n ≤ 1 := by
  unfold NU at h
  have h2 := List.nodup_iff_count.mp h n
  unfold cntN
  rw [List.count, List.countP_map] at h2
  exact h2
theorem NU.nil : NU [] := List.nodup_nil
theorem NU_care1 {T : List Nat} (h : NU T) {p x : Nat} (hp : p < 16) : NU (care1 p T x) := by
  have hr : NU (remA T (x % 100)) := List.Nodup.sublist (List.Sublist.map _ List.filter_sublist) h
  unfold care1 insL
  split
  · split
    · unfold NU
      rw [List.map_append, List.nodup_append]
      refine ⟨hr, by simp, fun a ha b hb e => ?_⟩
      obtain ⟨y, hy, rfl⟩ := List.mem_map.mp ha
      have h1 := (List.mem_filter.mp hy).2
      simp at hb h1
      omega
    · exact hr
  · exact hr
theorem NU_careP {p : Nat} (hp : p < 16) : ∀ (O : List Nat) {T : List Nat}, NU T → NU (careP O p T)
  | [], _, h => h
  | x :: t, _, h => NU_careP hp t (NU_care1 (x := x) h hp)
theorem filt1 {L T : List Nat} {n : Nat} (hT : NU T) (h3 : dif L T n 3 = 0) (h4 : dif L T n 4 = 0) (h5 : dif L T n 5 = 0) : L.filter (fun x => x / 16 == n) = T.filter (fun x => x / 16 == n) := by
  have cL : (L.filter (fun x => x / 16 == n)).length = cntN L n := (List.countP_eq_length_filter ..).symm
  have cT : (T.filter (fun x => x / 16 == n)).length = cntN T n := (List.countP_eq_length_filter ..).symm
  have c1 := hT.cnt n
  cases hh : hasN T n with
  | false =>
    unfold dif surp at h3
    rw [hh, if_pos rfl] at h3
    have h3 : cntN L n = 0 := h3
    have eT : cntN T n = 0 := by
      unfold cntN
      rw [List.countP_eq_zero]
      intro x hx hn
      rw [hasN_of hx (by simpa using hn)] at hh
      cases hh
    rw [List.length_eq_zero_iff.mp (cL.trans h3), List.length_eq_zero_iff.mp (cT.trans eT)]
  | true =>
    obtain ⟨x, hx, hn⟩ := List.any_eq_true.mp hh
    have hxF : x ∈ T.filter (fun x => x / 16 == n) := List.mem_filter.mpr ⟨hx, hn⟩
    have hn' : x / 16 = n := by simpa using hn
    unfold dif surp at h3
    unfold dif oldN at h4
    unfold dif misN at h5
    rw [hh, if_pos rfl, if_pos rfl] at h3
    rw [hh, if_neg (by decide), if_pos rfl] at h4
    rw [hh, if_neg (by decide), if_neg (by decide)] at h5
    have g5 : cntN L n ≠ 0 := fun e => by rw [if_pos ⟨rfl, e⟩] at h5; cases h5
    have g4 : x ∈ L := by
      refine Classical.byContradiction fun hnx => ?_
      rw [if_pos ⟨rfl, g5, fun y hy hyn => by rw [hT.unq y hy x hx (by omega)]; exact hnx⟩] at h4
      cases h4
    have hxL : x ∈ L.filter (fun x => x / 16 == n) := List.mem_filter.mpr ⟨g4, hn⟩
    have l1 : (L.filter (fun x => x / 16 == n)).length = 1 := by omega
    have l2 : (T.filter (fun x => x / 16 == n)).length = 1 := by
      have := List.length_pos_of_mem hxF
      omega
    obtain ⟨a, ea⟩ := List.length_eq_one_iff.mp l1
    obtain ⟨b, eb⟩ := List.length_eq_one_iff.mp l2
    rw [ea] at hxL ⊢
    rw [eb] at hxF ⊢
    rw [List.mem_singleton] at hxL hxF
    rw [← hxL, hxF]
theorem difU_0 {L T : List Nat} {k : Int} : ∀ {m : Nat}, difU L T k m = 0 → ∀ i, i < m → dif L T (i + 10) k = 0
  | 0, _, i, hi => absurd hi (Nat.not_lt_zero _)
  | m + 1, h, i, hi => by
    rw [difU_succ] at h
    rcases Nat.lt_or_ge i m with q | q
    · exact difU_0 (m := m) (by omega) i q
    · have : i = m := by omega
      subst this; omega
theorem wrg_0 {L T : List Nat} (hT : NU T) (h1 : ∀ x ∈ L, 160 ≤ x ∧ x < 1600) (h2 : ∀ x ∈ T, 160 ≤ x ∧ x < 1600) : wrg L T = 0 ↔ rt L T = true := by
  rw [rt_iff]
  constructor
  · intro h
    unfold wrg at h
    have g : ∀ n, L.filter (fun x => x / 16 == n) = T.filter (fun x => x / 16 == n) := by
      intro n
      by_cases q : 10 ≤ n ∧ n < 100
      · have d3 := difU_0 (show difU L T 3 90 = 0 by have : difs L T 3 = 0 := by omega
                                                     exact this) (n - 10) (by omega)
        have d4 := difU_0 (show difU L T 4 90 = 0 by have : difs L T 4 = 0 := by omega
                                                     exact this) (n - 10) (by omega)
        have d5 := difU_0 (show difU L T 5 90 = 0 by have : difs L T 5 = 0 := by omega
                                                     exact this) (n - 10) (by omega)
        rw [show n - 10 + 10 = n by omega] at d3 d4 d5
        exact filt1 hT d3 d4 d5
      · rw [List.filter_eq_nil_iff.mpr (fun y hy => by have := h1 y hy; simp; omega), List.filter_eq_nil_iff.mpr (fun y hy => by have := h2 y hy; simp; omega)]
    rw [List.perm_iff_count]
    intro a
    have e1 : List.count a (L.filter (fun x => x / 16 == a / 16)) = List.count a L := List.count_filter (by simp)
    have e2 : List.count a (T.filter (fun x => x / 16 == a / 16)) = List.count a T := List.count_filter (by simp)
    rw [← e1, ← e2, g]
  · intro h
    rw [wrg_perm h (List.Perm.refl T)]
    have key : ∀ n k, k = 3 ∨ k = 4 ∨ k = 5 → dif T T n k = 0 := by
      intro n k hk
      cases hh : hasN T n with
      | false =>
        have eT : cntN T n = 0 := by
          unfold cntN
          rw [List.countP_eq_zero]
          intro x hx hn
          rw [hasN_of hx (by simpa using hn)] at hh
          cases hh
        unfold dif surp oldN misN
        rw [hh, eT]
        simp
      | true =>
        obtain ⟨x, hx, hn⟩ := List.any_eq_true.mp hh
        have hn' : x / 16 = n := by simpa using hn
        have c1 := hT.cnt n
        have c2 : cntN T n ≠ 0 := by
          unfold cntN
          rw [Ne, List.countP_eq_zero]
          exact fun q => q x hx (by simpa using hn')
        obtain ⟨g1, g2, g3, g4⟩ := dif_s (L := T) k hT.unq hk hx hn' c2
        rcases hk with rfl | rfl | rfl
        · rw [g1 rfl]; omega
        · exact g3 rfl hx
        · exact g2 rfl
    have kU : ∀ k m, k = 3 ∨ k = 4 ∨ k = 5 → difU T T k m = 0 := by
      intro k m hk
      induction m with
      | zero => rfl
      | succ m ih => rw [difU_succ, ih, key _ _ hk]
    unfold wrg difs
    rw [kU _ _ (Or.inl rfl), kU _ _ (Or.inr (Or.inl rfl)), kU _ _ (Or.inr (Or.inr rfl))]
