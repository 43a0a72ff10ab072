/-! ===== bits, longs ===== -/
-- these three begin as rows of the kit's laws (NUMBERS, COUNTS, BITS to paste)
theorem fa_and (a b : Nat) : nI a &&& nI b = nI (a &&& b) := by
  apply Int32.toBitVec_inj.1
  show BitVec.ofNat 32 a &&& BitVec.ofNat 32 b = BitVec.ofNat 32 (a &&& b)
  apply BitVec.eq_of_getLsbD_eq
  intro i hi
  simp [hi]
theorem fa_or (a b : Nat) : nI a ||| nI b = nI (a ||| b) := by
  apply Int32.toBitVec_inj.1
  show BitVec.ofNat 32 a ||| BitVec.ofNat 32 b = BitVec.ofNat 32 (a ||| b)
  apply BitVec.eq_of_getLsbD_eq
  intro i hi
  simp [hi]
theorem fb_andL (a b : Nat) : lN a &&& lN b = lN (a &&& b) := by
  apply Int64.toBitVec_inj.1
  show BitVec.ofNat 64 a &&& BitVec.ofNat 64 b = BitVec.ofNat 64 (a &&& b)
  apply BitVec.eq_of_getLsbD_eq
  intro i hi
  simp [hi]
theorem u_tn {n : Nat} (h : n < 2 ^ 64) : (UInt64.ofNat n).toNat = n := Nat.mod_eq_of_lt h
theorem g_ushr {a k p : Nat} {y : UInt64} (hy : y = UInt64.ofNat k) (hk : k < 64) (hp : 2 ^ k = p) (ha : a < 2 ^ 64) : ((lN a).toUInt64 >>> y).toInt64 = lN (a / p) := by
  subst hy hp
  have h : UInt64.ofNat a >>> UInt64.ofNat k = UInt64.ofNat (a / 2 ^ k) := UInt64.toNat_inj.mp (by rw [UInt64.toNat_shiftRight, u_tn ha, u_tn (by omega), u_tn (Nat.lt_of_le_of_lt (Nat.div_le_self _ _) ha), Nat.mod_eq_of_lt hk, Nat.shiftRight_eq_div_pow])
  have h2 := congrArg UInt64.toInt64 h
  exact h2
theorem b_ushr8 {w : Nat} (h : w < 2 ^ 64) : ((lN w).toUInt64 >>> ((I 8).toInt64.toUInt64 &&& Int64.toUInt64 63)).toInt64 = lN (w / 256) := g_ushr (k := 8) (by decide) (by decide) (by decide) h
theorem b_mask {w : Nat} : lN w &&& lN 255 = lN (w % 256) := by
  rw [fb_andL, show 255 = 2 ^ 8 - 1 by decide, Nat.and_two_pow_sub_one_eq_mod]
theorem b_l2i {w : Nat} : (lN w).toInt32 = I (w : Int) := by rw [lN_i, I_nat]
theorem b_i2c {w : Nat} (h : w < 65536) : ((I (w : Int)).toUInt32 % 65536).toInt32 = I (w : Int) := by
  rw [I_nat, pk_char, pk_tn (by omega), Nat.mod_eq_of_lt h]
theorem lcmp_z (x y : Int64) : ∃ z : Int, lg_cmp x y = I z ∧ (-1 ≤ z ∧ z ≤ 1) ∧ (z = 0 ↔ x = y) ∧ (0 < z ↔ y < x) := by
  unfold lg_cmp
  by_cases h1 : x > y
  · refine ⟨1, by rw [if_pos h1]; rfl, by omega, ⟨fun h => absurd h (by omega), fun h => ?_⟩, ⟨fun _ => h1, fun _ => by omega⟩⟩
    subst h; exact absurd h1 (Int64.lt_irrefl)
  · by_cases h2 : x = y
    · exact ⟨0, by rw [if_neg h1, if_pos h2]; rfl, by omega, ⟨fun _ => h2, fun _ => rfl⟩, ⟨fun h => absurd h (by omega), fun h => absurd h h1⟩⟩
    · exact ⟨-1, by rw [if_neg h1, if_neg h2]; rfl, by omega, ⟨fun h => absurd h (by omega), fun h => absurd h h2⟩, ⟨fun h => absurd h (by omega), fun h => absurd h h1⟩⟩
theorem lN_0 {w : Nat} (h : w < 2 ^ 64) : lN w = lN 0 ↔ w = 0 := by
  constructor
  · intro q
    have h1 : (BitVec.ofNat 64 w).toNat = (BitVec.ofNat 64 0).toNat := congrArg (fun x : Int64 => x.toBitVec.toNat) q
    rw [BitVec.toNat_ofNat, Nat.mod_eq_of_lt h] at h1
    simpa using h1
  · rintro rfl; rfl
theorem uN_ex (x : Int64) : ∃ w : Nat, w < 2 ^ 64 ∧ x = lN w := by
  refine ⟨x.toBitVec.toNat, x.toBitVec.isLt, ?_⟩
  apply Int64.toBitVec_inj.mp
  show x.toBitVec = BitVec.ofNat 64 x.toBitVec.toNat
  rw [BitVec.ofNat_toNat, BitVec.setWidth_eq]
/-- bits of a set of parcels or owners -/
def clr (w k : Nat) : Nat := if w.testBit k then w ^^^ 2 ^ k else w
theorem clr_bit (w k i : Nat) : (clr w k).testBit i = (w.testBit i && !(decide (i = k))) := by
  unfold clr
  by_cases h : w.testBit k = true
  · rw [if_pos h, Nat.testBit_xor]
    by_cases hj : i = k
    · subst hj; rw [h, Nat.testBit_two_pow_self]; simp
    · rw [Nat.testBit_two_pow_of_ne (fun q => hj q.symm)]; simp [hj]
  · rw [if_neg h]
    by_cases hj : i = k
    · subst hj; simp at h; rw [h]; simp
    · simp [hj]
theorem clr_lt {w k : Nat} (hw : w < 65536) (hk : k < 16) : clr w k < 65536 := by
  unfold clr
  split
  · exact Nat.xor_lt_two_pow (n := 16) hw (Nat.pow_lt_pow_right (by decide) hk)
  · exact hw
theorem or_lt {w k : Nat} (hw : w < 65536) (hk : k < 16) : w ||| 2 ^ k < 65536 := Nat.or_lt_two_pow (n := 16) hw (Nat.pow_lt_pow_right (by decide) hk)
theorem b_and (a b : Nat) : I (a : Int) &&& I (b : Int) = I ((a &&& b : Nat) : Int) := by rw [I_nat, I_nat, I_nat, fa_and]
theorem b_or (a b : Nat) : I (a : Int) ||| I (b : Int) = I ((a ||| b : Nat) : Int) := by rw [I_nat, I_nat, I_nat, fa_or]
theorem b_amt {k : Nat} (h : k < 32) : ((nI k &&& 31).toBitVec.smod 32).toNat = k := by
  have : ∀ j, j < 32 → ((nI j &&& 31).toBitVec.smod 32).toNat = j := by decide
  exact this k h
theorem b_shl {k : Nat} (h : k < 31) : I 1 <<< (I (k : Int) &&& 31) = I ((2 ^ k : Nat) : Int) := by
  rw [I_nat, I_nat, show I 1 = nI 1 from rfl, pk_shlN _ k (b_amt (by omega)) (by rw [Nat.one_mul]; exact Nat.pow_lt_pow_right (by decide) (by omega)), Nat.one_mul]
theorem b_shr {w k : Nat} (hw : w < 2 ^ 31) (h : k < 32) : I (w : Int) >>> (I (k : Int) &&& 31) = I ((w / 2 ^ k : Nat) : Int) := by
  rw [I_nat, I_nat, I_nat, pk_shrN hw _ k (b_amt h)]
theorem b_bit1 {w : Nat} : I (w : Int) &&& I 1 = I ((w % 2 : Nat) : Int) := by
  rw [show I 1 = I ((2 ^ 1 - 1 : Nat) : Int) from rfl, b_and, Nat.and_two_pow_sub_one_eq_mod]
theorem tb_div (w k : Nat) : w.testBit k = decide (w / 2 ^ k % 2 = 1) := by
  rw [Nat.testBit_eq_decide_div_mod_eq]
theorem b_tst (w k : Nat) : w &&& 2 ^ k = if w.testBit k then 2 ^ k else 0 := by
  apply Nat.eq_of_testBit_eq
  intro j
  rw [Nat.testBit_and]
  by_cases hj : k = j
  · subst hj
    rw [Nat.testBit_two_pow_self]
    cases h : w.testBit k <;> simp [Nat.testBit_two_pow_self]
  · rw [Nat.testBit_two_pow_of_ne hj]
    cases h : w.testBit k <;> simp [Nat.testBit_two_pow_of_ne hj]
/-- ~(2^k): a minus one under 'exclusive or' -/
def nt (k : Nat) : Int := -(2 ^ k : Nat) - 1
theorem b_not {k : Nat} (hk : k < 31) : I ((2 ^ k : Nat) : Int) ^^^ I (-1) = I (nt k) := by
  have : ∀ j, j < 31 → I ((2 ^ j : Nat) : Int) ^^^ I (-1) = I (nt j) := by decide
  exact this k hk
theorem b_clr {w k : Nat} (hw : w < 65536) (hk : k < 16) : I (w : Int) &&& I (nt k) = I ((clr w k : Nat) : Int) := by
  rw [← b_not (by omega), I_nat, I_nat, I_nat]
  apply Int32.toBitVec_inj.1
  rw [Int32.toBitVec_and, Int32.toBitVec_xor]
  show BitVec.ofNat 32 w &&& (BitVec.ofNat 32 (2 ^ k) ^^^ BitVec.allOnes 32) = BitVec.ofNat 32 (clr w k)
  apply BitVec.eq_of_getLsbD_eq
  intro i hi
  rw [BitVec.getLsbD_and, BitVec.getLsbD_xor, BitVec.getLsbD_allOnes, BitVec.getLsbD_ofNat, BitVec.getLsbD_ofNat, BitVec.getLsbD_ofNat, clr_bit]
  by_cases hj : k = i
  · subst hj; simp [hi, Nat.testBit_two_pow_self]
  · simp [hi, Nat.testBit_two_pow_of_ne hj, Ne.symm hj]
def pop (w : Nat) : Nat := w % 2 + w / 2 % 2 + w / 4 % 2 + w / 8 % 2 + w / 16 % 2 + w / 32 % 2 + w / 64 % 2 + w / 128 % 2 + w / 256 % 2 + w / 512 % 2 + w / 1024 % 2 + w / 2048 % 2 + w / 4096 % 2 + w / 8192 % 2 + w / 16384 % 2 + w / 32768 % 2
def bc1 (w : Nat) : Nat := w - (w / 2 &&& 1431655765)
def bc2 (w : Nat) : Nat := (bc1 w &&& 858993459) + (bc1 w / 4 &&& 858993459)
def bc3 (w : Nat) : Nat := bc2 w + bc2 w / 16 &&& 252645135
def bc4 (w : Nat) : Nat := bc3 w + bc3 w / 256
def bc5 (w : Nat) : Nat := bc4 w + bc4 w / 65536
def bcN (w : Nat) : Nat := bc5 w &&& 63
theorem bc_0 : (List.range 4096).all (fun i => bcN (0 + i) == pop (0 + i)) = true := by decide +kernel
theorem bc_1 : (List.range 4096).all (fun i => bcN (4096 + i) == pop (4096 + i)) = true := by decide +kernel
theorem bc_2 : (List.range 4096).all (fun i => bcN (8192 + i) == pop (8192 + i)) = true := by decide +kernel
theorem bc_3 : (List.range 4096).all (fun i => bcN (12288 + i) == pop (12288 + i)) = true := by decide +kernel
theorem bc_4 : (List.range 4096).all (fun i => bcN (16384 + i) == pop (16384 + i)) = true := by decide +kernel
theorem bc_5 : (List.range 4096).all (fun i => bcN (20480 + i) == pop (20480 + i)) = true := by decide +kernel
theorem bc_6 : (List.range 4096).all (fun i => bcN (24576 + i) == pop (24576 + i)) = true := by decide +kernel
theorem bc_7 : (List.range 4096).all (fun i => bcN (28672 + i) == pop (28672 + i)) = true := by decide +kernel
theorem bc_8 : (List.range 4096).all (fun i => bcN (32768 + i) == pop (32768 + i)) = true := by decide +kernel
theorem bc_9 : (List.range 4096).all (fun i => bcN (36864 + i) == pop (36864 + i)) = true := by decide +kernel
theorem bc_10 : (List.range 4096).all (fun i => bcN (40960 + i) == pop (40960 + i)) = true := by decide +kernel
theorem bc_11 : (List.range 4096).all (fun i => bcN (45056 + i) == pop (45056 + i)) = true := by decide +kernel
theorem bc_12 : (List.range 4096).all (fun i => bcN (49152 + i) == pop (49152 + i)) = true := by decide +kernel
theorem bc_13 : (List.range 4096).all (fun i => bcN (53248 + i) == pop (53248 + i)) = true := by decide +kernel
theorem bc_14 : (List.range 4096).all (fun i => bcN (57344 + i) == pop (57344 + i)) = true := by decide +kernel
theorem bc_15 : (List.range 4096).all (fun i => bcN (61440 + i) == pop (61440 + i)) = true := by decide +kernel
theorem bc_all {w : Nat} (hw : w < 65536) : bcN w = pop w := by
  have key : ∀ b, (List.range 4096).all (fun i => bcN (b + i) == pop (b + i)) = true → b ≤ w → w < b + 4096 → bcN w = pop w := by
    intro b h h1 h2
    have := List.all_eq_true.mp h (w - b) (List.mem_range.mpr (by omega))
    rw [show b + (w - b) = w by omega] at this
    simpa using this
  rcases (show (0 ≤ w ∧ w < 4096) ∨ (4096 ≤ w ∧ w < 8192) ∨ (8192 ≤ w ∧ w < 12288) ∨ (12288 ≤ w ∧ w < 16384) ∨ (16384 ≤ w ∧ w < 20480) ∨ (20480 ≤ w ∧ w < 24576) ∨ (24576 ≤ w ∧ w < 28672) ∨ (28672 ≤ w ∧ w < 32768) ∨ (32768 ≤ w ∧ w < 36864) ∨ (36864 ≤ w ∧ w < 40960) ∨ (40960 ≤ w ∧ w < 45056) ∨ (45056 ≤ w ∧ w < 49152) ∨ (49152 ≤ w ∧ w < 53248) ∨ (53248 ≤ w ∧ w < 57344) ∨ (57344 ≤ w ∧ w < 61440) ∨ (61440 ≤ w ∧ w < 65536) by omega) with h | h | h | h | h | h | h | h | h | h | h | h | h | h | h | h
  · exact key _ bc_0 h.1 h.2
  · exact key _ bc_1 h.1 h.2
  · exact key _ bc_2 h.1 h.2
  · exact key _ bc_3 h.1 h.2
  · exact key _ bc_4 h.1 h.2
  · exact key _ bc_5 h.1 h.2
  · exact key _ bc_6 h.1 h.2
  · exact key _ bc_7 h.1 h.2
  · exact key _ bc_8 h.1 h.2
  · exact key _ bc_9 h.1 h.2
  · exact key _ bc_10 h.1 h.2
  · exact key _ bc_11 h.1 h.2
  · exact key _ bc_12 h.1 h.2
  · exact key _ bc_13 h.1 h.2
  · exact key _ bc_14 h.1 h.2
  · exact key _ bc_15 h.1 h.2
theorem iu {x : Nat} (hx : x < 2 ^ 32) {s : Int32} (k : Nat) (hs : ((s.toUInt32 &&& Int32.toUInt32 31).toBitVec % 32).toNat = k) : ((nI x).toUInt32 >>> (s.toUInt32 &&& Int32.toUInt32 31)).toInt32 = nI (x / 2 ^ k) := pk_ushrN hx s k hs
