/-! ===== the law's cell ===== -/
def rmL_cell : Room := { frames := 0, cells := 0, slots := 0, locals := 0 }
theorem c_L_cell (l : Launch) (D : va_G) (n b L0 : Nat) (xs : Nat → Int32) (k : Nat) (hk : k ≤ 1000) (hL0 : L0 ≤ 260) : CtX l D yL_cell wsL_cell rmL_cell [.ref b, .int (I (k : Int))] n b L0 xs (fun z => -2147483648 ≤ z ∧ z ≤ 2147483647) := by
  refine ct_ofX (cc := cL_cell) (maxL := 2) (ret := some .int) rfl rfl (Nat.le_of_ble_eq_true rfl) ?_
  intro p_ e_ s_ m_ args_ below_ meth_ c_ X hXs hbl hsz
  have hbA : ¬ (fun q : Nat => n ≤ q) b := by show ¬ n ≤ b; omega
  refine j_iload_n X dL_cell_0 rfl ?_
  refine j_aload_n X dL_cell_1 rfl ?_
  refine j_slen X dL_cell_2 hXs hbl hbA ?_
  refine j_icmp_ge (tgt := 12) X dL_cell_3 (by omega) (by decide) (fun c3 => ?_) (fun c3 => ?_)
  · refine j_ldc X (x := (797797196 : Int32)) dL_cell_12 (by decide +kernel) ?_
    refine j_iload_n X dL_cell_14 rfl ?_
    refine j_iconst X dL_cell_15 ?_
    refine j_iadd X dL_cell_16 ?_
    refine jr_imul X dL_cell_17 ?_
    refine j_ldc X (x := (969401761 : Int32)) dL_cell_18 (by decide +kernel) ?_
    refine jr_iadd X dL_cell_20 ?_
    obtain ⟨z, hz, e⟩ := I_of ((797797196 : Int32) * I ((k : Int) + 1) + (969401761 : Int32))
    refine j_topx e ?_
    exact j_iretX X dL_cell_21 hz
  · refine j_aload_n X dL_cell_6 rfl ?_
    refine j_iload_n X dL_cell_7 rfl ?_
    refine j_sald X dL_cell_8 hXs hbl hbA k rfl (by omega) (by omega) ?_
    refine j_goto (tgt := 21) X dL_cell_9 (by decide) ?_
    exact j_iretX X dL_cell_21 (ti_b _)
