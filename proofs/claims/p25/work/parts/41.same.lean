/-! ===== the law's same ===== -/
def rmL_same : Room := { frames := 27, cells := 0, slots := 0, locals := 2185 }
set_option maxHeartbeats 4000000 in
set_option maxRecDepth 100000 in
theorem c_L_same (l : Launch) (D : va_G) (nH : Nat) (sk : Sk) (v : Mem) (x : Nat) (xi : Int32) (G : GS) (hLd : Ld D sk x) (hI : LI v x G) : CtI l D yL_same wsL_same rmL_same [.ref x, .int xi, .ref (x + 235), .ref (x + 236), .ref (x + 232), .ref (x + 233), .ref (x + 234), .ref (x + 237)] nH sk v (fun z v' => z = 1 ∧ XR v' x G ∧ frT v v' x) := by
  refine ct_of (cc := cL_same) (maxL := 17) (ret := (some .boolean)) rfl rfl (Nat.le_of_ble_eq_true rfl) ?_
  intro p_ e_ s_ m_ args_ below_ meth_ c_ X hmn hsz
  obtain ⟨hX, hq, hpa, ha, hA, hBb, ht⟩ := id hLd
  obtain ⟨hC, hB0, hB1⟩ := id hI
  obtain ⟨hXR, ⟨hn2, hoT, hN, hlt⟩, ⟨hq0, hn6, hPO⟩, ⟨hq1, hqw⟩, hRT⟩ := id hC
  have hu := hN.unq
  have h64 := p2_64 hn6
  have hw0 := hlt 0 (by omega)
  have hw1 := hlt 1 (by omega)
  have hq2 : v (x + 232) 2 = (wtL G.1 0 : Int) := (hqw 0 (by omega)).1
  have hq3 : v (x + 232) 3 = (wtL G.1 1 : Int) := (hqw 1 (by omega)).1
  have hq4 : v (x + 232) 4 = (loL G.1 0 : Int) := (hqw 0 (by omega)).2
  have hq5 : v (x + 232) 5 = (loL G.1 1 : Int) := (hqw 1 (by omega)).2
  have hbz : 0 < no G.1 → bnL G.1 0 = bn G.1 0 := fun h => if_pos h
  have hbo : 1 < no G.1 → bnL G.1 1 = bn G.1 1 := fun h => if_pos h
  have htl : (tx G.1).length ≤ 10 := by
    rw [tx_len (z := v (x + 234)) hN hoT hRT]
    exact sU_le (g := fun _ => 1) (m := 10) (fun i _ => by split <;> omega)
  have hchk := chk_le (L := tx G.1) (fun x hx => (hoT.b x hx).2)
  have hcI : cntI (tx G.1) 0 ≤ (tx G.1).length := List.countP_le_length
  have hr0 := rbit_le G.1 0
  have hr1 := rbit_le G.1 1
  refine j_iconst X dL_same_0 ?_
  refine j_istore X dL_same_1 rfl (Nat.le_of_ble_eq_true rfl) ?_
  refine j_iconst X dL_same_3 ?_
  refine j_istore X dL_same_4 rfl (Nat.le_of_ble_eq_true rfl) ?_
  refine j_iconst X dL_same_6 ?_
  refine j_istore X dL_same_7 rfl (Nat.le_of_ble_eq_true rfl) ?_
  refine j_bipush X dL_same_9 (by decide) ?_
  refine j_istore X dL_same_11 rfl (Nat.le_of_ble_eq_true rfl) ?_
  refine j_iconst X dL_same_13 ?_
  refine j_istore X dL_same_14 rfl (Nat.le_of_ble_eq_true rfl) ?_
  refine j_iconst X dL_same_16 ?_
  refine j_istore X dL_same_17 rfl (Nat.le_of_ble_eq_true rfl) ?_
  refine j_iconst X dL_same_19 ?_
  refine j_istore X dL_same_20 rfl (Nat.le_of_ble_eq_true rfl) ?_
  refine j_cut 15 (j_loop (σ := Nat) (fun (d : Nat) => d ≤ 10) (fun (d : Nat) => 10 - d) (fun (d : Nat) => (v, [some (.ref x), some (.int xi), some (.ref (x + 235)), some (.ref (x + 236)), some (.ref (x + 232)), some (.ref (x + 233)), some (.ref (x + 234)), some (.ref (x + 237)), some (.int (I ((sU (fun d => if v (x + 234) d < 0 then 0 else 1) d : Nat) : Int))), some (.int (I ((sU (fun d => if v (x + 234) d < 0 then 0 else (d + 10) * ((v (x + 234) d).toNat + 1)) d : Nat) : Int))), some (.int (I ((sU (fun d => if v (x + 234) d = ((0 : Nat) : Int) then 1 else 0) d : Nat) : Int))), some (.int (I (-6))), some (.int (I 0)), some (.int (I 0)), some (.int (I (d : Int))), none, none])) ?_ 0 (by omega))
  intro d hx_ ih22
  dsimp only at hx_ ih22 ⊢
  have hd := hx_
  refine j_iload X dL_same_22 rfl ?_
  refine j_bipush X dL_same_24 (by decide) ?_
  refine j_icmp_ge (tgt := 133) X dL_same_26 (by omega) (by decide) (fun c26 => ?_) (fun c26 => ?_)
  · have hd10 : d = 10 := by omega
    subst hd10
    rw [← tx_len (z := v (x + 234)) hN hoT hRT, ← tx_chk (z := v (x + 234)) hN hoT hRT, ← tx_cI (z := v (x + 234)) hN hoT hRT 0]
    refine j_iconst X dL_same_133 ?_
    refine j_istore X dL_same_134 rfl (Nat.le_of_ble_eq_true rfl) ?_
    refine j_cut 15 (j_loop (σ := Nat × Int × Nat) (fun (y_ : Nat × Int × Nat) => match y_ with | (p, bb, mm) => p ≤ np G.1 ∧ mb (tx G.1) p = (bb, mm)) (fun (y_ : Nat × Int × Nat) => match y_ with | (p, bb, mm) => np G.1 - p) (fun (y_ : Nat × Int × Nat) => match y_ with | (p, bb, mm) => (v, [some (.ref x), some (.int xi), some (.ref (x + 235)), some (.ref (x + 236)), some (.ref (x + 232)), some (.ref (x + 233)), some (.ref (x + 234)), some (.ref (x + 237)), some (.int (I (((tx G.1).length : Nat) : Int))), some (.int (I ((chk (tx G.1) : Nat) : Int))), some (.int (I ((cntI (tx G.1) 0 : Nat) : Int))), some (.int (I bb)), some (.int (I (mm : Int))), some (.int (I 0)), some (.int (I (p : Int))), none, none])) ?_ (0, -6, 0) ⟨by omega, rfl⟩)
    intro y_ hx_ ih136
    obtain ⟨p, bb, mm⟩ := y_
    dsimp only at hx_ ih136 ⊢
    obtain ⟨hp, hmb⟩ := hx_
    have hmbb := mb_bd (tx G.1) p
    rw [hmb] at hmbb
    refine j_iload X dL_same_136 rfl ?_
    refine j_aload X dL_same_138 rfl ?_
    refine j_iconst X dL_same_140 ?_
    refine j_ialN X dL_same_141 (by assumption) (0) rfl (by omega) (by decide) ?_
    rw [hq0]
    refine j_icmp_ge (tgt := 378) X dL_same_142 (by omega) (by decide) (fun c142 => ?_) (fun c142 => ?_)
    · have hpn : p = np G.1 := by omega
      subst hpn
      refine j_join (σ := Mem) (fun (u : Mem) => LC u x G ∧ frT v u x) (fun (u : Mem) => (u, [some (.ref x), some (.int xi), some (.ref (x + 235)), some (.ref (x + 236)), some (.ref (x + 232)), some (.ref (x + 233)), some (.ref (x + 234)), some (.ref (x + 237)), some (.int (I (((tx G.1).length : Nat) : Int))), some (.int (I ((chk (tx G.1) : Nat) : Int))), some (.int (I ((cntI (tx G.1) 0 : Nat) : Int))), some (.int (I bb)), some (.int (I (mm : Int))), some (.int (I 0)), none, none, none], [])) 403 ?_ (fun K403 => ?_)
      · intro u hx_
        dsimp only at hx_ ⊢
        obtain ⟨hCu, hfu⟩ := hx_
        refine j_join (σ := Mem) (fun (u2 : Mem) => LC u2 x G ∧ frT v u2 x) (fun (u2 : Mem) => (u2, [some (.ref x), some (.int xi), some (.ref (x + 235)), some (.ref (x + 236)), some (.ref (x + 232)), some (.ref (x + 233)), some (.ref (x + 234)), some (.ref (x + 237)), some (.int (I (((tx G.1).length : Nat) : Int))), some (.int (I ((chk (tx G.1) : Nat) : Int))), some (.int (I ((cntI (tx G.1) 0 : Nat) : Int))), some (.int (I bb)), some (.int (I (mm : Int))), some (.int (I 0)), none, none, none], [])) 433 ?_ (fun K433 => ?_)
        · intro u2 hx_
          dsimp only at hx_ ⊢
          obtain ⟨hC2, hf2⟩ := hx_
          refine j_join (σ := Int) (fun (za : Int) => za = (rbit G.1 0 : Int)) (fun (za : Int) => (u2, [some (.ref x), some (.int xi), some (.ref (x + 235)), some (.ref (x + 236)), some (.ref (x + 232)), some (.ref (x + 233)), some (.ref (x + 234)), some (.ref (x + 237)), some (.int (I (((tx G.1).length : Nat) : Int))), some (.int (I ((chk (tx G.1) : Nat) : Int))), some (.int (I ((cntI (tx G.1) 0 : Nat) : Int))), some (.int (I bb)), some (.int (I (mm : Int))), some (.int (I 0)), none, none, none], [.int (I za), .int (I 0)])) 456 ?_ (fun K456 => ?_)
          · intro za hx_
            dsimp only at hx_ ⊢
            have hza := hx_
            refine j_iadd X dL_same_456 ?_
            have hzab : za = (rbit G.1 0 : Int) := hza
            refine j_istore X dL_same_457 rfl (Nat.le_of_ble_eq_true rfl) ?_
            refine j_join (σ := Int) (fun (zb : Int) => zb = 2 * (rbit G.1 1 : Int)) (fun (zb : Int) => (u2, [some (.ref x), some (.int xi), some (.ref (x + 235)), some (.ref (x + 236)), some (.ref (x + 232)), some (.ref (x + 233)), some (.ref (x + 234)), some (.ref (x + 237)), some (.int (I (((tx G.1).length : Nat) : Int))), some (.int (I ((chk (tx G.1) : Nat) : Int))), some (.int (I ((cntI (tx G.1) 0 : Nat) : Int))), some (.int (I bb)), some (.int (I (mm : Int))), some (.int (I (0 + za))), none, none, none], [.int (I zb), .int (I (0 + za))])) 483 ?_ (fun K483 => ?_)
            · intro zb hx_
              dsimp only at hx_ ⊢
              have hzb := hx_
              refine j_iadd X dL_same_483 ?_
              refine j_istore X dL_same_484 rfl (Nat.le_of_ble_eq_true rfl) ?_
              refine j_aload_n X dL_same_486 rfl ?_
              refine j_iconst X dL_same_487 ?_
              refine j_callV (nn := 1) X dL_same_488 (c_X4_count l D nH sk u2 x 0 G hX hC2.1 (by omega)) gL_same_X4_count rfl ⟨rfl, rfl⟩ (by decide +kernel) ⟨Nat.le_of_ble_eq_true rfl, Nat.le_of_ble_eq_true rfl⟩ hX.1 ⟨rfl, rfl⟩ rfl rfl (Nat.le_of_ble_eq_true rfl) ⟨Nat.zero_le _, Nat.zero_le _⟩ (kI (fun z488 v488 h488 => ?_))
              obtain ⟨rfl, rfl⟩ := h488
              rw [A_c0]
              refine j_aload X dL_same_491 rfl ?_
              refine j_iconst X dL_same_493 ?_
              refine j_ialN X dL_same_494 (by assumption) (0) rfl (by omega) (by decide) ?_
              rw [hC2.2.2.1.1]
              refine j_icmp_ne (tgt := 569) X dL_same_495 (by omega) (by decide) (fun c495 => ?_) (fun c495 => ?_)
              · exact absurd rfl c495
              · refine j_aload_n X dL_same_498 rfl ?_
                refine j_iconst X dL_same_499 ?_
                refine j_callV (nn := 1) X dL_same_500 (c_X4_count l D nH sk u2 x 1 G hX hC2.1 (by omega)) gL_same_X4_count rfl ⟨rfl, rfl⟩ (by decide +kernel) ⟨Nat.le_of_ble_eq_true rfl, Nat.le_of_ble_eq_true rfl⟩ hX.1 ⟨rfl, rfl⟩ rfl rfl (Nat.le_of_ble_eq_true rfl) ⟨Nat.zero_le _, Nat.zero_le _⟩ (kI (fun z500 v500 h500 => ?_))
                obtain ⟨rfl, rfl⟩ := h500
                rw [A_c1]
                refine j_aload X dL_same_503 rfl ?_
                refine j_iconst X dL_same_505 ?_
                refine j_ialN X dL_same_506 (by assumption) (1) rfl (by omega) (by decide) ?_
                rw [hC2.2.2.2.1.1]
                refine j_icmp_ne (tgt := 569) X dL_same_507 (by omega) (by decide) (fun c507 => ?_) (fun c507 => ?_)
                · exact absurd rfl c507
                · refine j_aload_n X dL_same_510 rfl ?_
                  refine j_iconst X dL_same_511 ?_
                  refine j_callV (nn := 1) X dL_same_512 (c_X4_count l D nH sk u2 x 2 G hX hC2.1 (by omega)) gL_same_X4_count rfl ⟨rfl, rfl⟩ (by decide +kernel) ⟨Nat.le_of_ble_eq_true rfl, Nat.le_of_ble_eq_true rfl⟩ hX.1 ⟨rfl, rfl⟩ rfl rfl (Nat.le_of_ble_eq_true rfl) ⟨Nat.zero_le _, Nat.zero_le _⟩ (kI (fun z512 v512 h512 => ?_))
                  obtain ⟨rfl, rfl⟩ := h512
                  rw [A_c2]
                  refine j_iload X dL_same_515 rfl ?_
                  refine j_icmp_ne (tgt := 569) X dL_same_517 (by omega) (by decide) (fun c517 => ?_) (fun c517 => ?_)
                  · exact absurd rfl c517
                  · refine j_aload_n X dL_same_520 rfl ?_
                    refine j_iconst X dL_same_521 ?_
                    refine j_callV (nn := 1) X dL_same_522 (c_X4_count l D nH sk u2 x 3 G hX hC2.1 (by omega)) gL_same_X4_count rfl ⟨rfl, rfl⟩ (by decide +kernel) ⟨Nat.le_of_ble_eq_true rfl, Nat.le_of_ble_eq_true rfl⟩ hX.1 ⟨rfl, rfl⟩ rfl rfl (Nat.le_of_ble_eq_true rfl) ⟨Nat.zero_le _, Nat.zero_le _⟩ (kI (fun z522 v522 h522 => ?_))
                    obtain ⟨rfl, rfl⟩ := h522
                    rw [A_c3]
                    refine j_iload X dL_same_525 rfl ?_
                    refine j_sipush X dL_same_527 (by decide) ?_
                    refine j_irem X dL_same_530 (by omega) (by omega) ?_
                    refine j_icmp_ne (tgt := 569) X dL_same_531 (by omega) (by decide) (fun c531 => ?_) (fun c531 => ?_)
                    · exact absurd (by omega) c531
                    · refine j_aload_n X dL_same_534 rfl ?_
                      refine j_iconst X dL_same_535 ?_
                      refine j_callV (nn := 1) X dL_same_536 (c_X4_count l D nH sk u2 x 4 G hX hC2.1 (by omega)) gL_same_X4_count rfl ⟨rfl, rfl⟩ (by decide +kernel) ⟨Nat.le_of_ble_eq_true rfl, Nat.le_of_ble_eq_true rfl⟩ hX.1 ⟨rfl, rfl⟩ rfl rfl (Nat.le_of_ble_eq_true rfl) ⟨Nat.zero_le _, Nat.zero_le _⟩ (kI (fun z536 v536 h536 => ?_))
                      obtain ⟨rfl, rfl⟩ := h536
                      rw [A_c4 hn2]
                      refine j_iload X dL_same_539 rfl ?_
                      refine j_icmp_ne (tgt := 569) X dL_same_541 (by omega) (by decide) (fun c541 => ?_) (fun c541 => ?_)
                      · exact absurd (by omega) c541
                      · refine j_aload_n X dL_same_544 rfl ?_
                        refine j_iconst X dL_same_545 ?_
                        refine j_callV (nn := 1) X dL_same_546 (c_X4_count l D nH sk u2 x 5 G hX hC2.1 (by omega)) gL_same_X4_count rfl ⟨rfl, rfl⟩ (by decide +kernel) ⟨Nat.le_of_ble_eq_true rfl, Nat.le_of_ble_eq_true rfl⟩ hX.1 ⟨rfl, rfl⟩ rfl rfl (Nat.le_of_ble_eq_true rfl) ⟨Nat.zero_le _, Nat.zero_le _⟩ (kI (fun z546 v546 h546 => ?_))
                        obtain ⟨rfl, rfl⟩ := h546
                        rw [A_c5]
                        refine j_iload X dL_same_549 rfl ?_
                        refine j_icmp_ne (tgt := 569) X dL_same_551 (by omega) (by decide) (fun c551 => ?_) (fun c551 => ?_)
                        · exact absurd rfl c551
                        · refine j_aload_n X dL_same_554 rfl ?_
                          refine j_bipush X dL_same_555 (by decide) ?_
                          refine j_callV (nn := 1) X dL_same_557 (c_X4_count l D nH sk u2 x 6 G hX hC2.1 (by omega)) gL_same_X4_count rfl ⟨rfl, rfl⟩ (by decide +kernel) ⟨Nat.le_of_ble_eq_true rfl, Nat.le_of_ble_eq_true rfl⟩ hX.1 ⟨rfl, rfl⟩ rfl rfl (Nat.le_of_ble_eq_true rfl) ⟨Nat.zero_le _, Nat.zero_le _⟩ (kI (fun z557 v557 h557 => ?_))
                          obtain ⟨rfl, rfl⟩ := h557
                          rw [A_c6, hmb]
                          refine j_iload X dL_same_560 rfl ?_
                          refine j_icmp_ne (tgt := 569) X dL_same_562 (by omega) (by decide) (fun c562 => ?_) (fun c562 => ?_)
                          · exact absurd rfl c562
                          · refine j_iconst X dL_same_565 ?_
                            refine j_goto (tgt := 570) X dL_same_566 (by decide) ?_
                            exact j_zret X dL_same_570 (by omega) ⟨_, rfl, rfl, ⟨rfl, hC2.1, hf2⟩⟩
            · refine j_iload X dL_same_459 rfl ?_
              refine j_aload X dL_same_461 rfl ?_
              refine j_iconst X dL_same_463 ?_
              refine j_ialN X dL_same_464 (by assumption) (1) rfl (by omega) (by decide) ?_
              rw [hC2.2.2.2.1.1]
              refine j_iconst X dL_same_465 ?_
              refine j_icmp_le (tgt := 482) X dL_same_466 (by omega) (by decide) (fun c466 => ?_) (fun c466 => ?_)
              · refine j_iconst X dL_same_482 ?_
                refine j_cut 14 (K483 0 ?_)
                (try dsimp only)
                exact (by unfold rbit; rw [if_neg (fun hr => by first | omega | (have := (W_0 hBc.2.1 hoT hN hBc.len).mpr hr.2; omega))]; rfl)
              · have hBc : LB u2 (x + 236) (bn G.1 1) := by rw [hbo (by omega)] at hB1; exact hB1.kept (hf2 _ (by omega) (by omega))
                have hW := W_all hBc.2.1 hoT hBc.len
                refine j_aload_n X dL_same_469 rfl ?_
                refine j_aload X dL_same_470 rfl ?_
                refine j_callS (nn := 2) X dL_same_472 (c_L_wrongs l D nH sk u2 (x + 236) (x + 234) (bn G.1 1) (tx G.1) hBb ha hBc.1 hBc.2.1 hBc.len hC2.2.2.2.2 hu) gL_same_L_wrongs rfl ⟨rfl, rfl⟩ (by decide +kernel) ⟨Nat.le_of_ble_eq_true rfl, Nat.le_of_ble_eq_true rfl⟩ rfl rfl (Nat.le_of_ble_eq_true rfl) ⟨Nat.zero_le _, Nat.zero_le _⟩ (kI (fun z472 v472 h472 => ?_))
                obtain ⟨rfl, rfl⟩ := h472
                refine j_if_ne (tgt := 482) X dL_same_475 (by omega) (by decide) (fun c475 => ?_) (fun c475 => ?_)
                · refine j_iconst X dL_same_482 ?_
                  refine j_cut 14 (K483 0 ?_)
                  (try dsimp only)
                  exact (by unfold rbit; rw [if_neg (fun hr => by first | omega | (have := (W_0 hBc.2.1 hoT hN hBc.len).mpr hr.2; omega))]; rfl)
                · refine j_iconst X dL_same_478 ?_
                  refine j_goto (tgt := 483) X dL_same_479 (by decide) ?_
                  refine j_cut 14 (K483 2 ?_)
                  (try dsimp only)
                  exact (by unfold rbit; rw [if_pos ⟨by omega, (W_0 hBc.2.1 hoT hN hBc.len).mp (by omega)⟩]; rfl)
          · refine j_iload X dL_same_433 rfl ?_
            refine j_aload X dL_same_435 rfl ?_
            refine j_iconst X dL_same_437 ?_
            refine j_ialN X dL_same_438 (by assumption) (1) rfl (by omega) (by decide) ?_
            rw [hC2.2.2.2.1.1]
            refine j_if_le (tgt := 455) X dL_same_439 (by omega) (by decide) (fun c439 => ?_) (fun c439 => ?_)
            · refine j_iconst X dL_same_455 ?_
              refine j_cut 14 (K456 0 ?_)
              (try dsimp only)
              exact (by unfold rbit; rw [if_neg (fun hr => by first | omega | (have := (W_0 hBa.2.1 hoT hN hBa.len).mpr hr.2; omega))]; rfl)
            · have hBa : LB u2 (x + 235) (bn G.1 0) := by rw [hbz (by omega)] at hB0; exact hB0.kept (hf2 _ (by omega) (by omega))
              have hW := W_all hBa.2.1 hoT hBa.len
              refine j_aload_n X dL_same_442 rfl ?_
              refine j_aload X dL_same_443 rfl ?_
              refine j_callS (nn := 2) X dL_same_445 (c_L_wrongs l D nH sk u2 (x + 235) (x + 234) (bn G.1 0) (tx G.1) hA ha hBa.1 hBa.2.1 hBa.len hC2.2.2.2.2 hu) gL_same_L_wrongs rfl ⟨rfl, rfl⟩ (by decide +kernel) ⟨Nat.le_of_ble_eq_true rfl, Nat.le_of_ble_eq_true rfl⟩ rfl rfl (Nat.le_of_ble_eq_true rfl) ⟨Nat.zero_le _, Nat.zero_le _⟩ (kI (fun z445 v445 h445 => ?_))
              obtain ⟨rfl, rfl⟩ := h445
              refine j_if_ne (tgt := 455) X dL_same_448 (by omega) (by decide) (fun c448 => ?_) (fun c448 => ?_)
              · refine j_iconst X dL_same_455 ?_
                refine j_cut 14 (K456 0 ?_)
                (try dsimp only)
                exact (by unfold rbit; rw [if_neg (fun hr => by first | omega | (have := (W_0 hBa.2.1 hoT hN hBa.len).mpr hr.2; omega))]; rfl)
              · refine j_iconst X dL_same_451 ?_
                refine j_goto (tgt := 456) X dL_same_452 (by decide) ?_
                refine j_cut 14 (K456 1 ?_)
                (try dsimp only)
                exact (by unfold rbit; rw [if_pos ⟨by omega, (W_0 hBa.2.1 hoT hN hBa.len).mp (by omega)⟩]; rfl)
        · refine j_aload X dL_same_403 rfl ?_
          refine j_iconst X dL_same_405 ?_
          refine j_ialN X dL_same_406 (by assumption) (1) rfl (by omega) (by decide) ?_
          rw [hCu.2.2.2.1.1]
          refine j_iconst X dL_same_407 ?_
          refine j_icmp_le (tgt := 433) X dL_same_408 (by omega) (by decide) (fun c408 => ?_) (fun c408 => ?_)
          · refine j_cut 14 (K433 u ?_)
            (try dsimp only)
            exact ⟨hCu, hfu⟩
          · refine j_aload_n X dL_same_411 rfl ?_
            refine j_iconst X dL_same_412 ?_
            refine j_iload_n X dL_same_413 rfl ?_
            refine j_iconst X dL_same_414 ?_
            refine jr_ishr X dL_same_415 ?_
            refine j_aload_n X dL_same_416 rfl ?_
            refine j_aload X dL_same_417 rfl ?_
            refine j_aload X dL_same_419 rfl ?_
            refine j_aload X dL_same_421 rfl ?_
            refine j_aload X dL_same_423 rfl ?_
            refine j_callS (nn := 8) X dL_same_425 (c_L_owner l D nH sk u x 1 _ G hLd hCu (by omega) (by rw [hbo (by omega)] at hB1; exact hB1.kept (hfu _ (by omega) (by omega)))) gL_same_L_owner rfl ⟨rfl, rfl⟩ (by decide +kernel) ⟨Nat.le_of_ble_eq_true rfl, Nat.le_of_ble_eq_true rfl⟩ rfl rfl (Nat.le_of_ble_eq_true rfl) ⟨Nat.zero_le _, Nat.zero_le _⟩ (kI (fun z425 v425 h425 => ?_))
            obtain ⟨rfl, hXa, hfa⟩ := h425
            refine j_if_ne (tgt := 433) X dL_same_428 (by omega) (by decide) (fun c428 => ?_) (fun c428 => ?_)
            · refine j_cut 14 (K433 v425 ?_)
              (try dsimp only)
              exact ⟨hCu.kept hXa hfa, fun a h1 h2 => (hfa a h1 h2).trans (hfu a h1 h2)⟩
            · exact absurd c428 (by decide)
      · refine j_aload X dL_same_378 rfl ?_
        refine j_iconst X dL_same_380 ?_
        refine j_ialN X dL_same_381 (by assumption) (1) rfl (by omega) (by decide) ?_
        rw [hq1]
        refine j_if_le (tgt := 403) X dL_same_382 (by omega) (by decide) (fun c382 => ?_) (fun c382 => ?_)
        · refine j_cut 14 (K403 v ?_)
          (try dsimp only)
          exact ⟨hC, frT.refl _ _⟩
        · refine j_aload_n X dL_same_385 rfl ?_
          refine j_iconst X dL_same_386 ?_
          refine j_iload_n X dL_same_387 rfl ?_
          refine j_aload_n X dL_same_388 rfl ?_
          refine j_aload X dL_same_389 rfl ?_
          refine j_aload X dL_same_391 rfl ?_
          refine j_aload X dL_same_393 rfl ?_
          refine j_aload X dL_same_395 rfl ?_
          refine j_callS (nn := 8) X dL_same_397 (c_L_owner l D nH sk v x 0 xi G hLd hC (by omega) (by rw [hbz (by omega)] at hB0; exact hB0)) gL_same_L_owner rfl ⟨rfl, rfl⟩ (by decide +kernel) ⟨Nat.le_of_ble_eq_true rfl, Nat.le_of_ble_eq_true rfl⟩ rfl rfl (Nat.le_of_ble_eq_true rfl) ⟨Nat.zero_le _, Nat.zero_le _⟩ (kI (fun z397 v397 h397 => ?_))
          obtain ⟨rfl, hXa, hfa⟩ := h397
          refine j_if_eq (tgt := 431) X dL_same_400 (by omega) (by decide) (fun c400 => ?_) (fun c400 => ?_)
          · exact absurd c400 (by decide)
          · refine j_cut 14 (K403 v397 ?_)
            (try dsimp only)
            exact ⟨hC.kept hXa hfa, hfa⟩
    · have hp6 : p < np G.1 := by omega
      obtain ⟨hO1, hO2⟩ := hPO p hp6
      have hcp : cntI (tx G.1) p ≤ (tx G.1).length := List.countP_le_length
      refine j_iconst X dL_same_145 ?_
      refine j_istore X dL_same_146 rfl (Nat.le_of_ble_eq_true rfl) ?_
      refine j_iconst X dL_same_148 ?_
      refine j_istore X dL_same_149 rfl (Nat.le_of_ble_eq_true rfl) ?_
      refine j_cut 17 (j_loop (σ := Nat) (fun (d : Nat) => d ≤ 10) (fun (d : Nat) => 10 - d) (fun (d : Nat) => (v, [some (.ref x), some (.int xi), some (.ref (x + 235)), some (.ref (x + 236)), some (.ref (x + 232)), some (.ref (x + 233)), some (.ref (x + 234)), some (.ref (x + 237)), some (.int (I (((tx G.1).length : Nat) : Int))), some (.int (I ((chk (tx G.1) : Nat) : Int))), some (.int (I ((cntI (tx G.1) 0 : Nat) : Int))), some (.int (I bb)), some (.int (I (mm : Int))), some (.int (I 0)), some (.int (I (p : Int))), some (.int (I ((sU (fun d => if v (x + 234) d = (p : Int) then 1 else 0) d : Nat) : Int))), some (.int (I (d : Int)))])) ?_ 0 (by omega))
      intro d hx_ ih151
      dsimp only at hx_ ih151 ⊢
      have hd := hx_
      refine j_iload X dL_same_151 rfl ?_
      refine j_bipush X dL_same_153 (by decide) ?_
      refine j_icmp_ge (tgt := 184) X dL_same_155 (by omega) (by decide) (fun c155 => ?_) (fun c155 => ?_)
      · have hd10 : d = 10 := by omega
        subst hd10
        rw [← tx_cI (z := v (x + 234)) hN hoT hRT p]
        refine j_join (σ := Int × Nat) (fun (y_ : Int × Nat) => match y_ with | (b2, m2) => mb (tx G.1) (p + 1) = (b2, m2)) (fun (y_ : Int × Nat) => match y_ with | (b2, m2) => (v, [some (.ref x), some (.int xi), some (.ref (x + 235)), some (.ref (x + 236)), some (.ref (x + 232)), some (.ref (x + 233)), some (.ref (x + 234)), some (.ref (x + 237)), some (.int (I (((tx G.1).length : Nat) : Int))), some (.int (I ((chk (tx G.1) : Nat) : Int))), some (.int (I ((cntI (tx G.1) 0 : Nat) : Int))), some (.int (I b2)), some (.int (I (m2 : Int))), some (.int (I 0)), some (.int (I (p : Int))), none, none], [])) 199 ?_ (fun K199 => ?_)
        · intro y_ hx_
          obtain ⟨b2, m2⟩ := y_
          dsimp only at hx_ ⊢
          have hmb2 := hx_
          refine j_aload_n X dL_same_199 rfl ?_
          refine j_iload X dL_same_200 rfl ?_
          refine j_iconst X dL_same_202 ?_
          refine j_callV (nn := 2) X dL_same_203 (c_X4_parcel l D nH sk v x (p : Int) 0 G hX hXR (by omega) (by omega)) gL_same_X4_parcel rfl ⟨rfl, rfl⟩ (by decide +kernel) ⟨Nat.le_of_ble_eq_true rfl, Nat.le_of_ble_eq_true rfl⟩ hX.1 ⟨rfl, rfl⟩ rfl rfl (Nat.le_of_ble_eq_true rfl) ⟨Nat.zero_le _, Nat.zero_le _⟩ (kI (fun z203 v203 h203 => ?_))
          obtain ⟨rfl, rfl⟩ := h203
          rw [A_p0 hp6]
          have hO8 := hO2.1
          refine j_aload X dL_same_206 rfl ?_
          refine j_bipush X dL_same_208 (by decide) ?_
          refine j_iload X dL_same_210 rfl ?_
          refine j_imul X dL_same_212 ?_
          refine j_ialN X dL_same_213 (by assumption) (9 * p) (by omega) (by omega) (by decide) ?_
          rw [hO1.1]
          refine j_icmp_eq (tgt := 219) X dL_same_214 (by omega) (by decide) (fun c214 => ?_) (fun c214 => ?_)
          · refine j_iconst X dL_same_219 ?_
            refine j_istore X dL_same_220 rfl (Nat.le_of_ble_eq_true rfl) ?_
            refine j_cut 17 (j_loop (σ := Nat) (fun (k : Nat) => 1 ≤ k ∧ k ≤ 9) (fun (k : Nat) => 9 - k) (fun (k : Nat) => (v, [some (.ref x), some (.int xi), some (.ref (x + 235)), some (.ref (x + 236)), some (.ref (x + 232)), some (.ref (x + 233)), some (.ref (x + 234)), some (.ref (x + 237)), some (.int (I (((tx G.1).length : Nat) : Int))), some (.int (I ((chk (tx G.1) : Nat) : Int))), some (.int (I ((cntI (tx G.1) 0 : Nat) : Int))), some (.int (I b2)), some (.int (I (m2 : Int))), some (.int (I 0)), some (.int (I (p : Int))), none, some (.int (I (k : Int)))])) ?_ 1 (by omega))
            intro k hx_ ih222
            dsimp only at hx_ ih222 ⊢
            have hk := hx_
            refine j_iload X dL_same_222 rfl ?_
            refine j_bipush X dL_same_224 (by decide) ?_
            refine j_icmp_gt (tgt := 306) X dL_same_226 (by omega) (by decide) (fun c226 => ?_) (fun c226 => ?_)
            · refine j_aload_n X dL_same_306 rfl ?_
              refine j_iload X dL_same_307 rfl ?_
              refine j_bipush X dL_same_309 (by decide) ?_
              refine j_callV (nn := 2) X dL_same_311 (c_X4_parcel l D nH sk v x (p : Int) 9 G hX hXR (by omega) (by omega)) gL_same_X4_parcel rfl ⟨rfl, rfl⟩ (by decide +kernel) ⟨Nat.le_of_ble_eq_true rfl, Nat.le_of_ble_eq_true rfl⟩ hX.1 ⟨rfl, rfl⟩ rfl rfl (Nat.le_of_ble_eq_true rfl) ⟨Nat.zero_le _, Nat.zero_le _⟩ (kI (fun z311 v311 h311 => ?_))
              obtain ⟨rfl, rfl⟩ := h311
              rw [A_p9 hp6 hn2]
              have hba := Nat.mod_lt (wtL G.1 0 / 2 ^ p) (show 0 < 2 by decide)
              have hbb := Nat.mod_lt (wtL G.1 1 / 2 ^ p) (show 0 < 2 by decide)
              have hbc := Nat.mod_lt (loL G.1 0 / 2 ^ p) (show 0 < 2 by decide)
              have hbd := Nat.mod_lt (loL G.1 1 / 2 ^ p) (show 0 < 2 by decide)
              refine j_aload X dL_same_314 rfl ?_
              refine j_iconst X dL_same_316 ?_
              refine j_ialN X dL_same_317 (by assumption) (2) (by omega) (by omega) (by decide) ?_
              rw [hq2]
              refine j_iload X dL_same_318 rfl ?_
              refine j_ishr X dL_same_320 (b_shr (by omega) (by omega)) ?_
              refine j_iconst X dL_same_321 ?_
              refine j_iand X dL_same_322 b_bit1 ?_
              refine j_iconst X dL_same_323 ?_
              refine j_aload X dL_same_324 rfl ?_
              refine j_iconst X dL_same_326 ?_
              refine j_ialN X dL_same_327 (by assumption) (3) (by omega) (by omega) (by decide) ?_
              rw [hq3]
              refine j_iload X dL_same_328 rfl ?_
              refine j_ishr X dL_same_330 (b_shr (by omega) (by omega)) ?_
              refine j_iconst X dL_same_331 ?_
              refine j_iand X dL_same_332 b_bit1 ?_
              refine j_imul X dL_same_333 ?_
              refine j_iadd X dL_same_334 ?_
              refine j_icmp_ne (tgt := 370) X dL_same_335 (by omega) (by decide) (fun c335 => ?_) (fun c335 => ?_)
              · exact absurd rfl c335
              · refine j_aload_n X dL_same_338 rfl ?_
                refine j_iload X dL_same_339 rfl ?_
                refine j_bipush X dL_same_341 (by decide) ?_
                refine j_callV (nn := 2) X dL_same_343 (c_X4_parcel l D nH sk v x (p : Int) 10 G hX hXR (by omega) (by omega)) gL_same_X4_parcel rfl ⟨rfl, rfl⟩ (by decide +kernel) ⟨Nat.le_of_ble_eq_true rfl, Nat.le_of_ble_eq_true rfl⟩ hX.1 ⟨rfl, rfl⟩ rfl rfl (Nat.le_of_ble_eq_true rfl) ⟨Nat.zero_le _, Nat.zero_le _⟩ (kI (fun z343 v343 h343 => ?_))
                obtain ⟨rfl, rfl⟩ := h343
                rw [A_p10 hp6 hn2]
                refine j_aload X dL_same_346 rfl ?_
                refine j_iconst X dL_same_348 ?_
                refine j_ialN X dL_same_349 (by assumption) (4) (by omega) (by omega) (by decide) ?_
                rw [hq4]
                refine j_iload X dL_same_350 rfl ?_
                refine j_ishr X dL_same_352 (b_shr (by omega) (by omega)) ?_
                refine j_iconst X dL_same_353 ?_
                refine j_iand X dL_same_354 b_bit1 ?_
                refine j_iconst X dL_same_355 ?_
                refine j_aload X dL_same_356 rfl ?_
                refine j_iconst X dL_same_358 ?_
                refine j_ialN X dL_same_359 (by assumption) (5) (by omega) (by omega) (by decide) ?_
                rw [hq5]
                refine j_iload X dL_same_360 rfl ?_
                refine j_ishr X dL_same_362 (b_shr (by omega) (by omega)) ?_
                refine j_iconst X dL_same_363 ?_
                refine j_iand X dL_same_364 b_bit1 ?_
                refine j_imul X dL_same_365 ?_
                refine j_iadd X dL_same_366 ?_
                refine j_icmp_eq (tgt := 372) X dL_same_367 (by omega) (by decide) (fun c367 => ?_) (fun c367 => ?_)
                · refine j_iinc X dL_same_372 rfl rfl (Nat.le_of_ble_eq_true rfl) ?_
                  refine j_goto (tgt := 136) X dL_same_375 (by decide) ?_
                  refine j_cut 15 (ih136 (p + 1, b2, m2) ?_ (by (try dsimp only); omega))
                  (try dsimp only)
                  exact ⟨by omega, hmb2⟩
                · exact absurd rfl c367
            · refine j_aload_n X dL_same_229 rfl ?_
              refine j_iload X dL_same_230 rfl ?_
              refine j_iload X dL_same_232 rfl ?_
              refine j_callV (nn := 2) X dL_same_234 (c_X4_parcel l D nH sk v x (p : Int) (k : Int) G hX hXR (by omega) (by omega)) gL_same_X4_parcel rfl ⟨rfl, rfl⟩ (by decide +kernel) ⟨Nat.le_of_ble_eq_true rfl, Nat.le_of_ble_eq_true rfl⟩ hX.1 ⟨rfl, rfl⟩ rfl rfl (Nat.le_of_ble_eq_true rfl) ⟨Nat.zero_le _, Nat.zero_le _⟩ (kI (fun z234 v234 h234 => ?_))
              obtain ⟨rfl, rfl⟩ := h234
              refine j_iload X dL_same_237 rfl ?_
              refine j_aload X dL_same_239 rfl ?_
              refine j_bipush X dL_same_241 (by decide) ?_
              refine j_iload X dL_same_243 rfl ?_
              refine j_imul X dL_same_245 ?_
              refine j_ialN X dL_same_246 (by assumption) (9 * p) (by omega) (by omega) (by decide) ?_
              rw [hO1.1]
              refine j_icmp_le (tgt := 255) X dL_same_247 (by omega) (by decide) (fun c247 => ?_) (fun c247 => ?_)
              · have hk1 : k - 1 < (od G.1 p).length := by omega
                rw [A_pk hp6 (by omega) (by omega) hk1]
                have hxo := hO2.2.1 _ (List.getElem_mem hk1)
                obtain ⟨he1, he2, he3⟩ := enc_10 hxo
                unfold oO at hxo
                refine j_bipush X dL_same_255 (by decide) ?_
                refine j_aload X dL_same_257 rfl ?_
                refine j_bipush X dL_same_259 (by decide) ?_
                refine j_iload X dL_same_261 rfl ?_
                refine j_imul X dL_same_263 ?_
                refine j_iload X dL_same_264 rfl ?_
                refine j_iadd X dL_same_266 ?_
                refine j_ialN X dL_same_267 (by assumption) (9 * p + 1 + (k - 1)) (by omega) (by omega) (by decide) ?_
                rw [hO1.2 (k - 1) hk1]
                refine j_bipush X dL_same_268 (by decide) ?_
                refine j_irem X dL_same_270 (by omega) (by omega) ?_
                refine j_iadd X dL_same_271 ?_
                refine j_aload X dL_same_272 rfl ?_
                refine j_bipush X dL_same_274 (by decide) ?_
                refine j_iload X dL_same_276 rfl ?_
                refine j_imul X dL_same_278 ?_
                refine j_iload X dL_same_279 rfl ?_
                refine j_iadd X dL_same_281 ?_
                refine j_ialN X dL_same_282 (by assumption) (9 * p + 1 + (k - 1)) (by omega) (by omega) (by decide) ?_
                rw [hO1.2 (k - 1) hk1]
                refine j_bipush X dL_same_283 (by decide) ?_
                refine j_icmp_le (tgt := 293) X dL_same_285 (by omega) (by decide) (fun c285 => ?_) (fun c285 => ?_)
                · refine j_iconst X dL_same_293 ?_
                  refine j_iadd X dL_same_294 ?_
                  refine j_icmp_eq (tgt := 300) X dL_same_295 (by omega) (by decide) (fun c295 => ?_) (fun c295 => ?_)
                  · refine j_iinc X dL_same_300 rfl rfl (Nat.le_of_ble_eq_true rfl) ?_
                    refine j_goto (tgt := 222) X dL_same_303 (by decide) ?_
                    refine j_cut 17 (ih222 (k + 1) ?_ (by (try dsimp only); omega))
                    (try dsimp only)
                    exact (by omega)
                  · exact absurd (by omega) c295
                · refine j_bipush X dL_same_288 (by decide) ?_
                  refine j_goto (tgt := 294) X dL_same_290 (by decide) ?_
                  refine j_iadd X dL_same_294 ?_
                  refine j_icmp_eq (tgt := 300) X dL_same_295 (by omega) (by decide) (fun c295 => ?_) (fun c295 => ?_)
                  · refine j_iinc X dL_same_300 rfl rfl (Nat.le_of_ble_eq_true rfl) ?_
                    refine j_goto (tgt := 222) X dL_same_303 (by decide) ?_
                    refine j_cut 17 (ih222 (k + 1) ?_ (by (try dsimp only); omega))
                    (try dsimp only)
                    exact (by omega)
                  · exact absurd (by omega) c295
              · rw [A_pn hp6 (by omega) (by omega) (by omega)]
                refine j_bipush X dL_same_250 (by decide) ?_
                refine j_goto (tgt := 295) X dL_same_252 (by decide) ?_
                refine j_icmp_eq (tgt := 300) X dL_same_295 (by omega) (by decide) (fun c295 => ?_) (fun c295 => ?_)
                · refine j_iinc X dL_same_300 rfl rfl (Nat.le_of_ble_eq_true rfl) ?_
                  refine j_goto (tgt := 222) X dL_same_303 (by decide) ?_
                  refine j_cut 17 (ih222 (k + 1) ?_ (by (try dsimp only); omega))
                  (try dsimp only)
                  exact (by omega)
                · exact absurd (by omega) c295
          · exact absurd rfl c214
        · refine j_iload X dL_same_184 rfl ?_
          refine j_iload X dL_same_186 rfl ?_
          refine j_icmp_le (tgt := 199) X dL_same_188 (by omega) (by decide) (fun c188 => ?_) (fun c188 => ?_)
          · refine j_cut 15 (K199 (bb, mm) ?_)
            (try dsimp only)
            exact (by rw [mb_s, hmb, if_neg (by omega)])
          · refine j_iload X dL_same_191 rfl ?_
            refine j_istore X dL_same_193 rfl (Nat.le_of_ble_eq_true rfl) ?_
            refine j_iload X dL_same_195 rfl ?_
            refine j_istore X dL_same_197 rfl (Nat.le_of_ble_eq_true rfl) ?_
            refine j_cut 15 (K199 ((p : Int), cntI (tx G.1) p) ?_)
            (try dsimp only)
            exact (by rw [mb_s, hmb, if_pos (by omega)])
      · refine j_iload X dL_same_158 rfl ?_
        refine j_aload X dL_same_160 rfl ?_
        refine j_iload X dL_same_162 rfl ?_
        refine j_ialN X dL_same_164 (by assumption) (d) (by omega) (by omega) (by decide) ?_
        refine j_iload X dL_same_165 rfl ?_
        have hzd := (hRT d (by omega)).bd
        refine j_icmp_ne (tgt := 174) X dL_same_167 (by omega) (by decide) (fun c167 => ?_) (fun c167 => ?_)
        · refine j_iconst X dL_same_174 ?_
          refine j_iadd X dL_same_175 ?_
          first
          | refine j_topi (sU_step (f := (fun d => if v (x + 234) d = (p : Int) then 1 else 0)) (a := 0) (if_neg (by omega)) rfl) ?_
          | refine j_topi (sU_step (f := (fun d => if v (x + 234) d = (p : Int) then 1 else 0)) (a := 1) (if_pos (by omega)) rfl) ?_
          refine j_istore X dL_same_176 rfl (Nat.le_of_ble_eq_true rfl) ?_
          refine j_iinc X dL_same_178 rfl rfl (Nat.le_of_ble_eq_true rfl) ?_
          refine j_goto (tgt := 151) X dL_same_181 (by decide) ?_
          refine j_cut 17 (ih151 (d + 1) ?_ (by (try dsimp only); omega))
          (try dsimp only)
          exact (by omega)
        · refine j_iconst X dL_same_170 ?_
          refine j_goto (tgt := 175) X dL_same_171 (by decide) ?_
          refine j_iadd X dL_same_175 ?_
          first
          | refine j_topi (sU_step (f := (fun d => if v (x + 234) d = (p : Int) then 1 else 0)) (a := 0) (if_neg (by omega)) rfl) ?_
          | refine j_topi (sU_step (f := (fun d => if v (x + 234) d = (p : Int) then 1 else 0)) (a := 1) (if_pos (by omega)) rfl) ?_
          refine j_istore X dL_same_176 rfl (Nat.le_of_ble_eq_true rfl) ?_
          refine j_iinc X dL_same_178 rfl rfl (Nat.le_of_ble_eq_true rfl) ?_
          refine j_goto (tgt := 151) X dL_same_181 (by decide) ?_
          refine j_cut 17 (ih151 (d + 1) ?_ (by (try dsimp only); omega))
          (try dsimp only)
          exact (by omega)
  · have hzd := (hRT d (by omega)).bd
    refine j_iload X dL_same_29 rfl ?_
    refine j_aload X dL_same_31 rfl ?_
    refine j_iload X dL_same_33 rfl ?_
    refine j_ialN X dL_same_35 (by assumption) (d) (by omega) (by omega) (by decide) ?_
    refine j_if_ge (tgt := 43) X dL_same_36 (by omega) (by decide) (fun c36 => ?_) (fun c36 => ?_)
    · obtain ⟨j, hj⟩ : ∃ j : Nat, v (x + 234) d = (j : Int) := ⟨_, (Int.toNat_of_nonneg c36).symm⟩
      refine j_iconst X dL_same_43 ?_
      refine j_iadd X dL_same_44 ?_
      first
      | refine j_topi (sU_step (f := (fun d => if v (x + 234) d < 0 then 0 else 1)) (a := 0) (if_pos (by omega)) rfl) ?_
      | refine j_topi (sU_step (f := (fun d => if v (x + 234) d < 0 then 0 else 1)) (a := 1) (if_neg (by omega)) rfl) ?_
      refine j_istore X dL_same_45 rfl (Nat.le_of_ble_eq_true rfl) ?_
      refine j_iload X dL_same_47 rfl ?_
      refine j_aload X dL_same_49 rfl ?_
      refine j_iload X dL_same_51 rfl ?_
      refine j_ialN X dL_same_53 (by assumption) (d) (by omega) (by omega) (by decide) ?_
      refine j_if_ge (tgt := 61) X dL_same_54 (by omega) (by decide) (fun c54 => ?_) (fun c54 => ?_)
      · refine j_bipush X dL_same_61 (by decide) ?_
        refine j_iload X dL_same_63 rfl ?_
        refine j_iadd X dL_same_65 ?_
        refine j_aload X dL_same_66 rfl ?_
        refine j_iload X dL_same_68 rfl ?_
        refine j_ialN X dL_same_70 (by assumption) (d) (by omega) (by omega) (by decide) ?_
        refine j_iconst X dL_same_71 ?_
        refine j_iadd X dL_same_72 ?_
        refine j_imul X dL_same_73 ?_
        refine j_iadd X dL_same_74 ?_
        first
        | refine j_topi (sU_step (f := (fun d => if v (x + 234) d < 0 then 0 else (d + 10) * ((v (x + 234) d).toNat + 1))) (a := 0) (if_pos (by omega)) rfl) ?_
        | refine j_topi (sU_step (f := (fun d => if v (x + 234) d < 0 then 0 else (d + 10) * ((v (x + 234) d).toNat + 1))) (if_neg (by omega)) (by rw [hj, Int.toNat_natCast, Int.natCast_mul, Int.natCast_add, Int.natCast_add, Int.add_comm 10]; rfl)) ?_
        refine j_istore X dL_same_75 rfl (Nat.le_of_ble_eq_true rfl) ?_
        refine j_iload X dL_same_77 rfl ?_
        refine j_aload X dL_same_79 rfl ?_
        refine j_iload X dL_same_81 rfl ?_
        refine j_ialN X dL_same_83 (by assumption) (d) (by omega) (by omega) (by decide) ?_
        refine j_if_ne (tgt := 91) X dL_same_84 (by omega) (by decide) (fun c84 => ?_) (fun c84 => ?_)
        · refine j_iconst X dL_same_91 ?_
          refine j_iadd X dL_same_92 ?_
          first
          | refine j_topi (sU_step (f := (fun d => if v (x + 234) d = ((0 : Nat) : Int) then 1 else 0)) (a := 0) (if_neg (by omega)) rfl) ?_
          | refine j_topi (sU_step (f := (fun d => if v (x + 234) d = ((0 : Nat) : Int) then 1 else 0)) (a := 1) (if_pos (by omega)) rfl) ?_
          refine j_istore X dL_same_93 rfl (Nat.le_of_ble_eq_true rfl) ?_
          refine j_aload_n X dL_same_95 rfl ?_
          refine j_bipush X dL_same_96 (by decide) ?_
          refine j_iload X dL_same_98 rfl ?_
          refine j_iadd X dL_same_100 ?_
          refine j_callV (nn := 1) X dL_same_101 (c_X4_text l D nH sk v x (10 + (d : Int)) G hX hXR (by omega)) gL_same_X4_text rfl ⟨rfl, rfl⟩ (by decide +kernel) ⟨Nat.le_of_ble_eq_true rfl, Nat.le_of_ble_eq_true rfl⟩ hX.1 ⟨rfl, rfl⟩ rfl rfl (Nat.le_of_ble_eq_true rfl) ⟨Nat.zero_le _, Nat.zero_le _⟩ (kI (fun z101 v101 h101 => ?_))
          obtain ⟨rfl, rfl⟩ := h101
          first
          | rw [A_text (by omega) hN (hRT d (by omega)), if_pos (by omega)]
          | rw [A_text (by omega) hN (hRT d (by omega)), if_neg (by omega)]
          refine j_aload X dL_same_104 rfl ?_
          refine j_iload X dL_same_106 rfl ?_
          refine j_ialN X dL_same_108 (by assumption) (d) (by omega) (by omega) (by decide) ?_
          refine j_if_ge (tgt := 117) X dL_same_109 (by omega) (by decide) (fun c109 => ?_) (fun c109 => ?_)
          · refine j_aload X dL_same_117 rfl ?_
            refine j_iload X dL_same_119 rfl ?_
            refine j_ialN X dL_same_121 (by assumption) (d) (by omega) (by omega) (by decide) ?_
            refine j_icmp_eq (tgt := 127) X dL_same_122 (by omega) (by decide) (fun c122 => ?_) (fun c122 => ?_)
            · refine j_iinc X dL_same_127 rfl rfl (Nat.le_of_ble_eq_true rfl) ?_
              refine j_goto (tgt := 22) X dL_same_130 (by decide) ?_
              refine j_cut 15 (ih22 (d + 1) ?_ (by (try dsimp only); omega))
              (try dsimp only)
              exact (by omega)
            · exact absurd rfl c122
          · exfalso; omega
        · refine j_iconst X dL_same_87 ?_
          refine j_goto (tgt := 92) X dL_same_88 (by decide) ?_
          refine j_iadd X dL_same_92 ?_
          first
          | refine j_topi (sU_step (f := (fun d => if v (x + 234) d = ((0 : Nat) : Int) then 1 else 0)) (a := 0) (if_neg (by omega)) rfl) ?_
          | refine j_topi (sU_step (f := (fun d => if v (x + 234) d = ((0 : Nat) : Int) then 1 else 0)) (a := 1) (if_pos (by omega)) rfl) ?_
          refine j_istore X dL_same_93 rfl (Nat.le_of_ble_eq_true rfl) ?_
          refine j_aload_n X dL_same_95 rfl ?_
          refine j_bipush X dL_same_96 (by decide) ?_
          refine j_iload X dL_same_98 rfl ?_
          refine j_iadd X dL_same_100 ?_
          refine j_callV (nn := 1) X dL_same_101 (c_X4_text l D nH sk v x (10 + (d : Int)) G hX hXR (by omega)) gL_same_X4_text rfl ⟨rfl, rfl⟩ (by decide +kernel) ⟨Nat.le_of_ble_eq_true rfl, Nat.le_of_ble_eq_true rfl⟩ hX.1 ⟨rfl, rfl⟩ rfl rfl (Nat.le_of_ble_eq_true rfl) ⟨Nat.zero_le _, Nat.zero_le _⟩ (kI (fun z101 v101 h101 => ?_))
          obtain ⟨rfl, rfl⟩ := h101
          first
          | rw [A_text (by omega) hN (hRT d (by omega)), if_pos (by omega)]
          | rw [A_text (by omega) hN (hRT d (by omega)), if_neg (by omega)]
          refine j_aload X dL_same_104 rfl ?_
          refine j_iload X dL_same_106 rfl ?_
          refine j_ialN X dL_same_108 (by assumption) (d) (by omega) (by omega) (by decide) ?_
          refine j_if_ge (tgt := 117) X dL_same_109 (by omega) (by decide) (fun c109 => ?_) (fun c109 => ?_)
          · refine j_aload X dL_same_117 rfl ?_
            refine j_iload X dL_same_119 rfl ?_
            refine j_ialN X dL_same_121 (by assumption) (d) (by omega) (by omega) (by decide) ?_
            refine j_icmp_eq (tgt := 127) X dL_same_122 (by omega) (by decide) (fun c122 => ?_) (fun c122 => ?_)
            · refine j_iinc X dL_same_127 rfl rfl (Nat.le_of_ble_eq_true rfl) ?_
              refine j_goto (tgt := 22) X dL_same_130 (by decide) ?_
              refine j_cut 15 (ih22 (d + 1) ?_ (by (try dsimp only); omega))
              (try dsimp only)
              exact (by omega)
            · exact absurd rfl c122
          · exfalso; omega
      · exfalso; omega
    · refine j_iconst X dL_same_39 ?_
      refine j_goto (tgt := 44) X dL_same_40 (by decide) ?_
      refine j_iadd X dL_same_44 ?_
      first
      | refine j_topi (sU_step (f := (fun d => if v (x + 234) d < 0 then 0 else 1)) (a := 0) (if_pos (by omega)) rfl) ?_
      | refine j_topi (sU_step (f := (fun d => if v (x + 234) d < 0 then 0 else 1)) (a := 1) (if_neg (by omega)) rfl) ?_
      refine j_istore X dL_same_45 rfl (Nat.le_of_ble_eq_true rfl) ?_
      refine j_iload X dL_same_47 rfl ?_
      refine j_aload X dL_same_49 rfl ?_
      refine j_iload X dL_same_51 rfl ?_
      refine j_ialN X dL_same_53 (by assumption) (d) (by omega) (by omega) (by decide) ?_
      refine j_if_ge (tgt := 61) X dL_same_54 (by omega) (by decide) (fun c54 => ?_) (fun c54 => ?_)
      · exfalso; omega
      · refine j_iconst X dL_same_57 ?_
        refine j_goto (tgt := 74) X dL_same_58 (by decide) ?_
        refine j_iadd X dL_same_74 ?_
        first
        | refine j_topi (sU_step (f := (fun d => if v (x + 234) d < 0 then 0 else (d + 10) * ((v (x + 234) d).toNat + 1))) (a := 0) (if_pos (by omega)) rfl) ?_
        | refine j_topi (sU_step (f := (fun d => if v (x + 234) d < 0 then 0 else (d + 10) * ((v (x + 234) d).toNat + 1))) (if_neg (by omega)) (by rw [hj, Int.toNat_natCast, Int.natCast_mul, Int.natCast_add, Int.natCast_add, Int.add_comm 10]; rfl)) ?_
        refine j_istore X dL_same_75 rfl (Nat.le_of_ble_eq_true rfl) ?_
        refine j_iload X dL_same_77 rfl ?_
        refine j_aload X dL_same_79 rfl ?_
        refine j_iload X dL_same_81 rfl ?_
        refine j_ialN X dL_same_83 (by assumption) (d) (by omega) (by omega) (by decide) ?_
        refine j_if_ne (tgt := 91) X dL_same_84 (by omega) (by decide) (fun c84 => ?_) (fun c84 => ?_)
        · refine j_iconst X dL_same_91 ?_
          refine j_iadd X dL_same_92 ?_
          first
          | refine j_topi (sU_step (f := (fun d => if v (x + 234) d = ((0 : Nat) : Int) then 1 else 0)) (a := 0) (if_neg (by omega)) rfl) ?_
          | refine j_topi (sU_step (f := (fun d => if v (x + 234) d = ((0 : Nat) : Int) then 1 else 0)) (a := 1) (if_pos (by omega)) rfl) ?_
          refine j_istore X dL_same_93 rfl (Nat.le_of_ble_eq_true rfl) ?_
          refine j_aload_n X dL_same_95 rfl ?_
          refine j_bipush X dL_same_96 (by decide) ?_
          refine j_iload X dL_same_98 rfl ?_
          refine j_iadd X dL_same_100 ?_
          refine j_callV (nn := 1) X dL_same_101 (c_X4_text l D nH sk v x (10 + (d : Int)) G hX hXR (by omega)) gL_same_X4_text rfl ⟨rfl, rfl⟩ (by decide +kernel) ⟨Nat.le_of_ble_eq_true rfl, Nat.le_of_ble_eq_true rfl⟩ hX.1 ⟨rfl, rfl⟩ rfl rfl (Nat.le_of_ble_eq_true rfl) ⟨Nat.zero_le _, Nat.zero_le _⟩ (kI (fun z101 v101 h101 => ?_))
          obtain ⟨rfl, rfl⟩ := h101
          first
          | rw [A_text (by omega) hN (hRT d (by omega)), if_pos (by omega)]
          | rw [A_text (by omega) hN (hRT d (by omega)), if_neg (by omega)]
          refine j_aload X dL_same_104 rfl ?_
          refine j_iload X dL_same_106 rfl ?_
          refine j_ialN X dL_same_108 (by assumption) (d) (by omega) (by omega) (by decide) ?_
          refine j_if_ge (tgt := 117) X dL_same_109 (by omega) (by decide) (fun c109 => ?_) (fun c109 => ?_)
          · exfalso; omega
          · refine j_bipush X dL_same_112 (by decide) ?_
            refine j_goto (tgt := 122) X dL_same_114 (by decide) ?_
            refine j_icmp_eq (tgt := 127) X dL_same_122 (by omega) (by decide) (fun c122 => ?_) (fun c122 => ?_)
            · refine j_iinc X dL_same_127 rfl rfl (Nat.le_of_ble_eq_true rfl) ?_
              refine j_goto (tgt := 22) X dL_same_130 (by decide) ?_
              refine j_cut 15 (ih22 (d + 1) ?_ (by (try dsimp only); omega))
              (try dsimp only)
              exact (by omega)
            · exact absurd rfl c122
        · exfalso; omega
