/-! ===== the law's owner ===== -/
def rmL_owner : Room := { frames := 26, cells := 0, slots := 0, locals := 2151 }
set_option maxHeartbeats 4000000 in
set_option maxRecDepth 100000 in
theorem c_L_owner (l : Launch) (D : va_G) (nH : Nat) (sk : Sk) (v : Mem) (x h : Nat) (xi : Int32) (G : GS) (hLd : Ld D sk x) (hC : LC v x G) (hh : h < no G.1) (hB : LB v (x + 235 + h) (bn G.1 h)) : CtI l D yL_owner wsL_owner rmL_owner [.ref x, .int (I (h : Int)), .int xi, .ref (x + 235 + h), .ref (x + 232), .ref (x + 233), .ref (x + 234), .ref (x + 237)] nH sk v (fun z v' => z = 1 ∧ XR v' x G ∧ frT v v' x) := by
  refine ct_of (cc := cL_owner) (maxL := 15) (ret := (some .boolean)) rfl rfl (Nat.le_of_ble_eq_true rfl) ?_
  intro p_ e_ s_ m_ args_ below_ meth_ c_ X hmn hsz
  obtain ⟨hX, hq, hpa, ha, hA, hBb, ht⟩ := id hLd
  obtain ⟨hXR, ⟨hn2, hoT, hN, hlt⟩, ⟨hq0, hn6, hPO⟩, ⟨hq1, hqw⟩, hRT⟩ := id hC
  obtain ⟨hR, hL, hPh⟩ := id hB
  have hl := hB.len
  have hu := hN.unq
  have hb : sk (x + 235 + h) = some (eA D 10 60) := by rcases (show h = 0 ∨ h = 1 by omega) with rfl | rfl; exact hA; exact hBb
  have hO0 : OW v v x h G := ⟨hC, hB, frT.refl _ _⟩
  have h64 := p2_64 hn6
  have hwh := hlt h (by omega)
  have hqw1 : v (x + 232) (2 + h) = (wt G.1 h : Int) := by rw [(hqw h (by omega)).1]; unfold wtL; rw [if_pos hh]
  have hqw2 : v (x + 232) (4 + h) = (lo_ G.1 h : Int) := by rw [(hqw h (by omega)).2]; unfold loL; rw [if_pos hh]
  have hw64 : wt G.1 h < 64 := by have := hwh.1; unfold wtL at this; rw [if_pos hh] at this; omega
  have ho64 : lo_ G.1 h < 64 := by have := hwh.2; unfold loL at this; rw [if_pos hh] at this; omega
  obtain ⟨hW1, hW2, hW3, hW4⟩ := W_all hL hoT hl
  have hchk := chk_le (L := bn G.1 h) (fun x hx => (hL.b x hx).2)
  refine j_aload_n X dL_owner_0 rfl ?_
  refine j_aload X dL_owner_1 rfl ?_
  refine j_callS (nn := 2) X dL_owner_3 (c_L_wrongs l D nH sk v (x + 235 + h) (x + 234) (bn G.1 h) (tx G.1) hb ha hR hL hl hRT hu) gL_owner_L_wrongs rfl ⟨rfl, rfl⟩ (by decide +kernel) ⟨Nat.le_of_ble_eq_true rfl, Nat.le_of_ble_eq_true rfl⟩ rfl rfl (Nat.le_of_ble_eq_true rfl) ⟨Nat.zero_le _, Nat.zero_le _⟩ (kI (fun z3 v3 h3 => ?_))
  obtain ⟨rfl, rfl⟩ := h3
  refine j_istore X dL_owner_6 rfl (Nat.le_of_ble_eq_true rfl) ?_
  refine j_iconst X dL_owner_8 ?_
  refine j_istore X dL_owner_9 rfl (Nat.le_of_ble_eq_true rfl) ?_
  refine j_iconst X dL_owner_11 ?_
  refine j_istore X dL_owner_12 rfl (Nat.le_of_ble_eq_true rfl) ?_
  refine j_cut 11 (j_loop (σ := Nat) (fun (d : Nat) => d ≤ 10) (fun (d : Nat) => 10 - d) (fun (d : Nat) => (v, [some (.ref x), some (.int (I (h : Int))), some (.int xi), some (.ref (x + 235 + h)), some (.ref (x + 232)), some (.ref (x + 233)), some (.ref (x + 234)), some (.ref (x + 237)), some (.int (I ((sU (W3 (bn G.1 h) (tx G.1)) 10 : Nat) : Int))), some (.int (I ((sU (fun k => cA (bn G.1 h) k * wchk k) (6 * d) : Nat) : Int))), some (.int (I (d : Int))), none, none, none, none])) ?_ 0 (by omega))
  intro d hx_ ih14
  dsimp only at hx_ ih14 ⊢
  have hd := hx_
  refine j_iload X dL_owner_14 rfl ?_
  refine j_bipush X dL_owner_16 (by decide) ?_
  refine j_icmp_ge (tgt := 265) X dL_owner_18 (by omega) (by decide) (fun c18 => ?_) (fun c18 => ?_)
  · have hd10 : d = 10 := by omega
    subst hd10
    rw [show sU (fun k => cA (bn G.1 h) k * wchk k) (6 * 10) = chk (bn G.1 h) from (chk_cA hL).symm]
    refine j_aload_n X dL_owner_265 rfl ?_
    refine j_iload_n X dL_owner_266 rfl ?_
    refine j_iconst X dL_owner_267 ?_
    refine j_callV (nn := 2) X dL_owner_268 (c_X4_of l D nH sk v x (h : Int) 0 G hX hXR (by omega) (by omega)) gL_owner_X4_of rfl ⟨rfl, rfl⟩ (by decide +kernel) ⟨Nat.le_of_ble_eq_true rfl, Nat.le_of_ble_eq_true rfl⟩ hX.1 ⟨rfl, rfl⟩ rfl rfl (Nat.le_of_ble_eq_true rfl) ⟨Nat.zero_le _, Nat.zero_le _⟩ (kI (fun z268 v268 h268 => ?_))
    obtain ⟨rfl, rfl⟩ := h268
    rw [A_o0 hh]
    refine j_aload_n X dL_owner_271 rfl ?_
    refine j_callS (nn := 1) X dL_owner_272 (c_L_all l D nH sk v (x + 235 + h) (bn G.1 h) hb hR hL) gL_owner_L_all rfl ⟨rfl, rfl⟩ (by decide +kernel) ⟨Nat.le_of_ble_eq_true rfl, Nat.le_of_ble_eq_true rfl⟩ rfl rfl (Nat.le_of_ble_eq_true rfl) ⟨Nat.zero_le _, Nat.zero_le _⟩ (kI (fun z272 v272 h272 => ?_))
    obtain ⟨rfl, rfl⟩ := h272
    refine j_icmp_ne (tgt := 416) X dL_owner_275 (by omega) (by decide) (fun c275 => ?_) (fun c275 => ?_)
    · exact absurd rfl c275
    · refine j_aload_n X dL_owner_278 rfl ?_
      refine j_iload_n X dL_owner_279 rfl ?_
      refine j_iconst X dL_owner_280 ?_
      refine j_callV (nn := 2) X dL_owner_281 (c_X4_of l D nH sk v x (h : Int) 1 G hX hXR (by omega) (by omega)) gL_owner_X4_of rfl ⟨rfl, rfl⟩ (by decide +kernel) ⟨Nat.le_of_ble_eq_true rfl, Nat.le_of_ble_eq_true rfl⟩ hX.1 ⟨rfl, rfl⟩ rfl rfl (Nat.le_of_ble_eq_true rfl) ⟨Nat.zero_le _, Nat.zero_le _⟩ (kI (fun z281 v281 h281 => ?_))
      obtain ⟨rfl, rfl⟩ := h281
      rw [A_o1 hh]
      refine j_aload X dL_owner_284 rfl ?_
      refine j_iconst X dL_owner_286 ?_
      refine j_iload_n X dL_owner_287 rfl ?_
      refine j_iadd X dL_owner_288 ?_
      refine j_ialN X dL_owner_289 (by assumption) (2 + h) (by omega) (by omega) (by decide) ?_
      rw [hqw1]
      refine j_icmp_ne (tgt := 416) X dL_owner_290 (by omega) (by decide) (fun c290 => ?_) (fun c290 => ?_)
      · exact absurd rfl c290
      · refine j_aload_n X dL_owner_293 rfl ?_
        refine j_iload_n X dL_owner_294 rfl ?_
        refine j_iconst X dL_owner_295 ?_
        refine j_callV (nn := 2) X dL_owner_296 (c_X4_of l D nH sk v x (h : Int) 2 G hX hXR (by omega) (by omega)) gL_owner_X4_of rfl ⟨rfl, rfl⟩ (by decide +kernel) ⟨Nat.le_of_ble_eq_true rfl, Nat.le_of_ble_eq_true rfl⟩ hX.1 ⟨rfl, rfl⟩ rfl rfl (Nat.le_of_ble_eq_true rfl) ⟨Nat.zero_le _, Nat.zero_le _⟩ (kI (fun z296 v296 h296 => ?_))
        obtain ⟨rfl, rfl⟩ := h296
        rw [A_o2 hh]
        refine j_aload X dL_owner_299 rfl ?_
        refine j_iconst X dL_owner_301 ?_
        refine j_iload_n X dL_owner_302 rfl ?_
        refine j_iadd X dL_owner_303 ?_
        refine j_ialN X dL_owner_304 (by assumption) (4 + h) (by omega) (by omega) (by decide) ?_
        rw [hqw2]
        refine j_icmp_ne (tgt := 416) X dL_owner_305 (by omega) (by decide) (fun c305 => ?_) (fun c305 => ?_)
        · exact absurd rfl c305
        · refine j_aload_n X dL_owner_308 rfl ?_
          refine j_iload_n X dL_owner_309 rfl ?_
          refine j_iconst X dL_owner_310 ?_
          refine j_callV (nn := 2) X dL_owner_311 (c_X4_of l D nH sk v x (h : Int) 3 G hX hXR (by omega) (by omega)) gL_owner_X4_of rfl ⟨rfl, rfl⟩ (by decide +kernel) ⟨Nat.le_of_ble_eq_true rfl, Nat.le_of_ble_eq_true rfl⟩ hX.1 ⟨rfl, rfl⟩ rfl rfl (Nat.le_of_ble_eq_true rfl) ⟨Nat.zero_le _, Nat.zero_le _⟩ (kI (fun z311 v311 h311 => ?_))
          obtain ⟨rfl, rfl⟩ := h311
          rw [A_o3 hh 3 (by omega)]
          refine j_iload X dL_owner_314 rfl ?_
          refine j_sipush X dL_owner_316 (by decide) ?_
          refine j_idiv X dL_owner_319 (by omega) (by omega) ?_
          refine j_icmp_ne (tgt := 416) X dL_owner_320 (by omega) (by decide) (fun c320 => ?_) (fun c320 => ?_)
          · exact absurd (by omega) c320
          · refine j_aload_n X dL_owner_323 rfl ?_
            refine j_iload_n X dL_owner_324 rfl ?_
            refine j_iconst X dL_owner_325 ?_
            refine j_callV (nn := 2) X dL_owner_326 (c_X4_of l D nH sk v x (h : Int) 4 G hX hXR (by omega) (by omega)) gL_owner_X4_of rfl ⟨rfl, rfl⟩ (by decide +kernel) ⟨Nat.le_of_ble_eq_true rfl, Nat.le_of_ble_eq_true rfl⟩ hX.1 ⟨rfl, rfl⟩ rfl rfl (Nat.le_of_ble_eq_true rfl) ⟨Nat.zero_le _, Nat.zero_le _⟩ (kI (fun z326 v326 h326 => ?_))
            obtain ⟨rfl, rfl⟩ := h326
            rw [A_o3 hh 4 (by omega)]
            refine j_iload X dL_owner_329 rfl ?_
            refine j_bipush X dL_owner_331 (by decide) ?_
            refine j_idiv X dL_owner_333 (by omega) (by omega) ?_
            refine j_bipush X dL_owner_334 (by decide) ?_
            refine j_irem X dL_owner_336 (by omega) (by omega) ?_
            refine j_icmp_ne (tgt := 416) X dL_owner_337 (by omega) (by decide) (fun c337 => ?_) (fun c337 => ?_)
            · exact absurd (by omega) c337
            · refine j_aload_n X dL_owner_340 rfl ?_
              refine j_iload_n X dL_owner_341 rfl ?_
              refine j_iconst X dL_owner_342 ?_
              refine j_callV (nn := 2) X dL_owner_343 (c_X4_of l D nH sk v x (h : Int) 5 G hX hXR (by omega) (by omega)) gL_owner_X4_of rfl ⟨rfl, rfl⟩ (by decide +kernel) ⟨Nat.le_of_ble_eq_true rfl, Nat.le_of_ble_eq_true rfl⟩ hX.1 ⟨rfl, rfl⟩ rfl rfl (Nat.le_of_ble_eq_true rfl) ⟨Nat.zero_le _, Nat.zero_le _⟩ (kI (fun z343 v343 h343 => ?_))
              obtain ⟨rfl, rfl⟩ := h343
              rw [A_o3 hh 5 (by omega)]
              refine j_iload X dL_owner_346 rfl ?_
              refine j_bipush X dL_owner_348 (by decide) ?_
              refine j_irem X dL_owner_350 (by omega) (by omega) ?_
              refine j_icmp_ne (tgt := 416) X dL_owner_351 (by omega) (by decide) (fun c351 => ?_) (fun c351 => ?_)
              · exact absurd (by omega) c351
              · refine j_aload_n X dL_owner_354 rfl ?_
                refine j_iload_n X dL_owner_355 rfl ?_
                refine j_bipush X dL_owner_356 (by decide) ?_
                refine j_callV (nn := 2) X dL_owner_358 (c_X4_of l D nH sk v x (h : Int) 6 G hX hXR (by omega) (by omega)) gL_owner_X4_of rfl ⟨rfl, rfl⟩ (by decide +kernel) ⟨Nat.le_of_ble_eq_true rfl, Nat.le_of_ble_eq_true rfl⟩ hX.1 ⟨rfl, rfl⟩ rfl rfl (Nat.le_of_ble_eq_true rfl) ⟨Nat.zero_le _, Nat.zero_le _⟩ (kI (fun z358 v358 h358 => ?_))
                obtain ⟨rfl, rfl⟩ := h358
                rw [A_o6 hh]
                refine j_join (σ := Int) (fun (z6 : Int) => z6 = if rt (bn G.1 h) (tx G.1) = true then 1 else 0) (fun (z6 : Int) => (v, [some (.ref x), some (.int (I (h : Int))), some (.int xi), some (.ref (x + 235 + h)), some (.ref (x + 232)), some (.ref (x + 233)), some (.ref (x + 234)), some (.ref (x + 237)), some (.int (I ((sU (W3 (bn G.1 h) (tx G.1)) 10 : Nat) : Int))), some (.int (I ((chk (bn G.1 h) : Nat) : Int))), none, none, none, none, none], [.int (I z6), .int (I (if rt (bn G.1 h) (tx G.1) = true then 1 else 0))])) 371 ?_ (fun K371 => ?_)
                · intro z6 hx_
                  dsimp only at hx_ ⊢
                  have hz6 := hx_
                  have hzb : (0 : Int) ≤ (if rt (bn G.1 h) (tx G.1) = true then 1 else 0) ∧ (if rt (bn G.1 h) (tx G.1) = true then (1 : Int) else 0) ≤ 1 := by split <;> omega
                  subst hz6
                  refine j_icmp_ne (tgt := 416) X dL_owner_371 (by omega) (by decide) (fun c371 => ?_) (fun c371 => ?_)
                  · exact absurd rfl c371
                  · refine j_aload_n X dL_owner_374 rfl ?_
                    refine j_iload_n X dL_owner_375 rfl ?_
                    refine j_bipush X dL_owner_376 (by decide) ?_
                    refine j_callV (nn := 2) X dL_owner_378 (c_X4_of l D nH sk v x (h : Int) 7 G hX hXR (by omega) (by omega)) gL_owner_X4_of rfl ⟨rfl, rfl⟩ (by decide +kernel) ⟨Nat.le_of_ble_eq_true rfl, Nat.le_of_ble_eq_true rfl⟩ hX.1 ⟨rfl, rfl⟩ rfl rfl (Nat.le_of_ble_eq_true rfl) ⟨Nat.zero_le _, Nat.zero_le _⟩ (kI (fun z378 v378 h378 => ?_))
                    obtain ⟨rfl, rfl⟩ := h378
                    rw [A_o7 hh]
                    refine j_iload X dL_owner_381 rfl ?_
                    refine j_sipush X dL_owner_383 (by decide) ?_
                    refine j_irem X dL_owner_386 (by omega) (by omega) ?_
                    refine j_icmp_ne (tgt := 416) X dL_owner_387 (by omega) (by decide) (fun c387 => ?_) (fun c387 => ?_)
                    · exact absurd (by omega) c387
                    · refine j_aload_n X dL_owner_390 rfl ?_
                      refine j_iload_n X dL_owner_391 rfl ?_
                      refine j_callV (nn := 1) X dL_owner_392 (c_X4_ifAllDone l D nH sk v x (h : Int) G hX hXR (by omega)) gL_owner_X4_ifAllDone rfl ⟨rfl, rfl⟩ (by decide +kernel) ⟨Nat.le_of_ble_eq_true rfl, Nat.le_of_ble_eq_true rfl⟩ hX.1 ⟨rfl, rfl⟩ rfl rfl (Nat.le_of_ble_eq_true rfl) ⟨Nat.zero_le _, Nat.zero_le _⟩ (kI (fun z392 v392 h392 => ?_))
                      obtain ⟨rfl, hXR1, hf1⟩ := h392
                      have hO1 := hO0.cls hXR1 hf1
                      rw [A_ia hh]
                      refine j_aload_n X dL_owner_395 rfl ?_
                      refine j_aload X dL_owner_396 rfl ?_
                      refine j_iconst X dL_owner_398 ?_
                      refine j_iload_n X dL_owner_399 rfl ?_
                      refine j_iadd X dL_owner_400 ?_
                      refine j_ialN X dL_owner_401 (by assumption) (2 + h) (by omega) (by omega) (by decide) ?_
                      rw [hf1 (x + 232) (by omega), hqw1]
                      refine j_aload X dL_owner_402 rfl ?_
                      refine j_aload X dL_owner_404 rfl ?_
                      refine j_aload X dL_owner_406 rfl ?_
                      refine j_aload X dL_owner_408 rfl ?_
                      refine j_callS (nn := 6) X dL_owner_410 (c_L_with l D nH sk v392 (x + 235 + h) (x + 232) (x + 233) (x + 234) (x + 237) (wt G.1 h) G.1 (bn G.1 h) hb hq hpa ha ht (by omega) hO1.2.1.1 hO1.2.1.2.1 hO1.2.1.2.2 hO1.1.2.2.1 hO1.1.2.2.2.2 hoT hu (by omega)) gL_owner_L_with rfl ⟨rfl, rfl⟩ (by decide +kernel) ⟨Nat.le_of_ble_eq_true rfl, Nat.le_of_ble_eq_true rfl⟩ rfl rfl (Nat.le_of_ble_eq_true rfl) ⟨Nat.zero_le _, Nat.zero_le _⟩ (kI (fun z410 v410 h410 => ?_))
                      obtain ⟨rfl, f410⟩ := h410
                      have hO410 := hO1.scr (by omega) f410
                      have hwb := (hO1.try (wt G.1 h)).1
                      refine j_icmp_eq (tgt := 418) X dL_owner_413 (by omega) (by decide) (fun c413 => ?_) (fun c413 => ?_)
                      · refine j_iconst X dL_owner_418 ?_
                        refine j_istore X dL_owner_419 rfl (Nat.le_of_ble_eq_true rfl) ?_
                        refine j_cut 11 (j_loop (σ := Nat × Mem) (fun (y_ : Nat × Mem) => match y_ with | (p, u) => p ≤ np G.1 ∧ OW v u x h G) (fun (y_ : Nat × Mem) => match y_ with | (p, u) => np G.1 - p) (fun (y_ : Nat × Mem) => match y_ with | (p, u) => (u, [some (.ref x), some (.int (I (h : Int))), some (.int xi), some (.ref (x + 235 + h)), some (.ref (x + 232)), some (.ref (x + 233)), some (.ref (x + 234)), some (.ref (x + 237)), some (.int (I ((sU (W3 (bn G.1 h) (tx G.1)) 10 : Nat) : Int))), some (.int (I ((chk (bn G.1 h) : Nat) : Int))), some (.int (I (p : Int))), none, none, none, none])) ?_ (0, v410) ⟨by omega, hO410⟩)
                        intro y_ hx_ ih421
                        obtain ⟨p, u⟩ := y_
                        dsimp only at hx_ ih421 ⊢
                        obtain ⟨hp, hO⟩ := hx_
                        refine j_iload X dL_owner_421 rfl ?_
                        refine j_aload X dL_owner_423 rfl ?_
                        refine j_iconst X dL_owner_425 ?_
                        refine j_ialN X dL_owner_426 (by assumption) (0) rfl (by omega) (by decide) ?_
                        rw [hO.nn]
                        refine j_icmp_ge (tgt := 464) X dL_owner_427 (by omega) (by decide) (fun c427 => ?_) (fun c427 => ?_)
                        · refine j_iload_n X dL_owner_464 rfl ?_
                          refine j_iconst X dL_owner_465 ?_
                          refine j_callS (nn := 2) X dL_owner_466 (c_L_low l D nH sk u xi 3 (by omega)) gL_owner_L_low rfl ⟨rfl, rfl⟩ (by decide +kernel) ⟨Nat.le_of_ble_eq_true rfl, Nat.le_of_ble_eq_true rfl⟩ rfl rfl (Nat.le_of_ble_eq_true rfl) ⟨Nat.zero_le _, Nat.zero_le _⟩ (kI (fun z466 v466 h466 => ?_))
                          obtain ⟨hz466, rfl⟩ := h466
                          refine j_if_eq (tgt := 474) X dL_owner_469 (by omega) (by decide) (fun c469 => ?_) (fun c469 => ?_)
                          · refine j_bipush X dL_owner_474 (by decide) ?_
                            refine j_istore X dL_owner_476 rfl (Nat.le_of_ble_eq_true rfl) ?_
                            refine j_iconst X dL_owner_478 ?_
                            refine j_istore X dL_owner_479 rfl (Nat.le_of_ble_eq_true rfl) ?_
                            refine j_cut 12 (j_loop (σ := Nat × Int × Mem) (fun (y_ : Nat × Int × Mem) => match y_ with | (m, e, u) => m ≤ 2 ^ np G.1 ∧ bI G.1 h m e ∧ OW v u x h G) (fun (y_ : Nat × Int × Mem) => match y_ with | (m, e, u) => 2 ^ np G.1 - m) (fun (y_ : Nat × Int × Mem) => match y_ with | (m, e, u) => (u, [some (.ref x), some (.int (I (h : Int))), some (.int xi), some (.ref (x + 235 + h)), some (.ref (x + 232)), some (.ref (x + 233)), some (.ref (x + 234)), some (.ref (x + 237)), some (.int (I ((sU (W3 (bn G.1 h) (tx G.1)) 10 : Nat) : Int))), some (.int (I ((chk (bn G.1 h) : Nat) : Int))), some (.int (I e)), some (.int (I (m : Int))), none, none, none])) ?_ (0, -6, u) ⟨by omega, bI_nil _ _, hO⟩)
                            intro y_ hx_ ih481
                            obtain ⟨m, e, u⟩ := y_
                            dsimp only at hx_ ih481 ⊢
                            obtain ⟨hm, hbI, hO⟩ := hx_
                            have hbb := bI_bd hbI (by omega)
                            refine j_iload X dL_owner_481 rfl ?_
                            refine j_iconst X dL_owner_483 ?_
                            refine j_aload X dL_owner_484 rfl ?_
                            refine j_iconst X dL_owner_486 ?_
                            refine j_ialN X dL_owner_487 (by assumption) (0) rfl (by omega) (by decide) ?_
                            rw [hO.nn]
                            refine j_ishl X dL_owner_488 (b_shl (by omega)) ?_
                            refine j_icmp_ge (tgt := 546) X dL_owner_489 (by omega) (by decide) (fun c489 => ?_) (fun c489 => ?_)
                            · have hm2 : m = 2 ^ np G.1 := by omega
                              subst hm2
                              have hisM := bI_isM hbI
                              refine j_bipush X dL_owner_546 (by decide) ?_
                              refine j_istore X dL_owner_548 rfl (Nat.le_of_ble_eq_true rfl) ?_
                              refine j_iconst X dL_owner_550 ?_
                              refine j_istore X dL_owner_551 rfl (Nat.le_of_ble_eq_true rfl) ?_
                              refine j_cut 13 (j_loop (σ := Nat × Int × Mem) (fun (y_ : Nat × Int × Mem) => match y_ with | (p, f, u) => p ≤ np G.1 + 1 ∧ rI G.1 h p f ∧ OW v u x h G) (fun (y_ : Nat × Int × Mem) => match y_ with | (p, f, u) => np G.1 + 1 - p) (fun (y_ : Nat × Int × Mem) => match y_ with | (p, f, u) => (u, [some (.ref x), some (.int (I (h : Int))), some (.int xi), some (.ref (x + 235 + h)), some (.ref (x + 232)), some (.ref (x + 233)), some (.ref (x + 234)), some (.ref (x + 237)), some (.int (I ((sU (W3 (bn G.1 h) (tx G.1)) 10 : Nat) : Int))), some (.int (I ((chk (bn G.1 h) : Nat) : Int))), some (.int (I e)), some (.int (I f)), some (.int (I (p : Int))), none, none])) ?_ (0, -6, u) ⟨by omega, rI_nil _ _, hO⟩)
                              intro y_ hx_ ih553
                              obtain ⟨p, f, u⟩ := y_
                              dsimp only at hx_ ih553 ⊢
                              obtain ⟨hp, hrI, hO⟩ := hx_
                              have hrb := rI_bd hrI (by omega)
                              refine j_iload X dL_owner_553 rfl ?_
                              refine j_aload X dL_owner_555 rfl ?_
                              refine j_iconst X dL_owner_557 ?_
                              refine j_ialN X dL_owner_558 (by assumption) (0) rfl (by omega) (by decide) ?_
                              rw [hO.nn]
                              refine j_icmp_gt (tgt := 603) X dL_owner_559 (by omega) (by decide) (fun c559 => ?_) (fun c559 => ?_)
                              · have hp2 : p = np G.1 + 1 := by omega
                                subst hp2
                                have hisR := rI_isR hrI
                                refine j_aload_n X dL_owner_603 rfl ?_
                                refine j_iload_n X dL_owner_604 rfl ?_
                                refine j_callV (nn := 1) X dL_owner_605 (c_X4_mending l D nH sk u x (h : Int) G hX hO.1.1 (by omega)) gL_owner_X4_mending rfl ⟨rfl, rfl⟩ (by decide +kernel) ⟨Nat.le_of_ble_eq_true rfl, Nat.le_of_ble_eq_true rfl⟩ hX.1 ⟨rfl, rfl⟩ rfl rfl (Nat.le_of_ble_eq_true rfl) ⟨Nat.zero_le _, Nat.zero_le _⟩ (kI (fun z605 v605 h605 => ?_))
                                obtain ⟨rfl, hXR1, hf1⟩ := h605
                                have hO1 := hO.cls hXR1 hf1
                                rw [A_m hh hisM]
                                refine j_iload X dL_owner_608 rfl ?_
                                refine j_icmp_ne (tgt := 627) X dL_owner_610 (by omega) (by decide) (fun c610 => ?_) (fun c610 => ?_)
                                · exact absurd rfl c610
                                · refine j_aload_n X dL_owner_613 rfl ?_
                                  refine j_iload_n X dL_owner_614 rfl ?_
                                  refine j_callV (nn := 1) X dL_owner_615 (c_X4_rightFrom l D nH sk v605 x (h : Int) G hX hO1.1.1 (by omega)) gL_owner_X4_rightFrom rfl ⟨rfl, rfl⟩ (by decide +kernel) ⟨Nat.le_of_ble_eq_true rfl, Nat.le_of_ble_eq_true rfl⟩ hX.1 ⟨rfl, rfl⟩ rfl rfl (Nat.le_of_ble_eq_true rfl) ⟨Nat.zero_le _, Nat.zero_le _⟩ (kI (fun z615 v615 h615 => ?_))
                                  obtain ⟨rfl, hXR2, hf2⟩ := h615
                                  have hO2 := hO1.cls hXR2 hf2
                                  rw [A_r hh hisR]
                                  refine j_iload X dL_owner_618 rfl ?_
                                  refine j_icmp_ne (tgt := 627) X dL_owner_620 (by omega) (by decide) (fun c620 => ?_) (fun c620 => ?_)
                                  · exact absurd rfl c620
                                  · refine j_iconst X dL_owner_623 ?_
                                    refine j_goto (tgt := 628) X dL_owner_624 (by decide) ?_
                                    exact j_zret X dL_owner_628 (by omega) ⟨_, rfl, rfl, ⟨rfl, hO2.1.1, hO2.2.2⟩⟩
                              · have h2p := p2_64 (show p ≤ 6 by omega)
                                have h2q : 2 ^ p ≤ 2 ^ np G.1 := Nat.pow_le_pow_right (by decide) (by omega)
                                refine j_aload_n X dL_owner_562 rfl ?_
                                refine j_iconst X dL_owner_563 ?_
                                refine j_aload X dL_owner_564 rfl ?_
                                refine j_iconst X dL_owner_566 ?_
                                refine j_ialN X dL_owner_567 (by assumption) (0) rfl (by omega) (by decide) ?_
                                rw [hO.nn]
                                refine j_ishl X dL_owner_568 (b_shl (by omega)) ?_
                                refine j_iconst X dL_owner_569 ?_
                                refine j_iload X dL_owner_570 rfl ?_
                                refine j_ishl X dL_owner_572 (b_shl (by omega)) ?_
                                refine j_isub X dL_owner_573 ?_
                                refine j_topi (y := ((2 ^ np G.1 - 2 ^ p : Nat) : Int)) (by omega) ?_
                                refine j_aload X dL_owner_574 rfl ?_
                                refine j_aload X dL_owner_576 rfl ?_
                                refine j_aload X dL_owner_578 rfl ?_
                                refine j_aload X dL_owner_580 rfl ?_
                                refine j_callS (nn := 6) X dL_owner_582 (c_L_with l D nH sk u (x + 235 + h) (x + 232) (x + 233) (x + 234) (x + 237) (2 ^ np G.1 - 2 ^ p) G.1 (bn G.1 h) hb hq hpa ha ht (by omega) hO.2.1.1 hO.2.1.2.1 hO.2.1.2.2 hO.1.2.2.1 hO.1.2.2.2.2 hoT hu (Nat.lt_of_le_of_lt (Nat.sub_le _ _) (Nat.lt_of_le_of_lt h64 (by decide)))) gL_owner_L_with rfl ⟨rfl, rfl⟩ (by decide +kernel) ⟨Nat.le_of_ble_eq_true rfl, Nat.le_of_ble_eq_true rfl⟩ rfl rfl (Nat.le_of_ble_eq_true rfl) ⟨Nat.zero_le _, Nat.zero_le _⟩ (kI (fun z582 v582 h582 => ?_))
                                obtain ⟨rfl, f582⟩ := h582
                                have hO582 := hO.scr (by omega) f582
                                obtain ⟨hwb, hwr⟩ := hO.try (2 ^ np G.1 - 2 ^ p)
                                refine j_if_ne (tgt := 593) X dL_owner_585 (by omega) (by decide) (fun c585 => ?_) (fun c585 => ?_)
                                · have hsk := rI_not hrI (fun hr => by have := hwr.mpr hr; omega)
                                  have hOn := hO582
                                  refine j_iload X dL_owner_593 rfl ?_
                                  refine j_istore X dL_owner_595 rfl (Nat.le_of_ble_eq_true rfl) ?_
                                  refine j_iinc X dL_owner_597 rfl rfl (Nat.le_of_ble_eq_true rfl) ?_
                                  refine j_goto (tgt := 553) X dL_owner_600 (by decide) ?_
                                  refine j_cut 13 (ih553 (p + 1, _, _) ?_ (by (try dsimp only); omega))
                                  (try dsimp only)
                                  exact ⟨by omega, hsk, hOn⟩
                                · have hsk : rI G.1 h (p + 1) (p : Int) := rI_take (hwr.mp (by omega))
                                  have hOn := hO582
                                  refine j_iload X dL_owner_588 rfl ?_
                                  refine j_goto (tgt := 595) X dL_owner_590 (by decide) ?_
                                  refine j_istore X dL_owner_595 rfl (Nat.le_of_ble_eq_true rfl) ?_
                                  refine j_iinc X dL_owner_597 rfl rfl (Nat.le_of_ble_eq_true rfl) ?_
                                  refine j_goto (tgt := 553) X dL_owner_600 (by decide) ?_
                                  refine j_cut 13 (ih553 (p + 1, _, _) ?_ (by (try dsimp only); omega))
                                  (try dsimp only)
                                  exact ⟨by omega, hsk, hOn⟩
                            · have hm64 : m < 64 := by omega
                              have hpm := pop_le hm64
                              refine j_iload X dL_owner_492 rfl ?_
                              refine j_callS (nn := 1) X dL_owner_494 (c_L_bits l D nH sk u m (by omega)) gL_owner_L_bits rfl ⟨rfl, rfl⟩ (by decide +kernel) ⟨Nat.le_of_ble_eq_true rfl, Nat.le_of_ble_eq_true rfl⟩ rfl rfl (Nat.le_of_ble_eq_true rfl) ⟨Nat.zero_le _, Nat.zero_le _⟩ (kI (fun z494 v494 h494 => ?_))
                              obtain ⟨rfl, rfl⟩ := h494
                              refine j_iconst X dL_owner_497 ?_
                              refine j_icmp_ge (tgt := 540) X dL_owner_498 (by omega) (by decide) (fun c498 => ?_) (fun c498 => ?_)
                              · have hsk : bI G.1 h (m + 1) e := bI_not hbI (fun hm => by have := hm.2.1; omega)
                                have hOn := hO
                                refine j_iinc X dL_owner_540 rfl rfl (Nat.le_of_ble_eq_true rfl) ?_
                                refine j_goto (tgt := 481) X dL_owner_543 (by decide) ?_
                                refine j_cut 12 (ih481 (m + 1, _, _) ?_ (by (try dsimp only); omega))
                                (try dsimp only)
                                exact ⟨by omega, hsk, hOn⟩
                              · refine j_iload X dL_owner_501 rfl ?_
                                refine j_if_lt (tgt := 519) X dL_owner_503 (by omega) (by decide) (fun c503 => ?_) (fun c503 => ?_)
                                · have hbz : e < 0 ∨ ∃ b : Nat, e = (b : Int) ∧ pop m < pop b := Or.inl c503
                                  refine j_aload_n X dL_owner_519 rfl ?_
                                  refine j_iload X dL_owner_520 rfl ?_
                                  refine j_aload X dL_owner_522 rfl ?_
                                  refine j_aload X dL_owner_524 rfl ?_
                                  refine j_aload X dL_owner_526 rfl ?_
                                  refine j_aload X dL_owner_528 rfl ?_
                                  refine j_callS (nn := 6) X dL_owner_530 (c_L_with l D nH sk u (x + 235 + h) (x + 232) (x + 233) (x + 234) (x + 237) (m) G.1 (bn G.1 h) hb hq hpa ha ht (by omega) hO.2.1.1 hO.2.1.2.1 hO.2.1.2.2 hO.1.2.2.1 hO.1.2.2.2.2 hoT hu (by omega)) gL_owner_L_with rfl ⟨rfl, rfl⟩ (by decide +kernel) ⟨Nat.le_of_ble_eq_true rfl, Nat.le_of_ble_eq_true rfl⟩ rfl rfl (Nat.le_of_ble_eq_true rfl) ⟨Nat.zero_le _, Nat.zero_le _⟩ (kI (fun z530 v530 h530 => ?_))
                                  obtain ⟨rfl, f530⟩ := h530
                                  have hO530 := hO.scr (by omega) f530
                                  obtain ⟨hwb, hwr⟩ := hO.try m
                                  refine j_if_ne (tgt := 540) X dL_owner_533 (by omega) (by decide) (fun c533 => ?_) (fun c533 => ?_)
                                  · have hsk := bI_not hbI (fun hm => by have := hwr.mpr hm.2.2; omega)
                                    have hOn := hO530
                                    refine j_iinc X dL_owner_540 rfl rfl (Nat.le_of_ble_eq_true rfl) ?_
                                    refine j_goto (tgt := 481) X dL_owner_543 (by decide) ?_
                                    refine j_cut 12 (ih481 (m + 1, _, _) ?_ (by (try dsimp only); omega))
                                    (try dsimp only)
                                    exact ⟨by omega, hsk, hOn⟩
                                  · have hsk := bI_take hbI ⟨by omega, by omega, hwr.mp (by omega)⟩ hbz
                                    have hOn := hO530
                                    refine j_iload X dL_owner_536 rfl ?_
                                    refine j_istore X dL_owner_538 rfl (Nat.le_of_ble_eq_true rfl) ?_
                                    refine j_iinc X dL_owner_540 rfl rfl (Nat.le_of_ble_eq_true rfl) ?_
                                    refine j_goto (tgt := 481) X dL_owner_543 (by decide) ?_
                                    refine j_cut 12 (ih481 (m + 1, _, _) ?_ (by (try dsimp only); omega))
                                    (try dsimp only)
                                    exact ⟨by omega, hsk, hOn⟩
                                · obtain ⟨bb, rfl⟩ : ∃ bb : Nat, e = (bb : Int) := ⟨e.toNat, by omega⟩
                                  have hpb := pop_le (show bb < 64 by omega)
                                  refine j_iload X dL_owner_506 rfl ?_
                                  refine j_callS (nn := 1) X dL_owner_508 (c_L_bits l D nH sk u m (by omega)) gL_owner_L_bits rfl ⟨rfl, rfl⟩ (by decide +kernel) ⟨Nat.le_of_ble_eq_true rfl, Nat.le_of_ble_eq_true rfl⟩ rfl rfl (Nat.le_of_ble_eq_true rfl) ⟨Nat.zero_le _, Nat.zero_le _⟩ (kI (fun z508 v508 h508 => ?_))
                                  obtain ⟨rfl, rfl⟩ := h508
                                  refine j_iload X dL_owner_511 rfl ?_
                                  refine j_callS (nn := 1) X dL_owner_513 (c_L_bits l D nH sk u bb (by omega)) gL_owner_L_bits rfl ⟨rfl, rfl⟩ (by decide +kernel) ⟨Nat.le_of_ble_eq_true rfl, Nat.le_of_ble_eq_true rfl⟩ rfl rfl (Nat.le_of_ble_eq_true rfl) ⟨Nat.zero_le _, Nat.zero_le _⟩ (kI (fun z513 v513 h513 => ?_))
                                  obtain ⟨rfl, rfl⟩ := h513
                                  refine j_icmp_ge (tgt := 540) X dL_owner_516 (by omega) (by decide) (fun c516 => ?_) (fun c516 => ?_)
                                  · have hsk := bI_worse hbI (by omega)
                                    have hOn := hO
                                    refine j_iinc X dL_owner_540 rfl rfl (Nat.le_of_ble_eq_true rfl) ?_
                                    refine j_goto (tgt := 481) X dL_owner_543 (by decide) ?_
                                    refine j_cut 12 (ih481 (m + 1, _, _) ?_ (by (try dsimp only); omega))
                                    (try dsimp only)
                                    exact ⟨by omega, hsk, hOn⟩
                                  · have hbz : ((bb : Nat) : Int) < 0 ∨ ∃ b : Nat, ((bb : Nat) : Int) = (b : Int) ∧ pop m < pop b := Or.inr ⟨bb, rfl, by omega⟩
                                    refine j_aload_n X dL_owner_519 rfl ?_
                                    refine j_iload X dL_owner_520 rfl ?_
                                    refine j_aload X dL_owner_522 rfl ?_
                                    refine j_aload X dL_owner_524 rfl ?_
                                    refine j_aload X dL_owner_526 rfl ?_
                                    refine j_aload X dL_owner_528 rfl ?_
                                    refine j_callS (nn := 6) X dL_owner_530 (c_L_with l D nH sk u (x + 235 + h) (x + 232) (x + 233) (x + 234) (x + 237) (m) G.1 (bn G.1 h) hb hq hpa ha ht (by omega) hO.2.1.1 hO.2.1.2.1 hO.2.1.2.2 hO.1.2.2.1 hO.1.2.2.2.2 hoT hu (by omega)) gL_owner_L_with rfl ⟨rfl, rfl⟩ (by decide +kernel) ⟨Nat.le_of_ble_eq_true rfl, Nat.le_of_ble_eq_true rfl⟩ rfl rfl (Nat.le_of_ble_eq_true rfl) ⟨Nat.zero_le _, Nat.zero_le _⟩ (kI (fun z530 v530 h530 => ?_))
                                    obtain ⟨rfl, f530⟩ := h530
                                    have hO530 := hO.scr (by omega) f530
                                    obtain ⟨hwb, hwr⟩ := hO.try m
                                    refine j_if_ne (tgt := 540) X dL_owner_533 (by omega) (by decide) (fun c533 => ?_) (fun c533 => ?_)
                                    · have hsk := bI_not hbI (fun hm => by have := hwr.mpr hm.2.2; omega)
                                      have hOn := hO530
                                      refine j_iinc X dL_owner_540 rfl rfl (Nat.le_of_ble_eq_true rfl) ?_
                                      refine j_goto (tgt := 481) X dL_owner_543 (by decide) ?_
                                      refine j_cut 12 (ih481 (m + 1, _, _) ?_ (by (try dsimp only); omega))
                                      (try dsimp only)
                                      exact ⟨by omega, hsk, hOn⟩
                                    · have hsk := bI_take hbI ⟨by omega, by omega, hwr.mp (by omega)⟩ hbz
                                      have hOn := hO530
                                      refine j_iload X dL_owner_536 rfl ?_
                                      refine j_istore X dL_owner_538 rfl (Nat.le_of_ble_eq_true rfl) ?_
                                      refine j_iinc X dL_owner_540 rfl rfl (Nat.le_of_ble_eq_true rfl) ?_
                                      refine j_goto (tgt := 481) X dL_owner_543 (by decide) ?_
                                      refine j_cut 12 (ih481 (m + 1, _, _) ?_ (by (try dsimp only); omega))
                                      (try dsimp only)
                                      exact ⟨by omega, hsk, hOn⟩
                          · refine j_iconst X dL_owner_472 ?_
                            exact j_zret X dL_owner_473 (by omega) ⟨_, rfl, rfl, ⟨rfl, hO.1.1, hO.2.2⟩⟩
                        · refine j_aload_n X dL_owner_430 rfl ?_
                          refine j_iload_n X dL_owner_431 rfl ?_
                          refine j_iload X dL_owner_432 rfl ?_
                          refine j_callV (nn := 2) X dL_owner_434 (c_X4_ifDone l D nH sk u x (h : Int) (p : Int) G hX hO.1.1 (by omega) (by omega)) gL_owner_X4_ifDone rfl ⟨rfl, rfl⟩ (by decide +kernel) ⟨Nat.le_of_ble_eq_true rfl, Nat.le_of_ble_eq_true rfl⟩ hX.1 ⟨rfl, rfl⟩ rfl rfl (Nat.le_of_ble_eq_true rfl) ⟨Nat.zero_le _, Nat.zero_le _⟩ (kI (fun z434 v434 h434 => ?_))
                          obtain ⟨rfl, hXR1, hf1⟩ := h434
                          have hO1 := hO.cls hXR1 hf1
                          have hp6 : p < np G.1 := by omega
                          have h2p := p2_64 (show p ≤ 6 by omega)
                          rw [A_id hh hp6]
                          refine j_aload_n X dL_owner_437 rfl ?_
                          refine j_iconst X dL_owner_438 ?_
                          refine j_iload X dL_owner_439 rfl ?_
                          refine j_ishl X dL_owner_441 (b_shl (by omega)) ?_
                          refine j_aload X dL_owner_442 rfl ?_
                          refine j_aload X dL_owner_444 rfl ?_
                          refine j_aload X dL_owner_446 rfl ?_
                          refine j_aload X dL_owner_448 rfl ?_
                          refine j_callS (nn := 6) X dL_owner_450 (c_L_with l D nH sk v434 (x + 235 + h) (x + 232) (x + 233) (x + 234) (x + 237) (2 ^ p) G.1 (bn G.1 h) hb hq hpa ha ht (by omega) hO1.2.1.1 hO1.2.1.2.1 hO1.2.1.2.2 hO1.1.2.2.1 hO1.1.2.2.2.2 hoT hu (by omega)) gL_owner_L_with rfl ⟨rfl, rfl⟩ (by decide +kernel) ⟨Nat.le_of_ble_eq_true rfl, Nat.le_of_ble_eq_true rfl⟩ rfl rfl (Nat.le_of_ble_eq_true rfl) ⟨Nat.zero_le _, Nat.zero_le _⟩ (kI (fun z450 v450 h450 => ?_))
                          obtain ⟨rfl, f450⟩ := h450
                          have hO450 := hO1.scr (by omega) f450
                          have hwb := (hO1.try (2 ^ p)).1
                          refine j_icmp_eq (tgt := 458) X dL_owner_453 (by omega) (by decide) (fun c453 => ?_) (fun c453 => ?_)
                          · refine j_iinc X dL_owner_458 rfl rfl (Nat.le_of_ble_eq_true rfl) ?_
                            refine j_goto (tgt := 421) X dL_owner_461 (by decide) ?_
                            refine j_cut 11 (ih421 (p + 1, v450) ?_ (by (try dsimp only); omega))
                            (try dsimp only)
                            exact ⟨by omega, hO450⟩
                          · exact absurd rfl c453
                      · exact absurd rfl c413
                · refine j_iload X dL_owner_361 rfl ?_
                  refine j_if_ne (tgt := 370) X dL_owner_363 (by omega) (by decide) (fun c363 => ?_) (fun c363 => ?_)
                  · refine j_iconst X dL_owner_370 ?_
                    refine j_cut 10 (K371 0 ?_)
                    (try dsimp only)
                    exact (by rw [if_neg (fun hr => c363 (by have := (W_0 hL hoT hN hl).mpr hr; omega))])
                  · refine j_iconst X dL_owner_366 ?_
                    refine j_goto (tgt := 371) X dL_owner_367 (by decide) ?_
                    refine j_cut 10 (K371 1 ?_)
                    (try dsimp only)
                    exact (by rw [if_pos ((W_0 hL hoT hN hl).mp (by omega))])
  · refine j_iconst X dL_owner_21 ?_
    refine j_istore X dL_owner_22 rfl (Nat.le_of_ble_eq_true rfl) ?_
    refine j_bipush X dL_owner_24 (by decide) ?_
    refine j_istore X dL_owner_26 rfl (Nat.le_of_ble_eq_true rfl) ?_
    refine j_bipush X dL_owner_28 (by decide) ?_
    refine j_istore X dL_owner_30 rfl (Nat.le_of_ble_eq_true rfl) ?_
    refine j_iconst X dL_owner_32 ?_
    refine j_istore X dL_owner_33 rfl (Nat.le_of_ble_eq_true rfl) ?_
    refine j_cut 15 (j_loop (σ := Nat × Int × Int) (fun (y_ : Nat × Int × Int) => match y_ with | (i, e, f) => i ≤ 6 ∧ eI (fun j => cA (bn G.1 h) (6 * d + j)) i e ∧ lI (fun j => cA (bn G.1 h) (6 * d + j)) i f) (fun (y_ : Nat × Int × Int) => match y_ with | (i, e, f) => 6 - i) (fun (y_ : Nat × Int × Int) => match y_ with | (i, e, f) => (v, [some (.ref x), some (.int (I (h : Int))), some (.int xi), some (.ref (x + 235 + h)), some (.ref (x + 232)), some (.ref (x + 233)), some (.ref (x + 234)), some (.ref (x + 237)), some (.int (I ((sU (W3 (bn G.1 h) (tx G.1)) 10 : Nat) : Int))), some (.int (I ((sU (fun k => cA (bn G.1 h) k * wchk k) (6 * d + i) : Nat) : Int))), some (.int (I (d : Int))), some (.int (I ((sU (fun j => cA (bn G.1 h) (6 * d + j)) i : Nat) : Int))), some (.int (I e)), some (.int (I f)), some (.int (I (i : Int)))])) ?_ (0, -6, -6) ⟨by omega, eI_nil _, lI_nil _⟩)
    intro y_ hx_ ih35
    obtain ⟨i, e, f⟩ := y_
    dsimp only at hx_ ih35 ⊢
    obtain ⟨hi, he, hf⟩ := hx_
    have heb := eI_bd he hi
    have hfb := lI_bd hf hi
    refine j_iload X dL_owner_35 rfl ?_
    refine j_bipush X dL_owner_37 (by decide) ?_
    refine j_icmp_ge (tgt := 138) X dL_owner_39 (by omega) (by decide) (fun c39 => ?_) (fun c39 => ?_)
    · have hi6 : i = 6 := by omega
      subst hi6
      rw [cnt_cA (by omega) hL]
      have hcn : cntN (bn G.1 h) (d + 10) ≤ 60 := Nat.le_trans List.countP_le_length hl
      obtain ⟨hw1, hw2, hw3, hw4⟩ := W3_at (bn G.1 h) (tx G.1) d hcn
      refine j_aload_n X dL_owner_138 rfl ?_
      refine j_iload X dL_owner_139 rfl ?_
      refine j_aload X dL_owner_141 rfl ?_
      refine j_callS (nn := 3) X dL_owner_143 (c_L_wrong l D nH sk v (x + 235 + h) d (x + 234) (bn G.1 h) (tx G.1) hb ha hR hL hl (hRT d (by omega)) hu (by omega)) gL_owner_L_wrong rfl ⟨rfl, rfl⟩ (by decide +kernel) ⟨Nat.le_of_ble_eq_true rfl, Nat.le_of_ble_eq_true rfl⟩ rfl rfl (Nat.le_of_ble_eq_true rfl) ⟨Nat.zero_le _, Nat.zero_le _⟩ (kI (fun z143 v143 h143 => ?_))
      obtain ⟨rfl, rfl⟩ := h143
      refine j_istore X dL_owner_146 rfl (Nat.le_of_ble_eq_true rfl) ?_
      refine j_aload_n X dL_owner_148 rfl ?_
      refine j_iload_n X dL_owner_149 rfl ?_
      refine j_bipush X dL_owner_150 (by decide) ?_
      refine j_iload X dL_owner_152 rfl ?_
      refine j_iadd X dL_owner_154 ?_
      refine j_iconst X dL_owner_155 ?_
      refine j_callV (nn := 3) X dL_owner_156 (c_X4_leaf l D nH sk v x (h : Int) (10 + (d : Int)) 0 G hX hXR (by omega) (by omega) (by omega)) gL_owner_X4_leaf rfl ⟨rfl, rfl⟩ (by decide +kernel) ⟨Nat.le_of_ble_eq_true rfl, Nat.le_of_ble_eq_true rfl⟩ hX.1 ⟨rfl, rfl⟩ rfl rfl (Nat.le_of_ble_eq_true rfl) ⟨Nat.zero_le _, Nat.zero_le _⟩ (kI (fun z156 v156 h156 => ?_))
      obtain ⟨rfl, rfl⟩ := h156
      rw [A_l0 hh (by omega)]
      refine j_iload X dL_owner_159 rfl ?_
      refine j_icmp_ne (tgt := 257) X dL_owner_161 (by omega) (by decide) (fun c161 => ?_) (fun c161 => ?_)
      · exact absurd rfl c161
      · refine j_aload_n X dL_owner_164 rfl ?_
        refine j_iload_n X dL_owner_165 rfl ?_
        refine j_bipush X dL_owner_166 (by decide) ?_
        refine j_iload X dL_owner_168 rfl ?_
        refine j_iadd X dL_owner_170 ?_
        refine j_iconst X dL_owner_171 ?_
        refine j_callV (nn := 3) X dL_owner_172 (c_X4_leaf l D nH sk v x (h : Int) (10 + (d : Int)) 1 G hX hXR (by omega) (by omega) (by omega)) gL_owner_X4_leaf rfl ⟨rfl, rfl⟩ (by decide +kernel) ⟨Nat.le_of_ble_eq_true rfl, Nat.le_of_ble_eq_true rfl⟩ hX.1 ⟨rfl, rfl⟩ rfl rfl (Nat.le_of_ble_eq_true rfl) ⟨Nat.zero_le _, Nat.zero_le _⟩ (kI (fun z172 v172 h172 => ?_))
        obtain ⟨rfl, rfl⟩ := h172
        rw [A_l1 hh (by omega) hL he]
        refine j_iload X dL_owner_175 rfl ?_
        refine j_icmp_ne (tgt := 257) X dL_owner_177 (by omega) (by decide) (fun c177 => ?_) (fun c177 => ?_)
        · exact absurd rfl c177
        · refine j_aload_n X dL_owner_180 rfl ?_
          refine j_iload_n X dL_owner_181 rfl ?_
          refine j_bipush X dL_owner_182 (by decide) ?_
          refine j_iload X dL_owner_184 rfl ?_
          refine j_iadd X dL_owner_186 ?_
          refine j_iconst X dL_owner_187 ?_
          refine j_callV (nn := 3) X dL_owner_188 (c_X4_leaf l D nH sk v x (h : Int) (10 + (d : Int)) 2 G hX hXR (by omega) (by omega) (by omega)) gL_owner_X4_leaf rfl ⟨rfl, rfl⟩ (by decide +kernel) ⟨Nat.le_of_ble_eq_true rfl, Nat.le_of_ble_eq_true rfl⟩ hX.1 ⟨rfl, rfl⟩ rfl rfl (Nat.le_of_ble_eq_true rfl) ⟨Nat.zero_le _, Nat.zero_le _⟩ (kI (fun z188 v188 h188 => ?_))
          obtain ⟨rfl, rfl⟩ := h188
          rw [A_l2 hh (by omega) hL hf]
          refine j_iload X dL_owner_191 rfl ?_
          refine j_icmp_ne (tgt := 257) X dL_owner_193 (by omega) (by decide) (fun c193 => ?_) (fun c193 => ?_)
          · exact absurd rfl c193
          · refine j_aload_n X dL_owner_196 rfl ?_
            refine j_iload_n X dL_owner_197 rfl ?_
            refine j_bipush X dL_owner_198 (by decide) ?_
            refine j_iload X dL_owner_200 rfl ?_
            refine j_iadd X dL_owner_202 ?_
            refine j_iconst X dL_owner_203 ?_
            refine j_callV (nn := 3) X dL_owner_204 (c_X4_leaf l D nH sk v x (h : Int) (10 + (d : Int)) 3 G hX hXR (by omega) (by omega) (by omega)) gL_owner_X4_leaf rfl ⟨rfl, rfl⟩ (by decide +kernel) ⟨Nat.le_of_ble_eq_true rfl, Nat.le_of_ble_eq_true rfl⟩ hX.1 ⟨rfl, rfl⟩ rfl rfl (Nat.le_of_ble_eq_true rfl) ⟨Nat.zero_le _, Nat.zero_le _⟩ (kI (fun z204 v204 h204 => ?_))
            obtain ⟨rfl, rfl⟩ := h204
            rw [A_l3 hh (by omega) 3 (by omega)]
            refine j_iload X dL_owner_207 rfl ?_
            refine j_sipush X dL_owner_209 (by decide) ?_
            refine j_idiv X dL_owner_212 (by omega) (by omega) ?_
            refine j_icmp_ne (tgt := 257) X dL_owner_213 (by omega) (by decide) (fun c213 => ?_) (fun c213 => ?_)
            · exact absurd (by omega) c213
            · refine j_aload_n X dL_owner_216 rfl ?_
              refine j_iload_n X dL_owner_217 rfl ?_
              refine j_bipush X dL_owner_218 (by decide) ?_
              refine j_iload X dL_owner_220 rfl ?_
              refine j_iadd X dL_owner_222 ?_
              refine j_iconst X dL_owner_223 ?_
              refine j_callV (nn := 3) X dL_owner_224 (c_X4_leaf l D nH sk v x (h : Int) (10 + (d : Int)) 4 G hX hXR (by omega) (by omega) (by omega)) gL_owner_X4_leaf rfl ⟨rfl, rfl⟩ (by decide +kernel) ⟨Nat.le_of_ble_eq_true rfl, Nat.le_of_ble_eq_true rfl⟩ hX.1 ⟨rfl, rfl⟩ rfl rfl (Nat.le_of_ble_eq_true rfl) ⟨Nat.zero_le _, Nat.zero_le _⟩ (kI (fun z224 v224 h224 => ?_))
              obtain ⟨rfl, rfl⟩ := h224
              rw [A_l3 hh (by omega) 4 (by omega)]
              refine j_iload X dL_owner_227 rfl ?_
              refine j_bipush X dL_owner_229 (by decide) ?_
              refine j_idiv X dL_owner_231 (by omega) (by omega) ?_
              refine j_bipush X dL_owner_232 (by decide) ?_
              refine j_irem X dL_owner_234 (by omega) (by omega) ?_
              refine j_icmp_ne (tgt := 257) X dL_owner_235 (by omega) (by decide) (fun c235 => ?_) (fun c235 => ?_)
              · exact absurd (by omega) c235
              · refine j_aload_n X dL_owner_238 rfl ?_
                refine j_iload_n X dL_owner_239 rfl ?_
                refine j_bipush X dL_owner_240 (by decide) ?_
                refine j_iload X dL_owner_242 rfl ?_
                refine j_iadd X dL_owner_244 ?_
                refine j_iconst X dL_owner_245 ?_
                refine j_callV (nn := 3) X dL_owner_246 (c_X4_leaf l D nH sk v x (h : Int) (10 + (d : Int)) 5 G hX hXR (by omega) (by omega) (by omega)) gL_owner_X4_leaf rfl ⟨rfl, rfl⟩ (by decide +kernel) ⟨Nat.le_of_ble_eq_true rfl, Nat.le_of_ble_eq_true rfl⟩ hX.1 ⟨rfl, rfl⟩ rfl rfl (Nat.le_of_ble_eq_true rfl) ⟨Nat.zero_le _, Nat.zero_le _⟩ (kI (fun z246 v246 h246 => ?_))
                obtain ⟨rfl, rfl⟩ := h246
                rw [A_l3 hh (by omega) 5 (by omega)]
                refine j_iload X dL_owner_249 rfl ?_
                refine j_bipush X dL_owner_251 (by decide) ?_
                refine j_irem X dL_owner_253 (by omega) (by omega) ?_
                refine j_icmp_eq (tgt := 259) X dL_owner_254 (by omega) (by decide) (fun c254 => ?_) (fun c254 => ?_)
                · refine j_iinc X dL_owner_259 rfl rfl (Nat.le_of_ble_eq_true rfl) ?_
                  refine j_goto (tgt := 14) X dL_owner_262 (by decide) ?_
                  refine j_cut 11 (ih14 (d + 1) ?_ (by (try dsimp only); omega))
                  (try dsimp only)
                  exact (by omega)
                · exact absurd (by omega) c254
    · refine j_iload X dL_owner_42 rfl ?_
      refine j_aload_n X dL_owner_44 rfl ?_
      refine j_bipush X dL_owner_45 (by decide) ?_
      refine j_iload X dL_owner_47 rfl ?_
      refine j_imul X dL_owner_49 ?_
      refine j_iload X dL_owner_50 rfl ?_
      refine j_iadd X dL_owner_52 ?_
      refine j_ialN X dL_owner_53 (by assumption) (6 * d + i) (by omega) (by omega) (by decide) ?_
      rw [hR (6 * d + i) (by omega)]
      refine j_iadd X dL_owner_54 ?_
      refine j_istore X dL_owner_55 rfl (Nat.le_of_ble_eq_true rfl) ?_
      refine j_iload X dL_owner_57 rfl ?_
      refine j_aload_n X dL_owner_59 rfl ?_
      refine j_bipush X dL_owner_60 (by decide) ?_
      refine j_iload X dL_owner_62 rfl ?_
      refine j_imul X dL_owner_64 ?_
      refine j_iload X dL_owner_65 rfl ?_
      refine j_iadd X dL_owner_67 ?_
      refine j_ialN X dL_owner_68 (by assumption) (6 * d + i) (by omega) (by omega) (by decide) ?_
      rw [hR (6 * d + i) (by omega)]
      refine j_bipush X dL_owner_69 (by decide) ?_
      refine j_iload X dL_owner_71 rfl ?_
      refine j_iadd X dL_owner_73 ?_
      refine j_imul X dL_owner_74 ?_
      refine j_iload X dL_owner_75 rfl ?_
      refine j_iconst X dL_owner_77 ?_
      refine j_iadd X dL_owner_78 ?_
      refine j_imul X dL_owner_79 ?_
      refine j_iadd X dL_owner_80 ?_
      refine j_topi (chk_step _ _ _ (by omega)) ?_
      refine j_istore X dL_owner_81 rfl (Nat.le_of_ble_eq_true rfl) ?_
      refine j_join (σ := Int) (fun (e2 : Int) => eI (fun j => cA (bn G.1 h) (6 * d + j)) (i + 1) e2) (fun (e2 : Int) => (v, [some (.ref x), some (.int (I (h : Int))), some (.int xi), some (.ref (x + 235 + h)), some (.ref (x + 232)), some (.ref (x + 233)), some (.ref (x + 234)), some (.ref (x + 237)), some (.int (I ((sU (W3 (bn G.1 h) (tx G.1)) 10 : Nat) : Int))), some (.int (I ((sU (fun k => cA (bn G.1 h) k * wchk k) (6 * d + i + 1) : Nat) : Int))), some (.int (I (d : Int))), some (.int (I ((sU (fun j => cA (bn G.1 h) (6 * d + j)) i + cA (bn G.1 h) (6 * d + i) : Nat) : Int))), some (.int (I e)), some (.int (I f)), some (.int (I (i : Int)))], [.int (I e2)])) 108 ?_ (fun K108 => ?_)
      · intro e2 hx_
        dsimp only at hx_ ⊢
        have he2 := hx_
        refine j_istore X dL_owner_108 rfl (Nat.le_of_ble_eq_true rfl) ?_
        refine j_join (σ := Int) (fun (f2 : Int) => lI (fun j => cA (bn G.1 h) (6 * d + j)) (i + 1) f2) (fun (f2 : Int) => (v, [some (.ref x), some (.int (I (h : Int))), some (.int xi), some (.ref (x + 235 + h)), some (.ref (x + 232)), some (.ref (x + 233)), some (.ref (x + 234)), some (.ref (x + 237)), some (.int (I ((sU (W3 (bn G.1 h) (tx G.1)) 10 : Nat) : Int))), some (.int (I ((sU (fun k => cA (bn G.1 h) k * wchk k) (6 * d + i + 1) : Nat) : Int))), some (.int (I (d : Int))), some (.int (I ((sU (fun j => cA (bn G.1 h) (6 * d + j)) i + cA (bn G.1 h) (6 * d + i) : Nat) : Int))), some (.int (I e2)), some (.int (I f)), some (.int (I (i : Int)))], [.int (I f2)])) 130 ?_ (fun K130 => ?_)
        · intro f2 hx_
          dsimp only at hx_ ⊢
          have hf2 := hx_
          refine j_istore X dL_owner_130 rfl (Nat.le_of_ble_eq_true rfl) ?_
          refine j_iinc X dL_owner_132 rfl rfl (Nat.le_of_ble_eq_true rfl) ?_
          refine j_goto (tgt := 35) X dL_owner_135 (by decide) ?_
          refine j_cut 15 (ih35 (i + 1, e2, f2) ?_ (by (try dsimp only); omega))
          (try dsimp only)
          exact ⟨by omega, he2, hf2⟩
        · refine j_aload_n X dL_owner_110 rfl ?_
          refine j_bipush X dL_owner_111 (by decide) ?_
          refine j_iload X dL_owner_113 rfl ?_
          refine j_imul X dL_owner_115 ?_
          refine j_iload X dL_owner_116 rfl ?_
          refine j_iadd X dL_owner_118 ?_
          refine j_ialN X dL_owner_119 (by assumption) (6 * d + i) (by omega) (by omega) (by decide) ?_
          rw [hR (6 * d + i) (by omega)]
          refine j_if_le (tgt := 128) X dL_owner_120 (by have := cA_le (L := bn G.1 h) (6 * d + i); omega) (by decide) (fun c120 => ?_) (fun c120 => ?_)
          · refine j_iload X dL_owner_128 rfl ?_
            refine j_cut 15 (K130 f ?_)
            (try dsimp only)
            exact lI_keep hf (show cA (bn G.1 h) (6 * d + i) = 0 by omega)
          · refine j_iload X dL_owner_123 rfl ?_
            refine j_goto (tgt := 130) X dL_owner_125 (by decide) ?_
            refine j_cut 15 (K130 (i : Int) ?_)
            (try dsimp only)
            exact lI_new (show cA (bn G.1 h) (6 * d + i) ≠ 0 by omega)
      · refine j_aload_n X dL_owner_83 rfl ?_
        refine j_bipush X dL_owner_84 (by decide) ?_
        refine j_iload X dL_owner_86 rfl ?_
        refine j_imul X dL_owner_88 ?_
        refine j_iload X dL_owner_89 rfl ?_
        refine j_iadd X dL_owner_91 ?_
        refine j_ialN X dL_owner_92 (by assumption) (6 * d + i) (by omega) (by omega) (by decide) ?_
        rw [hR (6 * d + i) (by omega)]
        refine j_if_le (tgt := 106) X dL_owner_93 (by have := cA_le (L := bn G.1 h) (6 * d + i); omega) (by decide) (fun c93 => ?_) (fun c93 => ?_)
        · refine j_iload X dL_owner_106 rfl ?_
          refine j_cut 15 (K108 e ?_)
          (try dsimp only)
          exact eI_keep he (show cA (bn G.1 h) (6 * d + i) = 0 ∨ 0 ≤ e by omega)
        · refine j_iload X dL_owner_96 rfl ?_
          refine j_if_ge (tgt := 106) X dL_owner_98 (by omega) (by decide) (fun c98 => ?_) (fun c98 => ?_)
          · refine j_iload X dL_owner_106 rfl ?_
            refine j_cut 15 (K108 e ?_)
            (try dsimp only)
            exact eI_keep he (show cA (bn G.1 h) (6 * d + i) = 0 ∨ 0 ≤ e by omega)
          · refine j_iload X dL_owner_101 rfl ?_
            refine j_goto (tgt := 108) X dL_owner_103 (by decide) ?_
            refine j_cut 15 (K108 (i : Int) ?_)
            (try dsimp only)
            exact eI_new he (by omega) (show cA (bn G.1 h) (6 * d + i) ≠ 0 by omega)
