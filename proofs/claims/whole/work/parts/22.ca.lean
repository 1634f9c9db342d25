noncomputable def fc_0 (L : Nat) (s : Nat → Int32) (x4 : Int32) (W : Nat → Nat → Int32) : Option (Nat → Nat → Int32) :=
  gd (inr (x4 + (1 : Int32)) L) (gd (inr (x4 + (2 : Int32)) L) (gd (inr (x4 + (3 : Int32)) L) (gd (inr (x4 + (4 : Int32)) L) (gd (inr (x4 + (5 : Int32)) L) (bd2 (f_L_appendInput W (s (ix (x4 + (1 : Int32)))) (s (ix (x4 + (2 : Int32)))) (s (ix (x4 + (3 : Int32)))) (s (ix (x4 + (4 : Int32)))) (s (ix (x4 + (5 : Int32))))) (fun v2 W1 => gd (inr (x4 + (1 : Int32)) L) (gd (inr (x4 + (2 : Int32)) L) (gd (inr (x4 + (3 : Int32)) L) (gd (inr (x4 + (4 : Int32)) L) (gd (inr (x4 + (5 : Int32)) L) (bd2 (f_X10_appendInput W1 (s (ix (x4 + (1 : Int32)))) (s (ix (x4 + (2 : Int32)))) (s (ix (x4 + (3 : Int32)))) (s (ix (x4 + (4 : Int32)))) (s (ix (x4 + (5 : Int32))))) (fun v4 W3 => bdc (f_X10_thrown W3) (fun v5 => if v5 = v2 then if v2 = 0 then if (lg_cmp (W3 31 0).toInt64 (v4).toInt64) = 0 then some W3 else none else some W3 else none)))))))))))))
theorem ec_0 {G : GT} {f b c : Nat} {M : MM} {hi k n : Nat} {x4 : Int32} {W r : Nat → Nat → Int32} (hf : 14 ≤ f) (hc3 : 620 ≤ c) (hk : ∀ hi, V G f (Ex G f) mL_law PL 3490 [(0, .ref G.1), (1, .ref b), (2, .ref (b + 609)), (3, .ref (b + 619)), (4, .int x4)] [] (MEM b c r M) hi k n) (h : fc_0 G.2.1 G.2.2.1 x4 W = some r) : V G f (Ex G f) mL_law PL 312 [(0, .ref G.1), (1, .ref b), (2, .ref (b + 609)), (3, .ref (b + 619)), (4, .int x4)] [] (MEM b c W M) hi (k + 4) (n + 24) := by
  have hc1 : 609 ≤ c := Nat.le_trans (Nat.le_of_ble_eq_true rfl) hc3
  have hc2 : 619 ≤ c := Nat.le_trans (Nat.le_of_ble_eq_true rfl) hc3
  unfold fc_0 at h
  refine V_spare (k2 := k + 1) (n2 := n + 6) (Nat.add_le_add_left (Nat.le_of_ble_eq_true rfl) _) (Nat.add_le_add_left (Nat.le_of_ble_eq_true rfl) _) ?_
  refine V_aload_n (i := 1) dL_law_312 rfl rfl ?_
  refine V_aload_n (i := 0) dL_law_313 rfl rfl ?_
  refine V_iload (i := 4) dL_law_314 rfl ?_
  refine V_iconst (v := 1) dL_law_316 (by decide) ?_
  refine V_iadd dL_law_317 ?_
  refine D_sld h dL_law_318 fun h => ?_
  refine V_aload_n (i := 0) dL_law_319 rfl rfl ?_
  refine V_iload (i := 4) dL_law_320 rfl ?_
  refine V_iconst (v := 2) dL_law_322 (by decide) ?_
  refine V_iadd dL_law_323 ?_
  refine D_sld h dL_law_324 fun h => ?_
  refine V_aload_n (i := 0) dL_law_325 rfl rfl ?_
  refine V_iload (i := 4) dL_law_326 rfl ?_
  refine V_iconst (v := 3) dL_law_328 (by decide) ?_
  refine V_iadd dL_law_329 ?_
  refine D_sld h dL_law_330 fun h => ?_
  refine V_aload_n (i := 0) dL_law_331 rfl rfl ?_
  refine V_iload (i := 4) dL_law_332 rfl ?_
  refine V_iconst (v := 4) dL_law_334 (by decide) ?_
  refine V_iadd dL_law_335 ?_
  refine D_sld h dL_law_336 fun h => ?_
  refine V_aload_n (i := 0) dL_law_337 rfl rfl ?_
  refine V_iload (i := 4) dL_law_338 rfl ?_
  refine V_iconst (v := 5) dL_law_340 (by decide) ?_
  refine V_iadd dL_law_341 ?_
  refine D_sld h dL_law_342 fun h => ?_
  refine V_aload_n (i := 3) dL_law_343 rfl rfl ?_
  refine D_cSXIW (As := [_, _, _, _, _, _, _]) (μ := fun W1 => (MEM b c W1 M)) (k2 := 1) (n2 := 6) h dL_law_344 cx_L_170 rfl rfl (Nat.le_of_ble_eq_true rfl) (fun x y hx => e_L_appendInput (Nat.le_trans (Nat.le_of_ble_eq_true rfl) hf) hc3 hx) fun v2 W1 hi h => ?_
  refine V_istore (i := 5) dL_law_347 (Nat.le_of_ble_eq_true rfl) ?_
  refine V_aload_n (i := 2) dL_law_349 rfl rfl ?_
  refine V_aload_n (i := 0) dL_law_350 rfl rfl ?_
  refine V_iload (i := 4) dL_law_351 rfl ?_
  refine V_iconst (v := 1) dL_law_353 (by decide) ?_
  refine V_iadd dL_law_354 ?_
  refine D_sld h dL_law_355 fun h => ?_
  refine V_aload_n (i := 0) dL_law_356 rfl rfl ?_
  refine V_iload (i := 4) dL_law_357 rfl ?_
  refine V_iconst (v := 2) dL_law_359 (by decide) ?_
  refine V_iadd dL_law_360 ?_
  refine D_sld h dL_law_361 fun h => ?_
  refine V_aload_n (i := 0) dL_law_362 rfl rfl ?_
  refine V_iload (i := 4) dL_law_363 rfl ?_
  refine V_iconst (v := 3) dL_law_365 (by decide) ?_
  refine V_iadd dL_law_366 ?_
  refine D_sld h dL_law_367 fun h => ?_
  refine V_aload_n (i := 0) dL_law_368 rfl rfl ?_
  refine V_iload (i := 4) dL_law_369 rfl ?_
  refine V_iconst (v := 4) dL_law_371 (by decide) ?_
  refine V_iadd dL_law_372 ?_
  refine D_sld h dL_law_373 fun h => ?_
  refine V_aload_n (i := 0) dL_law_374 rfl rfl ?_
  refine V_iload (i := 4) dL_law_375 rfl ?_
  refine V_iconst (v := 5) dL_law_377 (by decide) ?_
  refine V_iadd dL_law_378 ?_
  refine D_sld h dL_law_379 fun h => ?_
  refine D_cVIW (As := [_, _, _, _, _]) (μ := fun W3 => (MEM b c W3 M)) h dL_law_380 cv_L_175 rfl ⟨_, _, _, (mem_30 hc2), rfl, rfl⟩ rfl (Nat.le_of_ble_eq_true rfl) (fun x y hx => e_X10_appendInput (Nat.le_trans (Nat.le_of_ble_eq_true rfl) hf) hc2 hx) fun v4 W3 h => ?_
  refine V_istore (i := 6) dL_law_383 (Nat.le_of_ble_eq_true rfl) ?_
  refine V_aload_n (i := 2) dL_law_385 rfl rfl ?_
  refine D_cVI (As := []) h dL_law_386 cv_L_176 rfl ⟨_, _, _, (mem_30 hc2), rfl, rfl⟩ rfl (Nat.le_of_ble_eq_true rfl) (fun x hx => e_X10_thrown (Nat.le_trans (Nat.le_of_ble_eq_true rfl) hf) hc2 hx) fun v5 h => ?_
  refine V_iload (i := 5) dL_law_389 rfl ?_
  refine D_icmp_eq (tgt := 396) h dL_law_391 rfl (fun b6 h => ?_) (fun b6 h => ?_)
  · refine V_iload (i := 5) dL_law_396 rfl ?_
    refine D_if_ne (tgt := 413) h dL_law_398 rfl (fun b7 h => ?_) (fun b7 h => ?_)
    · refine V_goto (tgt := 3490) dL_law_413 rfl ?_
      obtain rfl := Option.some.inj h
      refine V_spare (k2 := k) (n2 := n) (by omega) (by omega) ?_
      exact V_sub (ks := [2, 3, 4, 5, 6]) rfl (hk _)
    · refine V_aload_n (i := 3) dL_law_401 rfl rfl ?_
      refine V_iconst (v := 0) dL_law_402 (by decide) ?_
      refine D3_lld hc3 dL_law_403 ?_
      refine V_iload (i := 6) dL_law_404 rfl ?_
      refine V_i2l dL_law_406 rfl ?_
      refine V_lcmp dL_law_407 ?_
      refine D_if_eq (tgt := 413) h dL_law_408 rfl (fun b8 h => ?_) (fun b8 h => ?_)
      · refine V_goto (tgt := 3490) dL_law_413 rfl ?_
        obtain rfl := Option.some.inj h
        refine V_spare (k2 := k) (n2 := n) (by omega) (by omega) ?_
        exact V_sub (ks := [2, 3, 4, 5, 6]) rfl (hk _)
      · refine V_iconst (v := 0) dL_law_411 (by decide) ?_
        cases h
  · refine V_iconst (v := 0) dL_law_394 (by decide) ?_
    cases h
noncomputable def fc_1 (L : Nat) (s : Nat → Int32) (x4 : Int32) (W : Nat → Nat → Int32) : Option (Nat → Nat → Int32) :=
  gd (inr (x4 + (1 : Int32)) L) (bd2 (f_L_truncateInput W (s (ix (x4 + (1 : Int32))))) (fun v2 W1 => gd (inr (x4 + (1 : Int32)) L) (bd2 (f_X10_truncateInput W1 (s (ix (x4 + (1 : Int32))))) (fun v4 W3 => bdc (f_X10_thrown W3) (fun v5 => if v5 = v2 then if v2 = 0 then if (lg_cmp (W3 31 0).toInt64 (v4).toInt64) = 0 then some W3 else none else some W3 else none)))))
theorem ec_1 {G : GT} {f b c : Nat} {M : MM} {hi k n : Nat} {x4 : Int32} {W r : Nat → Nat → Int32} (hf : 14 ≤ f) (hc3 : 620 ≤ c) (hk : ∀ hi, V G f (Ex G f) mL_law PL 3490 [(0, .ref G.1), (1, .ref b), (2, .ref (b + 609)), (3, .ref (b + 619)), (4, .int x4)] [] (MEM b c r M) hi k n) (h : fc_1 G.2.1 G.2.2.1 x4 W = some r) : V G f (Ex G f) mL_law PL 416 [(0, .ref G.1), (1, .ref b), (2, .ref (b + 609)), (3, .ref (b + 619)), (4, .int x4)] [] (MEM b c W M) hi (k + 4) (n + 24) := by
  have hc1 : 609 ≤ c := Nat.le_trans (Nat.le_of_ble_eq_true rfl) hc3
  have hc2 : 619 ≤ c := Nat.le_trans (Nat.le_of_ble_eq_true rfl) hc3
  unfold fc_1 at h
  refine V_spare (k2 := k + 1) (n2 := n + 6) (Nat.add_le_add_left (Nat.le_of_ble_eq_true rfl) _) (Nat.add_le_add_left (Nat.le_of_ble_eq_true rfl) _) ?_
  refine V_aload_n (i := 1) dL_law_416 rfl rfl ?_
  refine V_aload_n (i := 0) dL_law_417 rfl rfl ?_
  refine V_iload (i := 4) dL_law_418 rfl ?_
  refine V_iconst (v := 1) dL_law_420 (by decide) ?_
  refine V_iadd dL_law_421 ?_
  refine D_sld h dL_law_422 fun h => ?_
  refine V_aload_n (i := 3) dL_law_423 rfl rfl ?_
  refine D_cSXIW (As := [_, _, _]) (μ := fun W1 => (MEM b c W1 M)) (k2 := 1) (n2 := 6) h dL_law_424 cx_L_179 rfl rfl (Nat.le_of_ble_eq_true rfl) (fun x y hx => e_L_truncateInput (Nat.le_trans (Nat.le_of_ble_eq_true rfl) hf) hc3 hx) fun v2 W1 hi h => ?_
  refine V_istore (i := 5) dL_law_427 (Nat.le_of_ble_eq_true rfl) ?_
  refine V_aload_n (i := 2) dL_law_429 rfl rfl ?_
  refine V_aload_n (i := 0) dL_law_430 rfl rfl ?_
  refine V_iload (i := 4) dL_law_431 rfl ?_
  refine V_iconst (v := 1) dL_law_433 (by decide) ?_
  refine V_iadd dL_law_434 ?_
  refine D_sld h dL_law_435 fun h => ?_
  refine D_cVIW (As := [_]) (μ := fun W3 => (MEM b c W3 M)) h dL_law_436 cv_L_182 rfl ⟨_, _, _, (mem_30 hc2), rfl, rfl⟩ rfl (Nat.le_of_ble_eq_true rfl) (fun x y hx => e_X10_truncateInput (Nat.le_trans (Nat.le_of_ble_eq_true rfl) hf) hc2 hx) fun v4 W3 h => ?_
  refine V_istore (i := 6) dL_law_439 (Nat.le_of_ble_eq_true rfl) ?_
  refine V_aload_n (i := 2) dL_law_441 rfl rfl ?_
  refine D_cVI (As := []) h dL_law_442 cv_L_176 rfl ⟨_, _, _, (mem_30 hc2), rfl, rfl⟩ rfl (Nat.le_of_ble_eq_true rfl) (fun x hx => e_X10_thrown (Nat.le_trans (Nat.le_of_ble_eq_true rfl) hf) hc2 hx) fun v5 h => ?_
  refine V_iload (i := 5) dL_law_445 rfl ?_
  refine D_icmp_eq (tgt := 452) h dL_law_447 rfl (fun b6 h => ?_) (fun b6 h => ?_)
  · refine V_iload (i := 5) dL_law_452 rfl ?_
    refine D_if_ne (tgt := 469) h dL_law_454 rfl (fun b7 h => ?_) (fun b7 h => ?_)
    · refine V_goto (tgt := 3490) dL_law_469 rfl ?_
      obtain rfl := Option.some.inj h
      refine V_spare (k2 := k) (n2 := n) (by omega) (by omega) ?_
      exact V_sub (ks := [2, 3, 4, 5, 6]) rfl (hk _)
    · refine V_aload_n (i := 3) dL_law_457 rfl rfl ?_
      refine V_iconst (v := 0) dL_law_458 (by decide) ?_
      refine D3_lld hc3 dL_law_459 ?_
      refine V_iload (i := 6) dL_law_460 rfl ?_
      refine V_i2l dL_law_462 rfl ?_
      refine V_lcmp dL_law_463 ?_
      refine D_if_eq (tgt := 469) h dL_law_464 rfl (fun b8 h => ?_) (fun b8 h => ?_)
      · refine V_goto (tgt := 3490) dL_law_469 rfl ?_
        obtain rfl := Option.some.inj h
        refine V_spare (k2 := k) (n2 := n) (by omega) (by omega) ?_
        exact V_sub (ks := [2, 3, 4, 5, 6]) rfl (hk _)
      · refine V_iconst (v := 0) dL_law_467 (by decide) ?_
        cases h
  · refine V_iconst (v := 0) dL_law_450 (by decide) ?_
    cases h
noncomputable def fc_2 (L : Nat) (s : Nat → Int32) (x4 : Int32) (W : Nat → Nat → Int32) : Option (Nat → Nat → Int32) :=
  bd2 (f_L_load W) (fun v2 W1 => bd2 (f_X10_load W1) (fun v4 W3 => bdc (f_X10_thrown W3) (fun v5 => if v5 = v2 then if v2 = 0 then if (lg_cmp (W3 31 0).toInt64 (v4).toInt64) = 0 then some W3 else none else some W3 else none)))
theorem ec_2 {G : GT} {f b c : Nat} {M : MM} {hi k n : Nat} {x4 : Int32} {W r : Nat → Nat → Int32} (hf : 14 ≤ f) (hc3 : 620 ≤ c) (hk : ∀ hi, V G f (Ex G f) mL_law PL 3490 [(0, .ref G.1), (1, .ref b), (2, .ref (b + 609)), (3, .ref (b + 619)), (4, .int x4)] [] (MEM b c r M) hi k n) (h : fc_2 G.2.1 G.2.2.1 x4 W = some r) : V G f (Ex G f) mL_law PL 472 [(0, .ref G.1), (1, .ref b), (2, .ref (b + 609)), (3, .ref (b + 619)), (4, .int x4)] [] (MEM b c W M) hi (k + 4) (n + 24) := by
  have hc1 : 609 ≤ c := Nat.le_trans (Nat.le_of_ble_eq_true rfl) hc3
  have hc2 : 619 ≤ c := Nat.le_trans (Nat.le_of_ble_eq_true rfl) hc3
  unfold fc_2 at h
  refine V_spare (k2 := k + 1) (n2 := n + 6) (Nat.add_le_add_left (Nat.le_of_ble_eq_true rfl) _) (Nat.add_le_add_left (Nat.le_of_ble_eq_true rfl) _) ?_
  refine V_aload_n (i := 1) dL_law_472 rfl rfl ?_
  refine V_aload_n (i := 3) dL_law_473 rfl rfl ?_
  refine D_cSXIW (As := [_, _]) (μ := fun W1 => (MEM b c W1 M)) (k2 := 1) (n2 := 6) h dL_law_474 cx_L_183 rfl rfl (Nat.le_of_ble_eq_true rfl) (fun x y hx => e_L_load (Nat.le_trans (Nat.le_of_ble_eq_true rfl) hf) hc3 hx) fun v2 W1 hi h => ?_
  refine V_istore (i := 5) dL_law_477 (Nat.le_of_ble_eq_true rfl) ?_
  refine V_aload_n (i := 2) dL_law_479 rfl rfl ?_
  refine D_cVIW (As := []) (μ := fun W3 => (MEM b c W3 M)) h dL_law_480 cv_L_186 rfl ⟨_, _, _, (mem_30 hc2), rfl, rfl⟩ rfl (Nat.le_of_ble_eq_true rfl) (fun x y hx => e_X10_load (Nat.le_trans (Nat.le_of_ble_eq_true rfl) hf) hc2 hx) fun v4 W3 h => ?_
  refine V_istore (i := 6) dL_law_483 (Nat.le_of_ble_eq_true rfl) ?_
  refine V_aload_n (i := 2) dL_law_485 rfl rfl ?_
  refine D_cVI (As := []) h dL_law_486 cv_L_176 rfl ⟨_, _, _, (mem_30 hc2), rfl, rfl⟩ rfl (Nat.le_of_ble_eq_true rfl) (fun x hx => e_X10_thrown (Nat.le_trans (Nat.le_of_ble_eq_true rfl) hf) hc2 hx) fun v5 h => ?_
  refine V_iload (i := 5) dL_law_489 rfl ?_
  refine D_icmp_eq (tgt := 496) h dL_law_491 rfl (fun b6 h => ?_) (fun b6 h => ?_)
  · refine V_iload (i := 5) dL_law_496 rfl ?_
    refine D_if_ne (tgt := 513) h dL_law_498 rfl (fun b7 h => ?_) (fun b7 h => ?_)
    · refine V_goto (tgt := 3490) dL_law_513 rfl ?_
      obtain rfl := Option.some.inj h
      refine V_spare (k2 := k) (n2 := n) (by omega) (by omega) ?_
      exact V_sub (ks := [2, 3, 4, 5, 6]) rfl (hk _)
    · refine V_aload_n (i := 3) dL_law_501 rfl rfl ?_
      refine V_iconst (v := 0) dL_law_502 (by decide) ?_
      refine D3_lld hc3 dL_law_503 ?_
      refine V_iload (i := 6) dL_law_504 rfl ?_
      refine V_i2l dL_law_506 rfl ?_
      refine V_lcmp dL_law_507 ?_
      refine D_if_eq (tgt := 513) h dL_law_508 rfl (fun b8 h => ?_) (fun b8 h => ?_)
      · refine V_goto (tgt := 3490) dL_law_513 rfl ?_
        obtain rfl := Option.some.inj h
        refine V_spare (k2 := k) (n2 := n) (by omega) (by omega) ?_
        exact V_sub (ks := [2, 3, 4, 5, 6]) rfl (hk _)
      · refine V_iconst (v := 0) dL_law_511 (by decide) ?_
        cases h
  · refine V_iconst (v := 0) dL_law_494 (by decide) ?_
    cases h
noncomputable def fc_3 (L : Nat) (s : Nat → Int32) (x4 : Int32) (W : Nat → Nat → Int32) : Option (Nat → Nat → Int32) :=
  bdc (f_X9_errorCode W) (fun v1 => bd2 (f_X10_errorCode W) (fun v3 W2 => if v1 = v3 then some W2 else none))
theorem ec_3 {G : GT} {f b c : Nat} {M : MM} {hi k n : Nat} {x4 : Int32} {W r : Nat → Nat → Int32} (hf : 14 ≤ f) (hc3 : 620 ≤ c) (hk : ∀ hi, V G f (Ex G f) mL_law PL 3490 [(0, .ref G.1), (1, .ref b), (2, .ref (b + 609)), (3, .ref (b + 619)), (4, .int x4)] [] (MEM b c r M) hi k n) (h : fc_3 G.2.1 G.2.2.1 x4 W = some r) : V G f (Ex G f) mL_law PL 516 [(0, .ref G.1), (1, .ref b), (2, .ref (b + 609)), (3, .ref (b + 619)), (4, .int x4)] [] (MEM b c W M) hi (k + 4) (n + 24) := by
  have hc1 : 609 ≤ c := Nat.le_trans (Nat.le_of_ble_eq_true rfl) hc3
  have hc2 : 619 ≤ c := Nat.le_trans (Nat.le_of_ble_eq_true rfl) hc3
  unfold fc_3 at h
  refine V_spare (k2 := k + 0) (n2 := n + 0) (Nat.add_le_add_left (Nat.le_of_ble_eq_true rfl) _) (Nat.add_le_add_left (Nat.le_of_ble_eq_true rfl) _) ?_
  refine V_aload_n (i := 1) dL_law_516 rfl rfl ?_
  refine D_cVI (As := []) h dL_law_517 cv_L_187 rfl ⟨_, _, _, (mem_x9 hc1), rfl, rfl⟩ rfl (Nat.le_of_ble_eq_true rfl) (fun x hx => e_X9_errorCode (Nat.le_trans (Nat.le_of_ble_eq_true rfl) hf) hc1 hx) fun v1 h => ?_
  refine V_aload_n (i := 2) dL_law_520 rfl rfl ?_
  refine D_cVIW (As := []) (μ := fun W2 => (MEM b c W2 M)) h dL_law_521 cv_L_190 rfl ⟨_, _, _, (mem_30 hc2), rfl, rfl⟩ rfl (Nat.le_of_ble_eq_true rfl) (fun x y hx => e_X10_errorCode (Nat.le_trans (Nat.le_of_ble_eq_true rfl) hf) hc2 hx) fun v3 W2 h => ?_
  refine D_icmp_eq (tgt := 3490) h dL_law_524 rfl (fun b4 h => ?_) (fun b4 h => ?_)
  · obtain rfl := Option.some.inj h
    refine V_spare (k2 := k) (n2 := n) (by omega) (by omega) ?_
    exact V_sub (ks := [0, 1, 2, 3, 4]) rfl (hk _)
  · refine V_iconst (v := 0) dL_law_527 (by decide) ?_
    cases h
noncomputable def fc_4 (L : Nat) (s : Nat → Int32) (x4 : Int32) (W : Nat → Nat → Int32) : Option (Nat → Nat → Int32) :=
  bdc (f_X9_errorPosition W) (fun v1 => bd2 (f_X10_errorPosition W) (fun v3 W2 => if v1 = v3 then some W2 else none))
theorem ec_4 {G : GT} {f b c : Nat} {M : MM} {hi k n : Nat} {x4 : Int32} {W r : Nat → Nat → Int32} (hf : 14 ≤ f) (hc3 : 620 ≤ c) (hk : ∀ hi, V G f (Ex G f) mL_law PL 3490 [(0, .ref G.1), (1, .ref b), (2, .ref (b + 609)), (3, .ref (b + 619)), (4, .int x4)] [] (MEM b c r M) hi k n) (h : fc_4 G.2.1 G.2.2.1 x4 W = some r) : V G f (Ex G f) mL_law PL 529 [(0, .ref G.1), (1, .ref b), (2, .ref (b + 609)), (3, .ref (b + 619)), (4, .int x4)] [] (MEM b c W M) hi (k + 4) (n + 24) := by
  have hc1 : 609 ≤ c := Nat.le_trans (Nat.le_of_ble_eq_true rfl) hc3
  have hc2 : 619 ≤ c := Nat.le_trans (Nat.le_of_ble_eq_true rfl) hc3
  unfold fc_4 at h
  refine V_spare (k2 := k + 0) (n2 := n + 0) (Nat.add_le_add_left (Nat.le_of_ble_eq_true rfl) _) (Nat.add_le_add_left (Nat.le_of_ble_eq_true rfl) _) ?_
  refine V_aload_n (i := 1) dL_law_529 rfl rfl ?_
  refine D_cVI (As := []) h dL_law_530 cv_L_191 rfl ⟨_, _, _, (mem_x9 hc1), rfl, rfl⟩ rfl (Nat.le_of_ble_eq_true rfl) (fun x hx => e_X9_errorPosition (Nat.le_trans (Nat.le_of_ble_eq_true rfl) hf) hc1 hx) fun v1 h => ?_
  refine V_aload_n (i := 2) dL_law_533 rfl rfl ?_
  refine D_cVIW (As := []) (μ := fun W2 => (MEM b c W2 M)) h dL_law_534 cv_L_194 rfl ⟨_, _, _, (mem_30 hc2), rfl, rfl⟩ rfl (Nat.le_of_ble_eq_true rfl) (fun x y hx => e_X10_errorPosition (Nat.le_trans (Nat.le_of_ble_eq_true rfl) hf) hc2 hx) fun v3 W2 h => ?_
  refine D_icmp_eq (tgt := 3490) h dL_law_537 rfl (fun b4 h => ?_) (fun b4 h => ?_)
  · obtain rfl := Option.some.inj h
    refine V_spare (k2 := k) (n2 := n) (by omega) (by omega) ?_
    exact V_sub (ks := [0, 1, 2, 3, 4]) rfl (hk _)
  · refine V_iconst (v := 0) dL_law_540 (by decide) ?_
    cases h
noncomputable def fc_5 (L : Nat) (s : Nat → Int32) (x4 : Int32) (W : Nat → Nat → Int32) : Option (Nat → Nat → Int32) :=
  bdc (f_X9_clock W) (fun v1 => bd2 (f_X10_clock W) (fun v3 W2 => if v1 = v3 then some W2 else none))
theorem ec_5 {G : GT} {f b c : Nat} {M : MM} {hi k n : Nat} {x4 : Int32} {W r : Nat → Nat → Int32} (hf : 14 ≤ f) (hc3 : 620 ≤ c) (hk : ∀ hi, V G f (Ex G f) mL_law PL 3490 [(0, .ref G.1), (1, .ref b), (2, .ref (b + 609)), (3, .ref (b + 619)), (4, .int x4)] [] (MEM b c r M) hi k n) (h : fc_5 G.2.1 G.2.2.1 x4 W = some r) : V G f (Ex G f) mL_law PL 542 [(0, .ref G.1), (1, .ref b), (2, .ref (b + 609)), (3, .ref (b + 619)), (4, .int x4)] [] (MEM b c W M) hi (k + 4) (n + 24) := by
  have hc1 : 609 ≤ c := Nat.le_trans (Nat.le_of_ble_eq_true rfl) hc3
  have hc2 : 619 ≤ c := Nat.le_trans (Nat.le_of_ble_eq_true rfl) hc3
  unfold fc_5 at h
  refine V_spare (k2 := k + 0) (n2 := n + 0) (Nat.add_le_add_left (Nat.le_of_ble_eq_true rfl) _) (Nat.add_le_add_left (Nat.le_of_ble_eq_true rfl) _) ?_
  refine V_aload_n (i := 1) dL_law_542 rfl rfl ?_
  refine D_cVI (As := []) h dL_law_543 cv_L_195 rfl ⟨_, _, _, (mem_x9 hc1), rfl, rfl⟩ rfl (Nat.le_of_ble_eq_true rfl) (fun x hx => e_X9_clock (Nat.le_trans (Nat.le_of_ble_eq_true rfl) hf) hc1 hx) fun v1 h => ?_
  refine V_aload_n (i := 2) dL_law_546 rfl rfl ?_
  refine D_cVIW (As := []) (μ := fun W2 => (MEM b c W2 M)) h dL_law_547 cv_L_198 rfl ⟨_, _, _, (mem_30 hc2), rfl, rfl⟩ rfl (Nat.le_of_ble_eq_true rfl) (fun x y hx => e_X10_clock (Nat.le_trans (Nat.le_of_ble_eq_true rfl) hf) hc2 hx) fun v3 W2 h => ?_
  refine D_icmp_eq (tgt := 3490) h dL_law_550 rfl (fun b4 h => ?_) (fun b4 h => ?_)
  · obtain rfl := Option.some.inj h
    refine V_spare (k2 := k) (n2 := n) (by omega) (by omega) ?_
    exact V_sub (ks := [0, 1, 2, 3, 4]) rfl (hk _)
  · refine V_iconst (v := 0) dL_law_553 (by decide) ?_
    cases h
noncomputable def fc_6 (L : Nat) (s : Nat → Int32) (x4 : Int32) (W : Nat → Nat → Int32) : Option (Nat → Nat → Int32) :=
  bdc (f_X9_stationCount W) (fun v1 => bd2 (f_X10_stationCount W) (fun v3 W2 => if v1 = v3 then some W2 else none))
theorem ec_6 {G : GT} {f b c : Nat} {M : MM} {hi k n : Nat} {x4 : Int32} {W r : Nat → Nat → Int32} (hf : 14 ≤ f) (hc3 : 620 ≤ c) (hk : ∀ hi, V G f (Ex G f) mL_law PL 3490 [(0, .ref G.1), (1, .ref b), (2, .ref (b + 609)), (3, .ref (b + 619)), (4, .int x4)] [] (MEM b c r M) hi k n) (h : fc_6 G.2.1 G.2.2.1 x4 W = some r) : V G f (Ex G f) mL_law PL 555 [(0, .ref G.1), (1, .ref b), (2, .ref (b + 609)), (3, .ref (b + 619)), (4, .int x4)] [] (MEM b c W M) hi (k + 4) (n + 24) := by
  have hc1 : 609 ≤ c := Nat.le_trans (Nat.le_of_ble_eq_true rfl) hc3
  have hc2 : 619 ≤ c := Nat.le_trans (Nat.le_of_ble_eq_true rfl) hc3
  unfold fc_6 at h
  refine V_spare (k2 := k + 0) (n2 := n + 0) (Nat.add_le_add_left (Nat.le_of_ble_eq_true rfl) _) (Nat.add_le_add_left (Nat.le_of_ble_eq_true rfl) _) ?_
  refine V_aload_n (i := 1) dL_law_555 rfl rfl ?_
  refine D_cVI (As := []) h dL_law_556 cv_L_199 rfl ⟨_, _, _, (mem_x9 hc1), rfl, rfl⟩ rfl (Nat.le_of_ble_eq_true rfl) (fun x hx => e_X9_stationCount (Nat.le_trans (Nat.le_of_ble_eq_true rfl) hf) hc1 hx) fun v1 h => ?_
  refine V_aload_n (i := 2) dL_law_559 rfl rfl ?_
  refine D_cVIW (As := []) (μ := fun W2 => (MEM b c W2 M)) h dL_law_560 cv_L_202 rfl ⟨_, _, _, (mem_30 hc2), rfl, rfl⟩ rfl (Nat.le_of_ble_eq_true rfl) (fun x y hx => e_X10_stationCount (Nat.le_trans (Nat.le_of_ble_eq_true rfl) hf) hc2 hx) fun v3 W2 h => ?_
  refine D_icmp_eq (tgt := 3490) h dL_law_563 rfl (fun b4 h => ?_) (fun b4 h => ?_)
  · obtain rfl := Option.some.inj h
    refine V_spare (k2 := k) (n2 := n) (by omega) (by omega) ?_
    exact V_sub (ks := [0, 1, 2, 3, 4]) rfl (hk _)
  · refine V_iconst (v := 0) dL_law_566 (by decide) ?_
    cases h
noncomputable def fc_7 (L : Nat) (s : Nat → Int32) (x4 : Int32) (W : Nat → Nat → Int32) : Option (Nat → Nat → Int32) :=
  bdc (f_X9_trackCount W) (fun v1 => bd2 (f_X10_trackCount W) (fun v3 W2 => if v1 = v3 then some W2 else none))
theorem ec_7 {G : GT} {f b c : Nat} {M : MM} {hi k n : Nat} {x4 : Int32} {W r : Nat → Nat → Int32} (hf : 14 ≤ f) (hc3 : 620 ≤ c) (hk : ∀ hi, V G f (Ex G f) mL_law PL 3490 [(0, .ref G.1), (1, .ref b), (2, .ref (b + 609)), (3, .ref (b + 619)), (4, .int x4)] [] (MEM b c r M) hi k n) (h : fc_7 G.2.1 G.2.2.1 x4 W = some r) : V G f (Ex G f) mL_law PL 568 [(0, .ref G.1), (1, .ref b), (2, .ref (b + 609)), (3, .ref (b + 619)), (4, .int x4)] [] (MEM b c W M) hi (k + 4) (n + 24) := by
  have hc1 : 609 ≤ c := Nat.le_trans (Nat.le_of_ble_eq_true rfl) hc3
  have hc2 : 619 ≤ c := Nat.le_trans (Nat.le_of_ble_eq_true rfl) hc3
  unfold fc_7 at h
  refine V_spare (k2 := k + 0) (n2 := n + 0) (Nat.add_le_add_left (Nat.le_of_ble_eq_true rfl) _) (Nat.add_le_add_left (Nat.le_of_ble_eq_true rfl) _) ?_
  refine V_aload_n (i := 1) dL_law_568 rfl rfl ?_
  refine D_cVI (As := []) h dL_law_569 cv_L_203 rfl ⟨_, _, _, (mem_x9 hc1), rfl, rfl⟩ rfl (Nat.le_of_ble_eq_true rfl) (fun x hx => e_X9_trackCount (Nat.le_trans (Nat.le_of_ble_eq_true rfl) hf) hc1 hx) fun v1 h => ?_
  refine V_aload_n (i := 2) dL_law_572 rfl rfl ?_
  refine D_cVIW (As := []) (μ := fun W2 => (MEM b c W2 M)) h dL_law_573 cv_L_206 rfl ⟨_, _, _, (mem_30 hc2), rfl, rfl⟩ rfl (Nat.le_of_ble_eq_true rfl) (fun x y hx => e_X10_trackCount (Nat.le_trans (Nat.le_of_ble_eq_true rfl) hf) hc2 hx) fun v3 W2 h => ?_
  refine D_icmp_eq (tgt := 3490) h dL_law_576 rfl (fun b4 h => ?_) (fun b4 h => ?_)
  · obtain rfl := Option.some.inj h
    refine V_spare (k2 := k) (n2 := n) (by omega) (by omega) ?_
    exact V_sub (ks := [0, 1, 2, 3, 4]) rfl (hk _)
  · refine V_iconst (v := 0) dL_law_579 (by decide) ?_
    cases h
noncomputable def fc_8 (L : Nat) (s : Nat → Int32) (x4 : Int32) (W : Nat → Nat → Int32) : Option (Nat → Nat → Int32) :=
  bdc (f_X9_trainCount W) (fun v1 => bd2 (f_X10_trainCount W) (fun v3 W2 => if v1 = v3 then some W2 else none))
theorem ec_8 {G : GT} {f b c : Nat} {M : MM} {hi k n : Nat} {x4 : Int32} {W r : Nat → Nat → Int32} (hf : 14 ≤ f) (hc3 : 620 ≤ c) (hk : ∀ hi, V G f (Ex G f) mL_law PL 3490 [(0, .ref G.1), (1, .ref b), (2, .ref (b + 609)), (3, .ref (b + 619)), (4, .int x4)] [] (MEM b c r M) hi k n) (h : fc_8 G.2.1 G.2.2.1 x4 W = some r) : V G f (Ex G f) mL_law PL 581 [(0, .ref G.1), (1, .ref b), (2, .ref (b + 609)), (3, .ref (b + 619)), (4, .int x4)] [] (MEM b c W M) hi (k + 4) (n + 24) := by
  have hc1 : 609 ≤ c := Nat.le_trans (Nat.le_of_ble_eq_true rfl) hc3
  have hc2 : 619 ≤ c := Nat.le_trans (Nat.le_of_ble_eq_true rfl) hc3
  unfold fc_8 at h
  refine V_spare (k2 := k + 0) (n2 := n + 0) (Nat.add_le_add_left (Nat.le_of_ble_eq_true rfl) _) (Nat.add_le_add_left (Nat.le_of_ble_eq_true rfl) _) ?_
  refine V_aload_n (i := 1) dL_law_581 rfl rfl ?_
  refine D_cVI (As := []) h dL_law_582 cv_L_207 rfl ⟨_, _, _, (mem_x9 hc1), rfl, rfl⟩ rfl (Nat.le_of_ble_eq_true rfl) (fun x hx => e_X9_trainCount (Nat.le_trans (Nat.le_of_ble_eq_true rfl) hf) hc1 hx) fun v1 h => ?_
  refine V_aload_n (i := 2) dL_law_585 rfl rfl ?_
  refine D_cVIW (As := []) (μ := fun W2 => (MEM b c W2 M)) h dL_law_586 cv_L_210 rfl ⟨_, _, _, (mem_30 hc2), rfl, rfl⟩ rfl (Nat.le_of_ble_eq_true rfl) (fun x y hx => e_X10_trainCount (Nat.le_trans (Nat.le_of_ble_eq_true rfl) hf) hc2 hx) fun v3 W2 h => ?_
  refine D_icmp_eq (tgt := 3490) h dL_law_589 rfl (fun b4 h => ?_) (fun b4 h => ?_)
  · obtain rfl := Option.some.inj h
    refine V_spare (k2 := k) (n2 := n) (by omega) (by omega) ?_
    exact V_sub (ks := [0, 1, 2, 3, 4]) rfl (hk _)
  · refine V_iconst (v := 0) dL_law_592 (by decide) ?_
    cases h
noncomputable def fc_9 (L : Nat) (s : Nat → Int32) (x4 : Int32) (W : Nat → Nat → Int32) : Option (Nat → Nat → Int32) :=
  bdc (f_X9_parcelCount W) (fun v1 => bd2 (f_X10_parcelCount W) (fun v3 W2 => if v1 = v3 then some W2 else none))
theorem ec_9 {G : GT} {f b c : Nat} {M : MM} {hi k n : Nat} {x4 : Int32} {W r : Nat → Nat → Int32} (hf : 14 ≤ f) (hc3 : 620 ≤ c) (hk : ∀ hi, V G f (Ex G f) mL_law PL 3490 [(0, .ref G.1), (1, .ref b), (2, .ref (b + 609)), (3, .ref (b + 619)), (4, .int x4)] [] (MEM b c r M) hi k n) (h : fc_9 G.2.1 G.2.2.1 x4 W = some r) : V G f (Ex G f) mL_law PL 594 [(0, .ref G.1), (1, .ref b), (2, .ref (b + 609)), (3, .ref (b + 619)), (4, .int x4)] [] (MEM b c W M) hi (k + 4) (n + 24) := by
  have hc1 : 609 ≤ c := Nat.le_trans (Nat.le_of_ble_eq_true rfl) hc3
  have hc2 : 619 ≤ c := Nat.le_trans (Nat.le_of_ble_eq_true rfl) hc3
  unfold fc_9 at h
  refine V_spare (k2 := k + 0) (n2 := n + 0) (Nat.add_le_add_left (Nat.le_of_ble_eq_true rfl) _) (Nat.add_le_add_left (Nat.le_of_ble_eq_true rfl) _) ?_
  refine V_aload_n (i := 1) dL_law_594 rfl rfl ?_
  refine D_cVI (As := []) h dL_law_595 cv_L_211 rfl ⟨_, _, _, (mem_x9 hc1), rfl, rfl⟩ rfl (Nat.le_of_ble_eq_true rfl) (fun x hx => e_X9_parcelCount (Nat.le_trans (Nat.le_of_ble_eq_true rfl) hf) hc1 hx) fun v1 h => ?_
  refine V_aload_n (i := 2) dL_law_598 rfl rfl ?_
  refine D_cVIW (As := []) (μ := fun W2 => (MEM b c W2 M)) h dL_law_599 cv_L_214 rfl ⟨_, _, _, (mem_30 hc2), rfl, rfl⟩ rfl (Nat.le_of_ble_eq_true rfl) (fun x y hx => e_X10_parcelCount (Nat.le_trans (Nat.le_of_ble_eq_true rfl) hf) hc2 hx) fun v3 W2 h => ?_
  refine D_icmp_eq (tgt := 3490) h dL_law_602 rfl (fun b4 h => ?_) (fun b4 h => ?_)
  · obtain rfl := Option.some.inj h
    refine V_spare (k2 := k) (n2 := n) (by omega) (by omega) ?_
    exact V_sub (ks := [0, 1, 2, 3, 4]) rfl (hk _)
  · refine V_iconst (v := 0) dL_law_605 (by decide) ?_
    cases h
noncomputable def fc_10 (L : Nat) (s : Nat → Int32) (x4 : Int32) (W : Nat → Nat → Int32) : Option (Nat → Nat → Int32) :=
  gd (inr (x4 + (1 : Int32)) L) (bd2 (f_L_isRequestStop W (s (ix (x4 + (1 : Int32))))) (fun v2 W1 => gd (inr (x4 + (1 : Int32)) L) (bd2 (f_X10_isRequestStop W1 (s (ix (x4 + (1 : Int32))))) (fun v4 W3 => bdc (f_X10_thrown W3) (fun v5 => if v5 = v2 then if v2 = 0 then if v4 = 0 then if (lg_cmp (W3 31 0).toInt64 ((0 : Int32)).toInt64) = 0 then some W3 else none else if (lg_cmp (W3 31 0).toInt64 ((1 : Int32)).toInt64) = 0 then some W3 else none else some W3 else none)))))
theorem ec_10 {G : GT} {f b c : Nat} {M : MM} {hi k n : Nat} {x4 : Int32} {W r : Nat → Nat → Int32} (hf : 14 ≤ f) (hc3 : 620 ≤ c) (hk : ∀ hi, V G f (Ex G f) mL_law PL 3490 [(0, .ref G.1), (1, .ref b), (2, .ref (b + 609)), (3, .ref (b + 619)), (4, .int x4)] [] (MEM b c r M) hi k n) (h : fc_10 G.2.1 G.2.2.1 x4 W = some r) : V G f (Ex G f) mL_law PL 607 [(0, .ref G.1), (1, .ref b), (2, .ref (b + 609)), (3, .ref (b + 619)), (4, .int x4)] [] (MEM b c W M) hi (k + 4) (n + 24) := by
  have hc1 : 609 ≤ c := Nat.le_trans (Nat.le_of_ble_eq_true rfl) hc3
  have hc2 : 619 ≤ c := Nat.le_trans (Nat.le_of_ble_eq_true rfl) hc3
  unfold fc_10 at h
  refine V_spare (k2 := k + 1) (n2 := n + 6) (Nat.add_le_add_left (Nat.le_of_ble_eq_true rfl) _) (Nat.add_le_add_left (Nat.le_of_ble_eq_true rfl) _) ?_
  refine V_aload_n (i := 1) dL_law_607 rfl rfl ?_
  refine V_aload_n (i := 0) dL_law_608 rfl rfl ?_
  refine V_iload (i := 4) dL_law_609 rfl ?_
  refine V_iconst (v := 1) dL_law_611 (by decide) ?_
  refine V_iadd dL_law_612 ?_
  refine D_sld h dL_law_613 fun h => ?_
  refine V_aload_n (i := 3) dL_law_614 rfl rfl ?_
  refine D_cSXIW (As := [_, _, _]) (μ := fun W1 => (MEM b c W1 M)) (k2 := 1) (n2 := 6) h dL_law_615 cx_L_215 rfl rfl (Nat.le_of_ble_eq_true rfl) (fun x y hx => e_L_isRequestStop (Nat.le_trans (Nat.le_of_ble_eq_true rfl) hf) hc3 hx) fun v2 W1 hi h => ?_
  refine V_istore (i := 5) dL_law_618 (Nat.le_of_ble_eq_true rfl) ?_
  refine V_aload_n (i := 2) dL_law_620 rfl rfl ?_
  refine V_aload_n (i := 0) dL_law_621 rfl rfl ?_
  refine V_iload (i := 4) dL_law_622 rfl ?_
  refine V_iconst (v := 1) dL_law_624 (by decide) ?_
  refine V_iadd dL_law_625 ?_
  refine D_sld h dL_law_626 fun h => ?_
  refine D_cVIW (As := [_]) (μ := fun W3 => (MEM b c W3 M)) h dL_law_627 cv_L_217 rfl ⟨_, _, _, (mem_30 hc2), rfl, rfl⟩ rfl (Nat.le_of_ble_eq_true rfl) (fun x y hx => e_X10_isRequestStop (Nat.le_trans (Nat.le_of_ble_eq_true rfl) hf) hc2 hx) fun v4 W3 h => ?_
  refine V_istore (i := 6) dL_law_630 (Nat.le_of_ble_eq_true rfl) ?_
  refine V_aload_n (i := 2) dL_law_632 rfl rfl ?_
  refine D_cVI (As := []) h dL_law_633 cv_L_176 rfl ⟨_, _, _, (mem_30 hc2), rfl, rfl⟩ rfl (Nat.le_of_ble_eq_true rfl) (fun x hx => e_X10_thrown (Nat.le_trans (Nat.le_of_ble_eq_true rfl) hf) hc2 hx) fun v5 h => ?_
  refine V_iload (i := 5) dL_law_636 rfl ?_
  refine D_icmp_eq (tgt := 643) h dL_law_638 rfl (fun b6 h => ?_) (fun b6 h => ?_)
  · refine V_iload (i := 5) dL_law_643 rfl ?_
    refine D_if_ne (tgt := 667) h dL_law_645 rfl (fun b7 h => ?_) (fun b7 h => ?_)
    · refine V_goto (tgt := 3490) dL_law_667 rfl ?_
      obtain rfl := Option.some.inj h
      refine V_spare (k2 := k) (n2 := n) (by omega) (by omega) ?_
      exact V_sub (ks := [2, 3, 4, 5, 6]) rfl (hk _)
    · refine V_aload_n (i := 3) dL_law_648 rfl rfl ?_
      refine V_iconst (v := 0) dL_law_649 (by decide) ?_
      refine D3_lld hc3 dL_law_650 ?_
      refine V_iload (i := 6) dL_law_651 rfl ?_
      refine D_if_eq (tgt := 660) h dL_law_653 rfl (fun b8 h => ?_) (fun b8 h => ?_)
      · refine V_lconst (v := (0 : Int32).toInt64) dL_law_660 (by decide) ?_
        refine V_lcmp dL_law_661 ?_
        refine D_if_eq (tgt := 667) h dL_law_662 rfl (fun b9 h => ?_) (fun b9 h => ?_)
        · refine V_goto (tgt := 3490) dL_law_667 rfl ?_
          obtain rfl := Option.some.inj h
          refine V_spare (k2 := k) (n2 := n) (by omega) (by omega) ?_
          exact V_sub (ks := [2, 3, 4, 5, 6]) rfl (hk _)
        · refine V_iconst (v := 0) dL_law_665 (by decide) ?_
          cases h
      · refine V_lconst (v := (1 : Int32).toInt64) dL_law_656 (by decide) ?_
        refine V_goto (tgt := 661) dL_law_657 rfl ?_
        refine V_lcmp dL_law_661 ?_
        refine D_if_eq (tgt := 667) h dL_law_662 rfl (fun b10 h => ?_) (fun b10 h => ?_)
        · refine V_goto (tgt := 3490) dL_law_667 rfl ?_
          obtain rfl := Option.some.inj h
          refine V_spare (k2 := k) (n2 := n) (by omega) (by omega) ?_
          exact V_sub (ks := [2, 3, 4, 5, 6]) rfl (hk _)
        · refine V_iconst (v := 0) dL_law_665 (by decide) ?_
          cases h
  · refine V_iconst (v := 0) dL_law_641 (by decide) ?_
    cases h
noncomputable def fc_11 (L : Nat) (s : Nat → Int32) (x4 : Int32) (W : Nat → Nat → Int32) : Option (Nat → Nat → Int32) :=
  gd (inr (x4 + (1 : Int32)) L) (bd2 (f_L_inspectionTime W (s (ix (x4 + (1 : Int32))))) (fun v2 W1 => gd (inr (x4 + (1 : Int32)) L) (bd2 (f_X10_inspectionTime W1 (s (ix (x4 + (1 : Int32))))) (fun v4 W3 => bdc (f_X10_thrown W3) (fun v5 => if v5 = v2 then if v2 = 0 then if (lg_cmp (W3 31 0).toInt64 (v4).toInt64) = 0 then some W3 else none else some W3 else none)))))
theorem ec_11 {G : GT} {f b c : Nat} {M : MM} {hi k n : Nat} {x4 : Int32} {W r : Nat → Nat → Int32} (hf : 14 ≤ f) (hc3 : 620 ≤ c) (hk : ∀ hi, V G f (Ex G f) mL_law PL 3490 [(0, .ref G.1), (1, .ref b), (2, .ref (b + 609)), (3, .ref (b + 619)), (4, .int x4)] [] (MEM b c r M) hi k n) (h : fc_11 G.2.1 G.2.2.1 x4 W = some r) : V G f (Ex G f) mL_law PL 670 [(0, .ref G.1), (1, .ref b), (2, .ref (b + 609)), (3, .ref (b + 619)), (4, .int x4)] [] (MEM b c W M) hi (k + 4) (n + 24) := by
  have hc1 : 609 ≤ c := Nat.le_trans (Nat.le_of_ble_eq_true rfl) hc3
  have hc2 : 619 ≤ c := Nat.le_trans (Nat.le_of_ble_eq_true rfl) hc3
  unfold fc_11 at h
  refine V_spare (k2 := k + 1) (n2 := n + 6) (Nat.add_le_add_left (Nat.le_of_ble_eq_true rfl) _) (Nat.add_le_add_left (Nat.le_of_ble_eq_true rfl) _) ?_
  refine V_aload_n (i := 1) dL_law_670 rfl rfl ?_
  refine V_aload_n (i := 0) dL_law_671 rfl rfl ?_
  refine V_iload (i := 4) dL_law_672 rfl ?_
  refine V_iconst (v := 1) dL_law_674 (by decide) ?_
  refine V_iadd dL_law_675 ?_
  refine D_sld h dL_law_676 fun h => ?_
  refine V_aload_n (i := 3) dL_law_677 rfl rfl ?_
  refine D_cSXIW (As := [_, _, _]) (μ := fun W1 => (MEM b c W1 M)) (k2 := 1) (n2 := 6) h dL_law_678 cx_L_218 rfl rfl (Nat.le_of_ble_eq_true rfl) (fun x y hx => e_L_inspectionTime (Nat.le_trans (Nat.le_of_ble_eq_true rfl) hf) hc3 hx) fun v2 W1 hi h => ?_
  refine V_istore (i := 5) dL_law_681 (Nat.le_of_ble_eq_true rfl) ?_
  refine V_aload_n (i := 2) dL_law_683 rfl rfl ?_
  refine V_aload_n (i := 0) dL_law_684 rfl rfl ?_
  refine V_iload (i := 4) dL_law_685 rfl ?_
  refine V_iconst (v := 1) dL_law_687 (by decide) ?_
  refine V_iadd dL_law_688 ?_
  refine D_sld h dL_law_689 fun h => ?_
  refine D_cVIW (As := [_]) (μ := fun W3 => (MEM b c W3 M)) h dL_law_690 cv_L_220 rfl ⟨_, _, _, (mem_30 hc2), rfl, rfl⟩ rfl (Nat.le_of_ble_eq_true rfl) (fun x y hx => e_X10_inspectionTime (Nat.le_trans (Nat.le_of_ble_eq_true rfl) hf) hc2 hx) fun v4 W3 h => ?_
  refine V_istore (i := 6) dL_law_693 (Nat.le_of_ble_eq_true rfl) ?_
  refine V_aload_n (i := 2) dL_law_695 rfl rfl ?_
  refine D_cVI (As := []) h dL_law_696 cv_L_176 rfl ⟨_, _, _, (mem_30 hc2), rfl, rfl⟩ rfl (Nat.le_of_ble_eq_true rfl) (fun x hx => e_X10_thrown (Nat.le_trans (Nat.le_of_ble_eq_true rfl) hf) hc2 hx) fun v5 h => ?_
  refine V_iload (i := 5) dL_law_699 rfl ?_
  refine D_icmp_eq (tgt := 706) h dL_law_701 rfl (fun b6 h => ?_) (fun b6 h => ?_)
  · refine V_iload (i := 5) dL_law_706 rfl ?_
    refine D_if_ne (tgt := 723) h dL_law_708 rfl (fun b7 h => ?_) (fun b7 h => ?_)
    · refine V_goto (tgt := 3490) dL_law_723 rfl ?_
      obtain rfl := Option.some.inj h
      refine V_spare (k2 := k) (n2 := n) (by omega) (by omega) ?_
      exact V_sub (ks := [2, 3, 4, 5, 6]) rfl (hk _)
    · refine V_aload_n (i := 3) dL_law_711 rfl rfl ?_
      refine V_iconst (v := 0) dL_law_712 (by decide) ?_
      refine D3_lld hc3 dL_law_713 ?_
      refine V_iload (i := 6) dL_law_714 rfl ?_
      refine V_i2l dL_law_716 rfl ?_
      refine V_lcmp dL_law_717 ?_
      refine D_if_eq (tgt := 723) h dL_law_718 rfl (fun b8 h => ?_) (fun b8 h => ?_)
      · refine V_goto (tgt := 3490) dL_law_723 rfl ?_
        obtain rfl := Option.some.inj h
        refine V_spare (k2 := k) (n2 := n) (by omega) (by omega) ?_
        exact V_sub (ks := [2, 3, 4, 5, 6]) rfl (hk _)
      · refine V_iconst (v := 0) dL_law_721 (by decide) ?_
        cases h
  · refine V_iconst (v := 0) dL_law_704 (by decide) ?_
    cases h
noncomputable def fc_12 (L : Nat) (s : Nat → Int32) (x4 : Int32) (W : Nat → Nat → Int32) : Option (Nat → Nat → Int32) :=
  gd (inr (x4 + (1 : Int32)) L) (bd2 (f_L_waitingCount W (s (ix (x4 + (1 : Int32))))) (fun v2 W1 => gd (inr (x4 + (1 : Int32)) L) (bd2 (f_X10_waitingCount W1 (s (ix (x4 + (1 : Int32))))) (fun v4 W3 => bdc (f_X10_thrown W3) (fun v5 => if v5 = v2 then if v2 = 0 then if (lg_cmp (W3 31 0).toInt64 (v4).toInt64) = 0 then some W3 else none else some W3 else none)))))
theorem ec_12 {G : GT} {f b c : Nat} {M : MM} {hi k n : Nat} {x4 : Int32} {W r : Nat → Nat → Int32} (hf : 14 ≤ f) (hc3 : 620 ≤ c) (hk : ∀ hi, V G f (Ex G f) mL_law PL 3490 [(0, .ref G.1), (1, .ref b), (2, .ref (b + 609)), (3, .ref (b + 619)), (4, .int x4)] [] (MEM b c r M) hi k n) (h : fc_12 G.2.1 G.2.2.1 x4 W = some r) : V G f (Ex G f) mL_law PL 726 [(0, .ref G.1), (1, .ref b), (2, .ref (b + 609)), (3, .ref (b + 619)), (4, .int x4)] [] (MEM b c W M) hi (k + 4) (n + 24) := by
  have hc1 : 609 ≤ c := Nat.le_trans (Nat.le_of_ble_eq_true rfl) hc3
  have hc2 : 619 ≤ c := Nat.le_trans (Nat.le_of_ble_eq_true rfl) hc3
  unfold fc_12 at h
  refine V_spare (k2 := k + 1) (n2 := n + 6) (Nat.add_le_add_left (Nat.le_of_ble_eq_true rfl) _) (Nat.add_le_add_left (Nat.le_of_ble_eq_true rfl) _) ?_
  refine V_aload_n (i := 1) dL_law_726 rfl rfl ?_
  refine V_aload_n (i := 0) dL_law_727 rfl rfl ?_
  refine V_iload (i := 4) dL_law_728 rfl ?_
  refine V_iconst (v := 1) dL_law_730 (by decide) ?_
  refine V_iadd dL_law_731 ?_
  refine D_sld h dL_law_732 fun h => ?_
  refine V_aload_n (i := 3) dL_law_733 rfl rfl ?_
  refine D_cSXIW (As := [_, _, _]) (μ := fun W1 => (MEM b c W1 M)) (k2 := 1) (n2 := 6) h dL_law_734 cx_L_221 rfl rfl (Nat.le_of_ble_eq_true rfl) (fun x y hx => e_L_waitingCount (Nat.le_trans (Nat.le_of_ble_eq_true rfl) hf) hc3 hx) fun v2 W1 hi h => ?_
  refine V_istore (i := 5) dL_law_737 (Nat.le_of_ble_eq_true rfl) ?_
  refine V_aload_n (i := 2) dL_law_739 rfl rfl ?_
  refine V_aload_n (i := 0) dL_law_740 rfl rfl ?_
  refine V_iload (i := 4) dL_law_741 rfl ?_
  refine V_iconst (v := 1) dL_law_743 (by decide) ?_
  refine V_iadd dL_law_744 ?_
  refine D_sld h dL_law_745 fun h => ?_
  refine D_cVIW (As := [_]) (μ := fun W3 => (MEM b c W3 M)) h dL_law_746 cv_L_223 rfl ⟨_, _, _, (mem_30 hc2), rfl, rfl⟩ rfl (Nat.le_of_ble_eq_true rfl) (fun x y hx => e_X10_waitingCount (Nat.le_trans (Nat.le_of_ble_eq_true rfl) hf) hc2 hx) fun v4 W3 h => ?_
  refine V_istore (i := 6) dL_law_749 (Nat.le_of_ble_eq_true rfl) ?_
  refine V_aload_n (i := 2) dL_law_751 rfl rfl ?_
  refine D_cVI (As := []) h dL_law_752 cv_L_176 rfl ⟨_, _, _, (mem_30 hc2), rfl, rfl⟩ rfl (Nat.le_of_ble_eq_true rfl) (fun x hx => e_X10_thrown (Nat.le_trans (Nat.le_of_ble_eq_true rfl) hf) hc2 hx) fun v5 h => ?_
  refine V_iload (i := 5) dL_law_755 rfl ?_
  refine D_icmp_eq (tgt := 762) h dL_law_757 rfl (fun b6 h => ?_) (fun b6 h => ?_)
  · refine V_iload (i := 5) dL_law_762 rfl ?_
    refine D_if_ne (tgt := 779) h dL_law_764 rfl (fun b7 h => ?_) (fun b7 h => ?_)
    · refine V_goto (tgt := 3490) dL_law_779 rfl ?_
      obtain rfl := Option.some.inj h
      refine V_spare (k2 := k) (n2 := n) (by omega) (by omega) ?_
      exact V_sub (ks := [2, 3, 4, 5, 6]) rfl (hk _)
    · refine V_aload_n (i := 3) dL_law_767 rfl rfl ?_
      refine V_iconst (v := 0) dL_law_768 (by decide) ?_
      refine D3_lld hc3 dL_law_769 ?_
      refine V_iload (i := 6) dL_law_770 rfl ?_
      refine V_i2l dL_law_772 rfl ?_
      refine V_lcmp dL_law_773 ?_
      refine D_if_eq (tgt := 779) h dL_law_774 rfl (fun b8 h => ?_) (fun b8 h => ?_)
      · refine V_goto (tgt := 3490) dL_law_779 rfl ?_
        obtain rfl := Option.some.inj h
        refine V_spare (k2 := k) (n2 := n) (by omega) (by omega) ?_
        exact V_sub (ks := [2, 3, 4, 5, 6]) rfl (hk _)
      · refine V_iconst (v := 0) dL_law_777 (by decide) ?_
        cases h
  · refine V_iconst (v := 0) dL_law_760 (by decide) ?_
    cases h
noncomputable def fc_13 (L : Nat) (s : Nat → Int32) (x4 : Int32) (W : Nat → Nat → Int32) : Option (Nat → Nat → Int32) :=
  gd (inr (x4 + (1 : Int32)) L) (gd (inr (x4 + (2 : Int32)) L) (bd2 (f_L_waitingParcel W (s (ix (x4 + (1 : Int32)))) (s (ix (x4 + (2 : Int32))))) (fun v2 W1 => gd (inr (x4 + (1 : Int32)) L) (gd (inr (x4 + (2 : Int32)) L) (bd2 (f_X10_waitingParcel W1 (s (ix (x4 + (1 : Int32)))) (s (ix (x4 + (2 : Int32))))) (fun v4 W3 => bdc (f_X10_thrown W3) (fun v5 => if v5 = v2 then if v2 = 0 then if (lg_cmp (W3 31 0).toInt64 (v4).toInt64) = 0 then some W3 else none else some W3 else none)))))))
theorem ec_13 {G : GT} {f b c : Nat} {M : MM} {hi k n : Nat} {x4 : Int32} {W r : Nat → Nat → Int32} (hf : 14 ≤ f) (hc3 : 620 ≤ c) (hk : ∀ hi, V G f (Ex G f) mL_law PL 3490 [(0, .ref G.1), (1, .ref b), (2, .ref (b + 609)), (3, .ref (b + 619)), (4, .int x4)] [] (MEM b c r M) hi k n) (h : fc_13 G.2.1 G.2.2.1 x4 W = some r) : V G f (Ex G f) mL_law PL 782 [(0, .ref G.1), (1, .ref b), (2, .ref (b + 609)), (3, .ref (b + 619)), (4, .int x4)] [] (MEM b c W M) hi (k + 4) (n + 24) := by
  have hc1 : 609 ≤ c := Nat.le_trans (Nat.le_of_ble_eq_true rfl) hc3
  have hc2 : 619 ≤ c := Nat.le_trans (Nat.le_of_ble_eq_true rfl) hc3
  unfold fc_13 at h
  refine V_spare (k2 := k + 2) (n2 := n + 12) (Nat.add_le_add_left (Nat.le_of_ble_eq_true rfl) _) (Nat.add_le_add_left (Nat.le_of_ble_eq_true rfl) _) ?_
  refine V_aload_n (i := 1) dL_law_782 rfl rfl ?_
  refine V_aload_n (i := 0) dL_law_783 rfl rfl ?_
  refine V_iload (i := 4) dL_law_784 rfl ?_
  refine V_iconst (v := 1) dL_law_786 (by decide) ?_
  refine V_iadd dL_law_787 ?_
  refine D_sld h dL_law_788 fun h => ?_
  refine V_aload_n (i := 0) dL_law_789 rfl rfl ?_
  refine V_iload (i := 4) dL_law_790 rfl ?_
  refine V_iconst (v := 2) dL_law_792 (by decide) ?_
  refine V_iadd dL_law_793 ?_
  refine D_sld h dL_law_794 fun h => ?_
  refine V_aload_n (i := 3) dL_law_795 rfl rfl ?_
  refine D_cSXIW (As := [_, _, _, _]) (μ := fun W1 => (MEM b c W1 M)) (k2 := 2) (n2 := 12) h dL_law_796 cx_L_224 rfl rfl (Nat.le_of_ble_eq_true rfl) (fun x y hx => e_L_waitingParcel (Nat.le_trans (Nat.le_of_ble_eq_true rfl) hf) hc3 hx) fun v2 W1 hi h => ?_
  refine V_istore (i := 5) dL_law_799 (Nat.le_of_ble_eq_true rfl) ?_
  refine V_aload_n (i := 2) dL_law_801 rfl rfl ?_
  refine V_aload_n (i := 0) dL_law_802 rfl rfl ?_
  refine V_iload (i := 4) dL_law_803 rfl ?_
  refine V_iconst (v := 1) dL_law_805 (by decide) ?_
  refine V_iadd dL_law_806 ?_
  refine D_sld h dL_law_807 fun h => ?_
  refine V_aload_n (i := 0) dL_law_808 rfl rfl ?_
  refine V_iload (i := 4) dL_law_809 rfl ?_
  refine V_iconst (v := 2) dL_law_811 (by decide) ?_
  refine V_iadd dL_law_812 ?_
  refine D_sld h dL_law_813 fun h => ?_
  refine D_cVIW (As := [_, _]) (μ := fun W3 => (MEM b c W3 M)) h dL_law_814 cv_L_227 rfl ⟨_, _, _, (mem_30 hc2), rfl, rfl⟩ rfl (Nat.le_of_ble_eq_true rfl) (fun x y hx => e_X10_waitingParcel (Nat.le_trans (Nat.le_of_ble_eq_true rfl) hf) hc2 hx) fun v4 W3 h => ?_
  refine V_istore (i := 6) dL_law_817 (Nat.le_of_ble_eq_true rfl) ?_
  refine V_aload_n (i := 2) dL_law_819 rfl rfl ?_
  refine D_cVI (As := []) h dL_law_820 cv_L_176 rfl ⟨_, _, _, (mem_30 hc2), rfl, rfl⟩ rfl (Nat.le_of_ble_eq_true rfl) (fun x hx => e_X10_thrown (Nat.le_trans (Nat.le_of_ble_eq_true rfl) hf) hc2 hx) fun v5 h => ?_
  refine V_iload (i := 5) dL_law_823 rfl ?_
  refine D_icmp_eq (tgt := 830) h dL_law_825 rfl (fun b6 h => ?_) (fun b6 h => ?_)
  · refine V_iload (i := 5) dL_law_830 rfl ?_
    refine D_if_ne (tgt := 847) h dL_law_832 rfl (fun b7 h => ?_) (fun b7 h => ?_)
    · refine V_goto (tgt := 3490) dL_law_847 rfl ?_
      obtain rfl := Option.some.inj h
      refine V_spare (k2 := k) (n2 := n) (by omega) (by omega) ?_
      exact V_sub (ks := [2, 3, 4, 5, 6]) rfl (hk _)
    · refine V_aload_n (i := 3) dL_law_835 rfl rfl ?_
      refine V_iconst (v := 0) dL_law_836 (by decide) ?_
      refine D3_lld hc3 dL_law_837 ?_
      refine V_iload (i := 6) dL_law_838 rfl ?_
      refine V_i2l dL_law_840 rfl ?_
      refine V_lcmp dL_law_841 ?_
      refine D_if_eq (tgt := 847) h dL_law_842 rfl (fun b8 h => ?_) (fun b8 h => ?_)
      · refine V_goto (tgt := 3490) dL_law_847 rfl ?_
        obtain rfl := Option.some.inj h
        refine V_spare (k2 := k) (n2 := n) (by omega) (by omega) ?_
        exact V_sub (ks := [2, 3, 4, 5, 6]) rfl (hk _)
      · refine V_iconst (v := 0) dL_law_845 (by decide) ?_
        cases h
  · refine V_iconst (v := 0) dL_law_828 (by decide) ?_
    cases h
noncomputable def fc_14 (L : Nat) (s : Nat → Int32) (x4 : Int32) (W : Nat → Nat → Int32) : Option (Nat → Nat → Int32) :=
  gd (inr (x4 + (1 : Int32)) L) (gd (inr (x4 + (2 : Int32)) L) (bd2 (f_L_travelTime W (s (ix (x4 + (1 : Int32)))) (s (ix (x4 + (2 : Int32))))) (fun v2 W1 => gd (inr (x4 + (1 : Int32)) L) (gd (inr (x4 + (2 : Int32)) L) (bd2 (f_X10_travelTime W1 (s (ix (x4 + (1 : Int32)))) (s (ix (x4 + (2 : Int32))))) (fun v4 W3 => bdc (f_X10_thrown W3) (fun v5 => if v5 = v2 then if v2 = 0 then if (lg_cmp (W3 31 0).toInt64 (v4).toInt64) = 0 then some W3 else none else some W3 else none)))))))
theorem ec_14 {G : GT} {f b c : Nat} {M : MM} {hi k n : Nat} {x4 : Int32} {W r : Nat → Nat → Int32} (hf : 14 ≤ f) (hc3 : 620 ≤ c) (hk : ∀ hi, V G f (Ex G f) mL_law PL 3490 [(0, .ref G.1), (1, .ref b), (2, .ref (b + 609)), (3, .ref (b + 619)), (4, .int x4)] [] (MEM b c r M) hi k n) (h : fc_14 G.2.1 G.2.2.1 x4 W = some r) : V G f (Ex G f) mL_law PL 850 [(0, .ref G.1), (1, .ref b), (2, .ref (b + 609)), (3, .ref (b + 619)), (4, .int x4)] [] (MEM b c W M) hi (k + 4) (n + 24) := by
  have hc1 : 609 ≤ c := Nat.le_trans (Nat.le_of_ble_eq_true rfl) hc3
  have hc2 : 619 ≤ c := Nat.le_trans (Nat.le_of_ble_eq_true rfl) hc3
  unfold fc_14 at h
  refine V_spare (k2 := k + 2) (n2 := n + 12) (Nat.add_le_add_left (Nat.le_of_ble_eq_true rfl) _) (Nat.add_le_add_left (Nat.le_of_ble_eq_true rfl) _) ?_
  refine V_aload_n (i := 1) dL_law_850 rfl rfl ?_
  refine V_aload_n (i := 0) dL_law_851 rfl rfl ?_
  refine V_iload (i := 4) dL_law_852 rfl ?_
  refine V_iconst (v := 1) dL_law_854 (by decide) ?_
  refine V_iadd dL_law_855 ?_
  refine D_sld h dL_law_856 fun h => ?_
  refine V_aload_n (i := 0) dL_law_857 rfl rfl ?_
  refine V_iload (i := 4) dL_law_858 rfl ?_
  refine V_iconst (v := 2) dL_law_860 (by decide) ?_
  refine V_iadd dL_law_861 ?_
  refine D_sld h dL_law_862 fun h => ?_
  refine V_aload_n (i := 3) dL_law_863 rfl rfl ?_
  refine D_cSXIW (As := [_, _, _, _]) (μ := fun W1 => (MEM b c W1 M)) (k2 := 2) (n2 := 12) h dL_law_864 cx_L_228 rfl rfl (Nat.le_of_ble_eq_true rfl) (fun x y hx => e_L_travelTime (Nat.le_trans (Nat.le_of_ble_eq_true rfl) hf) hc3 hx) fun v2 W1 hi h => ?_
  refine V_istore (i := 5) dL_law_867 (Nat.le_of_ble_eq_true rfl) ?_
  refine V_aload_n (i := 2) dL_law_869 rfl rfl ?_
  refine V_aload_n (i := 0) dL_law_870 rfl rfl ?_
  refine V_iload (i := 4) dL_law_871 rfl ?_
  refine V_iconst (v := 1) dL_law_873 (by decide) ?_
  refine V_iadd dL_law_874 ?_
  refine D_sld h dL_law_875 fun h => ?_
  refine V_aload_n (i := 0) dL_law_876 rfl rfl ?_
  refine V_iload (i := 4) dL_law_877 rfl ?_
  refine V_iconst (v := 2) dL_law_879 (by decide) ?_
  refine V_iadd dL_law_880 ?_
  refine D_sld h dL_law_881 fun h => ?_
  refine D_cVIW (As := [_, _]) (μ := fun W3 => (MEM b c W3 M)) h dL_law_882 cv_L_230 rfl ⟨_, _, _, (mem_30 hc2), rfl, rfl⟩ rfl (Nat.le_of_ble_eq_true rfl) (fun x y hx => e_X10_travelTime (Nat.le_trans (Nat.le_of_ble_eq_true rfl) hf) hc2 hx) fun v4 W3 h => ?_
  refine V_istore (i := 6) dL_law_885 (Nat.le_of_ble_eq_true rfl) ?_
  refine V_aload_n (i := 2) dL_law_887 rfl rfl ?_
  refine D_cVI (As := []) h dL_law_888 cv_L_176 rfl ⟨_, _, _, (mem_30 hc2), rfl, rfl⟩ rfl (Nat.le_of_ble_eq_true rfl) (fun x hx => e_X10_thrown (Nat.le_trans (Nat.le_of_ble_eq_true rfl) hf) hc2 hx) fun v5 h => ?_
  refine V_iload (i := 5) dL_law_891 rfl ?_
  refine D_icmp_eq (tgt := 898) h dL_law_893 rfl (fun b6 h => ?_) (fun b6 h => ?_)
  · refine V_iload (i := 5) dL_law_898 rfl ?_
    refine D_if_ne (tgt := 915) h dL_law_900 rfl (fun b7 h => ?_) (fun b7 h => ?_)
    · refine V_goto (tgt := 3490) dL_law_915 rfl ?_
      obtain rfl := Option.some.inj h
      refine V_spare (k2 := k) (n2 := n) (by omega) (by omega) ?_
      exact V_sub (ks := [2, 3, 4, 5, 6]) rfl (hk _)
    · refine V_aload_n (i := 3) dL_law_903 rfl rfl ?_
      refine V_iconst (v := 0) dL_law_904 (by decide) ?_
      refine D3_lld hc3 dL_law_905 ?_
      refine V_iload (i := 6) dL_law_906 rfl ?_
      refine V_i2l dL_law_908 rfl ?_
      refine V_lcmp dL_law_909 ?_
      refine D_if_eq (tgt := 915) h dL_law_910 rfl (fun b8 h => ?_) (fun b8 h => ?_)
      · refine V_goto (tgt := 3490) dL_law_915 rfl ?_
        obtain rfl := Option.some.inj h
        refine V_spare (k2 := k) (n2 := n) (by omega) (by omega) ?_
        exact V_sub (ks := [2, 3, 4, 5, 6]) rfl (hk _)
      · refine V_iconst (v := 0) dL_law_913 (by decide) ?_
        cases h
  · refine V_iconst (v := 0) dL_law_896 (by decide) ?_
    cases h
noncomputable def fc_15 (L : Nat) (s : Nat → Int32) (x4 : Int32) (W : Nat → Nat → Int32) : Option (Nat → Nat → Int32) :=
  gd (inr (x4 + (1 : Int32)) L) (gd (inr (x4 + (2 : Int32)) L) (bd2 (f_L_isTrackOpen W (s (ix (x4 + (1 : Int32)))) (s (ix (x4 + (2 : Int32))))) (fun v2 W1 => gd (inr (x4 + (1 : Int32)) L) (gd (inr (x4 + (2 : Int32)) L) (bd2 (f_X10_isTrackOpen W1 (s (ix (x4 + (1 : Int32)))) (s (ix (x4 + (2 : Int32))))) (fun v4 W3 => bdc (f_X10_thrown W3) (fun v5 => if v5 = v2 then if v2 = 0 then if v4 = 0 then if (lg_cmp (W3 31 0).toInt64 ((0 : Int32)).toInt64) = 0 then some W3 else none else if (lg_cmp (W3 31 0).toInt64 ((1 : Int32)).toInt64) = 0 then some W3 else none else some W3 else none)))))))
theorem ec_15 {G : GT} {f b c : Nat} {M : MM} {hi k n : Nat} {x4 : Int32} {W r : Nat → Nat → Int32} (hf : 14 ≤ f) (hc3 : 620 ≤ c) (hk : ∀ hi, V G f (Ex G f) mL_law PL 3490 [(0, .ref G.1), (1, .ref b), (2, .ref (b + 609)), (3, .ref (b + 619)), (4, .int x4)] [] (MEM b c r M) hi k n) (h : fc_15 G.2.1 G.2.2.1 x4 W = some r) : V G f (Ex G f) mL_law PL 918 [(0, .ref G.1), (1, .ref b), (2, .ref (b + 609)), (3, .ref (b + 619)), (4, .int x4)] [] (MEM b c W M) hi (k + 4) (n + 24) := by
  have hc1 : 609 ≤ c := Nat.le_trans (Nat.le_of_ble_eq_true rfl) hc3
  have hc2 : 619 ≤ c := Nat.le_trans (Nat.le_of_ble_eq_true rfl) hc3
  unfold fc_15 at h
  refine V_spare (k2 := k + 2) (n2 := n + 12) (Nat.add_le_add_left (Nat.le_of_ble_eq_true rfl) _) (Nat.add_le_add_left (Nat.le_of_ble_eq_true rfl) _) ?_
  refine V_aload_n (i := 1) dL_law_918 rfl rfl ?_
  refine V_aload_n (i := 0) dL_law_919 rfl rfl ?_
  refine V_iload (i := 4) dL_law_920 rfl ?_
  refine V_iconst (v := 1) dL_law_922 (by decide) ?_
  refine V_iadd dL_law_923 ?_
  refine D_sld h dL_law_924 fun h => ?_
  refine V_aload_n (i := 0) dL_law_925 rfl rfl ?_
  refine V_iload (i := 4) dL_law_926 rfl ?_
  refine V_iconst (v := 2) dL_law_928 (by decide) ?_
  refine V_iadd dL_law_929 ?_
  refine D_sld h dL_law_930 fun h => ?_
  refine V_aload_n (i := 3) dL_law_931 rfl rfl ?_
  refine D_cSXIW (As := [_, _, _, _]) (μ := fun W1 => (MEM b c W1 M)) (k2 := 2) (n2 := 12) h dL_law_932 cx_L_231 rfl rfl (Nat.le_of_ble_eq_true rfl) (fun x y hx => e_L_isTrackOpen (Nat.le_trans (Nat.le_of_ble_eq_true rfl) hf) hc3 hx) fun v2 W1 hi h => ?_
  refine V_istore (i := 5) dL_law_935 (Nat.le_of_ble_eq_true rfl) ?_
  refine V_aload_n (i := 2) dL_law_937 rfl rfl ?_
  refine V_aload_n (i := 0) dL_law_938 rfl rfl ?_
  refine V_iload (i := 4) dL_law_939 rfl ?_
  refine V_iconst (v := 1) dL_law_941 (by decide) ?_
  refine V_iadd dL_law_942 ?_
  refine D_sld h dL_law_943 fun h => ?_
  refine V_aload_n (i := 0) dL_law_944 rfl rfl ?_
  refine V_iload (i := 4) dL_law_945 rfl ?_
  refine V_iconst (v := 2) dL_law_947 (by decide) ?_
  refine V_iadd dL_law_948 ?_
  refine D_sld h dL_law_949 fun h => ?_
  refine D_cVIW (As := [_, _]) (μ := fun W3 => (MEM b c W3 M)) h dL_law_950 cv_L_233 rfl ⟨_, _, _, (mem_30 hc2), rfl, rfl⟩ rfl (Nat.le_of_ble_eq_true rfl) (fun x y hx => e_X10_isTrackOpen (Nat.le_trans (Nat.le_of_ble_eq_true rfl) hf) hc2 hx) fun v4 W3 h => ?_
  refine V_istore (i := 6) dL_law_953 (Nat.le_of_ble_eq_true rfl) ?_
  refine V_aload_n (i := 2) dL_law_955 rfl rfl ?_
  refine D_cVI (As := []) h dL_law_956 cv_L_176 rfl ⟨_, _, _, (mem_30 hc2), rfl, rfl⟩ rfl (Nat.le_of_ble_eq_true rfl) (fun x hx => e_X10_thrown (Nat.le_trans (Nat.le_of_ble_eq_true rfl) hf) hc2 hx) fun v5 h => ?_
  refine V_iload (i := 5) dL_law_959 rfl ?_
  refine D_icmp_eq (tgt := 966) h dL_law_961 rfl (fun b6 h => ?_) (fun b6 h => ?_)
  · refine V_iload (i := 5) dL_law_966 rfl ?_
    refine D_if_ne (tgt := 990) h dL_law_968 rfl (fun b7 h => ?_) (fun b7 h => ?_)
    · refine V_goto (tgt := 3490) dL_law_990 rfl ?_
      obtain rfl := Option.some.inj h
      refine V_spare (k2 := k) (n2 := n) (by omega) (by omega) ?_
      exact V_sub (ks := [2, 3, 4, 5, 6]) rfl (hk _)
    · refine V_aload_n (i := 3) dL_law_971 rfl rfl ?_
      refine V_iconst (v := 0) dL_law_972 (by decide) ?_
      refine D3_lld hc3 dL_law_973 ?_
      refine V_iload (i := 6) dL_law_974 rfl ?_
      refine D_if_eq (tgt := 983) h dL_law_976 rfl (fun b8 h => ?_) (fun b8 h => ?_)
      · refine V_lconst (v := (0 : Int32).toInt64) dL_law_983 (by decide) ?_
        refine V_lcmp dL_law_984 ?_
        refine D_if_eq (tgt := 990) h dL_law_985 rfl (fun b9 h => ?_) (fun b9 h => ?_)
        · refine V_goto (tgt := 3490) dL_law_990 rfl ?_
          obtain rfl := Option.some.inj h
          refine V_spare (k2 := k) (n2 := n) (by omega) (by omega) ?_
          exact V_sub (ks := [2, 3, 4, 5, 6]) rfl (hk _)
        · refine V_iconst (v := 0) dL_law_988 (by decide) ?_
          cases h
      · refine V_lconst (v := (1 : Int32).toInt64) dL_law_979 (by decide) ?_
        refine V_goto (tgt := 984) dL_law_980 rfl ?_
        refine V_lcmp dL_law_984 ?_
        refine D_if_eq (tgt := 990) h dL_law_985 rfl (fun b10 h => ?_) (fun b10 h => ?_)
        · refine V_goto (tgt := 3490) dL_law_990 rfl ?_
          obtain rfl := Option.some.inj h
          refine V_spare (k2 := k) (n2 := n) (by omega) (by omega) ?_
          exact V_sub (ks := [2, 3, 4, 5, 6]) rfl (hk _)
        · refine V_iconst (v := 0) dL_law_988 (by decide) ?_
          cases h
  · refine V_iconst (v := 0) dL_law_964 (by decide) ?_
    cases h
noncomputable def fc_16 (L : Nat) (s : Nat → Int32) (x4 : Int32) (W : Nat → Nat → Int32) : Option (Nat → Nat → Int32) :=
  gd (inr (x4 + (1 : Int32)) L) (gd (inr (x4 + (2 : Int32)) L) (bd2 (f_L_distance W (s (ix (x4 + (1 : Int32)))) (s (ix (x4 + (2 : Int32))))) (fun v2 W1 => gd (inr (x4 + (1 : Int32)) L) (gd (inr (x4 + (2 : Int32)) L) (bd2 (f_X10_distance W1 (s (ix (x4 + (1 : Int32)))) (s (ix (x4 + (2 : Int32))))) (fun v4 W3 => bdc (f_X10_thrown W3) (fun v5 => if v5 = v2 then if v2 = 0 then if (lg_cmp (W3 31 0).toInt64 (v4).toInt64) = 0 then some W3 else none else some W3 else none)))))))
theorem ec_16 {G : GT} {f b c : Nat} {M : MM} {hi k n : Nat} {x4 : Int32} {W r : Nat → Nat → Int32} (hf : 14 ≤ f) (hc3 : 620 ≤ c) (hk : ∀ hi, V G f (Ex G f) mL_law PL 3490 [(0, .ref G.1), (1, .ref b), (2, .ref (b + 609)), (3, .ref (b + 619)), (4, .int x4)] [] (MEM b c r M) hi k n) (h : fc_16 G.2.1 G.2.2.1 x4 W = some r) : V G f (Ex G f) mL_law PL 993 [(0, .ref G.1), (1, .ref b), (2, .ref (b + 609)), (3, .ref (b + 619)), (4, .int x4)] [] (MEM b c W M) hi (k + 4) (n + 24) := by
  have hc1 : 609 ≤ c := Nat.le_trans (Nat.le_of_ble_eq_true rfl) hc3
  have hc2 : 619 ≤ c := Nat.le_trans (Nat.le_of_ble_eq_true rfl) hc3
  unfold fc_16 at h
  refine V_spare (k2 := k + 2) (n2 := n + 12) (Nat.add_le_add_left (Nat.le_of_ble_eq_true rfl) _) (Nat.add_le_add_left (Nat.le_of_ble_eq_true rfl) _) ?_
  refine V_aload_n (i := 1) dL_law_993 rfl rfl ?_
  refine V_aload_n (i := 0) dL_law_994 rfl rfl ?_
  refine V_iload (i := 4) dL_law_995 rfl ?_
  refine V_iconst (v := 1) dL_law_997 (by decide) ?_
  refine V_iadd dL_law_998 ?_
  refine D_sld h dL_law_999 fun h => ?_
  refine V_aload_n (i := 0) dL_law_1000 rfl rfl ?_
  refine V_iload (i := 4) dL_law_1001 rfl ?_
  refine V_iconst (v := 2) dL_law_1003 (by decide) ?_
  refine V_iadd dL_law_1004 ?_
  refine D_sld h dL_law_1005 fun h => ?_
  refine V_aload_n (i := 3) dL_law_1006 rfl rfl ?_
  refine D_cSXIW (As := [_, _, _, _]) (μ := fun W1 => (MEM b c W1 M)) (k2 := 2) (n2 := 12) h dL_law_1007 cx_L_234 rfl rfl (Nat.le_of_ble_eq_true rfl) (fun x y hx => e_L_distance (Nat.le_trans (Nat.le_of_ble_eq_true rfl) hf) hc3 hx) fun v2 W1 hi h => ?_
  refine V_istore (i := 5) dL_law_1010 (Nat.le_of_ble_eq_true rfl) ?_
  refine V_aload_n (i := 2) dL_law_1012 rfl rfl ?_
  refine V_aload_n (i := 0) dL_law_1013 rfl rfl ?_
  refine V_iload (i := 4) dL_law_1014 rfl ?_
  refine V_iconst (v := 1) dL_law_1016 (by decide) ?_
  refine V_iadd dL_law_1017 ?_
  refine D_sld h dL_law_1018 fun h => ?_
  refine V_aload_n (i := 0) dL_law_1019 rfl rfl ?_
  refine V_iload (i := 4) dL_law_1020 rfl ?_
  refine V_iconst (v := 2) dL_law_1022 (by decide) ?_
  refine V_iadd dL_law_1023 ?_
  refine D_sld h dL_law_1024 fun h => ?_
  refine D_cVIW (As := [_, _]) (μ := fun W3 => (MEM b c W3 M)) h dL_law_1025 cv_L_236 rfl ⟨_, _, _, (mem_30 hc2), rfl, rfl⟩ rfl (Nat.le_of_ble_eq_true rfl) (fun x y hx => e_X10_distance (Nat.le_trans (Nat.le_of_ble_eq_true rfl) hf) hc2 hx) fun v4 W3 h => ?_
  refine V_istore (i := 6) dL_law_1028 (Nat.le_of_ble_eq_true rfl) ?_
  refine V_aload_n (i := 2) dL_law_1030 rfl rfl ?_
  refine D_cVI (As := []) h dL_law_1031 cv_L_176 rfl ⟨_, _, _, (mem_30 hc2), rfl, rfl⟩ rfl (Nat.le_of_ble_eq_true rfl) (fun x hx => e_X10_thrown (Nat.le_trans (Nat.le_of_ble_eq_true rfl) hf) hc2 hx) fun v5 h => ?_
  refine V_iload (i := 5) dL_law_1034 rfl ?_
  refine D_icmp_eq (tgt := 1041) h dL_law_1036 rfl (fun b6 h => ?_) (fun b6 h => ?_)
  · refine V_iload (i := 5) dL_law_1041 rfl ?_
    refine D_if_ne (tgt := 1058) h dL_law_1043 rfl (fun b7 h => ?_) (fun b7 h => ?_)
    · refine V_goto (tgt := 3490) dL_law_1058 rfl ?_
      obtain rfl := Option.some.inj h
      refine V_spare (k2 := k) (n2 := n) (by omega) (by omega) ?_
      exact V_sub (ks := [2, 3, 4, 5, 6]) rfl (hk _)
    · refine V_aload_n (i := 3) dL_law_1046 rfl rfl ?_
      refine V_iconst (v := 0) dL_law_1047 (by decide) ?_
      refine D3_lld hc3 dL_law_1048 ?_
      refine V_iload (i := 6) dL_law_1049 rfl ?_
      refine V_i2l dL_law_1051 rfl ?_
      refine V_lcmp dL_law_1052 ?_
      refine D_if_eq (tgt := 1058) h dL_law_1053 rfl (fun b8 h => ?_) (fun b8 h => ?_)
      · refine V_goto (tgt := 3490) dL_law_1058 rfl ?_
        obtain rfl := Option.some.inj h
        refine V_spare (k2 := k) (n2 := n) (by omega) (by omega) ?_
        exact V_sub (ks := [2, 3, 4, 5, 6]) rfl (hk _)
      · refine V_iconst (v := 0) dL_law_1056 (by decide) ?_
        cases h
  · refine V_iconst (v := 0) dL_law_1039 (by decide) ?_
    cases h
noncomputable def fc_17 (L : Nat) (s : Nat → Int32) (x4 : Int32) (W : Nat → Nat → Int32) : Option (Nat → Nat → Int32) :=
  gd (inr (x4 + (1 : Int32)) L) (bd2 (f_L_capacity W (s (ix (x4 + (1 : Int32))))) (fun v2 W1 => gd (inr (x4 + (1 : Int32)) L) (bd2 (f_X10_capacity W1 (s (ix (x4 + (1 : Int32))))) (fun v4 W3 => bdc (f_X10_thrown W3) (fun v5 => if v5 = v2 then if v2 = 0 then if (lg_cmp (W3 31 0).toInt64 (v4).toInt64) = 0 then some W3 else none else some W3 else none)))))
theorem ec_17 {G : GT} {f b c : Nat} {M : MM} {hi k n : Nat} {x4 : Int32} {W r : Nat → Nat → Int32} (hf : 14 ≤ f) (hc3 : 620 ≤ c) (hk : ∀ hi, V G f (Ex G f) mL_law PL 3490 [(0, .ref G.1), (1, .ref b), (2, .ref (b + 609)), (3, .ref (b + 619)), (4, .int x4)] [] (MEM b c r M) hi k n) (h : fc_17 G.2.1 G.2.2.1 x4 W = some r) : V G f (Ex G f) mL_law PL 1061 [(0, .ref G.1), (1, .ref b), (2, .ref (b + 609)), (3, .ref (b + 619)), (4, .int x4)] [] (MEM b c W M) hi (k + 4) (n + 24) := by
  have hc1 : 609 ≤ c := Nat.le_trans (Nat.le_of_ble_eq_true rfl) hc3
  have hc2 : 619 ≤ c := Nat.le_trans (Nat.le_of_ble_eq_true rfl) hc3
  unfold fc_17 at h
  refine V_spare (k2 := k + 1) (n2 := n + 6) (Nat.add_le_add_left (Nat.le_of_ble_eq_true rfl) _) (Nat.add_le_add_left (Nat.le_of_ble_eq_true rfl) _) ?_
  refine V_aload_n (i := 1) dL_law_1061 rfl rfl ?_
  refine V_aload_n (i := 0) dL_law_1062 rfl rfl ?_
  refine V_iload (i := 4) dL_law_1063 rfl ?_
  refine V_iconst (v := 1) dL_law_1065 (by decide) ?_
  refine V_iadd dL_law_1066 ?_
  refine D_sld h dL_law_1067 fun h => ?_
  refine V_aload_n (i := 3) dL_law_1068 rfl rfl ?_
  refine D_cSXIW (As := [_, _, _]) (μ := fun W1 => (MEM b c W1 M)) (k2 := 1) (n2 := 6) h dL_law_1069 cx_L_237 rfl rfl (Nat.le_of_ble_eq_true rfl) (fun x y hx => e_L_capacity (Nat.le_trans (Nat.le_of_ble_eq_true rfl) hf) hc3 hx) fun v2 W1 hi h => ?_
  refine V_istore (i := 5) dL_law_1072 (Nat.le_of_ble_eq_true rfl) ?_
  refine V_aload_n (i := 2) dL_law_1074 rfl rfl ?_
  refine V_aload_n (i := 0) dL_law_1075 rfl rfl ?_
  refine V_iload (i := 4) dL_law_1076 rfl ?_
  refine V_iconst (v := 1) dL_law_1078 (by decide) ?_
  refine V_iadd dL_law_1079 ?_
  refine D_sld h dL_law_1080 fun h => ?_
  refine D_cVIW (As := [_]) (μ := fun W3 => (MEM b c W3 M)) h dL_law_1081 cv_L_239 rfl ⟨_, _, _, (mem_30 hc2), rfl, rfl⟩ rfl (Nat.le_of_ble_eq_true rfl) (fun x y hx => e_X10_capacity (Nat.le_trans (Nat.le_of_ble_eq_true rfl) hf) hc2 hx) fun v4 W3 h => ?_
  refine V_istore (i := 6) dL_law_1084 (Nat.le_of_ble_eq_true rfl) ?_
  refine V_aload_n (i := 2) dL_law_1086 rfl rfl ?_
  refine D_cVI (As := []) h dL_law_1087 cv_L_176 rfl ⟨_, _, _, (mem_30 hc2), rfl, rfl⟩ rfl (Nat.le_of_ble_eq_true rfl) (fun x hx => e_X10_thrown (Nat.le_trans (Nat.le_of_ble_eq_true rfl) hf) hc2 hx) fun v5 h => ?_
  refine V_iload (i := 5) dL_law_1090 rfl ?_
  refine D_icmp_eq (tgt := 1097) h dL_law_1092 rfl (fun b6 h => ?_) (fun b6 h => ?_)
  · refine V_iload (i := 5) dL_law_1097 rfl ?_
    refine D_if_ne (tgt := 1114) h dL_law_1099 rfl (fun b7 h => ?_) (fun b7 h => ?_)
    · refine V_goto (tgt := 3490) dL_law_1114 rfl ?_
      obtain rfl := Option.some.inj h
      refine V_spare (k2 := k) (n2 := n) (by omega) (by omega) ?_
      exact V_sub (ks := [2, 3, 4, 5, 6]) rfl (hk _)
    · refine V_aload_n (i := 3) dL_law_1102 rfl rfl ?_
      refine V_iconst (v := 0) dL_law_1103 (by decide) ?_
      refine D3_lld hc3 dL_law_1104 ?_
      refine V_iload (i := 6) dL_law_1105 rfl ?_
      refine V_i2l dL_law_1107 rfl ?_
      refine V_lcmp dL_law_1108 ?_
      refine D_if_eq (tgt := 1114) h dL_law_1109 rfl (fun b8 h => ?_) (fun b8 h => ?_)
      · refine V_goto (tgt := 3490) dL_law_1114 rfl ?_
        obtain rfl := Option.some.inj h
        refine V_spare (k2 := k) (n2 := n) (by omega) (by omega) ?_
        exact V_sub (ks := [2, 3, 4, 5, 6]) rfl (hk _)
      · refine V_iconst (v := 0) dL_law_1112 (by decide) ?_
        cases h
  · refine V_iconst (v := 0) dL_law_1095 (by decide) ?_
    cases h
noncomputable def fc_18 (L : Nat) (s : Nat → Int32) (x4 : Int32) (W : Nat → Nat → Int32) : Option (Nat → Nat → Int32) :=
  gd (inr (x4 + (1 : Int32)) L) (bd2 (f_L_routeLength W (s (ix (x4 + (1 : Int32))))) (fun v2 W1 => gd (inr (x4 + (1 : Int32)) L) (bd2 (f_X10_routeLength W1 (s (ix (x4 + (1 : Int32))))) (fun v4 W3 => bdc (f_X10_thrown W3) (fun v5 => if v5 = v2 then if v2 = 0 then if (lg_cmp (W3 31 0).toInt64 (v4).toInt64) = 0 then some W3 else none else some W3 else none)))))
theorem ec_18 {G : GT} {f b c : Nat} {M : MM} {hi k n : Nat} {x4 : Int32} {W r : Nat → Nat → Int32} (hf : 14 ≤ f) (hc3 : 620 ≤ c) (hk : ∀ hi, V G f (Ex G f) mL_law PL 3490 [(0, .ref G.1), (1, .ref b), (2, .ref (b + 609)), (3, .ref (b + 619)), (4, .int x4)] [] (MEM b c r M) hi k n) (h : fc_18 G.2.1 G.2.2.1 x4 W = some r) : V G f (Ex G f) mL_law PL 1117 [(0, .ref G.1), (1, .ref b), (2, .ref (b + 609)), (3, .ref (b + 619)), (4, .int x4)] [] (MEM b c W M) hi (k + 4) (n + 24) := by
  have hc1 : 609 ≤ c := Nat.le_trans (Nat.le_of_ble_eq_true rfl) hc3
  have hc2 : 619 ≤ c := Nat.le_trans (Nat.le_of_ble_eq_true rfl) hc3
  unfold fc_18 at h
  refine V_spare (k2 := k + 1) (n2 := n + 6) (Nat.add_le_add_left (Nat.le_of_ble_eq_true rfl) _) (Nat.add_le_add_left (Nat.le_of_ble_eq_true rfl) _) ?_
  refine V_aload_n (i := 1) dL_law_1117 rfl rfl ?_
  refine V_aload_n (i := 0) dL_law_1118 rfl rfl ?_
  refine V_iload (i := 4) dL_law_1119 rfl ?_
  refine V_iconst (v := 1) dL_law_1121 (by decide) ?_
  refine V_iadd dL_law_1122 ?_
  refine D_sld h dL_law_1123 fun h => ?_
  refine V_aload_n (i := 3) dL_law_1124 rfl rfl ?_
  refine D_cSXIW (As := [_, _, _]) (μ := fun W1 => (MEM b c W1 M)) (k2 := 1) (n2 := 6) h dL_law_1125 cx_L_240 rfl rfl (Nat.le_of_ble_eq_true rfl) (fun x y hx => e_L_routeLength (Nat.le_trans (Nat.le_of_ble_eq_true rfl) hf) hc3 hx) fun v2 W1 hi h => ?_
  refine V_istore (i := 5) dL_law_1128 (Nat.le_of_ble_eq_true rfl) ?_
  refine V_aload_n (i := 2) dL_law_1130 rfl rfl ?_
  refine V_aload_n (i := 0) dL_law_1131 rfl rfl ?_
  refine V_iload (i := 4) dL_law_1132 rfl ?_
  refine V_iconst (v := 1) dL_law_1134 (by decide) ?_
  refine V_iadd dL_law_1135 ?_
  refine D_sld h dL_law_1136 fun h => ?_
  refine D_cVIW (As := [_]) (μ := fun W3 => (MEM b c W3 M)) h dL_law_1137 cv_L_242 rfl ⟨_, _, _, (mem_30 hc2), rfl, rfl⟩ rfl (Nat.le_of_ble_eq_true rfl) (fun x y hx => e_X10_routeLength (Nat.le_trans (Nat.le_of_ble_eq_true rfl) hf) hc2 hx) fun v4 W3 h => ?_
  refine V_istore (i := 6) dL_law_1140 (Nat.le_of_ble_eq_true rfl) ?_
  refine V_aload_n (i := 2) dL_law_1142 rfl rfl ?_
  refine D_cVI (As := []) h dL_law_1143 cv_L_176 rfl ⟨_, _, _, (mem_30 hc2), rfl, rfl⟩ rfl (Nat.le_of_ble_eq_true rfl) (fun x hx => e_X10_thrown (Nat.le_trans (Nat.le_of_ble_eq_true rfl) hf) hc2 hx) fun v5 h => ?_
  refine V_iload (i := 5) dL_law_1146 rfl ?_
  refine D_icmp_eq (tgt := 1153) h dL_law_1148 rfl (fun b6 h => ?_) (fun b6 h => ?_)
  · refine V_iload (i := 5) dL_law_1153 rfl ?_
    refine D_if_ne (tgt := 1170) h dL_law_1155 rfl (fun b7 h => ?_) (fun b7 h => ?_)
    · refine V_goto (tgt := 3490) dL_law_1170 rfl ?_
      obtain rfl := Option.some.inj h
      refine V_spare (k2 := k) (n2 := n) (by omega) (by omega) ?_
      exact V_sub (ks := [2, 3, 4, 5, 6]) rfl (hk _)
    · refine V_aload_n (i := 3) dL_law_1158 rfl rfl ?_
      refine V_iconst (v := 0) dL_law_1159 (by decide) ?_
      refine D3_lld hc3 dL_law_1160 ?_
      refine V_iload (i := 6) dL_law_1161 rfl ?_
      refine V_i2l dL_law_1163 rfl ?_
      refine V_lcmp dL_law_1164 ?_
      refine D_if_eq (tgt := 1170) h dL_law_1165 rfl (fun b8 h => ?_) (fun b8 h => ?_)
      · refine V_goto (tgt := 3490) dL_law_1170 rfl ?_
        obtain rfl := Option.some.inj h
        refine V_spare (k2 := k) (n2 := n) (by omega) (by omega) ?_
        exact V_sub (ks := [2, 3, 4, 5, 6]) rfl (hk _)
      · refine V_iconst (v := 0) dL_law_1168 (by decide) ?_
        cases h
  · refine V_iconst (v := 0) dL_law_1151 (by decide) ?_
    cases h
noncomputable def fc_19 (L : Nat) (s : Nat → Int32) (x4 : Int32) (W : Nat → Nat → Int32) : Option (Nat → Nat → Int32) :=
  gd (inr (x4 + (1 : Int32)) L) (gd (inr (x4 + (2 : Int32)) L) (bd2 (f_L_routeStation W (s (ix (x4 + (1 : Int32)))) (s (ix (x4 + (2 : Int32))))) (fun v2 W1 => gd (inr (x4 + (1 : Int32)) L) (gd (inr (x4 + (2 : Int32)) L) (bd2 (f_X10_routeStation W1 (s (ix (x4 + (1 : Int32)))) (s (ix (x4 + (2 : Int32))))) (fun v4 W3 => bdc (f_X10_thrown W3) (fun v5 => if v5 = v2 then if v2 = 0 then if (lg_cmp (W3 31 0).toInt64 (v4).toInt64) = 0 then some W3 else none else some W3 else none)))))))
theorem ec_19 {G : GT} {f b c : Nat} {M : MM} {hi k n : Nat} {x4 : Int32} {W r : Nat → Nat → Int32} (hf : 14 ≤ f) (hc3 : 620 ≤ c) (hk : ∀ hi, V G f (Ex G f) mL_law PL 3490 [(0, .ref G.1), (1, .ref b), (2, .ref (b + 609)), (3, .ref (b + 619)), (4, .int x4)] [] (MEM b c r M) hi k n) (h : fc_19 G.2.1 G.2.2.1 x4 W = some r) : V G f (Ex G f) mL_law PL 1173 [(0, .ref G.1), (1, .ref b), (2, .ref (b + 609)), (3, .ref (b + 619)), (4, .int x4)] [] (MEM b c W M) hi (k + 4) (n + 24) := by
  have hc1 : 609 ≤ c := Nat.le_trans (Nat.le_of_ble_eq_true rfl) hc3
  have hc2 : 619 ≤ c := Nat.le_trans (Nat.le_of_ble_eq_true rfl) hc3
  unfold fc_19 at h
  refine V_spare (k2 := k + 2) (n2 := n + 12) (Nat.add_le_add_left (Nat.le_of_ble_eq_true rfl) _) (Nat.add_le_add_left (Nat.le_of_ble_eq_true rfl) _) ?_
  refine V_aload_n (i := 1) dL_law_1173 rfl rfl ?_
  refine V_aload_n (i := 0) dL_law_1174 rfl rfl ?_
  refine V_iload (i := 4) dL_law_1175 rfl ?_
  refine V_iconst (v := 1) dL_law_1177 (by decide) ?_
  refine V_iadd dL_law_1178 ?_
  refine D_sld h dL_law_1179 fun h => ?_
  refine V_aload_n (i := 0) dL_law_1180 rfl rfl ?_
  refine V_iload (i := 4) dL_law_1181 rfl ?_
  refine V_iconst (v := 2) dL_law_1183 (by decide) ?_
  refine V_iadd dL_law_1184 ?_
  refine D_sld h dL_law_1185 fun h => ?_
  refine V_aload_n (i := 3) dL_law_1186 rfl rfl ?_
  refine D_cSXIW (As := [_, _, _, _]) (μ := fun W1 => (MEM b c W1 M)) (k2 := 2) (n2 := 12) h dL_law_1187 cx_L_243 rfl rfl (Nat.le_of_ble_eq_true rfl) (fun x y hx => e_L_routeStation (Nat.le_trans (Nat.le_of_ble_eq_true rfl) hf) hc3 hx) fun v2 W1 hi h => ?_
  refine V_istore (i := 5) dL_law_1190 (Nat.le_of_ble_eq_true rfl) ?_
  refine V_aload_n (i := 2) dL_law_1192 rfl rfl ?_
  refine V_aload_n (i := 0) dL_law_1193 rfl rfl ?_
  refine V_iload (i := 4) dL_law_1194 rfl ?_
  refine V_iconst (v := 1) dL_law_1196 (by decide) ?_
  refine V_iadd dL_law_1197 ?_
  refine D_sld h dL_law_1198 fun h => ?_
  refine V_aload_n (i := 0) dL_law_1199 rfl rfl ?_
  refine V_iload (i := 4) dL_law_1200 rfl ?_
  refine V_iconst (v := 2) dL_law_1202 (by decide) ?_
  refine V_iadd dL_law_1203 ?_
  refine D_sld h dL_law_1204 fun h => ?_
  refine D_cVIW (As := [_, _]) (μ := fun W3 => (MEM b c W3 M)) h dL_law_1205 cv_L_245 rfl ⟨_, _, _, (mem_30 hc2), rfl, rfl⟩ rfl (Nat.le_of_ble_eq_true rfl) (fun x y hx => e_X10_routeStation (Nat.le_trans (Nat.le_of_ble_eq_true rfl) hf) hc2 hx) fun v4 W3 h => ?_
  refine V_istore (i := 6) dL_law_1208 (Nat.le_of_ble_eq_true rfl) ?_
  refine V_aload_n (i := 2) dL_law_1210 rfl rfl ?_
  refine D_cVI (As := []) h dL_law_1211 cv_L_176 rfl ⟨_, _, _, (mem_30 hc2), rfl, rfl⟩ rfl (Nat.le_of_ble_eq_true rfl) (fun x hx => e_X10_thrown (Nat.le_trans (Nat.le_of_ble_eq_true rfl) hf) hc2 hx) fun v5 h => ?_
  refine V_iload (i := 5) dL_law_1214 rfl ?_
  refine D_icmp_eq (tgt := 1221) h dL_law_1216 rfl (fun b6 h => ?_) (fun b6 h => ?_)
  · refine V_iload (i := 5) dL_law_1221 rfl ?_
    refine D_if_ne (tgt := 1238) h dL_law_1223 rfl (fun b7 h => ?_) (fun b7 h => ?_)
    · refine V_goto (tgt := 3490) dL_law_1238 rfl ?_
      obtain rfl := Option.some.inj h
      refine V_spare (k2 := k) (n2 := n) (by omega) (by omega) ?_
      exact V_sub (ks := [2, 3, 4, 5, 6]) rfl (hk _)
    · refine V_aload_n (i := 3) dL_law_1226 rfl rfl ?_
      refine V_iconst (v := 0) dL_law_1227 (by decide) ?_
      refine D3_lld hc3 dL_law_1228 ?_
      refine V_iload (i := 6) dL_law_1229 rfl ?_
      refine V_i2l dL_law_1231 rfl ?_
      refine V_lcmp dL_law_1232 ?_
      refine D_if_eq (tgt := 1238) h dL_law_1233 rfl (fun b8 h => ?_) (fun b8 h => ?_)
      · refine V_goto (tgt := 3490) dL_law_1238 rfl ?_
        obtain rfl := Option.some.inj h
        refine V_spare (k2 := k) (n2 := n) (by omega) (by omega) ?_
        exact V_sub (ks := [2, 3, 4, 5, 6]) rfl (hk _)
      · refine V_iconst (v := 0) dL_law_1236 (by decide) ?_
        cases h
  · refine V_iconst (v := 0) dL_law_1219 (by decide) ?_
    cases h
noncomputable def fc_20 (L : Nat) (s : Nat → Int32) (x4 : Int32) (W : Nat → Nat → Int32) : Option (Nat → Nat → Int32) :=
  gd (inr (x4 + (1 : Int32)) L) (bd2 (f_L_carriedCount W (s (ix (x4 + (1 : Int32))))) (fun v2 W1 => gd (inr (x4 + (1 : Int32)) L) (bd2 (f_X10_carriedCount W1 (s (ix (x4 + (1 : Int32))))) (fun v4 W3 => bdc (f_X10_thrown W3) (fun v5 => if v5 = v2 then if v2 = 0 then if (lg_cmp (W3 31 0).toInt64 (v4).toInt64) = 0 then some W3 else none else some W3 else none)))))
theorem ec_20 {G : GT} {f b c : Nat} {M : MM} {hi k n : Nat} {x4 : Int32} {W r : Nat → Nat → Int32} (hf : 14 ≤ f) (hc3 : 620 ≤ c) (hk : ∀ hi, V G f (Ex G f) mL_law PL 3490 [(0, .ref G.1), (1, .ref b), (2, .ref (b + 609)), (3, .ref (b + 619)), (4, .int x4)] [] (MEM b c r M) hi k n) (h : fc_20 G.2.1 G.2.2.1 x4 W = some r) : V G f (Ex G f) mL_law PL 1241 [(0, .ref G.1), (1, .ref b), (2, .ref (b + 609)), (3, .ref (b + 619)), (4, .int x4)] [] (MEM b c W M) hi (k + 4) (n + 24) := by
  have hc1 : 609 ≤ c := Nat.le_trans (Nat.le_of_ble_eq_true rfl) hc3
  have hc2 : 619 ≤ c := Nat.le_trans (Nat.le_of_ble_eq_true rfl) hc3
  unfold fc_20 at h
  refine V_spare (k2 := k + 1) (n2 := n + 6) (Nat.add_le_add_left (Nat.le_of_ble_eq_true rfl) _) (Nat.add_le_add_left (Nat.le_of_ble_eq_true rfl) _) ?_
  refine V_aload_n (i := 1) dL_law_1241 rfl rfl ?_
  refine V_aload_n (i := 0) dL_law_1242 rfl rfl ?_
  refine V_iload (i := 4) dL_law_1243 rfl ?_
  refine V_iconst (v := 1) dL_law_1245 (by decide) ?_
  refine V_iadd dL_law_1246 ?_
  refine D_sld h dL_law_1247 fun h => ?_
  refine V_aload_n (i := 3) dL_law_1248 rfl rfl ?_
  refine D_cSXIW (As := [_, _, _]) (μ := fun W1 => (MEM b c W1 M)) (k2 := 1) (n2 := 6) h dL_law_1249 cx_L_246 rfl rfl (Nat.le_of_ble_eq_true rfl) (fun x y hx => e_L_carriedCount (Nat.le_trans (Nat.le_of_ble_eq_true rfl) hf) hc3 hx) fun v2 W1 hi h => ?_
  refine V_istore (i := 5) dL_law_1252 (Nat.le_of_ble_eq_true rfl) ?_
  refine V_aload_n (i := 2) dL_law_1254 rfl rfl ?_
  refine V_aload_n (i := 0) dL_law_1255 rfl rfl ?_
  refine V_iload (i := 4) dL_law_1256 rfl ?_
  refine V_iconst (v := 1) dL_law_1258 (by decide) ?_
  refine V_iadd dL_law_1259 ?_
  refine D_sld h dL_law_1260 fun h => ?_
  refine D_cVIW (As := [_]) (μ := fun W3 => (MEM b c W3 M)) h dL_law_1261 cv_L_248 rfl ⟨_, _, _, (mem_30 hc2), rfl, rfl⟩ rfl (Nat.le_of_ble_eq_true rfl) (fun x y hx => e_X10_carriedCount (Nat.le_trans (Nat.le_of_ble_eq_true rfl) hf) hc2 hx) fun v4 W3 h => ?_
  refine V_istore (i := 6) dL_law_1264 (Nat.le_of_ble_eq_true rfl) ?_
  refine V_aload_n (i := 2) dL_law_1266 rfl rfl ?_
  refine D_cVI (As := []) h dL_law_1267 cv_L_176 rfl ⟨_, _, _, (mem_30 hc2), rfl, rfl⟩ rfl (Nat.le_of_ble_eq_true rfl) (fun x hx => e_X10_thrown (Nat.le_trans (Nat.le_of_ble_eq_true rfl) hf) hc2 hx) fun v5 h => ?_
  refine V_iload (i := 5) dL_law_1270 rfl ?_
  refine D_icmp_eq (tgt := 1277) h dL_law_1272 rfl (fun b6 h => ?_) (fun b6 h => ?_)
  · refine V_iload (i := 5) dL_law_1277 rfl ?_
    refine D_if_ne (tgt := 1294) h dL_law_1279 rfl (fun b7 h => ?_) (fun b7 h => ?_)
    · refine V_goto (tgt := 3490) dL_law_1294 rfl ?_
      obtain rfl := Option.some.inj h
      refine V_spare (k2 := k) (n2 := n) (by omega) (by omega) ?_
      exact V_sub (ks := [2, 3, 4, 5, 6]) rfl (hk _)
    · refine V_aload_n (i := 3) dL_law_1282 rfl rfl ?_
      refine V_iconst (v := 0) dL_law_1283 (by decide) ?_
      refine D3_lld hc3 dL_law_1284 ?_
      refine V_iload (i := 6) dL_law_1285 rfl ?_
      refine V_i2l dL_law_1287 rfl ?_
      refine V_lcmp dL_law_1288 ?_
      refine D_if_eq (tgt := 1294) h dL_law_1289 rfl (fun b8 h => ?_) (fun b8 h => ?_)
      · refine V_goto (tgt := 3490) dL_law_1294 rfl ?_
        obtain rfl := Option.some.inj h
        refine V_spare (k2 := k) (n2 := n) (by omega) (by omega) ?_
        exact V_sub (ks := [2, 3, 4, 5, 6]) rfl (hk _)
      · refine V_iconst (v := 0) dL_law_1292 (by decide) ?_
        cases h
  · refine V_iconst (v := 0) dL_law_1275 (by decide) ?_
    cases h
noncomputable def fc_21 (L : Nat) (s : Nat → Int32) (x4 : Int32) (W : Nat → Nat → Int32) : Option (Nat → Nat → Int32) :=
  gd (inr (x4 + (1 : Int32)) L) (gd (inr (x4 + (2 : Int32)) L) (bd2 (f_L_carriedParcel W (s (ix (x4 + (1 : Int32)))) (s (ix (x4 + (2 : Int32))))) (fun v2 W1 => gd (inr (x4 + (1 : Int32)) L) (gd (inr (x4 + (2 : Int32)) L) (bd2 (f_X10_carriedParcel W1 (s (ix (x4 + (1 : Int32)))) (s (ix (x4 + (2 : Int32))))) (fun v4 W3 => bdc (f_X10_thrown W3) (fun v5 => if v5 = v2 then if v2 = 0 then if (lg_cmp (W3 31 0).toInt64 (v4).toInt64) = 0 then some W3 else none else some W3 else none)))))))
theorem ec_21 {G : GT} {f b c : Nat} {M : MM} {hi k n : Nat} {x4 : Int32} {W r : Nat → Nat → Int32} (hf : 14 ≤ f) (hc3 : 620 ≤ c) (hk : ∀ hi, V G f (Ex G f) mL_law PL 3490 [(0, .ref G.1), (1, .ref b), (2, .ref (b + 609)), (3, .ref (b + 619)), (4, .int x4)] [] (MEM b c r M) hi k n) (h : fc_21 G.2.1 G.2.2.1 x4 W = some r) : V G f (Ex G f) mL_law PL 1297 [(0, .ref G.1), (1, .ref b), (2, .ref (b + 609)), (3, .ref (b + 619)), (4, .int x4)] [] (MEM b c W M) hi (k + 4) (n + 24) := by
  have hc1 : 609 ≤ c := Nat.le_trans (Nat.le_of_ble_eq_true rfl) hc3
  have hc2 : 619 ≤ c := Nat.le_trans (Nat.le_of_ble_eq_true rfl) hc3
  unfold fc_21 at h
  refine V_spare (k2 := k + 2) (n2 := n + 12) (Nat.add_le_add_left (Nat.le_of_ble_eq_true rfl) _) (Nat.add_le_add_left (Nat.le_of_ble_eq_true rfl) _) ?_
  refine V_aload_n (i := 1) dL_law_1297 rfl rfl ?_
  refine V_aload_n (i := 0) dL_law_1298 rfl rfl ?_
  refine V_iload (i := 4) dL_law_1299 rfl ?_
  refine V_iconst (v := 1) dL_law_1301 (by decide) ?_
  refine V_iadd dL_law_1302 ?_
  refine D_sld h dL_law_1303 fun h => ?_
  refine V_aload_n (i := 0) dL_law_1304 rfl rfl ?_
  refine V_iload (i := 4) dL_law_1305 rfl ?_
  refine V_iconst (v := 2) dL_law_1307 (by decide) ?_
  refine V_iadd dL_law_1308 ?_
  refine D_sld h dL_law_1309 fun h => ?_
  refine V_aload_n (i := 3) dL_law_1310 rfl rfl ?_
  refine D_cSXIW (As := [_, _, _, _]) (μ := fun W1 => (MEM b c W1 M)) (k2 := 2) (n2 := 12) h dL_law_1311 cx_L_249 rfl rfl (Nat.le_of_ble_eq_true rfl) (fun x y hx => e_L_carriedParcel (Nat.le_trans (Nat.le_of_ble_eq_true rfl) hf) hc3 hx) fun v2 W1 hi h => ?_
  refine V_istore (i := 5) dL_law_1314 (Nat.le_of_ble_eq_true rfl) ?_
  refine V_aload_n (i := 2) dL_law_1316 rfl rfl ?_
  refine V_aload_n (i := 0) dL_law_1317 rfl rfl ?_
  refine V_iload (i := 4) dL_law_1318 rfl ?_
  refine V_iconst (v := 1) dL_law_1320 (by decide) ?_
  refine V_iadd dL_law_1321 ?_
  refine D_sld h dL_law_1322 fun h => ?_
  refine V_aload_n (i := 0) dL_law_1323 rfl rfl ?_
  refine V_iload (i := 4) dL_law_1324 rfl ?_
  refine V_iconst (v := 2) dL_law_1326 (by decide) ?_
  refine V_iadd dL_law_1327 ?_
  refine D_sld h dL_law_1328 fun h => ?_
  refine D_cVIW (As := [_, _]) (μ := fun W3 => (MEM b c W3 M)) h dL_law_1329 cv_L_251 rfl ⟨_, _, _, (mem_30 hc2), rfl, rfl⟩ rfl (Nat.le_of_ble_eq_true rfl) (fun x y hx => e_X10_carriedParcel (Nat.le_trans (Nat.le_of_ble_eq_true rfl) hf) hc2 hx) fun v4 W3 h => ?_
  refine V_istore (i := 6) dL_law_1332 (Nat.le_of_ble_eq_true rfl) ?_
  refine V_aload_n (i := 2) dL_law_1334 rfl rfl ?_
  refine D_cVI (As := []) h dL_law_1335 cv_L_176 rfl ⟨_, _, _, (mem_30 hc2), rfl, rfl⟩ rfl (Nat.le_of_ble_eq_true rfl) (fun x hx => e_X10_thrown (Nat.le_trans (Nat.le_of_ble_eq_true rfl) hf) hc2 hx) fun v5 h => ?_
  refine V_iload (i := 5) dL_law_1338 rfl ?_
  refine D_icmp_eq (tgt := 1345) h dL_law_1340 rfl (fun b6 h => ?_) (fun b6 h => ?_)
  · refine V_iload (i := 5) dL_law_1345 rfl ?_
    refine D_if_ne (tgt := 1362) h dL_law_1347 rfl (fun b7 h => ?_) (fun b7 h => ?_)
    · refine V_goto (tgt := 3490) dL_law_1362 rfl ?_
      obtain rfl := Option.some.inj h
      refine V_spare (k2 := k) (n2 := n) (by omega) (by omega) ?_
      exact V_sub (ks := [2, 3, 4, 5, 6]) rfl (hk _)
    · refine V_aload_n (i := 3) dL_law_1350 rfl rfl ?_
      refine V_iconst (v := 0) dL_law_1351 (by decide) ?_
      refine D3_lld hc3 dL_law_1352 ?_
      refine V_iload (i := 6) dL_law_1353 rfl ?_
      refine V_i2l dL_law_1355 rfl ?_
      refine V_lcmp dL_law_1356 ?_
      refine D_if_eq (tgt := 1362) h dL_law_1357 rfl (fun b8 h => ?_) (fun b8 h => ?_)
      · refine V_goto (tgt := 3490) dL_law_1362 rfl ?_
        obtain rfl := Option.some.inj h
        refine V_spare (k2 := k) (n2 := n) (by omega) (by omega) ?_
        exact V_sub (ks := [2, 3, 4, 5, 6]) rfl (hk _)
      · refine V_iconst (v := 0) dL_law_1360 (by decide) ?_
        cases h
  · refine V_iconst (v := 0) dL_law_1343 (by decide) ?_
    cases h
noncomputable def fc_22 (L : Nat) (s : Nat → Int32) (x4 : Int32) (W : Nat → Nat → Int32) : Option (Nat → Nat → Int32) :=
  gd (inr (x4 + (1 : Int32)) L) (bd2 (f_L_trainStation W (s (ix (x4 + (1 : Int32))))) (fun v2 W1 => gd (inr (x4 + (1 : Int32)) L) (bd2 (f_X10_trainStation W1 (s (ix (x4 + (1 : Int32))))) (fun v4 W3 => bdc (f_X10_thrown W3) (fun v5 => if v5 = v2 then if v2 = 0 then if (lg_cmp (W3 31 0).toInt64 (v4).toInt64) = 0 then some W3 else none else some W3 else none)))))
theorem ec_22 {G : GT} {f b c : Nat} {M : MM} {hi k n : Nat} {x4 : Int32} {W r : Nat → Nat → Int32} (hf : 14 ≤ f) (hc3 : 620 ≤ c) (hk : ∀ hi, V G f (Ex G f) mL_law PL 3490 [(0, .ref G.1), (1, .ref b), (2, .ref (b + 609)), (3, .ref (b + 619)), (4, .int x4)] [] (MEM b c r M) hi k n) (h : fc_22 G.2.1 G.2.2.1 x4 W = some r) : V G f (Ex G f) mL_law PL 1365 [(0, .ref G.1), (1, .ref b), (2, .ref (b + 609)), (3, .ref (b + 619)), (4, .int x4)] [] (MEM b c W M) hi (k + 4) (n + 24) := by
  have hc1 : 609 ≤ c := Nat.le_trans (Nat.le_of_ble_eq_true rfl) hc3
  have hc2 : 619 ≤ c := Nat.le_trans (Nat.le_of_ble_eq_true rfl) hc3
  unfold fc_22 at h
  refine V_spare (k2 := k + 1) (n2 := n + 6) (Nat.add_le_add_left (Nat.le_of_ble_eq_true rfl) _) (Nat.add_le_add_left (Nat.le_of_ble_eq_true rfl) _) ?_
  refine V_aload_n (i := 1) dL_law_1365 rfl rfl ?_
  refine V_aload_n (i := 0) dL_law_1366 rfl rfl ?_
  refine V_iload (i := 4) dL_law_1367 rfl ?_
  refine V_iconst (v := 1) dL_law_1369 (by decide) ?_
  refine V_iadd dL_law_1370 ?_
  refine D_sld h dL_law_1371 fun h => ?_
  refine V_aload_n (i := 3) dL_law_1372 rfl rfl ?_
  refine D_cSXIW (As := [_, _, _]) (μ := fun W1 => (MEM b c W1 M)) (k2 := 1) (n2 := 6) h dL_law_1373 cx_L_252 rfl rfl (Nat.le_of_ble_eq_true rfl) (fun x y hx => e_L_trainStation (Nat.le_trans (Nat.le_of_ble_eq_true rfl) hf) hc3 hx) fun v2 W1 hi h => ?_
  refine V_istore (i := 5) dL_law_1376 (Nat.le_of_ble_eq_true rfl) ?_
  refine V_aload_n (i := 2) dL_law_1378 rfl rfl ?_
  refine V_aload_n (i := 0) dL_law_1379 rfl rfl ?_
  refine V_iload (i := 4) dL_law_1380 rfl ?_
  refine V_iconst (v := 1) dL_law_1382 (by decide) ?_
  refine V_iadd dL_law_1383 ?_
  refine D_sld h dL_law_1384 fun h => ?_
  refine D_cVIW (As := [_]) (μ := fun W3 => (MEM b c W3 M)) h dL_law_1385 cv_L_254 rfl ⟨_, _, _, (mem_30 hc2), rfl, rfl⟩ rfl (Nat.le_of_ble_eq_true rfl) (fun x y hx => e_X10_trainStation (Nat.le_trans (Nat.le_of_ble_eq_true rfl) hf) hc2 hx) fun v4 W3 h => ?_
  refine V_istore (i := 6) dL_law_1388 (Nat.le_of_ble_eq_true rfl) ?_
  refine V_aload_n (i := 2) dL_law_1390 rfl rfl ?_
  refine D_cVI (As := []) h dL_law_1391 cv_L_176 rfl ⟨_, _, _, (mem_30 hc2), rfl, rfl⟩ rfl (Nat.le_of_ble_eq_true rfl) (fun x hx => e_X10_thrown (Nat.le_trans (Nat.le_of_ble_eq_true rfl) hf) hc2 hx) fun v5 h => ?_
  refine V_iload (i := 5) dL_law_1394 rfl ?_
  refine D_icmp_eq (tgt := 1401) h dL_law_1396 rfl (fun b6 h => ?_) (fun b6 h => ?_)
  · refine V_iload (i := 5) dL_law_1401 rfl ?_
    refine D_if_ne (tgt := 1418) h dL_law_1403 rfl (fun b7 h => ?_) (fun b7 h => ?_)
    · refine V_goto (tgt := 3490) dL_law_1418 rfl ?_
      obtain rfl := Option.some.inj h
      refine V_spare (k2 := k) (n2 := n) (by omega) (by omega) ?_
      exact V_sub (ks := [2, 3, 4, 5, 6]) rfl (hk _)
    · refine V_aload_n (i := 3) dL_law_1406 rfl rfl ?_
      refine V_iconst (v := 0) dL_law_1407 (by decide) ?_
      refine D3_lld hc3 dL_law_1408 ?_
      refine V_iload (i := 6) dL_law_1409 rfl ?_
      refine V_i2l dL_law_1411 rfl ?_
      refine V_lcmp dL_law_1412 ?_
      refine D_if_eq (tgt := 1418) h dL_law_1413 rfl (fun b8 h => ?_) (fun b8 h => ?_)
      · refine V_goto (tgt := 3490) dL_law_1418 rfl ?_
        obtain rfl := Option.some.inj h
        refine V_spare (k2 := k) (n2 := n) (by omega) (by omega) ?_
        exact V_sub (ks := [2, 3, 4, 5, 6]) rfl (hk _)
      · refine V_iconst (v := 0) dL_law_1416 (by decide) ?_
        cases h
  · refine V_iconst (v := 0) dL_law_1399 (by decide) ?_
    cases h
noncomputable def fc_23 (L : Nat) (s : Nat → Int32) (x4 : Int32) (W : Nat → Nat → Int32) : Option (Nat → Nat → Int32) :=
  gd (inr (x4 + (1 : Int32)) L) (bd2 (f_L_nextStation W (s (ix (x4 + (1 : Int32))))) (fun v2 W1 => gd (inr (x4 + (1 : Int32)) L) (bd2 (f_X10_nextStation W1 (s (ix (x4 + (1 : Int32))))) (fun v4 W3 => bdc (f_X10_thrown W3) (fun v5 => if v5 = v2 then if v2 = 0 then if (lg_cmp (W3 31 0).toInt64 (v4).toInt64) = 0 then some W3 else none else some W3 else none)))))
theorem ec_23 {G : GT} {f b c : Nat} {M : MM} {hi k n : Nat} {x4 : Int32} {W r : Nat → Nat → Int32} (hf : 14 ≤ f) (hc3 : 620 ≤ c) (hk : ∀ hi, V G f (Ex G f) mL_law PL 3490 [(0, .ref G.1), (1, .ref b), (2, .ref (b + 609)), (3, .ref (b + 619)), (4, .int x4)] [] (MEM b c r M) hi k n) (h : fc_23 G.2.1 G.2.2.1 x4 W = some r) : V G f (Ex G f) mL_law PL 1421 [(0, .ref G.1), (1, .ref b), (2, .ref (b + 609)), (3, .ref (b + 619)), (4, .int x4)] [] (MEM b c W M) hi (k + 4) (n + 24) := by
  have hc1 : 609 ≤ c := Nat.le_trans (Nat.le_of_ble_eq_true rfl) hc3
  have hc2 : 619 ≤ c := Nat.le_trans (Nat.le_of_ble_eq_true rfl) hc3
  unfold fc_23 at h
  refine V_spare (k2 := k + 1) (n2 := n + 6) (Nat.add_le_add_left (Nat.le_of_ble_eq_true rfl) _) (Nat.add_le_add_left (Nat.le_of_ble_eq_true rfl) _) ?_
  refine V_aload_n (i := 1) dL_law_1421 rfl rfl ?_
  refine V_aload_n (i := 0) dL_law_1422 rfl rfl ?_
  refine V_iload (i := 4) dL_law_1423 rfl ?_
  refine V_iconst (v := 1) dL_law_1425 (by decide) ?_
  refine V_iadd dL_law_1426 ?_
  refine D_sld h dL_law_1427 fun h => ?_
  refine V_aload_n (i := 3) dL_law_1428 rfl rfl ?_
  refine D_cSXIW (As := [_, _, _]) (μ := fun W1 => (MEM b c W1 M)) (k2 := 1) (n2 := 6) h dL_law_1429 cx_L_255 rfl rfl (Nat.le_of_ble_eq_true rfl) (fun x y hx => e_L_nextStation (Nat.le_trans (Nat.le_of_ble_eq_true rfl) hf) hc3 hx) fun v2 W1 hi h => ?_
  refine V_istore (i := 5) dL_law_1432 (Nat.le_of_ble_eq_true rfl) ?_
  refine V_aload_n (i := 2) dL_law_1434 rfl rfl ?_
  refine V_aload_n (i := 0) dL_law_1435 rfl rfl ?_
  refine V_iload (i := 4) dL_law_1436 rfl ?_
  refine V_iconst (v := 1) dL_law_1438 (by decide) ?_
  refine V_iadd dL_law_1439 ?_
  refine D_sld h dL_law_1440 fun h => ?_
  refine D_cVIW (As := [_]) (μ := fun W3 => (MEM b c W3 M)) h dL_law_1441 cv_L_257 rfl ⟨_, _, _, (mem_30 hc2), rfl, rfl⟩ rfl (Nat.le_of_ble_eq_true rfl) (fun x y hx => e_X10_nextStation (Nat.le_trans (Nat.le_of_ble_eq_true rfl) hf) hc2 hx) fun v4 W3 h => ?_
  refine V_istore (i := 6) dL_law_1444 (Nat.le_of_ble_eq_true rfl) ?_
  refine V_aload_n (i := 2) dL_law_1446 rfl rfl ?_
  refine D_cVI (As := []) h dL_law_1447 cv_L_176 rfl ⟨_, _, _, (mem_30 hc2), rfl, rfl⟩ rfl (Nat.le_of_ble_eq_true rfl) (fun x hx => e_X10_thrown (Nat.le_trans (Nat.le_of_ble_eq_true rfl) hf) hc2 hx) fun v5 h => ?_
  refine V_iload (i := 5) dL_law_1450 rfl ?_
  refine D_icmp_eq (tgt := 1457) h dL_law_1452 rfl (fun b6 h => ?_) (fun b6 h => ?_)
  · refine V_iload (i := 5) dL_law_1457 rfl ?_
    refine D_if_ne (tgt := 1474) h dL_law_1459 rfl (fun b7 h => ?_) (fun b7 h => ?_)
    · refine V_goto (tgt := 3490) dL_law_1474 rfl ?_
      obtain rfl := Option.some.inj h
      refine V_spare (k2 := k) (n2 := n) (by omega) (by omega) ?_
      exact V_sub (ks := [2, 3, 4, 5, 6]) rfl (hk _)
    · refine V_aload_n (i := 3) dL_law_1462 rfl rfl ?_
      refine V_iconst (v := 0) dL_law_1463 (by decide) ?_
      refine D3_lld hc3 dL_law_1464 ?_
      refine V_iload (i := 6) dL_law_1465 rfl ?_
      refine V_i2l dL_law_1467 rfl ?_
      refine V_lcmp dL_law_1468 ?_
      refine D_if_eq (tgt := 1474) h dL_law_1469 rfl (fun b8 h => ?_) (fun b8 h => ?_)
      · refine V_goto (tgt := 3490) dL_law_1474 rfl ?_
        obtain rfl := Option.some.inj h
        refine V_spare (k2 := k) (n2 := n) (by omega) (by omega) ?_
        exact V_sub (ks := [2, 3, 4, 5, 6]) rfl (hk _)
      · refine V_iconst (v := 0) dL_law_1472 (by decide) ?_
        cases h
  · refine V_iconst (v := 0) dL_law_1455 (by decide) ?_
    cases h
noncomputable def fc_24 (L : Nat) (s : Nat → Int32) (x4 : Int32) (W : Nat → Nat → Int32) : Option (Nat → Nat → Int32) :=
  gd (inr (x4 + (1 : Int32)) L) (bd2 (f_L_isForward W (s (ix (x4 + (1 : Int32))))) (fun v2 W1 => gd (inr (x4 + (1 : Int32)) L) (bd2 (f_X10_isForward W1 (s (ix (x4 + (1 : Int32))))) (fun v4 W3 => bdc (f_X10_thrown W3) (fun v5 => if v5 = v2 then if v2 = 0 then if v4 = 0 then if (lg_cmp (W3 31 0).toInt64 ((0 : Int32)).toInt64) = 0 then some W3 else none else if (lg_cmp (W3 31 0).toInt64 ((1 : Int32)).toInt64) = 0 then some W3 else none else some W3 else none)))))
theorem ec_24 {G : GT} {f b c : Nat} {M : MM} {hi k n : Nat} {x4 : Int32} {W r : Nat → Nat → Int32} (hf : 14 ≤ f) (hc3 : 620 ≤ c) (hk : ∀ hi, V G f (Ex G f) mL_law PL 3490 [(0, .ref G.1), (1, .ref b), (2, .ref (b + 609)), (3, .ref (b + 619)), (4, .int x4)] [] (MEM b c r M) hi k n) (h : fc_24 G.2.1 G.2.2.1 x4 W = some r) : V G f (Ex G f) mL_law PL 1477 [(0, .ref G.1), (1, .ref b), (2, .ref (b + 609)), (3, .ref (b + 619)), (4, .int x4)] [] (MEM b c W M) hi (k + 4) (n + 24) := by
  have hc1 : 609 ≤ c := Nat.le_trans (Nat.le_of_ble_eq_true rfl) hc3
  have hc2 : 619 ≤ c := Nat.le_trans (Nat.le_of_ble_eq_true rfl) hc3
  unfold fc_24 at h
  refine V_spare (k2 := k + 1) (n2 := n + 6) (Nat.add_le_add_left (Nat.le_of_ble_eq_true rfl) _) (Nat.add_le_add_left (Nat.le_of_ble_eq_true rfl) _) ?_
  refine V_aload_n (i := 1) dL_law_1477 rfl rfl ?_
  refine V_aload_n (i := 0) dL_law_1478 rfl rfl ?_
  refine V_iload (i := 4) dL_law_1479 rfl ?_
  refine V_iconst (v := 1) dL_law_1481 (by decide) ?_
  refine V_iadd dL_law_1482 ?_
  refine D_sld h dL_law_1483 fun h => ?_
  refine V_aload_n (i := 3) dL_law_1484 rfl rfl ?_
  refine D_cSXIW (As := [_, _, _]) (μ := fun W1 => (MEM b c W1 M)) (k2 := 1) (n2 := 6) h dL_law_1485 cx_L_258 rfl rfl (Nat.le_of_ble_eq_true rfl) (fun x y hx => e_L_isForward (Nat.le_trans (Nat.le_of_ble_eq_true rfl) hf) hc3 hx) fun v2 W1 hi h => ?_
  refine V_istore (i := 5) dL_law_1488 (Nat.le_of_ble_eq_true rfl) ?_
  refine V_aload_n (i := 2) dL_law_1490 rfl rfl ?_
  refine V_aload_n (i := 0) dL_law_1491 rfl rfl ?_
  refine V_iload (i := 4) dL_law_1492 rfl ?_
  refine V_iconst (v := 1) dL_law_1494 (by decide) ?_
  refine V_iadd dL_law_1495 ?_
  refine D_sld h dL_law_1496 fun h => ?_
  refine D_cVIW (As := [_]) (μ := fun W3 => (MEM b c W3 M)) h dL_law_1497 cv_L_260 rfl ⟨_, _, _, (mem_30 hc2), rfl, rfl⟩ rfl (Nat.le_of_ble_eq_true rfl) (fun x y hx => e_X10_isForward (Nat.le_trans (Nat.le_of_ble_eq_true rfl) hf) hc2 hx) fun v4 W3 h => ?_
  refine V_istore (i := 6) dL_law_1500 (Nat.le_of_ble_eq_true rfl) ?_
  refine V_aload_n (i := 2) dL_law_1502 rfl rfl ?_
  refine D_cVI (As := []) h dL_law_1503 cv_L_176 rfl ⟨_, _, _, (mem_30 hc2), rfl, rfl⟩ rfl (Nat.le_of_ble_eq_true rfl) (fun x hx => e_X10_thrown (Nat.le_trans (Nat.le_of_ble_eq_true rfl) hf) hc2 hx) fun v5 h => ?_
  refine V_iload (i := 5) dL_law_1506 rfl ?_
  refine D_icmp_eq (tgt := 1513) h dL_law_1508 rfl (fun b6 h => ?_) (fun b6 h => ?_)
  · refine V_iload (i := 5) dL_law_1513 rfl ?_
    refine D_if_ne (tgt := 1537) h dL_law_1515 rfl (fun b7 h => ?_) (fun b7 h => ?_)
    · refine V_goto (tgt := 3490) dL_law_1537 rfl ?_
      obtain rfl := Option.some.inj h
      refine V_spare (k2 := k) (n2 := n) (by omega) (by omega) ?_
      exact V_sub (ks := [2, 3, 4, 5, 6]) rfl (hk _)
    · refine V_aload_n (i := 3) dL_law_1518 rfl rfl ?_
      refine V_iconst (v := 0) dL_law_1519 (by decide) ?_
      refine D3_lld hc3 dL_law_1520 ?_
      refine V_iload (i := 6) dL_law_1521 rfl ?_
      refine D_if_eq (tgt := 1530) h dL_law_1523 rfl (fun b8 h => ?_) (fun b8 h => ?_)
      · refine V_lconst (v := (0 : Int32).toInt64) dL_law_1530 (by decide) ?_
        refine V_lcmp dL_law_1531 ?_
        refine D_if_eq (tgt := 1537) h dL_law_1532 rfl (fun b9 h => ?_) (fun b9 h => ?_)
        · refine V_goto (tgt := 3490) dL_law_1537 rfl ?_
          obtain rfl := Option.some.inj h
          refine V_spare (k2 := k) (n2 := n) (by omega) (by omega) ?_
          exact V_sub (ks := [2, 3, 4, 5, 6]) rfl (hk _)
        · refine V_iconst (v := 0) dL_law_1535 (by decide) ?_
          cases h
      · refine V_lconst (v := (1 : Int32).toInt64) dL_law_1526 (by decide) ?_
        refine V_goto (tgt := 1531) dL_law_1527 rfl ?_
        refine V_lcmp dL_law_1531 ?_
        refine D_if_eq (tgt := 1537) h dL_law_1532 rfl (fun b10 h => ?_) (fun b10 h => ?_)
        · refine V_goto (tgt := 3490) dL_law_1537 rfl ?_
          obtain rfl := Option.some.inj h
          refine V_spare (k2 := k) (n2 := n) (by omega) (by omega) ?_
          exact V_sub (ks := [2, 3, 4, 5, 6]) rfl (hk _)
        · refine V_iconst (v := 0) dL_law_1535 (by decide) ?_
          cases h
  · refine V_iconst (v := 0) dL_law_1511 (by decide) ?_
    cases h
noncomputable def fc_25 (L : Nat) (s : Nat → Int32) (x4 : Int32) (W : Nat → Nat → Int32) : Option (Nat → Nat → Int32) :=
  gd (inr (x4 + (1 : Int32)) L) (bd2 (f_L_minutesToNext W (s (ix (x4 + (1 : Int32))))) (fun v2 W1 => gd (inr (x4 + (1 : Int32)) L) (bd2 (f_X10_minutesToNext W1 (s (ix (x4 + (1 : Int32))))) (fun v4 W3 => bdc (f_X10_thrown W3) (fun v5 => if v5 = v2 then if v2 = 0 then if (lg_cmp (W3 31 0).toInt64 (v4).toInt64) = 0 then some W3 else none else some W3 else none)))))
theorem ec_25 {G : GT} {f b c : Nat} {M : MM} {hi k n : Nat} {x4 : Int32} {W r : Nat → Nat → Int32} (hf : 14 ≤ f) (hc3 : 620 ≤ c) (hk : ∀ hi, V G f (Ex G f) mL_law PL 3490 [(0, .ref G.1), (1, .ref b), (2, .ref (b + 609)), (3, .ref (b + 619)), (4, .int x4)] [] (MEM b c r M) hi k n) (h : fc_25 G.2.1 G.2.2.1 x4 W = some r) : V G f (Ex G f) mL_law PL 1540 [(0, .ref G.1), (1, .ref b), (2, .ref (b + 609)), (3, .ref (b + 619)), (4, .int x4)] [] (MEM b c W M) hi (k + 4) (n + 24) := by
  have hc1 : 609 ≤ c := Nat.le_trans (Nat.le_of_ble_eq_true rfl) hc3
  have hc2 : 619 ≤ c := Nat.le_trans (Nat.le_of_ble_eq_true rfl) hc3
  unfold fc_25 at h
  refine V_spare (k2 := k + 1) (n2 := n + 6) (Nat.add_le_add_left (Nat.le_of_ble_eq_true rfl) _) (Nat.add_le_add_left (Nat.le_of_ble_eq_true rfl) _) ?_
  refine V_aload_n (i := 1) dL_law_1540 rfl rfl ?_
  refine V_aload_n (i := 0) dL_law_1541 rfl rfl ?_
  refine V_iload (i := 4) dL_law_1542 rfl ?_
  refine V_iconst (v := 1) dL_law_1544 (by decide) ?_
  refine V_iadd dL_law_1545 ?_
  refine D_sld h dL_law_1546 fun h => ?_
  refine V_aload_n (i := 3) dL_law_1547 rfl rfl ?_
  refine D_cSXIW (As := [_, _, _]) (μ := fun W1 => (MEM b c W1 M)) (k2 := 1) (n2 := 6) h dL_law_1548 cx_L_261 rfl rfl (Nat.le_of_ble_eq_true rfl) (fun x y hx => e_L_minutesToNext (Nat.le_trans (Nat.le_of_ble_eq_true rfl) hf) hc3 hx) fun v2 W1 hi h => ?_
  refine V_istore (i := 5) dL_law_1551 (Nat.le_of_ble_eq_true rfl) ?_
  refine V_aload_n (i := 2) dL_law_1553 rfl rfl ?_
  refine V_aload_n (i := 0) dL_law_1554 rfl rfl ?_
  refine V_iload (i := 4) dL_law_1555 rfl ?_
  refine V_iconst (v := 1) dL_law_1557 (by decide) ?_
  refine V_iadd dL_law_1558 ?_
  refine D_sld h dL_law_1559 fun h => ?_
  refine D_cVIW (As := [_]) (μ := fun W3 => (MEM b c W3 M)) h dL_law_1560 cv_L_263 rfl ⟨_, _, _, (mem_30 hc2), rfl, rfl⟩ rfl (Nat.le_of_ble_eq_true rfl) (fun x y hx => e_X10_minutesToNext (Nat.le_trans (Nat.le_of_ble_eq_true rfl) hf) hc2 hx) fun v4 W3 h => ?_
  refine V_istore (i := 6) dL_law_1563 (Nat.le_of_ble_eq_true rfl) ?_
  refine V_aload_n (i := 2) dL_law_1565 rfl rfl ?_
  refine D_cVI (As := []) h dL_law_1566 cv_L_176 rfl ⟨_, _, _, (mem_30 hc2), rfl, rfl⟩ rfl (Nat.le_of_ble_eq_true rfl) (fun x hx => e_X10_thrown (Nat.le_trans (Nat.le_of_ble_eq_true rfl) hf) hc2 hx) fun v5 h => ?_
  refine V_iload (i := 5) dL_law_1569 rfl ?_
  refine D_icmp_eq (tgt := 1576) h dL_law_1571 rfl (fun b6 h => ?_) (fun b6 h => ?_)
  · refine V_iload (i := 5) dL_law_1576 rfl ?_
    refine D_if_ne (tgt := 1593) h dL_law_1578 rfl (fun b7 h => ?_) (fun b7 h => ?_)
    · refine V_goto (tgt := 3490) dL_law_1593 rfl ?_
      obtain rfl := Option.some.inj h
      refine V_spare (k2 := k) (n2 := n) (by omega) (by omega) ?_
      exact V_sub (ks := [2, 3, 4, 5, 6]) rfl (hk _)
    · refine V_aload_n (i := 3) dL_law_1581 rfl rfl ?_
      refine V_iconst (v := 0) dL_law_1582 (by decide) ?_
      refine D3_lld hc3 dL_law_1583 ?_
      refine V_iload (i := 6) dL_law_1584 rfl ?_
      refine V_i2l dL_law_1586 rfl ?_
      refine V_lcmp dL_law_1587 ?_
      refine D_if_eq (tgt := 1593) h dL_law_1588 rfl (fun b8 h => ?_) (fun b8 h => ?_)
      · refine V_goto (tgt := 3490) dL_law_1593 rfl ?_
        obtain rfl := Option.some.inj h
        refine V_spare (k2 := k) (n2 := n) (by omega) (by omega) ?_
        exact V_sub (ks := [2, 3, 4, 5, 6]) rfl (hk _)
      · refine V_iconst (v := 0) dL_law_1591 (by decide) ?_
        cases h
  · refine V_iconst (v := 0) dL_law_1574 (by decide) ?_
    cases h
noncomputable def fc_26 (L : Nat) (s : Nat → Int32) (x4 : Int32) (W : Nat → Nat → Int32) : Option (Nat → Nat → Int32) :=
  gd (inr (x4 + (1 : Int32)) L) (bd2 (f_L_delay W (s (ix (x4 + (1 : Int32))))) (fun v2 W1 => gd (inr (x4 + (1 : Int32)) L) (bd2 (f_X10_delay W1 (s (ix (x4 + (1 : Int32))))) (fun v4 W3 => bdc (f_X10_thrown W3) (fun v5 => if v5 = v2 then if v2 = 0 then if (lg_cmp (W3 31 0).toInt64 (v4).toInt64) = 0 then some W3 else none else some W3 else none)))))
theorem ec_26 {G : GT} {f b c : Nat} {M : MM} {hi k n : Nat} {x4 : Int32} {W r : Nat → Nat → Int32} (hf : 14 ≤ f) (hc3 : 620 ≤ c) (hk : ∀ hi, V G f (Ex G f) mL_law PL 3490 [(0, .ref G.1), (1, .ref b), (2, .ref (b + 609)), (3, .ref (b + 619)), (4, .int x4)] [] (MEM b c r M) hi k n) (h : fc_26 G.2.1 G.2.2.1 x4 W = some r) : V G f (Ex G f) mL_law PL 1596 [(0, .ref G.1), (1, .ref b), (2, .ref (b + 609)), (3, .ref (b + 619)), (4, .int x4)] [] (MEM b c W M) hi (k + 4) (n + 24) := by
  have hc1 : 609 ≤ c := Nat.le_trans (Nat.le_of_ble_eq_true rfl) hc3
  have hc2 : 619 ≤ c := Nat.le_trans (Nat.le_of_ble_eq_true rfl) hc3
  unfold fc_26 at h
  refine V_spare (k2 := k + 1) (n2 := n + 6) (Nat.add_le_add_left (Nat.le_of_ble_eq_true rfl) _) (Nat.add_le_add_left (Nat.le_of_ble_eq_true rfl) _) ?_
  refine V_aload_n (i := 1) dL_law_1596 rfl rfl ?_
  refine V_aload_n (i := 0) dL_law_1597 rfl rfl ?_
  refine V_iload (i := 4) dL_law_1598 rfl ?_
  refine V_iconst (v := 1) dL_law_1600 (by decide) ?_
  refine V_iadd dL_law_1601 ?_
  refine D_sld h dL_law_1602 fun h => ?_
  refine V_aload_n (i := 3) dL_law_1603 rfl rfl ?_
  refine D_cSXIW (As := [_, _, _]) (μ := fun W1 => (MEM b c W1 M)) (k2 := 1) (n2 := 6) h dL_law_1604 cx_L_264 rfl rfl (Nat.le_of_ble_eq_true rfl) (fun x y hx => e_L_delay (Nat.le_trans (Nat.le_of_ble_eq_true rfl) hf) hc3 hx) fun v2 W1 hi h => ?_
  refine V_istore (i := 5) dL_law_1607 (Nat.le_of_ble_eq_true rfl) ?_
  refine V_aload_n (i := 2) dL_law_1609 rfl rfl ?_
  refine V_aload_n (i := 0) dL_law_1610 rfl rfl ?_
  refine V_iload (i := 4) dL_law_1611 rfl ?_
  refine V_iconst (v := 1) dL_law_1613 (by decide) ?_
  refine V_iadd dL_law_1614 ?_
  refine D_sld h dL_law_1615 fun h => ?_
  refine D_cVIW (As := [_]) (μ := fun W3 => (MEM b c W3 M)) h dL_law_1616 cv_L_266 rfl ⟨_, _, _, (mem_30 hc2), rfl, rfl⟩ rfl (Nat.le_of_ble_eq_true rfl) (fun x y hx => e_X10_delay (Nat.le_trans (Nat.le_of_ble_eq_true rfl) hf) hc2 hx) fun v4 W3 h => ?_
  refine V_istore (i := 6) dL_law_1619 (Nat.le_of_ble_eq_true rfl) ?_
  refine V_aload_n (i := 2) dL_law_1621 rfl rfl ?_
  refine D_cVI (As := []) h dL_law_1622 cv_L_176 rfl ⟨_, _, _, (mem_30 hc2), rfl, rfl⟩ rfl (Nat.le_of_ble_eq_true rfl) (fun x hx => e_X10_thrown (Nat.le_trans (Nat.le_of_ble_eq_true rfl) hf) hc2 hx) fun v5 h => ?_
  refine V_iload (i := 5) dL_law_1625 rfl ?_
  refine D_icmp_eq (tgt := 1632) h dL_law_1627 rfl (fun b6 h => ?_) (fun b6 h => ?_)
  · refine V_iload (i := 5) dL_law_1632 rfl ?_
    refine D_if_ne (tgt := 1649) h dL_law_1634 rfl (fun b7 h => ?_) (fun b7 h => ?_)
    · refine V_goto (tgt := 3490) dL_law_1649 rfl ?_
      obtain rfl := Option.some.inj h
      refine V_spare (k2 := k) (n2 := n) (by omega) (by omega) ?_
      exact V_sub (ks := [2, 3, 4, 5, 6]) rfl (hk _)
    · refine V_aload_n (i := 3) dL_law_1637 rfl rfl ?_
      refine V_iconst (v := 0) dL_law_1638 (by decide) ?_
      refine D3_lld hc3 dL_law_1639 ?_
      refine V_iload (i := 6) dL_law_1640 rfl ?_
      refine V_i2l dL_law_1642 rfl ?_
      refine V_lcmp dL_law_1643 ?_
      refine D_if_eq (tgt := 1649) h dL_law_1644 rfl (fun b8 h => ?_) (fun b8 h => ?_)
      · refine V_goto (tgt := 3490) dL_law_1649 rfl ?_
        obtain rfl := Option.some.inj h
        refine V_spare (k2 := k) (n2 := n) (by omega) (by omega) ?_
        exact V_sub (ks := [2, 3, 4, 5, 6]) rfl (hk _)
      · refine V_iconst (v := 0) dL_law_1647 (by decide) ?_
        cases h
  · refine V_iconst (v := 0) dL_law_1630 (by decide) ?_
    cases h
noncomputable def fc_27 (L : Nat) (s : Nat → Int32) (x4 : Int32) (W : Nat → Nat → Int32) : Option (Nat → Nat → Int32) :=
  gd (inr (x4 + (1 : Int32)) L) (bd2 (f_L_stopsMade W (s (ix (x4 + (1 : Int32))))) (fun v2 W1 => gd (inr (x4 + (1 : Int32)) L) (bd2 (f_X10_stopsMade W1 (s (ix (x4 + (1 : Int32))))) (fun v4 W3 => bdc (f_X10_thrown W3) (fun v5 => if v5 = v2 then if v2 = 0 then if (lg_cmp (W3 31 0).toInt64 (v4).toInt64) = 0 then some W3 else none else some W3 else none)))))
theorem ec_27 {G : GT} {f b c : Nat} {M : MM} {hi k n : Nat} {x4 : Int32} {W r : Nat → Nat → Int32} (hf : 14 ≤ f) (hc3 : 620 ≤ c) (hk : ∀ hi, V G f (Ex G f) mL_law PL 3490 [(0, .ref G.1), (1, .ref b), (2, .ref (b + 609)), (3, .ref (b + 619)), (4, .int x4)] [] (MEM b c r M) hi k n) (h : fc_27 G.2.1 G.2.2.1 x4 W = some r) : V G f (Ex G f) mL_law PL 1652 [(0, .ref G.1), (1, .ref b), (2, .ref (b + 609)), (3, .ref (b + 619)), (4, .int x4)] [] (MEM b c W M) hi (k + 4) (n + 24) := by
  have hc1 : 609 ≤ c := Nat.le_trans (Nat.le_of_ble_eq_true rfl) hc3
  have hc2 : 619 ≤ c := Nat.le_trans (Nat.le_of_ble_eq_true rfl) hc3
  unfold fc_27 at h
  refine V_spare (k2 := k + 1) (n2 := n + 6) (Nat.add_le_add_left (Nat.le_of_ble_eq_true rfl) _) (Nat.add_le_add_left (Nat.le_of_ble_eq_true rfl) _) ?_
  refine V_aload_n (i := 1) dL_law_1652 rfl rfl ?_
  refine V_aload_n (i := 0) dL_law_1653 rfl rfl ?_
  refine V_iload (i := 4) dL_law_1654 rfl ?_
  refine V_iconst (v := 1) dL_law_1656 (by decide) ?_
  refine V_iadd dL_law_1657 ?_
  refine D_sld h dL_law_1658 fun h => ?_
  refine V_aload_n (i := 3) dL_law_1659 rfl rfl ?_
  refine D_cSXIW (As := [_, _, _]) (μ := fun W1 => (MEM b c W1 M)) (k2 := 1) (n2 := 6) h dL_law_1660 cx_L_267 rfl rfl (Nat.le_of_ble_eq_true rfl) (fun x y hx => e_L_stopsMade (Nat.le_trans (Nat.le_of_ble_eq_true rfl) hf) hc3 hx) fun v2 W1 hi h => ?_
  refine V_istore (i := 5) dL_law_1663 (Nat.le_of_ble_eq_true rfl) ?_
  refine V_aload_n (i := 2) dL_law_1665 rfl rfl ?_
  refine V_aload_n (i := 0) dL_law_1666 rfl rfl ?_
  refine V_iload (i := 4) dL_law_1667 rfl ?_
  refine V_iconst (v := 1) dL_law_1669 (by decide) ?_
  refine V_iadd dL_law_1670 ?_
  refine D_sld h dL_law_1671 fun h => ?_
  refine D_cVIW (As := [_]) (μ := fun W3 => (MEM b c W3 M)) h dL_law_1672 cv_L_269 rfl ⟨_, _, _, (mem_30 hc2), rfl, rfl⟩ rfl (Nat.le_of_ble_eq_true rfl) (fun x y hx => e_X10_stopsMade (Nat.le_trans (Nat.le_of_ble_eq_true rfl) hf) hc2 hx) fun v4 W3 h => ?_
  refine V_istore (i := 6) dL_law_1675 (Nat.le_of_ble_eq_true rfl) ?_
  refine V_aload_n (i := 2) dL_law_1677 rfl rfl ?_
  refine D_cVI (As := []) h dL_law_1678 cv_L_176 rfl ⟨_, _, _, (mem_30 hc2), rfl, rfl⟩ rfl (Nat.le_of_ble_eq_true rfl) (fun x hx => e_X10_thrown (Nat.le_trans (Nat.le_of_ble_eq_true rfl) hf) hc2 hx) fun v5 h => ?_
  refine V_iload (i := 5) dL_law_1681 rfl ?_
  refine D_icmp_eq (tgt := 1688) h dL_law_1683 rfl (fun b6 h => ?_) (fun b6 h => ?_)
  · refine V_iload (i := 5) dL_law_1688 rfl ?_
    refine D_if_ne (tgt := 1705) h dL_law_1690 rfl (fun b7 h => ?_) (fun b7 h => ?_)
    · refine V_goto (tgt := 3490) dL_law_1705 rfl ?_
      obtain rfl := Option.some.inj h
      refine V_spare (k2 := k) (n2 := n) (by omega) (by omega) ?_
      exact V_sub (ks := [2, 3, 4, 5, 6]) rfl (hk _)
    · refine V_aload_n (i := 3) dL_law_1693 rfl rfl ?_
      refine V_iconst (v := 0) dL_law_1694 (by decide) ?_
      refine D3_lld hc3 dL_law_1695 ?_
      refine V_iload (i := 6) dL_law_1696 rfl ?_
      refine V_i2l dL_law_1698 rfl ?_
      refine V_lcmp dL_law_1699 ?_
      refine D_if_eq (tgt := 1705) h dL_law_1700 rfl (fun b8 h => ?_) (fun b8 h => ?_)
      · refine V_goto (tgt := 3490) dL_law_1705 rfl ?_
        obtain rfl := Option.some.inj h
        refine V_spare (k2 := k) (n2 := n) (by omega) (by omega) ?_
        exact V_sub (ks := [2, 3, 4, 5, 6]) rfl (hk _)
      · refine V_iconst (v := 0) dL_law_1703 (by decide) ?_
        cases h
  · refine V_iconst (v := 0) dL_law_1686 (by decide) ?_
    cases h
noncomputable def fc_28 (L : Nat) (s : Nat → Int32) (x4 : Int32) (W : Nat → Nat → Int32) : Option (Nat → Nat → Int32) :=
  gd (inr (x4 + (1 : Int32)) L) (bd2 (f_L_stopsPassed W (s (ix (x4 + (1 : Int32))))) (fun v2 W1 => gd (inr (x4 + (1 : Int32)) L) (bd2 (f_X10_stopsPassed W1 (s (ix (x4 + (1 : Int32))))) (fun v4 W3 => bdc (f_X10_thrown W3) (fun v5 => if v5 = v2 then if v2 = 0 then if (lg_cmp (W3 31 0).toInt64 (v4).toInt64) = 0 then some W3 else none else some W3 else none)))))
theorem ec_28 {G : GT} {f b c : Nat} {M : MM} {hi k n : Nat} {x4 : Int32} {W r : Nat → Nat → Int32} (hf : 14 ≤ f) (hc3 : 620 ≤ c) (hk : ∀ hi, V G f (Ex G f) mL_law PL 3490 [(0, .ref G.1), (1, .ref b), (2, .ref (b + 609)), (3, .ref (b + 619)), (4, .int x4)] [] (MEM b c r M) hi k n) (h : fc_28 G.2.1 G.2.2.1 x4 W = some r) : V G f (Ex G f) mL_law PL 1708 [(0, .ref G.1), (1, .ref b), (2, .ref (b + 609)), (3, .ref (b + 619)), (4, .int x4)] [] (MEM b c W M) hi (k + 4) (n + 24) := by
  have hc1 : 609 ≤ c := Nat.le_trans (Nat.le_of_ble_eq_true rfl) hc3
  have hc2 : 619 ≤ c := Nat.le_trans (Nat.le_of_ble_eq_true rfl) hc3
  unfold fc_28 at h
  refine V_spare (k2 := k + 1) (n2 := n + 6) (Nat.add_le_add_left (Nat.le_of_ble_eq_true rfl) _) (Nat.add_le_add_left (Nat.le_of_ble_eq_true rfl) _) ?_
  refine V_aload_n (i := 1) dL_law_1708 rfl rfl ?_
  refine V_aload_n (i := 0) dL_law_1709 rfl rfl ?_
  refine V_iload (i := 4) dL_law_1710 rfl ?_
  refine V_iconst (v := 1) dL_law_1712 (by decide) ?_
  refine V_iadd dL_law_1713 ?_
  refine D_sld h dL_law_1714 fun h => ?_
  refine V_aload_n (i := 3) dL_law_1715 rfl rfl ?_
  refine D_cSXIW (As := [_, _, _]) (μ := fun W1 => (MEM b c W1 M)) (k2 := 1) (n2 := 6) h dL_law_1716 cx_L_270 rfl rfl (Nat.le_of_ble_eq_true rfl) (fun x y hx => e_L_stopsPassed (Nat.le_trans (Nat.le_of_ble_eq_true rfl) hf) hc3 hx) fun v2 W1 hi h => ?_
  refine V_istore (i := 5) dL_law_1719 (Nat.le_of_ble_eq_true rfl) ?_
  refine V_aload_n (i := 2) dL_law_1721 rfl rfl ?_
  refine V_aload_n (i := 0) dL_law_1722 rfl rfl ?_
  refine V_iload (i := 4) dL_law_1723 rfl ?_
  refine V_iconst (v := 1) dL_law_1725 (by decide) ?_
  refine V_iadd dL_law_1726 ?_
  refine D_sld h dL_law_1727 fun h => ?_
  refine D_cVIW (As := [_]) (μ := fun W3 => (MEM b c W3 M)) h dL_law_1728 cv_L_272 rfl ⟨_, _, _, (mem_30 hc2), rfl, rfl⟩ rfl (Nat.le_of_ble_eq_true rfl) (fun x y hx => e_X10_stopsPassed (Nat.le_trans (Nat.le_of_ble_eq_true rfl) hf) hc2 hx) fun v4 W3 h => ?_
  refine V_istore (i := 6) dL_law_1731 (Nat.le_of_ble_eq_true rfl) ?_
  refine V_aload_n (i := 2) dL_law_1733 rfl rfl ?_
  refine D_cVI (As := []) h dL_law_1734 cv_L_176 rfl ⟨_, _, _, (mem_30 hc2), rfl, rfl⟩ rfl (Nat.le_of_ble_eq_true rfl) (fun x hx => e_X10_thrown (Nat.le_trans (Nat.le_of_ble_eq_true rfl) hf) hc2 hx) fun v5 h => ?_
  refine V_iload (i := 5) dL_law_1737 rfl ?_
  refine D_icmp_eq (tgt := 1744) h dL_law_1739 rfl (fun b6 h => ?_) (fun b6 h => ?_)
  · refine V_iload (i := 5) dL_law_1744 rfl ?_
    refine D_if_ne (tgt := 1761) h dL_law_1746 rfl (fun b7 h => ?_) (fun b7 h => ?_)
    · refine V_goto (tgt := 3490) dL_law_1761 rfl ?_
      obtain rfl := Option.some.inj h
      refine V_spare (k2 := k) (n2 := n) (by omega) (by omega) ?_
      exact V_sub (ks := [2, 3, 4, 5, 6]) rfl (hk _)
    · refine V_aload_n (i := 3) dL_law_1749 rfl rfl ?_
      refine V_iconst (v := 0) dL_law_1750 (by decide) ?_
      refine D3_lld hc3 dL_law_1751 ?_
      refine V_iload (i := 6) dL_law_1752 rfl ?_
      refine V_i2l dL_law_1754 rfl ?_
      refine V_lcmp dL_law_1755 ?_
      refine D_if_eq (tgt := 1761) h dL_law_1756 rfl (fun b8 h => ?_) (fun b8 h => ?_)
      · refine V_goto (tgt := 3490) dL_law_1761 rfl ?_
        obtain rfl := Option.some.inj h
        refine V_spare (k2 := k) (n2 := n) (by omega) (by omega) ?_
        exact V_sub (ks := [2, 3, 4, 5, 6]) rfl (hk _)
      · refine V_iconst (v := 0) dL_law_1759 (by decide) ?_
        cases h
  · refine V_iconst (v := 0) dL_law_1742 (by decide) ?_
    cases h
noncomputable def fc_29 (L : Nat) (s : Nat → Int32) (x4 : Int32) (W : Nat → Nat → Int32) : Option (Nat → Nat → Int32) :=
  gd (inr (x4 + (1 : Int32)) L) (bd2 (f_L_origin W (s (ix (x4 + (1 : Int32))))) (fun v2 W1 => gd (inr (x4 + (1 : Int32)) L) (bd2 (f_X10_origin W1 (s (ix (x4 + (1 : Int32))))) (fun v4 W3 => bdc (f_X10_thrown W3) (fun v5 => if v5 = v2 then if v2 = 0 then if (lg_cmp (W3 31 0).toInt64 (v4).toInt64) = 0 then some W3 else none else some W3 else none)))))
theorem ec_29 {G : GT} {f b c : Nat} {M : MM} {hi k n : Nat} {x4 : Int32} {W r : Nat → Nat → Int32} (hf : 14 ≤ f) (hc3 : 620 ≤ c) (hk : ∀ hi, V G f (Ex G f) mL_law PL 3490 [(0, .ref G.1), (1, .ref b), (2, .ref (b + 609)), (3, .ref (b + 619)), (4, .int x4)] [] (MEM b c r M) hi k n) (h : fc_29 G.2.1 G.2.2.1 x4 W = some r) : V G f (Ex G f) mL_law PL 1764 [(0, .ref G.1), (1, .ref b), (2, .ref (b + 609)), (3, .ref (b + 619)), (4, .int x4)] [] (MEM b c W M) hi (k + 4) (n + 24) := by
  have hc1 : 609 ≤ c := Nat.le_trans (Nat.le_of_ble_eq_true rfl) hc3
  have hc2 : 619 ≤ c := Nat.le_trans (Nat.le_of_ble_eq_true rfl) hc3
  unfold fc_29 at h
  refine V_spare (k2 := k + 1) (n2 := n + 6) (Nat.add_le_add_left (Nat.le_of_ble_eq_true rfl) _) (Nat.add_le_add_left (Nat.le_of_ble_eq_true rfl) _) ?_
  refine V_aload_n (i := 1) dL_law_1764 rfl rfl ?_
  refine V_aload_n (i := 0) dL_law_1765 rfl rfl ?_
  refine V_iload (i := 4) dL_law_1766 rfl ?_
  refine V_iconst (v := 1) dL_law_1768 (by decide) ?_
  refine V_iadd dL_law_1769 ?_
  refine D_sld h dL_law_1770 fun h => ?_
  refine V_aload_n (i := 3) dL_law_1771 rfl rfl ?_
  refine D_cSXIW (As := [_, _, _]) (μ := fun W1 => (MEM b c W1 M)) (k2 := 1) (n2 := 6) h dL_law_1772 cx_L_273 rfl rfl (Nat.le_of_ble_eq_true rfl) (fun x y hx => e_L_origin (Nat.le_trans (Nat.le_of_ble_eq_true rfl) hf) hc3 hx) fun v2 W1 hi h => ?_
  refine V_istore (i := 5) dL_law_1775 (Nat.le_of_ble_eq_true rfl) ?_
  refine V_aload_n (i := 2) dL_law_1777 rfl rfl ?_
  refine V_aload_n (i := 0) dL_law_1778 rfl rfl ?_
  refine V_iload (i := 4) dL_law_1779 rfl ?_
  refine V_iconst (v := 1) dL_law_1781 (by decide) ?_
  refine V_iadd dL_law_1782 ?_
  refine D_sld h dL_law_1783 fun h => ?_
  refine D_cVIW (As := [_]) (μ := fun W3 => (MEM b c W3 M)) h dL_law_1784 cv_L_275 rfl ⟨_, _, _, (mem_30 hc2), rfl, rfl⟩ rfl (Nat.le_of_ble_eq_true rfl) (fun x y hx => e_X10_origin (Nat.le_trans (Nat.le_of_ble_eq_true rfl) hf) hc2 hx) fun v4 W3 h => ?_
  refine V_istore (i := 6) dL_law_1787 (Nat.le_of_ble_eq_true rfl) ?_
  refine V_aload_n (i := 2) dL_law_1789 rfl rfl ?_
  refine D_cVI (As := []) h dL_law_1790 cv_L_176 rfl ⟨_, _, _, (mem_30 hc2), rfl, rfl⟩ rfl (Nat.le_of_ble_eq_true rfl) (fun x hx => e_X10_thrown (Nat.le_trans (Nat.le_of_ble_eq_true rfl) hf) hc2 hx) fun v5 h => ?_
  refine V_iload (i := 5) dL_law_1793 rfl ?_
  refine D_icmp_eq (tgt := 1800) h dL_law_1795 rfl (fun b6 h => ?_) (fun b6 h => ?_)
  · refine V_iload (i := 5) dL_law_1800 rfl ?_
    refine D_if_ne (tgt := 1817) h dL_law_1802 rfl (fun b7 h => ?_) (fun b7 h => ?_)
    · refine V_goto (tgt := 3490) dL_law_1817 rfl ?_
      obtain rfl := Option.some.inj h
      refine V_spare (k2 := k) (n2 := n) (by omega) (by omega) ?_
      exact V_sub (ks := [2, 3, 4, 5, 6]) rfl (hk _)
    · refine V_aload_n (i := 3) dL_law_1805 rfl rfl ?_
      refine V_iconst (v := 0) dL_law_1806 (by decide) ?_
      refine D3_lld hc3 dL_law_1807 ?_
      refine V_iload (i := 6) dL_law_1808 rfl ?_
      refine V_i2l dL_law_1810 rfl ?_
      refine V_lcmp dL_law_1811 ?_
      refine D_if_eq (tgt := 1817) h dL_law_1812 rfl (fun b8 h => ?_) (fun b8 h => ?_)
      · refine V_goto (tgt := 3490) dL_law_1817 rfl ?_
        obtain rfl := Option.some.inj h
        refine V_spare (k2 := k) (n2 := n) (by omega) (by omega) ?_
        exact V_sub (ks := [2, 3, 4, 5, 6]) rfl (hk _)
      · refine V_iconst (v := 0) dL_law_1815 (by decide) ?_
        cases h
  · refine V_iconst (v := 0) dL_law_1798 (by decide) ?_
    cases h
noncomputable def fc_30 (L : Nat) (s : Nat → Int32) (x4 : Int32) (W : Nat → Nat → Int32) : Option (Nat → Nat → Int32) :=
  gd (inr (x4 + (1 : Int32)) L) (bd2 (f_L_destination W (s (ix (x4 + (1 : Int32))))) (fun v2 W1 => gd (inr (x4 + (1 : Int32)) L) (bd2 (f_X10_destination W1 (s (ix (x4 + (1 : Int32))))) (fun v4 W3 => bdc (f_X10_thrown W3) (fun v5 => if v5 = v2 then if v2 = 0 then if (lg_cmp (W3 31 0).toInt64 (v4).toInt64) = 0 then some W3 else none else some W3 else none)))))
theorem ec_30 {G : GT} {f b c : Nat} {M : MM} {hi k n : Nat} {x4 : Int32} {W r : Nat → Nat → Int32} (hf : 14 ≤ f) (hc3 : 620 ≤ c) (hk : ∀ hi, V G f (Ex G f) mL_law PL 3490 [(0, .ref G.1), (1, .ref b), (2, .ref (b + 609)), (3, .ref (b + 619)), (4, .int x4)] [] (MEM b c r M) hi k n) (h : fc_30 G.2.1 G.2.2.1 x4 W = some r) : V G f (Ex G f) mL_law PL 1820 [(0, .ref G.1), (1, .ref b), (2, .ref (b + 609)), (3, .ref (b + 619)), (4, .int x4)] [] (MEM b c W M) hi (k + 4) (n + 24) := by
  have hc1 : 609 ≤ c := Nat.le_trans (Nat.le_of_ble_eq_true rfl) hc3
  have hc2 : 619 ≤ c := Nat.le_trans (Nat.le_of_ble_eq_true rfl) hc3
  unfold fc_30 at h
  refine V_spare (k2 := k + 1) (n2 := n + 6) (Nat.add_le_add_left (Nat.le_of_ble_eq_true rfl) _) (Nat.add_le_add_left (Nat.le_of_ble_eq_true rfl) _) ?_
  refine V_aload_n (i := 1) dL_law_1820 rfl rfl ?_
  refine V_aload_n (i := 0) dL_law_1821 rfl rfl ?_
  refine V_iload (i := 4) dL_law_1822 rfl ?_
  refine V_iconst (v := 1) dL_law_1824 (by decide) ?_
  refine V_iadd dL_law_1825 ?_
  refine D_sld h dL_law_1826 fun h => ?_
  refine V_aload_n (i := 3) dL_law_1827 rfl rfl ?_
  refine D_cSXIW (As := [_, _, _]) (μ := fun W1 => (MEM b c W1 M)) (k2 := 1) (n2 := 6) h dL_law_1828 cx_L_276 rfl rfl (Nat.le_of_ble_eq_true rfl) (fun x y hx => e_L_destination (Nat.le_trans (Nat.le_of_ble_eq_true rfl) hf) hc3 hx) fun v2 W1 hi h => ?_
  refine V_istore (i := 5) dL_law_1831 (Nat.le_of_ble_eq_true rfl) ?_
  refine V_aload_n (i := 2) dL_law_1833 rfl rfl ?_
  refine V_aload_n (i := 0) dL_law_1834 rfl rfl ?_
  refine V_iload (i := 4) dL_law_1835 rfl ?_
  refine V_iconst (v := 1) dL_law_1837 (by decide) ?_
  refine V_iadd dL_law_1838 ?_
  refine D_sld h dL_law_1839 fun h => ?_
  refine D_cVIW (As := [_]) (μ := fun W3 => (MEM b c W3 M)) h dL_law_1840 cv_L_278 rfl ⟨_, _, _, (mem_30 hc2), rfl, rfl⟩ rfl (Nat.le_of_ble_eq_true rfl) (fun x y hx => e_X10_destination (Nat.le_trans (Nat.le_of_ble_eq_true rfl) hf) hc2 hx) fun v4 W3 h => ?_
  refine V_istore (i := 6) dL_law_1843 (Nat.le_of_ble_eq_true rfl) ?_
  refine V_aload_n (i := 2) dL_law_1845 rfl rfl ?_
  refine D_cVI (As := []) h dL_law_1846 cv_L_176 rfl ⟨_, _, _, (mem_30 hc2), rfl, rfl⟩ rfl (Nat.le_of_ble_eq_true rfl) (fun x hx => e_X10_thrown (Nat.le_trans (Nat.le_of_ble_eq_true rfl) hf) hc2 hx) fun v5 h => ?_
  refine V_iload (i := 5) dL_law_1849 rfl ?_
  refine D_icmp_eq (tgt := 1856) h dL_law_1851 rfl (fun b6 h => ?_) (fun b6 h => ?_)
  · refine V_iload (i := 5) dL_law_1856 rfl ?_
    refine D_if_ne (tgt := 1873) h dL_law_1858 rfl (fun b7 h => ?_) (fun b7 h => ?_)
    · refine V_goto (tgt := 3490) dL_law_1873 rfl ?_
      obtain rfl := Option.some.inj h
      refine V_spare (k2 := k) (n2 := n) (by omega) (by omega) ?_
      exact V_sub (ks := [2, 3, 4, 5, 6]) rfl (hk _)
    · refine V_aload_n (i := 3) dL_law_1861 rfl rfl ?_
      refine V_iconst (v := 0) dL_law_1862 (by decide) ?_
      refine D3_lld hc3 dL_law_1863 ?_
      refine V_iload (i := 6) dL_law_1864 rfl ?_
      refine V_i2l dL_law_1866 rfl ?_
      refine V_lcmp dL_law_1867 ?_
      refine D_if_eq (tgt := 1873) h dL_law_1868 rfl (fun b8 h => ?_) (fun b8 h => ?_)
      · refine V_goto (tgt := 3490) dL_law_1873 rfl ?_
        obtain rfl := Option.some.inj h
        refine V_spare (k2 := k) (n2 := n) (by omega) (by omega) ?_
        exact V_sub (ks := [2, 3, 4, 5, 6]) rfl (hk _)
      · refine V_iconst (v := 0) dL_law_1871 (by decide) ?_
        cases h
  · refine V_iconst (v := 0) dL_law_1854 (by decide) ?_
    cases h
noncomputable def fc_31 (L : Nat) (s : Nat → Int32) (x4 : Int32) (W : Nat → Nat → Int32) : Option (Nat → Nat → Int32) :=
  gd (inr (x4 + (1 : Int32)) L) (bd2 (f_L_priority W (s (ix (x4 + (1 : Int32))))) (fun v2 W1 => gd (inr (x4 + (1 : Int32)) L) (bd2 (f_X10_priority W1 (s (ix (x4 + (1 : Int32))))) (fun v4 W3 => bdc (f_X10_thrown W3) (fun v5 => if v5 = v2 then if v2 = 0 then if (lg_cmp (W3 31 0).toInt64 (v4).toInt64) = 0 then some W3 else none else some W3 else none)))))
theorem ec_31 {G : GT} {f b c : Nat} {M : MM} {hi k n : Nat} {x4 : Int32} {W r : Nat → Nat → Int32} (hf : 14 ≤ f) (hc3 : 620 ≤ c) (hk : ∀ hi, V G f (Ex G f) mL_law PL 3490 [(0, .ref G.1), (1, .ref b), (2, .ref (b + 609)), (3, .ref (b + 619)), (4, .int x4)] [] (MEM b c r M) hi k n) (h : fc_31 G.2.1 G.2.2.1 x4 W = some r) : V G f (Ex G f) mL_law PL 1876 [(0, .ref G.1), (1, .ref b), (2, .ref (b + 609)), (3, .ref (b + 619)), (4, .int x4)] [] (MEM b c W M) hi (k + 4) (n + 24) := by
  have hc1 : 609 ≤ c := Nat.le_trans (Nat.le_of_ble_eq_true rfl) hc3
  have hc2 : 619 ≤ c := Nat.le_trans (Nat.le_of_ble_eq_true rfl) hc3
  unfold fc_31 at h
  refine V_spare (k2 := k + 1) (n2 := n + 6) (Nat.add_le_add_left (Nat.le_of_ble_eq_true rfl) _) (Nat.add_le_add_left (Nat.le_of_ble_eq_true rfl) _) ?_
  refine V_aload_n (i := 1) dL_law_1876 rfl rfl ?_
  refine V_aload_n (i := 0) dL_law_1877 rfl rfl ?_
  refine V_iload (i := 4) dL_law_1878 rfl ?_
  refine V_iconst (v := 1) dL_law_1880 (by decide) ?_
  refine V_iadd dL_law_1881 ?_
  refine D_sld h dL_law_1882 fun h => ?_
  refine V_aload_n (i := 3) dL_law_1883 rfl rfl ?_
  refine D_cSXIW (As := [_, _, _]) (μ := fun W1 => (MEM b c W1 M)) (k2 := 1) (n2 := 6) h dL_law_1884 cx_L_279 rfl rfl (Nat.le_of_ble_eq_true rfl) (fun x y hx => e_L_priority (Nat.le_trans (Nat.le_of_ble_eq_true rfl) hf) hc3 hx) fun v2 W1 hi h => ?_
  refine V_istore (i := 5) dL_law_1887 (Nat.le_of_ble_eq_true rfl) ?_
  refine V_aload_n (i := 2) dL_law_1889 rfl rfl ?_
  refine V_aload_n (i := 0) dL_law_1890 rfl rfl ?_
  refine V_iload (i := 4) dL_law_1891 rfl ?_
  refine V_iconst (v := 1) dL_law_1893 (by decide) ?_
  refine V_iadd dL_law_1894 ?_
  refine D_sld h dL_law_1895 fun h => ?_
  refine D_cVIW (As := [_]) (μ := fun W3 => (MEM b c W3 M)) h dL_law_1896 cv_L_281 rfl ⟨_, _, _, (mem_30 hc2), rfl, rfl⟩ rfl (Nat.le_of_ble_eq_true rfl) (fun x y hx => e_X10_priority (Nat.le_trans (Nat.le_of_ble_eq_true rfl) hf) hc2 hx) fun v4 W3 h => ?_
  refine V_istore (i := 6) dL_law_1899 (Nat.le_of_ble_eq_true rfl) ?_
  refine V_aload_n (i := 2) dL_law_1901 rfl rfl ?_
  refine D_cVI (As := []) h dL_law_1902 cv_L_176 rfl ⟨_, _, _, (mem_30 hc2), rfl, rfl⟩ rfl (Nat.le_of_ble_eq_true rfl) (fun x hx => e_X10_thrown (Nat.le_trans (Nat.le_of_ble_eq_true rfl) hf) hc2 hx) fun v5 h => ?_
  refine V_iload (i := 5) dL_law_1905 rfl ?_
  refine D_icmp_eq (tgt := 1912) h dL_law_1907 rfl (fun b6 h => ?_) (fun b6 h => ?_)
  · refine V_iload (i := 5) dL_law_1912 rfl ?_
    refine D_if_ne (tgt := 1929) h dL_law_1914 rfl (fun b7 h => ?_) (fun b7 h => ?_)
    · refine V_goto (tgt := 3490) dL_law_1929 rfl ?_
      obtain rfl := Option.some.inj h
      refine V_spare (k2 := k) (n2 := n) (by omega) (by omega) ?_
      exact V_sub (ks := [2, 3, 4, 5, 6]) rfl (hk _)
    · refine V_aload_n (i := 3) dL_law_1917 rfl rfl ?_
      refine V_iconst (v := 0) dL_law_1918 (by decide) ?_
      refine D3_lld hc3 dL_law_1919 ?_
      refine V_iload (i := 6) dL_law_1920 rfl ?_
      refine V_i2l dL_law_1922 rfl ?_
      refine V_lcmp dL_law_1923 ?_
      refine D_if_eq (tgt := 1929) h dL_law_1924 rfl (fun b8 h => ?_) (fun b8 h => ?_)
      · refine V_goto (tgt := 3490) dL_law_1929 rfl ?_
        obtain rfl := Option.some.inj h
        refine V_spare (k2 := k) (n2 := n) (by omega) (by omega) ?_
        exact V_sub (ks := [2, 3, 4, 5, 6]) rfl (hk _)
      · refine V_iconst (v := 0) dL_law_1927 (by decide) ?_
        cases h
  · refine V_iconst (v := 0) dL_law_1910 (by decide) ?_
    cases h
noncomputable def fc_32 (L : Nat) (s : Nat → Int32) (x4 : Int32) (W : Nat → Nat → Int32) : Option (Nat → Nat → Int32) :=
  gd (inr (x4 + (1 : Int32)) L) (bd2 (f_L_parcelStation W (s (ix (x4 + (1 : Int32))))) (fun v2 W1 => gd (inr (x4 + (1 : Int32)) L) (bd2 (f_X10_parcelStation W1 (s (ix (x4 + (1 : Int32))))) (fun v4 W3 => bdc (f_X10_thrown W3) (fun v5 => if v5 = v2 then if v2 = 0 then if (lg_cmp (W3 31 0).toInt64 (v4).toInt64) = 0 then some W3 else none else some W3 else none)))))
theorem ec_32 {G : GT} {f b c : Nat} {M : MM} {hi k n : Nat} {x4 : Int32} {W r : Nat → Nat → Int32} (hf : 14 ≤ f) (hc3 : 620 ≤ c) (hk : ∀ hi, V G f (Ex G f) mL_law PL 3490 [(0, .ref G.1), (1, .ref b), (2, .ref (b + 609)), (3, .ref (b + 619)), (4, .int x4)] [] (MEM b c r M) hi k n) (h : fc_32 G.2.1 G.2.2.1 x4 W = some r) : V G f (Ex G f) mL_law PL 1932 [(0, .ref G.1), (1, .ref b), (2, .ref (b + 609)), (3, .ref (b + 619)), (4, .int x4)] [] (MEM b c W M) hi (k + 4) (n + 24) := by
  have hc1 : 609 ≤ c := Nat.le_trans (Nat.le_of_ble_eq_true rfl) hc3
  have hc2 : 619 ≤ c := Nat.le_trans (Nat.le_of_ble_eq_true rfl) hc3
  unfold fc_32 at h
  refine V_spare (k2 := k + 1) (n2 := n + 6) (Nat.add_le_add_left (Nat.le_of_ble_eq_true rfl) _) (Nat.add_le_add_left (Nat.le_of_ble_eq_true rfl) _) ?_
  refine V_aload_n (i := 1) dL_law_1932 rfl rfl ?_
  refine V_aload_n (i := 0) dL_law_1933 rfl rfl ?_
  refine V_iload (i := 4) dL_law_1934 rfl ?_
  refine V_iconst (v := 1) dL_law_1936 (by decide) ?_
  refine V_iadd dL_law_1937 ?_
  refine D_sld h dL_law_1938 fun h => ?_
  refine V_aload_n (i := 3) dL_law_1939 rfl rfl ?_
  refine D_cSXIW (As := [_, _, _]) (μ := fun W1 => (MEM b c W1 M)) (k2 := 1) (n2 := 6) h dL_law_1940 cx_L_282 rfl rfl (Nat.le_of_ble_eq_true rfl) (fun x y hx => e_L_parcelStation (Nat.le_trans (Nat.le_of_ble_eq_true rfl) hf) hc3 hx) fun v2 W1 hi h => ?_
  refine V_istore (i := 5) dL_law_1943 (Nat.le_of_ble_eq_true rfl) ?_
  refine V_aload_n (i := 2) dL_law_1945 rfl rfl ?_
  refine V_aload_n (i := 0) dL_law_1946 rfl rfl ?_
  refine V_iload (i := 4) dL_law_1947 rfl ?_
  refine V_iconst (v := 1) dL_law_1949 (by decide) ?_
  refine V_iadd dL_law_1950 ?_
  refine D_sld h dL_law_1951 fun h => ?_
  refine D_cVIW (As := [_]) (μ := fun W3 => (MEM b c W3 M)) h dL_law_1952 cv_L_284 rfl ⟨_, _, _, (mem_30 hc2), rfl, rfl⟩ rfl (Nat.le_of_ble_eq_true rfl) (fun x y hx => e_X10_parcelStation (Nat.le_trans (Nat.le_of_ble_eq_true rfl) hf) hc2 hx) fun v4 W3 h => ?_
  refine V_istore (i := 6) dL_law_1955 (Nat.le_of_ble_eq_true rfl) ?_
  refine V_aload_n (i := 2) dL_law_1957 rfl rfl ?_
  refine D_cVI (As := []) h dL_law_1958 cv_L_176 rfl ⟨_, _, _, (mem_30 hc2), rfl, rfl⟩ rfl (Nat.le_of_ble_eq_true rfl) (fun x hx => e_X10_thrown (Nat.le_trans (Nat.le_of_ble_eq_true rfl) hf) hc2 hx) fun v5 h => ?_
  refine V_iload (i := 5) dL_law_1961 rfl ?_
  refine D_icmp_eq (tgt := 1968) h dL_law_1963 rfl (fun b6 h => ?_) (fun b6 h => ?_)
  · refine V_iload (i := 5) dL_law_1968 rfl ?_
    refine D_if_ne (tgt := 1985) h dL_law_1970 rfl (fun b7 h => ?_) (fun b7 h => ?_)
    · refine V_goto (tgt := 3490) dL_law_1985 rfl ?_
      obtain rfl := Option.some.inj h
      refine V_spare (k2 := k) (n2 := n) (by omega) (by omega) ?_
      exact V_sub (ks := [2, 3, 4, 5, 6]) rfl (hk _)
    · refine V_aload_n (i := 3) dL_law_1973 rfl rfl ?_
      refine V_iconst (v := 0) dL_law_1974 (by decide) ?_
      refine D3_lld hc3 dL_law_1975 ?_
      refine V_iload (i := 6) dL_law_1976 rfl ?_
      refine V_i2l dL_law_1978 rfl ?_
      refine V_lcmp dL_law_1979 ?_
      refine D_if_eq (tgt := 1985) h dL_law_1980 rfl (fun b8 h => ?_) (fun b8 h => ?_)
      · refine V_goto (tgt := 3490) dL_law_1985 rfl ?_
        obtain rfl := Option.some.inj h
        refine V_spare (k2 := k) (n2 := n) (by omega) (by omega) ?_
        exact V_sub (ks := [2, 3, 4, 5, 6]) rfl (hk _)
      · refine V_iconst (v := 0) dL_law_1983 (by decide) ?_
        cases h
  · refine V_iconst (v := 0) dL_law_1966 (by decide) ?_
    cases h
