noncomputable def f_disp (L : Nat) (s : Nat → Int32) (x4 : Int32) (W : Nat → Nat → Int32) (x : Int32) : Option (Nat → Nat → Int32) :=
  if x = (0 : Int32) then fc_0 L s x4 W else if x = (1 : Int32) then fc_1 L s x4 W else if x = (2 : Int32) then fc_2 L s x4 W else if x = (3 : Int32) then fc_3 L s x4 W else if x = (4 : Int32) then fc_4 L s x4 W else if x = (5 : Int32) then fc_5 L s x4 W else if x = (6 : Int32) then fc_6 L s x4 W else if x = (7 : Int32) then fc_7 L s x4 W else if x = (8 : Int32) then fc_8 L s x4 W else if x = (9 : Int32) then fc_9 L s x4 W else if x = (10 : Int32) then fc_10 L s x4 W else if x = (11 : Int32) then fc_11 L s x4 W else if x = (12 : Int32) then fc_12 L s x4 W else if x = (13 : Int32) then fc_13 L s x4 W else if x = (14 : Int32) then fc_14 L s x4 W else if x = (15 : Int32) then fc_15 L s x4 W else if x = (16 : Int32) then fc_16 L s x4 W else if x = (17 : Int32) then fc_17 L s x4 W else if x = (18 : Int32) then fc_18 L s x4 W else if x = (19 : Int32) then fc_19 L s x4 W else if x = (20 : Int32) then fc_20 L s x4 W else if x = (21 : Int32) then fc_21 L s x4 W else if x = (22 : Int32) then fc_22 L s x4 W else if x = (23 : Int32) then fc_23 L s x4 W else if x = (24 : Int32) then fc_24 L s x4 W else if x = (25 : Int32) then fc_25 L s x4 W else if x = (26 : Int32) then fc_26 L s x4 W else if x = (27 : Int32) then fc_27 L s x4 W else if x = (28 : Int32) then fc_28 L s x4 W else if x = (29 : Int32) then fc_29 L s x4 W else if x = (30 : Int32) then fc_30 L s x4 W else if x = (31 : Int32) then fc_31 L s x4 W else if x = (32 : Int32) then fc_32 L s x4 W else if x = (33 : Int32) then fc_33 L s x4 W else if x = (34 : Int32) then fc_34 L s x4 W else if x = (35 : Int32) then fc_35 L s x4 W else if x = (36 : Int32) then fc_36 L s x4 W else if x = (37 : Int32) then fc_37 L s x4 W else if x = (38 : Int32) then fc_38 L s x4 W else if x = (39 : Int32) then fc_39 L s x4 W else if x = (40 : Int32) then fc_40 L s x4 W else if x = (41 : Int32) then fc_41 L s x4 W else if x = (42 : Int32) then fc_42 L s x4 W else if x = (43 : Int32) then fc_43 L s x4 W else if x = (44 : Int32) then fc_44 L s x4 W else if x = (45 : Int32) then fc_45 L s x4 W else if x = (46 : Int32) then fc_46 L s x4 W else if x = (47 : Int32) then fc_47 L s x4 W else if x = (48 : Int32) then fc_48 L s x4 W else if x = (49 : Int32) then fc_49 L s x4 W else if x = (50 : Int32) then fc_50 L s x4 W else if x = (51 : Int32) then fc_51 L s x4 W else if x = (52 : Int32) then fc_52 L s x4 W else if x = (53 : Int32) then fc_53 L s x4 W else if x = (54 : Int32) then fc_54 L s x4 W else if x = (55 : Int32) then fc_55 L s x4 W else if x = (56 : Int32) then fc_56 L s x4 W else if x = (57 : Int32) then fc_57 L s x4 W else if x = (58 : Int32) then fc_58 L s x4 W else if x = (59 : Int32) then fc_59 L s x4 W else if x = (60 : Int32) then fc_60 L s x4 W else if x = (61 : Int32) then fc_61 L s x4 W else if x = (62 : Int32) then fc_62 L s x4 W else if x = (63 : Int32) then fc_63 L s x4 W else gd (tso x 0 63) (some W)
theorem e_disp {G : GT} {f b c : Nat} {M : MM} {hi k n : Nat} {x4 x : Int32} {W r : Nat → Nat → Int32} (hf : 14 ≤ f) (hc3 : 620 ≤ c) (hk : ∀ hi, V G f (Ex G f) mL_law PL 3490 [(0, .ref G.1), (1, .ref b), (2, .ref (b + 609)), (3, .ref (b + 619)), (4, .int x4)] [] (MEM b c r M) hi k n) (h : f_disp G.2.1 G.2.2.1 x4 W x = some r) : V G f (Ex G f) mL_law PL 40 [(0, .ref G.1), (1, .ref b), (2, .ref (b + 609)), (3, .ref (b + 619)), (4, .int x4)] [.int x] (MEM b c W M) hi (k + 4) (n + 24) := by
  unfold f_disp at h
  refine D_ite h (fun q h => ?_) (fun q h => ?_)
  · refine V_tsIn (c := 0) (off := 272) (tgt := 312) q dL_law_40 (by decide) (by decide) (by decide) rfl ?_
    exact ec_0 hf hc3 hk h
  refine D_ite h (fun q h => ?_) (fun q h => ?_)
  · refine V_tsIn (c := 1) (off := 376) (tgt := 416) q dL_law_40 (by decide) (by decide) (by decide) rfl ?_
    exact ec_1 hf hc3 hk h
  refine D_ite h (fun q h => ?_) (fun q h => ?_)
  · refine V_tsIn (c := 2) (off := 432) (tgt := 472) q dL_law_40 (by decide) (by decide) (by decide) rfl ?_
    exact ec_2 hf hc3 hk h
  refine D_ite h (fun q h => ?_) (fun q h => ?_)
  · refine V_tsIn (c := 3) (off := 476) (tgt := 516) q dL_law_40 (by decide) (by decide) (by decide) rfl ?_
    exact ec_3 hf hc3 hk h
  refine D_ite h (fun q h => ?_) (fun q h => ?_)
  · refine V_tsIn (c := 4) (off := 489) (tgt := 529) q dL_law_40 (by decide) (by decide) (by decide) rfl ?_
    exact ec_4 hf hc3 hk h
  refine D_ite h (fun q h => ?_) (fun q h => ?_)
  · refine V_tsIn (c := 5) (off := 502) (tgt := 542) q dL_law_40 (by decide) (by decide) (by decide) rfl ?_
    exact ec_5 hf hc3 hk h
  refine D_ite h (fun q h => ?_) (fun q h => ?_)
  · refine V_tsIn (c := 6) (off := 515) (tgt := 555) q dL_law_40 (by decide) (by decide) (by decide) rfl ?_
    exact ec_6 hf hc3 hk h
  refine D_ite h (fun q h => ?_) (fun q h => ?_)
  · refine V_tsIn (c := 7) (off := 528) (tgt := 568) q dL_law_40 (by decide) (by decide) (by decide) rfl ?_
    exact ec_7 hf hc3 hk h
  refine D_ite h (fun q h => ?_) (fun q h => ?_)
  · refine V_tsIn (c := 8) (off := 541) (tgt := 581) q dL_law_40 (by decide) (by decide) (by decide) rfl ?_
    exact ec_8 hf hc3 hk h
  refine D_ite h (fun q h => ?_) (fun q h => ?_)
  · refine V_tsIn (c := 9) (off := 554) (tgt := 594) q dL_law_40 (by decide) (by decide) (by decide) rfl ?_
    exact ec_9 hf hc3 hk h
  refine D_ite h (fun q h => ?_) (fun q h => ?_)
  · refine V_tsIn (c := 10) (off := 567) (tgt := 607) q dL_law_40 (by decide) (by decide) (by decide) rfl ?_
    exact ec_10 hf hc3 hk h
  refine D_ite h (fun q h => ?_) (fun q h => ?_)
  · refine V_tsIn (c := 11) (off := 630) (tgt := 670) q dL_law_40 (by decide) (by decide) (by decide) rfl ?_
    exact ec_11 hf hc3 hk h
  refine D_ite h (fun q h => ?_) (fun q h => ?_)
  · refine V_tsIn (c := 12) (off := 686) (tgt := 726) q dL_law_40 (by decide) (by decide) (by decide) rfl ?_
    exact ec_12 hf hc3 hk h
  refine D_ite h (fun q h => ?_) (fun q h => ?_)
  · refine V_tsIn (c := 13) (off := 742) (tgt := 782) q dL_law_40 (by decide) (by decide) (by decide) rfl ?_
    exact ec_13 hf hc3 hk h
  refine D_ite h (fun q h => ?_) (fun q h => ?_)
  · refine V_tsIn (c := 14) (off := 810) (tgt := 850) q dL_law_40 (by decide) (by decide) (by decide) rfl ?_
    exact ec_14 hf hc3 hk h
  refine D_ite h (fun q h => ?_) (fun q h => ?_)
  · refine V_tsIn (c := 15) (off := 878) (tgt := 918) q dL_law_40 (by decide) (by decide) (by decide) rfl ?_
    exact ec_15 hf hc3 hk h
  refine D_ite h (fun q h => ?_) (fun q h => ?_)
  · refine V_tsIn (c := 16) (off := 953) (tgt := 993) q dL_law_40 (by decide) (by decide) (by decide) rfl ?_
    exact ec_16 hf hc3 hk h
  refine D_ite h (fun q h => ?_) (fun q h => ?_)
  · refine V_tsIn (c := 17) (off := 1021) (tgt := 1061) q dL_law_40 (by decide) (by decide) (by decide) rfl ?_
    exact ec_17 hf hc3 hk h
  refine D_ite h (fun q h => ?_) (fun q h => ?_)
  · refine V_tsIn (c := 18) (off := 1077) (tgt := 1117) q dL_law_40 (by decide) (by decide) (by decide) rfl ?_
    exact ec_18 hf hc3 hk h
  refine D_ite h (fun q h => ?_) (fun q h => ?_)
  · refine V_tsIn (c := 19) (off := 1133) (tgt := 1173) q dL_law_40 (by decide) (by decide) (by decide) rfl ?_
    exact ec_19 hf hc3 hk h
  refine D_ite h (fun q h => ?_) (fun q h => ?_)
  · refine V_tsIn (c := 20) (off := 1201) (tgt := 1241) q dL_law_40 (by decide) (by decide) (by decide) rfl ?_
    exact ec_20 hf hc3 hk h
  refine D_ite h (fun q h => ?_) (fun q h => ?_)
  · refine V_tsIn (c := 21) (off := 1257) (tgt := 1297) q dL_law_40 (by decide) (by decide) (by decide) rfl ?_
    exact ec_21 hf hc3 hk h
  refine D_ite h (fun q h => ?_) (fun q h => ?_)
  · refine V_tsIn (c := 22) (off := 1325) (tgt := 1365) q dL_law_40 (by decide) (by decide) (by decide) rfl ?_
    exact ec_22 hf hc3 hk h
  refine D_ite h (fun q h => ?_) (fun q h => ?_)
  · refine V_tsIn (c := 23) (off := 1381) (tgt := 1421) q dL_law_40 (by decide) (by decide) (by decide) rfl ?_
    exact ec_23 hf hc3 hk h
  refine D_ite h (fun q h => ?_) (fun q h => ?_)
  · refine V_tsIn (c := 24) (off := 1437) (tgt := 1477) q dL_law_40 (by decide) (by decide) (by decide) rfl ?_
    exact ec_24 hf hc3 hk h
  refine D_ite h (fun q h => ?_) (fun q h => ?_)
  · refine V_tsIn (c := 25) (off := 1500) (tgt := 1540) q dL_law_40 (by decide) (by decide) (by decide) rfl ?_
    exact ec_25 hf hc3 hk h
  refine D_ite h (fun q h => ?_) (fun q h => ?_)
  · refine V_tsIn (c := 26) (off := 1556) (tgt := 1596) q dL_law_40 (by decide) (by decide) (by decide) rfl ?_
    exact ec_26 hf hc3 hk h
  refine D_ite h (fun q h => ?_) (fun q h => ?_)
  · refine V_tsIn (c := 27) (off := 1612) (tgt := 1652) q dL_law_40 (by decide) (by decide) (by decide) rfl ?_
    exact ec_27 hf hc3 hk h
  refine D_ite h (fun q h => ?_) (fun q h => ?_)
  · refine V_tsIn (c := 28) (off := 1668) (tgt := 1708) q dL_law_40 (by decide) (by decide) (by decide) rfl ?_
    exact ec_28 hf hc3 hk h
  refine D_ite h (fun q h => ?_) (fun q h => ?_)
  · refine V_tsIn (c := 29) (off := 1724) (tgt := 1764) q dL_law_40 (by decide) (by decide) (by decide) rfl ?_
    exact ec_29 hf hc3 hk h
  refine D_ite h (fun q h => ?_) (fun q h => ?_)
  · refine V_tsIn (c := 30) (off := 1780) (tgt := 1820) q dL_law_40 (by decide) (by decide) (by decide) rfl ?_
    exact ec_30 hf hc3 hk h
  refine D_ite h (fun q h => ?_) (fun q h => ?_)
  · refine V_tsIn (c := 31) (off := 1836) (tgt := 1876) q dL_law_40 (by decide) (by decide) (by decide) rfl ?_
    exact ec_31 hf hc3 hk h
  refine D_ite h (fun q h => ?_) (fun q h => ?_)
  · refine V_tsIn (c := 32) (off := 1892) (tgt := 1932) q dL_law_40 (by decide) (by decide) (by decide) rfl ?_
    exact ec_32 hf hc3 hk h
  refine D_ite h (fun q h => ?_) (fun q h => ?_)
  · refine V_tsIn (c := 33) (off := 1948) (tgt := 1988) q dL_law_40 (by decide) (by decide) (by decide) rfl ?_
    exact ec_33 hf hc3 hk h
  refine D_ite h (fun q h => ?_) (fun q h => ?_)
  · refine V_tsIn (c := 34) (off := 2004) (tgt := 2044) q dL_law_40 (by decide) (by decide) (by decide) rfl ?_
    exact ec_34 hf hc3 hk h
  refine D_ite h (fun q h => ?_) (fun q h => ?_)
  · refine V_tsIn (c := 35) (off := 2060) (tgt := 2100) q dL_law_40 (by decide) (by decide) (by decide) rfl ?_
    exact ec_35 hf hc3 hk h
  refine D_ite h (fun q h => ?_) (fun q h => ?_)
  · refine V_tsIn (c := 36) (off := 2116) (tgt := 2156) q dL_law_40 (by decide) (by decide) (by decide) rfl ?_
    exact ec_36 hf hc3 hk h
  refine D_ite h (fun q h => ?_) (fun q h => ?_)
  · refine V_tsIn (c := 37) (off := 2179) (tgt := 2219) q dL_law_40 (by decide) (by decide) (by decide) rfl ?_
    exact ec_37 hf hc3 hk h
  refine D_ite h (fun q h => ?_) (fun q h => ?_)
  · refine V_tsIn (c := 38) (off := 2235) (tgt := 2275) q dL_law_40 (by decide) (by decide) (by decide) rfl ?_
    exact ec_38 hf hc3 hk h
  refine D_ite h (fun q h => ?_) (fun q h => ?_)
  · refine V_tsIn (c := 39) (off := 2303) (tgt := 2343) q dL_law_40 (by decide) (by decide) (by decide) rfl ?_
    exact ec_39 hf hc3 hk h
  refine D_ite h (fun q h => ?_) (fun q h => ?_)
  · refine V_tsIn (c := 40) (off := 2316) (tgt := 2356) q dL_law_40 (by decide) (by decide) (by decide) rfl ?_
    exact ec_40 hf hc3 hk h
  refine D_ite h (fun q h => ?_) (fun q h => ?_)
  · refine V_tsIn (c := 41) (off := 2329) (tgt := 2369) q dL_law_40 (by decide) (by decide) (by decide) rfl ?_
    exact ec_41 hf hc3 hk h
  refine D_ite h (fun q h => ?_) (fun q h => ?_)
  · refine V_tsIn (c := 42) (off := 2342) (tgt := 2382) q dL_law_40 (by decide) (by decide) (by decide) rfl ?_
    exact ec_42 hf hc3 hk h
  refine D_ite h (fun q h => ?_) (fun q h => ?_)
  · refine V_tsIn (c := 43) (off := 2383) (tgt := 2423) q dL_law_40 (by decide) (by decide) (by decide) rfl ?_
    exact ec_43 hf hc3 hk h
  refine D_ite h (fun q h => ?_) (fun q h => ?_)
  · refine V_tsIn (c := 44) (off := 2426) (tgt := 2466) q dL_law_40 (by decide) (by decide) (by decide) rfl ?_
    exact ec_44 hf hc3 hk h
  refine D_ite h (fun q h => ?_) (fun q h => ?_)
  · refine V_tsIn (c := 45) (off := 2482) (tgt := 2522) q dL_law_40 (by decide) (by decide) (by decide) rfl ?_
    exact ec_45 hf hc3 hk h
  refine D_ite h (fun q h => ?_) (fun q h => ?_)
  · refine V_tsIn (c := 46) (off := 2495) (tgt := 2535) q dL_law_40 (by decide) (by decide) (by decide) rfl ?_
    exact ec_46 hf hc3 hk h
  refine D_ite h (fun q h => ?_) (fun q h => ?_)
  · refine V_tsIn (c := 47) (off := 2551) (tgt := 2591) q dL_law_40 (by decide) (by decide) (by decide) rfl ?_
    exact ec_47 hf hc3 hk h
  refine D_ite h (fun q h => ?_) (fun q h => ?_)
  · refine V_tsIn (c := 48) (off := 2619) (tgt := 2659) q dL_law_40 (by decide) (by decide) (by decide) rfl ?_
    exact ec_48 hf hc3 hk h
  refine D_ite h (fun q h => ?_) (fun q h => ?_)
  · refine V_tsIn (c := 49) (off := 2675) (tgt := 2715) q dL_law_40 (by decide) (by decide) (by decide) rfl ?_
    exact ec_49 hf hc3 hk h
  refine D_ite h (fun q h => ?_) (fun q h => ?_)
  · refine V_tsIn (c := 50) (off := 2755) (tgt := 2795) q dL_law_40 (by decide) (by decide) (by decide) rfl ?_
    exact ec_50 hf hc3 hk h
  refine D_ite h (fun q h => ?_) (fun q h => ?_)
  · refine V_tsIn (c := 51) (off := 2768) (tgt := 2808) q dL_law_40 (by decide) (by decide) (by decide) rfl ?_
    exact ec_51 hf hc3 hk h
  refine D_ite h (fun q h => ?_) (fun q h => ?_)
  · refine V_tsIn (c := 52) (off := 2824) (tgt := 2864) q dL_law_40 (by decide) (by decide) (by decide) rfl ?_
    exact ec_52 hf hc3 hk h
  refine D_ite h (fun q h => ?_) (fun q h => ?_)
  · refine V_tsIn (c := 53) (off := 2904) (tgt := 2944) q dL_law_40 (by decide) (by decide) (by decide) rfl ?_
    exact ec_53 hf hc3 hk h
  refine D_ite h (fun q h => ?_) (fun q h => ?_)
  · refine V_tsIn (c := 54) (off := 3007) (tgt := 3047) q dL_law_40 (by decide) (by decide) (by decide) rfl ?_
    exact ec_54 hf hc3 hk h
  refine D_ite h (fun q h => ?_) (fun q h => ?_)
  · refine V_tsIn (c := 55) (off := 3075) (tgt := 3115) q dL_law_40 (by decide) (by decide) (by decide) rfl ?_
    exact ec_55 hf hc3 hk h
  refine D_ite h (fun q h => ?_) (fun q h => ?_)
  · refine V_tsIn (c := 56) (off := 3143) (tgt := 3183) q dL_law_40 (by decide) (by decide) (by decide) rfl ?_
    exact ec_56 hf hc3 hk h
  refine D_ite h (fun q h => ?_) (fun q h => ?_)
  · refine V_tsIn (c := 57) (off := 3199) (tgt := 3239) q dL_law_40 (by decide) (by decide) (by decide) rfl ?_
    exact ec_57 hf hc3 hk h
  refine D_ite h (fun q h => ?_) (fun q h => ?_)
  · refine V_tsIn (c := 58) (off := 3212) (tgt := 3252) q dL_law_40 (by decide) (by decide) (by decide) rfl ?_
    exact ec_58 hf hc3 hk h
  refine D_ite h (fun q h => ?_) (fun q h => ?_)
  · refine V_tsIn (c := 59) (off := 3225) (tgt := 3265) q dL_law_40 (by decide) (by decide) (by decide) rfl ?_
    exact ec_59 hf hc3 hk h
  refine D_ite h (fun q h => ?_) (fun q h => ?_)
  · refine V_tsIn (c := 60) (off := 3281) (tgt := 3321) q dL_law_40 (by decide) (by decide) (by decide) rfl ?_
    exact ec_60 hf hc3 hk h
  refine D_ite h (fun q h => ?_) (fun q h => ?_)
  · refine V_tsIn (c := 61) (off := 3337) (tgt := 3377) q dL_law_40 (by decide) (by decide) (by decide) rfl ?_
    exact ec_61 hf hc3 hk h
  refine D_ite h (fun q h => ?_) (fun q h => ?_)
  · refine V_tsIn (c := 62) (off := 3393) (tgt := 3433) q dL_law_40 (by decide) (by decide) (by decide) rfl ?_
    exact ec_62 hf hc3 hk h
  refine D_ite h (fun q h => ?_) (fun q h => ?_)
  · refine V_tsIn (c := 63) (off := 3437) (tgt := 3477) q dL_law_40 (by decide) (by decide) (by decide) rfl ?_
    exact ec_63 hf hc3 hk h
  refine V_tsOut (tgt := 3490) h dL_law_40 rfl fun h => ?_
  obtain rfl := Option.some.inj h
  exact V_spare (k2 := k) (n2 := n) (by omega) (by omega) (hk _)
noncomputable def f_loop (L : Nat) (s : Nat → Int32) : Nat → Int32 → (Nat → Nat → Int32) → Option Unit
  | 0, _, _ => none
  | N + 1, x4, W => if Int32.ofNat L - (6 : Int32) < x4 then some () else gd (inr x4 L) (bdc (f_disp L s x4 W (s (ix x4) &&& (63 : Int32))) (fun W1 => f_loop L s N (x4 + (6 : Int32)) W1))
theorem e_loop {G : GT} {f b c : Nat} {M : MM} (hf : 14 ≤ f) (hc3 : 620 ≤ c) : ∀ (N : Nat) (x4 : Int32) (W : Nat → Nat → Int32) (hi k n : Nat), f_loop G.2.1 G.2.2.1 N x4 W = some () → V G f (Ex G f) mL_law PL 23 [(0, .ref G.1), (1, .ref b), (2, .ref (b + 609)), (3, .ref (b + 619)), (4, .int x4)] [] (MEM b c W M) hi (k + 4 * N) (n + 24 * N) := by
  intro N
  induction N with
  | zero => intro x4 W hi k n h; cases h
  | succ N ih =>
    intro x4 W hi k n h
    rw [f_loop] at h
    refine V_iload (i := 4) dL_law_23 rfl ?_
    refine V_aload_n (i := 0) dL_law_25 rfl rfl ?_
    refine V_slen dL_law_26 ?_
    refine V_bipush (v := 6) dL_law_27 (by decide) ?_
    refine V_isub dL_law_29 ?_
    refine D_icmp_gt (tgt := 3496) h dL_law_30 rfl (fun _ h => ?_) (fun _ h => ?_)
    · refine V_iconst (v := 1) dL_law_3496 (by decide) ?_
      exact V_ireturn dL_law_3497 ⟨_, rfl, rfl⟩ rfl
    · refine V_aload_n (i := 0) dL_law_33 rfl rfl ?_
      refine V_iload (i := 4) dL_law_34 rfl ?_
      refine D_sld h dL_law_36 fun h => ?_
      refine V_bipush (v := 63) dL_law_37 (by decide) ?_
      refine V_iand dL_law_39 ?_
      generalize hd : f_disp G.2.1 G.2.2.1 x4 W (G.2.2.1 (ix x4) &&& (63 : Int32)) = o at h
      cases o with
      | none => cases h
      | some W1 =>
        refine V_spare (k2 := k + 4 * N + 4) (n2 := n + 24 * N + 24) (by omega) (by omega) ?_
        refine e_disp hf hc3 (fun hi => ?_) hd
        refine D_iinc (i := 4) (w := 6) dL_law_3490 rfl (by decide) (Nat.le_of_ble_eq_true rfl) ?_
        refine V_goto (tgt := 23) dL_law_3493 rfl ?_
        exact V_sub (ks := [1, 2, 3, 4, 0]) rfl (ih _ _ _ _ _ h)
