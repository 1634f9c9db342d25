noncomputable def fc_33 (L : Nat) (s : Nat → Int32) (x4 : Int32) (W : Nat → Nat → Int32) : Option (Nat → Nat → Int32) :=
  gd (inr (x4 + (1 : Int32)) L) (bd2 (f_L_parcelTrain W (s (ix (x4 + (1 : Int32))))) (fun v2 W1 => gd (inr (x4 + (1 : Int32)) L) (bd2 (f_X10_parcelTrain W1 (s (ix (x4 + (1 : Int32))))) (fun v4 W3 => bdc (f_X10_thrown W3) (fun v5 => if v5 = v2 then if v2 = 0 then if (lg_cmp (W3 31 0).toInt64 (v4).toInt64) = 0 then some W3 else none else some W3 else none)))))
theorem ec_33 {G : GT} {f b c : Nat} {M : MM} {hi k n : Nat} {x4 : Int32} {W r : Nat → Nat → Int32} (hf : 14 ≤ f) (hc3 : 620 ≤ c) (hk : ∀ hi, V G f (Ex G f) mL_law PL 3490 [(0, .ref G.1), (1, .ref b), (2, .ref (b + 609)), (3, .ref (b + 619)), (4, .int x4)] [] (MEM b c r M) hi k n) (h : fc_33 G.2.1 G.2.2.1 x4 W = some r) : V G f (Ex G f) mL_law PL 1988 [(0, .ref G.1), (1, .ref b), (2, .ref (b + 609)), (3, .ref (b + 619)), (4, .int x4)] [] (MEM b c W M) hi (k + 4) (n + 24) := by
  have hc1 : 609 ≤ c := Nat.le_trans (Nat.le_of_ble_eq_true rfl) hc3
  have hc2 : 619 ≤ c := Nat.le_trans (Nat.le_of_ble_eq_true rfl) hc3
  unfold fc_33 at h
  refine V_spare (k2 := k + 1) (n2 := n + 6) (Nat.add_le_add_left (Nat.le_of_ble_eq_true rfl) _) (Nat.add_le_add_left (Nat.le_of_ble_eq_true rfl) _) ?_
  refine V_aload_n (i := 1) dL_law_1988 rfl rfl ?_
  refine V_aload_n (i := 0) dL_law_1989 rfl rfl ?_
  refine V_iload (i := 4) dL_law_1990 rfl ?_
  refine V_iconst (v := 1) dL_law_1992 (by decide) ?_
  refine V_iadd dL_law_1993 ?_
  refine D_sld h dL_law_1994 fun h => ?_
  refine V_aload_n (i := 3) dL_law_1995 rfl rfl ?_
  refine D_cSXIW (As := [_, _, _]) (μ := fun W1 => (MEM b c W1 M)) (k2 := 1) (n2 := 6) h dL_law_1996 cx_L_285 rfl rfl (Nat.le_of_ble_eq_true rfl) (fun x y hx => e_L_parcelTrain (Nat.le_trans (Nat.le_of_ble_eq_true rfl) hf) hc3 hx) fun v2 W1 hi h => ?_
  refine V_istore (i := 5) dL_law_1999 (Nat.le_of_ble_eq_true rfl) ?_
  refine V_aload_n (i := 2) dL_law_2001 rfl rfl ?_
  refine V_aload_n (i := 0) dL_law_2002 rfl rfl ?_
  refine V_iload (i := 4) dL_law_2003 rfl ?_
  refine V_iconst (v := 1) dL_law_2005 (by decide) ?_
  refine V_iadd dL_law_2006 ?_
  refine D_sld h dL_law_2007 fun h => ?_
  refine D_cVIW (As := [_]) (μ := fun W3 => (MEM b c W3 M)) h dL_law_2008 cv_L_287 rfl ⟨_, _, _, (mem_30 hc2), rfl, rfl⟩ rfl (Nat.le_of_ble_eq_true rfl) (fun x y hx => e_X10_parcelTrain (Nat.le_trans (Nat.le_of_ble_eq_true rfl) hf) hc2 hx) fun v4 W3 h => ?_
  refine V_istore (i := 6) dL_law_2011 (Nat.le_of_ble_eq_true rfl) ?_
  refine V_aload_n (i := 2) dL_law_2013 rfl rfl ?_
  refine D_cVI (As := []) h dL_law_2014 cv_L_176 rfl ⟨_, _, _, (mem_30 hc2), rfl, rfl⟩ rfl (Nat.le_of_ble_eq_true rfl) (fun x hx => e_X10_thrown (Nat.le_trans (Nat.le_of_ble_eq_true rfl) hf) hc2 hx) fun v5 h => ?_
  refine V_iload (i := 5) dL_law_2017 rfl ?_
  refine D_icmp_eq (tgt := 2024) h dL_law_2019 rfl (fun b6 h => ?_) (fun b6 h => ?_)
  · refine V_iload (i := 5) dL_law_2024 rfl ?_
    refine D_if_ne (tgt := 2041) h dL_law_2026 rfl (fun b7 h => ?_) (fun b7 h => ?_)
    · refine V_goto (tgt := 3490) dL_law_2041 rfl ?_
      obtain rfl := Option.some.inj h
      refine V_spare (k2 := k) (n2 := n) (by omega) (by omega) ?_
      exact V_sub (ks := [2, 3, 4, 5, 6]) rfl (hk _)
    · refine V_aload_n (i := 3) dL_law_2029 rfl rfl ?_
      refine V_iconst (v := 0) dL_law_2030 (by decide) ?_
      refine D3_lld hc3 dL_law_2031 ?_
      refine V_iload (i := 6) dL_law_2032 rfl ?_
      refine V_i2l dL_law_2034 rfl ?_
      refine V_lcmp dL_law_2035 ?_
      refine D_if_eq (tgt := 2041) h dL_law_2036 rfl (fun b8 h => ?_) (fun b8 h => ?_)
      · refine V_goto (tgt := 3490) dL_law_2041 rfl ?_
        obtain rfl := Option.some.inj h
        refine V_spare (k2 := k) (n2 := n) (by omega) (by omega) ?_
        exact V_sub (ks := [2, 3, 4, 5, 6]) rfl (hk _)
      · refine V_iconst (v := 0) dL_law_2039 (by decide) ?_
        cases h
  · refine V_iconst (v := 0) dL_law_2022 (by decide) ?_
    cases h
noncomputable def fc_34 (L : Nat) (s : Nat → Int32) (x4 : Int32) (W : Nat → Nat → Int32) : Option (Nat → Nat → Int32) :=
  gd (inr (x4 + (1 : Int32)) L) (bd2 (f_L_dropStation W (s (ix (x4 + (1 : Int32))))) (fun v2 W1 => gd (inr (x4 + (1 : Int32)) L) (bd2 (f_X10_dropStation W1 (s (ix (x4 + (1 : Int32))))) (fun v4 W3 => bdc (f_X10_thrown W3) (fun v5 => if v5 = v2 then if v2 = 0 then if (lg_cmp (W3 31 0).toInt64 (v4).toInt64) = 0 then some W3 else none else some W3 else none)))))
theorem ec_34 {G : GT} {f b c : Nat} {M : MM} {hi k n : Nat} {x4 : Int32} {W r : Nat → Nat → Int32} (hf : 14 ≤ f) (hc3 : 620 ≤ c) (hk : ∀ hi, V G f (Ex G f) mL_law PL 3490 [(0, .ref G.1), (1, .ref b), (2, .ref (b + 609)), (3, .ref (b + 619)), (4, .int x4)] [] (MEM b c r M) hi k n) (h : fc_34 G.2.1 G.2.2.1 x4 W = some r) : V G f (Ex G f) mL_law PL 2044 [(0, .ref G.1), (1, .ref b), (2, .ref (b + 609)), (3, .ref (b + 619)), (4, .int x4)] [] (MEM b c W M) hi (k + 4) (n + 24) := by
  have hc1 : 609 ≤ c := Nat.le_trans (Nat.le_of_ble_eq_true rfl) hc3
  have hc2 : 619 ≤ c := Nat.le_trans (Nat.le_of_ble_eq_true rfl) hc3
  unfold fc_34 at h
  refine V_spare (k2 := k + 1) (n2 := n + 6) (Nat.add_le_add_left (Nat.le_of_ble_eq_true rfl) _) (Nat.add_le_add_left (Nat.le_of_ble_eq_true rfl) _) ?_
  refine V_aload_n (i := 1) dL_law_2044 rfl rfl ?_
  refine V_aload_n (i := 0) dL_law_2045 rfl rfl ?_
  refine V_iload (i := 4) dL_law_2046 rfl ?_
  refine V_iconst (v := 1) dL_law_2048 (by decide) ?_
  refine V_iadd dL_law_2049 ?_
  refine D_sld h dL_law_2050 fun h => ?_
  refine V_aload_n (i := 3) dL_law_2051 rfl rfl ?_
  refine D_cSXIW (As := [_, _, _]) (μ := fun W1 => (MEM b c W1 M)) (k2 := 1) (n2 := 6) h dL_law_2052 cx_L_288 rfl rfl (Nat.le_of_ble_eq_true rfl) (fun x y hx => e_L_dropStation (Nat.le_trans (Nat.le_of_ble_eq_true rfl) hf) hc3 hx) fun v2 W1 hi h => ?_
  refine V_istore (i := 5) dL_law_2055 (Nat.le_of_ble_eq_true rfl) ?_
  refine V_aload_n (i := 2) dL_law_2057 rfl rfl ?_
  refine V_aload_n (i := 0) dL_law_2058 rfl rfl ?_
  refine V_iload (i := 4) dL_law_2059 rfl ?_
  refine V_iconst (v := 1) dL_law_2061 (by decide) ?_
  refine V_iadd dL_law_2062 ?_
  refine D_sld h dL_law_2063 fun h => ?_
  refine D_cVIW (As := [_]) (μ := fun W3 => (MEM b c W3 M)) h dL_law_2064 cv_L_290 rfl ⟨_, _, _, (mem_30 hc2), rfl, rfl⟩ rfl (Nat.le_of_ble_eq_true rfl) (fun x y hx => e_X10_dropStation (Nat.le_trans (Nat.le_of_ble_eq_true rfl) hf) hc2 hx) fun v4 W3 h => ?_
  refine V_istore (i := 6) dL_law_2067 (Nat.le_of_ble_eq_true rfl) ?_
  refine V_aload_n (i := 2) dL_law_2069 rfl rfl ?_
  refine D_cVI (As := []) h dL_law_2070 cv_L_176 rfl ⟨_, _, _, (mem_30 hc2), rfl, rfl⟩ rfl (Nat.le_of_ble_eq_true rfl) (fun x hx => e_X10_thrown (Nat.le_trans (Nat.le_of_ble_eq_true rfl) hf) hc2 hx) fun v5 h => ?_
  refine V_iload (i := 5) dL_law_2073 rfl ?_
  refine D_icmp_eq (tgt := 2080) h dL_law_2075 rfl (fun b6 h => ?_) (fun b6 h => ?_)
  · refine V_iload (i := 5) dL_law_2080 rfl ?_
    refine D_if_ne (tgt := 2097) h dL_law_2082 rfl (fun b7 h => ?_) (fun b7 h => ?_)
    · refine V_goto (tgt := 3490) dL_law_2097 rfl ?_
      obtain rfl := Option.some.inj h
      refine V_spare (k2 := k) (n2 := n) (by omega) (by omega) ?_
      exact V_sub (ks := [2, 3, 4, 5, 6]) rfl (hk _)
    · refine V_aload_n (i := 3) dL_law_2085 rfl rfl ?_
      refine V_iconst (v := 0) dL_law_2086 (by decide) ?_
      refine D3_lld hc3 dL_law_2087 ?_
      refine V_iload (i := 6) dL_law_2088 rfl ?_
      refine V_i2l dL_law_2090 rfl ?_
      refine V_lcmp dL_law_2091 ?_
      refine D_if_eq (tgt := 2097) h dL_law_2092 rfl (fun b8 h => ?_) (fun b8 h => ?_)
      · refine V_goto (tgt := 3490) dL_law_2097 rfl ?_
        obtain rfl := Option.some.inj h
        refine V_spare (k2 := k) (n2 := n) (by omega) (by omega) ?_
        exact V_sub (ks := [2, 3, 4, 5, 6]) rfl (hk _)
      · refine V_iconst (v := 0) dL_law_2095 (by decide) ?_
        cases h
  · refine V_iconst (v := 0) dL_law_2078 (by decide) ?_
    cases h
noncomputable def fc_35 (L : Nat) (s : Nat → Int32) (x4 : Int32) (W : Nat → Nat → Int32) : Option (Nat → Nat → Int32) :=
  gd (inr (x4 + (1 : Int32)) L) (bd2 (f_L_transfers W (s (ix (x4 + (1 : Int32))))) (fun v2 W1 => gd (inr (x4 + (1 : Int32)) L) (bd2 (f_X10_transfers W1 (s (ix (x4 + (1 : Int32))))) (fun v4 W3 => bdc (f_X10_thrown W3) (fun v5 => if v5 = v2 then if v2 = 0 then if (lg_cmp (W3 31 0).toInt64 (v4).toInt64) = 0 then some W3 else none else some W3 else none)))))
theorem ec_35 {G : GT} {f b c : Nat} {M : MM} {hi k n : Nat} {x4 : Int32} {W r : Nat → Nat → Int32} (hf : 14 ≤ f) (hc3 : 620 ≤ c) (hk : ∀ hi, V G f (Ex G f) mL_law PL 3490 [(0, .ref G.1), (1, .ref b), (2, .ref (b + 609)), (3, .ref (b + 619)), (4, .int x4)] [] (MEM b c r M) hi k n) (h : fc_35 G.2.1 G.2.2.1 x4 W = some r) : V G f (Ex G f) mL_law PL 2100 [(0, .ref G.1), (1, .ref b), (2, .ref (b + 609)), (3, .ref (b + 619)), (4, .int x4)] [] (MEM b c W M) hi (k + 4) (n + 24) := by
  have hc1 : 609 ≤ c := Nat.le_trans (Nat.le_of_ble_eq_true rfl) hc3
  have hc2 : 619 ≤ c := Nat.le_trans (Nat.le_of_ble_eq_true rfl) hc3
  unfold fc_35 at h
  refine V_spare (k2 := k + 1) (n2 := n + 6) (Nat.add_le_add_left (Nat.le_of_ble_eq_true rfl) _) (Nat.add_le_add_left (Nat.le_of_ble_eq_true rfl) _) ?_
  refine V_aload_n (i := 1) dL_law_2100 rfl rfl ?_
  refine V_aload_n (i := 0) dL_law_2101 rfl rfl ?_
  refine V_iload (i := 4) dL_law_2102 rfl ?_
  refine V_iconst (v := 1) dL_law_2104 (by decide) ?_
  refine V_iadd dL_law_2105 ?_
  refine D_sld h dL_law_2106 fun h => ?_
  refine V_aload_n (i := 3) dL_law_2107 rfl rfl ?_
  refine D_cSXIW (As := [_, _, _]) (μ := fun W1 => (MEM b c W1 M)) (k2 := 1) (n2 := 6) h dL_law_2108 cx_L_291 rfl rfl (Nat.le_of_ble_eq_true rfl) (fun x y hx => e_L_transfers (Nat.le_trans (Nat.le_of_ble_eq_true rfl) hf) hc3 hx) fun v2 W1 hi h => ?_
  refine V_istore (i := 5) dL_law_2111 (Nat.le_of_ble_eq_true rfl) ?_
  refine V_aload_n (i := 2) dL_law_2113 rfl rfl ?_
  refine V_aload_n (i := 0) dL_law_2114 rfl rfl ?_
  refine V_iload (i := 4) dL_law_2115 rfl ?_
  refine V_iconst (v := 1) dL_law_2117 (by decide) ?_
  refine V_iadd dL_law_2118 ?_
  refine D_sld h dL_law_2119 fun h => ?_
  refine D_cVIW (As := [_]) (μ := fun W3 => (MEM b c W3 M)) h dL_law_2120 cv_L_293 rfl ⟨_, _, _, (mem_30 hc2), rfl, rfl⟩ rfl (Nat.le_of_ble_eq_true rfl) (fun x y hx => e_X10_transfers (Nat.le_trans (Nat.le_of_ble_eq_true rfl) hf) hc2 hx) fun v4 W3 h => ?_
  refine V_istore (i := 6) dL_law_2123 (Nat.le_of_ble_eq_true rfl) ?_
  refine V_aload_n (i := 2) dL_law_2125 rfl rfl ?_
  refine D_cVI (As := []) h dL_law_2126 cv_L_176 rfl ⟨_, _, _, (mem_30 hc2), rfl, rfl⟩ rfl (Nat.le_of_ble_eq_true rfl) (fun x hx => e_X10_thrown (Nat.le_trans (Nat.le_of_ble_eq_true rfl) hf) hc2 hx) fun v5 h => ?_
  refine V_iload (i := 5) dL_law_2129 rfl ?_
  refine D_icmp_eq (tgt := 2136) h dL_law_2131 rfl (fun b6 h => ?_) (fun b6 h => ?_)
  · refine V_iload (i := 5) dL_law_2136 rfl ?_
    refine D_if_ne (tgt := 2153) h dL_law_2138 rfl (fun b7 h => ?_) (fun b7 h => ?_)
    · refine V_goto (tgt := 3490) dL_law_2153 rfl ?_
      obtain rfl := Option.some.inj h
      refine V_spare (k2 := k) (n2 := n) (by omega) (by omega) ?_
      exact V_sub (ks := [2, 3, 4, 5, 6]) rfl (hk _)
    · refine V_aload_n (i := 3) dL_law_2141 rfl rfl ?_
      refine V_iconst (v := 0) dL_law_2142 (by decide) ?_
      refine D3_lld hc3 dL_law_2143 ?_
      refine V_iload (i := 6) dL_law_2144 rfl ?_
      refine V_i2l dL_law_2146 rfl ?_
      refine V_lcmp dL_law_2147 ?_
      refine D_if_eq (tgt := 2153) h dL_law_2148 rfl (fun b8 h => ?_) (fun b8 h => ?_)
      · refine V_goto (tgt := 3490) dL_law_2153 rfl ?_
        obtain rfl := Option.some.inj h
        refine V_spare (k2 := k) (n2 := n) (by omega) (by omega) ?_
        exact V_sub (ks := [2, 3, 4, 5, 6]) rfl (hk _)
      · refine V_iconst (v := 0) dL_law_2151 (by decide) ?_
        cases h
  · refine V_iconst (v := 0) dL_law_2134 (by decide) ?_
    cases h
noncomputable def fc_36 (L : Nat) (s : Nat → Int32) (x4 : Int32) (W : Nat → Nat → Int32) : Option (Nat → Nat → Int32) :=
  gd (inr (x4 + (1 : Int32)) L) (bd2 (f_L_isHeld W (s (ix (x4 + (1 : Int32))))) (fun v2 W1 => gd (inr (x4 + (1 : Int32)) L) (bd2 (f_X10_isHeld W1 (s (ix (x4 + (1 : Int32))))) (fun v4 W3 => bdc (f_X10_thrown W3) (fun v5 => if v5 = v2 then if v2 = 0 then if v4 = 0 then if (lg_cmp (W3 31 0).toInt64 ((0 : Int32)).toInt64) = 0 then some W3 else none else if (lg_cmp (W3 31 0).toInt64 ((1 : Int32)).toInt64) = 0 then some W3 else none else some W3 else none)))))
theorem ec_36 {G : GT} {f b c : Nat} {M : MM} {hi k n : Nat} {x4 : Int32} {W r : Nat → Nat → Int32} (hf : 14 ≤ f) (hc3 : 620 ≤ c) (hk : ∀ hi, V G f (Ex G f) mL_law PL 3490 [(0, .ref G.1), (1, .ref b), (2, .ref (b + 609)), (3, .ref (b + 619)), (4, .int x4)] [] (MEM b c r M) hi k n) (h : fc_36 G.2.1 G.2.2.1 x4 W = some r) : V G f (Ex G f) mL_law PL 2156 [(0, .ref G.1), (1, .ref b), (2, .ref (b + 609)), (3, .ref (b + 619)), (4, .int x4)] [] (MEM b c W M) hi (k + 4) (n + 24) := by
  have hc1 : 609 ≤ c := Nat.le_trans (Nat.le_of_ble_eq_true rfl) hc3
  have hc2 : 619 ≤ c := Nat.le_trans (Nat.le_of_ble_eq_true rfl) hc3
  unfold fc_36 at h
  refine V_spare (k2 := k + 1) (n2 := n + 6) (Nat.add_le_add_left (Nat.le_of_ble_eq_true rfl) _) (Nat.add_le_add_left (Nat.le_of_ble_eq_true rfl) _) ?_
  refine V_aload_n (i := 1) dL_law_2156 rfl rfl ?_
  refine V_aload_n (i := 0) dL_law_2157 rfl rfl ?_
  refine V_iload (i := 4) dL_law_2158 rfl ?_
  refine V_iconst (v := 1) dL_law_2160 (by decide) ?_
  refine V_iadd dL_law_2161 ?_
  refine D_sld h dL_law_2162 fun h => ?_
  refine V_aload_n (i := 3) dL_law_2163 rfl rfl ?_
  refine D_cSXIW (As := [_, _, _]) (μ := fun W1 => (MEM b c W1 M)) (k2 := 1) (n2 := 6) h dL_law_2164 cx_L_294 rfl rfl (Nat.le_of_ble_eq_true rfl) (fun x y hx => e_L_isHeld (Nat.le_trans (Nat.le_of_ble_eq_true rfl) hf) hc3 hx) fun v2 W1 hi h => ?_
  refine V_istore (i := 5) dL_law_2167 (Nat.le_of_ble_eq_true rfl) ?_
  refine V_aload_n (i := 2) dL_law_2169 rfl rfl ?_
  refine V_aload_n (i := 0) dL_law_2170 rfl rfl ?_
  refine V_iload (i := 4) dL_law_2171 rfl ?_
  refine V_iconst (v := 1) dL_law_2173 (by decide) ?_
  refine V_iadd dL_law_2174 ?_
  refine D_sld h dL_law_2175 fun h => ?_
  refine D_cVIW (As := [_]) (μ := fun W3 => (MEM b c W3 M)) h dL_law_2176 cv_L_296 rfl ⟨_, _, _, (mem_30 hc2), rfl, rfl⟩ rfl (Nat.le_of_ble_eq_true rfl) (fun x y hx => e_X10_isHeld (Nat.le_trans (Nat.le_of_ble_eq_true rfl) hf) hc2 hx) fun v4 W3 h => ?_
  refine V_istore (i := 6) dL_law_2179 (Nat.le_of_ble_eq_true rfl) ?_
  refine V_aload_n (i := 2) dL_law_2181 rfl rfl ?_
  refine D_cVI (As := []) h dL_law_2182 cv_L_176 rfl ⟨_, _, _, (mem_30 hc2), rfl, rfl⟩ rfl (Nat.le_of_ble_eq_true rfl) (fun x hx => e_X10_thrown (Nat.le_trans (Nat.le_of_ble_eq_true rfl) hf) hc2 hx) fun v5 h => ?_
  refine V_iload (i := 5) dL_law_2185 rfl ?_
  refine D_icmp_eq (tgt := 2192) h dL_law_2187 rfl (fun b6 h => ?_) (fun b6 h => ?_)
  · refine V_iload (i := 5) dL_law_2192 rfl ?_
    refine D_if_ne (tgt := 2216) h dL_law_2194 rfl (fun b7 h => ?_) (fun b7 h => ?_)
    · refine V_goto (tgt := 3490) dL_law_2216 rfl ?_
      obtain rfl := Option.some.inj h
      refine V_spare (k2 := k) (n2 := n) (by omega) (by omega) ?_
      exact V_sub (ks := [2, 3, 4, 5, 6]) rfl (hk _)
    · refine V_aload_n (i := 3) dL_law_2197 rfl rfl ?_
      refine V_iconst (v := 0) dL_law_2198 (by decide) ?_
      refine D3_lld hc3 dL_law_2199 ?_
      refine V_iload (i := 6) dL_law_2200 rfl ?_
      refine D_if_eq (tgt := 2209) h dL_law_2202 rfl (fun b8 h => ?_) (fun b8 h => ?_)
      · refine V_lconst (v := (0 : Int32).toInt64) dL_law_2209 (by decide) ?_
        refine V_lcmp dL_law_2210 ?_
        refine D_if_eq (tgt := 2216) h dL_law_2211 rfl (fun b9 h => ?_) (fun b9 h => ?_)
        · refine V_goto (tgt := 3490) dL_law_2216 rfl ?_
          obtain rfl := Option.some.inj h
          refine V_spare (k2 := k) (n2 := n) (by omega) (by omega) ?_
          exact V_sub (ks := [2, 3, 4, 5, 6]) rfl (hk _)
        · refine V_iconst (v := 0) dL_law_2214 (by decide) ?_
          cases h
      · refine V_lconst (v := (1 : Int32).toInt64) dL_law_2205 (by decide) ?_
        refine V_goto (tgt := 2210) dL_law_2206 rfl ?_
        refine V_lcmp dL_law_2210 ?_
        refine D_if_eq (tgt := 2216) h dL_law_2211 rfl (fun b10 h => ?_) (fun b10 h => ?_)
        · refine V_goto (tgt := 3490) dL_law_2216 rfl ?_
          obtain rfl := Option.some.inj h
          refine V_spare (k2 := k) (n2 := n) (by omega) (by omega) ?_
          exact V_sub (ks := [2, 3, 4, 5, 6]) rfl (hk _)
        · refine V_iconst (v := 0) dL_law_2214 (by decide) ?_
          cases h
  · refine V_iconst (v := 0) dL_law_2190 (by decide) ?_
    cases h
noncomputable def fc_37 (L : Nat) (s : Nat → Int32) (x4 : Int32) (W : Nat → Nat → Int32) : Option (Nat → Nat → Int32) :=
  gd (inr (x4 + (1 : Int32)) L) (bd2 (f_L_deliveryClock W (s (ix (x4 + (1 : Int32))))) (fun v2 W1 => gd (inr (x4 + (1 : Int32)) L) (bd2 (f_X10_deliveryClock W1 (s (ix (x4 + (1 : Int32))))) (fun v4 W3 => bdc (f_X10_thrown W3) (fun v5 => if v5 = v2 then if v2 = 0 then if (lg_cmp (W3 31 0).toInt64 (v4).toInt64) = 0 then some W3 else none else some W3 else none)))))
theorem ec_37 {G : GT} {f b c : Nat} {M : MM} {hi k n : Nat} {x4 : Int32} {W r : Nat → Nat → Int32} (hf : 14 ≤ f) (hc3 : 620 ≤ c) (hk : ∀ hi, V G f (Ex G f) mL_law PL 3490 [(0, .ref G.1), (1, .ref b), (2, .ref (b + 609)), (3, .ref (b + 619)), (4, .int x4)] [] (MEM b c r M) hi k n) (h : fc_37 G.2.1 G.2.2.1 x4 W = some r) : V G f (Ex G f) mL_law PL 2219 [(0, .ref G.1), (1, .ref b), (2, .ref (b + 609)), (3, .ref (b + 619)), (4, .int x4)] [] (MEM b c W M) hi (k + 4) (n + 24) := by
  have hc1 : 609 ≤ c := Nat.le_trans (Nat.le_of_ble_eq_true rfl) hc3
  have hc2 : 619 ≤ c := Nat.le_trans (Nat.le_of_ble_eq_true rfl) hc3
  unfold fc_37 at h
  refine V_spare (k2 := k + 1) (n2 := n + 6) (Nat.add_le_add_left (Nat.le_of_ble_eq_true rfl) _) (Nat.add_le_add_left (Nat.le_of_ble_eq_true rfl) _) ?_
  refine V_aload_n (i := 1) dL_law_2219 rfl rfl ?_
  refine V_aload_n (i := 0) dL_law_2220 rfl rfl ?_
  refine V_iload (i := 4) dL_law_2221 rfl ?_
  refine V_iconst (v := 1) dL_law_2223 (by decide) ?_
  refine V_iadd dL_law_2224 ?_
  refine D_sld h dL_law_2225 fun h => ?_
  refine V_aload_n (i := 3) dL_law_2226 rfl rfl ?_
  refine D_cSXIW (As := [_, _, _]) (μ := fun W1 => (MEM b c W1 M)) (k2 := 1) (n2 := 6) h dL_law_2227 cx_L_297 rfl rfl (Nat.le_of_ble_eq_true rfl) (fun x y hx => e_L_deliveryClock (Nat.le_trans (Nat.le_of_ble_eq_true rfl) hf) hc3 hx) fun v2 W1 hi h => ?_
  refine V_istore (i := 5) dL_law_2230 (Nat.le_of_ble_eq_true rfl) ?_
  refine V_aload_n (i := 2) dL_law_2232 rfl rfl ?_
  refine V_aload_n (i := 0) dL_law_2233 rfl rfl ?_
  refine V_iload (i := 4) dL_law_2234 rfl ?_
  refine V_iconst (v := 1) dL_law_2236 (by decide) ?_
  refine V_iadd dL_law_2237 ?_
  refine D_sld h dL_law_2238 fun h => ?_
  refine D_cVIW (As := [_]) (μ := fun W3 => (MEM b c W3 M)) h dL_law_2239 cv_L_299 rfl ⟨_, _, _, (mem_30 hc2), rfl, rfl⟩ rfl (Nat.le_of_ble_eq_true rfl) (fun x y hx => e_X10_deliveryClock (Nat.le_trans (Nat.le_of_ble_eq_true rfl) hf) hc2 hx) fun v4 W3 h => ?_
  refine V_istore (i := 6) dL_law_2242 (Nat.le_of_ble_eq_true rfl) ?_
  refine V_aload_n (i := 2) dL_law_2244 rfl rfl ?_
  refine D_cVI (As := []) h dL_law_2245 cv_L_176 rfl ⟨_, _, _, (mem_30 hc2), rfl, rfl⟩ rfl (Nat.le_of_ble_eq_true rfl) (fun x hx => e_X10_thrown (Nat.le_trans (Nat.le_of_ble_eq_true rfl) hf) hc2 hx) fun v5 h => ?_
  refine V_iload (i := 5) dL_law_2248 rfl ?_
  refine D_icmp_eq (tgt := 2255) h dL_law_2250 rfl (fun b6 h => ?_) (fun b6 h => ?_)
  · refine V_iload (i := 5) dL_law_2255 rfl ?_
    refine D_if_ne (tgt := 2272) h dL_law_2257 rfl (fun b7 h => ?_) (fun b7 h => ?_)
    · refine V_goto (tgt := 3490) dL_law_2272 rfl ?_
      obtain rfl := Option.some.inj h
      refine V_spare (k2 := k) (n2 := n) (by omega) (by omega) ?_
      exact V_sub (ks := [2, 3, 4, 5, 6]) rfl (hk _)
    · refine V_aload_n (i := 3) dL_law_2260 rfl rfl ?_
      refine V_iconst (v := 0) dL_law_2261 (by decide) ?_
      refine D3_lld hc3 dL_law_2262 ?_
      refine V_iload (i := 6) dL_law_2263 rfl ?_
      refine V_i2l dL_law_2265 rfl ?_
      refine V_lcmp dL_law_2266 ?_
      refine D_if_eq (tgt := 2272) h dL_law_2267 rfl (fun b8 h => ?_) (fun b8 h => ?_)
      · refine V_goto (tgt := 3490) dL_law_2272 rfl ?_
        obtain rfl := Option.some.inj h
        refine V_spare (k2 := k) (n2 := n) (by omega) (by omega) ?_
        exact V_sub (ks := [2, 3, 4, 5, 6]) rfl (hk _)
      · refine V_iconst (v := 0) dL_law_2270 (by decide) ?_
        cases h
  · refine V_iconst (v := 0) dL_law_2253 (by decide) ?_
    cases h
noncomputable def fc_38 (L : Nat) (s : Nat → Int32) (x4 : Int32) (W : Nat → Nat → Int32) : Option (Nat → Nat → Int32) :=
  gd (inr (x4 + (1 : Int32)) L) (gd (inr (x4 + (2 : Int32)) L) (bd2 (f_L_loadingObstacle W (s (ix (x4 + (1 : Int32)))) (s (ix (x4 + (2 : Int32))))) (fun v2 W1 => gd (inr (x4 + (1 : Int32)) L) (gd (inr (x4 + (2 : Int32)) L) (bd2 (f_X10_loadingObstacle W1 (s (ix (x4 + (1 : Int32)))) (s (ix (x4 + (2 : Int32))))) (fun v4 W3 => bdc (f_X10_thrown W3) (fun v5 => if v5 = v2 then if v2 = 0 then if (lg_cmp (W3 31 0).toInt64 (v4).toInt64) = 0 then some W3 else none else some W3 else none)))))))
theorem ec_38 {G : GT} {f b c : Nat} {M : MM} {hi k n : Nat} {x4 : Int32} {W r : Nat → Nat → Int32} (hf : 14 ≤ f) (hc3 : 620 ≤ c) (hk : ∀ hi, V G f (Ex G f) mL_law PL 3490 [(0, .ref G.1), (1, .ref b), (2, .ref (b + 609)), (3, .ref (b + 619)), (4, .int x4)] [] (MEM b c r M) hi k n) (h : fc_38 G.2.1 G.2.2.1 x4 W = some r) : V G f (Ex G f) mL_law PL 2275 [(0, .ref G.1), (1, .ref b), (2, .ref (b + 609)), (3, .ref (b + 619)), (4, .int x4)] [] (MEM b c W M) hi (k + 4) (n + 24) := by
  have hc1 : 609 ≤ c := Nat.le_trans (Nat.le_of_ble_eq_true rfl) hc3
  have hc2 : 619 ≤ c := Nat.le_trans (Nat.le_of_ble_eq_true rfl) hc3
  unfold fc_38 at h
  refine V_spare (k2 := k + 2) (n2 := n + 12) (Nat.add_le_add_left (Nat.le_of_ble_eq_true rfl) _) (Nat.add_le_add_left (Nat.le_of_ble_eq_true rfl) _) ?_
  refine V_aload_n (i := 1) dL_law_2275 rfl rfl ?_
  refine V_aload_n (i := 0) dL_law_2276 rfl rfl ?_
  refine V_iload (i := 4) dL_law_2277 rfl ?_
  refine V_iconst (v := 1) dL_law_2279 (by decide) ?_
  refine V_iadd dL_law_2280 ?_
  refine D_sld h dL_law_2281 fun h => ?_
  refine V_aload_n (i := 0) dL_law_2282 rfl rfl ?_
  refine V_iload (i := 4) dL_law_2283 rfl ?_
  refine V_iconst (v := 2) dL_law_2285 (by decide) ?_
  refine V_iadd dL_law_2286 ?_
  refine D_sld h dL_law_2287 fun h => ?_
  refine V_aload_n (i := 3) dL_law_2288 rfl rfl ?_
  refine D_cSXIW (As := [_, _, _, _]) (μ := fun W1 => (MEM b c W1 M)) (k2 := 2) (n2 := 12) h dL_law_2289 cx_L_300 rfl rfl (Nat.le_of_ble_eq_true rfl) (fun x y hx => e_L_loadingObstacle (Nat.le_trans (Nat.le_of_ble_eq_true rfl) hf) hc3 hx) fun v2 W1 hi h => ?_
  refine V_istore (i := 5) dL_law_2292 (Nat.le_of_ble_eq_true rfl) ?_
  refine V_aload_n (i := 2) dL_law_2294 rfl rfl ?_
  refine V_aload_n (i := 0) dL_law_2295 rfl rfl ?_
  refine V_iload (i := 4) dL_law_2296 rfl ?_
  refine V_iconst (v := 1) dL_law_2298 (by decide) ?_
  refine V_iadd dL_law_2299 ?_
  refine D_sld h dL_law_2300 fun h => ?_
  refine V_aload_n (i := 0) dL_law_2301 rfl rfl ?_
  refine V_iload (i := 4) dL_law_2302 rfl ?_
  refine V_iconst (v := 2) dL_law_2304 (by decide) ?_
  refine V_iadd dL_law_2305 ?_
  refine D_sld h dL_law_2306 fun h => ?_
  refine D_cVIW (As := [_, _]) (μ := fun W3 => (MEM b c W3 M)) h dL_law_2307 cv_L_302 rfl ⟨_, _, _, (mem_30 hc2), rfl, rfl⟩ rfl (Nat.le_of_ble_eq_true rfl) (fun x y hx => e_X10_loadingObstacle (Nat.le_trans (Nat.le_of_ble_eq_true rfl) hf) hc2 hx) fun v4 W3 h => ?_
  refine V_istore (i := 6) dL_law_2310 (Nat.le_of_ble_eq_true rfl) ?_
  refine V_aload_n (i := 2) dL_law_2312 rfl rfl ?_
  refine D_cVI (As := []) h dL_law_2313 cv_L_176 rfl ⟨_, _, _, (mem_30 hc2), rfl, rfl⟩ rfl (Nat.le_of_ble_eq_true rfl) (fun x hx => e_X10_thrown (Nat.le_trans (Nat.le_of_ble_eq_true rfl) hf) hc2 hx) fun v5 h => ?_
  refine V_iload (i := 5) dL_law_2316 rfl ?_
  refine D_icmp_eq (tgt := 2323) h dL_law_2318 rfl (fun b6 h => ?_) (fun b6 h => ?_)
  · refine V_iload (i := 5) dL_law_2323 rfl ?_
    refine D_if_ne (tgt := 2340) h dL_law_2325 rfl (fun b7 h => ?_) (fun b7 h => ?_)
    · refine V_goto (tgt := 3490) dL_law_2340 rfl ?_
      obtain rfl := Option.some.inj h
      refine V_spare (k2 := k) (n2 := n) (by omega) (by omega) ?_
      exact V_sub (ks := [2, 3, 4, 5, 6]) rfl (hk _)
    · refine V_aload_n (i := 3) dL_law_2328 rfl rfl ?_
      refine V_iconst (v := 0) dL_law_2329 (by decide) ?_
      refine D3_lld hc3 dL_law_2330 ?_
      refine V_iload (i := 6) dL_law_2331 rfl ?_
      refine V_i2l dL_law_2333 rfl ?_
      refine V_lcmp dL_law_2334 ?_
      refine D_if_eq (tgt := 2340) h dL_law_2335 rfl (fun b8 h => ?_) (fun b8 h => ?_)
      · refine V_goto (tgt := 3490) dL_law_2340 rfl ?_
        obtain rfl := Option.some.inj h
        refine V_spare (k2 := k) (n2 := n) (by omega) (by omega) ?_
        exact V_sub (ks := [2, 3, 4, 5, 6]) rfl (hk _)
      · refine V_iconst (v := 0) dL_law_2338 (by decide) ?_
        cases h
  · refine V_iconst (v := 0) dL_law_2321 (by decide) ?_
    cases h
noncomputable def fc_39 (L : Nat) (s : Nat → Int32) (x4 : Int32) (W : Nat → Nat → Int32) : Option (Nat → Nat → Int32) :=
  bdc (f_X9_deliveredCount W) (fun v1 => bd2 (f_X10_deliveredCount W) (fun v3 W2 => if v1 = v3 then some W2 else none))
theorem ec_39 {G : GT} {f b c : Nat} {M : MM} {hi k n : Nat} {x4 : Int32} {W r : Nat → Nat → Int32} (hf : 14 ≤ f) (hc3 : 620 ≤ c) (hk : ∀ hi, V G f (Ex G f) mL_law PL 3490 [(0, .ref G.1), (1, .ref b), (2, .ref (b + 609)), (3, .ref (b + 619)), (4, .int x4)] [] (MEM b c r M) hi k n) (h : fc_39 G.2.1 G.2.2.1 x4 W = some r) : V G f (Ex G f) mL_law PL 2343 [(0, .ref G.1), (1, .ref b), (2, .ref (b + 609)), (3, .ref (b + 619)), (4, .int x4)] [] (MEM b c W M) hi (k + 4) (n + 24) := by
  have hc1 : 609 ≤ c := Nat.le_trans (Nat.le_of_ble_eq_true rfl) hc3
  have hc2 : 619 ≤ c := Nat.le_trans (Nat.le_of_ble_eq_true rfl) hc3
  unfold fc_39 at h
  refine V_spare (k2 := k + 0) (n2 := n + 0) (Nat.add_le_add_left (Nat.le_of_ble_eq_true rfl) _) (Nat.add_le_add_left (Nat.le_of_ble_eq_true rfl) _) ?_
  refine V_aload_n (i := 1) dL_law_2343 rfl rfl ?_
  refine D_cVI (As := []) h dL_law_2344 cv_L_303 rfl ⟨_, _, _, (mem_x9 hc1), rfl, rfl⟩ rfl (Nat.le_of_ble_eq_true rfl) (fun x hx => e_X9_deliveredCount (Nat.le_trans (Nat.le_of_ble_eq_true rfl) hf) hc1 hx) fun v1 h => ?_
  refine V_aload_n (i := 2) dL_law_2347 rfl rfl ?_
  refine D_cVIW (As := []) (μ := fun W2 => (MEM b c W2 M)) h dL_law_2348 cv_L_306 rfl ⟨_, _, _, (mem_30 hc2), rfl, rfl⟩ rfl (Nat.le_of_ble_eq_true rfl) (fun x y hx => e_X10_deliveredCount (Nat.le_trans (Nat.le_of_ble_eq_true rfl) hf) hc2 hx) fun v3 W2 h => ?_
  refine D_icmp_eq (tgt := 3490) h dL_law_2351 rfl (fun b4 h => ?_) (fun b4 h => ?_)
  · obtain rfl := Option.some.inj h
    refine V_spare (k2 := k) (n2 := n) (by omega) (by omega) ?_
    exact V_sub (ks := [0, 1, 2, 3, 4]) rfl (hk _)
  · refine V_iconst (v := 0) dL_law_2354 (by decide) ?_
    cases h
noncomputable def fc_40 (L : Nat) (s : Nat → Int32) (x4 : Int32) (W : Nat → Nat → Int32) : Option (Nat → Nat → Int32) :=
  bdc (f_X9_parcelBalance W) (fun v1 => bd2 (f_X10_parcelBalance W) (fun v3 W2 => if v1 = v3 then some W2 else none))
theorem ec_40 {G : GT} {f b c : Nat} {M : MM} {hi k n : Nat} {x4 : Int32} {W r : Nat → Nat → Int32} (hf : 14 ≤ f) (hc3 : 620 ≤ c) (hk : ∀ hi, V G f (Ex G f) mL_law PL 3490 [(0, .ref G.1), (1, .ref b), (2, .ref (b + 609)), (3, .ref (b + 619)), (4, .int x4)] [] (MEM b c r M) hi k n) (h : fc_40 G.2.1 G.2.2.1 x4 W = some r) : V G f (Ex G f) mL_law PL 2356 [(0, .ref G.1), (1, .ref b), (2, .ref (b + 609)), (3, .ref (b + 619)), (4, .int x4)] [] (MEM b c W M) hi (k + 4) (n + 24) := by
  have hc1 : 609 ≤ c := Nat.le_trans (Nat.le_of_ble_eq_true rfl) hc3
  have hc2 : 619 ≤ c := Nat.le_trans (Nat.le_of_ble_eq_true rfl) hc3
  unfold fc_40 at h
  refine V_spare (k2 := k + 0) (n2 := n + 0) (Nat.add_le_add_left (Nat.le_of_ble_eq_true rfl) _) (Nat.add_le_add_left (Nat.le_of_ble_eq_true rfl) _) ?_
  refine V_aload_n (i := 1) dL_law_2356 rfl rfl ?_
  refine D_cVI (As := []) h dL_law_2357 cv_L_307 rfl ⟨_, _, _, (mem_x9 hc1), rfl, rfl⟩ rfl (Nat.le_of_ble_eq_true rfl) (fun x hx => e_X9_parcelBalance (Nat.le_trans (Nat.le_of_ble_eq_true rfl) hf) hc1 hx) fun v1 h => ?_
  refine V_aload_n (i := 2) dL_law_2360 rfl rfl ?_
  refine D_cVIW (As := []) (μ := fun W2 => (MEM b c W2 M)) h dL_law_2361 cv_L_310 rfl ⟨_, _, _, (mem_30 hc2), rfl, rfl⟩ rfl (Nat.le_of_ble_eq_true rfl) (fun x y hx => e_X10_parcelBalance (Nat.le_trans (Nat.le_of_ble_eq_true rfl) hf) hc2 hx) fun v3 W2 h => ?_
  refine D_icmp_eq (tgt := 3490) h dL_law_2364 rfl (fun b4 h => ?_) (fun b4 h => ?_)
  · obtain rfl := Option.some.inj h
    refine V_spare (k2 := k) (n2 := n) (by omega) (by omega) ?_
    exact V_sub (ks := [0, 1, 2, 3, 4]) rfl (hk _)
  · refine V_iconst (v := 0) dL_law_2367 (by decide) ?_
    cases h
noncomputable def fc_41 (L : Nat) (s : Nat → Int32) (x4 : Int32) (W : Nat → Nat → Int32) : Option (Nat → Nat → Int32) :=
  bdc (f_X9_loadingBalance W) (fun v1 => bd2 (f_X10_loadingBalance W) (fun v3 W2 => if v1 = v3 then some W2 else none))
theorem ec_41 {G : GT} {f b c : Nat} {M : MM} {hi k n : Nat} {x4 : Int32} {W r : Nat → Nat → Int32} (hf : 14 ≤ f) (hc3 : 620 ≤ c) (hk : ∀ hi, V G f (Ex G f) mL_law PL 3490 [(0, .ref G.1), (1, .ref b), (2, .ref (b + 609)), (3, .ref (b + 619)), (4, .int x4)] [] (MEM b c r M) hi k n) (h : fc_41 G.2.1 G.2.2.1 x4 W = some r) : V G f (Ex G f) mL_law PL 2369 [(0, .ref G.1), (1, .ref b), (2, .ref (b + 609)), (3, .ref (b + 619)), (4, .int x4)] [] (MEM b c W M) hi (k + 4) (n + 24) := by
  have hc1 : 609 ≤ c := Nat.le_trans (Nat.le_of_ble_eq_true rfl) hc3
  have hc2 : 619 ≤ c := Nat.le_trans (Nat.le_of_ble_eq_true rfl) hc3
  unfold fc_41 at h
  refine V_spare (k2 := k + 0) (n2 := n + 0) (Nat.add_le_add_left (Nat.le_of_ble_eq_true rfl) _) (Nat.add_le_add_left (Nat.le_of_ble_eq_true rfl) _) ?_
  refine V_aload_n (i := 1) dL_law_2369 rfl rfl ?_
  refine D_cVI (As := []) h dL_law_2370 cv_L_311 rfl ⟨_, _, _, (mem_x9 hc1), rfl, rfl⟩ rfl (Nat.le_of_ble_eq_true rfl) (fun x hx => e_X9_loadingBalance (Nat.le_trans (Nat.le_of_ble_eq_true rfl) hf) hc1 hx) fun v1 h => ?_
  refine V_aload_n (i := 2) dL_law_2373 rfl rfl ?_
  refine D_cVIW (As := []) (μ := fun W2 => (MEM b c W2 M)) h dL_law_2374 cv_L_314 rfl ⟨_, _, _, (mem_30 hc2), rfl, rfl⟩ rfl (Nat.le_of_ble_eq_true rfl) (fun x y hx => e_X10_loadingBalance (Nat.le_trans (Nat.le_of_ble_eq_true rfl) hf) hc2 hx) fun v3 W2 h => ?_
  refine D_icmp_eq (tgt := 3490) h dL_law_2377 rfl (fun b4 h => ?_) (fun b4 h => ?_)
  · obtain rfl := Option.some.inj h
    refine V_spare (k2 := k) (n2 := n) (by omega) (by omega) ?_
    exact V_sub (ks := [0, 1, 2, 3, 4]) rfl (hk _)
  · refine V_iconst (v := 0) dL_law_2380 (by decide) ?_
    cases h
noncomputable def fc_42 (L : Nat) (s : Nat → Int32) (x4 : Int32) (W : Nat → Nat → Int32) : Option (Nat → Nat → Int32) :=
  bdc (f_X9_meanDeliveryClock W) (fun v1 => bd2 (f_X10_meanDeliveryClock W) (fun v3 W2 => if (Op.cmpValue (FP.dcmp v1 v3) .l) = 0 then some W2 else if (Op.cmpValue (FP.dcmp v1 v1) .l) = 0 then none else if (Op.cmpValue (FP.dcmp v3 v3) .l) = 0 then none else some W2))
theorem ec_42 {G : GT} {f b c : Nat} {M : MM} {hi k n : Nat} {x4 : Int32} {W r : Nat → Nat → Int32} (hf : 14 ≤ f) (hc3 : 620 ≤ c) (hk : ∀ hi, V G f (Ex G f) mL_law PL 3490 [(0, .ref G.1), (1, .ref b), (2, .ref (b + 609)), (3, .ref (b + 619)), (4, .int x4)] [] (MEM b c r M) hi k n) (h : fc_42 G.2.1 G.2.2.1 x4 W = some r) : V G f (Ex G f) mL_law PL 2382 [(0, .ref G.1), (1, .ref b), (2, .ref (b + 609)), (3, .ref (b + 619)), (4, .int x4)] [] (MEM b c W M) hi (k + 4) (n + 24) := by
  have hc1 : 609 ≤ c := Nat.le_trans (Nat.le_of_ble_eq_true rfl) hc3
  have hc2 : 619 ≤ c := Nat.le_trans (Nat.le_of_ble_eq_true rfl) hc3
  unfold fc_42 at h
  refine V_spare (k2 := k + 0) (n2 := n + 0) (Nat.add_le_add_left (Nat.le_of_ble_eq_true rfl) _) (Nat.add_le_add_left (Nat.le_of_ble_eq_true rfl) _) ?_
  refine V_aload_n (i := 1) dL_law_2382 rfl rfl ?_
  refine D_cVD (As := []) h dL_law_2383 cv_L_315 rfl ⟨_, _, _, (mem_x9 hc1), rfl, rfl⟩ rfl (Nat.le_of_ble_eq_true rfl) (fun x hx => e_X9_meanDeliveryClock (Nat.le_trans (Nat.le_of_ble_eq_true rfl) hf) hc1 hx) fun v1 h => ?_
  refine V_dstore (i := 5) dL_law_2386 (Nat.le_of_ble_eq_true rfl) ?_
  refine V_aload_n (i := 2) dL_law_2388 rfl rfl ?_
  refine D_cVDW (As := []) (μ := fun W2 => (MEM b c W2 M)) h dL_law_2389 cv_L_319 rfl ⟨_, _, _, (mem_30 hc2), rfl, rfl⟩ rfl (Nat.le_of_ble_eq_true rfl) (fun x y hx => e_X10_meanDeliveryClock (Nat.le_trans (Nat.le_of_ble_eq_true rfl) hf) hc2 hx) fun v3 W2 h => ?_
  refine V_dstore (i := 7) dL_law_2392 (Nat.le_of_ble_eq_true rfl) ?_
  refine V_dload (i := 5) dL_law_2394 rfl ?_
  refine V_dload (i := 7) dL_law_2396 rfl ?_
  refine V_dcmp dL_law_2398 ?_
  refine D_if_eq (tgt := 2420) h dL_law_2399 rfl (fun b4 h => ?_) (fun b4 h => ?_)
  · refine V_goto (tgt := 3490) dL_law_2420 rfl ?_
    obtain rfl := Option.some.inj h
    refine V_spare (k2 := k) (n2 := n) (by omega) (by omega) ?_
    exact V_sub (ks := [2, 3, 4, 5, 6]) rfl (hk _)
  · refine V_dload (i := 5) dL_law_2402 rfl ?_
    refine V_dload (i := 5) dL_law_2404 rfl ?_
    refine V_dcmp dL_law_2406 ?_
    refine D_if_eq (tgt := 2418) h dL_law_2407 rfl (fun b5 h => ?_) (fun b5 h => ?_)
    · refine V_iconst (v := 0) dL_law_2418 (by decide) ?_
      cases h
    · refine V_dload (i := 7) dL_law_2410 rfl ?_
      refine V_dload (i := 7) dL_law_2412 rfl ?_
      refine V_dcmp dL_law_2414 ?_
      refine D_if_ne (tgt := 2420) h dL_law_2415 rfl (fun b6 h => ?_) (fun b6 h => ?_)
      · refine V_goto (tgt := 3490) dL_law_2420 rfl ?_
        obtain rfl := Option.some.inj h
        refine V_spare (k2 := k) (n2 := n) (by omega) (by omega) ?_
        exact V_sub (ks := [2, 3, 4, 5, 6]) rfl (hk _)
      · refine V_iconst (v := 0) dL_law_2418 (by decide) ?_
        cases h
noncomputable def fc_43 (L : Nat) (s : Nat → Int32) (x4 : Int32) (W : Nat → Nat → Int32) : Option (Nat → Nat → Int32) :=
  bdc (f_X9_deliveredShare W) (fun v1 => gdp (vf_n64 (FP.f2d v1)) (bd2 (f_X10_deliveredShare W) (fun v4 W3 => gdp (vf_n64 (FP.f2d v4)) (if (Op.cmpValue (FP.dcmp (FP.f2d v1) (FP.f2d v4)) .l) = 0 then some W3 else if (Op.cmpValue (FP.dcmp (FP.f2d v1) (FP.f2d v1)) .l) = 0 then none else if (Op.cmpValue (FP.dcmp (FP.f2d v4) (FP.f2d v4)) .l) = 0 then none else some W3))))
theorem ec_43 {G : GT} {f b c : Nat} {M : MM} {hi k n : Nat} {x4 : Int32} {W r : Nat → Nat → Int32} (hf : 14 ≤ f) (hc3 : 620 ≤ c) (hk : ∀ hi, V G f (Ex G f) mL_law PL 3490 [(0, .ref G.1), (1, .ref b), (2, .ref (b + 609)), (3, .ref (b + 619)), (4, .int x4)] [] (MEM b c r M) hi k n) (h : fc_43 G.2.1 G.2.2.1 x4 W = some r) : V G f (Ex G f) mL_law PL 2423 [(0, .ref G.1), (1, .ref b), (2, .ref (b + 609)), (3, .ref (b + 619)), (4, .int x4)] [] (MEM b c W M) hi (k + 4) (n + 24) := by
  have hc1 : 609 ≤ c := Nat.le_trans (Nat.le_of_ble_eq_true rfl) hc3
  have hc2 : 619 ≤ c := Nat.le_trans (Nat.le_of_ble_eq_true rfl) hc3
  unfold fc_43 at h
  refine V_spare (k2 := k + 0) (n2 := n + 0) (Nat.add_le_add_left (Nat.le_of_ble_eq_true rfl) _) (Nat.add_le_add_left (Nat.le_of_ble_eq_true rfl) _) ?_
  refine V_aload_n (i := 1) dL_law_2423 rfl rfl ?_
  refine D_cVF (As := []) h dL_law_2424 cv_L_320 rfl ⟨_, _, _, (mem_x9 hc1), rfl, rfl⟩ rfl (Nat.le_of_ble_eq_true rfl) (fun x hx => e_X9_deliveredShare (Nat.le_trans (Nat.le_of_ble_eq_true rfl) hf) hc1 hx) fun v1 h => ?_
  refine D_gdp h fun g2 h => ?_
  refine V_f2d dL_law_2427 g2 ?_
  refine V_dstore (i := 5) dL_law_2428 (Nat.le_of_ble_eq_true rfl) ?_
  refine V_aload_n (i := 2) dL_law_2430 rfl rfl ?_
  refine D_cVFW (As := []) (μ := fun W3 => (MEM b c W3 M)) h dL_law_2431 cv_L_324 rfl ⟨_, _, _, (mem_30 hc2), rfl, rfl⟩ rfl (Nat.le_of_ble_eq_true rfl) (fun x y hx => e_X10_deliveredShare (Nat.le_trans (Nat.le_of_ble_eq_true rfl) hf) hc2 hx) fun v4 W3 h => ?_
  refine D_gdp h fun g5 h => ?_
  refine V_f2d dL_law_2434 g5 ?_
  refine V_dstore (i := 7) dL_law_2435 (Nat.le_of_ble_eq_true rfl) ?_
  refine V_dload (i := 5) dL_law_2437 rfl ?_
  refine V_dload (i := 7) dL_law_2439 rfl ?_
  refine V_dcmp dL_law_2441 ?_
  refine D_if_eq (tgt := 2463) h dL_law_2442 rfl (fun b6 h => ?_) (fun b6 h => ?_)
  · refine V_goto (tgt := 3490) dL_law_2463 rfl ?_
    obtain rfl := Option.some.inj h
    refine V_spare (k2 := k) (n2 := n) (by omega) (by omega) ?_
    exact V_sub (ks := [2, 3, 4, 5, 6]) rfl (hk _)
  · refine V_dload (i := 5) dL_law_2445 rfl ?_
    refine V_dload (i := 5) dL_law_2447 rfl ?_
    refine V_dcmp dL_law_2449 ?_
    refine D_if_eq (tgt := 2461) h dL_law_2450 rfl (fun b7 h => ?_) (fun b7 h => ?_)
    · refine V_iconst (v := 0) dL_law_2461 (by decide) ?_
      cases h
    · refine V_dload (i := 7) dL_law_2453 rfl ?_
      refine V_dload (i := 7) dL_law_2455 rfl ?_
      refine V_dcmp dL_law_2457 ?_
      refine D_if_ne (tgt := 2463) h dL_law_2458 rfl (fun b8 h => ?_) (fun b8 h => ?_)
      · refine V_goto (tgt := 3490) dL_law_2463 rfl ?_
        obtain rfl := Option.some.inj h
        refine V_spare (k2 := k) (n2 := n) (by omega) (by omega) ?_
        exact V_sub (ks := [2, 3, 4, 5, 6]) rfl (hk _)
      · refine V_iconst (v := 0) dL_law_2461 (by decide) ?_
        cases h
noncomputable def fc_44 (L : Nat) (s : Nat → Int32) (x4 : Int32) (W : Nat → Nat → Int32) : Option (Nat → Nat → Int32) :=
  gd (inr (x4 + (1 : Int32)) L) (bd2 (f_L_minutesToDelivery W (s (ix (x4 + (1 : Int32))))) (fun v2 W1 => gd (inr (x4 + (1 : Int32)) L) (bd2 (f_X10_minutesToDelivery W1 (s (ix (x4 + (1 : Int32))))) (fun v4 W3 => bdc (f_X10_thrown W3) (fun v5 => if v5 = v2 then if v2 = 0 then if (lg_cmp (W3 31 0).toInt64 (v4).toInt64) = 0 then some W3 else none else some W3 else none)))))
theorem ec_44 {G : GT} {f b c : Nat} {M : MM} {hi k n : Nat} {x4 : Int32} {W r : Nat → Nat → Int32} (hf : 14 ≤ f) (hc3 : 620 ≤ c) (hk : ∀ hi, V G f (Ex G f) mL_law PL 3490 [(0, .ref G.1), (1, .ref b), (2, .ref (b + 609)), (3, .ref (b + 619)), (4, .int x4)] [] (MEM b c r M) hi k n) (h : fc_44 G.2.1 G.2.2.1 x4 W = some r) : V G f (Ex G f) mL_law PL 2466 [(0, .ref G.1), (1, .ref b), (2, .ref (b + 609)), (3, .ref (b + 619)), (4, .int x4)] [] (MEM b c W M) hi (k + 4) (n + 24) := by
  have hc1 : 609 ≤ c := Nat.le_trans (Nat.le_of_ble_eq_true rfl) hc3
  have hc2 : 619 ≤ c := Nat.le_trans (Nat.le_of_ble_eq_true rfl) hc3
  unfold fc_44 at h
  refine V_spare (k2 := k + 1) (n2 := n + 6) (Nat.add_le_add_left (Nat.le_of_ble_eq_true rfl) _) (Nat.add_le_add_left (Nat.le_of_ble_eq_true rfl) _) ?_
  refine V_aload_n (i := 1) dL_law_2466 rfl rfl ?_
  refine V_aload_n (i := 0) dL_law_2467 rfl rfl ?_
  refine V_iload (i := 4) dL_law_2468 rfl ?_
  refine V_iconst (v := 1) dL_law_2470 (by decide) ?_
  refine V_iadd dL_law_2471 ?_
  refine D_sld h dL_law_2472 fun h => ?_
  refine V_aload_n (i := 3) dL_law_2473 rfl rfl ?_
  refine D_cSXIW (As := [_, _, _]) (μ := fun W1 => (MEM b c W1 M)) (k2 := 1) (n2 := 6) h dL_law_2474 cx_L_325 rfl rfl (Nat.le_of_ble_eq_true rfl) (fun x y hx => e_L_minutesToDelivery (Nat.le_trans (Nat.le_of_ble_eq_true rfl) hf) hc3 hx) fun v2 W1 hi h => ?_
  refine V_istore (i := 5) dL_law_2477 (Nat.le_of_ble_eq_true rfl) ?_
  refine V_aload_n (i := 2) dL_law_2479 rfl rfl ?_
  refine V_aload_n (i := 0) dL_law_2480 rfl rfl ?_
  refine V_iload (i := 4) dL_law_2481 rfl ?_
  refine V_iconst (v := 1) dL_law_2483 (by decide) ?_
  refine V_iadd dL_law_2484 ?_
  refine D_sld h dL_law_2485 fun h => ?_
  refine D_cVIW (As := [_]) (μ := fun W3 => (MEM b c W3 M)) h dL_law_2486 cv_L_327 rfl ⟨_, _, _, (mem_30 hc2), rfl, rfl⟩ rfl (Nat.le_of_ble_eq_true rfl) (fun x y hx => e_X10_minutesToDelivery (Nat.le_trans (Nat.le_of_ble_eq_true rfl) hf) hc2 hx) fun v4 W3 h => ?_
  refine V_istore (i := 6) dL_law_2489 (Nat.le_of_ble_eq_true rfl) ?_
  refine V_aload_n (i := 2) dL_law_2491 rfl rfl ?_
  refine D_cVI (As := []) h dL_law_2492 cv_L_176 rfl ⟨_, _, _, (mem_30 hc2), rfl, rfl⟩ rfl (Nat.le_of_ble_eq_true rfl) (fun x hx => e_X10_thrown (Nat.le_trans (Nat.le_of_ble_eq_true rfl) hf) hc2 hx) fun v5 h => ?_
  refine V_iload (i := 5) dL_law_2495 rfl ?_
  refine D_icmp_eq (tgt := 2502) h dL_law_2497 rfl (fun b6 h => ?_) (fun b6 h => ?_)
  · refine V_iload (i := 5) dL_law_2502 rfl ?_
    refine D_if_ne (tgt := 2519) h dL_law_2504 rfl (fun b7 h => ?_) (fun b7 h => ?_)
    · refine V_goto (tgt := 3490) dL_law_2519 rfl ?_
      obtain rfl := Option.some.inj h
      refine V_spare (k2 := k) (n2 := n) (by omega) (by omega) ?_
      exact V_sub (ks := [2, 3, 4, 5, 6]) rfl (hk _)
    · refine V_aload_n (i := 3) dL_law_2507 rfl rfl ?_
      refine V_iconst (v := 0) dL_law_2508 (by decide) ?_
      refine D3_lld hc3 dL_law_2509 ?_
      refine V_iload (i := 6) dL_law_2510 rfl ?_
      refine V_i2l dL_law_2512 rfl ?_
      refine V_lcmp dL_law_2513 ?_
      refine D_if_eq (tgt := 2519) h dL_law_2514 rfl (fun b8 h => ?_) (fun b8 h => ?_)
      · refine V_goto (tgt := 3490) dL_law_2519 rfl ?_
        obtain rfl := Option.some.inj h
        refine V_spare (k2 := k) (n2 := n) (by omega) (by omega) ?_
        exact V_sub (ks := [2, 3, 4, 5, 6]) rfl (hk _)
      · refine V_iconst (v := 0) dL_law_2517 (by decide) ?_
        cases h
  · refine V_iconst (v := 0) dL_law_2500 (by decide) ?_
    cases h
noncomputable def fc_45 (L : Nat) (s : Nat → Int32) (x4 : Int32) (W : Nat → Nat → Int32) : Option (Nat → Nat → Int32) :=
  bd2 (f_X9_minutesToFinish W) (fun v2 W1 => bd2 (f_X10_minutesToFinish W1) (fun v4 W3 => if v2 = v4 then some W3 else none))
theorem ec_45 {G : GT} {f b c : Nat} {M : MM} {hi k n : Nat} {x4 : Int32} {W r : Nat → Nat → Int32} (hf : 14 ≤ f) (hc3 : 620 ≤ c) (hk : ∀ hi, V G f (Ex G f) mL_law PL 3490 [(0, .ref G.1), (1, .ref b), (2, .ref (b + 609)), (3, .ref (b + 619)), (4, .int x4)] [] (MEM b c r M) hi k n) (h : fc_45 G.2.1 G.2.2.1 x4 W = some r) : V G f (Ex G f) mL_law PL 2522 [(0, .ref G.1), (1, .ref b), (2, .ref (b + 609)), (3, .ref (b + 619)), (4, .int x4)] [] (MEM b c W M) hi (k + 4) (n + 24) := by
  have hc1 : 609 ≤ c := Nat.le_trans (Nat.le_of_ble_eq_true rfl) hc3
  have hc2 : 619 ≤ c := Nat.le_trans (Nat.le_of_ble_eq_true rfl) hc3
  unfold fc_45 at h
  refine V_spare (k2 := k + 0) (n2 := n + 0) (Nat.add_le_add_left (Nat.le_of_ble_eq_true rfl) _) (Nat.add_le_add_left (Nat.le_of_ble_eq_true rfl) _) ?_
  refine V_aload_n (i := 1) dL_law_2522 rfl rfl ?_
  refine D_cVIW (As := []) (μ := fun W1 => (MEM b c W1 M)) h dL_law_2523 cv_L_328 rfl ⟨_, _, _, (mem_x9 hc1), rfl, rfl⟩ rfl (Nat.le_of_ble_eq_true rfl) (fun x y hx => e_X9_minutesToFinish (Nat.le_trans (Nat.le_of_ble_eq_true rfl) hf) hc1 hx) fun v2 W1 h => ?_
  refine V_aload_n (i := 2) dL_law_2526 rfl rfl ?_
  refine D_cVIW (As := []) (μ := fun W3 => (MEM b c W3 M)) h dL_law_2527 cv_L_331 rfl ⟨_, _, _, (mem_30 hc2), rfl, rfl⟩ rfl (Nat.le_of_ble_eq_true rfl) (fun x y hx => e_X10_minutesToFinish (Nat.le_trans (Nat.le_of_ble_eq_true rfl) hf) hc2 hx) fun v4 W3 h => ?_
  refine D_icmp_eq (tgt := 3490) h dL_law_2530 rfl (fun b5 h => ?_) (fun b5 h => ?_)
  · obtain rfl := Option.some.inj h
    refine V_spare (k2 := k) (n2 := n) (by omega) (by omega) ?_
    exact V_sub (ks := [0, 1, 2, 3, 4]) rfl (hk _)
  · refine V_iconst (v := 0) dL_law_2533 (by decide) ?_
    cases h
noncomputable def fc_46 (L : Nat) (s : Nat → Int32) (x4 : Int32) (W : Nat → Nat → Int32) : Option (Nat → Nat → Int32) :=
  gd (inr (x4 + (1 : Int32)) L) (bd2 (f_L_minutesToStop W (s (ix (x4 + (1 : Int32))))) (fun v2 W1 => gd (inr (x4 + (1 : Int32)) L) (bd2 (f_X10_minutesToStop W1 (s (ix (x4 + (1 : Int32))))) (fun v4 W3 => bdc (f_X10_thrown W3) (fun v5 => if v5 = v2 then if v2 = 0 then if (lg_cmp (W3 31 0).toInt64 (v4).toInt64) = 0 then some W3 else none else some W3 else none)))))
theorem ec_46 {G : GT} {f b c : Nat} {M : MM} {hi k n : Nat} {x4 : Int32} {W r : Nat → Nat → Int32} (hf : 14 ≤ f) (hc3 : 620 ≤ c) (hk : ∀ hi, V G f (Ex G f) mL_law PL 3490 [(0, .ref G.1), (1, .ref b), (2, .ref (b + 609)), (3, .ref (b + 619)), (4, .int x4)] [] (MEM b c r M) hi k n) (h : fc_46 G.2.1 G.2.2.1 x4 W = some r) : V G f (Ex G f) mL_law PL 2535 [(0, .ref G.1), (1, .ref b), (2, .ref (b + 609)), (3, .ref (b + 619)), (4, .int x4)] [] (MEM b c W M) hi (k + 4) (n + 24) := by
  have hc1 : 609 ≤ c := Nat.le_trans (Nat.le_of_ble_eq_true rfl) hc3
  have hc2 : 619 ≤ c := Nat.le_trans (Nat.le_of_ble_eq_true rfl) hc3
  unfold fc_46 at h
  refine V_spare (k2 := k + 1) (n2 := n + 6) (Nat.add_le_add_left (Nat.le_of_ble_eq_true rfl) _) (Nat.add_le_add_left (Nat.le_of_ble_eq_true rfl) _) ?_
  refine V_aload_n (i := 1) dL_law_2535 rfl rfl ?_
  refine V_aload_n (i := 0) dL_law_2536 rfl rfl ?_
  refine V_iload (i := 4) dL_law_2537 rfl ?_
  refine V_iconst (v := 1) dL_law_2539 (by decide) ?_
  refine V_iadd dL_law_2540 ?_
  refine D_sld h dL_law_2541 fun h => ?_
  refine V_aload_n (i := 3) dL_law_2542 rfl rfl ?_
  refine D_cSXIW (As := [_, _, _]) (μ := fun W1 => (MEM b c W1 M)) (k2 := 1) (n2 := 6) h dL_law_2543 cx_L_332 rfl rfl (Nat.le_of_ble_eq_true rfl) (fun x y hx => e_L_minutesToStop (Nat.le_trans (Nat.le_of_ble_eq_true rfl) hf) hc3 hx) fun v2 W1 hi h => ?_
  refine V_istore (i := 5) dL_law_2546 (Nat.le_of_ble_eq_true rfl) ?_
  refine V_aload_n (i := 2) dL_law_2548 rfl rfl ?_
  refine V_aload_n (i := 0) dL_law_2549 rfl rfl ?_
  refine V_iload (i := 4) dL_law_2550 rfl ?_
  refine V_iconst (v := 1) dL_law_2552 (by decide) ?_
  refine V_iadd dL_law_2553 ?_
  refine D_sld h dL_law_2554 fun h => ?_
  refine D_cVIW (As := [_]) (μ := fun W3 => (MEM b c W3 M)) h dL_law_2555 cv_L_334 rfl ⟨_, _, _, (mem_30 hc2), rfl, rfl⟩ rfl (Nat.le_of_ble_eq_true rfl) (fun x y hx => e_X10_minutesToStop (Nat.le_trans (Nat.le_of_ble_eq_true rfl) hf) hc2 hx) fun v4 W3 h => ?_
  refine V_istore (i := 6) dL_law_2558 (Nat.le_of_ble_eq_true rfl) ?_
  refine V_aload_n (i := 2) dL_law_2560 rfl rfl ?_
  refine D_cVI (As := []) h dL_law_2561 cv_L_176 rfl ⟨_, _, _, (mem_30 hc2), rfl, rfl⟩ rfl (Nat.le_of_ble_eq_true rfl) (fun x hx => e_X10_thrown (Nat.le_trans (Nat.le_of_ble_eq_true rfl) hf) hc2 hx) fun v5 h => ?_
  refine V_iload (i := 5) dL_law_2564 rfl ?_
  refine D_icmp_eq (tgt := 2571) h dL_law_2566 rfl (fun b6 h => ?_) (fun b6 h => ?_)
  · refine V_iload (i := 5) dL_law_2571 rfl ?_
    refine D_if_ne (tgt := 2588) h dL_law_2573 rfl (fun b7 h => ?_) (fun b7 h => ?_)
    · refine V_goto (tgt := 3490) dL_law_2588 rfl ?_
      obtain rfl := Option.some.inj h
      refine V_spare (k2 := k) (n2 := n) (by omega) (by omega) ?_
      exact V_sub (ks := [2, 3, 4, 5, 6]) rfl (hk _)
    · refine V_aload_n (i := 3) dL_law_2576 rfl rfl ?_
      refine V_iconst (v := 0) dL_law_2577 (by decide) ?_
      refine D3_lld hc3 dL_law_2578 ?_
      refine V_iload (i := 6) dL_law_2579 rfl ?_
      refine V_i2l dL_law_2581 rfl ?_
      refine V_lcmp dL_law_2582 ?_
      refine D_if_eq (tgt := 2588) h dL_law_2583 rfl (fun b8 h => ?_) (fun b8 h => ?_)
      · refine V_goto (tgt := 3490) dL_law_2588 rfl ?_
        obtain rfl := Option.some.inj h
        refine V_spare (k2 := k) (n2 := n) (by omega) (by omega) ?_
        exact V_sub (ks := [2, 3, 4, 5, 6]) rfl (hk _)
      · refine V_iconst (v := 0) dL_law_2586 (by decide) ?_
        cases h
  · refine V_iconst (v := 0) dL_law_2569 (by decide) ?_
    cases h
noncomputable def fc_47 (L : Nat) (s : Nat → Int32) (x4 : Int32) (W : Nat → Nat → Int32) : Option (Nat → Nat → Int32) :=
  gd (inr (x4 + (1 : Int32)) L) (gd (inr (x4 + (2 : Int32)) L) (bd2 (f_L_trainStationAfter W (s (ix (x4 + (1 : Int32)))) (s (ix (x4 + (2 : Int32))))) (fun v2 W1 => gd (inr (x4 + (1 : Int32)) L) (gd (inr (x4 + (2 : Int32)) L) (bd2 (f_X10_trainStationAfter W1 (s (ix (x4 + (1 : Int32)))) (s (ix (x4 + (2 : Int32))))) (fun v4 W3 => bdc (f_X10_thrown W3) (fun v5 => if v5 = v2 then if v2 = 0 then if (lg_cmp (W3 31 0).toInt64 (v4).toInt64) = 0 then some W3 else none else some W3 else none)))))))
theorem ec_47 {G : GT} {f b c : Nat} {M : MM} {hi k n : Nat} {x4 : Int32} {W r : Nat → Nat → Int32} (hf : 14 ≤ f) (hc3 : 620 ≤ c) (hk : ∀ hi, V G f (Ex G f) mL_law PL 3490 [(0, .ref G.1), (1, .ref b), (2, .ref (b + 609)), (3, .ref (b + 619)), (4, .int x4)] [] (MEM b c r M) hi k n) (h : fc_47 G.2.1 G.2.2.1 x4 W = some r) : V G f (Ex G f) mL_law PL 2591 [(0, .ref G.1), (1, .ref b), (2, .ref (b + 609)), (3, .ref (b + 619)), (4, .int x4)] [] (MEM b c W M) hi (k + 4) (n + 24) := by
  have hc1 : 609 ≤ c := Nat.le_trans (Nat.le_of_ble_eq_true rfl) hc3
  have hc2 : 619 ≤ c := Nat.le_trans (Nat.le_of_ble_eq_true rfl) hc3
  unfold fc_47 at h
  refine V_spare (k2 := k + 2) (n2 := n + 12) (Nat.add_le_add_left (Nat.le_of_ble_eq_true rfl) _) (Nat.add_le_add_left (Nat.le_of_ble_eq_true rfl) _) ?_
  refine V_aload_n (i := 1) dL_law_2591 rfl rfl ?_
  refine V_aload_n (i := 0) dL_law_2592 rfl rfl ?_
  refine V_iload (i := 4) dL_law_2593 rfl ?_
  refine V_iconst (v := 1) dL_law_2595 (by decide) ?_
  refine V_iadd dL_law_2596 ?_
  refine D_sld h dL_law_2597 fun h => ?_
  refine V_aload_n (i := 0) dL_law_2598 rfl rfl ?_
  refine V_iload (i := 4) dL_law_2599 rfl ?_
  refine V_iconst (v := 2) dL_law_2601 (by decide) ?_
  refine V_iadd dL_law_2602 ?_
  refine D_sld h dL_law_2603 fun h => ?_
  refine V_aload_n (i := 3) dL_law_2604 rfl rfl ?_
  refine D_cSXIW (As := [_, _, _, _]) (μ := fun W1 => (MEM b c W1 M)) (k2 := 2) (n2 := 12) h dL_law_2605 cx_L_335 rfl rfl (Nat.le_of_ble_eq_true rfl) (fun x y hx => e_L_trainStationAfter (Nat.le_trans (Nat.le_of_ble_eq_true rfl) hf) hc3 hx) fun v2 W1 hi h => ?_
  refine V_istore (i := 5) dL_law_2608 (Nat.le_of_ble_eq_true rfl) ?_
  refine V_aload_n (i := 2) dL_law_2610 rfl rfl ?_
  refine V_aload_n (i := 0) dL_law_2611 rfl rfl ?_
  refine V_iload (i := 4) dL_law_2612 rfl ?_
  refine V_iconst (v := 1) dL_law_2614 (by decide) ?_
  refine V_iadd dL_law_2615 ?_
  refine D_sld h dL_law_2616 fun h => ?_
  refine V_aload_n (i := 0) dL_law_2617 rfl rfl ?_
  refine V_iload (i := 4) dL_law_2618 rfl ?_
  refine V_iconst (v := 2) dL_law_2620 (by decide) ?_
  refine V_iadd dL_law_2621 ?_
  refine D_sld h dL_law_2622 fun h => ?_
  refine D_cVIW (As := [_, _]) (μ := fun W3 => (MEM b c W3 M)) h dL_law_2623 cv_L_337 rfl ⟨_, _, _, (mem_30 hc2), rfl, rfl⟩ rfl (Nat.le_of_ble_eq_true rfl) (fun x y hx => e_X10_trainStationAfter (Nat.le_trans (Nat.le_of_ble_eq_true rfl) hf) hc2 hx) fun v4 W3 h => ?_
  refine V_istore (i := 6) dL_law_2626 (Nat.le_of_ble_eq_true rfl) ?_
  refine V_aload_n (i := 2) dL_law_2628 rfl rfl ?_
  refine D_cVI (As := []) h dL_law_2629 cv_L_176 rfl ⟨_, _, _, (mem_30 hc2), rfl, rfl⟩ rfl (Nat.le_of_ble_eq_true rfl) (fun x hx => e_X10_thrown (Nat.le_trans (Nat.le_of_ble_eq_true rfl) hf) hc2 hx) fun v5 h => ?_
  refine V_iload (i := 5) dL_law_2632 rfl ?_
  refine D_icmp_eq (tgt := 2639) h dL_law_2634 rfl (fun b6 h => ?_) (fun b6 h => ?_)
  · refine V_iload (i := 5) dL_law_2639 rfl ?_
    refine D_if_ne (tgt := 2656) h dL_law_2641 rfl (fun b7 h => ?_) (fun b7 h => ?_)
    · refine V_goto (tgt := 3490) dL_law_2656 rfl ?_
      obtain rfl := Option.some.inj h
      refine V_spare (k2 := k) (n2 := n) (by omega) (by omega) ?_
      exact V_sub (ks := [2, 3, 4, 5, 6]) rfl (hk _)
    · refine V_aload_n (i := 3) dL_law_2644 rfl rfl ?_
      refine V_iconst (v := 0) dL_law_2645 (by decide) ?_
      refine D3_lld hc3 dL_law_2646 ?_
      refine V_iload (i := 6) dL_law_2647 rfl ?_
      refine V_i2l dL_law_2649 rfl ?_
      refine V_lcmp dL_law_2650 ?_
      refine D_if_eq (tgt := 2656) h dL_law_2651 rfl (fun b8 h => ?_) (fun b8 h => ?_)
      · refine V_goto (tgt := 3490) dL_law_2656 rfl ?_
        obtain rfl := Option.some.inj h
        refine V_spare (k2 := k) (n2 := n) (by omega) (by omega) ?_
        exact V_sub (ks := [2, 3, 4, 5, 6]) rfl (hk _)
      · refine V_iconst (v := 0) dL_law_2654 (by decide) ?_
        cases h
  · refine V_iconst (v := 0) dL_law_2637 (by decide) ?_
    cases h
noncomputable def fc_48 (L : Nat) (s : Nat → Int32) (x4 : Int32) (W : Nat → Nat → Int32) : Option (Nat → Nat → Int32) :=
  gd (inr (x4 + (1 : Int32)) L) (bd2 (f_L_deliveredAfter W (s (ix (x4 + (1 : Int32))))) (fun v2 W1 => gd (inr (x4 + (1 : Int32)) L) (bd2 (f_X10_deliveredAfter W1 (s (ix (x4 + (1 : Int32))))) (fun v4 W3 => bdc (f_X10_thrown W3) (fun v5 => if v5 = v2 then if v2 = 0 then if (lg_cmp (W3 31 0).toInt64 (v4).toInt64) = 0 then some W3 else none else some W3 else none)))))
theorem ec_48 {G : GT} {f b c : Nat} {M : MM} {hi k n : Nat} {x4 : Int32} {W r : Nat → Nat → Int32} (hf : 14 ≤ f) (hc3 : 620 ≤ c) (hk : ∀ hi, V G f (Ex G f) mL_law PL 3490 [(0, .ref G.1), (1, .ref b), (2, .ref (b + 609)), (3, .ref (b + 619)), (4, .int x4)] [] (MEM b c r M) hi k n) (h : fc_48 G.2.1 G.2.2.1 x4 W = some r) : V G f (Ex G f) mL_law PL 2659 [(0, .ref G.1), (1, .ref b), (2, .ref (b + 609)), (3, .ref (b + 619)), (4, .int x4)] [] (MEM b c W M) hi (k + 4) (n + 24) := by
  have hc1 : 609 ≤ c := Nat.le_trans (Nat.le_of_ble_eq_true rfl) hc3
  have hc2 : 619 ≤ c := Nat.le_trans (Nat.le_of_ble_eq_true rfl) hc3
  unfold fc_48 at h
  refine V_spare (k2 := k + 1) (n2 := n + 6) (Nat.add_le_add_left (Nat.le_of_ble_eq_true rfl) _) (Nat.add_le_add_left (Nat.le_of_ble_eq_true rfl) _) ?_
  refine V_aload_n (i := 1) dL_law_2659 rfl rfl ?_
  refine V_aload_n (i := 0) dL_law_2660 rfl rfl ?_
  refine V_iload (i := 4) dL_law_2661 rfl ?_
  refine V_iconst (v := 1) dL_law_2663 (by decide) ?_
  refine V_iadd dL_law_2664 ?_
  refine D_sld h dL_law_2665 fun h => ?_
  refine V_aload_n (i := 3) dL_law_2666 rfl rfl ?_
  refine D_cSXIW (As := [_, _, _]) (μ := fun W1 => (MEM b c W1 M)) (k2 := 1) (n2 := 6) h dL_law_2667 cx_L_338 rfl rfl (Nat.le_of_ble_eq_true rfl) (fun x y hx => e_L_deliveredAfter (Nat.le_trans (Nat.le_of_ble_eq_true rfl) hf) hc3 hx) fun v2 W1 hi h => ?_
  refine V_istore (i := 5) dL_law_2670 (Nat.le_of_ble_eq_true rfl) ?_
  refine V_aload_n (i := 2) dL_law_2672 rfl rfl ?_
  refine V_aload_n (i := 0) dL_law_2673 rfl rfl ?_
  refine V_iload (i := 4) dL_law_2674 rfl ?_
  refine V_iconst (v := 1) dL_law_2676 (by decide) ?_
  refine V_iadd dL_law_2677 ?_
  refine D_sld h dL_law_2678 fun h => ?_
  refine D_cVIW (As := [_]) (μ := fun W3 => (MEM b c W3 M)) h dL_law_2679 cv_L_340 rfl ⟨_, _, _, (mem_30 hc2), rfl, rfl⟩ rfl (Nat.le_of_ble_eq_true rfl) (fun x y hx => e_X10_deliveredAfter (Nat.le_trans (Nat.le_of_ble_eq_true rfl) hf) hc2 hx) fun v4 W3 h => ?_
  refine V_istore (i := 6) dL_law_2682 (Nat.le_of_ble_eq_true rfl) ?_
  refine V_aload_n (i := 2) dL_law_2684 rfl rfl ?_
  refine D_cVI (As := []) h dL_law_2685 cv_L_176 rfl ⟨_, _, _, (mem_30 hc2), rfl, rfl⟩ rfl (Nat.le_of_ble_eq_true rfl) (fun x hx => e_X10_thrown (Nat.le_trans (Nat.le_of_ble_eq_true rfl) hf) hc2 hx) fun v5 h => ?_
  refine V_iload (i := 5) dL_law_2688 rfl ?_
  refine D_icmp_eq (tgt := 2695) h dL_law_2690 rfl (fun b6 h => ?_) (fun b6 h => ?_)
  · refine V_iload (i := 5) dL_law_2695 rfl ?_
    refine D_if_ne (tgt := 2712) h dL_law_2697 rfl (fun b7 h => ?_) (fun b7 h => ?_)
    · refine V_goto (tgt := 3490) dL_law_2712 rfl ?_
      obtain rfl := Option.some.inj h
      refine V_spare (k2 := k) (n2 := n) (by omega) (by omega) ?_
      exact V_sub (ks := [2, 3, 4, 5, 6]) rfl (hk _)
    · refine V_aload_n (i := 3) dL_law_2700 rfl rfl ?_
      refine V_iconst (v := 0) dL_law_2701 (by decide) ?_
      refine D3_lld hc3 dL_law_2702 ?_
      refine V_iload (i := 6) dL_law_2703 rfl ?_
      refine V_i2l dL_law_2705 rfl ?_
      refine V_lcmp dL_law_2706 ?_
      refine D_if_eq (tgt := 2712) h dL_law_2707 rfl (fun b8 h => ?_) (fun b8 h => ?_)
      · refine V_goto (tgt := 3490) dL_law_2712 rfl ?_
        obtain rfl := Option.some.inj h
        refine V_spare (k2 := k) (n2 := n) (by omega) (by omega) ?_
        exact V_sub (ks := [2, 3, 4, 5, 6]) rfl (hk _)
      · refine V_iconst (v := 0) dL_law_2710 (by decide) ?_
        cases h
  · refine V_iconst (v := 0) dL_law_2693 (by decide) ?_
    cases h
noncomputable def fc_49 (L : Nat) (s : Nat → Int32) (x4 : Int32) (W : Nat → Nat → Int32) : Option (Nat → Nat → Int32) :=
  gd (inr (x4 + (1 : Int32)) L) (gd (inr (x4 + (2 : Int32)) L) (gd (inr (x4 + (3 : Int32)) L) (bd2 (f_L_deliveredIfClosed W (s (ix (x4 + (1 : Int32)))) (s (ix (x4 + (2 : Int32)))) (s (ix (x4 + (3 : Int32))))) (fun v2 W1 => gd (inr (x4 + (1 : Int32)) L) (gd (inr (x4 + (2 : Int32)) L) (gd (inr (x4 + (3 : Int32)) L) (bd2 (f_X10_deliveredIfClosed W1 (s (ix (x4 + (1 : Int32)))) (s (ix (x4 + (2 : Int32)))) (s (ix (x4 + (3 : Int32))))) (fun v4 W3 => bdc (f_X10_thrown W3) (fun v5 => if v5 = v2 then if v2 = 0 then if (lg_cmp (W3 31 0).toInt64 (v4).toInt64) = 0 then some W3 else none else some W3 else none)))))))))
theorem ec_49 {G : GT} {f b c : Nat} {M : MM} {hi k n : Nat} {x4 : Int32} {W r : Nat → Nat → Int32} (hf : 14 ≤ f) (hc3 : 620 ≤ c) (hk : ∀ hi, V G f (Ex G f) mL_law PL 3490 [(0, .ref G.1), (1, .ref b), (2, .ref (b + 609)), (3, .ref (b + 619)), (4, .int x4)] [] (MEM b c r M) hi k n) (h : fc_49 G.2.1 G.2.2.1 x4 W = some r) : V G f (Ex G f) mL_law PL 2715 [(0, .ref G.1), (1, .ref b), (2, .ref (b + 609)), (3, .ref (b + 619)), (4, .int x4)] [] (MEM b c W M) hi (k + 4) (n + 24) := by
  have hc1 : 609 ≤ c := Nat.le_trans (Nat.le_of_ble_eq_true rfl) hc3
  have hc2 : 619 ≤ c := Nat.le_trans (Nat.le_of_ble_eq_true rfl) hc3
  unfold fc_49 at h
  refine V_spare (k2 := k + 4) (n2 := n + 24) (Nat.add_le_add_left (Nat.le_of_ble_eq_true rfl) _) (Nat.add_le_add_left (Nat.le_of_ble_eq_true rfl) _) ?_
  refine V_aload_n (i := 1) dL_law_2715 rfl rfl ?_
  refine V_aload_n (i := 0) dL_law_2716 rfl rfl ?_
  refine V_iload (i := 4) dL_law_2717 rfl ?_
  refine V_iconst (v := 1) dL_law_2719 (by decide) ?_
  refine V_iadd dL_law_2720 ?_
  refine D_sld h dL_law_2721 fun h => ?_
  refine V_aload_n (i := 0) dL_law_2722 rfl rfl ?_
  refine V_iload (i := 4) dL_law_2723 rfl ?_
  refine V_iconst (v := 2) dL_law_2725 (by decide) ?_
  refine V_iadd dL_law_2726 ?_
  refine D_sld h dL_law_2727 fun h => ?_
  refine V_aload_n (i := 0) dL_law_2728 rfl rfl ?_
  refine V_iload (i := 4) dL_law_2729 rfl ?_
  refine V_iconst (v := 3) dL_law_2731 (by decide) ?_
  refine V_iadd dL_law_2732 ?_
  refine D_sld h dL_law_2733 fun h => ?_
  refine V_aload_n (i := 3) dL_law_2734 rfl rfl ?_
  refine D_cSXIW (As := [_, _, _, _, _]) (μ := fun W1 => (MEM b c W1 M)) (k2 := 4) (n2 := 24) h dL_law_2735 cx_L_341 rfl rfl (Nat.le_of_ble_eq_true rfl) (fun x y hx => e_L_deliveredIfClosed (Nat.le_trans (Nat.le_of_ble_eq_true rfl) hf) hc3 hx) fun v2 W1 hi h => ?_
  refine V_istore (i := 5) dL_law_2738 (Nat.le_of_ble_eq_true rfl) ?_
  refine V_aload_n (i := 2) dL_law_2740 rfl rfl ?_
  refine V_aload_n (i := 0) dL_law_2741 rfl rfl ?_
  refine V_iload (i := 4) dL_law_2742 rfl ?_
  refine V_iconst (v := 1) dL_law_2744 (by decide) ?_
  refine V_iadd dL_law_2745 ?_
  refine D_sld h dL_law_2746 fun h => ?_
  refine V_aload_n (i := 0) dL_law_2747 rfl rfl ?_
  refine V_iload (i := 4) dL_law_2748 rfl ?_
  refine V_iconst (v := 2) dL_law_2750 (by decide) ?_
  refine V_iadd dL_law_2751 ?_
  refine D_sld h dL_law_2752 fun h => ?_
  refine V_aload_n (i := 0) dL_law_2753 rfl rfl ?_
  refine V_iload (i := 4) dL_law_2754 rfl ?_
  refine V_iconst (v := 3) dL_law_2756 (by decide) ?_
  refine V_iadd dL_law_2757 ?_
  refine D_sld h dL_law_2758 fun h => ?_
  refine D_cVIW (As := [_, _, _]) (μ := fun W3 => (MEM b c W3 M)) h dL_law_2759 cv_L_344 rfl ⟨_, _, _, (mem_30 hc2), rfl, rfl⟩ rfl (Nat.le_of_ble_eq_true rfl) (fun x y hx => e_X10_deliveredIfClosed (Nat.le_trans (Nat.le_of_ble_eq_true rfl) hf) hc2 hx) fun v4 W3 h => ?_
  refine V_istore (i := 6) dL_law_2762 (Nat.le_of_ble_eq_true rfl) ?_
  refine V_aload_n (i := 2) dL_law_2764 rfl rfl ?_
  refine D_cVI (As := []) h dL_law_2765 cv_L_176 rfl ⟨_, _, _, (mem_30 hc2), rfl, rfl⟩ rfl (Nat.le_of_ble_eq_true rfl) (fun x hx => e_X10_thrown (Nat.le_trans (Nat.le_of_ble_eq_true rfl) hf) hc2 hx) fun v5 h => ?_
  refine V_iload (i := 5) dL_law_2768 rfl ?_
  refine D_icmp_eq (tgt := 2775) h dL_law_2770 rfl (fun b6 h => ?_) (fun b6 h => ?_)
  · refine V_iload (i := 5) dL_law_2775 rfl ?_
    refine D_if_ne (tgt := 2792) h dL_law_2777 rfl (fun b7 h => ?_) (fun b7 h => ?_)
    · refine V_goto (tgt := 3490) dL_law_2792 rfl ?_
      obtain rfl := Option.some.inj h
      refine V_spare (k2 := k) (n2 := n) (by omega) (by omega) ?_
      exact V_sub (ks := [2, 3, 4, 5, 6]) rfl (hk _)
    · refine V_aload_n (i := 3) dL_law_2780 rfl rfl ?_
      refine V_iconst (v := 0) dL_law_2781 (by decide) ?_
      refine D3_lld hc3 dL_law_2782 ?_
      refine V_iload (i := 6) dL_law_2783 rfl ?_
      refine V_i2l dL_law_2785 rfl ?_
      refine V_lcmp dL_law_2786 ?_
      refine D_if_eq (tgt := 2792) h dL_law_2787 rfl (fun b8 h => ?_) (fun b8 h => ?_)
      · refine V_goto (tgt := 3490) dL_law_2792 rfl ?_
        obtain rfl := Option.some.inj h
        refine V_spare (k2 := k) (n2 := n) (by omega) (by omega) ?_
        exact V_sub (ks := [2, 3, 4, 5, 6]) rfl (hk _)
      · refine V_iconst (v := 0) dL_law_2790 (by decide) ?_
        cases h
  · refine V_iconst (v := 0) dL_law_2773 (by decide) ?_
    cases h
noncomputable def fc_50 (L : Nat) (s : Nat → Int32) (x4 : Int32) (W : Nat → Nat → Int32) : Option (Nat → Nat → Int32) :=
  bd2 (f_X9_worstClosure W) (fun v2 W1 => bd2 (f_X10_worstClosure W1) (fun v4 W3 => if v2 = v4 then some W3 else none))
theorem ec_50 {G : GT} {f b c : Nat} {M : MM} {hi k n : Nat} {x4 : Int32} {W r : Nat → Nat → Int32} (hf : 14 ≤ f) (hc3 : 620 ≤ c) (hk : ∀ hi, V G f (Ex G f) mL_law PL 3490 [(0, .ref G.1), (1, .ref b), (2, .ref (b + 609)), (3, .ref (b + 619)), (4, .int x4)] [] (MEM b c r M) hi k n) (h : fc_50 G.2.1 G.2.2.1 x4 W = some r) : V G f (Ex G f) mL_law PL 2795 [(0, .ref G.1), (1, .ref b), (2, .ref (b + 609)), (3, .ref (b + 619)), (4, .int x4)] [] (MEM b c W M) hi (k + 4) (n + 24) := by
  have hc1 : 609 ≤ c := Nat.le_trans (Nat.le_of_ble_eq_true rfl) hc3
  have hc2 : 619 ≤ c := Nat.le_trans (Nat.le_of_ble_eq_true rfl) hc3
  unfold fc_50 at h
  refine V_spare (k2 := k + 0) (n2 := n + 0) (Nat.add_le_add_left (Nat.le_of_ble_eq_true rfl) _) (Nat.add_le_add_left (Nat.le_of_ble_eq_true rfl) _) ?_
  refine V_aload_n (i := 1) dL_law_2795 rfl rfl ?_
  refine D_cVIW (As := []) (μ := fun W1 => (MEM b c W1 M)) h dL_law_2796 cv_L_345 rfl ⟨_, _, _, (mem_x9 hc1), rfl, rfl⟩ rfl (Nat.le_of_ble_eq_true rfl) (fun x y hx => e_X9_worstClosure (Nat.le_trans (Nat.le_of_ble_eq_true rfl) hf) hc1 hx) fun v2 W1 h => ?_
  refine V_aload_n (i := 2) dL_law_2799 rfl rfl ?_
  refine D_cVIW (As := []) (μ := fun W3 => (MEM b c W3 M)) h dL_law_2800 cv_L_348 rfl ⟨_, _, _, (mem_30 hc2), rfl, rfl⟩ rfl (Nat.le_of_ble_eq_true rfl) (fun x y hx => e_X10_worstClosure (Nat.le_trans (Nat.le_of_ble_eq_true rfl) hf) hc2 hx) fun v4 W3 h => ?_
  refine D_icmp_eq (tgt := 3490) h dL_law_2803 rfl (fun b5 h => ?_) (fun b5 h => ?_)
  · obtain rfl := Option.some.inj h
    refine V_spare (k2 := k) (n2 := n) (by omega) (by omega) ?_
    exact V_sub (ks := [0, 1, 2, 3, 4]) rfl (hk _)
  · refine V_iconst (v := 0) dL_law_2806 (by decide) ?_
    cases h
noncomputable def fc_51 (L : Nat) (s : Nat → Int32) (x4 : Int32) (W : Nat → Nat → Int32) : Option (Nat → Nat → Int32) :=
  gd (inr (x4 + (1 : Int32)) L) (bd2 (f_L_pass W (s (ix (x4 + (1 : Int32))))) (fun v2 W1 => gd (inr (x4 + (1 : Int32)) L) (bd2 (f_X10_pass W1 (s (ix (x4 + (1 : Int32))))) (fun v4 W3 => bdc (f_X10_thrown W3) (fun v5 => if v5 = v2 then if v2 = 0 then if (lg_cmp (W3 31 0).toInt64 (v4).toInt64) = 0 then some W3 else none else some W3 else none)))))
theorem ec_51 {G : GT} {f b c : Nat} {M : MM} {hi k n : Nat} {x4 : Int32} {W r : Nat → Nat → Int32} (hf : 14 ≤ f) (hc3 : 620 ≤ c) (hk : ∀ hi, V G f (Ex G f) mL_law PL 3490 [(0, .ref G.1), (1, .ref b), (2, .ref (b + 609)), (3, .ref (b + 619)), (4, .int x4)] [] (MEM b c r M) hi k n) (h : fc_51 G.2.1 G.2.2.1 x4 W = some r) : V G f (Ex G f) mL_law PL 2808 [(0, .ref G.1), (1, .ref b), (2, .ref (b + 609)), (3, .ref (b + 619)), (4, .int x4)] [] (MEM b c W M) hi (k + 4) (n + 24) := by
  have hc1 : 609 ≤ c := Nat.le_trans (Nat.le_of_ble_eq_true rfl) hc3
  have hc2 : 619 ≤ c := Nat.le_trans (Nat.le_of_ble_eq_true rfl) hc3
  unfold fc_51 at h
  refine V_spare (k2 := k + 1) (n2 := n + 6) (Nat.add_le_add_left (Nat.le_of_ble_eq_true rfl) _) (Nat.add_le_add_left (Nat.le_of_ble_eq_true rfl) _) ?_
  refine V_aload_n (i := 1) dL_law_2808 rfl rfl ?_
  refine V_aload_n (i := 0) dL_law_2809 rfl rfl ?_
  refine V_iload (i := 4) dL_law_2810 rfl ?_
  refine V_iconst (v := 1) dL_law_2812 (by decide) ?_
  refine V_iadd dL_law_2813 ?_
  refine D_sld h dL_law_2814 fun h => ?_
  refine V_aload_n (i := 3) dL_law_2815 rfl rfl ?_
  refine D_cSXIW (As := [_, _, _]) (μ := fun W1 => (MEM b c W1 M)) (k2 := 1) (n2 := 6) h dL_law_2816 cx_L_349 rfl rfl (Nat.le_of_ble_eq_true rfl) (fun x y hx => e_L_pass (Nat.le_trans (Nat.le_of_ble_eq_true rfl) hf) hc3 hx) fun v2 W1 hi h => ?_
  refine V_istore (i := 5) dL_law_2819 (Nat.le_of_ble_eq_true rfl) ?_
  refine V_aload_n (i := 2) dL_law_2821 rfl rfl ?_
  refine V_aload_n (i := 0) dL_law_2822 rfl rfl ?_
  refine V_iload (i := 4) dL_law_2823 rfl ?_
  refine V_iconst (v := 1) dL_law_2825 (by decide) ?_
  refine V_iadd dL_law_2826 ?_
  refine D_sld h dL_law_2827 fun h => ?_
  refine D_cVIW (As := [_]) (μ := fun W3 => (MEM b c W3 M)) h dL_law_2828 cv_L_351 rfl ⟨_, _, _, (mem_30 hc2), rfl, rfl⟩ rfl (Nat.le_of_ble_eq_true rfl) (fun x y hx => e_X10_pass (Nat.le_trans (Nat.le_of_ble_eq_true rfl) hf) hc2 hx) fun v4 W3 h => ?_
  refine V_istore (i := 6) dL_law_2831 (Nat.le_of_ble_eq_true rfl) ?_
  refine V_aload_n (i := 2) dL_law_2833 rfl rfl ?_
  refine D_cVI (As := []) h dL_law_2834 cv_L_176 rfl ⟨_, _, _, (mem_30 hc2), rfl, rfl⟩ rfl (Nat.le_of_ble_eq_true rfl) (fun x hx => e_X10_thrown (Nat.le_trans (Nat.le_of_ble_eq_true rfl) hf) hc2 hx) fun v5 h => ?_
  refine V_iload (i := 5) dL_law_2837 rfl ?_
  refine D_icmp_eq (tgt := 2844) h dL_law_2839 rfl (fun b6 h => ?_) (fun b6 h => ?_)
  · refine V_iload (i := 5) dL_law_2844 rfl ?_
    refine D_if_ne (tgt := 2861) h dL_law_2846 rfl (fun b7 h => ?_) (fun b7 h => ?_)
    · refine V_goto (tgt := 3490) dL_law_2861 rfl ?_
      obtain rfl := Option.some.inj h
      refine V_spare (k2 := k) (n2 := n) (by omega) (by omega) ?_
      exact V_sub (ks := [2, 3, 4, 5, 6]) rfl (hk _)
    · refine V_aload_n (i := 3) dL_law_2849 rfl rfl ?_
      refine V_iconst (v := 0) dL_law_2850 (by decide) ?_
      refine D3_lld hc3 dL_law_2851 ?_
      refine V_iload (i := 6) dL_law_2852 rfl ?_
      refine V_i2l dL_law_2854 rfl ?_
      refine V_lcmp dL_law_2855 ?_
      refine D_if_eq (tgt := 2861) h dL_law_2856 rfl (fun b8 h => ?_) (fun b8 h => ?_)
      · refine V_goto (tgt := 3490) dL_law_2861 rfl ?_
        obtain rfl := Option.some.inj h
        refine V_spare (k2 := k) (n2 := n) (by omega) (by omega) ?_
        exact V_sub (ks := [2, 3, 4, 5, 6]) rfl (hk _)
      · refine V_iconst (v := 0) dL_law_2859 (by decide) ?_
        cases h
  · refine V_iconst (v := 0) dL_law_2842 (by decide) ?_
    cases h
noncomputable def fc_52 (L : Nat) (s : Nat → Int32) (x4 : Int32) (W : Nat → Nat → Int32) : Option (Nat → Nat → Int32) :=
  gd (inr (x4 + (1 : Int32)) L) (gd (inr (x4 + (2 : Int32)) L) (gd (inr (x4 + (3 : Int32)) L) (bd2 (f_L_addParcel W (s (ix (x4 + (1 : Int32)))) (s (ix (x4 + (2 : Int32)))) (s (ix (x4 + (3 : Int32))))) (fun v2 W1 => gd (inr (x4 + (1 : Int32)) L) (gd (inr (x4 + (2 : Int32)) L) (gd (inr (x4 + (3 : Int32)) L) (bd2 (f_X10_addParcel W1 (s (ix (x4 + (1 : Int32)))) (s (ix (x4 + (2 : Int32)))) (s (ix (x4 + (3 : Int32))))) (fun v4 W3 => bdc (f_X10_thrown W3) (fun v5 => if v5 = v2 then if v2 = 0 then if (lg_cmp (W3 31 0).toInt64 (v4).toInt64) = 0 then some W3 else none else some W3 else none)))))))))
theorem ec_52 {G : GT} {f b c : Nat} {M : MM} {hi k n : Nat} {x4 : Int32} {W r : Nat → Nat → Int32} (hf : 14 ≤ f) (hc3 : 620 ≤ c) (hk : ∀ hi, V G f (Ex G f) mL_law PL 3490 [(0, .ref G.1), (1, .ref b), (2, .ref (b + 609)), (3, .ref (b + 619)), (4, .int x4)] [] (MEM b c r M) hi k n) (h : fc_52 G.2.1 G.2.2.1 x4 W = some r) : V G f (Ex G f) mL_law PL 2864 [(0, .ref G.1), (1, .ref b), (2, .ref (b + 609)), (3, .ref (b + 619)), (4, .int x4)] [] (MEM b c W M) hi (k + 4) (n + 24) := by
  have hc1 : 609 ≤ c := Nat.le_trans (Nat.le_of_ble_eq_true rfl) hc3
  have hc2 : 619 ≤ c := Nat.le_trans (Nat.le_of_ble_eq_true rfl) hc3
  unfold fc_52 at h
  refine V_spare (k2 := k + 4) (n2 := n + 24) (Nat.add_le_add_left (Nat.le_of_ble_eq_true rfl) _) (Nat.add_le_add_left (Nat.le_of_ble_eq_true rfl) _) ?_
  refine V_aload_n (i := 1) dL_law_2864 rfl rfl ?_
  refine V_aload_n (i := 0) dL_law_2865 rfl rfl ?_
  refine V_iload (i := 4) dL_law_2866 rfl ?_
  refine V_iconst (v := 1) dL_law_2868 (by decide) ?_
  refine V_iadd dL_law_2869 ?_
  refine D_sld h dL_law_2870 fun h => ?_
  refine V_aload_n (i := 0) dL_law_2871 rfl rfl ?_
  refine V_iload (i := 4) dL_law_2872 rfl ?_
  refine V_iconst (v := 2) dL_law_2874 (by decide) ?_
  refine V_iadd dL_law_2875 ?_
  refine D_sld h dL_law_2876 fun h => ?_
  refine V_aload_n (i := 0) dL_law_2877 rfl rfl ?_
  refine V_iload (i := 4) dL_law_2878 rfl ?_
  refine V_iconst (v := 3) dL_law_2880 (by decide) ?_
  refine V_iadd dL_law_2881 ?_
  refine D_sld h dL_law_2882 fun h => ?_
  refine V_aload_n (i := 3) dL_law_2883 rfl rfl ?_
  refine D_cSXIW (As := [_, _, _, _, _]) (μ := fun W1 => (MEM b c W1 M)) (k2 := 4) (n2 := 24) h dL_law_2884 cx_L_352 rfl rfl (Nat.le_of_ble_eq_true rfl) (fun x y hx => e_L_addParcel (Nat.le_trans (Nat.le_of_ble_eq_true rfl) hf) hc3 hx) fun v2 W1 hi h => ?_
  refine V_istore (i := 5) dL_law_2887 (Nat.le_of_ble_eq_true rfl) ?_
  refine V_aload_n (i := 2) dL_law_2889 rfl rfl ?_
  refine V_aload_n (i := 0) dL_law_2890 rfl rfl ?_
  refine V_iload (i := 4) dL_law_2891 rfl ?_
  refine V_iconst (v := 1) dL_law_2893 (by decide) ?_
  refine V_iadd dL_law_2894 ?_
  refine D_sld h dL_law_2895 fun h => ?_
  refine V_aload_n (i := 0) dL_law_2896 rfl rfl ?_
  refine V_iload (i := 4) dL_law_2897 rfl ?_
  refine V_iconst (v := 2) dL_law_2899 (by decide) ?_
  refine V_iadd dL_law_2900 ?_
  refine D_sld h dL_law_2901 fun h => ?_
  refine V_aload_n (i := 0) dL_law_2902 rfl rfl ?_
  refine V_iload (i := 4) dL_law_2903 rfl ?_
  refine V_iconst (v := 3) dL_law_2905 (by decide) ?_
  refine V_iadd dL_law_2906 ?_
  refine D_sld h dL_law_2907 fun h => ?_
  refine D_cVIW (As := [_, _, _]) (μ := fun W3 => (MEM b c W3 M)) h dL_law_2908 cv_L_354 rfl ⟨_, _, _, (mem_30 hc2), rfl, rfl⟩ rfl (Nat.le_of_ble_eq_true rfl) (fun x y hx => e_X10_addParcel (Nat.le_trans (Nat.le_of_ble_eq_true rfl) hf) hc2 hx) fun v4 W3 h => ?_
  refine V_istore (i := 6) dL_law_2911 (Nat.le_of_ble_eq_true rfl) ?_
  refine V_aload_n (i := 2) dL_law_2913 rfl rfl ?_
  refine D_cVI (As := []) h dL_law_2914 cv_L_176 rfl ⟨_, _, _, (mem_30 hc2), rfl, rfl⟩ rfl (Nat.le_of_ble_eq_true rfl) (fun x hx => e_X10_thrown (Nat.le_trans (Nat.le_of_ble_eq_true rfl) hf) hc2 hx) fun v5 h => ?_
  refine V_iload (i := 5) dL_law_2917 rfl ?_
  refine D_icmp_eq (tgt := 2924) h dL_law_2919 rfl (fun b6 h => ?_) (fun b6 h => ?_)
  · refine V_iload (i := 5) dL_law_2924 rfl ?_
    refine D_if_ne (tgt := 2941) h dL_law_2926 rfl (fun b7 h => ?_) (fun b7 h => ?_)
    · refine V_goto (tgt := 3490) dL_law_2941 rfl ?_
      obtain rfl := Option.some.inj h
      refine V_spare (k2 := k) (n2 := n) (by omega) (by omega) ?_
      exact V_sub (ks := [2, 3, 4, 5, 6]) rfl (hk _)
    · refine V_aload_n (i := 3) dL_law_2929 rfl rfl ?_
      refine V_iconst (v := 0) dL_law_2930 (by decide) ?_
      refine D3_lld hc3 dL_law_2931 ?_
      refine V_iload (i := 6) dL_law_2932 rfl ?_
      refine V_i2l dL_law_2934 rfl ?_
      refine V_lcmp dL_law_2935 ?_
      refine D_if_eq (tgt := 2941) h dL_law_2936 rfl (fun b8 h => ?_) (fun b8 h => ?_)
      · refine V_goto (tgt := 3490) dL_law_2941 rfl ?_
        obtain rfl := Option.some.inj h
        refine V_spare (k2 := k) (n2 := n) (by omega) (by omega) ?_
        exact V_sub (ks := [2, 3, 4, 5, 6]) rfl (hk _)
      · refine V_iconst (v := 0) dL_law_2939 (by decide) ?_
        cases h
  · refine V_iconst (v := 0) dL_law_2922 (by decide) ?_
    cases h
noncomputable def fc_53 (L : Nat) (s : Nat → Int32) (x4 : Int32) (W : Nat → Nat → Int32) : Option (Nat → Nat → Int32) :=
  gd (inr (x4 + (1 : Int32)) L) (gd (inr (x4 + (2 : Int32)) L) (gd (inr (x4 + (3 : Int32)) L) (jn (fun (v2 : Int32) => bd2 (f_L_setTrackOpen W (s (ix (x4 + (1 : Int32)))) (s (ix (x4 + (2 : Int32)))) v2) (fun v5 W4 => gd (inr (x4 + (1 : Int32)) L) (gd (inr (x4 + (2 : Int32)) L) (gd (inr (x4 + (3 : Int32)) L) (jn (fun (v7 : Int32) => bd2 (f_X10_setTrackOpen W4 (s (ix (x4 + (1 : Int32)))) (s (ix (x4 + (2 : Int32)))) v7) (fun v10 W9 => bdc (f_X10_thrown W9) (fun v11 => if v11 = v5 then if v5 = 0 then if v10 = 0 then if (lg_cmp (W9 31 0).toInt64 ((0 : Int32)).toInt64) = 0 then some W9 else none else if (lg_cmp (W9 31 0).toInt64 ((1 : Int32)).toInt64) = 0 then some W9 else none else some W9 else none))) (fun j6 => if (s (ix (x4 + (3 : Int32)))) = 0 then j6 (0 : Int32) else j6 (1 : Int32))))))) (fun j1 => if (s (ix (x4 + (3 : Int32)))) = 0 then j1 (0 : Int32) else j1 (1 : Int32)))))
theorem ec_53 {G : GT} {f b c : Nat} {M : MM} {hi k n : Nat} {x4 : Int32} {W r : Nat → Nat → Int32} (hf : 14 ≤ f) (hc3 : 620 ≤ c) (hk : ∀ hi, V G f (Ex G f) mL_law PL 3490 [(0, .ref G.1), (1, .ref b), (2, .ref (b + 609)), (3, .ref (b + 619)), (4, .int x4)] [] (MEM b c r M) hi k n) (h : fc_53 G.2.1 G.2.2.1 x4 W = some r) : V G f (Ex G f) mL_law PL 2944 [(0, .ref G.1), (1, .ref b), (2, .ref (b + 609)), (3, .ref (b + 619)), (4, .int x4)] [] (MEM b c W M) hi (k + 4) (n + 24) := by
  have hc1 : 609 ≤ c := Nat.le_trans (Nat.le_of_ble_eq_true rfl) hc3
  have hc2 : 619 ≤ c := Nat.le_trans (Nat.le_of_ble_eq_true rfl) hc3
  unfold fc_53 at h
  refine V_spare (k2 := k + 3) (n2 := n + 18) (Nat.add_le_add_left (Nat.le_of_ble_eq_true rfl) _) (Nat.add_le_add_left (Nat.le_of_ble_eq_true rfl) _) ?_
  refine V_aload_n (i := 1) dL_law_2944 rfl rfl ?_
  refine V_aload_n (i := 0) dL_law_2945 rfl rfl ?_
  refine V_iload (i := 4) dL_law_2946 rfl ?_
  refine V_iconst (v := 1) dL_law_2948 (by decide) ?_
  refine V_iadd dL_law_2949 ?_
  refine D_sld h dL_law_2950 fun h => ?_
  refine V_aload_n (i := 0) dL_law_2951 rfl rfl ?_
  refine V_iload (i := 4) dL_law_2952 rfl ?_
  refine V_iconst (v := 2) dL_law_2954 (by decide) ?_
  refine V_iadd dL_law_2955 ?_
  refine D_sld h dL_law_2956 fun h => ?_
  refine V_aload_n (i := 0) dL_law_2957 rfl rfl ?_
  refine V_iload (i := 4) dL_law_2958 rfl ?_
  refine V_iconst (v := 3) dL_law_2960 (by decide) ?_
  refine V_iadd dL_law_2961 ?_
  refine D_sld h dL_law_2962 fun h => ?_
  refine D_jn (fun (j : Int32 → Option (Nat → Nat → Int32)) => ∀ (v2 : Int32) (hi : Nat), j v2 = some r → V G f (Ex G f) mL_law PL 2971 [(0, .ref G.1), (1, .ref (b)), (2, .ref (b + 609)), (3, .ref (b + 619)), (4, .int x4)] [.int v2, .int (G.2.2.1 (ix (x4 + (2 : Int32)))), .int (G.2.2.1 (ix (x4 + (1 : Int32)))), .ref (b)] (MEM b c W M) hi (k + 3) (n + 18)) h (fun j1 hj1 h => ?_) ?_
  · refine D_if_eq (tgt := 2970) h dL_law_2963 rfl (fun b3 h => ?_) (fun b3 h => ?_)
    · refine V_iconst (v := 0) dL_law_2970 (by decide) ?_
      exact V_sub (ks := [0, 1, 2, 3, 4]) rfl (hj1 _ _ h)
    · refine V_iconst (v := 1) dL_law_2966 (by decide) ?_
      refine V_goto (tgt := 2971) dL_law_2967 rfl ?_
      exact V_sub (ks := [0, 1, 2, 3, 4]) rfl (hj1 _ _ h)
  · intro v2 hi h
    refine V_aload_n (i := 3) dL_law_2971 rfl rfl ?_
    refine D_cSXIW (As := [_, _, _, _, _]) (μ := fun W4 => (MEM b c W4 M)) (k2 := 3) (n2 := 18) h dL_law_2972 cx_L_355 rfl rfl (Nat.le_of_ble_eq_true rfl) (fun x y hx => e_L_setTrackOpen (Nat.le_trans (Nat.le_of_ble_eq_true rfl) hf) hc3 hx) fun v5 W4 hi h => ?_
    refine V_istore (i := 5) dL_law_2975 (Nat.le_of_ble_eq_true rfl) ?_
    refine V_aload_n (i := 2) dL_law_2977 rfl rfl ?_
    refine V_aload_n (i := 0) dL_law_2978 rfl rfl ?_
    refine V_iload (i := 4) dL_law_2979 rfl ?_
    refine V_iconst (v := 1) dL_law_2981 (by decide) ?_
    refine V_iadd dL_law_2982 ?_
    refine D_sld h dL_law_2983 fun h => ?_
    refine V_aload_n (i := 0) dL_law_2984 rfl rfl ?_
    refine V_iload (i := 4) dL_law_2985 rfl ?_
    refine V_iconst (v := 2) dL_law_2987 (by decide) ?_
    refine V_iadd dL_law_2988 ?_
    refine D_sld h dL_law_2989 fun h => ?_
    refine V_aload_n (i := 0) dL_law_2990 rfl rfl ?_
    refine V_iload (i := 4) dL_law_2991 rfl ?_
    refine V_iconst (v := 3) dL_law_2993 (by decide) ?_
    refine V_iadd dL_law_2994 ?_
    refine D_sld h dL_law_2995 fun h => ?_
    refine D_jn (fun (j : Int32 → Option (Nat → Nat → Int32)) => ∀ (v7 : Int32) (hi : Nat), j v7 = some r → V G f (Ex G f) mL_law PL 3004 [(0, .ref G.1), (1, .ref (b)), (2, .ref (b + 609)), (3, .ref (b + 619)), (4, .int x4), (5, .int v5)] [.int v7, .int (G.2.2.1 (ix (x4 + (2 : Int32)))), .int (G.2.2.1 (ix (x4 + (1 : Int32)))), .ref (b + 609)] (MEM b c W4 M) hi (k + 0) (n + 0)) h (fun j6 hj6 h => ?_) ?_
    · refine D_if_eq (tgt := 3003) h dL_law_2996 rfl (fun b8 h => ?_) (fun b8 h => ?_)
      · refine V_iconst (v := 0) dL_law_3003 (by decide) ?_
        exact V_sub (ks := [1, 2, 3, 4, 5, 0]) rfl (hj6 _ _ h)
      · refine V_iconst (v := 1) dL_law_2999 (by decide) ?_
        refine V_goto (tgt := 3004) dL_law_3000 rfl ?_
        exact V_sub (ks := [1, 2, 3, 4, 5, 0]) rfl (hj6 _ _ h)
    · intro v7 hi h
      refine D_cVIW (As := [_, _, _]) (μ := fun W9 => (MEM b c W9 M)) h dL_law_3004 cv_L_358 rfl ⟨_, _, _, (mem_30 hc2), rfl, rfl⟩ rfl (Nat.le_of_ble_eq_true rfl) (fun x y hx => e_X10_setTrackOpen (Nat.le_trans (Nat.le_of_ble_eq_true rfl) hf) hc2 hx) fun v10 W9 h => ?_
      refine V_istore (i := 6) dL_law_3007 (Nat.le_of_ble_eq_true rfl) ?_
      refine V_aload_n (i := 2) dL_law_3009 rfl rfl ?_
      refine D_cVI (As := []) h dL_law_3010 cv_L_176 rfl ⟨_, _, _, (mem_30 hc2), rfl, rfl⟩ rfl (Nat.le_of_ble_eq_true rfl) (fun x hx => e_X10_thrown (Nat.le_trans (Nat.le_of_ble_eq_true rfl) hf) hc2 hx) fun v11 h => ?_
      refine V_iload (i := 5) dL_law_3013 rfl ?_
      refine D_icmp_eq (tgt := 3020) h dL_law_3015 rfl (fun b12 h => ?_) (fun b12 h => ?_)
      · refine V_iload (i := 5) dL_law_3020 rfl ?_
        refine D_if_ne (tgt := 3044) h dL_law_3022 rfl (fun b13 h => ?_) (fun b13 h => ?_)
        · refine V_goto (tgt := 3490) dL_law_3044 rfl ?_
          obtain rfl := Option.some.inj h
          refine V_spare (k2 := k) (n2 := n) (by omega) (by omega) ?_
          exact V_sub (ks := [1, 2, 3, 4, 5]) rfl (hk _)
        · refine V_aload_n (i := 3) dL_law_3025 rfl rfl ?_
          refine V_iconst (v := 0) dL_law_3026 (by decide) ?_
          refine D3_lld hc3 dL_law_3027 ?_
          refine V_iload (i := 6) dL_law_3028 rfl ?_
          refine D_if_eq (tgt := 3037) h dL_law_3030 rfl (fun b14 h => ?_) (fun b14 h => ?_)
          · refine V_lconst (v := (0 : Int32).toInt64) dL_law_3037 (by decide) ?_
            refine V_lcmp dL_law_3038 ?_
            refine D_if_eq (tgt := 3044) h dL_law_3039 rfl (fun b15 h => ?_) (fun b15 h => ?_)
            · refine V_goto (tgt := 3490) dL_law_3044 rfl ?_
              obtain rfl := Option.some.inj h
              refine V_spare (k2 := k) (n2 := n) (by omega) (by omega) ?_
              exact V_sub (ks := [1, 2, 3, 4, 5]) rfl (hk _)
            · refine V_iconst (v := 0) dL_law_3042 (by decide) ?_
              cases h
          · refine V_lconst (v := (1 : Int32).toInt64) dL_law_3033 (by decide) ?_
            refine V_goto (tgt := 3038) dL_law_3034 rfl ?_
            refine V_lcmp dL_law_3038 ?_
            refine D_if_eq (tgt := 3044) h dL_law_3039 rfl (fun b16 h => ?_) (fun b16 h => ?_)
            · refine V_goto (tgt := 3490) dL_law_3044 rfl ?_
              obtain rfl := Option.some.inj h
              refine V_spare (k2 := k) (n2 := n) (by omega) (by omega) ?_
              exact V_sub (ks := [1, 2, 3, 4, 5]) rfl (hk _)
            · refine V_iconst (v := 0) dL_law_3042 (by decide) ?_
              cases h
      · refine V_iconst (v := 0) dL_law_3018 (by decide) ?_
        cases h
noncomputable def fc_54 (L : Nat) (s : Nat → Int32) (x4 : Int32) (W : Nat → Nat → Int32) : Option (Nat → Nat → Int32) :=
  gd (inr (x4 + (1 : Int32)) L) (gd (inr (x4 + (2 : Int32)) L) (bd2 (f_L_setPriority W (s (ix (x4 + (1 : Int32)))) (s (ix (x4 + (2 : Int32))))) (fun v2 W1 => gd (inr (x4 + (1 : Int32)) L) (gd (inr (x4 + (2 : Int32)) L) (bd2 (f_X10_setPriority W1 (s (ix (x4 + (1 : Int32)))) (s (ix (x4 + (2 : Int32))))) (fun v4 W3 => bdc (f_X10_thrown W3) (fun v5 => if v5 = v2 then if v2 = 0 then if (lg_cmp (W3 31 0).toInt64 (v4).toInt64) = 0 then some W3 else none else some W3 else none)))))))
theorem ec_54 {G : GT} {f b c : Nat} {M : MM} {hi k n : Nat} {x4 : Int32} {W r : Nat → Nat → Int32} (hf : 14 ≤ f) (hc3 : 620 ≤ c) (hk : ∀ hi, V G f (Ex G f) mL_law PL 3490 [(0, .ref G.1), (1, .ref b), (2, .ref (b + 609)), (3, .ref (b + 619)), (4, .int x4)] [] (MEM b c r M) hi k n) (h : fc_54 G.2.1 G.2.2.1 x4 W = some r) : V G f (Ex G f) mL_law PL 3047 [(0, .ref G.1), (1, .ref b), (2, .ref (b + 609)), (3, .ref (b + 619)), (4, .int x4)] [] (MEM b c W M) hi (k + 4) (n + 24) := by
  have hc1 : 609 ≤ c := Nat.le_trans (Nat.le_of_ble_eq_true rfl) hc3
  have hc2 : 619 ≤ c := Nat.le_trans (Nat.le_of_ble_eq_true rfl) hc3
  unfold fc_54 at h
  refine V_spare (k2 := k + 2) (n2 := n + 12) (Nat.add_le_add_left (Nat.le_of_ble_eq_true rfl) _) (Nat.add_le_add_left (Nat.le_of_ble_eq_true rfl) _) ?_
  refine V_aload_n (i := 1) dL_law_3047 rfl rfl ?_
  refine V_aload_n (i := 0) dL_law_3048 rfl rfl ?_
  refine V_iload (i := 4) dL_law_3049 rfl ?_
  refine V_iconst (v := 1) dL_law_3051 (by decide) ?_
  refine V_iadd dL_law_3052 ?_
  refine D_sld h dL_law_3053 fun h => ?_
  refine V_aload_n (i := 0) dL_law_3054 rfl rfl ?_
  refine V_iload (i := 4) dL_law_3055 rfl ?_
  refine V_iconst (v := 2) dL_law_3057 (by decide) ?_
  refine V_iadd dL_law_3058 ?_
  refine D_sld h dL_law_3059 fun h => ?_
  refine V_aload_n (i := 3) dL_law_3060 rfl rfl ?_
  refine D_cSXIW (As := [_, _, _, _]) (μ := fun W1 => (MEM b c W1 M)) (k2 := 2) (n2 := 12) h dL_law_3061 cx_L_359 rfl rfl (Nat.le_of_ble_eq_true rfl) (fun x y hx => e_L_setPriority (Nat.le_trans (Nat.le_of_ble_eq_true rfl) hf) hc3 hx) fun v2 W1 hi h => ?_
  refine V_istore (i := 5) dL_law_3064 (Nat.le_of_ble_eq_true rfl) ?_
  refine V_aload_n (i := 2) dL_law_3066 rfl rfl ?_
  refine V_aload_n (i := 0) dL_law_3067 rfl rfl ?_
  refine V_iload (i := 4) dL_law_3068 rfl ?_
  refine V_iconst (v := 1) dL_law_3070 (by decide) ?_
  refine V_iadd dL_law_3071 ?_
  refine D_sld h dL_law_3072 fun h => ?_
  refine V_aload_n (i := 0) dL_law_3073 rfl rfl ?_
  refine V_iload (i := 4) dL_law_3074 rfl ?_
  refine V_iconst (v := 2) dL_law_3076 (by decide) ?_
  refine V_iadd dL_law_3077 ?_
  refine D_sld h dL_law_3078 fun h => ?_
  refine D_cVIW (As := [_, _]) (μ := fun W3 => (MEM b c W3 M)) h dL_law_3079 cv_L_361 rfl ⟨_, _, _, (mem_30 hc2), rfl, rfl⟩ rfl (Nat.le_of_ble_eq_true rfl) (fun x y hx => e_X10_setPriority (Nat.le_trans (Nat.le_of_ble_eq_true rfl) hf) hc2 hx) fun v4 W3 h => ?_
  refine V_istore (i := 6) dL_law_3082 (Nat.le_of_ble_eq_true rfl) ?_
  refine V_aload_n (i := 2) dL_law_3084 rfl rfl ?_
  refine D_cVI (As := []) h dL_law_3085 cv_L_176 rfl ⟨_, _, _, (mem_30 hc2), rfl, rfl⟩ rfl (Nat.le_of_ble_eq_true rfl) (fun x hx => e_X10_thrown (Nat.le_trans (Nat.le_of_ble_eq_true rfl) hf) hc2 hx) fun v5 h => ?_
  refine V_iload (i := 5) dL_law_3088 rfl ?_
  refine D_icmp_eq (tgt := 3095) h dL_law_3090 rfl (fun b6 h => ?_) (fun b6 h => ?_)
  · refine V_iload (i := 5) dL_law_3095 rfl ?_
    refine D_if_ne (tgt := 3112) h dL_law_3097 rfl (fun b7 h => ?_) (fun b7 h => ?_)
    · refine V_goto (tgt := 3490) dL_law_3112 rfl ?_
      obtain rfl := Option.some.inj h
      refine V_spare (k2 := k) (n2 := n) (by omega) (by omega) ?_
      exact V_sub (ks := [2, 3, 4, 5, 6]) rfl (hk _)
    · refine V_aload_n (i := 3) dL_law_3100 rfl rfl ?_
      refine V_iconst (v := 0) dL_law_3101 (by decide) ?_
      refine D3_lld hc3 dL_law_3102 ?_
      refine V_iload (i := 6) dL_law_3103 rfl ?_
      refine V_i2l dL_law_3105 rfl ?_
      refine V_lcmp dL_law_3106 ?_
      refine D_if_eq (tgt := 3112) h dL_law_3107 rfl (fun b8 h => ?_) (fun b8 h => ?_)
      · refine V_goto (tgt := 3490) dL_law_3112 rfl ?_
        obtain rfl := Option.some.inj h
        refine V_spare (k2 := k) (n2 := n) (by omega) (by omega) ?_
        exact V_sub (ks := [2, 3, 4, 5, 6]) rfl (hk _)
      · refine V_iconst (v := 0) dL_law_3110 (by decide) ?_
        cases h
  · refine V_iconst (v := 0) dL_law_3093 (by decide) ?_
    cases h
noncomputable def fc_55 (L : Nat) (s : Nat → Int32) (x4 : Int32) (W : Nat → Nat → Int32) : Option (Nat → Nat → Int32) :=
  gd (inr (x4 + (1 : Int32)) L) (gd (inr (x4 + (2 : Int32)) L) (bd2 (f_L_setInspection W (s (ix (x4 + (1 : Int32)))) (s (ix (x4 + (2 : Int32))))) (fun v2 W1 => gd (inr (x4 + (1 : Int32)) L) (gd (inr (x4 + (2 : Int32)) L) (bd2 (f_X10_setInspection W1 (s (ix (x4 + (1 : Int32)))) (s (ix (x4 + (2 : Int32))))) (fun v4 W3 => bdc (f_X10_thrown W3) (fun v5 => if v5 = v2 then if v2 = 0 then if (lg_cmp (W3 31 0).toInt64 (v4).toInt64) = 0 then some W3 else none else some W3 else none)))))))
theorem ec_55 {G : GT} {f b c : Nat} {M : MM} {hi k n : Nat} {x4 : Int32} {W r : Nat → Nat → Int32} (hf : 14 ≤ f) (hc3 : 620 ≤ c) (hk : ∀ hi, V G f (Ex G f) mL_law PL 3490 [(0, .ref G.1), (1, .ref b), (2, .ref (b + 609)), (3, .ref (b + 619)), (4, .int x4)] [] (MEM b c r M) hi k n) (h : fc_55 G.2.1 G.2.2.1 x4 W = some r) : V G f (Ex G f) mL_law PL 3115 [(0, .ref G.1), (1, .ref b), (2, .ref (b + 609)), (3, .ref (b + 619)), (4, .int x4)] [] (MEM b c W M) hi (k + 4) (n + 24) := by
  have hc1 : 609 ≤ c := Nat.le_trans (Nat.le_of_ble_eq_true rfl) hc3
  have hc2 : 619 ≤ c := Nat.le_trans (Nat.le_of_ble_eq_true rfl) hc3
  unfold fc_55 at h
  refine V_spare (k2 := k + 2) (n2 := n + 12) (Nat.add_le_add_left (Nat.le_of_ble_eq_true rfl) _) (Nat.add_le_add_left (Nat.le_of_ble_eq_true rfl) _) ?_
  refine V_aload_n (i := 1) dL_law_3115 rfl rfl ?_
  refine V_aload_n (i := 0) dL_law_3116 rfl rfl ?_
  refine V_iload (i := 4) dL_law_3117 rfl ?_
  refine V_iconst (v := 1) dL_law_3119 (by decide) ?_
  refine V_iadd dL_law_3120 ?_
  refine D_sld h dL_law_3121 fun h => ?_
  refine V_aload_n (i := 0) dL_law_3122 rfl rfl ?_
  refine V_iload (i := 4) dL_law_3123 rfl ?_
  refine V_iconst (v := 2) dL_law_3125 (by decide) ?_
  refine V_iadd dL_law_3126 ?_
  refine D_sld h dL_law_3127 fun h => ?_
  refine V_aload_n (i := 3) dL_law_3128 rfl rfl ?_
  refine D_cSXIW (As := [_, _, _, _]) (μ := fun W1 => (MEM b c W1 M)) (k2 := 2) (n2 := 12) h dL_law_3129 cx_L_362 rfl rfl (Nat.le_of_ble_eq_true rfl) (fun x y hx => e_L_setInspection (Nat.le_trans (Nat.le_of_ble_eq_true rfl) hf) hc3 hx) fun v2 W1 hi h => ?_
  refine V_istore (i := 5) dL_law_3132 (Nat.le_of_ble_eq_true rfl) ?_
  refine V_aload_n (i := 2) dL_law_3134 rfl rfl ?_
  refine V_aload_n (i := 0) dL_law_3135 rfl rfl ?_
  refine V_iload (i := 4) dL_law_3136 rfl ?_
  refine V_iconst (v := 1) dL_law_3138 (by decide) ?_
  refine V_iadd dL_law_3139 ?_
  refine D_sld h dL_law_3140 fun h => ?_
  refine V_aload_n (i := 0) dL_law_3141 rfl rfl ?_
  refine V_iload (i := 4) dL_law_3142 rfl ?_
  refine V_iconst (v := 2) dL_law_3144 (by decide) ?_
  refine V_iadd dL_law_3145 ?_
  refine D_sld h dL_law_3146 fun h => ?_
  refine D_cVIW (As := [_, _]) (μ := fun W3 => (MEM b c W3 M)) h dL_law_3147 cv_L_364 rfl ⟨_, _, _, (mem_30 hc2), rfl, rfl⟩ rfl (Nat.le_of_ble_eq_true rfl) (fun x y hx => e_X10_setInspection (Nat.le_trans (Nat.le_of_ble_eq_true rfl) hf) hc2 hx) fun v4 W3 h => ?_
  refine V_istore (i := 6) dL_law_3150 (Nat.le_of_ble_eq_true rfl) ?_
  refine V_aload_n (i := 2) dL_law_3152 rfl rfl ?_
  refine D_cVI (As := []) h dL_law_3153 cv_L_176 rfl ⟨_, _, _, (mem_30 hc2), rfl, rfl⟩ rfl (Nat.le_of_ble_eq_true rfl) (fun x hx => e_X10_thrown (Nat.le_trans (Nat.le_of_ble_eq_true rfl) hf) hc2 hx) fun v5 h => ?_
  refine V_iload (i := 5) dL_law_3156 rfl ?_
  refine D_icmp_eq (tgt := 3163) h dL_law_3158 rfl (fun b6 h => ?_) (fun b6 h => ?_)
  · refine V_iload (i := 5) dL_law_3163 rfl ?_
    refine D_if_ne (tgt := 3180) h dL_law_3165 rfl (fun b7 h => ?_) (fun b7 h => ?_)
    · refine V_goto (tgt := 3490) dL_law_3180 rfl ?_
      obtain rfl := Option.some.inj h
      refine V_spare (k2 := k) (n2 := n) (by omega) (by omega) ?_
      exact V_sub (ks := [2, 3, 4, 5, 6]) rfl (hk _)
    · refine V_aload_n (i := 3) dL_law_3168 rfl rfl ?_
      refine V_iconst (v := 0) dL_law_3169 (by decide) ?_
      refine D3_lld hc3 dL_law_3170 ?_
      refine V_iload (i := 6) dL_law_3171 rfl ?_
      refine V_i2l dL_law_3173 rfl ?_
      refine V_lcmp dL_law_3174 ?_
      refine D_if_eq (tgt := 3180) h dL_law_3175 rfl (fun b8 h => ?_) (fun b8 h => ?_)
      · refine V_goto (tgt := 3490) dL_law_3180 rfl ?_
        obtain rfl := Option.some.inj h
        refine V_spare (k2 := k) (n2 := n) (by omega) (by omega) ?_
        exact V_sub (ks := [2, 3, 4, 5, 6]) rfl (hk _)
      · refine V_iconst (v := 0) dL_law_3178 (by decide) ?_
        cases h
  · refine V_iconst (v := 0) dL_law_3161 (by decide) ?_
    cases h
noncomputable def fc_56 (L : Nat) (s : Nat → Int32) (x4 : Int32) (W : Nat → Nat → Int32) : Option (Nat → Nat → Int32) :=
  gd (inr (x4 + (1 : Int32)) L) (bd2 (f_L_withdraw W (s (ix (x4 + (1 : Int32))))) (fun v2 W1 => gd (inr (x4 + (1 : Int32)) L) (bd2 (f_X10_withdraw W1 (s (ix (x4 + (1 : Int32))))) (fun v4 W3 => bdc (f_X10_thrown W3) (fun v5 => if v5 = v2 then if v2 = 0 then if (lg_cmp (W3 31 0).toInt64 (v4).toInt64) = 0 then some W3 else none else some W3 else none)))))
theorem ec_56 {G : GT} {f b c : Nat} {M : MM} {hi k n : Nat} {x4 : Int32} {W r : Nat → Nat → Int32} (hf : 14 ≤ f) (hc3 : 620 ≤ c) (hk : ∀ hi, V G f (Ex G f) mL_law PL 3490 [(0, .ref G.1), (1, .ref b), (2, .ref (b + 609)), (3, .ref (b + 619)), (4, .int x4)] [] (MEM b c r M) hi k n) (h : fc_56 G.2.1 G.2.2.1 x4 W = some r) : V G f (Ex G f) mL_law PL 3183 [(0, .ref G.1), (1, .ref b), (2, .ref (b + 609)), (3, .ref (b + 619)), (4, .int x4)] [] (MEM b c W M) hi (k + 4) (n + 24) := by
  have hc1 : 609 ≤ c := Nat.le_trans (Nat.le_of_ble_eq_true rfl) hc3
  have hc2 : 619 ≤ c := Nat.le_trans (Nat.le_of_ble_eq_true rfl) hc3
  unfold fc_56 at h
  refine V_spare (k2 := k + 2) (n2 := n + 12) (Nat.add_le_add_left (Nat.le_of_ble_eq_true rfl) _) (Nat.add_le_add_left (Nat.le_of_ble_eq_true rfl) _) ?_
  refine V_aload_n (i := 1) dL_law_3183 rfl rfl ?_
  refine V_aload_n (i := 0) dL_law_3184 rfl rfl ?_
  refine V_iload (i := 4) dL_law_3185 rfl ?_
  refine V_iconst (v := 1) dL_law_3187 (by decide) ?_
  refine V_iadd dL_law_3188 ?_
  refine D_sld h dL_law_3189 fun h => ?_
  refine V_aload_n (i := 3) dL_law_3190 rfl rfl ?_
  refine D_cSXIW (As := [_, _, _]) (μ := fun W1 => (MEM b c W1 M)) (k2 := 2) (n2 := 12) h dL_law_3191 cx_L_365 rfl rfl (Nat.le_of_ble_eq_true rfl) (fun x y hx => e_L_withdraw (Nat.le_trans (Nat.le_of_ble_eq_true rfl) hf) hc3 hx) fun v2 W1 hi h => ?_
  refine V_istore (i := 5) dL_law_3194 (Nat.le_of_ble_eq_true rfl) ?_
  refine V_aload_n (i := 2) dL_law_3196 rfl rfl ?_
  refine V_aload_n (i := 0) dL_law_3197 rfl rfl ?_
  refine V_iload (i := 4) dL_law_3198 rfl ?_
  refine V_iconst (v := 1) dL_law_3200 (by decide) ?_
  refine V_iadd dL_law_3201 ?_
  refine D_sld h dL_law_3202 fun h => ?_
  refine D_cVIW (As := [_]) (μ := fun W3 => (MEM b c W3 M)) h dL_law_3203 cv_L_367 rfl ⟨_, _, _, (mem_30 hc2), rfl, rfl⟩ rfl (Nat.le_of_ble_eq_true rfl) (fun x y hx => e_X10_withdraw (Nat.le_trans (Nat.le_of_ble_eq_true rfl) hf) hc2 hx) fun v4 W3 h => ?_
  refine V_istore (i := 6) dL_law_3206 (Nat.le_of_ble_eq_true rfl) ?_
  refine V_aload_n (i := 2) dL_law_3208 rfl rfl ?_
  refine D_cVI (As := []) h dL_law_3209 cv_L_176 rfl ⟨_, _, _, (mem_30 hc2), rfl, rfl⟩ rfl (Nat.le_of_ble_eq_true rfl) (fun x hx => e_X10_thrown (Nat.le_trans (Nat.le_of_ble_eq_true rfl) hf) hc2 hx) fun v5 h => ?_
  refine V_iload (i := 5) dL_law_3212 rfl ?_
  refine D_icmp_eq (tgt := 3219) h dL_law_3214 rfl (fun b6 h => ?_) (fun b6 h => ?_)
  · refine V_iload (i := 5) dL_law_3219 rfl ?_
    refine D_if_ne (tgt := 3236) h dL_law_3221 rfl (fun b7 h => ?_) (fun b7 h => ?_)
    · refine V_goto (tgt := 3490) dL_law_3236 rfl ?_
      obtain rfl := Option.some.inj h
      refine V_spare (k2 := k) (n2 := n) (by omega) (by omega) ?_
      exact V_sub (ks := [2, 3, 4, 5, 6]) rfl (hk _)
    · refine V_aload_n (i := 3) dL_law_3224 rfl rfl ?_
      refine V_iconst (v := 0) dL_law_3225 (by decide) ?_
      refine D3_lld hc3 dL_law_3226 ?_
      refine V_iload (i := 6) dL_law_3227 rfl ?_
      refine V_i2l dL_law_3229 rfl ?_
      refine V_lcmp dL_law_3230 ?_
      refine D_if_eq (tgt := 3236) h dL_law_3231 rfl (fun b8 h => ?_) (fun b8 h => ?_)
      · refine V_goto (tgt := 3490) dL_law_3236 rfl ?_
        obtain rfl := Option.some.inj h
        refine V_spare (k2 := k) (n2 := n) (by omega) (by omega) ?_
        exact V_sub (ks := [2, 3, 4, 5, 6]) rfl (hk _)
      · refine V_iconst (v := 0) dL_law_3234 (by decide) ?_
        cases h
  · refine V_iconst (v := 0) dL_law_3217 (by decide) ?_
    cases h
noncomputable def fc_57 (L : Nat) (s : Nat → Int32) (x4 : Int32) (W : Nat → Nat → Int32) : Option (Nat → Nat → Int32) :=
  bd2 (f_X9_writeTrains W) (fun v2 W1 => bd2 (f_X10_writeTrains W1) (fun v4 W3 => if v2 = v4 then some W3 else none))
theorem ec_57 {G : GT} {f b c : Nat} {M : MM} {hi k n : Nat} {x4 : Int32} {W r : Nat → Nat → Int32} (hf : 14 ≤ f) (hc3 : 620 ≤ c) (hk : ∀ hi, V G f (Ex G f) mL_law PL 3490 [(0, .ref G.1), (1, .ref b), (2, .ref (b + 609)), (3, .ref (b + 619)), (4, .int x4)] [] (MEM b c r M) hi k n) (h : fc_57 G.2.1 G.2.2.1 x4 W = some r) : V G f (Ex G f) mL_law PL 3239 [(0, .ref G.1), (1, .ref b), (2, .ref (b + 609)), (3, .ref (b + 619)), (4, .int x4)] [] (MEM b c W M) hi (k + 4) (n + 24) := by
  have hc1 : 609 ≤ c := Nat.le_trans (Nat.le_of_ble_eq_true rfl) hc3
  have hc2 : 619 ≤ c := Nat.le_trans (Nat.le_of_ble_eq_true rfl) hc3
  unfold fc_57 at h
  refine V_spare (k2 := k + 0) (n2 := n + 0) (Nat.add_le_add_left (Nat.le_of_ble_eq_true rfl) _) (Nat.add_le_add_left (Nat.le_of_ble_eq_true rfl) _) ?_
  refine V_aload_n (i := 1) dL_law_3239 rfl rfl ?_
  refine D_cVIW (As := []) (μ := fun W1 => (MEM b c W1 M)) h dL_law_3240 cv_L_368 rfl ⟨_, _, _, (mem_x9 hc1), rfl, rfl⟩ rfl (Nat.le_of_ble_eq_true rfl) (fun x y hx => e_X9_writeTrains (Nat.le_trans (Nat.le_of_ble_eq_true rfl) hf) hc1 hx) fun v2 W1 h => ?_
  refine V_aload_n (i := 2) dL_law_3243 rfl rfl ?_
  refine D_cVIW (As := []) (μ := fun W3 => (MEM b c W3 M)) h dL_law_3244 cv_L_371 rfl ⟨_, _, _, (mem_30 hc2), rfl, rfl⟩ rfl (Nat.le_of_ble_eq_true rfl) (fun x y hx => e_X10_writeTrains (Nat.le_trans (Nat.le_of_ble_eq_true rfl) hf) hc2 hx) fun v4 W3 h => ?_
  refine D_icmp_eq (tgt := 3490) h dL_law_3247 rfl (fun b5 h => ?_) (fun b5 h => ?_)
  · obtain rfl := Option.some.inj h
    refine V_spare (k2 := k) (n2 := n) (by omega) (by omega) ?_
    exact V_sub (ks := [0, 1, 2, 3, 4]) rfl (hk _)
  · refine V_iconst (v := 0) dL_law_3250 (by decide) ?_
    cases h
noncomputable def fc_58 (L : Nat) (s : Nat → Int32) (x4 : Int32) (W : Nat → Nat → Int32) : Option (Nat → Nat → Int32) :=
  bd2 (f_X9_writeParcels W) (fun v2 W1 => bd2 (f_X10_writeParcels W1) (fun v4 W3 => if v2 = v4 then some W3 else none))
theorem ec_58 {G : GT} {f b c : Nat} {M : MM} {hi k n : Nat} {x4 : Int32} {W r : Nat → Nat → Int32} (hf : 14 ≤ f) (hc3 : 620 ≤ c) (hk : ∀ hi, V G f (Ex G f) mL_law PL 3490 [(0, .ref G.1), (1, .ref b), (2, .ref (b + 609)), (3, .ref (b + 619)), (4, .int x4)] [] (MEM b c r M) hi k n) (h : fc_58 G.2.1 G.2.2.1 x4 W = some r) : V G f (Ex G f) mL_law PL 3252 [(0, .ref G.1), (1, .ref b), (2, .ref (b + 609)), (3, .ref (b + 619)), (4, .int x4)] [] (MEM b c W M) hi (k + 4) (n + 24) := by
  have hc1 : 609 ≤ c := Nat.le_trans (Nat.le_of_ble_eq_true rfl) hc3
  have hc2 : 619 ≤ c := Nat.le_trans (Nat.le_of_ble_eq_true rfl) hc3
  unfold fc_58 at h
  refine V_spare (k2 := k + 0) (n2 := n + 0) (Nat.add_le_add_left (Nat.le_of_ble_eq_true rfl) _) (Nat.add_le_add_left (Nat.le_of_ble_eq_true rfl) _) ?_
  refine V_aload_n (i := 1) dL_law_3252 rfl rfl ?_
  refine D_cVIW (As := []) (μ := fun W1 => (MEM b c W1 M)) h dL_law_3253 cv_L_372 rfl ⟨_, _, _, (mem_x9 hc1), rfl, rfl⟩ rfl (Nat.le_of_ble_eq_true rfl) (fun x y hx => e_X9_writeParcels (Nat.le_trans (Nat.le_of_ble_eq_true rfl) hf) hc1 hx) fun v2 W1 h => ?_
  refine V_aload_n (i := 2) dL_law_3256 rfl rfl ?_
  refine D_cVIW (As := []) (μ := fun W3 => (MEM b c W3 M)) h dL_law_3257 cv_L_375 rfl ⟨_, _, _, (mem_30 hc2), rfl, rfl⟩ rfl (Nat.le_of_ble_eq_true rfl) (fun x y hx => e_X10_writeParcels (Nat.le_trans (Nat.le_of_ble_eq_true rfl) hf) hc2 hx) fun v4 W3 h => ?_
  refine D_icmp_eq (tgt := 3490) h dL_law_3260 rfl (fun b5 h => ?_) (fun b5 h => ?_)
  · obtain rfl := Option.some.inj h
    refine V_spare (k2 := k) (n2 := n) (by omega) (by omega) ?_
    exact V_sub (ks := [0, 1, 2, 3, 4]) rfl (hk _)
  · refine V_iconst (v := 0) dL_law_3263 (by decide) ?_
    cases h
noncomputable def fc_59 (L : Nat) (s : Nat → Int32) (x4 : Int32) (W : Nat → Nat → Int32) : Option (Nat → Nat → Int32) :=
  gd (inr (x4 + (1 : Int32)) L) (bd2 (f_L_outputByte W (s (ix (x4 + (1 : Int32))))) (fun v2 W1 => gd (inr (x4 + (1 : Int32)) L) (bd2 (f_X10_outputByte W1 (s (ix (x4 + (1 : Int32))))) (fun v4 W3 => bdc (f_X10_thrown W3) (fun v5 => if v5 = v2 then if v2 = 0 then if (lg_cmp (W3 31 0).toInt64 (v4).toInt64) = 0 then some W3 else none else some W3 else none)))))
theorem ec_59 {G : GT} {f b c : Nat} {M : MM} {hi k n : Nat} {x4 : Int32} {W r : Nat → Nat → Int32} (hf : 14 ≤ f) (hc3 : 620 ≤ c) (hk : ∀ hi, V G f (Ex G f) mL_law PL 3490 [(0, .ref G.1), (1, .ref b), (2, .ref (b + 609)), (3, .ref (b + 619)), (4, .int x4)] [] (MEM b c r M) hi k n) (h : fc_59 G.2.1 G.2.2.1 x4 W = some r) : V G f (Ex G f) mL_law PL 3265 [(0, .ref G.1), (1, .ref b), (2, .ref (b + 609)), (3, .ref (b + 619)), (4, .int x4)] [] (MEM b c W M) hi (k + 4) (n + 24) := by
  have hc1 : 609 ≤ c := Nat.le_trans (Nat.le_of_ble_eq_true rfl) hc3
  have hc2 : 619 ≤ c := Nat.le_trans (Nat.le_of_ble_eq_true rfl) hc3
  unfold fc_59 at h
  refine V_spare (k2 := k + 1) (n2 := n + 6) (Nat.add_le_add_left (Nat.le_of_ble_eq_true rfl) _) (Nat.add_le_add_left (Nat.le_of_ble_eq_true rfl) _) ?_
  refine V_aload_n (i := 1) dL_law_3265 rfl rfl ?_
  refine V_aload_n (i := 0) dL_law_3266 rfl rfl ?_
  refine V_iload (i := 4) dL_law_3267 rfl ?_
  refine V_iconst (v := 1) dL_law_3269 (by decide) ?_
  refine V_iadd dL_law_3270 ?_
  refine D_sld h dL_law_3271 fun h => ?_
  refine V_aload_n (i := 3) dL_law_3272 rfl rfl ?_
  refine D_cSXIW (As := [_, _, _]) (μ := fun W1 => (MEM b c W1 M)) (k2 := 1) (n2 := 6) h dL_law_3273 cx_L_376 rfl rfl (Nat.le_of_ble_eq_true rfl) (fun x y hx => e_L_outputByte (Nat.le_trans (Nat.le_of_ble_eq_true rfl) hf) hc3 hx) fun v2 W1 hi h => ?_
  refine V_istore (i := 5) dL_law_3276 (Nat.le_of_ble_eq_true rfl) ?_
  refine V_aload_n (i := 2) dL_law_3278 rfl rfl ?_
  refine V_aload_n (i := 0) dL_law_3279 rfl rfl ?_
  refine V_iload (i := 4) dL_law_3280 rfl ?_
  refine V_iconst (v := 1) dL_law_3282 (by decide) ?_
  refine V_iadd dL_law_3283 ?_
  refine D_sld h dL_law_3284 fun h => ?_
  refine D_cVIW (As := [_]) (μ := fun W3 => (MEM b c W3 M)) h dL_law_3285 cv_L_378 rfl ⟨_, _, _, (mem_30 hc2), rfl, rfl⟩ rfl (Nat.le_of_ble_eq_true rfl) (fun x y hx => e_X10_outputByte (Nat.le_trans (Nat.le_of_ble_eq_true rfl) hf) hc2 hx) fun v4 W3 h => ?_
  refine V_istore (i := 6) dL_law_3288 (Nat.le_of_ble_eq_true rfl) ?_
  refine V_aload_n (i := 2) dL_law_3290 rfl rfl ?_
  refine D_cVI (As := []) h dL_law_3291 cv_L_176 rfl ⟨_, _, _, (mem_30 hc2), rfl, rfl⟩ rfl (Nat.le_of_ble_eq_true rfl) (fun x hx => e_X10_thrown (Nat.le_trans (Nat.le_of_ble_eq_true rfl) hf) hc2 hx) fun v5 h => ?_
  refine V_iload (i := 5) dL_law_3294 rfl ?_
  refine D_icmp_eq (tgt := 3301) h dL_law_3296 rfl (fun b6 h => ?_) (fun b6 h => ?_)
  · refine V_iload (i := 5) dL_law_3301 rfl ?_
    refine D_if_ne (tgt := 3318) h dL_law_3303 rfl (fun b7 h => ?_) (fun b7 h => ?_)
    · refine V_goto (tgt := 3490) dL_law_3318 rfl ?_
      obtain rfl := Option.some.inj h
      refine V_spare (k2 := k) (n2 := n) (by omega) (by omega) ?_
      exact V_sub (ks := [2, 3, 4, 5, 6]) rfl (hk _)
    · refine V_aload_n (i := 3) dL_law_3306 rfl rfl ?_
      refine V_iconst (v := 0) dL_law_3307 (by decide) ?_
      refine D3_lld hc3 dL_law_3308 ?_
      refine V_iload (i := 6) dL_law_3309 rfl ?_
      refine V_i2l dL_law_3311 rfl ?_
      refine V_lcmp dL_law_3312 ?_
      refine D_if_eq (tgt := 3318) h dL_law_3313 rfl (fun b8 h => ?_) (fun b8 h => ?_)
      · refine V_goto (tgt := 3490) dL_law_3318 rfl ?_
        obtain rfl := Option.some.inj h
        refine V_spare (k2 := k) (n2 := n) (by omega) (by omega) ?_
        exact V_sub (ks := [2, 3, 4, 5, 6]) rfl (hk _)
      · refine V_iconst (v := 0) dL_law_3316 (by decide) ?_
        cases h
  · refine V_iconst (v := 0) dL_law_3299 (by decide) ?_
    cases h
noncomputable def fc_60 (L : Nat) (s : Nat → Int32) (x4 : Int32) (W : Nat → Nat → Int32) : Option (Nat → Nat → Int32) :=
  gd (inr (x4 + (1 : Int32)) L) (bd2 (f_L_save W (s (ix (x4 + (1 : Int32))))) (fun v2 W1 => gd (inr (x4 + (1 : Int32)) L) (bd2 (f_X10_save W1 (s (ix (x4 + (1 : Int32))))) (fun v4 W3 => bdc (f_X10_thrown W3) (fun v5 => if v5 = v2 then if v2 = 0 then if (lg_cmp (W3 31 0).toInt64 (v4).toInt64) = 0 then some W3 else none else some W3 else none)))))
theorem ec_60 {G : GT} {f b c : Nat} {M : MM} {hi k n : Nat} {x4 : Int32} {W r : Nat → Nat → Int32} (hf : 14 ≤ f) (hc3 : 620 ≤ c) (hk : ∀ hi, V G f (Ex G f) mL_law PL 3490 [(0, .ref G.1), (1, .ref b), (2, .ref (b + 609)), (3, .ref (b + 619)), (4, .int x4)] [] (MEM b c r M) hi k n) (h : fc_60 G.2.1 G.2.2.1 x4 W = some r) : V G f (Ex G f) mL_law PL 3321 [(0, .ref G.1), (1, .ref b), (2, .ref (b + 609)), (3, .ref (b + 619)), (4, .int x4)] [] (MEM b c W M) hi (k + 4) (n + 24) := by
  have hc1 : 609 ≤ c := Nat.le_trans (Nat.le_of_ble_eq_true rfl) hc3
  have hc2 : 619 ≤ c := Nat.le_trans (Nat.le_of_ble_eq_true rfl) hc3
  unfold fc_60 at h
  refine V_spare (k2 := k + 1) (n2 := n + 6) (Nat.add_le_add_left (Nat.le_of_ble_eq_true rfl) _) (Nat.add_le_add_left (Nat.le_of_ble_eq_true rfl) _) ?_
  refine V_aload_n (i := 1) dL_law_3321 rfl rfl ?_
  refine V_aload_n (i := 0) dL_law_3322 rfl rfl ?_
  refine V_iload (i := 4) dL_law_3323 rfl ?_
  refine V_iconst (v := 1) dL_law_3325 (by decide) ?_
  refine V_iadd dL_law_3326 ?_
  refine D_sld h dL_law_3327 fun h => ?_
  refine V_aload_n (i := 3) dL_law_3328 rfl rfl ?_
  refine D_cSXIW (As := [_, _, _]) (μ := fun W1 => (MEM b c W1 M)) (k2 := 1) (n2 := 6) h dL_law_3329 cx_L_379 rfl rfl (Nat.le_of_ble_eq_true rfl) (fun x y hx => e_L_save (Nat.le_trans (Nat.le_of_ble_eq_true rfl) hf) hc3 hx) fun v2 W1 hi h => ?_
  refine V_istore (i := 5) dL_law_3332 (Nat.le_of_ble_eq_true rfl) ?_
  refine V_aload_n (i := 2) dL_law_3334 rfl rfl ?_
  refine V_aload_n (i := 0) dL_law_3335 rfl rfl ?_
  refine V_iload (i := 4) dL_law_3336 rfl ?_
  refine V_iconst (v := 1) dL_law_3338 (by decide) ?_
  refine V_iadd dL_law_3339 ?_
  refine D_sld h dL_law_3340 fun h => ?_
  refine D_cVIW (As := [_]) (μ := fun W3 => (MEM b c W3 M)) h dL_law_3341 cv_L_381 rfl ⟨_, _, _, (mem_30 hc2), rfl, rfl⟩ rfl (Nat.le_of_ble_eq_true rfl) (fun x y hx => e_X10_save (Nat.le_trans (Nat.le_of_ble_eq_true rfl) hf) hc2 hx) fun v4 W3 h => ?_
  refine V_istore (i := 6) dL_law_3344 (Nat.le_of_ble_eq_true rfl) ?_
  refine V_aload_n (i := 2) dL_law_3346 rfl rfl ?_
  refine D_cVI (As := []) h dL_law_3347 cv_L_176 rfl ⟨_, _, _, (mem_30 hc2), rfl, rfl⟩ rfl (Nat.le_of_ble_eq_true rfl) (fun x hx => e_X10_thrown (Nat.le_trans (Nat.le_of_ble_eq_true rfl) hf) hc2 hx) fun v5 h => ?_
  refine V_iload (i := 5) dL_law_3350 rfl ?_
  refine D_icmp_eq (tgt := 3357) h dL_law_3352 rfl (fun b6 h => ?_) (fun b6 h => ?_)
  · refine V_iload (i := 5) dL_law_3357 rfl ?_
    refine D_if_ne (tgt := 3374) h dL_law_3359 rfl (fun b7 h => ?_) (fun b7 h => ?_)
    · refine V_goto (tgt := 3490) dL_law_3374 rfl ?_
      obtain rfl := Option.some.inj h
      refine V_spare (k2 := k) (n2 := n) (by omega) (by omega) ?_
      exact V_sub (ks := [2, 3, 4, 5, 6]) rfl (hk _)
    · refine V_aload_n (i := 3) dL_law_3362 rfl rfl ?_
      refine V_iconst (v := 0) dL_law_3363 (by decide) ?_
      refine D3_lld hc3 dL_law_3364 ?_
      refine V_iload (i := 6) dL_law_3365 rfl ?_
      refine V_i2l dL_law_3367 rfl ?_
      refine V_lcmp dL_law_3368 ?_
      refine D_if_eq (tgt := 3374) h dL_law_3369 rfl (fun b8 h => ?_) (fun b8 h => ?_)
      · refine V_goto (tgt := 3490) dL_law_3374 rfl ?_
        obtain rfl := Option.some.inj h
        refine V_spare (k2 := k) (n2 := n) (by omega) (by omega) ?_
        exact V_sub (ks := [2, 3, 4, 5, 6]) rfl (hk _)
      · refine V_iconst (v := 0) dL_law_3372 (by decide) ?_
        cases h
  · refine V_iconst (v := 0) dL_law_3355 (by decide) ?_
    cases h
noncomputable def fc_61 (L : Nat) (s : Nat → Int32) (x4 : Int32) (W : Nat → Nat → Int32) : Option (Nat → Nat → Int32) :=
  gd (inr (x4 + (1 : Int32)) L) (bd2 (f_L_restore W (s (ix (x4 + (1 : Int32))))) (fun v2 W1 => gd (inr (x4 + (1 : Int32)) L) (bd2 (f_X10_restore W1 (s (ix (x4 + (1 : Int32))))) (fun v4 W3 => bdc (f_X10_thrown W3) (fun v5 => if v5 = v2 then if v2 = 0 then if (lg_cmp (W3 31 0).toInt64 (v4).toInt64) = 0 then some W3 else none else some W3 else none)))))
theorem ec_61 {G : GT} {f b c : Nat} {M : MM} {hi k n : Nat} {x4 : Int32} {W r : Nat → Nat → Int32} (hf : 14 ≤ f) (hc3 : 620 ≤ c) (hk : ∀ hi, V G f (Ex G f) mL_law PL 3490 [(0, .ref G.1), (1, .ref b), (2, .ref (b + 609)), (3, .ref (b + 619)), (4, .int x4)] [] (MEM b c r M) hi k n) (h : fc_61 G.2.1 G.2.2.1 x4 W = some r) : V G f (Ex G f) mL_law PL 3377 [(0, .ref G.1), (1, .ref b), (2, .ref (b + 609)), (3, .ref (b + 619)), (4, .int x4)] [] (MEM b c W M) hi (k + 4) (n + 24) := by
  have hc1 : 609 ≤ c := Nat.le_trans (Nat.le_of_ble_eq_true rfl) hc3
  have hc2 : 619 ≤ c := Nat.le_trans (Nat.le_of_ble_eq_true rfl) hc3
  unfold fc_61 at h
  refine V_spare (k2 := k + 2) (n2 := n + 12) (Nat.add_le_add_left (Nat.le_of_ble_eq_true rfl) _) (Nat.add_le_add_left (Nat.le_of_ble_eq_true rfl) _) ?_
  refine V_aload_n (i := 1) dL_law_3377 rfl rfl ?_
  refine V_aload_n (i := 0) dL_law_3378 rfl rfl ?_
  refine V_iload (i := 4) dL_law_3379 rfl ?_
  refine V_iconst (v := 1) dL_law_3381 (by decide) ?_
  refine V_iadd dL_law_3382 ?_
  refine D_sld h dL_law_3383 fun h => ?_
  refine V_aload_n (i := 3) dL_law_3384 rfl rfl ?_
  refine D_cSXIW (As := [_, _, _]) (μ := fun W1 => (MEM b c W1 M)) (k2 := 2) (n2 := 12) h dL_law_3385 cx_L_382 rfl rfl (Nat.le_of_ble_eq_true rfl) (fun x y hx => e_L_restore (Nat.le_trans (Nat.le_of_ble_eq_true rfl) hf) hc3 hx) fun v2 W1 hi h => ?_
  refine V_istore (i := 5) dL_law_3388 (Nat.le_of_ble_eq_true rfl) ?_
  refine V_aload_n (i := 2) dL_law_3390 rfl rfl ?_
  refine V_aload_n (i := 0) dL_law_3391 rfl rfl ?_
  refine V_iload (i := 4) dL_law_3392 rfl ?_
  refine V_iconst (v := 1) dL_law_3394 (by decide) ?_
  refine V_iadd dL_law_3395 ?_
  refine D_sld h dL_law_3396 fun h => ?_
  refine D_cVIW (As := [_]) (μ := fun W3 => (MEM b c W3 M)) h dL_law_3397 cv_L_384 rfl ⟨_, _, _, (mem_30 hc2), rfl, rfl⟩ rfl (Nat.le_of_ble_eq_true rfl) (fun x y hx => e_X10_restore (Nat.le_trans (Nat.le_of_ble_eq_true rfl) hf) hc2 hx) fun v4 W3 h => ?_
  refine V_istore (i := 6) dL_law_3400 (Nat.le_of_ble_eq_true rfl) ?_
  refine V_aload_n (i := 2) dL_law_3402 rfl rfl ?_
  refine D_cVI (As := []) h dL_law_3403 cv_L_176 rfl ⟨_, _, _, (mem_30 hc2), rfl, rfl⟩ rfl (Nat.le_of_ble_eq_true rfl) (fun x hx => e_X10_thrown (Nat.le_trans (Nat.le_of_ble_eq_true rfl) hf) hc2 hx) fun v5 h => ?_
  refine V_iload (i := 5) dL_law_3406 rfl ?_
  refine D_icmp_eq (tgt := 3413) h dL_law_3408 rfl (fun b6 h => ?_) (fun b6 h => ?_)
  · refine V_iload (i := 5) dL_law_3413 rfl ?_
    refine D_if_ne (tgt := 3430) h dL_law_3415 rfl (fun b7 h => ?_) (fun b7 h => ?_)
    · refine V_goto (tgt := 3490) dL_law_3430 rfl ?_
      obtain rfl := Option.some.inj h
      refine V_spare (k2 := k) (n2 := n) (by omega) (by omega) ?_
      exact V_sub (ks := [2, 3, 4, 5, 6]) rfl (hk _)
    · refine V_aload_n (i := 3) dL_law_3418 rfl rfl ?_
      refine V_iconst (v := 0) dL_law_3419 (by decide) ?_
      refine D3_lld hc3 dL_law_3420 ?_
      refine V_iload (i := 6) dL_law_3421 rfl ?_
      refine V_i2l dL_law_3423 rfl ?_
      refine V_lcmp dL_law_3424 ?_
      refine D_if_eq (tgt := 3430) h dL_law_3425 rfl (fun b8 h => ?_) (fun b8 h => ?_)
      · refine V_goto (tgt := 3490) dL_law_3430 rfl ?_
        obtain rfl := Option.some.inj h
        refine V_spare (k2 := k) (n2 := n) (by omega) (by omega) ?_
        exact V_sub (ks := [2, 3, 4, 5, 6]) rfl (hk _)
      · refine V_iconst (v := 0) dL_law_3428 (by decide) ?_
        cases h
  · refine V_iconst (v := 0) dL_law_3411 (by decide) ?_
    cases h
noncomputable def fc_62 (L : Nat) (s : Nat → Int32) (x4 : Int32) (W : Nat → Nat → Int32) : Option (Nat → Nat → Int32) :=
  bd2 (f_L_undo W) (fun v2 W1 => bd2 (f_X10_undo W1) (fun v4 W3 => bdc (f_X10_thrown W3) (fun v5 => if v5 = v2 then if v2 = 0 then if (lg_cmp (W3 31 0).toInt64 (v4).toInt64) = 0 then some W3 else none else some W3 else none)))
theorem ec_62 {G : GT} {f b c : Nat} {M : MM} {hi k n : Nat} {x4 : Int32} {W r : Nat → Nat → Int32} (hf : 14 ≤ f) (hc3 : 620 ≤ c) (hk : ∀ hi, V G f (Ex G f) mL_law PL 3490 [(0, .ref G.1), (1, .ref b), (2, .ref (b + 609)), (3, .ref (b + 619)), (4, .int x4)] [] (MEM b c r M) hi k n) (h : fc_62 G.2.1 G.2.2.1 x4 W = some r) : V G f (Ex G f) mL_law PL 3433 [(0, .ref G.1), (1, .ref b), (2, .ref (b + 609)), (3, .ref (b + 619)), (4, .int x4)] [] (MEM b c W M) hi (k + 4) (n + 24) := by
  have hc1 : 609 ≤ c := Nat.le_trans (Nat.le_of_ble_eq_true rfl) hc3
  have hc2 : 619 ≤ c := Nat.le_trans (Nat.le_of_ble_eq_true rfl) hc3
  unfold fc_62 at h
  refine V_spare (k2 := k + 1) (n2 := n + 6) (Nat.add_le_add_left (Nat.le_of_ble_eq_true rfl) _) (Nat.add_le_add_left (Nat.le_of_ble_eq_true rfl) _) ?_
  refine V_aload_n (i := 1) dL_law_3433 rfl rfl ?_
  refine V_aload_n (i := 3) dL_law_3434 rfl rfl ?_
  refine D_cSXIW (As := [_, _]) (μ := fun W1 => (MEM b c W1 M)) (k2 := 1) (n2 := 6) h dL_law_3435 cx_L_385 rfl rfl (Nat.le_of_ble_eq_true rfl) (fun x y hx => e_L_undo (Nat.le_trans (Nat.le_of_ble_eq_true rfl) hf) hc3 hx) fun v2 W1 hi h => ?_
  refine V_istore (i := 5) dL_law_3438 (Nat.le_of_ble_eq_true rfl) ?_
  refine V_aload_n (i := 2) dL_law_3440 rfl rfl ?_
  refine D_cVIW (As := []) (μ := fun W3 => (MEM b c W3 M)) h dL_law_3441 cv_L_387 rfl ⟨_, _, _, (mem_30 hc2), rfl, rfl⟩ rfl (Nat.le_of_ble_eq_true rfl) (fun x y hx => e_X10_undo (Nat.le_trans (Nat.le_of_ble_eq_true rfl) hf) hc2 hx) fun v4 W3 h => ?_
  refine V_istore (i := 6) dL_law_3444 (Nat.le_of_ble_eq_true rfl) ?_
  refine V_aload_n (i := 2) dL_law_3446 rfl rfl ?_
  refine D_cVI (As := []) h dL_law_3447 cv_L_176 rfl ⟨_, _, _, (mem_30 hc2), rfl, rfl⟩ rfl (Nat.le_of_ble_eq_true rfl) (fun x hx => e_X10_thrown (Nat.le_trans (Nat.le_of_ble_eq_true rfl) hf) hc2 hx) fun v5 h => ?_
  refine V_iload (i := 5) dL_law_3450 rfl ?_
  refine D_icmp_eq (tgt := 3457) h dL_law_3452 rfl (fun b6 h => ?_) (fun b6 h => ?_)
  · refine V_iload (i := 5) dL_law_3457 rfl ?_
    refine D_if_ne (tgt := 3474) h dL_law_3459 rfl (fun b7 h => ?_) (fun b7 h => ?_)
    · refine V_goto (tgt := 3490) dL_law_3474 rfl ?_
      obtain rfl := Option.some.inj h
      refine V_spare (k2 := k) (n2 := n) (by omega) (by omega) ?_
      exact V_sub (ks := [2, 3, 4, 5, 6]) rfl (hk _)
    · refine V_aload_n (i := 3) dL_law_3462 rfl rfl ?_
      refine V_iconst (v := 0) dL_law_3463 (by decide) ?_
      refine D3_lld hc3 dL_law_3464 ?_
      refine V_iload (i := 6) dL_law_3465 rfl ?_
      refine V_i2l dL_law_3467 rfl ?_
      refine V_lcmp dL_law_3468 ?_
      refine D_if_eq (tgt := 3474) h dL_law_3469 rfl (fun b8 h => ?_) (fun b8 h => ?_)
      · refine V_goto (tgt := 3490) dL_law_3474 rfl ?_
        obtain rfl := Option.some.inj h
        refine V_spare (k2 := k) (n2 := n) (by omega) (by omega) ?_
        exact V_sub (ks := [2, 3, 4, 5, 6]) rfl (hk _)
      · refine V_iconst (v := 0) dL_law_3472 (by decide) ?_
        cases h
  · refine V_iconst (v := 0) dL_law_3455 (by decide) ?_
    cases h
noncomputable def fc_63 (L : Nat) (s : Nat → Int32) (x4 : Int32) (W : Nat → Nat → Int32) : Option (Nat → Nat → Int32) :=
  bdc (f_X9_undoDepth W) (fun v1 => bd2 (f_X10_undoDepth W) (fun v3 W2 => if v1 = v3 then some W2 else none))
theorem ec_63 {G : GT} {f b c : Nat} {M : MM} {hi k n : Nat} {x4 : Int32} {W r : Nat → Nat → Int32} (hf : 14 ≤ f) (hc3 : 620 ≤ c) (hk : ∀ hi, V G f (Ex G f) mL_law PL 3490 [(0, .ref G.1), (1, .ref b), (2, .ref (b + 609)), (3, .ref (b + 619)), (4, .int x4)] [] (MEM b c r M) hi k n) (h : fc_63 G.2.1 G.2.2.1 x4 W = some r) : V G f (Ex G f) mL_law PL 3477 [(0, .ref G.1), (1, .ref b), (2, .ref (b + 609)), (3, .ref (b + 619)), (4, .int x4)] [] (MEM b c W M) hi (k + 4) (n + 24) := by
  have hc1 : 609 ≤ c := Nat.le_trans (Nat.le_of_ble_eq_true rfl) hc3
  have hc2 : 619 ≤ c := Nat.le_trans (Nat.le_of_ble_eq_true rfl) hc3
  unfold fc_63 at h
  refine V_spare (k2 := k + 0) (n2 := n + 0) (Nat.add_le_add_left (Nat.le_of_ble_eq_true rfl) _) (Nat.add_le_add_left (Nat.le_of_ble_eq_true rfl) _) ?_
  refine V_aload_n (i := 1) dL_law_3477 rfl rfl ?_
  refine D_cVI (As := []) h dL_law_3478 cv_L_388 rfl ⟨_, _, _, (mem_x9 hc1), rfl, rfl⟩ rfl (Nat.le_of_ble_eq_true rfl) (fun x hx => e_X9_undoDepth (Nat.le_trans (Nat.le_of_ble_eq_true rfl) hf) hc1 hx) fun v1 h => ?_
  refine V_aload_n (i := 2) dL_law_3481 rfl rfl ?_
  refine D_cVIW (As := []) (μ := fun W2 => (MEM b c W2 M)) h dL_law_3482 cv_L_391 rfl ⟨_, _, _, (mem_30 hc2), rfl, rfl⟩ rfl (Nat.le_of_ble_eq_true rfl) (fun x y hx => e_X10_undoDepth (Nat.le_trans (Nat.le_of_ble_eq_true rfl) hf) hc2 hx) fun v3 W2 h => ?_
  refine D_icmp_eq (tgt := 3490) h dL_law_3485 rfl (fun b4 h => ?_) (fun b4 h => ?_)
  · obtain rfl := Option.some.inj h
    refine V_spare (k2 := k) (n2 := n) (by omega) (by omega) ?_
    exact V_sub (ks := [0, 1, 2, 3, 4]) rfl (hk _)
  · refine V_iconst (v := 0) dL_law_3488 (by decide) ?_
    cases h
