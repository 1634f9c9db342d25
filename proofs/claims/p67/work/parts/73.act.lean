/-! an act, and what the Hand makes of it -/
noncomputable def x_AB (W : Nat → Nat → Int32) (v1 v2 v4 v7 v8 m : Int32) : Option (Int32 × (Nat → Nat → Int32)) := if m = (0 : Int32) then bt2 (f_X9_addParcel W v4 v7 ((1 : Int32) + (v8 - v8 / (9 : Int32) * (9 : Int32)))) (fun e W12 => if e = "java/lang/IllegalStateException" then some ((-9 : Int32), W12) else none) (fun v11 W10 => some (v11, W10)) else if m = (1 : Int32) then bt2 (f_X9_addParcel W v4 v7 ((1 : Int32) + (v8 - v8 / (9 : Int32) * (9 : Int32)))) (fun e W16 => if e = "java/lang/IllegalStateException" then some ((-9 : Int32), W16) else none) (fun v15 W14 => some (v15, W14)) else if m = (2 : Int32) then bdc (f_X9_parcelCount W) (fun v18 => if v18 = 0 then some ((-9 : Int32), W) else bdc (f_X9_parcelCount W) (fun v20 => gd (nz0 v20) (bt2 (f_X9_setPriority W (v1 - v1 / v20 * v20) ((1 : Int32) + (v8 - v8 / (9 : Int32) * (9 : Int32)))) (fun e W24 => if e = "java/lang/IllegalStateException" then some ((-9 : Int32), W24) else none) (fun v23 W22 => some (v23, W22))))) else if m = (3 : Int32) then bt2 (f_X9_setInspection W v4 (v8 - v8 / (6 : Int32) * (6 : Int32))) (fun e W28 => if e = "java/lang/IllegalStateException" then some ((-9 : Int32), W28) else none) (fun v27 W26 => some (v27, W26)) else if m = (4 : Int32) then bdc (f_X9_parcelCount W) (fun v30 => if v30 = 0 then some ((-9 : Int32), W) else if (v8 - v8 / (2 : Int32) * (2 : Int32)) = 0 then some ((-9 : Int32), W) else bdc (f_X9_parcelCount W) (fun v33 => gd (nz0 v33) (bt2 (f_X9_withdraw W (v1 - v1 / v33 * v33)) (fun e W37 => if e = "java/lang/IllegalStateException" then some ((-9 : Int32), W37) else none) (fun v36 W35 => some (v36, W35))))) else if m = (5 : Int32) then gd (nz0 v2) (bdt (f_X9_travelTime W v4 ((v4 + (1 : Int32)) - (v4 + (1 : Int32)) / v2 * v2)) (fun e => if e = "java/lang/IllegalStateException" then some ((-9 : Int32), W) else none) (fun v40 => if 0 ≤ v40 then gd (nz0 v2) (jn (fun (v44 : Int32) => bt2 (f_X9_setTrackOpen W v4 ((v4 + (1 : Int32)) - (v4 + (1 : Int32)) / v2 * v2) v44) (fun e W48 => if e = "java/lang/IllegalStateException" then some ((-9 : Int32), W48) else none) (fun v47 W46 => if v47 = 0 then some ((0 : Int32), W46) else some ((1 : Int32), W46))) (fun j43 => if (v8 - v8 / (3 : Int32) * (3 : Int32)) ≤ 0 then j43 (0 : Int32) else j43 (1 : Int32))) else some ((-9 : Int32), W))) else if m = (6 : Int32) then gd (nz0 v2) (bdt (f_X9_travelTime W v4 ((v4 + (1 : Int32)) - (v4 + (1 : Int32)) / v2 * v2)) (fun e => if e = "java/lang/IllegalStateException" then some ((-9 : Int32), W) else none) (fun v52 => if 0 ≤ v52 then gd (nz0 v2) (jn (fun (v56 : Int32) => bt2 (f_X9_setTrackOpen W v4 ((v4 + (1 : Int32)) - (v4 + (1 : Int32)) / v2 * v2) v56) (fun e W60 => if e = "java/lang/IllegalStateException" then some ((-9 : Int32), W60) else none) (fun v59 W58 => if v59 = 0 then some ((0 : Int32), W58) else some ((1 : Int32), W58))) (fun j55 => if (v8 - v8 / (3 : Int32) * (3 : Int32)) ≤ 0 then j55 (0 : Int32) else j55 (1 : Int32))) else some ((-9 : Int32), W))) else gd (tso m 0 6) (bt2 (f_X9_pass W ((1 : Int32) + (v1 - v1 / (3 : Int32) * (3 : Int32)))) (fun e W64 => if e = "java/lang/IllegalStateException" then some ((-9 : Int32), W64) else none) (fun v63 W62 => some (v63, W62)))
theorem x_ABx (W : Nat → Nat → Int32) (a1 : Int32) : f_L_acts W a1 = bnd (a1 / (16 : Int32)) (fun v1 => bdc (f_X9_stationCount W) (fun v2 => gd (nz0 v2) (bnd (v1 - v1 / v2 * v2) (fun v4 => gd (nz0 (v2 - (1 : Int32))) (gd (nz0 v2) (bnd (((v4 + (1 : Int32)) + ((v1 / (8 : Int32)) - (v1 / (8 : Int32)) / (v2 - (1 : Int32)) * (v2 - (1 : Int32)))) - ((v4 + (1 : Int32)) + ((v1 / (8 : Int32)) - (v1 / (8 : Int32)) / (v2 - (1 : Int32)) * (v2 - (1 : Int32)))) / v2 * v2) (fun v7 => bnd (v1 / (64 : Int32)) (fun v8 => x_AB W v1 v2 v4 v7 v8 (a1 - a1 / (16 : Int32) * (16 : Int32)))))))))) := rfl
noncomputable def x_F4 (v1 v3 v4 v5 : Int32) (Y23 : Nat → Nat → Int32) : Option (Nat → Nat → Int32) := if v5 = (4 : Int32) then gd (nz0 (Y23 60 15)) (gd (inr (v1 - v1 / (Y23 60 15) * (Y23 60 15)) (12)) (gd (inr (3 : Int32) (9)) (gd (inr (0 : Int32) (9)) (if (Y23 (40 + ix (v1 - v1 / (Y23 60 15) * (Y23 60 15))) (ix (3 : Int32))) = (Y23 (40 + ix (v1 - v1 / (Y23 60 15) * (Y23 60 15))) (ix (0 : Int32))) then gd (inr (3 : Int32) (9)) (bnd (w2 Y23 (40 + ix (v1 - v1 / (Y23 60 15) * (Y23 60 15))) (ix (3 : Int32)) (-1 : Int32)) (fun Y45 => gd (inr (8 : Int32) (9)) (bnd (w2 Y45 (40 + ix (v1 - v1 / (Y23 60 15) * (Y23 60 15))) (ix (8 : Int32)) (Y45 60 16)) (fun Y46 => some Y46)))) else gd (inr (0 : Int32) (9)) (gd (inr (1 : Int32) (9)) (bnd (w2 Y23 (40 + ix (v1 - v1 / (Y23 60 15) * (Y23 60 15))) (ix (1 : Int32)) (Y23 (40 + ix (v1 - v1 / (Y23 60 15) * (Y23 60 15))) (ix (0 : Int32)))) (fun Y42 => gd (inr (3 : Int32) (9)) (gd (inr (0 : Int32) (9)) (bnd (w2 Y42 (40 + ix (v1 - v1 / (Y23 60 15) * (Y23 60 15))) (ix (0 : Int32)) (Y42 (40 + ix (v1 - v1 / (Y23 60 15) * (Y23 60 15))) (ix (3 : Int32)))) (fun Y43 => gd (inr (7 : Int32) (9)) (bnd (w2 Y43 (40 + ix (v1 - v1 / (Y23 60 15) * (Y23 60 15))) (ix (7 : Int32)) (0 : Int32)) (fun Y44 => some Y44)))))))))))) else some Y23
noncomputable def x_F3 (v1 v3 v4 v5 : Int32) (Y19 : Nat → Nat → Int32) : Option (Nat → Nat → Int32) := jn (gd (inr v3 (hN Y19)) (gd (nz0 (Y19 60 0)) (jn (fun (v30 : Int32) => gd (inr ((v3 + (1 : Int32)) - (v3 + (1 : Int32)) / (Y19 60 0) * (Y19 60 0)) (hN Y19)) (bnd (w2 Y19 (24 + ix v3) (ix ((v3 + (1 : Int32)) - (v3 + (1 : Int32)) / (Y19 60 0) * (Y19 60 0))) (nz v30)) (fun Y32 => gd (nz0 (Y32 60 0)) (gd (inr ((v3 + (1 : Int32)) - (v3 + (1 : Int32)) / (Y32 60 0) * (Y32 60 0)) (hN Y32)) (if (v4 - v4 / (3 : Int32) * (3 : Int32)) ≤ 0 then gd (inr v3 (hN Y32)) (bnd (w2 Y32 (24 + ix ((v3 + (1 : Int32)) - (v3 + (1 : Int32)) / (Y32 60 0) * (Y32 60 0))) (ix v3) (nz (0 : Int32))) (fun Y36 => (x_F4 v1 v3 v4 v5) Y36)) else gd (inr v3 (hN Y32)) (bnd (w2 Y32 (24 + ix ((v3 + (1 : Int32)) - (v3 + (1 : Int32)) / (Y32 60 0) * (Y32 60 0))) (ix v3) (nz (1 : Int32))) (fun Y37 => (x_F4 v1 v3 v4 v5) Y37))))))) (fun j29 => if (v4 - v4 / (3 : Int32) * (3 : Int32)) ≤ 0 then j29 (0 : Int32) else j29 (1 : Int32))))) (fun j24 => if v5 = (5 : Int32) then j24 else if v5 = (6 : Int32) then j24 else (x_F4 v1 v3 v4 v5) Y19)
noncomputable def x_F2 (v1 v3 v4 v5 : Int32) (Y13 : Nat → Nat → Int32) : Option (Nat → Nat → Int32) := if v5 = (3 : Int32) then gd (inr v3 (hN Y13)) (bnd (w2 Y13 5 (ix v3) (v4 - v4 / (6 : Int32) * (6 : Int32))) (fun Y21 => (x_F3 v1 v3 v4 v5) Y21)) else (x_F3 v1 v3 v4 v5) Y13
noncomputable def x_F1 (v1 v3 v4 v5 : Int32) (Y7 : Nat → Nat → Int32) : Option (Nat → Nat → Int32) := if v5 = (2 : Int32) then gd (nz0 (Y7 60 15)) (gd (inr (v1 - v1 / (Y7 60 15) * (Y7 60 15)) (12)) (gd (inr (2 : Int32) (9)) (bnd (w2 Y7 (40 + ix (v1 - v1 / (Y7 60 15) * (Y7 60 15))) (ix (2 : Int32)) ((1 : Int32) + (v4 - v4 / (9 : Int32) * (9 : Int32)))) (fun Y17 => (x_F2 v1 v3 v4 v5) Y17)))) else (x_F2 v1 v3 v4 v5) Y7
noncomputable def x_FB (Y : Nat → Nat → Int32) (v1 v3 v4 v5 : Int32) : Option (Nat → Nat → Int32) := if (2 : Int32) ≤ v5 then (x_F1 v1 v3 v4 v5) Y else gd (nz0 ((Y 60 0) - (1 : Int32))) (gd (nz0 (Y 60 0)) (gd (inr (Y 60 15) 12) (bnd (f_X10_add Y v3 (((v3 + (1 : Int32)) + ((v1 / (8 : Int32)) - (v1 / (8 : Int32)) / ((Y 60 0) - (1 : Int32)) * ((Y 60 0) - (1 : Int32)))) - ((v3 + (1 : Int32)) + ((v1 / (8 : Int32)) - (v1 / (8 : Int32)) / ((Y 60 0) - (1 : Int32)) * ((Y 60 0) - (1 : Int32)))) / (Y 60 0) * (Y 60 0)) ((1 : Int32) + (v4 - v4 / (9 : Int32) * (9 : Int32)))) (fun Y11 => (x_F1 v1 v3 v4 v5) Y11))))
theorem x_FBx (Y : Nat → Nat → Int32) (a2 : Int32) : f_X10_follow Y a2 = bnd (a2 / (16 : Int32)) (fun v1 => gd (nz0 (Y 60 0)) (bnd (v1 - v1 / (Y 60 0) * (Y 60 0)) (fun v3 => bnd (v1 / (64 : Int32)) (fun v4 => bnd (a2 - a2 / (16 : Int32) * (16 : Int32)) (fun v5 => x_FB Y v1 v3 v4 v5))))) := rfl
def x_LI (b : Int) (W Y : Nat → Nat → Int32) (s : Nat → Int) : Prop := W 0 = zV s ∧ x_J b s ∧ x_rel s Y ∧ (3 ≤ s 1 ∧ s 1 ≤ 6 ∧ s 3 ≤ 3) ∧ x_hi W
section Act
variable {b : Int} {s s' : Nat → Int} {W : Nat → Nat → Int32} {Y Y' : Nat → Nat → Int32}
theorem x_mod {x y : Int} (hx : 0 ≤ x ∧ x < 2147483648) (hy : 0 < y ∧ y < 2147483648) : zI x - zI x / zI y * zI y = zI (x % y) := by
  rw [z_div hx hy, z_mul, z_sub, Int.mul_comm, ← Int.emod_def]
theorem x_mod2 {x y : Int} : zI x - zI (x / y) * zI y = zI (x % y) := by
  rw [z_mul, z_sub, Int.mul_comm, ← Int.emod_def]
theorem x_nz0 {x : Int} (h : x ≠ 0) (h1 : zR x) : nz0 (zI x) = true := by
  unfold nz0
  rw [z_l0, decide_eq_false (by rw [z_eq h1 (by unfold zR; omega)]; exact h)]
  rfl
theorem x_md {x y : Int} (hy : 0 < y) : 0 ≤ x % y ∧ x % y < y := ⟨Int.emod_nonneg _ (by omega), Int.emod_lt_of_pos _ hy⟩
theorem x_two {f r n : Int} (hf : 0 ≤ f ∧ f < n) (hr : 0 ≤ r ∧ r < n - 1) : f ≠ (f + 1 + r) % n := by
  intro e
  by_cases c : f + 1 + r < n
  · rw [Int.emod_eq_of_lt (by omega) c] at e
    omega
  · rw [show f + 1 + r = (f + 1 + r - n) + n by omega, Int.add_emod_right, Int.emod_eq_of_lt (by omega) (by omega)] at e
    omega
theorem x_ax (h0 : W 0 = zV s) (h : z_inv b s) (h1 : 3 ≤ s 1) {x : Int} (hx : 0 ≤ x ∧ x < 2147483648) : f_L_acts W (zI x) = x_AB W (zI (x / 16)) (zI (s 1)) (zI (x / 16 % s 1)) (zI ((x / 16 % s 1 + 1 + x / 16 / 8 % (s 1 - 1)) % s 1)) (zI (x / 16 / 64)) (zI (x % 16)) := by
  have c1 := h.1.2.1
  have m1 := x_md (x := x / 16) (y := s 1) (by omega)
  have m2 := x_md (x := x / 16 / 8) (y := s 1 - 1) (by omega)
  rw [x_ABx]
  unfold f_X9_stationCount
  rw [h0, z_v, show (16 : Int32) = zI 16 from z_lit 16, show (8 : Int32) = zI 8 from z_lit 8, show (64 : Int32) = zI 64 from z_lit 64, z_l1, z_div hx (by omega), z_bnd, z_bdc, x_nz0 (by omega) (by unfold zR; omega), z_gd, x_mod (by omega) (by omega), z_bnd, z_sub, x_nz0 (by omega) (by unfold zR; omega), z_gd, z_gd, z_add, z_div (by omega) (by omega), x_mod (by omega) (by omega), z_add, x_mod (by omega) (by omega), z_bnd, z_div (by omega) (by omega), z_bnd, x_mod2]
theorem x_fx (h : z_inv b s) (r : x_rel s Y) (h1 : 3 ≤ s 1) {x : Int} (hx : 0 ≤ x ∧ x < 2147483648) : f_X10_follow Y (zI x) = x_FB Y (zI (x / 16)) (zI (x / 16 % s 1)) (zI (x / 16 / 64)) (zI (x % 16)) := by
  have c1 := h.1.2.1
  rw [x_FBx, r.1.1, show (16 : Int32) = zI 16 from z_lit 16, show (64 : Int32) = zI 64 from z_lit 64, z_div hx (by omega), z_bnd, x_nz0 (by omega) (by unfold zR; omega), z_gd, x_mod (by omega) (by omega), z_bnd, z_div (by omega) (by omega), z_bnd, x_mod2, z_bnd]
theorem x_li_up {c : Int} (I : x_LI b W Y s) (hc : b ≤ c) : x_LI c W Y s := by
  obtain ⟨h0, J, r, hs, hh⟩ := I
  obtain ⟨⟨⟨c0, c1, c2, c3, c4⟩, rest⟩, hu, hba⟩ := J
  exact ⟨h0, ⟨⟨⟨⟨c0.1, by omega⟩, c1, c2, c3, c4⟩, rest⟩, hu, hba⟩, r, hs, hh⟩
theorem x_li_mk (I : x_LI b W Y s) {W1 : Nat → Nat → Int32} (hh : x_hi W1) {s' : Nat → Int} {Y' : Nat → Nat → Int32} (J : x_J b s') (r : x_rel s' Y') (e1 : s' 1 = s 1) (e3 : s' 3 = s 3) : x_LI b (setU W1 0 (zV s')) Y' s' := by
  obtain ⟨n, c, h1, h2, h3⟩ := hh
  exact ⟨z_sUe, J, r, by rw [e1, e3]; exact I.2.2.2.1, n, c, by rw [z_sUu (by omega)]; exact h1, by rw [z_sUu (by omega)]; exact h2, h3⟩
theorem x_rng {a l u : Int} (h : l ≤ a ∧ a ≤ u) (hl : -1000 ≤ l) (hu : u ≤ 1000) : f_X9_checkRange (zI a) (zI l) (zI u) = some (.inr ()) := by
  unfold f_X9_checkRange
  rw [z_ltF (by omega) (by omega) (by omega), z_leT (by omega) (by omega) (by omega)]
/-- what an act that is no passing of minutes does -/
def x_out (b : Int) (W Y : Nat → Nat → Int32) (s : Nat → Int) (x : Int) : Prop := ∃ told W', f_L_acts W (zI x) = some (zI told, W') ∧ (-9 ≤ told ∧ told ≤ 1000) ∧ ((told = -9 ∧ x_LI b W' Y s) ∨ (told ≠ -9 ∧ ∃ Y' s', f_X10_follow Y (zI x) = some Y' ∧ x_LI b W' Y' s'))
theorem x_F4e {v1 v3 v4 : Int32} {m : Int} (hm : 0 ≤ m ∧ m < 16 ∧ m ≠ 4) : x_F4 v1 v3 v4 (zI m) Y = some Y := by
  unfold x_F4
  rw [show (4 : Int32) = zI 4 from z_lit 4, z_eqF (by omega) (by omega) (by omega) (by omega) (by omega)]
theorem x_F3e {v1 v3 v4 : Int32} {m : Int} (hm : 0 ≤ m ∧ m < 16 ∧ m ≠ 4 ∧ m ≠ 5 ∧ m ≠ 6) : x_F3 v1 v3 v4 (zI m) Y = some Y := by
  unfold x_F3
  rw [z_jn, show (5 : Int32) = zI 5 from z_lit 5, show (6 : Int32) = zI 6 from z_lit 6, z_eqF (by omega) (by omega) (by omega) (by omega) (by omega), z_eqF (by omega) (by omega) (by omega) (by omega) (by omega)]
  exact x_F4e (by omega)
theorem x_F2e {v1 v3 v4 : Int32} {m : Int} (hm : 0 ≤ m ∧ m < 16 ∧ m ≠ 3 ∧ m ≠ 4 ∧ m ≠ 5 ∧ m ≠ 6) : x_F2 v1 v3 v4 (zI m) Y = some Y := by
  unfold x_F2
  rw [show (3 : Int32) = zI 3 from z_lit 3, z_eqF (by omega) (by omega) (by omega) (by omega) (by omega)]
  exact x_F3e (by omega)
theorem x_F1e {v1 v3 v4 : Int32} {m : Int} (hm : 0 ≤ m ∧ m < 16 ∧ m ≠ 2 ∧ m ≠ 3 ∧ m ≠ 4 ∧ m ≠ 5 ∧ m ≠ 6) : x_F1 v1 v3 v4 (zI m) Y = some Y := by
  unfold x_F1
  rw [show (2 : Int32) = zI 2 from z_lit 2, z_eqF (by omega) (by omega) (by omega) (by omega) (by omega)]
  exact x_F2e (by omega)
theorem x_act01 (I : x_LI b W Y s) {x : Int} (hx : 0 ≤ x ∧ x < 2147483648) (hm : x % 16 = 0 ∨ x % 16 = 1) : x_out b W Y s x := by
  obtain ⟨h0, J, r, hs, hh⟩ := id I
  have h := J.1
  obtain ⟨c0, c1, c2, c3, c4⟩ := h.1
  have ax := x_ax h0 h hs.1 hx
  have fx := x_fx h r hs.1 hx
  have m1 := x_md (x := x / 16) (y := s 1) (by omega)
  have m2 := x_md (x := x / 16 / 8) (y := s 1 - 1) (by omega)
  have m3 := x_md (x := x / 16 % s 1 + 1 + x / 16 / 8 % (s 1 - 1)) (y := s 1) (by omega)
  have ne := x_two m1 m2
  have zp : 0 ≤ x / 16 / 64 ∧ x / 16 / 64 < 2147483648 := by omega
  have rk : 1 ≤ 1 + x / 16 / 64 % 9 ∧ 1 + x / 16 / 64 % 9 ≤ 9 := by omega
  have k1 := z_Cst h0 c1 (a := x / 16 % s 1) (by unfold zR; omega)
  have k2 := z_Cst h0 c1 (a := (x / 16 % s 1 + 1 + x / 16 / 8 % (s 1 - 1)) % s 1) (by unfold zR; omega)
  rw [if_pos m1] at k1
  rw [if_pos m3] at k2
  have e2 : x_AB W (zI (x / 16)) (zI (s 1)) (zI (x / 16 % s 1)) (zI ((x / 16 % s 1 + 1 + x / 16 / 8 % (s 1 - 1)) % s 1)) (zI (x / 16 / 64)) (zI (x % 16)) = bt2 (f_X9_addParcel W (zI (x / 16 % s 1)) (zI ((x / 16 % s 1 + 1 + x / 16 / 8 % (s 1 - 1)) % s 1)) (zI (1 + x / 16 / 64 % 9))) (fun e W12 => if e = "java/lang/IllegalStateException" then some ((-9 : Int32), W12) else none) (fun v11 W10 => some (v11, W10)) := by
    unfold x_AB
    rw [show (9 : Int32) = zI 9 from z_lit 9, z_l1, z_l0, x_mod zp (by omega), z_add]
    rcases hm with hm | hm
    · rw [hm, if_pos rfl]
    · rw [hm, z_eqF (by omega) (by omega) (by omega) (by omega) (by omega), if_pos rfl]
  unfold x_out
  rw [ax, e2]
  unfold f_X9_addParcel
  rw [k1, x_bdt, k2, x_bdt, z_eqF ne (by omega) (by omega) (by omega) (by omega), z_l1, show (9 : Int32) = zI 9 from z_lit 9, show (12 : Int32) = zI 12 from z_lit 12, x_rng rk (by omega) (by omega), x_bdt, h0, z_v]
  by_cases c : s 4 < 12
  · obtain ⟨W1, e3, e4, e5, -⟩ := x_rem h0 (x_b01 h) hh
    obtain ⟨s', f1, f2, f3, f4, f5⟩ := x_addp J r m1 m3 rk c
    refine ⟨s 4, setU W1 0 (zV s'), ?_, by omega, Or.inr ⟨by omega, f_X10_add Y (zI (x / 16 % s 1)) (zI ((x / 16 % s 1 + 1 + x / 16 / 8 % (s 1 - 1)) % s 1)) (zI (1 + x / 16 / 64 % 9)), s', ?_, x_li_mk I e5 f2 f3 (f5 1 (by omega) (by omega)) (f5 3 (by omega) (by omega))⟩⟩
    · rw [z_ltT c (by omega) (by omega), e3, z_bdc, e4, f1, z_bdc, z_bnd, x_bt2, z_sUe, z_v, f4, z_sub, show s 4 + 1 - 1 = s 4 by omega]
    · rw [fx]
      unfold x_FB
      have r15 := r.1.2.2.1
      rw [r.1.1, r15, show (9 : Int32) = zI 9 from z_lit 9, show (2 : Int32) = zI 2 from z_lit 2, show (8 : Int32) = zI 8 from z_lit 8, z_l1, z_leF (by omega) (by omega) (by omega), z_sub, x_nz0 (by omega) (by unfold zR; omega), z_gd, x_nz0 (by omega) (by unfold zR; omega), z_gd, z_inr (by omega) (by omega) (by omega), z_gd, z_div (by omega) (by omega), x_mod (by omega) (by omega), z_add, z_add, x_mod (by omega) (by omega), x_mod zp (by omega), z_add, z_bnd]
      exact x_F1e (by omega)
  · refine ⟨-9, W, ?_, by omega, Or.inl ⟨rfl, I⟩⟩
    rw [z_ltF (by omega) (by omega) (by omega)]
    show (if "java/lang/IllegalStateException" = "java/lang/IllegalStateException" then some ((-9 : Int32), W) else none) = some (zI (-9), W)
    rw [if_pos rfl]
    rfl
end Act
