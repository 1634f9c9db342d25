theorem tl_of {w : Cond} (i : Nat) (h : tables_1[i]? = some w) : w ∈ lw_tbl := List.mem_append_right _ (List.mem_of_getElem? h)
def FLT : List Cond := flatC (Jvm.Cond.and given_1 narrow_1)
def repS : List (String × Nat) := [("ParcelRailway", 52), ("ParcelRailway$Parser", 137), ("ParcelRailway$Parser", 143), ("ParcelRailway$Parser", 145), ("ParcelRailway$Parser", 147), ("ParcelRailway$Parser", 149), ("ParcelRailway$Parser", 151), ("ParcelRailway$Parser", 153), ("ParcelRailway$Parser", 155), ("ParcelRailway", 336), ("ParcelRailway", 339), ("ParcelRailway", 141), ("ParcelRailway", 341), ("ParcelRailway", 76), ("ParcelRailway", 86), ("ParcelRailway", 92), ("ParcelRailwayLaw", 42), ("ParcelRailwayLaw", 44), ("ParcelRailwayLaw", 50), ("ParcelRailwayLaw", 55), ("ParcelRailwayLaw", 60), ("ParcelRailwayLaw", 62), ("ParcelRailwayLaw", 64), ("ParcelRailwayLaw", 67), ("java/util/Arrays", 337), ("ParcelRailway", 287), ("ParcelRailway", 345), ("ParcelRailway", 289), ("ParcelRailway", 298), ("ParcelRailway", 347)]
def tmS (j : Nat) : Term := .string (repS.getD j ("", 0)).1 (repS.getD j ("", 0)).2
def wlS (j : Nat) : List Cond := [.exactly (tmS j) "java/lang/String", .eq (.field (tmS j) "java/lang/String" "coder" "B") (.int 0), .arrayOf (.field (tmS j) "java/lang/String" "value" "[B") .byte, .eq (.length (.field (tmS j) "java/lang/String" "value" "[B")) (.int (Int32.ofNat (lensS.getD j 0)))] ++ (List.range (lensS.getD j 0)).map (fun q => .eq (.elem (.field (tmS j) "java/lang/String" "value" "[B") (.int (Int32.ofNat q))) (.int ((bytsS.getD j []).getD q 0)))
def psS : List Nat := [334, 335, 336, 337, 338, 339, 340, 341, 342, 343, 344, 345, 346, 347, 348, 349, 350, 351, 352, 353, 354, 355, 356, 357, 358, 359, 360, 361, 362, 363, 364, 365, 366, 367, 368, 369, 370, 371, 372, 373, 374, 375, 376, 377, 378, 379, 380, 381, 382, 383, 384, 385, 386, 387, 388, 389, 390, 391, 392, 393, 394, 395, 396, 397, 398, 399, 400, 401, 402, 403, 404, 405, 406, 407, 408, 409, 410, 411, 412, 413, 414, 415, 416, 417, 418, 419, 420, 421, 422, 423, 424, 425, 426, 427, 428, 429, 430, 431, 432, 433, 434, 435, 436, 437, 438, 439, 440, 441, 442, 443, 444, 445, 446, 447, 448, 449, 450, 451, 452, 453, 454, 455, 456, 457, 458, 459, 460, 461, 462, 463, 464, 465, 466, 467, 468, 469, 470, 471, 472, 473, 474, 475, 476, 477, 478, 479, 480, 481, 482, 483, 484, 485, 486, 487, 488, 489, 490, 491, 492, 493, 494, 495, 496, 497, 498, 499, 500, 501, 502, 503, 504, 505, 506, 507, 508, 509, 510, 511, 512, 513, 514, 515, 516, 517, 518, 519, 520, 521, 522, 523, 524, 525, 526, 527, 528, 529, 530, 531, 532, 533, 534, 535, 536, 537, 538, 539, 540, 541, 542, 543, 544, 545, 546, 547, 548, 549, 550, 551, 552, 553, 554, 555, 556, 557, 558, 559, 560, 561, 562, 563, 564, 565, 566, 567, 568, 569, 570, 571, 572, 573, 574, 575, 576, 577, 578, 579, 580, 581, 582, 583, 584, 585, 586, 587, 588, 589, 590, 591, 592, 593, 594, 595, 596, 597, 598, 599, 600, 601, 602, 603, 604, 605, 606, 607, 608, 609, 610, 611, 612, 613, 614, 615, 616, 617, 618, 619, 620, 621, 622, 623, 624, 625, 626, 627, 628, 629, 630, 631, 632, 633, 634, 635, 636, 637, 638, 639, 640, 641, 642, 643, 644, 645, 646, 647, 648, 649, 650, 651, 652, 653, 654, 655, 656, 657, 658, 659, 660, 661, 662, 663, 664, 665, 666, 667, 668, 669, 670, 671, 672, 673, 674, 675, 676, 677, 678, 679, 680, 681, 682, 683, 684, 685, 686, 687, 688, 689, 690, 691, 692, 693, 694, 695, 696, 697, 698, 699, 700, 701, 702, 703, 704, 705, 706, 707, 708, 709, 710, 711, 712, 713, 714, 715, 716, 717, 718, 719, 720, 721, 722, 723, 724, 725, 726, 727, 728, 729, 730, 731, 732, 733, 734, 735, 736, 737, 738, 739, 740, 741, 742, 743, 744, 745, 746, 747, 748, 749, 750, 751, 752, 753, 754, 755, 756, 757, 758, 759, 760, 761, 762, 763, 764, 765, 766, 767, 768, 769, 770, 771, 772, 773, 774, 775, 776, 777, 778, 779, 780, 781, 782, 783, 784, 785, 786, 787, 788, 789, 790, 791, 792, 793, 794, 795, 796, 797, 798, 799, 800, 801, 802, 803, 804, 805, 806, 807, 808, 809, 810, 811, 812, 813, 814, 815, 816, 817, 818, 819, 820, 821, 822, 823, 824, 825, 826, 827, 828, 829, 830, 831, 832, 833, 834, 835, 836, 837, 838, 839, 840, 841, 842, 843, 844, 845, 846, 847, 848, 849, 850, 851, 852, 853, 854, 855, 856, 857, 858, 859, 860, 861, 862, 863, 864, 865, 866, 867, 868, 869, 870, 871, 872, 873, 874, 875, 876, 877, 878, 879, 880, 881, 882, 883, 884, 885, 886, 887, 888, 889, 890, 891, 892, 893, 894, 895, 896, 897, 898, 899, 900, 901, 902, 903, 904, 905, 906, 907, 908, 909, 910, 911, 912, 913, 914, 915, 916, 917, 918, 919, 920, 921, 922, 923, 924, 925, 926, 927, 928, 929, 930, 931, 932, 933, 934, 935, 936, 937, 938, 939, 940, 941, 942, 943, 944, 945, 946, 947, 948, 949, 950, 951, 952, 953, 954, 955, 956, 957, 958, 959, 960, 961, 962, 963, 964, 965, 966, 967]
theorem wlS_at : (List.range 30).flatMap wlS = psS.filterMap (fun i => FLT[i]?) := by decide +kernel
theorem wlS_in {j : Nat} (hj : j < 30) {w : Cond} (h : w ∈ wlS j) : w ∈ FLT := by
  have h1 : w ∈ (List.range 30).flatMap wlS := List.mem_flatMap.mpr ⟨j, List.mem_range.mpr hj, h⟩
  rw [wlS_at] at h1
  obtain ⟨i, -, hi⟩ := List.mem_filterMap.mp h1
  exact List.mem_of_getElem? hi
theorem lenS_byt : ∀ j, j < 30 → (bytsS.getD j []).length = lensS.getD j 0 := by decide +kernel
theorem bytS_ne : ∀ i, i < 30 → ∀ j, j < 30 → bytsS.getD i [] = bytsS.getD j [] → i = j := by decide +kernel
theorem fl_of {w : Cond} (i : Nat) (h : FLT[i]? = some w) : w ∈ FLT := List.mem_of_getElem? h
section Start
variable {b : Nat} {s : State}
theorem ev_len {A : Array Value} {t u : Term} (h : t.eval A s none [] s = u.eval A s none [] s) : (Term.length t).eval A s none [] s = (Term.length u).eval A s none [] s := by
  simp only [Term.eval]
  rw [h]
theorem ev_elem {A : Array Value} {t u : Term} {k : Int32} (h : t.eval A s none [] s = u.eval A s none [] s) : (Term.elem t (.int k)).eval A s none [] s = (Term.elem u (.int k)).eval A s none [] s := by
  simp only [Term.eval]
  rw [h]
theorem ev_eqR {A : Array Value} {t u : Term} {a : Nat} (h : (Cond.eq t u).before A s = true) (hu : u.eval A s none [] s = some (.ref a)) : t.eval A s none [] s = some (.ref a) := by
  cases ht : t.eval A s none [] s with
  | none => simp [Cond.before, Cond.holds, Cond.value, ht] at h
  | some v =>
    simp only [Cond.before, Cond.holds, Cond.value, ht, hu] at h
    cases v with
    | ref x => simp at h; rw [h]
    | _ => simp at h
theorem ev_eqL {A : Array Value} {t u : Term} {a : Nat} (h : (Cond.eq t u).before A s = true) (ht : t.eval A s none [] s = some (.ref a)) : u.eval A s none [] s = some (.ref a) := by
  cases hu : u.eval A s none [] s with
  | none => simp [Cond.before, Cond.holds, Cond.value, hu] at h
  | some v =>
    simp only [Cond.before, Cond.holds, Cond.value, ht, hu] at h
    cases v with
    | ref x => simp at h; rw [h]
    | _ => simp at h
theorem getD_at {l : List Int32} {k : Nat} (h : k < l.length) : l.getD k 0 = l[k] := by
  rw [List.getD_eq_getElem?_getD, List.getElem?_eq_getElem h]
  rfl
theorem ofNat_inj {a b : Nat} (ha : a ≤ 5000) (hb : b ≤ 5000) (h : Int32.ofNat a = Int32.ofNat b) : a = b := by
  have h2 := congrArg Int32.toInt h
  rw [Int32.toInt_ofNat_of_lt (by omega), Int32.toInt_ofNat_of_lt (by omega)] at h2
  omega
theorem lx_hts (hts : ∀ w ∈ lw_tbl, w.before #[Value.ref b] s = true) : ∀ w ∈ lx_tbl, w.before #[Value.ref b] s = true := by
  intro w hw
  rcases List.mem_append.mp hw with h | h
  · have key : ∀ y : MethodName, y.cls = "java/lang/AbstractStringBuilder" → (Cond.privateMethod y).before #[Value.ref b] s = true → (Cond.instanceMethod y).before #[Value.ref b] s = true → (Cond.selects "java/lang/StringBuilder" y y).before #[Value.ref b] s = true := by
      intro y hy hpriv hinst
      obtain ⟨c, r, mm, q1, q2, q3, q4, kP, hkP, hkPi⟩ := Cond.selects_spec (cls := "java/lang/StringBuilder") (x := ⟨"java/lang/AbstractStringBuilder", "isLatin1", "()Z"⟩) (y := ⟨"java/lang/AbstractStringBuilder", "isLatin1", "()Z"⟩) (hts _ (tl_of 1210 (by decide +kernel)))
      obtain ⟨mk, methM, hnamed, hmethM, -, -⟩ := Cond.instanceMethod_spec hinst
      have hfound : s.methodFound? y.cls y.name y.desc = some mk := State.methodFound?_of_named hnamed (by rw [hy]; exact ⟨by decide, by decide⟩)
      have hcls : mk.cls = mm.cls := Option.some.inj ((findClass_of_methodNamed hnamed).symm.trans ((congrArg s.vm.findClass hy).trans (findClass_of_methodNamed q3)))
      have hsel : selectMethod {} s.vm c mk = .method mk := selectMethod_private hmethM (Cond.privateMethod_at hpriv mk methM hnamed hmethM)
      have hkk : s.vm.classes[mk.cls]? = some kP := by rw [hcls]; exact hkP
      simp only [Cond.before, Cond.holds, Cond.value, q1, hfound, hnamed, hsel, hkk]
      simp
      exact hkPi
    simp only [lx_sels, lx_ys, List.map_cons, List.map_nil, List.mem_cons, List.not_mem_nil, or_false] at h
    rcases h with rfl | rfl | rfl | rfl
    · exact key _ rfl (hts _ (tl_of 1175 (by decide +kernel))) (hts _ (tl_of 1176 (by decide +kernel)))
    · exact key _ rfl (hts _ (tl_of 1179 (by decide +kernel))) (hts _ (tl_of 1180 (by decide +kernel)))
    · exact key _ rfl (hts _ (tl_of 1229 (by decide +kernel))) (hts _ (tl_of 1230 (by decide +kernel)))
    · exact key _ rfl (hts _ (tl_of 1233 (by decide +kernel))) (hts _ (tl_of 1234 (by decide +kernel)))
  · exact hts w h
theorem tl_TB {w : Cond} (h : w ∈ TB) : w ∈ lx_tbl := (List.mem_filter.mp h).1
def tD : Term := .static "java/lang/Integer" "DigitOnes" "[B"
theorem wlD_at : (List.range 100).map (fun q => Cond.eq (.elem tD (.int (Int32.ofNat q))) (.int (digV q))) = (List.range 100).filterMap (fun i => FLT[14 + i]?) := by decide +kernel
theorem st_dig (hts : ∀ w ∈ lw_tbl, w.before #[Value.ref b] s = true) (hgv : (Jvm.Cond.and given_1 narrow_1).before #[Value.ref b] s = true) : ∃ t : Nat, va_Z "java/lang/Integer" "DigitOnes" "[B" (.ref t) (gA s.heap.size) s s.heap ∧ va_T .byte t 100 (fun q => .int (digV q)) (gA s.heap.size) s s.heap := by
  have hs : ∀ c ∈ FLT, c.before #[Value.ref b] s = true := fun c hc => flat_of_before _ hgv c hc
  have hA : ∀ a : Nat, a < s.heap.size → ¬ gA s.heap.size a := fun a h q => Nat.lt_irrefl _ (Nat.lt_of_lt_of_le h q)
  have w1 : (Cond.arrayOf tD .byte).before #[Value.ref b] s = true := hs _ (fl_of 12 (by decide +kernel))
  have w2 : (Cond.eq (.length tD) (.int (Int32.ofNat 100))).before #[Value.ref b] s = true := hs _ (fl_of 13 (by decide +kernel))
  have w3 : ∀ q, q < 100 → (Cond.eq (.elem tD (.int (Int32.ofNat q))) (.int (digV q))).before #[Value.ref b] s = true := fun q hq => by
    have h1 : Cond.eq (.elem tD (.int (Int32.ofNat q))) (.int (digV q)) ∈ (List.range 100).map (fun q => Cond.eq (.elem tD (.int (Int32.ofNat q))) (.int (digV q))) := List.mem_map.mpr ⟨q, List.mem_range.mpr hq, rfl⟩
    rw [wlD_at] at h1
    obtain ⟨i, -, hi⟩ := List.mem_filterMap.mp h1
    exact hs _ (List.mem_of_getElem? hi)
  obtain ⟨t, ht, hT⟩ := va_Tof (f := fun q => .int (digV q)) (A := gA s.heap.size) (N := 100) (by decide) w1 (va_eqt w2) (fun j hj => va_eqt (w3 j hj)) hA
  exact ⟨t, va_Zof (hts _ (tl_of 1291 (by decide +kernel))) (hts _ (tl_of 22 (by decide +kernel))) ht hA, hT⟩
theorem st_strings (t0 : Nat) (hgv : (Jvm.Cond.and given_1 narrow_1).before #[Value.ref b] s = true) : ∃ adK adV : Nat → Nat, adV nSTR = t0 ∧ vk_S nSTR lensS bytsS adK adV (gA s.heap.size) s s.heap ∧ ∀ i, i < nSTR → (tmS i).eval #[Value.ref b] s none [] s = some (.ref (adK i)) := by
  have hs : ∀ c ∈ FLT, c.before #[Value.ref b] s = true := fun c hc => flat_of_before _ hgv c hc
  have hA : ∀ a : Nat, a < s.heap.size → ¬ gA s.heap.size a := fun a h q => Nat.lt_irrefl _ (Nat.lt_of_lt_of_le h q)
  have wx : ∀ i, i < nSTR → (Cond.exactly (tmS i) "java/lang/String").before #[Value.ref b] s = true := fun i hi => hs _ (wlS_in hi (by unfold wlS; exact List.mem_append_left _ List.mem_cons_self))
  have wc : ∀ i, i < nSTR → (Cond.eq (.field (tmS i) "java/lang/String" "coder" "B") (.int 0)).before #[Value.ref b] s = true := fun i hi => hs _ (wlS_in hi (by unfold wlS; exact List.mem_append_left _ (List.mem_cons_of_mem _ List.mem_cons_self)))
  have wa : ∀ i, i < nSTR → (Cond.arrayOf (.field (tmS i) "java/lang/String" "value" "[B") .byte).before #[Value.ref b] s = true := fun i hi => hs _ (wlS_in hi (by unfold wlS; exact List.mem_append_left _ (List.mem_cons_of_mem _ (List.mem_cons_of_mem _ List.mem_cons_self))))
  have wl : ∀ i, i < nSTR → (Cond.eq (.length (.field (tmS i) "java/lang/String" "value" "[B")) (.int (Int32.ofNat (lensS.getD i 0)))).before #[Value.ref b] s = true := fun i hi => hs _ (wlS_in hi (by unfold wlS; exact List.mem_append_left _ (List.mem_cons_of_mem _ (List.mem_cons_of_mem _ (List.mem_cons_of_mem _ List.mem_cons_self)))))
  have we : ∀ i, i < nSTR → ∀ j, j < lensS.getD i 0 → (Cond.eq (.elem (.field (tmS i) "java/lang/String" "value" "[B") (.int (Int32.ofNat j))) (.int ((bytsS.getD i []).getD j 0))).before #[Value.ref b] s = true := fun i hi j hj => hs _ (wlS_in hi (by unfold wlS; exact List.mem_append_right _ (List.mem_map.mpr ⟨j, List.mem_range.mpr hj, rfl⟩)))
  have h0 : ∀ i : Nat, ∃ q : Nat × Nat, i < nSTR → (tmS i).eval #[Value.ref b] s none [] s = some (.ref q.1) ∧ va_O "java/lang/String" q.1 (gA s.heap.size) s s.heap ∧ va_OF "java/lang/String" "coder" "B" (.int 0) q.1 (gA s.heap.size) s s.heap ∧ va_OF "java/lang/String" "value" "[B" (.ref q.2) q.1 (gA s.heap.size) s s.heap ∧ va_T .byte q.2 (lensS.getD i 0) (fun j => .int ((bytsS.getD i []).getD j 0)) (gA s.heap.size) s s.heap := by
    intro i
    by_cases hi : i < nSTR
    · obtain ⟨a, c, cA, kA, q1, q2, q3, q4, q5, q6, -⟩ := Cond.exactly_spec (args := #[Value.ref b]) (first := s) (o := none) (s := s) (idx := []) (t := tmS i) (cls := "java/lang/String") (wx i hi)
      obtain ⟨t, ht, hT⟩ := va_Tof (f := fun j => .int ((bytsS.getD i []).getD j 0)) (A := gA s.heap.size) (Nat.lt_of_le_of_lt (lenS_le i) (by decide)) (wa i hi) (va_eqt (wl i hi)) (fun j hj => va_eqt (we i hi j hj)) hA
      exact ⟨(a, t), fun _ => ⟨q1, ⟨cA, q3, q5, by rw [q6]; exact q2, hA a (Array.getElem?_eq_some_iff.mp q3).1⟩, vk_OFof q1 (va_eqt (wc i hi)) hA, vk_OFof q1 ht hA, hT⟩⟩
    · exact ⟨(0, 0), fun h => absurd h hi⟩
  obtain ⟨ad, had⟩ := Classical.axiomOfChoice h0
  refine ⟨fun i => (ad i).1, fun i => if i = nSTR then t0 else (ad i).2, if_pos rfl, ⟨fun i hi => ?_, fun i j hi hj e => ?_⟩, fun i hi => (had i hi).1⟩
  · simp only [if_neg (Nat.ne_of_lt hi)]
    exact (had i hi).2
  have hf : (Term.field (tmS i) "java/lang/String" "value" "[B").eval #[Value.ref b] s none [] s = (Term.field (tmS j) "java/lang/String" "value" "[B").eval #[Value.ref b] s none [] s := by
    rw [va_fe (had i hi).1, va_fe (had j hj).1]
    show s.fieldOf? (ad i).1 _ _ _ = s.fieldOf? (ad j).1 _ _ _
    rw [show (ad i).1 = (ad j).1 from e]
  have hle : lensS.getD i 0 = lensS.getD j 0 := by
    have h1 := (va_eqt (wl i hi)).symm.trans ((ev_len hf).trans (va_eqt (wl j hj)))
    exact ofNat_inj (lenS_le i) (lenS_le j) (Value.int.inj (Option.some.inj h1))
  refine bytS_ne i hi j hj (List.ext_getElem (by rw [lenS_byt i hi, lenS_byt j hj, hle]) fun k h1 h2 => ?_)
  have hk1 : k < lensS.getD i 0 := by rw [← lenS_byt i hi]; exact h1
  have hk2 : k < lensS.getD j 0 := by rw [← hle]; exact hk1
  have h3 := (va_eqt (we i hi k hk1)).symm.trans ((ev_elem hf).trans (va_eqt (we j hj k hk2)))
  have h4 := Value.int.inj (Option.some.inj h3)
  exact (getD_at h1).symm.trans (h4.trans (getD_at h2))
theorem st_K (hts : ∀ w ∈ lw_tbl, w.before #[Value.ref b] s = true) : ∃ (D : va_G) (cyt : Nat → ClassId), va_K D vwCl (TYL cyt) s := by
  have htb : ∀ w ∈ TB, w.before #[Value.ref b] s = true := fun w hw => lx_hts hts w (tl_TB hw)
  have h0 : ∀ k : Nat, ∃ q : ClassId × (Nat → Nat), ∀ r : vw_C, vwCl[k]? = some r → u_Kn s r.1 r.2.1 r.2.2 q.1 q.2 := by
    intro k
    match k with
    | 0 => obtain ⟨c0, i0, h⟩ := u_known (C := RX0) (T := TX0) (N := 3) (n := 3) htb vin_X0 (htb _ tw_332); exact ⟨(c0, i0), fun r hr => by cases (show some (RX0, TX0, 3) = some r from hr); exact h⟩
    | 1 => obtain ⟨c0, i0, h⟩ := u_known (C := RX1) (T := TX1) (N := 2) (n := 2) htb vin_X1 (htb _ tw_351); exact ⟨(c0, i0), fun r hr => by cases (show some (RX1, TX1, 2) = some r from hr); exact h⟩
    | 2 => obtain ⟨c0, i0, h⟩ := u_known (C := RX2) (T := TX2) (N := 10) (n := 10) htb vin_X2 (htb _ tw_155); exact ⟨(c0, i0), fun r hr => by cases (show some (RX2, TX2, 10) = some r from hr); exact h⟩
    | 3 => obtain ⟨c0, i0, h⟩ := u_known (C := RX3) (T := TX3) (N := 11) (n := 11) htb vin_X3 (htb _ tw_260); exact ⟨(c0, i0), fun r hr => by cases (show some (RX3, TX3, 11) = some r from hr); exact h⟩
    | 4 => obtain ⟨c0, i0, h⟩ := u_known (C := RX4) (T := TX4) (N := 12) (n := 12) htb vin_X4 (htb _ tw_40); exact ⟨(c0, i0), fun r hr => by cases (show some (RX4, TX4, 12) = some r from hr); exact h⟩
    | 5 => obtain ⟨c0, i0, h⟩ := u_known (C := RX5) (T := TX5) (N := 4) (n := 4) htb vin_X5 (htb _ tw_53); exact ⟨(c0, i0), fun r hr => by cases (show some (RX5, TX5, 4) = some r from hr); exact h⟩
    | 6 => obtain ⟨c0, i0, h⟩ := u_known (C := RX6) (T := TX6) (N := 5) (n := 5) htb vin_X6 (htb _ tw_266); exact ⟨(c0, i0), fun r hr => by cases (show some (RX6, TX6, 5) = some r from hr); exact h⟩
    | 7 => obtain ⟨c0, i0, h⟩ := u_known (C := RX7) (T := TX7) (N := 4) (n := 4) htb vin_X7 (htb _ tw_78); exact ⟨(c0, i0), fun r hr => by cases (show some (RX7, TX7, 4) = some r from hr); exact h⟩
    | 8 => obtain ⟨c0, i0, h⟩ := u_known (C := RX8) (T := TX8) (N := 10) (n := 10) htb vin_X8 (htb _ tw_102); exact ⟨(c0, i0), fun r hr => by cases (show some (RX8, TX8, 10) = some r from hr); exact h⟩
    | 9 => obtain ⟨c0, i0, h⟩ := u_known (C := RX9) (T := TX9) (N := 7) (n := 7) htb vin_X9 (htb _ tw_32); exact ⟨(c0, i0), fun r hr => by cases (show some (RX9, TX9, 7) = some r from hr); exact h⟩
    | 10 => obtain ⟨c0, i0, h⟩ := u_known (C := RX10) (T := TX10) (N := 17) (n := 17) htb vin_X10 (htb _ tw_716); exact ⟨(c0, i0), fun r hr => by cases (show some (RX10, TX10, 17) = some r from hr); exact h⟩
    | 11 => obtain ⟨c0, i0, h⟩ := u_known (C := RJ0) (T := TJ0) (N := 4) (n := 4) htb vin_J0 (htb _ tw_1314); exact ⟨(c0, i0), fun r hr => by cases (show some (RJ0, TJ0, 4) = some r from hr); exact h⟩
    | 12 => obtain ⟨c0, i0, h⟩ := u_known (C := RJ4) (T := TJ4) (N := 4) (n := 4) htb vin_J4 (htb _ tw_1132); exact ⟨(c0, i0), fun r hr => by cases (show some (RJ4, TJ4, 4) = some r from hr); exact h⟩
    | n + 13 => exact ⟨(0, fun _ => 0), fun r hr => by simp [vwCl] at hr⟩
  have h1 : ∀ t : Nat, ∃ c : ClassId, t < 10 → ArrOfT s c (tyk t) ∧ va_RA s c (tyk t) := by
    have pr : ∀ ty : FieldType, (Cond.arrayClass ty).before #[Value.ref b] s = true → ∃ c, ArrOfT s c ty ∧ s.vm.findClass ("[" ++ ty.toString) = some c := fun ty h => by
      obtain ⟨c, k, comp, h1, h2, h3⟩ := Cond.arrayClass_spec (args := #[Value.ref b]) (first := s) (o := none) (idx := []) h
      exact ⟨c, fun N z => ⟨(fun k h => by cases h), k, h2, comp, h3⟩, h1⟩
    have ob : ∀ C : String, (Cond.arrayOver (.object C)).before #[Value.ref b] s = true → ∃ c, ArrOfT s c (.object C) ∧ va_RA s c (.object C) := fun C h => by
      obtain ⟨comp, c, k, h1, h2, h3, h4, h5⟩ := Cond.arrayOver_spec (args := #[Value.ref b]) (first := s) (o := none) (idx := []) h
      exact ⟨c, fun N z => ⟨(fun k h => by cases h), k, h3, comp, h4⟩, k, comp, h3, h4, h1, h5⟩
    have oa : ∀ T : FieldType, (Cond.arrayOver (.array T)).before #[Value.ref b] s = true → ∃ c, ArrOfT s c (.array T) ∧ va_RA s c (.array T) := fun T h => by
      obtain ⟨comp, c, k, h1, h2, h3, h4, h5⟩ := arrayOverA_spec h
      exact ⟨c, fun N z => ⟨(fun k h => by cases h), k, h3, comp, h4⟩, h5⟩
    intro t
    match t with
    | 0 => obtain ⟨c, h1, h2⟩ := pr .byte (htb _ tw_291); exact ⟨c, fun _ => ⟨h1, h2⟩⟩
    | 1 => obtain ⟨c, h1, h2⟩ := pr .int (htb _ tw_77); exact ⟨c, fun _ => ⟨h1, h2⟩⟩
    | 2 => obtain ⟨c, h1, h2⟩ := pr .boolean (htb _ tw_682); exact ⟨c, fun _ => ⟨h1, h2⟩⟩
    | 3 => obtain ⟨c, h1, h2⟩ := oa .int (hts _ (tl_of 722 (by decide +kernel))); exact ⟨c, fun _ => ⟨h1, h2⟩⟩
    | 9 => obtain ⟨c, h1, h2⟩ := oa .boolean (hts _ (tl_of 729 (by decide +kernel))); exact ⟨c, fun _ => ⟨h1, h2⟩⟩
    | 4 => obtain ⟨c, h1, h2⟩ := ob RX2 (hts _ (tl_of 52 (by decide +kernel))); exact ⟨c, fun _ => ⟨h1, h2⟩⟩
    | 5 => obtain ⟨c, h1, h2⟩ := ob RX4 (hts _ (tl_of 338 (by decide +kernel))); exact ⟨c, fun _ => ⟨h1, h2⟩⟩
    | 6 => obtain ⟨c, h1, h2⟩ := ob RX5 (hts _ (tl_of 46 (by decide +kernel))); exact ⟨c, fun _ => ⟨h1, h2⟩⟩
    | 7 => obtain ⟨c, h1, h2⟩ := ob RX7 (hts _ (tl_of 48 (by decide +kernel))); exact ⟨c, fun _ => ⟨h1, h2⟩⟩
    | 8 => obtain ⟨c, h1, h2⟩ := ob RX8 (hts _ (tl_of 50 (by decide +kernel))); exact ⟨c, fun _ => ⟨h1, h2⟩⟩
    | n + 10 => exact ⟨0, fun h => absurd h (by omega)⟩
  obtain ⟨q, hq⟩ := Classical.axiomOfChoice h0
  obtain ⟨cyt, hc⟩ := Classical.axiomOfChoice h1
  refine ⟨(fun k => (q k).1, fun k => (q k).2), cyt, fun c r hr => hq c r hr, fun k z hz => ?_⟩
  match k, hz with
  | 0, hz => cases (show some (cyt 0, tyk 0) = some z from hz); exact hc 0 (by decide)
  | 1, hz => cases (show some (cyt 1, tyk 1) = some z from hz); exact hc 1 (by decide)
  | 2, hz => cases (show some (cyt 2, tyk 2) = some z from hz); exact hc 2 (by decide)
  | 3, hz => cases (show some (cyt 3, tyk 3) = some z from hz); exact hc 3 (by decide)
  | 4, hz => cases (show some (cyt 4, tyk 4) = some z from hz); exact hc 4 (by decide)
  | 5, hz => cases (show some (cyt 5, tyk 5) = some z from hz); exact hc 5 (by decide)
  | 6, hz => cases (show some (cyt 6, tyk 6) = some z from hz); exact hc 6 (by decide)
  | 7, hz => cases (show some (cyt 7, tyk 7) = some z from hz); exact hc 7 (by decide)
  | 8, hz => cases (show some (cyt 8, tyk 8) = some z from hz); exact hc 8 (by decide)
  | 9, hz => cases (show some (cyt 9, tyk 9) = some z from hz); exact hc 9 (by decide)
  | n + 10, hz => simp [TYL] at hz
theorem NC_eq : NC = [("java/lang/IllegalStateException", "java/lang/IllegalArgumentException"), ("java/lang/IllegalArgumentException", "java/lang/IllegalStateException"), ("java/lang/IndexOutOfBoundsException", "java/lang/IllegalStateException"), ("java/lang/IndexOutOfBoundsException", "java/lang/IllegalArgumentException"), ("java/util/NoSuchElementException", "java/lang/IllegalStateException"), ("java/util/NoSuchElementException", "java/lang/IllegalArgumentException")] := by decide +kernel
theorem st_KH {L : Nat} {xs : Nat → Int32} {adK adV : Nat → Nat} {t0 : Nat} (h30 : adV nSTR = t0) (hZ : va_Z "java/lang/Integer" "DigitOnes" "[B" (.ref t0) (gA s.heap.size) s s.heap ∧ va_T .byte t0 100 (fun q => .int (digV q)) (gA s.heap.size) s s.heap) (hts : ∀ w ∈ lw_tbl, w.before #[Value.ref b] s = true) (hX : va_X b L xs s s.heap) (hbl : b < s.heap.size) (hgv : (Jvm.Cond.and given_1 narrow_1).before #[Value.ref b] s = true) (hS : vk_S nSTR lensS bytsS adK adV (gA s.heap.size) s s.heap) (hev : ∀ i, i < nSTR → (tmS i).eval #[Value.ref b] s none [] s = some (.ref (adK i))) : KH (b, L, xs, adK, adV) s.heap.size s s.heap := by
  have hs : ∀ c ∈ FLT, c.before #[Value.ref b] s = true := fun c hc => flat_of_before _ hgv c hc
  have hA : ∀ a : Nat, a < s.heap.size → ¬ gA s.heap.size a := fun a h q => Nat.lt_irrefl _ (Nat.lt_of_lt_of_le h q)
  refine ⟨⟨hX, hbl, hA b hbl⟩, vx_Zqof (hts _ (tl_of 765 (by decide +kernel))) (hts _ (tl_of 23 (by decide +kernel))) (hs _ (fl_of 9 (by decide +kernel))) hA, vx_Zqof (hts _ (tl_of 767 (by decide +kernel))) (hts _ (tl_of 23 (by decide +kernel))) (hs _ (fl_of 10 (by decide +kernel))) hA, ?_, ?_, ?_, ?_, ⟨?_, ?_, by rw [show (b, L, xs, adK, adV).2.2.2.2 nSTR = t0 from h30]; exact hZ⟩, ?_, hS, va_Zof (hts _ (tl_of 376 (by decide +kernel))) (hts _ (tl_of 11 (by decide +kernel))) (va_eqt (hs _ (fl_of 4 (by decide +kernel)))) hA, va_Zqof (hts _ (tl_of 392 (by decide +kernel))) (hts _ (tl_of 13 (by decide +kernel))) (hs _ (fl_of 5 (by decide +kernel))) hA⟩
  · intro q hq
    simp only [STR, List.mem_cons, List.not_mem_nil, or_false] at hq
    rcases hq with rfl | rfl | rfl | rfl | rfl | rfl | rfl | rfl | rfl | rfl | rfl | rfl | rfl | rfl | rfl | rfl | rfl | rfl | rfl | rfl | rfl | rfl | rfl | rfl | rfl | rfl | rfl | rfl | rfl | rfl
    · exact vk_R.of (hts _ (tl_of 362 (by decide +kernel))) (hev 0 (by decide))
    · exact vk_R.of (hts _ (tl_of 470 (by decide +kernel))) (hev 1 (by decide))
    · exact vk_R.of (hts _ (tl_of 475 (by decide +kernel))) (hev 2 (by decide))
    · exact vk_R.of (hts _ (tl_of 476 (by decide +kernel))) (hev 3 (by decide))
    · exact vk_R.of (hts _ (tl_of 477 (by decide +kernel))) (hev 4 (by decide))
    · exact vk_R.of (hts _ (tl_of 478 (by decide +kernel))) (hev 5 (by decide))
    · exact vk_R.of (hts _ (tl_of 479 (by decide +kernel))) (hev 6 (by decide))
    · exact vk_R.of (hts _ (tl_of 480 (by decide +kernel))) (hev 7 (by decide))
    · exact vk_R.of (hts _ (tl_of 481 (by decide +kernel))) (hev 8 (by decide))
    · exact vk_R.of (hts _ (tl_of 780 (by decide +kernel))) (hev 9 (by decide))
    · exact vk_R.of (hts _ (tl_of 828 (by decide +kernel))) (hev 10 (by decide))
    · exact vk_R.of (hts _ (tl_of 846 (by decide +kernel))) (hev 11 (by decide))
    · exact vk_R.of (hts _ (tl_of 869 (by decide +kernel))) (hev 12 (by decide))
    · exact vk_R.of (hts _ (tl_of 1083 (by decide +kernel))) (hev 13 (by decide))
    · exact vk_R.of (hts _ (tl_of 1107 (by decide +kernel))) (hev 14 (by decide))
    · exact vk_R.of (hts _ (tl_of 1122 (by decide +kernel))) (hev 15 (by decide))
    · exact vk_R.of (hts _ (tl_of 1161 (by decide +kernel))) (hev 16 (by decide))
    · exact vk_R.of (hts _ (tl_of 1162 (by decide +kernel))) (hev 17 (by decide))
    · exact vk_R.of (hts _ (tl_of 1262 (by decide +kernel))) (hev 18 (by decide))
    · exact vk_R.of (hts _ (tl_of 1276 (by decide +kernel))) (hev 19 (by decide))
    · exact vk_R.of (hts _ (tl_of 1302 (by decide +kernel))) (hev 20 (by decide))
    · exact vk_R.of (hts _ (tl_of 1303 (by decide +kernel))) (hev 21 (by decide))
    · exact vk_R.of (hts _ (tl_of 1304 (by decide +kernel))) (hev 22 (by decide))
    · exact vk_R.of (hts _ (tl_of 1306 (by decide +kernel))) (hev 23 (by decide))
    · exact vk_R.of (hts _ (tl_of 1349 (by decide +kernel))) (hev 24 (by decide))
    · exact vk_R.of (hts _ (tl_of 1382 (by decide +kernel))) (hev 25 (by decide))
    · exact vk_R.of (hts _ (tl_of 1386 (by decide +kernel))) (hev 26 (by decide))
    · exact vk_R.of (hts _ (tl_of 1387 (by decide +kernel))) (hev 27 (by decide))
    · exact vk_R.of (hts _ (tl_of 1402 (by decide +kernel))) (hev 28 (by decide))
    · exact vk_R.of (hts _ (tl_of 1418 (by decide +kernel))) (hev 29 (by decide))
  · intro q hq
    simp only [nwM, List.mem_cons, List.not_mem_nil, or_false] at hq
    rcases hq with rfl | rfl | rfl | rfl | rfl
    · exact va_Nw.of rfl (hts _ (tl_of 54 (by decide +kernel)))
    · exact va_Nw.of rfl (hts _ (tl_of 79 (by decide +kernel)))
    · exact va_Nw.of rfl (hts _ (tl_of 261 (by decide +kernel)))
    · exact va_Nw.of rfl (hts _ (tl_of 267 (by decide +kernel)))
    · exact va_Nw.of rfl (hts _ (tl_of 352 (by decide +kernel)))
  · intro q hq
    simp only [nwD, List.mem_cons, List.not_mem_nil, or_false] at hq
    rcases hq with rfl | rfl | rfl | rfl | rfl | rfl
    · exact va_Nw.of rfl (hts _ (tl_of 741 (by decide +kernel)))
    · exact va_Nw.of rfl (hts _ (tl_of 742 (by decide +kernel)))
    · exact va_Nw.of rfl (hts _ (tl_of 743 (by decide +kernel)))
    · exact va_Nw.of rfl (hts _ (tl_of 744 (by decide +kernel)))
    · exact va_Nw.of rfl (hts _ (tl_of 745 (by decide +kernel)))
    · exact va_Nw.of rfl (hts _ (tl_of 746 (by decide +kernel)))
  · intro q hq
    simp only [nwC, List.mem_cons, List.not_mem_nil, or_false] at hq
    rcases hq with rfl | rfl | rfl | rfl | rfl | rfl | rfl | rfl | rfl | rfl | rfl | rfl | rfl | rfl | rfl | rfl | rfl | rfl | rfl | rfl | rfl | rfl | rfl
    · exact va_Nw.of rfl (hts _ (tl_of 740 (by decide +kernel)))
    · exact va_Nw.of rfl (hts _ (tl_of 839 (by decide +kernel)))
    · exact va_Nw.of rfl (hts _ (tl_of 1076 (by decide +kernel)))
    · exact va_Nw.of rfl (hts _ (tl_of 1100 (by decide +kernel)))
    · exact va_Nw.of rfl (hts _ (tl_of 1201 (by decide +kernel)))
    · exact va_Nw.of rfl (hts _ (tl_of 1439 (by decide +kernel)))
    · exact va_Nw.of rfl (hts _ (tl_of 1440 (by decide +kernel)))
    · exact va_Nw.of rfl (hts _ (tl_of 1441 (by decide +kernel)))
    · exact va_Nw.of rfl (hts _ (tl_of 1442 (by decide +kernel)))
    · exact va_Nw.of rfl (hts _ (tl_of 1443 (by decide +kernel)))
    · exact va_Nw.of rfl (hts _ (tl_of 1444 (by decide +kernel)))
    · exact va_Nw.of rfl (hts _ (tl_of 1445 (by decide +kernel)))
    · exact va_Nw.of rfl (hts _ (tl_of 1446 (by decide +kernel)))
    · exact va_Nw.of rfl (hts _ (tl_of 1447 (by decide +kernel)))
    · exact va_Nw.of rfl (hts _ (tl_of 1448 (by decide +kernel)))
    · exact va_Nw.of rfl (hts _ (tl_of 1449 (by decide +kernel)))
    · exact va_Nw.of rfl (hts _ (tl_of 1450 (by decide +kernel)))
    · exact va_Nw.of rfl (hts _ (tl_of 1451 (by decide +kernel)))
    · exact va_Nw.of rfl (hts _ (tl_of 1452 (by decide +kernel)))
    · exact va_Nw.of rfl (hts _ (tl_of 1453 (by decide +kernel)))
    · exact va_Nw.of rfl (hts _ (tl_of 1454 (by decide +kernel)))
    · exact va_Nw.of rfl (hts _ (tl_of 1455 (by decide +kernel)))
    · exact va_Nw.of rfl (hts _ (tl_of 1456 (by decide +kernel)))
  · intro q hq
    simp only [nwA, List.mem_cons, List.not_mem_nil, or_false] at hq
    rcases hq with rfl | rfl | rfl | rfl | rfl
    · exact va_AO.of (hts _ (tl_of 46 (by decide +kernel)))
    · exact va_AO.of (hts _ (tl_of 48 (by decide +kernel)))
    · exact va_AO.of (hts _ (tl_of 50 (by decide +kernel)))
    · exact va_AO.of (hts _ (tl_of 52 (by decide +kernel)))
    · exact va_AO.of (hts _ (tl_of 338 (by decide +kernel)))
  · intro q hq
    simp only [nwAA, List.mem_cons, List.not_mem_nil, or_false] at hq
    rcases hq with rfl | rfl
    · exact over_moved (Vm.Alike.refl _) (hts _ (tl_of 722 (by decide +kernel)))
    · exact over_moved (Vm.Alike.refl _) (hts _ (tl_of 729 (by decide +kernel)))
  · intro q hq
    rw [NC_eq] at hq
    simp only [List.mem_cons, List.not_mem_nil, or_false] at hq
    rcases hq with rfl | rfl | rfl | rfl | rfl | rfl
    · exact va_Nc.of (hs _ (fl_of 229 (by decide +kernel)))
    · exact va_Nc.of (hs _ (fl_of 245 (by decide +kernel)))
    · exact va_Nc.of (hs _ (fl_of 247 (by decide +kernel)))
    · exact va_Nc.of (hs _ (fl_of 231 (by decide +kernel)))
    · exact va_Nc.of (hs _ (fl_of 248 (by decide +kernel)))
    · exact va_Nc.of (hs _ (fl_of 232 (by decide +kernel)))
end Start
