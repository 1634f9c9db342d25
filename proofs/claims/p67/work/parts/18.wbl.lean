noncomputable def f_X6_isBlank (a0 : Int32) : Option Int32 :=
  if a0 = (32 : Int32) then some (1 : Int32) else if a0 = (10 : Int32) then some (1 : Int32) else some (0 : Int32)
theorem e_X6_isBlank {G : GT} {f0 : Nat}  {M : MM} {hi k n : Nat} {a0 : Int32} {r : Int32} (hf0 : 1 ≤ f0) (h : f_X6_isBlank a0 = some r) : Ex G f0 mX6_isBlank [.int a0] M hi k n (RH (.inl (some (.int r))) M hi) := by
  obtain ⟨f, rfl, hf⟩ := suc_of hf0
  unfold f_X6_isBlank at h
  refine ⟨Nat.le_of_ble_eq_true rfl, ?_⟩
  refine V_iload_n (i := 0) dX6_isBlank_0 rfl rfl ?_
  refine V_bipush (v := 32) dX6_isBlank_1 (by decide) ?_
  refine D_icmp_eq (tgt := 12) h dX6_isBlank_3 rfl (fun b1 h => ?_) (fun b1 h => ?_)
  · refine V_iconst (v := 1) dX6_isBlank_12 (by decide) ?_
    refine V_goto (tgt := 17) dX6_isBlank_13 rfl ?_
    obtain rfl := Option.some.inj h
    exact V_ireturn dX6_isBlank_17 ⟨_, rfl, rfl⟩ ⟨rfl, rfl, rfl⟩
  · refine V_iload_n (i := 0) dX6_isBlank_6 rfl rfl ?_
    refine V_bipush (v := 10) dX6_isBlank_7 (by decide) ?_
    refine D_icmp_ne (tgt := 16) h dX6_isBlank_9 rfl (fun b2 h => ?_) (fun b2 h => ?_)
    · refine V_iconst (v := 0) dX6_isBlank_16 (by decide) ?_
      obtain rfl := Option.some.inj h
      exact V_ireturn dX6_isBlank_17 ⟨_, rfl, rfl⟩ ⟨rfl, rfl, rfl⟩
    · refine V_iconst (v := 1) dX6_isBlank_12 (by decide) ?_
      refine V_goto (tgt := 17) dX6_isBlank_13 rfl ?_
      obtain rfl := Option.some.inj h
      exact V_ireturn dX6_isBlank_17 ⟨_, rfl, rfl⟩ ⟨rfl, rfl, rfl⟩
