section SoundEx
variable {p : Program} {l : Launch} {e : Env} {R : Room} {s : State} {m : MethodId} {args : Array Value} {below : List Frame} {meth : Method} {c : Code}
variable {G : GT} {D : va_G} {cyt : Nat → ClassId} {lo : Nat} {md : MD} {f : Nat} {call : CT} {P0 : PS} {CK SK : Nat} {Qt : State → Prop}
/-- a method's body: from V at its entry to what the body owes -/
theorem body_sound {As : List Value} {M : MM} {hi : Nat} {P : PS} (B : BF p l R s m As.toArray meth c G D cyt lo md f CK SK) (HC : HCt l G D cyt lo f call) (hV : V G f call md P 0 (lv_args 0 As) [] M hi CK SK) (hlen : (lg_sl As).length ≤ md.2.2.1) (hrep : RepH D cyt lo M hi s.heap) :
    W p l e R s m As.toArray below meth c s.heap [] 0 0 (vx_MQ below (QcM D cyt lo P) (XcM D cyt lo P) As.toArray s CK SK (gA lo)) (entryFrame m As.toArray md.2.2.1) := by
  have HO : HOt p l e R s m As.toArray below meth c D cyt lo md P CK SK (vx_MQ below (QcM D cyt lo P) (XcM D cyt lo P) As.toArray s CK SK (gA lo)) := by
    intro pc lv M hi k n E H locs cells slots ls rest q ce hhh hp C hce hcv hcl
    refine vx_out (fun x hx => by rw [B.tbl, hhh] at hx; cases hx) B.lk hce hcv hcl (fun t ht _ => ⟨M, hi, hp, by rw [ht]; exact C.2.1, C.2.2.1.F ht⟩) C.2.2.1.2.2 (by have := C.2.2.2.1; omega) (by have := C.2.2.2.2; omega)
  have hl := lv_entry As (n := md.2.2.1) hlen
  rw [lg_entry_eq]
  generalize (lg_sl As ++ List.replicate (md.2.2.1 - (lg_sl As).length) Slot.unset).toArray = ls at hl ⊢
  exact hV _ (S_all B HC HO ⟨S_ireturn B, S_return B, S_areturn B, S_areturnA B, S_freturn B, S_dreturn B, S_throwS B, S_throwSW B, S_throwN B, S_throwNW B⟩) s.heap [] 0 0 ls ⟨hl, hrep, va_S.rf, by omega, by omega⟩
theorem sound (l : Launch) (hst : l.stackTraces = false) {G : GT} {D : va_G} {cyt : Nat → ClassId} {lo : Nat} : ∀ f : Nat, HCt l G D cyt lo f (Ex G f)
  | 0 => fun md2 As M hi k2 n2 P nn h _ => h.elim
  | f + 1 => fun md As M hi mc ms P nn h hok => by
    have HC := sound l hst (G := G) (D := D) (cyt := cyt) (lo := lo) f
    obtain ⟨hlen, hV⟩ := h
    refine ⟨Nat.succ_le_succ (Nat.zero_le _), ?_⟩
    show vx_Met l md.1 (codeW md :: TB) (RM f mc ms) (PcM G D cyt lo As M hi) (QcM D cyt lo P) (XcM D cyt lo P) mc ms (gA lo)
    obtain ⟨y, bytes, maxL, ret, hh⟩ := md
    cases hh with
    | nil =>
      refine vx_ofW (cc := bytes) (maxL := maxL) (ret := ret) hok.1 rfl ?_
      intro p e s m args below meth c s₁ B hml htab hPc
      obtain ⟨rfl, hrep, hK, hKH, hlo⟩ := hPc
      have hts := atoms_spec (ws := codeW (y, bytes, maxL, ret, []) :: TB) B.pre
      have BB : BF p l (RM f mc ms) s m As.toArray meth c G D cyt lo (y, bytes, maxL, ret, []) f mc ms := ⟨B.exec, B.bytes, hml, findClass_of_methodNamed B.named, fun w hw => hts w (List.mem_cons_of_mem _ hw), B.notSynchronized, B.returns, fun h => (name_of_methodNamed B.named B.method).1.trans h, List.eq_nil_iff_forall_not_mem.mpr (fun x hx => htab x hx), hK, hKH, hlo, Nat.le_refl _, Nat.le_refl _, Nat.le_refl _, Nat.le_refl _, hst⟩
      exact body_sound BB HC hV hlen hrep
    | cons h0 ht =>
      refine vx_ofWH (cc := bytes) (maxL := maxL) (ret := ret) (hh := h0 :: ht) hok.1 rfl ?_
      intro p e s m args below meth c s₁ B hml hPc
      obtain ⟨rfl, hrep, hK, hKH, hlo⟩ := hPc
      have hts := atoms_spec (ws := codeW (y, bytes, maxL, ret, h0 :: ht) :: TB) B.pre
      have BB : BF p l (RM f mc ms) s m As.toArray meth c G D cyt lo (y, bytes, maxL, ret, h0 :: ht) f mc ms := ⟨B.exec, B.bytes, hml, findClass_of_methodNamed B.named, fun w hw => hts w (List.mem_cons_of_mem _ hw), B.notSynchronized, B.returns, fun h => (name_of_methodNamed B.named B.method).1.trans h, vx_table (x := y) B (hts _ List.mem_cons_self), hK, hKH, hlo, Nat.le_refl _, Nat.le_refl _, Nat.le_refl _, Nat.le_refl _, hst⟩
      exact body_sound BB HC hV hlen hrep
end SoundEx
