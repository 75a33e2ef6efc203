theorem mStep_sound {l : Launch} {g : mG} {d k : Nat} {Φ : mR → Mm → Int64 → Prop} {MC MS : Nat} {pc : Nat} {e : Instr × Nat × Nat × Nat × Nat × List Nat} {nx : Nat → List Value → List Value → Mm → Int64 → Nat → Nat → Prop} (hk : mChk k = true) (he : mFind (mCd k) pc = some e) (hn : ∀ pc L S m o c s, nx pc L S m o c s → mWB l g d k Φ MC MS pc L S m o c s) {L S : List Value} {m : Mm} {o : Int64} {cN sN : Nat} (h : mStep l g d k Φ MC MS nx pc e L S m o cN sN) : mWB l g d k Φ MC MS pc L S m o cN sN := by
  obtain ⟨ins, len, a, b, c, ts⟩ := e
  obtain ⟨hd, hln, hp⟩ := mDec hk he
  cases ins
  case iadd => exact ms_iadd hn hd hln hp h
  case isub => exact ms_isub hn hd hln hp h
  case imul => exact ms_imul hn hd hln hp h
  case iand => exact ms_iand hn hd hln hp h
  case ior => exact ms_ior hn hd hln hp h
  case ixor => exact ms_ixor hn hd hln hp h
  case ishl => exact ms_ishl hn hd hln hp h
  case ishr => exact ms_ishr hn hd hln hp h
  case idiv => exact ms_idiv hn hd hln hp h
  case irem => exact ms_irem hn hd hln hp h
  case iushr => exact ms_iushr hn hd hln hp h
  case ineg => exact ms_ineg hn hd hln hp h
  case ladd => exact ms_ladd hn hd hln hp h
  case lsub => exact ms_lsub hn hd hln hp h
  case lmul => exact ms_lmul hn hd hln hp h
  case land => exact ms_land hn hd hln hp h
  case lor => exact ms_lor hn hd hln hp h
  case ldiv => exact ms_ldiv hn hd hln hp h
  case lrem => exact ms_lrem hn hd hln hp h
  case lshl => exact ms_lshl hn hd hln hp h
  case lshr => exact ms_lshr hn hd hln hp h
  case lcmp => exact ms_lcmp hn hd hln hp h
  case i2l => exact ms_i2l hn hd hln hp h
  case l2i => exact ms_l2i hn hd hln hp h
  case iconst => exact ms_iconst hn hd hln hp h
  case bipush => exact ms_bipush hn hd hln hp h
  case sipush => exact ms_sipush hn hd hln hp h
  case lconst => exact ms_lconst hn hd hln hp h
  case aconst_null => exact ms_aconst_null hn hd hln hp h
  case iload => exact ms_iload hn hd hln hp h
  case iload_n => exact ms_iload_n hn hd hln hp h
  case lload => exact ms_lload hn hd hln hp h
  case lload_n => exact ms_lload_n hn hd hln hp h
  case aload => exact ms_aload hn hd hln hp h
  case aload_n => exact ms_aload_n hn hd hln hp h
  case istore => exact ms_istore hn hd hln hp h
  case istore_n => exact ms_istore_n hn hd hln hp h
  case astore => exact ms_astore hn hd hln hp h
  case astore_n => exact ms_astore_n hn hd hln hp h
  case lstore => exact ms_lstore hn hd hln hp h
  case lstore_n => exact ms_lstore_n hn hd hln hp h
  case iinc => exact ms_iinc hn hd hln hp h
  case dup => exact ms_dup hn hd hln hp h
  case pop => exact ms_pop hn hd hln hp h
  case dup2 => exact ms_dup2 hn hd hln hp h
  case goto => exact ms_goto hn hd hln hp h
  case ifnull => exact ms_ifnull hn hd hln hp h
  case ifnonnull => exact ms_ifnonnull hn hd hln hp h
  case tableswitch => exact ms_tableswitch hn hd hln hp h
  case lookupswitch => exact ms_lookupswitch hn hd hln hp h
  case getfield => exact ms_getfield hn hd hln hp h
  case putfield => exact ms_putfield hn hd hln hp h
  case iaload => exact ms_iaload hn hd hln hp h
  case baload => exact ms_baload hn hd hln hp h
  case laload => exact ms_laload hn hd hln hp h
  case aaload => exact ms_aaload hn hd hln hp h
  case iastore => exact ms_iastore hn hd hln hp h
  case bastore => exact ms_bastore hn hd hln hp h
  case lastore => exact ms_lastore hn hd hln hp h
  case arraylength => exact ms_arraylength hn hd hln hp h
  case ldc => exact ms_ldc hn hd hln hp h
  case ldc_w => exact ms_ldc_w hn hd hln hp h
  case ldc2_w => exact ms_ldc2_w hn hd hln hp h
  case ireturn => exact ms_ireturn hn hd hln hp h
  case lreturn => exact ms_lreturn hn hd hln hp h
  case return_ => exact ms_return_ hn hd hln hp h
  case areturn => exact ms_areturn hn hd hln hp h
  case invokestatic => exact ms_invokestatic hn hd hln hp h
  case invokevirtual => exact ms_invokevirtual hn hd hln hp h
  case ifCond cnd off =>
    cases cnd
    · exact ms_if_eq hn hd hln hp h
    · exact ms_if_ne hn hd hln hp h
    · exact ms_if_lt hn hd hln hp h
    · exact ms_if_ge hn hd hln hp h
    · exact ms_if_gt hn hd hln hp h
    · exact ms_if_le hn hd hln hp h
  case if_icmp cnd off =>
    cases cnd
    · exact ms_icmp_eq hn hd hln hp h
    · exact ms_icmp_ne hn hd hln hp h
    · exact ms_icmp_lt hn hd hln hp h
    · exact ms_icmp_ge hn hd hln hp h
    · exact ms_icmp_gt hn hd hln hp h
    · exact ms_icmp_le hn hd hln hp h
  all_goals exact False.elim h
/-- the conditions under which a stretch of method k, from pc on, does what is asked: to the places in 'stops', n steps at most -/
def mwp (l : Launch) (g : mG) (d k : Nat) (Φ : mR → Mm → Int64 → Prop) (MC MS : Nat) (C : List mE) (stops : List Nat) : Nat → Nat → List Value → List Value → Mm → Int64 → Nat → Nat → Prop
  | 0, pc, L, S, m, o, c, s => mWB l g d k Φ MC MS pc L S m o c s
  | n + 1, pc, L, S, m, o, c, s => bif stops.any (Nat.beq pc) then mWB l g d k Φ MC MS pc L S m o c s else match mFind C pc with
    | some e => mStep l g d k Φ MC MS (mwp l g d k Φ MC MS C stops n) pc e L S m o c s
    | none => False
def mwp1 (l : Launch) (g : mG) (d k : Nat) (Φ : mR → Mm → Int64 → Prop) (MC MS : Nat) (C : List mE) (stops : List Nat) (n pc : Nat) (L S : List Value) (m : Mm) (o : Int64) (c s : Nat) : Prop := match mFind C pc with
    | some e => mStep l g d k Φ MC MS (mwp l g d k Φ MC MS C stops n) pc e L S m o c s
    | none => False
theorem mwp_sound {l : Launch} {g : mG} {d k : Nat} {Φ : mR → Mm → Int64 → Prop} {MC MS : Nat} {C : List mE} {stops : List Nat} (hk : mChk k = true) (hC : mCd k = C) : ∀ (n pc : Nat) (L S : List Value) (m : Mm) (o : Int64) (c s : Nat), mwp l g d k Φ MC MS C stops n pc L S m o c s → mWB l g d k Φ MC MS pc L S m o c s
  | 0, _, _, _, _, _, _, _, h => h
  | n + 1, pc, L, S, m, o, c, s, h => by
    have h : (bif stops.any (Nat.beq pc) then mWB l g d k Φ MC MS pc L S m o c s else match mFind C pc with
      | some e => mStep l g d k Φ MC MS (mwp l g d k Φ MC MS C stops n) pc e L S m o c s
      | none => False) := h
    cases hs : stops.any (Nat.beq pc) with
    | true => rw [hs, cond_true] at h; exact h
    | false =>
      rw [hs, cond_false] at h
      cases hf : mFind C pc with
      | none => rw [hf] at h; exact h.elim
      | some e =>
        rw [hf] at h
        exact mStep_sound hk (by rw [hC]; exact hf) (mwp_sound hk hC n) h
theorem mGoOn {l : Launch} {g : mG} {d k : Nat} {Φ : mR → Mm → Int64 → Prop} {MC MS : Nat} {C : List mE} (hk : mChk k = true) (hC : mCd k = C) (stops : List Nat) (n : Nat) {pc : Nat} {L S : List Value} {m : Mm} {o : Int64} {c s : Nat} (h : mwp1 l g d k Φ MC MS C stops n pc L S m o c s) : mWB l g d k Φ MC MS pc L S m o c s := by
  unfold mwp1 at h
  cases hf : mFind C pc with
  | none => rw [hf] at h; exact h.elim
  | some e =>
    rw [hf] at h
    exact mStep_sound hk (by rw [hC]; exact hf) (mwp_sound hk hC n) h
/-- the locals at a method's entry -/
theorem mEntry {ad : Nat → Nat} {As : List Value} {r n : Nat} (hc : ∀ v ∈ As, v.category = 1) (hn : n = As.length + r) : lv_has ((lg_sl (As.map (mtr ad)) ++ List.replicate (n - (lg_sl (As.map (mtr ad))).length) Slot.unset).toArray) n (mLv ad (As ++ List.replicate r mJ)) := by
  have hl : ∀ vs : List Value, (∀ v ∈ vs, v.category = 1) → (lg_sl vs).length = vs.length := by
    intro vs
    induction vs with
    | nil => intro _; rfl
    | cons v t ih =>
      intro h
      have h1 : v.category = 1 := h v List.mem_cons_self
      have h2 := ih (fun w hw => h w (List.mem_cons_of_mem _ hw))
      unfold lg_sl at h2 ⊢
      rw [List.flatMap_cons, List.length_append, h2, if_neg (by omega)]
      simp
      omega
  have hcm : ∀ v ∈ As.map (mtr ad), v.category = 1 := by
    intro v hv
    obtain ⟨w, hw, rfl⟩ := List.mem_map.mp hv
    rw [mtr_cat]
    exact hc w hw
  have h1 := lv_entry (As.map (mtr ad)) (n := n) (by rw [hl _ hcm, List.length_map]; omega)
  refine ⟨h1.1, h1.2.1, fun q hq => h1.2.2 q ?_⟩
  obtain ⟨j, v, e1, e2, rfl⟩ := mLv_mem.mp hq
  have key : ∀ (vs : List Value) (i j : Nat) (w : Value), (∀ v ∈ vs, v.category = 1) → vs[j]? = some w → (i + j, w) ∈ lv_args i vs := by
    intro vs
    induction vs with
    | nil => intro i j w _ h; simp at h
    | cons v t ih =>
      intro i j w h hw
      unfold lv_args
      rw [if_neg (by have := h v List.mem_cons_self; omega)]
      cases j with
      | zero =>
        simp at hw
        subst hw
        exact List.mem_cons_self
      | succ j =>
        refine List.mem_cons_of_mem _ ?_
        have := ih (i + 1) j w (fun v hv => h v (List.mem_cons_of_mem _ hv)) (by simpa using hw)
        rw [show i + (j + 1) = i + 1 + j by omega]
        exact this
  have hj : As[j]? = some v := by
    by_cases hlt : j < As.length
    · rw [List.getElem?_append_left hlt] at e1
      exact e1
    · rw [List.getElem?_append_right (by omega), List.getElem?_replicate] at e1
      split at e1
      · exact absurd (Option.some.inj e1).symm e2
      · cases e1
  have := key (As.map (mtr ad)) 0 j (mtr ad v) hcm (by rw [List.getElem?_map, hj]; rfl)
  simpa using this
/-- a method's contract out of its body -/
theorem mSat_of {l : Launch} {g : mG} {d k : Nat} {Φ : mR → Mm → Int64 → Prop} {mc ms : Nat} {As : List Value} {m : Mm} {o : Int64} (htr : l.stackTraces = false) (hpn : plainName (mY k).cls = true) (hH : mHd k = []) (hoc : mCn (mOc k) = (mY k).cls) (r : Nat) (hc : ∀ v ∈ As, v.category = 1) (hn : mNl k = As.length + r)
    (h : mWB l g d k Φ mc ms 0 (As ++ List.replicate r mJ) [] m o 0 0) : mSat l g d k As m o Φ mc ms := by
  have hcw : mCW k = .code (mY k) (mBy k) (mNl k) (mRt k) := by unfold mCW; rw [hH]
  refine vx_ofW (cc := mBy k) (maxL := mNl k) (ret := mRt k) hpn (by unfold mWs; rw [hcw]) ?_
  intro p e s mi args below meth c s₁ B hml htab hv
  obtain ⟨rfl, hWd, hPm, hBs⟩ := hv
  rw [lg_entry_eq]
  refine h p e s mi _ below meth c s.heap [] _ ⟨B.exec, B.bytes, hml, B.returns, B.notSynchronized, ?_, atoms_spec (ws := mWs k) B.pre, ?_, htr, hWd, hBs⟩ hPm va_S.rf (mEntry hc hn)
  · rw [hoc]
    exact findClass_of_methodNamed B.named
  · rw [hH]
    cases ht : c.exceptionTable.toList with
    | nil => rfl
    | cons x t => exact (htab x (by rw [ht]; exact List.mem_cons_self)).elim
/-- not caught in a method without handlers -/
theorem mXB_out {l : Launch} {g : mG} {d k : Nat} {Φ : mR → Mm → Int64 → Prop} {MC MS pc x : Nat} {L : List Value} {m : Mm} {o : Int64} {cN sN : Nat} (hH : mHd k = []) (hf : Φ (.inr x) m o) (h1 : cN ≤ MC) (h2 : sN ≤ MS) : mXB l g d k Φ MC MS pc x L m o cN sN := by
  intro p e s mi args below meth c H locs ls rest q ce C hP hS hL hq hv hcl
  obtain ⟨hx, hb, hml, hr, hlk, hown, hts, htab, htr, hW, hB⟩ := id C
  refine vx_out (fun z hz => ?_) hlk hq hv hcl (fun t ht _ => ⟨⟨x, m, o, rfl, hf, by rw [ht]; exact hP⟩, hS.F ht⟩) hS.2.2 h1 h2
  rw [htab, hH] at hz
  cases hz
