set_option maxRecDepth 100000
/-! THE FIRST CELLS: a run of the machine is a run of the law -/
theorem bNo {S : List Value} {f : Int32 → List Value → Bool × Option bC} {r : bC} (h : b1i S (fun n t => bq (f n t).1 (f n t).2) = some r) (hf : ∀ n t, (f n t).1 = false) : False := by
  obtain ⟨n, t, -, h⟩ := b1i_of h
  obtain ⟨hc, -⟩ := bq_of h
  rw [hf] at hc
  cases hc
theorem bStep_sound {l : Launch} {g : mG} {d k : Nat} {Q : List Frame → Array Value → State → State → Prop} {MC MS base pc : Nat} {e : Instr × Nat × Nat × Nat × Nat × List Nat} {L S : List Value} {σ : bS} {r : bC} (hG : bG g) (hk : mChk k = true) (he : mFind (mCd k) pc = some e) (hbs : base ≤ σ.1) (hd1 : 1 ≤ d) (h1 : r.2.2.2.1 - base ≤ MC) (h2 : bSl r.2.2.2.1 - bSl base ≤ MS) (h : bStep k pc e L S σ = some r) (kk : bWB l g d k Q MC MS base r.1 r.2.1 r.2.2.1 r.2.2.2) : bWB l g d k Q MC MS base pc L S σ := by
  obtain ⟨ins, len, a, b, c, ts⟩ := e
  obtain ⟨hd, hln, hp⟩ := mDec hk he
  cases ins
  case aload_n => exact bs_aload_n hG hbs hd1 h1 h2 hd hln hp h kk
  case iload_n => exact bs_iload_n hG hbs hd1 h1 h2 hd hln hp h kk
  case istore_n => exact bs_istore_n hG hbs hd1 h1 h2 hd hln hp h kk
  case istore => exact bs_istore hG hbs hd1 h1 h2 hd hln hp h kk
  case astore_n => exact bs_astore_n hG hbs hd1 h1 h2 hd hln hp h kk
  case iinc => exact bs_iinc hG hbs hd1 h1 h2 hd hln hp h kk
  case dup => exact bs_dup hG hbs hd1 h1 h2 hd hln hp h kk
  case iadd => exact bs_iadd hG hbs hd1 h1 h2 hd hln hp h kk
  case goto => exact bs_goto hG hbs hd1 h1 h2 hd hln hp h kk
  case iconst => exact bs_iconst hG hbs hd1 h1 h2 hd hln hp h kk
  case bipush => exact bs_bipush hG hbs hd1 h1 h2 hd hln hp h kk
  case sipush => exact bs_sipush hG hbs hd1 h1 h2 hd hln hp h kk
  case getfield => exact bs_getfield hG hbs hd1 h1 h2 hd hln hp h kk
  case putfield => exact bs_putfield hG hbs hd1 h1 h2 hd hln hp h kk
  case iaload => exact bs_iaload hG hbs hd1 h1 h2 hd hln hp h kk
  case iastore => exact bs_iastore hG hbs hd1 h1 h2 hd hln hp h kk
  case aastore => exact bs_aastore hG hbs hd1 h1 h2 hd hln hp h kk
  case arraylength => exact bs_arraylength hG hbs hd1 h1 h2 hd hln hp h kk
  case new => exact bs_new hG hbs hd1 h1 h2 hd hln hp h kk
  case anewarray => exact bs_anewarray hG hbs hd1 h1 h2 hd hln hp h kk
  case invokespecial => exact bs_object hG hbs hd1 h1 h2 hd hln hp h kk
  case multianewarray => exact bs_multi hG hbs hd1 h1 h2 hd hln hp h kk
  case newarray ty =>
    cases ty
    case int => exact bs_newarray_int hG hbs hd1 h1 h2 hd hln hp h kk
    case long => exact bs_newarray_long hG hbs hd1 h1 h2 hd hln hp h kk
    all_goals
      obtain ⟨n, t, -, h⟩ := b1i_of h
      obtain ⟨hc, -⟩ := bq_of h
      rw [Bool.and_eq_true, Bool.and_eq_true, Bool.and_eq_true] at hc
      exact absurd hc.2.2.2 (by decide)
  case if_icmp cnd off =>
    cases cnd
    case ge => exact bs_icmp_ge hG hbs hd1 h1 h2 hd hln hp h kk
    all_goals cases h
  all_goals cases h
def bMo (σ : bS) (o : Option bC) : Prop := ∀ r, o = some r → σ.1 ≤ r.2.2.2.1
theorem bMo_no (σ : bS) : bMo σ none := fun _ h => by cases h
theorem bMo_so {σ : bS} {r : bC} (h : σ.1 ≤ r.2.2.2.1) : bMo σ (some r) := fun _ q => by cases q; exact h
theorem bMo_1i {σ : bS} {S : List Value} {f : Int32 → List Value → Option bC} (h : ∀ x t, bMo σ (f x t)) : bMo σ (b1i S f) := fun r q => by
  obtain ⟨x, t, -, q⟩ := b1i_of q
  exact h x t r q
theorem bMo_1r {σ : bS} {S : List Value} {f : Nat → List Value → Option bC} (h : ∀ x t, bMo σ (f x t)) : bMo σ (b1r S f) := fun r q => by
  obtain ⟨x, t, -, q⟩ := b1r_of q
  exact h x t r q
theorem bMo_q {σ : bS} {c : Bool} {o : Option bC} (h : bMo σ o) : bMo σ (bq c o) := fun r q => h r (bq_of q).2
theorem bMo_gi {σ : bS} {L : List Value} {i : Nat} {f : Int32 → Option bC} (h : ∀ x, bMo σ (f x)) : bMo σ (bGi L i f) := fun r q => by
  obtain ⟨x, -, q⟩ := bGi_of q
  exact h x r q
theorem bMo_gr {σ : bS} {L : List Value} {i : Nat} {f : Nat → Option bC} (h : ∀ x, bMo σ (f x)) : bMo σ (bGr L i f) := fun r q => by
  obtain ⟨x, -, q⟩ := bGr_of q
  exact h x r q
theorem bMo_if {σ : bS} {c : Bool} {o o' : Option bC} (h : bMo σ o) (h' : bMo σ o') : bMo σ (bif c then o else o') := by
  cases c
  · exact h'
  · exact h
theorem bStep_mo (k pc : Nat) (e : Instr × Nat × Nat × Nat × Nat × List Nat) (L S : List Value) (σ : bS) : bMo σ (bStep k pc e L S σ) := by
  unfold bStep
  split
  all_goals repeat' first | exact bMo_no σ | refine bMo_so ?_ | refine bMo_1i (fun _ _ => ?_) | refine bMo_1r (fun _ _ => ?_) | refine bMo_q ?_ | refine bMo_gi (fun _ => ?_) | refine bMo_gr (fun _ => ?_) | refine bMo_if ?_ ?_
  all_goals first | exact Nat.le_refl _ | exact Nat.le_succ _ | (show σ.1 ≤ (bSt _ _ _ _).1; rw [bSt_1]; exact Nat.le_refl _) | (show σ.1 ≤ σ.1 + 1 + _; omega)
/-- one step of the run -/
theorem bx_one {f dep k st pc : Nat} {L S : List Value} {σ : bS} {r : bC} (h : bx (f + 1) dep k st pc L S σ = some r) :
    r = (pc, L, S, σ) ∨ (∃ e q dp r1, mFind (mCd k) pc = some e ∧ bCall k e S σ = some q ∧ dep = dp + 1 ∧ bx f dp q.1 100000 0 (q.2.1 ++ List.replicate (mNl q.1 - q.2.1.length) mJ) [] σ = some r1 ∧ bRet (mFind (mCd q.1) r1.1) = true ∧ r1.2.2.1 = [] ∧ bx f dep k st (pc + 3) L q.2.2 r1.2.2.2 = some r) ∨
    (∃ e r1, mFind (mCd k) pc = some e ∧ bStep k pc e L S σ = some r1 ∧ bx f dep k st r1.1 r1.2.1 r1.2.2.1 r1.2.2.2 = some r) := by
  unfold bx at h
  cases hs : Nat.beq pc st with
  | true =>
    rw [hs, cond_true] at h
    exact Or.inl (Option.some.inj h).symm
  | false =>
    rw [hs, cond_false] at h
    cases he : mFind (mCd k) pc with
    | none => rw [he] at h; cases h
    | some e =>
      rw [he] at h
      dsimp only at h
      cases hc : bCall k e S σ with
      | some q =>
        rw [hc] at h
        dsimp only at h
        cases dep with
        | zero => cases h
        | succ dp =>
          dsimp only at h
          cases hb : bx f dp q.1 100000 0 (q.2.1 ++ List.replicate (mNl q.1 - q.2.1.length) mJ) [] σ with
          | none => rw [hb] at h; cases h
          | some r1 =>
            rw [hb] at h
            dsimp only at h
            obtain ⟨h3, h4⟩ := bq_of h
            rw [Bool.and_eq_true] at h3
            exact Or.inr (Or.inl ⟨e, q, dp, r1, rfl, hc, rfl, hb, h3.1, List.isEmpty_iff.mp h3.2, h4⟩)
      | none =>
        rw [hc] at h
        dsimp only at h
        cases hr : bRet (some e) with
        | true =>
          rw [hr, cond_true] at h
          exact Or.inl (Option.some.inj h).symm
        | false =>
          rw [hr, cond_false] at h
          cases hb : bStep k pc e L S σ with
          | none => rw [hb] at h; cases h
          | some r1 =>
            rw [hb] at h
            exact Or.inr (Or.inr ⟨e, r1, rfl, hb, h⟩)
theorem bx_mo : ∀ (f dep k st pc : Nat) (L S : List Value) (σ : bS) (r : bC), bx f dep k st pc L S σ = some r → σ.1 ≤ r.2.2.2.1 := by
  intro f
  induction f with
  | zero => intro dep k st pc L S σ r h; cases h
  | succ f ih =>
    intro dep k st pc L S σ r h
    rcases bx_one h with rfl | ⟨e, q, dp, r1, -, -, -, h1, -, -, h2⟩ | ⟨e, r1, -, h1, h2⟩
    · exact Nat.le_refl _
    · exact Nat.le_trans (ih _ _ _ _ _ _ _ _ h1) (ih _ _ _ _ _ _ _ _ h2)
    · exact Nat.le_trans (bStep_mo _ _ _ _ _ _ _ h1) (ih _ _ _ _ _ _ _ _ h2)
def bPc (g : mG) (As : List Value) (σ : bS) : Array Value → State → Prop := va_Pc (As.map (mtr (gA g))) (fun U => mW g U U.heap ∧ bP g σ U.heap ∧ U.heap.size = gB g + σ.1 ∧ bOv U)
def bQc (g : mG) (σ' : bS) : Array Value → State → Outcome → State → Prop := fun _ st oc t => (oc = .returned none ∧ bP g σ' t.heap) ∧ va_F (mA g) st t
theorem bPc_blind {g : mG} {As : List Value} {σ : bS} : FrameBlind (bPc g As σ) := fun a U f mk h => ⟨h.1, mW_calling h.2.1, h.2.2.1, h.2.2.2.1, bOv.moved (u := U) (Vm.Alike.refl U.vm) h.2.2.2.2⟩
def bSat (l : Launch) (g : mG) (d k : Nat) (As : List Value) (σ σ' : bS) : Prop :=
  Met l (mY k) (mWs k) (mRm d (σ'.1 - σ.1) (bSl σ'.1 - bSl σ.1)) (bPc g As σ) (bQc g σ') (σ'.1 - σ.1) (bSl σ'.1 - bSl σ.1) (mA g)
def bQr (g : mG) (σ σ' : bS) : List Frame → Array Value → State → State → Prop := fun below args s => vx_MQ below (bQc g σ') (fun _ _ _ => False) args s (σ'.1 - σ.1) (bSl σ'.1 - bSl σ.1) (mA g)
theorem bSat_of {l : Launch} {g : mG} {d k : Nat} {As : List Value} {σ σ' : bS} (htr : l.stackTraces = false) (hpn : plainName (mY k).cls = true) (hH : mHd k = []) (hoc : mCn (mOc k) = (mY k).cls) (hc : ∀ v ∈ As, v.category = 1) (hn : As.length ≤ mNl k)
    (h : bWB l g d k (bQr g σ σ') (σ'.1 - σ.1) (bSl σ'.1 - bSl σ.1) σ.1 0 (As ++ List.replicate (mNl k - As.length) mJ) [] σ) : bSat l g d k As σ σ' := by
  have hcw : mCW k = .code (mY k) (mBy k) (mNl k) (mRt k) := by unfold mCW; rw [hH]
  have hv : vx_Met l (mY k) (mWs k) (mRm d (σ'.1 - σ.1) (bSl σ'.1 - bSl σ.1)) (bPc g As σ) (bQc g σ') (fun _ _ _ => False) (σ'.1 - σ.1) (bSl σ'.1 - bSl σ.1) (mA g) := by
    refine vx_ofW (cc := mBy k) (maxL := mNl k) (ret := mRt k) hpn (by unfold mWs; rw [hcw]) ?_
    intro p e s mi args below meth c s₁ B hml htab hv
    obtain ⟨rfl, hWd, hPm, hBs, hOv⟩ := hv
    rw [lg_entry_eq]
    have h2 := h p e s mi _ below meth c s.heap [] _ ⟨B.exec, B.bytes, hml, B.returns, B.notSynchronized, by rw [hoc]; exact findClass_of_methodNamed B.named, atoms_spec (ws := mWs k) B.pre, by
      rw [hH]
      cases ht : c.exceptionTable.toList with
      | nil => rfl
      | cons x t => exact (htab x (by rw [ht]; exact List.mem_cons_self)).elim, htr, hWd, by omega⟩ ⟨fun q => (name_of_methodNamed B.named B.method).1.trans q, hOv⟩ hBs hPm va_S.rf (mEntry hc (by omega))
    rw [Nat.sub_self, Nat.sub_self] at h2
    exact h2
  intro p e h1 h2 h3 s m args below h4 h5 h6 h7
  obtain ⟨n, oc, a1, a2, a3, a4⟩ := hv p e h1 h2 h3 s m args below h4 h5 h6 h7
  refine ⟨n, oc, a1, a2, a3, ?_⟩
  rcases a4 with a4 | ⟨q, -, E, ce, L, hF, -⟩
  · exact a4
  · exact hF.elim
/-- its end -/
theorem b_ret {l : Launch} {g : mG} {d k pc : Nat} {L : List Value} {σ σ' : bS} (hk : mChk k = true) (hr0 : bRet (mFind (mCd k) pc) = true) : bWB l g d k (bQr g σ σ') (σ'.1 - σ.1) (bSl σ'.1 - bSl σ.1) σ.1 pc L [] σ' := by
  cases he : mFind (mCd k) pc with
  | none => rw [he] at hr0; cases hr0
  | some e =>
    rw [he] at hr0
    obtain ⟨ins, len, a, b, c, ts⟩ := e
    cases ins
    case return_ =>
      obtain ⟨hd, hln, hp⟩ := mDec hk he
      intro p ev s mi args below meth cd H locs ls C hin hsz hP hS hL
      obtain ⟨hx, hb, hml, hr, hlk, hown, hts, htab, htr, hW, hB⟩ := id C
      have e1 : len = 1 := Nat.eq_of_beq_eq_true hln
      subst e1
      exact vx_ret (W.vret hx hb (hr.trans (of_decide_eq_true hp)) (fun t ht hw => ⟨⟨rfl, by rw [ht]; exact hP⟩, hS.F ht⟩) hS.2.2 hd hlk)
    all_goals cases hr0
/-- behind a call -/
theorem bGo {l : Launch} {g : mG} {d k : Nat} {Q : List Frame → Array Value → State → State → Prop} {MC MS base pc : Nat} {L R : List Value} {σ σ' : bS} {p : Program} {ev : Env} {s : State} {mi : MethodId} {args : Array Value} {below : List Frame} {meth : Method} {cd : Code} {H : Heap} {locs : List Loc} {ls : Array Slot} {st0 : List Value} {Aa : Array Value} (hmo : σ.1 ≤ σ'.1) (hbs : base ≤ σ.1)
    (hr : va_Run p l ev (mRm d MC MS) s mi args below meth cd H locs (σ.1 - base) (bSl σ.1 - bSl base) (σ'.1 - σ.1) (bSl σ'.1 - bSl σ.1) (F0 mi pc ls st0) (R.map (mtr (gA g))) (bQc g σ' Aa) (mA g)) (C : mCtx l g k p s mi args meth cd) (hin : ((mY k).name = "<init>" → meth.name = "<init>") ∧ bOv s) (hsz : s.heap.size = gB g + base) (hS : va_S (mA g) s.heap H locs) (hL : lv_has ls (mNl k) (mLv (gA g) L)) (kk : bWB l g d k Q MC MS base (pc + 3) L R σ') :
    W p l ev (mRm d MC MS) s mi args below meth cd H locs (σ.1 - base) (bSl σ.1 - bSl base) (Q below args s) (F0 mi pc ls st0) := by
  intro T hT X
  obtain ⟨v, st₀, t, T', L', h0, X', hL', e1, e2, ⟨⟨hv, hPt⟩, hF⟩, st⟩ := hr T hT X
  have hv' : v = none := Outcome.returned.inj hv
  subst hv'
  obtain ⟨k1, k2, k3⟩ := vx_keep h0 e1 hS (fun _ _ h => h) (fun _ h => h) hL' hF
  have hm := bSl_mono hbs
  have hm2 := bSl_mono hmo
  have e5 : σ.1 - base + (σ'.1 - σ.1) = σ'.1 - base := by omega
  have e6 : bSl σ.1 - bSl base + (bSl σ'.1 - bSl σ.1) = bSl σ'.1 - bSl base := by omega
  rw [e5, e6] at X'
  obtain ⟨t2, a1, b1⟩ := kk p ev s mi args below meth cd T'.heap (locs ++ L') ls C hin hsz (by rw [e1]; exact hPt) k3 hL T' rfl X'
  exact ⟨t2, st t2 a1, b1⟩
