set_option maxRecDepth 100000
/-! THE CLAIM OUT OF ONE WALK OF THE LAW'S BODY. Your part is whole_start (and what it stands on); all else here is the same for every law, but numbers. -/
def R_law : String := "HopedHoursLaw"
def lw_P (b : Addr) (xs : List Int32) (args : Array Value) (s : State) : Prop := args = #[.ref b] ∧ s.IntsAt b xs ∧ xs.length ≤ 4608 ∧ (Jvm.Cond.and given_1 narrow_1).before args s = true
def lw_Q (_ : Array Value) (s : State) (o : Outcome) (t : State) : Prop := o = .returned (some (.int 1)) ∧ Framed s o t [] 601024 7293034
def lw_Z (below : List Frame) (a : Array Value) (s : State) : State → Prop := fun t => ∃ o, t.status = .running ∧ Ended t below o ∧ lw_Q a s o t
/-- the law's own end, with 1 on the stack, nothing written that was there before, its room as the claim has it -/
theorem lw_ret {p : Program} {l : Launch} {e : Env} {s : State} {m : MethodId} {below : List Frame} {meth : Method} {c : Code} {b : Nat} (hx : p.tables.exec = Jvm.exec) (hb : c.code = code) (hr : meth.sig.returnType = ret) (hlocks : meth.locks = false) {pc : Nat} {H : Heap} {ls : Array Slot} (hdg : decode code pc = .ok (.ireturn, 1)) : W p l e room_1 s m #[Value.ref b] below meth c H [] 601024 7293034 (lw_Z below #[Value.ref b] s) (F0 m pc ls [.int 1]) := by
  intro T hT X
  obtain ⟨fs, hret, hrun, hended, hW, hframe⟩ := X.leave (v := some (.int 1)) (hlocks := hlocks) (fun h => by rw [hr] at h; cases h)
  have hmeth' : T.vm.method? m = some meth := X.method'
  refine ⟨T.setFrames fs, ?_, .returned (some (.int 1)), hrun, hended, rfl, ⟨_, rfl⟩, hW, hframe⟩
  jvm_step X.here [X.here.top, hx, hb, hdg, hmeth', hr, ret, narrow_b1]
  (try refine ⟨rfl, ?_⟩); (try refine ⟨rfl, ?_⟩)
  first | (intro acts; rw [hret _ acts rfl rfl rfl]) | rw [hret _ _ rfl rfl rfl]
  exact Steps.refl _
/-- what holds at the law's entry: the machine, the code, the tables' words (any of lw_tbl by 'hts w (by decide +kernel)'), the script of L ints xs at the cell b, what the Statement gives of the start (any of its parts by flat_of_before) -/
def lw_At (p : Program) (s : State) (m : MethodId) (meth : Method) (c : Code) (b L : Nat) (xs : Nat → Int32) : Prop :=
  p.tables.exec = Jvm.exec ∧ c.code = code ∧ meth.sig.returnType = ret ∧ c.maxLocals = 8 ∧ s.vm.findClass R_law = some m.cls ∧ (∀ w ∈ lw_tbl, w.before #[Value.ref b] s = true) ∧ va_X b L xs s s.heap ∧ b < s.heap.size ∧ meth.locks = false ∧ (Jvm.Cond.and given_1 narrow_1).before #[Value.ref b] s = true ∧ (Jvm.Cond.code x code maxLocals ret).before #[Value.ref b] s = true ∧ c.exceptionTable.isEmpty = true
theorem mBy_law : mBy k_L_law_ = code := by
  unfold mBy
  rw [show (mPl k_L_law_).getD 0 0 = 99999 from rfl, List.getElem?_eq_none (by decide +kernel)]
  rfl
theorem mCW_law : mCW k_L_law_ = .code x code maxLocals ret := by
  rw [← mBy_law]
  rfl
def wPhi (r : mR) (_ : Mm) (_ : Int64) : Prop := r = .inl (some (.int 1))
def wQ (g : mG) (below : List Frame) (args : Array Value) (s : State) : State → Prop := vx_MQ below (mQc g wPhi) (mXC g wPhi) args s 601024 7293034 (mA g)
theorem wLoop {l : Launch} {g : mG} {σ : bS} (htr : l.stackTraces = false) (hG : bG g) (hL : gL g ≤ 4608) (h9 : σ.1 = 917) (hf : ∀ x, x < 917 → bFullB σ x = true) (hR : Rl (cl (bM σ))) : bWB l g 1312 k_L_law_ (wQ g) 601024 7293034 0 23 bLd [] σ := by
  intro p e s mi args below meth c H locs ls C hin hsz hP hS hlv
  have hs := bSl_ok
  have h1 : σ.1 - 0 + 4 * 512 ≤ 601024 := by omega
  have h2 : bSl σ.1 - bSl 0 + 24 * 512 ≤ 7293034 := by rw [h9]; omega
  exact law_loop (l := l) (g := g) (d := 1312) (Φ := wPhi) (MC := 601024) (MS := 7293034) htr (by decide) hL (fun _ _ => rfl) 512 0 (bM σ) 0 (σ.1 - 0) (bSl σ.1 - bSl 0) (by omega) (by decide) h1 h2 hR p e s mi args below meth c H locs ls C (mP_of hG hP h9 hf) hS hlv
theorem wBoot {l : Launch} {g : mG} (htr : l.stackTraces = false) (hG : bG g) (hL : gL g ≤ 4608) : bWB l g 1312 k_L_law_ (wQ g) 601024 7293034 0 0 [.ref mScr, mJ, mJ, mJ, mJ, mJ, mJ, mJ] [] (0, [], []) := by
  obtain ⟨σ, hrun, h9, hfull, hRl⟩ := bRun_ex
  have hs := bSl_ok
  exact bx_sound hG htr 4000 6 1312 k_L_law_ 23 0 [.ref mScr, mJ, mJ, mJ, mJ, mJ, mJ, mJ] [] (0, [], []) (23, bLd, [], σ) (wQ g) 601024 7293034 0 (mOk (by decide)) hrun (by decide) (Nat.le_refl _) (show σ.1 - 0 ≤ 601024 by omega) (show bSl σ.1 - bSl 0 ≤ 7293034 by rw [h9]; omega) (wLoop htr hG hL h9 hfull hRl)
theorem wAoa {s : State} {A : Array Value} {t : FieldType} (h : (Cond.arrayOver (.array t)).before A s = true) : va_AOA t s := by
  unfold va_AOA
  simpa [Cond.before, Cond.holds, Cond.value] using h
theorem wAo {s : State} {A : Array Value} {t : String} (h : (Cond.arrayOver (.object t)).before A s = true) : va_AO t s := by
  unfold va_AO
  simpa [Cond.before, Cond.holds, Cond.value] using h
theorem wOv {s : State} {A : Array Value} (hts : ∀ w ∈ lw_tbl, w.before A s = true) : bOv s :=
  ⟨wAo (wTb (w := .arrayOver (.object "HopedHours$Night")) hts 370 (by decide +kernel)), wAo (wTb (w := .arrayOver (.object "HopedHours$History")) hts 383 (by decide +kernel)), wAoa (wTb (w := .arrayOver (.array .int)) hts 1440 (by decide +kernel)), wAoa (wTb (w := .arrayOver (.array .boolean)) hts 1442 (by decide +kernel))⟩
theorem wRoom {s : State} {pl : Platform} (h : s.hasRoom pl room_1 = true) : s.hasRoom pl (mRm 1312 601024 7293034) = true := by
  unfold State.hasRoom at h ⊢
  rw [Bool.and_eq_true, Bool.and_eq_true, Bool.and_eq_true, Bool.and_eq_true] at h ⊢
  obtain ⟨⟨⟨⟨a1, a2⟩, a7⟩, a8⟩, a9⟩ := h
  have b1 := of_decide_eq_true a1
  obtain ⟨b2, b3, b4, b5, b6⟩ := of_decide_eq_true a2
  have e1 : room_1.locals = 84000 := rfl
  have e2 : room_1.frames = 2048 := rfl
  have e3 : (mRm 1312 601024 7293034).locals = 83968 := rfl
  have e4 : (mRm 1312 601024 7293034).frames = 1312 := rfl
  rw [e1] at b1 b4 b5
  rw [e2] at b2 b3
  refine ⟨⟨⟨⟨decide_eq_true ?_, decide_eq_true ⟨?_, ?_, ?_, ?_, b6⟩⟩, a7⟩, a8⟩, a9⟩
  · rw [e3]; omega
  · rw [e4]; omega
  · rw [e4]; omega
  · rw [e3]; omega
  · rw [e3]; omega
theorem wEnds {g : mG} {below : List Frame} {args : Array Value} {s t : State} (hb : gB g = s.heap.size) (h : wQ g below args s t) : lw_Z below args s t := by
  obtain ⟨o, h1, h2, h3⟩ := h
  rcases h3 with ⟨h3, L, hF, hL⟩ | ⟨q, -, E, ce, L, h3, -⟩
  · obtain ⟨⟨v, m', o', e1, e2, -⟩, -⟩ := h3
    have e3 : v = some (.int 1) := Sum.inl.inj e2
    subst e3
    refine ⟨o, h1, h2, e1, hF.1, hF.2.1, hF.2.2.weaken (fun z hz hlt => ?_) (Nat.le_refl _) (Nat.le_refl _)⟩
    have := hL z hz
    have h4 : gB g ≤ z.base := this
    exact absurd hlt (Nat.not_lt.mpr (Nat.le_trans (Nat.le_of_eq hb.symm) h4))
  · obtain ⟨⟨x, m', o', -, e2, -⟩, -⟩ := h3
    cases e2
/-- from the entry, for every script of at most 4608 ints, the law comes to its end with true -/
theorem whole_start {p : Program} {e : Env} {s : State} {m : MethodId} {below : List Frame} {meth : Method} {c : Code} (l : Launch) (htr : l.stackTraces = false) {b L : Nat} {xs : Nat → Int32} (hL : L ≤ 4608) (C0 : lw_At p s m meth c b L xs) : W p l e room_1 s m #[Value.ref b] below meth c s.heap [] 0 0 (lw_Z below #[Value.ref b] s) (entryFrame m ([Value.ref b] : List Value).toArray 8) := by
  obtain ⟨hx, hc, hr, hml, hcl, hts, hX, hbl, hlk, hgv, hcw, hex⟩ := C0
  obtain ⟨g, gb, gl, gm, hG, hW⟩ := wWorld hts hgv hX hbl
  have C : mCtx l g k_L_law_ p s m #[Value.ref b] meth c := by
    refine ⟨hx, hc.trans mBy_law.symm, hml, hr, hlk, hcl, fun w hw => ?_, ?_, htr, hW, Nat.le_of_eq gb⟩
    · rcases List.mem_cons.mp hw with rfl | hw
      · rw [mCW_law]
        exact hcw
      · exact hts w (List.mem_filter.mp hw).1
    · show c.exceptionTable.toList = []
      have : c.exceptionTable = #[] := Array.isEmpty_iff.mp hex
      rw [this]
  have hlv := mEntry (ad := gA g) (As := [.ref mScr]) (r := 7) (n := 8) (fun v hv => by rw [List.mem_singleton.mp hv]; rfl) rfl
  have hm : [Value.ref mScr].map (mtr (gA g)) = [Value.ref b] := by
    show [Value.ref (gA g mScr)] = _
    rw [gm]
  rw [hm] at hlv
  rw [lg_entry_eq]
  intro T hT X
  have K := wBoot (l := l) htr hG (by rw [gl]; exact hL) p e s m #[Value.ref b] below meth c s.heap [] _ C ⟨fun h => absurd h (by decide), wOv hts⟩ gb.symm ⟨fun t ht => absurd ht (Nat.not_lt_zero t), Nat.zero_le _⟩ ⟨Nat.le_refl _, fun _ _ _ => rfl, fun _ h => absurd h List.not_mem_nil⟩ hlv
  have K2 : W p l e (mRm 1312 601024 7293034) s m #[Value.ref b] below meth c s.heap [] 0 0 (wQ g below #[Value.ref b] s) (F0 m 0 (lg_sl [Value.ref b] ++ List.replicate (8 - (lg_sl [Value.ref b]).length) Slot.unset).toArray []) := by
    have e0 : bSl ((0, [], []) : bS).1 - bSl 0 = 0 := Nat.sub_self _
    rw [e0] at K
    exact K
  obtain ⟨t, a1, a2⟩ := K2 T hT { X with room := wRoom X.room }
  exact ⟨t, a1, wEnds gb a2⟩
-- ===== YOUR PART ENDS =====
set_option maxHeartbeats 4000000 in
theorem lw_walk (l : Launch) (htr : l.stackTraces = false) (b : Addr) (xs : List Int32) : MetFree l x (headSpec (Jvm.Cond.code x code maxLocals ret :: tables_1) room_1) (lw_P b xs) (fun _ _ _ _ _ => True) lw_Q := by
  refine MetFree.of_bodyS (code := code) (maxLocals := maxLocals) (ret := ret) (by decide) ?_ ?_
  · intro args s m h hn
    obtain ⟨meth, c, h1, h2, h3, h4, h5, h6, -, -⟩ := Cond.code_spec hn (atoms_spec (ws := Jvm.Cond.code x code maxLocals ret :: tables_1) h _ List.mem_cons_self)
    exact ⟨meth, c, h1, h2, h3, h4, h5, h6⟩
  · intro p e s m args below meth c s₁ B hml0 hP _
    obtain ⟨rfl, hx, hbd, hgv⟩ := hP
    obtain ⟨scr, harrAt, hlist, hof, hsmall⟩ := hx
    obtain ⟨hcb, hkn, -, -⟩ := State.arrayAt?_spec harrAt
    have hown : s.vm.findClass R_law = some m.cls := findClass_of_methodNamed B.named
    have hts0 : ∀ c ∈ (Jvm.Cond.code x code maxLocals ret :: tables_1), c.before #[Value.ref b] s = true := atoms_spec (ws := Jvm.Cond.code x code maxLocals ret :: tables_1) B.pre
    have hts : ∀ w ∈ lw_tbl, w.before #[Value.ref b] s = true := k2_hts_sels lw_privs (fun w hw => hts0 w (List.mem_cons_of_mem _ hw)) lw_privs_ok
    have hml : c.maxLocals = 8 := B.maxLocals_eq (hts0 _ List.mem_cons_self)
    have hex : c.exceptionTable.isEmpty = true := by
      obtain ⟨meth', c', hm', hc', -, -, -, -, he', -⟩ := Cond.code_spec B.named (hts0 _ List.mem_cons_self)
      cases B.method.symm.trans hm'
      cases (Stand.of_body B).code.symm.trans hc'
      exact he'
    have X₀ : Stand p l e room_1 s m #[Value.ref b] below meth c s₁ [] 0 0 := Stand.of_body B
    have hh0 : s₁.heap = s.heap := by rw [B.state]; rfl
    have hsz : scr.slots.size = xs.length := by rw [← Array.length_toList, hlist, List.length_map]
    have hval : ∀ j : Nat, j < xs.length → scr.slots[j]? = some (.int (xs.getD j 0)) := fun j hj => by
      rw [← Array.getElem?_toList, hlist]
      simp [hj]
    have hbl : b < s.heap.size := (Array.getElem?_eq_some_iff.mp hcb).1
    have hX : va_X b xs.length (fun j => xs.getD j 0) s s.heap := ⟨scr, hcb, hof, hkn, hsz, hval⟩
    have K : W p l e room_1 s m #[Value.ref b] below meth c s₁.heap [] 0 0 (lw_Z below #[Value.ref b] s) (entryFrame m ([Value.ref b] : List Value).toArray 8) := by
      rw [hh0]
      exact whole_start l htr hbd ⟨B.exec, B.bytes, B.returns, hml, hown, hts, hX, hbl, B.notSynchronized, hgv, hts0 _ List.mem_cons_self, hex⟩
    obtain ⟨t, a1, o, b1, b2, b3⟩ := K s₁ rfl X₀
    exact ⟨t, o, a1, b1, b2, b3⟩
theorem lw_pre_spec {args : Array Value} {s : State} (h : (Jvm.Cond.and given_1 narrow_1).before args s = true) (hr : rest_1_c.before args s = true) : ∃ (b : Addr) (xs : List Int32), lw_P b xs args s := by
  have hs := flat_of_before _ h
  have hq := flat_of_before _ hr
  have hc : (Cond.count 1).before args s = true := hs _ (by decide +kernel)
  have harr : (Cond.arrayOf (.arg 0) .int).before args s = true := hs _ (by decide +kernel)
  have hle : (Cond.le (.length (.arg 0)) (.int 4608)).before args s = true := hs _ (by decide +kernel)
  have hlen : (Cond.isInt (.length (.arg 0))).before args s = true := hq _ (by decide +kernel)
  have hall : (Cond.all (.arg 0) (.isInt (.elem (.arg 0) (.index 0)))).before args s = true := hq _ (by decide +kernel)
  obtain ⟨b, xs, hb, hx⟩ := State.ints_of_pre rfl harr hlen hall
  have hsm : xs.length < 2 ^ 31 := hx.choose_spec.2.2.2
  have hev : (Term.length (.arg 0)).eval args s none [] s = some (.int xs.length.toInt32) := hx.length_eval hb
  have hv := Cond.le_ints hev (show (Term.int 4608).eval args s none [] s = some (.int 4608) from rfl)
  have hd : xs.length.toInt32 ≤ 4608 := by
    simpa [Cond.before, Cond.holds, hv] using hle
  have hN : xs.length ≤ 4608 := (Int32.ofNat_le_ofNat hsm (by decide)).mp (show Int32.ofNat xs.length ≤ Int32.ofNat 4608 from hd)
  exact ⟨b, xs, Cond.one_arg hc (show args[0]? = some (.ref b) from hb), hx, hN, h⟩
theorem lw_comes (l : Launch) (htr : l.stackTraces = false) : Comes l x (Jvm.Cond.code x code maxLocals ret :: tables_1) room_1 (fun tb e args s => Calls_1 tb e args s ∧ rest_1 tb e args s ∧ Pre_1 tb e args s)
    (fun _ _ args s o t => lw_Q args s o t) := by
  intro p e ha hc hk s m args below hf hfit hheap happ hpre
  obtain ⟨b, xs, hP⟩ := lw_pre_spec hpre.2.2 hpre.2.1
  obtain ⟨k, o, h1, h2, h3, hQ⟩ := lw_walk l htr b xs p e ha hc hk s m args below hf ((Spec.applies_iff_loose hf).mp happ).1 hP trivial
  exact ⟨k, o, h1, h2, h3, hQ⟩
theorem lw_frame {s t : State} {o : Outcome} {args : Array Value} (h : Framed s o t [] 601024 7293034) :
    Framed s o t (fieldLocs frame_1_writes args s ++ arrayLocs frame_1_arrays args s ++ staticLocs frame_1_statics s) 601024 7293034 := h
theorem lw_limb (L : Cond) (hL : ∀ (args : Array Value) (s t : State), L.after args s (.returned (some (.int 1))) t = true) :
    ArmFor flags0 classFile x code maxLocals ret World_1 tables_1 room_1 Calls_1 rest_1 Pre_1
      (fun tb e a s o t => postC L tb e a s o t ∧ Framed s o t (fieldLocs frame_1_writes a s ++ arrayLocs frame_1_arrays a s ++ staticLocs frame_1_statics s) 601024 7293034) := by
  intro l q1 q2 q3 p e ha hc hk s m args below hf hfit hheap happ hpre
  have htr : l.stackTraces = false := by
    unfold Launch.stackTraces
    first | (rw [q1]; decide) | (rw [q2]; decide) | (rw [q3]; decide)
  obtain ⟨k, o, h1, h2, h3, rfl, hF⟩ := lw_comes l htr p e ha hc hk s m args below hf hfit hheap happ hpre
  exact ⟨k, _, h1, h2, h3, hL args s _, lw_frame hF⟩
theorem i_vc : Claimed_1_1 ∧ Claimed_1_2 := ⟨lw_limb limb_1_1 (fun args s t => by simp [limb_1_1, Cond.after, Cond.holds, Cond.value]), lw_limb limb_1_2 (fun args s t => Cond.after_iff.mpr (by
  first | (rw [show limb_1_2 = Cond.eq .result (.int 1) from rfl, Cond.eq_ints (x := 1) (y := 1) rfl rfl]; simp; done) | (simp [limb_1_2, Cond.value, Term.eval]; done)))⟩
