set_option maxRecDepth 100000
/-! METHODS THAT CATCH -/
theorem hw_13 : Cond.classLink "HopedHoursLaw" 13 "java/lang/IllegalArgumentException" ∈ mGW := List.mem_filter.mpr ⟨List.mem_append_right _ (List.mem_of_getElem? (i := 480) (by decide +kernel)), by decide +kernel⟩
theorem hw_31 : Cond.classLink "HopedHoursLaw" 31 "java/util/NoSuchElementException" ∈ mGW := List.mem_filter.mpr ⟨List.mem_append_right _ (List.mem_of_getElem? (i := 973) (by decide +kernel)), by decide +kernel⟩
theorem vmA_self (vm : Vm) (c : ClassId) : vm.assignable c c = true := by
  show vm.assignableAux (255 + 1) c c = true
  rw [Vm.assignableAux]
  simp only [beq_self_eq_true, Bool.true_or]
theorem cast_self {E : String} {s : State} {c : ClassId} (args : Array Value) (h : s.vm.findClass E = some c) : (Cond.castable E E).before args s = true := by
  simp [Cond.before, Cond.holds, Cond.value, h, vmA_self]
theorem mSat_ofH {l : Launch} {g : mG} {d k : Nat} {Φ : mR → Mm → Int64 → Prop} {mc ms : Nat} {As : List Value} {m : Mm} {o : Int64} (htr : l.stackTraces = false) (hpn : plainName (mY k).cls = true) (hH : mHd k ≠ []) (hoc : mCn (mOc k) = (mY k).cls) (r : Nat) (hc : ∀ v ∈ As, v.category = 1) (hn : mNl k = As.length + r)
    (h : mWB l g d k Φ mc ms 0 (As ++ List.replicate r mJ) [] m o 0 0) : mSat l g d k As m o Φ mc ms := by
  have hcw : mCW k = .codeWith (mY k) (mBy k) (mNl k) (mRt k) (mHd k) := by
    unfold mCW
    cases hq : mHd k with
    | nil => exact absurd hq hH
    | cons a t => rfl
  refine vx_ofWH (cc := mBy k) (maxL := mNl k) (ret := mRt k) (hh := mHd k) hpn (by unfold mWs; rw [hcw]) ?_
  intro p e s mi args below meth c s₁ B hml hv
  obtain ⟨rfl, hWd, hPm, hBs⟩ := hv
  have hws := atoms_spec (ws := mWs k) B.pre
  have hcode : (Cond.codeWith (mY k) (mBy k) (mNl k) (mRt k) (mHd k)).before (As.map (mtr (gA g))).toArray s = true := by rw [← hcw]; exact hws _ List.mem_cons_self
  rw [lg_entry_eq]
  refine h p e s mi _ below meth c s.heap [] _ ⟨B.exec, B.bytes, hml, B.returns, B.notSynchronized, ?_, hws, vx_table (x := mY k) B hcode, htr, hWd, hBs⟩ hPm va_S.rf (mEntry hc hn)
  rw [hoc]
  exact findClass_of_methodNamed B.named
section HX
variable {l : Launch} {g : mG} {d k : Nat} {Φ : mR → Mm → Int64 → Prop} {MC MS : Nat} {pc x : Nat} {L : List Value} {m : Mm} {o : Int64} {cN sN : Nat}
theorem mXB_go (hoc : mCn (mOc k) = "HopedHoursLaw") {sp ep hp ct : Nat} (pre suf : List (Nat × Nat × Nat × Nat)) (hH : mHd k = pre ++ (sp, ep, hp, ct) :: suf) (hcov : sp ≤ pc ∧ pc < ep) (hx : (x = 0 ∧ ct = 13 ∧ ∀ z ∈ pre, z.2.2.2 = 31) ∨ (x = 1 ∧ ct = 31 ∧ pre = []))
    (kk : ∀ (p : Program) (e : Env) (s : State) (mi : MethodId) (args : Array Value) (below : List Frame) (meth : Method) (c : Code) (H : Heap) (locs : List Loc) (ls : Array Slot) (q : Addr), mCtx l g k p s mi args meth c → mP g m o H → va_S (mA g) s.heap H locs → lv_has ls (mNl k) (mLv (gA g) L) → W p l e (mRm d MC MS) s mi args below meth c H locs cN sN (vx_MQ below (mQc g Φ) (mXC g Φ) args s MC MS (mA g)) (F0 mi hp ls [.ref q])) : mXB l g d k Φ MC MS pc x L m o cN sN := by
  intro p e s mi args below meth c H locs ls rest q ce C hP hS hL hq hv hcl
  have k2 := kk p e s mi args below meth c H locs ls q C hP hS hL
  obtain ⟨hxx, hb, hml, hr, hlk, hown, hts, htab, htr, hW, hB⟩ := id C
  rw [hoc] at hown
  have hsplit : c.exceptionTable.toList = tableOf pre ++ (⟨sp, ep, hp, ct⟩ : ExceptionTableEntry) :: tableOf suf := by
    rw [htab, hH]
    unfold tableOf
    rw [List.map_append, List.map_cons]
  have hcv : covers (⟨sp, ep, hp, ct⟩ : ExceptionTableEntry) pc = true := by
    show (decide (sp ≤ pc) && decide (pc < ep)) = true
    rw [decide_eq_true hcov.1, decide_eq_true hcov.2]
    rfl
  have h13 := hts _ (List.mem_cons_of_mem _ hw_13)
  have h31 := hts _ (List.mem_cons_of_mem _ hw_31)
  rcases hx with ⟨rfl, rfl, hpre⟩ | ⟨rfl, rfl, rfl⟩
  · refine vx_catch (E := "java/lang/IllegalArgumentException") (name := "java/lang/IllegalArgumentException") hown (tableOf pre) ⟨sp, ep, hp, 13⟩ (tableOf suf) hsplit (fun z hz => Or.inr ?_) hcv (show (13 : Nat) ≠ 0 by decide) h13 (cast_self args hcl) hq hv hcl k2
    obtain ⟨w, hw, rfl⟩ := List.mem_map.mp hz
    have ew := hpre w hw
    refine ⟨?_, "java/util/NoSuchElementException", ?_, ?_⟩
    · show w.2.2.2 ≠ 0
      rw [ew]; decide
    · show (Cond.classLink "HopedHoursLaw" w.2.2.2 _).before args s = true
      rw [ew]; exact h31
    · exact hW.2.2.2.2.2.2.2.2.2.2.2.1
  · exact vx_catch (E := "java/util/NoSuchElementException") (name := "java/util/NoSuchElementException") hown [] ⟨sp, ep, hp, 31⟩ (tableOf suf) hsplit (fun z hz => absurd hz List.not_mem_nil) hcv (show (31 : Nat) ≠ 0 by decide) h31 (cast_self args hcl) hq hv hcl k2
theorem has_junk {ls : Array Slot} {n : Nat} {w : List (Nat × Value)} (h : lv_has ls n w) (ad : Nat → Nat) (r : Nat) : lv_has ls n (mLv ad (List.replicate r mJ)) := by
  refine ⟨h.1, h.2.1, fun q hq => ?_⟩
  obtain ⟨j, v, h1, h2, h3⟩ := mLv_mem.mp hq
  rw [List.getElem?_replicate] at h1
  split at h1
  · exact absurd (Option.some.inj h1).symm h2
  · cases h1
/-- caught, and the exception is stored where nobody looks -/
theorem mXB_n (hk : mChk k = true) (hoc : mCn (mOc k) = "HopedHoursLaw") {sp ep hp ct : Nat} (pre suf : List (Nat × Nat × Nat × Nat)) (hH : mHd k = pre ++ (sp, ep, hp, ct) :: suf) (hcov : sp ≤ pc ∧ pc < ep) (hx : (x = 0 ∧ ct = 13 ∧ ∀ z ∈ pre, z.2.2.2 = 31) ∨ (x = 1 ∧ ct = 31 ∧ pre = []))
    {i : Fin 4} {a b c : Nat} {ts : List Nat} (he : mFind (mCd k) hp = some (.astore_n i, 1, a, b, c, ts)) (r : Nat) (kk : mWB l g d k Φ MC MS (hp + 1) (List.replicate r mJ) [] m o cN sN) : mXB l g d k Φ MC MS pc x L m o cN sN := by
  refine mXB_go hoc pre suf hH hcov hx ?_
  intro p ev s mi args below meth cd H locs ls q C hP hS hL
  obtain ⟨hxx, hb, hml, hr, hlk, hown, hts, htab, htr, hW, hB⟩ := id C
  obtain ⟨hd, -, hpp⟩ := mDec hk he
  exact lv_astore_n hxx hb hd rfl hL (of_decide_eq_true hpp) rfl (fun ls1 hl1 => kk p ev s mi args below meth cd H locs ls1 C hP hS (has_junk hl1 _ _))
theorem mXB_s (hk : mChk k = true) (hoc : mCn (mOc k) = "HopedHoursLaw") {sp ep hp ct : Nat} (pre suf : List (Nat × Nat × Nat × Nat)) (hH : mHd k = pre ++ (sp, ep, hp, ct) :: suf) (hcov : sp ≤ pc ∧ pc < ep) (hx : (x = 0 ∧ ct = 13 ∧ ∀ z ∈ pre, z.2.2.2 = 31) ∨ (x = 1 ∧ ct = 31 ∧ pre = []))
    {i a b c : Nat} {ts : List Nat} (he : mFind (mCd k) hp = some (.astore i, 2, a, b, c, ts)) (r : Nat) (kk : mWB l g d k Φ MC MS (hp + 2) (List.replicate r mJ) [] m o cN sN) : mXB l g d k Φ MC MS pc x L m o cN sN := by
  refine mXB_go hoc pre suf hH hcov hx ?_
  intro p ev s mi args below meth cd H locs ls q C hP hS hL
  obtain ⟨hxx, hb, hml, hr, hlk, hown, hts, htab, htr, hW, hB⟩ := id C
  obtain ⟨hd, -, hpp⟩ := mDec hk he
  exact lv_astore hxx hb hd hL (of_decide_eq_true hpp) rfl (fun ls1 hl1 => kk p ev s mi args below meth cd H locs ls1 C hP hS (has_junk hl1 _ _))
end HX
