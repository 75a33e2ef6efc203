/-! CALLS of the small machine -/
theorem mCwB_of {k : Nat} (h : mCwB (mY k) (mNl k) (mRt k) (mHd k) (lw_tbl[(mPl k).getD 0 0]?) = true) : lw_tbl[(mPl k).getD 0 0]? = some (mCW k) := by
  have hby : mBy k = mByOf (lw_tbl[(mPl k).getD 0 0]?) := rfl
  cases hw : lw_tbl[(mPl k).getD 0 0]? with
  | none => rw [hw] at h; cases h
  | some w =>
    rw [hw] at h hby
    cases w with
    | code y b n r =>
      simp only [mCwB, Bool.and_eq_true, decide_eq_true_eq] at h
      obtain ⟨⟨⟨e1, e2⟩, e3⟩, e4⟩ := h
      unfold mCW
      rw [e4, hby, e1, e2, e3]
      rfl
    | codeWith y b n r hh =>
      simp only [mCwB, Bool.and_eq_true, decide_eq_true_eq] at h
      obtain ⟨⟨⟨⟨e1, e2⟩, e3⟩, e4⟩, e5⟩ := h
      have hc : mCW k = .codeWith (mY k) (mBy k) (mNl k) (mRt k) (mHd k) := by
        unfold mCW
        cases hq : mHd k with
        | nil => exact absurd hq e5
        | cons a t => rfl
      rw [hc, hby, e1, e2, e3, e4]
      rfl
    | _ => cases h
/-- what is known of a method that the tables name -/
def mMeP (k : Nat) : Prop := mCW k ∈ mGW ∧ Cond.initialized (mY k).cls ∈ mGW ∧ ((mPl k).getD 4 0 = 1 → Cond.static (mY k) ∈ mGW) ∧ ((mPl k).getD 4 0 ≠ 1 → Cond.instanceMethod (mY k) ∈ mGW) ∧ ((mPl k).getD 4 0 ≠ 1 → (mY k).name ≠ "<init>" → Cond.selects (mY k).cls (mY k) (mY k) ∈ mGW) ∧
  ((mY k).cls ≠ "java/lang/invoke/MethodHandle" ∧ (mY k).cls ≠ "java/lang/invoke/VarHandle") ∧ mNl k ≤ 40 ∧ mCn (mOc k) = (mY k).cls ∧ (parseMethodDescriptor (mY k).desc).map (fun d => d.parameters.length) = some ((mPl k).getD 5 0)
theorem mMeP_of {k : Nat} (h : mMeB k = true) : mMeP k := by
  unfold mMeB at h
  simp only [Bool.and_eq_true, decide_eq_true_eq] at h
  obtain ⟨⟨⟨⟨⟨⟨⟨⟨h1, h2⟩, h3⟩, h4⟩, h5⟩, h6⟩, h7⟩, h8⟩, h9⟩ := h
  refine ⟨mGW_at _ (mCwB_of h1) ?_, mGW_at _ h2 rfl, fun q => ?_, fun q => ?_, fun q q2 => ?_, ⟨h5, h6⟩, h7, h8, h9⟩
  · unfold mCW
    cases mHd k <;> rfl
  · rw [if_pos q, decide_eq_true_eq] at h3
    exact mGW_at _ h3 rfl
  · rw [if_neg q, decide_eq_true_eq] at h3
    exact mGW_at _ h3 rfl
  · rw [if_neg (fun z => z.elim q q2), decide_eq_true_eq] at h4
    exact mGW_at _ h4 rfl
theorem mGW_good {w : Cond} (h : w ∈ mGW) : (w.onTables && w.keeps) = true ∨ ∃ ty, w = .arrayClass ty := good_of_word (List.mem_filter.mp h).2
theorem mGoodIn {k a : Nat} (h : mCW a ∈ mGW) : GoodIn (mWs k) (mWs a) := by
  intro w hw
  have hg : w ∈ mGW := by
    rcases List.mem_cons.mp hw with rfl | q
    · exact h
    · exact q
  exact ⟨List.mem_cons_of_mem _ hg, mGW_good hg⟩
section Cs
variable {l : Launch} {g : mG} {d k : Nat} {Φ : mR → Mm → Int64 → Prop} {MC MS : Nat} {p : Program} {ev : Env} {s : State} {mi : MethodId} {args : Array Value} {below : List Frame} {meth : Method} {cd : Code} {H : Heap} {locs : List Loc} {ls : Array Slot} {cN sN mc ms pc : Nat} {st0 : List Value} {R L : List Value} {Ψ : mR → Mm → Int64 → Prop} {Aa : Array Value}
/-- behind a call -/
theorem mGo (hr : vx_Run p l ev (mRm d MC MS) s mi args below meth cd H locs cN sN mc ms (F0 mi pc ls st0) (R.map (mtr (gA g))) (mQc g Ψ Aa) (mXC g Ψ) (mA g)) (C : mCtx l g k p s mi args meth cd) (hS : va_S (mA g) s.heap H locs) (hL : lv_has ls (mNl k) (mLv (gA g) L))
    (kk : ∀ (v : Option Value) (m' : Mm) (o' : Int64), Ψ (.inl v) m' o' → mWB l g d k Φ MC MS (pc + 3) L (v.toList ++ R) m' o' (cN + mc) (sN + ms))
    (kx : ∀ (x : Nat) (m' : Mm) (o' : Int64), Ψ (.inr x) m' o' → mXB l g d k Φ MC MS pc x L m' o' (cN + mc) (sN + ms)) :
    W p l ev (mRm d MC MS) s mi args below meth cd H locs cN sN (vx_MQ below (mQc g Φ) (mXC g Φ) args s MC MS (mA g)) (F0 mi pc ls st0) := by
  intro T hT X
  rcases hr T hT X with ⟨v, st₀, t, T', L', h0, X', hL', e1, e2, ⟨⟨v', m', o', hv, hΨ, hPt⟩, hF⟩, st⟩ | ⟨q, st₀, t, T', L', E, ce, h0, X', hL', e1, e2, ⟨⟨x, m', o', hE, hΨ, hPt⟩, hF⟩, hce, hcv, hcl, st⟩
  · have hv' : v = v'.map (mtr (gA g)) := Outcome.returned.inj hv
    obtain ⟨k1, k2, k3⟩ := vx_keep h0 e1 hS (fun _ _ h => h) (fun _ h => h) hL' hF
    obtain ⟨t2, a1, b1⟩ := kk v' m' o' hΨ p ev s mi args below meth cd T'.heap (locs ++ L') ls C (by rw [e1]; exact hPt) k3 hL T' rfl X'
    refine ⟨t2, st t2 ?_, b1⟩
    rw [hv']
    have e : (v'.toList ++ R).map (mtr (gA g)) = (v'.map (mtr (gA g))).toList ++ R.map (mtr (gA g)) := by
      cases v' <;> simp
    rw [e] at a1
    exact a1
  · obtain ⟨k1, k2, k3⟩ := vx_keep h0 e1 hS (fun _ _ h => h) (fun _ h => h) hL' hF
    rw [hE] at hcl
    obtain ⟨t2, a1, b1⟩ := kx x m' o' hΨ p ev s mi args below meth cd T'.heap (locs ++ L') ls (R.map (mtr (gA g))) q ce C (by rw [e1]; exact hPt) k3 hL (by rw [e1]; exact hce) hcv hcl T' rfl X'
    exact ⟨t2, st.trans a1, b1⟩
/-- the same where the callee never throws -/
theorem mGo' (hr : va_Run p l ev (mRm d MC MS) s mi args below meth cd H locs cN sN mc ms (F0 mi pc ls st0) (R.map (mtr (gA g))) (mQc g Ψ Aa) (mA g)) (C : mCtx l g k p s mi args meth cd) (hS : va_S (mA g) s.heap H locs) (hL : lv_has ls (mNl k) (mLv (gA g) L))
    (kk : ∀ (v : Option Value) (m' : Mm) (o' : Int64), Ψ (.inl v) m' o' → mWB l g d k Φ MC MS (pc + 3) L (v.toList ++ R) m' o' (cN + mc) (sN + ms)) :
    W p l ev (mRm d MC MS) s mi args below meth cd H locs cN sN (vx_MQ below (mQc g Φ) (mXC g Φ) args s MC MS (mA g)) (F0 mi pc ls st0) := by
  intro T hT X
  obtain ⟨v, st₀, t, T', L', h0, X', hL', e1, e2, ⟨⟨v', m', o', hv, hΨ, hPt⟩, hF⟩, st⟩ := hr T hT X
  have hv' : v = v'.map (mtr (gA g)) := Outcome.returned.inj hv
  obtain ⟨k1, k2, k3⟩ := vx_keep h0 e1 hS (fun _ _ h => h) (fun _ h => h) hL' hF
  obtain ⟨t2, a1, b1⟩ := kk v' m' o' hΨ p ev s mi args below meth cd T'.heap (locs ++ L') ls C (by rw [e1]; exact hPt) k3 hL T' rfl X'
  refine ⟨t2, st t2 ?_, b1⟩
  rw [hv']
  have e : (v'.toList ++ R).map (mtr (gA g)) = (v'.map (mtr (gA g))).toList ++ R.map (mtr (gA g)) := by
    cases v' <;> simp
  rw [e] at a1
  exact a1
end Cs
/-- a callee that never throws, as a plain contract -/
theorem mMet {l : Launch} {g : mG} {d a : Nat} {As : List Value} {m : Mm} {o : Int64} {Ψ : mR → Mm → Int64 → Prop} {mc ms : Nat} (h : mSat l g d a As m o Ψ mc ms) (hx : ∀ x m' o', ¬ Ψ (.inr x) m' o') : Met l (mY a) (mWs a) (mRm d mc ms) (mPc g As m o) (mQc g Ψ) mc ms (mA g) := by
  intro p e h1 h2 h3 s m args below h4 h5 h6 h7
  obtain ⟨n, oc, a1, a2, a3, a4⟩ := h p e h1 h2 h3 s m args below h4 h5 h6 h7
  refine ⟨n, oc, a1, a2, a3, ?_⟩
  rcases a4 with a4 | ⟨q, -, E, ce, L, ⟨⟨x, m', o', -, hΨ, -⟩, -⟩, -⟩
  · exact a4
  · exact absurd hΨ (hx x m' o')
theorem mMono {l : Launch} {g : mG} {d a : Nat} {As : List Value} {m : Mm} {o : Int64} {Ψ Ψ' : mR → Mm → Int64 → Prop} {mc ms : Nat} (h : mSat l g d a As m o Ψ mc ms) (hx : ∀ r m' o', Ψ r m' o' → Ψ' r m' o') : mSat l g d a As m o Ψ' mc ms := by
  intro p e h1 h2 h3 s m args below h4 h5 h6 h7
  obtain ⟨n, oc, a1, a2, a3, a4⟩ := h p e h1 h2 h3 s m args below h4 h5 h6 h7
  refine ⟨n, oc, a1, a2, a3, ?_⟩
  rcases a4 with ⟨⟨⟨v, m', o', e1, e2, e3⟩, e4⟩, e5⟩ | ⟨q, e0, E, ce, L, ⟨⟨x, m', o', f1, hΨ, f3⟩, f4⟩, f5⟩
  · exact Or.inl ⟨⟨⟨v, m', o', e1, hx _ _ _ e2, e3⟩, e4⟩, e5⟩
  · exact Or.inr ⟨q, e0, E, ce, L, ⟨⟨x, m', o', f1, hx _ _ _ hΨ, f3⟩, f4⟩, f5⟩
theorem mSplit {S : List Value} {b : Nat} (h : b ≤ S.length) : S = (S.take b).reverse.reverse ++ S.drop b := by
  rw [List.reverse_reverse, List.take_append_drop]
