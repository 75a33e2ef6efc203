set_option maxRecDepth 100000
/-! WHAT THE CLASS THROWS -/
abbrev nIA : List String := ["java/lang/RuntimeException", "java/lang/Exception"]
abbrev nNS : List String := ["java/lang/Exception"]
def atIA : List Cond := vx_atS "HopedHours" 426 "java/lang/IllegalArgumentException" nIA
def atNS : List Cond := xnAt "HopedHours" 419 "java/util/NoSuchElementException" "java/lang/RuntimeException" nNS 13 prog_31_method_4_code
theorem xl_i1 : Cond.classLink "HopedHours" 422 "java/lang/IllegalArgumentException" ∈ mGW := List.mem_filter.mpr ⟨by decide +kernel, rfl⟩
theorem xl_n1 : Cond.classLink "HopedHours" 415 "java/util/NoSuchElementException" ∈ mGW := List.mem_filter.mpr ⟨by decide +kernel, rfl⟩
theorem xl_i2 : Cond.initialized "java/lang/IllegalArgumentException" ∈ mGW := List.mem_filter.mpr ⟨by decide +kernel, rfl⟩
theorem xl_n2 : Cond.initialized "java/util/NoSuchElementException" ∈ mGW := List.mem_filter.mpr ⟨by decide +kernel, rfl⟩
def mDcW : List Cond := mDcl.map Cond.declares ++ mCst.map (fun q => Cond.castable q q)
theorem xl_i3 : ∀ w ∈ atIA.filter goodWord, w ∈ lw_tbl := by decide +kernel
theorem xl_n3 : ∀ w ∈ atNS.filter goodWord, w ∈ lw_tbl := by decide +kernel
theorem xl_i4 : ∀ w ∈ atIA.filter (fun w => !goodWord w), w ∈ mDcW := by decide +kernel
theorem xl_n4 : ∀ w ∈ atNS.filter (fun w => !goodWord w), w ∈ mDcW := by decide +kernel
theorem xl_i5 : ∀ w ∈ Cond.classLink "HopedHours" 422 "java/lang/IllegalArgumentException" :: Cond.initialized "java/lang/IllegalArgumentException" :: atIA, vx_ot w = true := by decide +kernel
theorem xl_n5 : ∀ w ∈ Cond.classLink "HopedHours" 415 "java/util/NoSuchElementException" :: Cond.initialized "java/util/NoSuchElementException" :: atNS, vx_ot w = true := by decide +kernel
theorem jr_hat {k : Nat} {args : Array Value} {s : State} (hts : ∀ w ∈ mWs k, w.before args s = true) (w16 : ∀ q ∈ mDcl, va_Nw (.declares q) s) (w17 : ∀ q ∈ mCst, va_Nw (.castable q q) s) {L : List Cond} (h3 : ∀ w ∈ L.filter goodWord, w ∈ lw_tbl) (h4 : ∀ w ∈ L.filter (fun w => !goodWord w), w ∈ mDcW) : ∀ w ∈ L, w.before args s = true := by
  refine vx_hat (B := mDcW) (fun w hw => hts _ (List.mem_cons_of_mem _ (List.mem_filter.mpr ⟨h3 w hw, (List.mem_filter.mp hw).2⟩))) h4 (fun w hw => ?_)
  rcases List.mem_append.mp hw with h | h
  · obtain ⟨q, hq, rfl⟩ := List.mem_map.mp h
    exact va_Nw.use rfl (w16 q hq)
  · obtain ⟨q, hq, rfl⟩ := List.mem_map.mp h
    exact va_Nw.use rfl (w17 q hq)
section X0
variable {l : Launch} {g : mG} {d k : Nat} {Φ : mR → Mm → Int64 → Prop} {MC MS : Nat} {pc : Nat} {L S : List Value} {m : Mm} {o : Int64} {cN sN : Nat}
theorem jr_throwIA (hk : mChk k = true) (hH : mHd k = []) (hoc : mCn (mOc k) = "HopedHours")
    {a0 b0 c0 a1 b1 c1 a2 b2 c2 a3 b3 c3 a4 b4 c4 : Nat} {t0 t1 t2 t3 t4 : List Nat} (e0 : mFind (mCd k) pc = some (.new 422, 3, a0, b0, c0, t0)) (e1 : mFind (mCd k) (pc + 3) = some (.dup, 1, a1, b1, c1, t1)) (e2 : mFind (mCd k) (pc + 4) = some (.ldc_w 424, 3, a2, b2, c2, t2)) (e3 : mFind (mCd k) (pc + 7) = some (.invokespecial 426, 3, a3, b3, c3, t3)) (e4 : mFind (mCd k) (pc + 10) = some (.athrow, 1, a4, b4, c4, t4))
    (hd : 6 ≤ d) (hSt : (S.map fun v => v.category).sum ≤ 8) (hc : cN + 1 ≤ MC) (hs : sN + 6 ≤ MS) (hf : Φ (.inr 0) m o) : mWB l g d k Φ MC MS pc L S m o cN sN := by
  intro p ev s mi args below meth cd H locs ls C hP hS hL
  obtain ⟨hx, hb, hml, hr, hlk, hown, hts, htab, htr, hW, hB⟩ := id C
  obtain ⟨w1, w2, w3, w4, w5, w6, w7, w8, w9, w10, w11, w12, w13, w14, w15, w16, w17⟩ := id hW
  rw [hoc] at hown
  have hcat : ∀ t : List Value, ((t.map (mtr (gA g))).map fun v => v.category).sum = (t.map fun v => v.category).sum := fun t => by
    rw [List.map_map]
    congr 1
    apply List.map_congr_left
    intro v _
    exact mtr_cat _ v
  refine vx_throwSW (cls := "java/lang/IllegalArgumentException") (names := nIA) (A := mA g) hx hb htr hown (by decide +kernel) (by decide +kernel) (hts _ (List.mem_cons_of_mem _ xl_i1)) (hts _ (List.mem_cons_of_mem _ xl_i2)) (w3 ("HopedHours", 424, 0) (by decide +kernel)) (jr_hat hts w16 w17 xl_i3 xl_i4) xl_i5 w5 w6 hS (hL.1.trans hml.symm) (mDec hk e0).1 (mDec hk e1).1 (mDec hk e2).1 (mDec hk e3).1 (mDec hk e4).1 ?_ ?_ ?_ hc hs hlk ?_ hS.2.2 hc hs
  · intro z hz
    rw [htab, hH] at hz
    cases hz
  · show 2 + 3 < d
    omega
  · rw [hcat]
    show _ + (13 * (2 + 1) + 43) ≤ 64 * d
    omega
  · intro t ht1 ht2 ht3
    refine ⟨⟨0, m, o, rfl, hf, ?_, hP.2⟩, ?_, ?_⟩
    · exact hP.1.kept (fun k q hk => ht3 q.1 (vx_lt hP.1 hk))
    · exact Nat.le_trans hS.1 ht2
    · intro q h1 h2
      rw [ht3 q (Nat.lt_of_lt_of_le h1 hS.1), hS.2.1 q h1 h2]
theorem jr_throwNS (hk : mChk k = true) (hH : mHd k = []) (hoc : mCn (mOc k) = "HopedHours")
    {a0 b0 c0 a1 b1 c1 a2 b2 c2 a3 b3 c3 a4 b4 c4 : Nat} {t0 t1 t2 t3 t4 : List Nat} (e0 : mFind (mCd k) pc = some (.new 415, 3, a0, b0, c0, t0)) (e1 : mFind (mCd k) (pc + 3) = some (.dup, 1, a1, b1, c1, t1)) (e2 : mFind (mCd k) (pc + 4) = some (.ldc_w 417, 3, a2, b2, c2, t2)) (e3 : mFind (mCd k) (pc + 7) = some (.invokespecial 419, 3, a3, b3, c3, t3)) (e4 : mFind (mCd k) (pc + 10) = some (.athrow, 1, a4, b4, c4, t4))
    (hd : 6 ≤ d) (hSt : (S.map fun v => v.category).sum ≤ 8) (hc : cN + 1 ≤ MC) (hs : sN + 6 ≤ MS) (hf : Φ (.inr 1) m o) : mWB l g d k Φ MC MS pc L S m o cN sN := by
  intro p ev s mi args below meth cd H locs ls C hP hS hL
  obtain ⟨hx, hb, hml, hr, hlk, hown, hts, htab, htr, hW, hB⟩ := id C
  obtain ⟨w1, w2, w3, w4, w5, w6, w7, w8, w9, w10, w11, w12, w13, w14, w15, w16, w17⟩ := id hW
  rw [hoc] at hown
  have hcat : ∀ t : List Value, ((t.map (mtr (gA g))).map fun v => v.category).sum = (t.map fun v => v.category).sum := fun t => by
    rw [List.map_map]
    congr 1
    apply List.map_congr_left
    intro v _
    exact mtr_cat _ v
  refine xn_throw (cls := "java/util/NoSuchElementException") (names := nNS) (A := mA g) (b1 := prog_31_method_4_code) (i1 := 13) (Y0 := "java/lang/RuntimeException") hx hb htr (by decide +kernel) (by decide +kernel) (by decide +kernel) (by decide +kernel) (by decide +kernel) hown (by decide +kernel) (by decide +kernel) (hts _ (List.mem_cons_of_mem _ xl_n1)) (hts _ (List.mem_cons_of_mem _ xl_n2)) (w3 ("HopedHours", 417, 18) (by decide +kernel)) (jr_hat hts w16 w17 xl_n3 xl_n4) xl_n5 w5 w6 hS (hL.1.trans hml.symm) (mDec hk e0).1 (mDec hk e1).1 (mDec hk e2).1 (mDec hk e3).1 (mDec hk e4).1 ?_ ?_ ?_ hc hs hlk ?_ hS.2.2 hc hs
  · intro z hz
    rw [htab, hH] at hz
    cases hz
  · show 1 + 4 < d
    omega
  · rw [hcat]
    show _ + (13 * (1 + 2) + 43) ≤ 64 * d
    omega
  · intro t ht1 ht2 ht3
    refine ⟨⟨1, m, o, rfl, hf, ?_, hP.2⟩, ?_, ?_⟩
    · exact hP.1.kept (fun k q hk => ht3 q.1 (vx_lt hP.1 hk))
    · exact Nat.le_trans hS.1 ht2
    · intro q h1 h2
      rw [ht3 q (Nat.lt_of_lt_of_le h1 hS.1), hS.2.1 q h1 h2]
/-- what needArgument (j = 1) and needElement (j = 0) do -/
def ndΦ (j : Nat) (b : Int32) (m : Mm) (o : Int64) : mR → Mm → Int64 → Prop := mVX (fun m2 o2 => b ≠ 0 ∧ m2 = m ∧ o2 = o) (fun x m2 o2 => b = 0 ∧ x = 1 - j ∧ m2 = mset m 586 (15 + j) (m 586 (15 + j) + 1) ∧ o2 = o)
theorem x_needE (htr : l.stackTraces = false) (hd : 6 ≤ d) (b : Int32) : mSat l g d k_X11_needElement [.ref 586, .int b] m o (ndΦ 0 b m o) 1 6 := by
  refine mBody htr 0 rfl rfl rfl (by decide) rfl (mGoOn (mOk (by decide)) rfl [14] 400 ?_)
  have hr : b ≠ 0 → ndΦ 0 b m o (.inl none) m o := fun q => ⟨q, rfl, rfl⟩
  have hx : b = 0 → ndΦ 0 b m o (.inr 1) (mset m 586 15 (m 586 15 + 1)) o := fun q => ⟨q, rfl, rfl, rfl⟩
  generalize ndΦ 0 b m o = Φ at hr hx ⊢
  show (¬ b = 0 → Φ (.inl none) m o ∧ 0 ≤ 1 ∧ 0 ≤ 6) ∧ (b = 0 → (Value.ref 586).category = 1 ∧ mWB l g d k_X11_needElement Φ 1 6 14 [.ref 586, .int b] [] (mset m 586 15 (m 586 15 + 1)) o 0 0)
  refine ⟨fun q => ⟨hr q, by decide, by decide⟩, fun q => ⟨rfl, ?_⟩⟩
  exact jr_throwNS (mOk (by decide)) rfl rfl rfl rfl rfl rfl rfl hd (by decide) (by decide) (by decide) (hx q)
theorem x_needA (htr : l.stackTraces = false) (hd : 6 ≤ d) (b : Int32) : mSat l g d k_X11_needArgument [.ref 586, .int b] m o (ndΦ 1 b m o) 1 6 := by
  refine mBody htr 0 rfl rfl rfl (by decide) rfl (mGoOn (mOk (by decide)) rfl [14] 400 ?_)
  have hr : b ≠ 0 → ndΦ 1 b m o (.inl none) m o := fun q => ⟨q, rfl, rfl⟩
  have hx : b = 0 → ndΦ 1 b m o (.inr 0) (mset m 586 16 (m 586 16 + 1)) o := fun q => ⟨q, rfl, rfl, rfl⟩
  generalize ndΦ 1 b m o = Φ at hr hx ⊢
  show (¬ b = 0 → Φ (.inl none) m o ∧ 0 ≤ 1 ∧ 0 ≤ 6) ∧ (b = 0 → (Value.ref 586).category = 1 ∧ mWB l g d k_X11_needArgument Φ 1 6 14 [.ref 586, .int b] [] (mset m 586 16 (m 586 16 + 1)) o 0 0)
  refine ⟨fun q => ⟨hr q, by decide, by decide⟩, fun q => ⟨rfl, ?_⟩⟩
  exact jr_throwIA (mOk (by decide)) rfl rfl rfl rfl rfl rfl rfl hd (by decide) (by decide) (by decide) (hx q)
/-- a call of them in a method without handlers -/
theorem cNeed {j a : Nat} {nx : Nat → List Value → List Value → Mm → Int64 → Nat → Nat → Prop} {R : List Value} {b : Int32} (hs : ∀ {l : Launch} {g : mG} {d : Nat} {m : Mm} {o : Int64}, l.stackTraces = false → 6 ≤ d → mSat l g d a [.ref 586, .int b] m o (ndΦ j b m o) 1 6) (htr : l.stackTraces = false) (hH : mHd k = []) (hd : 7 ≤ d) (h1 : cN + 1 ≤ MC) (h2 : sN + 6 ≤ MS)
    (kk : b ≠ 0 → nx (pc + 3) L R m o (cN + 1) (sN + 6)) (kx : b = 0 → Φ (.inr (1 - j)) (mset m 586 (15 + j) (m 586 (15 + j) + 1)) o) : mCal l g d k Φ MC MS nx pc a false [.ref 586, .int b] R L m o cN sN 0 := by
  refine ⟨d - 1, fun m2 o2 => b ≠ 0 ∧ m2 = m ∧ o2 = o, fun x m2 o2 => b = 0 ∧ x = 1 - j ∧ m2 = mset m 586 (15 + j) (m 586 (15 + j) + 1) ∧ o2 = o, 1, 6, by omega, hs htr (by omega), h1, h2, ?_, ?_⟩
  · rintro m2 o2 ⟨q, rfl, rfl⟩
    exact kk q
  · rintro x m2 o2 ⟨q, rfl, rfl, rfl⟩
    exact mXB_out hH (kx q) h1 h2
theorem cNeedE {nx : Nat → List Value → List Value → Mm → Int64 → Nat → Nat → Prop} {R : List Value} {b : Int32} (htr : l.stackTraces = false) (hH : mHd k = []) (hd : 7 ≤ d) (h1 : cN + 1 ≤ MC) (h2 : sN + 6 ≤ MS)
    (kk : b ≠ 0 → nx (pc + 3) L R m o (cN + 1) (sN + 6)) (kx : b = 0 → Φ (.inr 1) (mset m 586 15 (m 586 15 + 1)) o) : mCal l g d k Φ MC MS nx pc k_X11_needElement false [.ref 586, .int b] R L m o cN sN 0 := cNeed (j := 0) (fun h1 h2 => x_needE h1 h2 b) htr hH hd h1 h2 kk kx
theorem cNeedA {nx : Nat → List Value → List Value → Mm → Int64 → Nat → Nat → Prop} {R : List Value} {b : Int32} (htr : l.stackTraces = false) (hH : mHd k = []) (hd : 7 ≤ d) (h1 : cN + 1 ≤ MC) (h2 : sN + 6 ≤ MS)
    (kk : b ≠ 0 → nx (pc + 3) L R m o (cN + 1) (sN + 6)) (kx : b = 0 → Φ (.inr 0) (mset m 586 16 (m 586 16 + 1)) o) : mCal l g d k Φ MC MS nx pc k_X11_needArgument false [.ref 586, .int b] R L m o cN sN 0 := cNeed (j := 1) (fun h1 h2 => x_needA h1 h2 b) htr hH hd h1 h2 kk kx
theorem x_refA (htr : l.stackTraces = false) (hd : 7 ≤ d) : mSat l g d k_X11_refuseArgument [.ref 586] m o (mIX (fun _ _ _ => False) (fun x m2 o2 => x = 0 ∧ m2 = mset m 586 16 (m 586 16 + 1) ∧ o2 = o)) 1 6 := by
  refine mBody htr 0 rfl rfl rfl (by decide) rfl (mGoOn (mOk (by decide)) rfl [] 400 ?_)
  have hx : (mIX (fun _ _ _ => False) (fun x m2 o2 => x = 0 ∧ m2 = mset m 586 16 (m 586 16 + 1) ∧ o2 = o) : mR → Mm → Int64 → Prop) (.inr 0) (mset m 586 16 (m 586 16 + 1)) o := ⟨rfl, rfl, rfl⟩
  generalize (mIX (fun _ _ _ => False) (fun x m2 o2 => x = 0 ∧ m2 = mset m 586 16 (m 586 16 + 1) ∧ o2 = o) : mR → Mm → Int64 → Prop) = Φ at hx ⊢
  show True ∧ mCal l g d k_X11_refuseArgument Φ 1 6 _ 2 k_X11_needArgument false [.ref 586, .int 0] [] [.ref 586] m o 0 0 0
  exact ⟨trivial, cNeedA htr rfl hd (by decide) (by decide) (fun q => absurd rfl q) (fun _ => hx)⟩
theorem cRefA {nx : Nat → List Value → List Value → Mm → Int64 → Nat → Nat → Prop} {R : List Value} (htr : l.stackTraces = false) (hH : mHd k = []) (hd : 8 ≤ d) (h1 : cN + 1 ≤ MC) (h2 : sN + 6 ≤ MS)
    (kx : Φ (.inr 0) (mset m 586 16 (m 586 16 + 1)) o) : mCal l g d k Φ MC MS nx pc k_X11_refuseArgument false [.ref 586] R L m o cN sN 1 := by
  refine ⟨d - 1, fun _ _ _ => False, fun x m2 o2 => x = 0 ∧ m2 = mset m 586 16 (m 586 16 + 1) ∧ o2 = o, 1, 6, by omega, x_refA htr (by omega), h1, h2, fun x m2 o2 q => q.elim, ?_⟩
  rintro x m2 o2 ⟨rfl, rfl, rfl⟩
  exact mXB_out hH kx h1 h2
end X0
