set_option maxRecDepth 100000
/-! THE FIRST CELLS: the steps -/
/-- which arrays there are over what -/
def bOv (s : State) : Prop := va_AO RX5 s ∧ va_AO RX3 s ∧ va_AOA .int s ∧ va_AOA .boolean s
theorem bOv.moved {u U : State} (hvm : u.vm.Alike U.vm) (h : bOv u) : bOv U := ⟨va_AO.moved hvm h.1, va_AO.moved hvm h.2.1, over_moved hvm h.2.2.1, over_moved hvm h.2.2.2⟩
def bWB (l : Launch) (g : mG) (d k : Nat) (Q : List Frame → Array Value → State → State → Prop) (MC MS base pc : Nat) (L S : List Value) (σ : bS) : Prop :=
  ∀ (p : Program) (e : Env) (s : State) (mi : MethodId) (args : Array Value) (below : List Frame) (meth : Method) (c : Code) (H : Heap) (locs : List Loc) (ls : Array Slot),
    mCtx l g k p s mi args meth c → (((mY k).name = "<init>" → meth.name = "<init>") ∧ bOv s) → s.heap.size = gB g + base → bP g σ H → va_S (mA g) s.heap H locs → lv_has ls (mNl k) (mLv (gA g) L) →
    W p l e (mRm d MC MS) s mi args below meth c H locs (σ.1 - base) (bSl σ.1 - bSl base) (Q below args s) (F0 mi pc ls (S.map (mtr (gA g))))
theorem W_size {p : Program} {l : Launch} {e : Env} {R : Room} {s : State} {m : MethodId} {args : Array Value} {below : List Frame} {meth : Method} {c : Code} {H : Heap} {locs : List Loc} {cells slots : Nat} {Q : State → Prop} {g : JFrame} (h : H.size ≤ s.heap.size + cells → W p l e R s m args below meth c H locs cells slots Q g) : W p l e R s m args below meth c H locs cells slots Q g := fun T hT X => h (by rw [← hT]; exact X.heapSize) T hT X
theorem bP_size {g : mG} {σ : bS} {H : Heap} {s : State} {base : Nat} {locs : List Loc} (hG : bG g) (hP : bP g σ H) (hbs : base ≤ σ.1) (hsz : s.heap.size = gB g + base) (hS : va_S (mA g) s.heap H locs) (h : H.size ≤ s.heap.size + (σ.1 - base)) : H.size = gB g + σ.1 := by
  have h0 := hS.1
  by_cases q : σ.1 = base
  · omega
  · have h3 := (hP.1 (σ.1 - 1) (by omega)).lt
    have h4 : gA g (al (σ.1 - 1)) < H.size := h3
    rw [hG (σ.1 - 1) (by have := hP.2; omega)] at h4
    omega
theorem bs_iconst {l : Launch} {g : mG} {d k : Nat} {Q : List Frame → Array Value → State → State → Prop} {MC MS base pc len a b c : Nat} {ts : List Nat} {L S : List Value} {σ : bS} {r : bC} {n : Int} (hG : bG g) (hbs : base ≤ σ.1) (hd1 : 1 ≤ d) (h1 : r.2.2.2.1 - base ≤ MC) (h2 : bSl r.2.2.2.1 - bSl base ≤ MS) (hd : decode (mBy k) pc = .ok (.iconst n, len)) (hln : mLnB (.iconst n) len = true) (hp : mPay k pc (.iconst n) a b c ts = true) (h : bStep k pc (.iconst n, len, a, b, c, ts) L S σ = some r) (kk : bWB l g d k Q MC MS base r.1 r.2.1 r.2.2.1 r.2.2.2) : bWB l g d k Q MC MS base pc L S σ := by
  intro p ev s mi args below meth cd H locs ls C hin hsz hP hS hL
  obtain ⟨hx, hb, hml, hr, hlk, hown, hts, htab, htr, hW, hB⟩ := id C
  have e1 : len = 1 := Nat.eq_of_beq_eq_true hln
  subst e1
  cases (show some _ = some r from h)
  exact lv_iconst hx hb hd (of_decide_eq_true hp) (kk p ev s mi args below meth cd H locs ls C hin hsz hP hS hL)
theorem bs_bipush {l : Launch} {g : mG} {d k : Nat} {Q : List Frame → Array Value → State → State → Prop} {MC MS base pc len a b c : Nat} {ts : List Nat} {L S : List Value} {σ : bS} {r : bC} {n : Int} (hG : bG g) (hbs : base ≤ σ.1) (hd1 : 1 ≤ d) (h1 : r.2.2.2.1 - base ≤ MC) (h2 : bSl r.2.2.2.1 - bSl base ≤ MS) (hd : decode (mBy k) pc = .ok (.bipush n, len)) (hln : mLnB (.bipush n) len = true) (hp : mPay k pc (.bipush n) a b c ts = true) (h : bStep k pc (.bipush n, len, a, b, c, ts) L S σ = some r) (kk : bWB l g d k Q MC MS base r.1 r.2.1 r.2.2.1 r.2.2.2) : bWB l g d k Q MC MS base pc L S σ := by
  intro p ev s mi args below meth cd H locs ls C hin hsz hP hS hL
  obtain ⟨hx, hb, hml, hr, hlk, hown, hts, htab, htr, hW, hB⟩ := id C
  have e1 : len = 2 := Nat.eq_of_beq_eq_true hln
  subst e1
  cases (show some _ = some r from h)
  exact lv_bipush hx hb hd (of_decide_eq_true hp) (kk p ev s mi args below meth cd H locs ls C hin hsz hP hS hL)
theorem bs_sipush {l : Launch} {g : mG} {d k : Nat} {Q : List Frame → Array Value → State → State → Prop} {MC MS base pc len a b c : Nat} {ts : List Nat} {L S : List Value} {σ : bS} {r : bC} {n : Int} (hG : bG g) (hbs : base ≤ σ.1) (hd1 : 1 ≤ d) (h1 : r.2.2.2.1 - base ≤ MC) (h2 : bSl r.2.2.2.1 - bSl base ≤ MS) (hd : decode (mBy k) pc = .ok (.sipush n, len)) (hln : mLnB (.sipush n) len = true) (hp : mPay k pc (.sipush n) a b c ts = true) (h : bStep k pc (.sipush n, len, a, b, c, ts) L S σ = some r) (kk : bWB l g d k Q MC MS base r.1 r.2.1 r.2.2.1 r.2.2.2) : bWB l g d k Q MC MS base pc L S σ := by
  intro p ev s mi args below meth cd H locs ls C hin hsz hP hS hL
  obtain ⟨hx, hb, hml, hr, hlk, hown, hts, htab, htr, hW, hB⟩ := id C
  have e1 : len = 3 := Nat.eq_of_beq_eq_true hln
  subst e1
  cases (show some _ = some r from h)
  exact lv_sipush hx hb hd (of_decide_eq_true hp) (kk p ev s mi args below meth cd H locs ls C hin hsz hP hS hL)
theorem bs_goto {l : Launch} {g : mG} {d k : Nat} {Q : List Frame → Array Value → State → State → Prop} {MC MS base pc len a b c : Nat} {ts : List Nat} {L S : List Value} {σ : bS} {r : bC} {off : Int} (hG : bG g) (hbs : base ≤ σ.1) (hd1 : 1 ≤ d) (h1 : r.2.2.2.1 - base ≤ MC) (h2 : bSl r.2.2.2.1 - bSl base ≤ MS) (hd : decode (mBy k) pc = .ok (.goto off, len)) (hln : mLnB (.goto off) len = true) (hp : mPay k pc (.goto off) a b c ts = true) (h : bStep k pc (.goto off, len, a, b, c, ts) L S σ = some r) (kk : bWB l g d k Q MC MS base r.1 r.2.1 r.2.2.1 r.2.2.2) : bWB l g d k Q MC MS base pc L S σ := by
  intro p ev s mi args below meth cd H locs ls C hin hsz hP hS hL
  obtain ⟨hx, hb, hml, hr, hlk, hown, hts, htab, htr, hW, hB⟩ := id C
  have e1 : len = 3 := Nat.eq_of_beq_eq_true hln
  subst e1
  cases (show some _ = some r from h)
  exact lv_goto hx hb hd (of_decide_eq_true hp) (kk p ev s mi args below meth cd H locs ls C hin hsz hP hS hL)
theorem bs_aload_n {l : Launch} {g : mG} {d k : Nat} {Q : List Frame → Array Value → State → State → Prop} {MC MS base pc len a b c : Nat} {ts : List Nat} {L S : List Value} {σ : bS} {r : bC} {i : Fin 4} (hG : bG g) (hbs : base ≤ σ.1) (hd1 : 1 ≤ d) (h1 : r.2.2.2.1 - base ≤ MC) (h2 : bSl r.2.2.2.1 - bSl base ≤ MS) (hd : decode (mBy k) pc = .ok (.aload_n i, len)) (hln : mLnB (.aload_n i) len = true) (hp : mPay k pc (.aload_n i) a b c ts = true) (h : bStep k pc (.aload_n i, len, a, b, c, ts) L S σ = some r) (kk : bWB l g d k Q MC MS base r.1 r.2.1 r.2.2.1 r.2.2.2) : bWB l g d k Q MC MS base pc L S σ := by
  intro p ev s mi args below meth cd H locs ls C hin hsz hP hS hL
  obtain ⟨hx, hb, hml, hr, hlk, hown, hts, htab, htr, hW, hB⟩ := id C
  have e1 : len = 1 := Nat.eq_of_beq_eq_true hln
  subst e1
  obtain ⟨x, q, h⟩ := bGr_of h
  cases h
  exact lv_aload_n hx hb hd rfl (mLv_get hL q (mJ_r x)) (kk p ev s mi args below meth cd H locs ls C hin hsz hP hS hL)
theorem bs_iload_n {l : Launch} {g : mG} {d k : Nat} {Q : List Frame → Array Value → State → State → Prop} {MC MS base pc len a b c : Nat} {ts : List Nat} {L S : List Value} {σ : bS} {r : bC} {i : Fin 4} (hG : bG g) (hbs : base ≤ σ.1) (hd1 : 1 ≤ d) (h1 : r.2.2.2.1 - base ≤ MC) (h2 : bSl r.2.2.2.1 - bSl base ≤ MS) (hd : decode (mBy k) pc = .ok (.iload_n i, len)) (hln : mLnB (.iload_n i) len = true) (hp : mPay k pc (.iload_n i) a b c ts = true) (h : bStep k pc (.iload_n i, len, a, b, c, ts) L S σ = some r) (kk : bWB l g d k Q MC MS base r.1 r.2.1 r.2.2.1 r.2.2.2) : bWB l g d k Q MC MS base pc L S σ := by
  intro p ev s mi args below meth cd H locs ls C hin hsz hP hS hL
  obtain ⟨hx, hb, hml, hr, hlk, hown, hts, htab, htr, hW, hB⟩ := id C
  have e1 : len = 1 := Nat.eq_of_beq_eq_true hln
  subst e1
  obtain ⟨x, q, h⟩ := bGi_of h
  cases h
  exact lv_iload_n hx hb hd rfl (mLv_get hL q (mJ_i x)) (kk p ev s mi args below meth cd H locs ls C hin hsz hP hS hL)
theorem bs_istore_n {l : Launch} {g : mG} {d k : Nat} {Q : List Frame → Array Value → State → State → Prop} {MC MS base pc len a b c : Nat} {ts : List Nat} {L S : List Value} {σ : bS} {r : bC} {i : Fin 4} (hG : bG g) (hbs : base ≤ σ.1) (hd1 : 1 ≤ d) (h1 : r.2.2.2.1 - base ≤ MC) (h2 : bSl r.2.2.2.1 - bSl base ≤ MS) (hd : decode (mBy k) pc = .ok (.istore_n i, len)) (hln : mLnB (.istore_n i) len = true) (hp : mPay k pc (.istore_n i) a b c ts = true) (h : bStep k pc (.istore_n i, len, a, b, c, ts) L S σ = some r) (kk : bWB l g d k Q MC MS base r.1 r.2.1 r.2.2.1 r.2.2.2) : bWB l g d k Q MC MS base pc L S σ := by
  intro p ev s mi args below meth cd H locs ls C hin hsz hP hS hL
  obtain ⟨hx, hb, hml, hr, hlk, hown, hts, htab, htr, hW, hB⟩ := id C
  have e1 : len = 1 := Nat.eq_of_beq_eq_true hln
  subst e1
  obtain ⟨x, t, rfl, h⟩ := b1i_of h
  cases h
  exact lv_istore_n hx hb hd rfl hL (of_decide_eq_true hp) rfl (fun ls1 hl1 => kk p ev s mi args below meth cd H locs ls1 C hin hsz hP hS (mSto_has (v := .int x) hl1))
theorem bs_istore {l : Launch} {g : mG} {d k : Nat} {Q : List Frame → Array Value → State → State → Prop} {MC MS base pc len a b c : Nat} {ts : List Nat} {L S : List Value} {σ : bS} {r : bC} {i : Nat} (hG : bG g) (hbs : base ≤ σ.1) (hd1 : 1 ≤ d) (h1 : r.2.2.2.1 - base ≤ MC) (h2 : bSl r.2.2.2.1 - bSl base ≤ MS) (hd : decode (mBy k) pc = .ok (.istore i, len)) (hln : mLnB (.istore i) len = true) (hp : mPay k pc (.istore i) a b c ts = true) (h : bStep k pc (.istore i, len, a, b, c, ts) L S σ = some r) (kk : bWB l g d k Q MC MS base r.1 r.2.1 r.2.2.1 r.2.2.2) : bWB l g d k Q MC MS base pc L S σ := by
  intro p ev s mi args below meth cd H locs ls C hin hsz hP hS hL
  obtain ⟨hx, hb, hml, hr, hlk, hown, hts, htab, htr, hW, hB⟩ := id C
  have e1 : len = 2 := Nat.eq_of_beq_eq_true hln
  subst e1
  obtain ⟨x, t, rfl, h⟩ := b1i_of h
  cases h
  exact lv_istore hx hb hd hL (of_decide_eq_true hp) rfl (fun ls1 hl1 => kk p ev s mi args below meth cd H locs ls1 C hin hsz hP hS (mSto_has (v := .int x) hl1))
theorem bs_astore_n {l : Launch} {g : mG} {d k : Nat} {Q : List Frame → Array Value → State → State → Prop} {MC MS base pc len a b c : Nat} {ts : List Nat} {L S : List Value} {σ : bS} {r : bC} {i : Fin 4} (hG : bG g) (hbs : base ≤ σ.1) (hd1 : 1 ≤ d) (h1 : r.2.2.2.1 - base ≤ MC) (h2 : bSl r.2.2.2.1 - bSl base ≤ MS) (hd : decode (mBy k) pc = .ok (.astore_n i, len)) (hln : mLnB (.astore_n i) len = true) (hp : mPay k pc (.astore_n i) a b c ts = true) (h : bStep k pc (.astore_n i, len, a, b, c, ts) L S σ = some r) (kk : bWB l g d k Q MC MS base r.1 r.2.1 r.2.2.1 r.2.2.2) : bWB l g d k Q MC MS base pc L S σ := by
  intro p ev s mi args below meth cd H locs ls C hin hsz hP hS hL
  obtain ⟨hx, hb, hml, hr, hlk, hown, hts, htab, htr, hW, hB⟩ := id C
  have e1 : len = 1 := Nat.eq_of_beq_eq_true hln
  subst e1
  obtain ⟨x, t, rfl, h⟩ := b1r_of h
  cases h
  exact lv_astore_n hx hb hd rfl hL (of_decide_eq_true hp) rfl (fun ls1 hl1 => kk p ev s mi args below meth cd H locs ls1 C hin hsz hP hS (mSto_has (v := .ref x) hl1))
theorem bs_iinc {l : Launch} {g : mG} {d k : Nat} {Q : List Frame → Array Value → State → State → Prop} {MC MS base pc len a b c : Nat} {ts : List Nat} {L S : List Value} {σ : bS} {r : bC} {i : Nat} {n : Int} (hG : bG g) (hbs : base ≤ σ.1) (hd1 : 1 ≤ d) (h1 : r.2.2.2.1 - base ≤ MC) (h2 : bSl r.2.2.2.1 - bSl base ≤ MS) (hd : decode (mBy k) pc = .ok (.iinc i n, len)) (hln : mLnB (.iinc i n) len = true) (hp : mPay k pc (.iinc i n) a b c ts = true) (h : bStep k pc (.iinc i n, len, a, b, c, ts) L S σ = some r) (kk : bWB l g d k Q MC MS base r.1 r.2.1 r.2.2.1 r.2.2.2) : bWB l g d k Q MC MS base pc L S σ := by
  intro p ev s mi args below meth cd H locs ls C hin hsz hP hS hL
  obtain ⟨hx, hb, hml, hr, hlk, hown, hts, htab, htr, hW, hB⟩ := id C
  have e1 : len = 3 := Nat.eq_of_beq_eq_true hln
  subst e1
  obtain ⟨x, q, h⟩ := bGi_of h
  cases h
  have hp : (decide (Int32.ofInt n = mLit n) && decide (i < mNl k)) = true := hp
  rw [Bool.and_eq_true, decide_eq_true_eq, decide_eq_true_eq] at hp
  obtain ⟨z, hz⟩ := List.getElem?_of_mem (mLv_mem.mpr ⟨i, _, q, mJ_i x, rfl⟩)
  exact lv_iinc hx hb hd hL hz (v := x + mLit n) (by rw [hp.1]) hp.2 rfl (fun ls1 hl1 => kk p ev s mi args below meth cd H locs ls1 C hin hsz hP hS (mSto_has (v := .int (x + mLit n)) hl1))
theorem bs_dup {l : Launch} {g : mG} {d k : Nat} {Q : List Frame → Array Value → State → State → Prop} {MC MS base pc len a b c : Nat} {ts : List Nat} {L S : List Value} {σ : bS} {r : bC} (hG : bG g) (hbs : base ≤ σ.1) (hd1 : 1 ≤ d) (h1 : r.2.2.2.1 - base ≤ MC) (h2 : bSl r.2.2.2.1 - bSl base ≤ MS) (hd : decode (mBy k) pc = .ok (.dup, len)) (hln : mLnB (.dup) len = true) (hp : mPay k pc (.dup) a b c ts = true) (h : bStep k pc (.dup, len, a, b, c, ts) L S σ = some r) (kk : bWB l g d k Q MC MS base r.1 r.2.1 r.2.2.1 r.2.2.2) : bWB l g d k Q MC MS base pc L S σ := by
  intro p ev s mi args below meth cd H locs ls C hin hsz hP hS hL
  obtain ⟨hx, hb, hml, hr, hlk, hown, hts, htab, htr, hW, hB⟩ := id C
  have e1 : len = 1 := Nat.eq_of_beq_eq_true hln
  subst e1
  obtain ⟨x, t, rfl, h⟩ := b1r_of h
  cases h
  exact lv_dup hx hb hd rfl (kk p ev s mi args below meth cd H locs ls C hin hsz hP hS hL)
theorem bs_iadd {l : Launch} {g : mG} {d k : Nat} {Q : List Frame → Array Value → State → State → Prop} {MC MS base pc len a b c : Nat} {ts : List Nat} {L S : List Value} {σ : bS} {r : bC} (hG : bG g) (hbs : base ≤ σ.1) (hd1 : 1 ≤ d) (h1 : r.2.2.2.1 - base ≤ MC) (h2 : bSl r.2.2.2.1 - bSl base ≤ MS) (hd : decode (mBy k) pc = .ok (.iadd, len)) (hln : mLnB (.iadd) len = true) (hp : mPay k pc (.iadd) a b c ts = true) (h : bStep k pc (.iadd, len, a, b, c, ts) L S σ = some r) (kk : bWB l g d k Q MC MS base r.1 r.2.1 r.2.2.1 r.2.2.2) : bWB l g d k Q MC MS base pc L S σ := by
  intro p ev s mi args below meth cd H locs ls C hin hsz hP hS hL
  obtain ⟨hx, hb, hml, hr, hlk, hown, hts, htab, htr, hW, hB⟩ := id C
  have e1 : len = 1 := Nat.eq_of_beq_eq_true hln
  subst e1
  obtain ⟨y, t, rfl, h⟩ := b1i_of h
  obtain ⟨x, t, rfl, h⟩ := b1i_of h
  cases h
  exact lv_iadd hx hb hd (kk p ev s mi args below meth cd H locs ls C hin hsz hP hS hL)
theorem bs_icmp_ge {l : Launch} {g : mG} {d k : Nat} {Q : List Frame → Array Value → State → State → Prop} {MC MS base pc len a b c : Nat} {ts : List Nat} {L S : List Value} {σ : bS} {r : bC} {off : Int} (hG : bG g) (hbs : base ≤ σ.1) (hd1 : 1 ≤ d) (h1 : r.2.2.2.1 - base ≤ MC) (h2 : bSl r.2.2.2.1 - bSl base ≤ MS) (hd : decode (mBy k) pc = .ok (.if_icmp .ge off, len)) (hln : mLnB (.if_icmp .ge off) len = true) (hp : mPay k pc (.if_icmp .ge off) a b c ts = true) (h : bStep k pc (.if_icmp .ge off, len, a, b, c, ts) L S σ = some r) (kk : bWB l g d k Q MC MS base r.1 r.2.1 r.2.2.1 r.2.2.2) : bWB l g d k Q MC MS base pc L S σ := by
  intro p ev s mi args below meth cd H locs ls C hin hsz hP hS hL
  obtain ⟨hx, hb, hml, hr, hlk, hown, hts, htab, htr, hW, hB⟩ := id C
  have e1 : len = 3 := Nat.eq_of_beq_eq_true hln
  subst e1
  obtain ⟨y, t, rfl, h⟩ := b1i_of h
  obtain ⟨x, t, rfl, h⟩ := b1i_of h
  cases h
  have kk : bWB l g d k Q MC MS base (if y ≤ x then a else pc + 3) L t σ := kk
  refine lv_icmp_ge hx hb hd (of_decide_eq_true hp) (fun q => ?_) (fun q => ?_)
  · rw [if_pos q] at kk
    exact kk p ev s mi args below meth cd H locs ls C hin hsz hP hS hL
  · rw [if_neg q] at kk
    exact kk p ev s mi args below meth cd H locs ls C hin hsz hP hS hL
theorem bs_getfield {l : Launch} {g : mG} {d k : Nat} {Q : List Frame → Array Value → State → State → Prop} {MC MS base pc len a b c : Nat} {ts : List Nat} {L S : List Value} {σ : bS} {r : bC} {i : Nat} (hG : bG g) (hbs : base ≤ σ.1) (hd1 : 1 ≤ d) (h1 : r.2.2.2.1 - base ≤ MC) (h2 : bSl r.2.2.2.1 - bSl base ≤ MS) (hd : decode (mBy k) pc = .ok (.getfield i, len)) (hln : mLnB (.getfield i) len = true) (hp : mPay k pc (.getfield i) a b c ts = true) (h : bStep k pc (.getfield i, len, a, b, c, ts) L S σ = some r) (kk : bWB l g d k Q MC MS base r.1 r.2.1 r.2.2.1 r.2.2.2) : bWB l g d k Q MC MS base pc L S σ := by
  intro p ev s mi args below meth cd H locs ls C hin hsz hP hS hL
  obtain ⟨hx, hb, hml, hr, hlk, hown, hts, htab, htr, hW, hB⟩ := id C
  have e1 : len = 3 := Nat.eq_of_beq_eq_true hln
  subst e1
  obtain ⟨x, t, rfl, h⟩ := b1r_of h
  obtain ⟨hc, h⟩ := bq_of h
  cases h
  have hc : (Nat.blt a 13 && (bHas σ x (10 + a) && (Nat.beq c 1 && bF σ x b))) = true := hc
  rw [Bool.and_eq_true, Bool.and_eq_true, Bool.and_eq_true] at hc
  obtain ⟨h13, hxb, hc1, hfl⟩ := hc
  obtain ⟨hxn, hxs, hxk⟩ := bHas_of hxb
  obtain ⟨r, hr1, hr2, hr3, hr4, -⟩ := mFld h13 hp
  have hsz2 := mSize_of hxn hxk hr1
  have hc1 : c = 1 := Nat.eq_of_beq_eq_true hc1
  have hf : mIsRef a b = true := by
    by_cases hf : mIsRef a b = true
    · exact hf
    · rw [if_neg hf] at hr4
      omega
  have he : (bLs g σ)[ix x]? = some (gA g x, .inr (a, (List.range (mLn x)).map (bFv g σ x a))) := by rw [bLs_at g σ hxn hxs, bCE_ob g σ hxk]
  have hv : ((List.range (mLn x)).map (bFv g σ x a))[b]? = some (.ref (gA g (mRF x b))) := by
    rw [List.getElem?_map, List.getElem?_range (by omega)]
    show some (bFv g σ x a b) = _
    unfold bFv
    rw [if_pos hf, if_pos hfl]
  exact va_get (ci := a) hx hb hts (fun w hw => List.mem_cons_of_mem _ (mUs_of hr1 w hw)) hown hW.1 hP.P (ix x) he hr1 b hr2 (hts _ (List.mem_cons_of_mem _ hr3)) (fun _ q => q) hv hd (kk p ev s mi args below meth cd H locs ls C hin hsz hP hS hL)
theorem bDecl_ok : (List.range 13).all (fun ci => match vwCl[ci]? with | some q => (List.range q.2.2).all (fun j => decide ((q.2.1 j).1 = mCn ci)) | none => false) = true := by decide +kernel
theorem bDecl {ci j : Nat} {q : vw_C} (h : vwCl[ci]? = some q) (hj : j < q.2.2) : (q.2.1 j).1 = mCn ci := by
  have hl : ci < 13 := (List.getElem?_eq_some_iff.mp h).1
  have h1 := List.all_eq_true.mp bDecl_ok ci (List.mem_range.mpr hl)
  rw [h] at h1
  exact of_decide_eq_true (List.all_eq_true.mp h1 j (List.mem_range.mpr hj))
/-- a field's type: an int, or a reference -/
def bTyB (q : vw_C) (j : Nat) : Bool := match parseFieldDescriptor (q.2.1 j).2.2.1 with
  | some .int => decide ((q.2.1 j).2.2.1 = "I")
  | some (.object _) => decide ((q.2.1 j).2.2.1 ≠ "I")
  | some (.array _) => decide ((q.2.1 j).2.2.1 ≠ "I")
  | _ => false
theorem bTy_ok : (List.range 13).all (fun ci => match vwCl[ci]? with | some q => (List.range q.2.2).all (bTyB q) | none => false) = true := by decide +kernel
theorem bTy_of {ci j : Nat} {q : vw_C} (h : vwCl[ci]? = some q) (hj : j < q.2.2) : (mIsRef ci j = false ∧ parseFieldDescriptor (q.2.1 j).2.2.1 = some .int) ∨ (mIsRef ci j = true ∧ ∃ ty, parseFieldDescriptor (q.2.1 j).2.2.1 = some ty ∧ defaultValue ty = .null ∧ ∀ a, narrow ty (.ref a) = .ref a ∧ fits ty (.ref a) = true) := by
  have hl : ci < 13 := (List.getElem?_eq_some_iff.mp h).1
  have h1 := List.all_eq_true.mp bTy_ok ci (List.mem_range.mpr hl)
  rw [h] at h1
  have h2 : bTyB q j = true := List.all_eq_true.mp h1 j (List.mem_range.mpr hj)
  have hm : mIsRef ci j = decide ((q.2.1 j).2.2.1 ≠ "I") := by
    unfold mIsRef
    rw [h]
  unfold bTyB at h2
  split at h2
  · rename_i e
    refine Or.inl ⟨?_, e⟩
    rw [hm]
    simpa using h2
  · rename_i e
    exact Or.inr ⟨by rw [hm]; exact h2, _, e, rfl, fun _ => ⟨rfl, rfl⟩⟩
  · rename_i e
    exact Or.inr ⟨by rw [hm]; exact h2, _, e, rfl, fun _ => ⟨rfl, rfl⟩⟩
  · cases h2
/-- a list of fields, one of them new -/
theorem bFv_set {g : mG} {σ σ' : bS} {x a b : Nat} {v : Value} (hv : bFv g σ' x a b = v) (ho : ∀ j, j ≠ b → bFv g σ x a j = bFv g σ' x a j) : ((List.range (mLn x)).map (bFv g σ x a)).set b v = (List.range (mLn x)).map (bFv g σ' x a) := by
  apply List.ext_getElem?
  intro j
  by_cases hj : j < mLn x
  · rw [List.getElem?_map, List.getElem?_range hj]
    by_cases hjb : j = b
    · subst hjb
      rw [List.getElem?_set_self (by rw [List.length_map, List.length_range]; exact hj)]
      show _ = some (bFv g σ' x a j)
      rw [hv]
    · rw [List.getElem?_set_ne (fun q => hjb q.symm), List.getElem?_map, List.getElem?_range hj]
      show some (bFv g σ x a j) = some (bFv g σ' x a j)
      rw [ho j hjb]
  · rw [List.getElem?_eq_none (by rw [List.length_set, List.length_map, List.length_range]; omega), List.getElem?_eq_none (by rw [List.length_map, List.length_range]; omega)]
theorem bs_putfield {l : Launch} {g : mG} {d k : Nat} {Q : List Frame → Array Value → State → State → Prop} {MC MS base pc len a b c : Nat} {ts : List Nat} {L S : List Value} {σ : bS} {r : bC} {i : Nat} (hG : bG g) (hbs : base ≤ σ.1) (hd1 : 1 ≤ d) (h1 : r.2.2.2.1 - base ≤ MC) (h2 : bSl r.2.2.2.1 - bSl base ≤ MS) (hd : decode (mBy k) pc = .ok (.putfield i, len)) (hln : mLnB (.putfield i) len = true) (hp : mPay k pc (.putfield i) a b c ts = true) (h : bStep k pc (.putfield i, len, a, b, c, ts) L S σ = some r) (kk : bWB l g d k Q MC MS base r.1 r.2.1 r.2.2.1 r.2.2.2) : bWB l g d k Q MC MS base pc L S σ := by
  intro p ev s mi args below meth cd H locs ls C hin hsz hP hS hL
  obtain ⟨hx, hb, hml, hr, hlk, hown, hts, htab, htr, hW, hB⟩ := id C
  have e1 : len = 3 := Nat.eq_of_beq_eq_true hln
  subst e1
  have h : (bif Nat.beq c 1 then b1r S (fun v t => b1r t (fun x t => bq (Nat.blt a 13 && (bHas σ x (10 + a) && (Nat.beq v (mRF x b) && (Nat.beq (mOc k) a && decide ((mY k).name = "<init>"))))) (some (pc + 3, L, t, bFl σ x b)))) else b1i S (fun v t => b1r t (fun x t => bq (Nat.blt a 13 && (bHas σ x (10 + a) && Nat.beq c 0)) (some (pc + 3, L, t, bSt σ x b v))))) = some r := h
  cases hcb : Nat.beq c 1 with
  | true =>
    rw [hcb, cond_true] at h
    obtain ⟨v, t0, hS0, h3⟩ := b1r_of h
    obtain ⟨x, t, ht0, h4⟩ := b1r_of h3
    clear h h3
    subst ht0
    subst hS0
    obtain ⟨hc, h5⟩ := bq_of h4
    cases h5
    have kk : bWB l g d k Q MC MS base (pc + 3) L t (bFl σ x b) := kk
    rw [Bool.and_eq_true, Bool.and_eq_true, Bool.and_eq_true, Bool.and_eq_true, decide_eq_true_eq] at hc
    obtain ⟨h13, hxb, hv, hok, hni⟩ := hc
    have hv : v = mRF x b := Nat.eq_of_beq_eq_true hv
    have hok : mOc k = a := Nat.eq_of_beq_eq_true hok
    obtain ⟨hxn, hxs, hxk⟩ := bHas_of hxb
    obtain ⟨r, hr1, hr2, hr3, hr4, -⟩ := mFld h13 hp
    have hsz2 := mSize_of hxn hxk hr1
    have hc1 : c = 1 := Nat.eq_of_beq_eq_true hcb
    have hf : mIsRef a b = true := by
      by_cases hf : mIsRef a b = true
      · exact hf
      · rw [if_neg hf] at hr4
        omega
    obtain ⟨ty0, hty, hnm⟩ := mTy_of hr1
    have he : (bLs g σ)[ix x]? = some (gA g x, .inr (a, (List.range (mLn x)).map (bFv g σ x a))) := by rw [bLs_at g σ hxn hxs, bCE_ob g σ hxk]
    rcases bTy_of hr1 hr2 with ⟨q, -⟩ | ⟨-, ty, hty2, -, hnf⟩
    · rw [hf] at q
      cases q
    have hset : (bLs g σ).set (ix x) (gA g x, .inr (a, ((List.range (mLn x)).map (bFv g σ x a)).set b (.ref (gA g v)))) = bLs g (bFl σ x b) := by
      refine bLs_set g (σ := σ) (σ' := bFl σ x b) hxn rfl hP.2 _ ?_ (fun j hj => bCE_eq g rfl (fun i => (bF_fl_ne σ x b (fun z => hj z.1)).symm)) hxs
      rw [bCE_ob g _ hxk]
      refine congrArg (fun z => (Sum.inr (a, z) : va_E)) (bFv_set ?_ (fun j hj => ?_))
      · unfold bFv
        rw [if_pos hf, bF_fl_eq, if_pos rfl, hv]
      · unfold bFv
        rw [bF_fl_ne σ x b (fun z => hj z.2)]
        rfl
    cases hfin : (r.2.1 b).2.2.2 with
    | true =>
      refine va_putF (ci := a) (v := .ref (gA g v)) hx hb hts (fun w hw => List.mem_cons_of_mem _ (mUs_of hr1 w hw)) ty0 hty hnm hown hW.1 hP.P (bD hG hP.2) hS (ix x) he hr1 b hr2 (hts _ (List.mem_cons_of_mem _ hr3)) (fun _ q => q) hfin (hin.1 hni) (by rw [bDecl hr1 hr2, hok]) hty2 (hnf _).1 (hnf _).2 (by rw [List.length_map, List.length_range]; omega) hd (fun H1 locs1 hP1 hD1 hS1 => ?_)
      rw [hset] at hP1
      exact kk p ev s mi args below meth cd H1 locs1 ls C hin hsz (bP.of hP1 hP.2) hS1 hL
    | false =>
      refine va_put (ci := a) (v := .ref (gA g v)) hx hb hts (fun w hw => List.mem_cons_of_mem _ (mUs_of hr1 w hw)) ty0 hty hnm hown hW.1 hP.P (bD hG hP.2) hS (ix x) he hr1 b hr2 (hts _ (List.mem_cons_of_mem _ hr3)) (fun _ q => q) hfin hty2 (hnf _).1 (hnf _).2 (by rw [List.length_map, List.length_range]; omega) hd (fun H1 locs1 hP1 hD1 hS1 => ?_)
      rw [hset] at hP1
      exact kk p ev s mi args below meth cd H1 locs1 ls C hin hsz (bP.of hP1 hP.2) hS1 hL
  | false =>
    rw [hcb, cond_false] at h
    obtain ⟨v, t0, hS0, h3⟩ := b1i_of h
    obtain ⟨x, t, ht0, h4⟩ := b1r_of h3
    clear h h3
    subst ht0
    subst hS0
    obtain ⟨hc, h5⟩ := bq_of h4
    cases h5
    have kk : bWB l g d k Q MC MS base (pc + 3) L t (bSt σ x b v) := kk
    rw [Bool.and_eq_true, Bool.and_eq_true] at hc
    obtain ⟨h13, hxb, hc0⟩ := hc
    obtain ⟨hxn, hxs, hxk⟩ := bHas_of hxb
    obtain ⟨r, hr1, hr2, hr3, hr4, hr5⟩ := mFld h13 hp
    have hsz2 := mSize_of hxn hxk hr1
    have hc0 : c = 0 := Nat.eq_of_beq_eq_true hc0
    have hnr : ¬ mIsRef a b = true := fun q => by rw [if_pos q] at hr4; omega
    obtain ⟨ty0, hty, hnm⟩ := mTy_of hr1
    have he : (bLs g σ)[ix x]? = some (gA g x, .inr (a, (List.range (mLn x)).map (bFv g σ x a))) := by rw [bLs_at g σ hxn hxs, bCE_ob g σ hxk]
    rcases bTy_of hr1 hr2 with ⟨-, hty2⟩ | ⟨q, -⟩
    case inr => exact absurd q hnr
    have hset : (bLs g σ).set (ix x) (gA g x, .inr (a, ((List.range (mLn x)).map (bFv g σ x a)).set b (.int v))) = bLs g (bSt σ x b v) := by
      refine bLs_set g hxn (bSt_1 σ x b v) hP.2 _ ?_ (fun j hj => bCE_eq g (by rw [bM_st, mset_ne _ b v hj]) (fun i => by rw [bF_st])) hxs
      rw [bCE_ob g _ hxk]
      refine congrArg (fun z => (Sum.inr (a, z) : va_E)) (bFv_set ?_ (fun j hj => ?_))
      · unfold bFv
        rw [if_neg hnr, bM_st, mset_eq]
        simp [upd]
      · unfold bFv
        rw [bF_st, bM_st, mset_eq]
        simp [upd, hj]
    refine va_put (ci := a) (v := .int v) hx hb hts (fun w hw => List.mem_cons_of_mem _ (mUs_of hr1 w hw)) ty0 hty hnm hown hW.1 hP.P (bD hG hP.2) hS (ix x) he hr1 b hr2 (hts _ (List.mem_cons_of_mem _ hr3)) (fun _ q => q) (hr5 hc0) hty2 rfl rfl (by rw [List.length_map, List.length_range]; omega) hd (fun H1 locs1 hP1 hD1 hS1 => ?_)
    rw [hset] at hP1
    have k2 := kk p ev s mi args below meth cd H1 locs1 ls C hin hsz (bP.of hP1 (by rw [bSt_1]; exact hP.2)) hS1 hL
    rw [bSt_1] at k2
    exact k2
theorem bs_iaload {l : Launch} {g : mG} {d k : Nat} {Q : List Frame → Array Value → State → State → Prop} {MC MS base pc len a b c : Nat} {ts : List Nat} {L S : List Value} {σ : bS} {r : bC} (hG : bG g) (hbs : base ≤ σ.1) (hd1 : 1 ≤ d) (h1 : r.2.2.2.1 - base ≤ MC) (h2 : bSl r.2.2.2.1 - bSl base ≤ MS) (hd : decode (mBy k) pc = .ok (.iaload, len)) (hln : mLnB (.iaload) len = true) (hp : mPay k pc (.iaload) a b c ts = true) (h : bStep k pc (.iaload, len, a, b, c, ts) L S σ = some r) (kk : bWB l g d k Q MC MS base r.1 r.2.1 r.2.2.1 r.2.2.2) : bWB l g d k Q MC MS base pc L S σ := by
  intro p ev s mi args below meth cd H locs ls C hin hsz hP hS hL
  obtain ⟨hx, hb, hml, hr, hlk, hown, hts, htab, htr, hW, hB⟩ := id C
  have e1 : len = 1 := Nat.eq_of_beq_eq_true hln
  subst e1
  obtain ⟨j, t, rfl, h⟩ := b1i_of h
  obtain ⟨x, t, rfl, h⟩ := b1r_of h
  obtain ⟨hc, h⟩ := bq_of h
  cases h
  rw [Bool.and_eq_true, Bool.and_eq_true] at hc
  obtain ⟨hxn, hxs, hxk⟩ := bHas_of hc.2.1
  exact va_iald hx hb hW.1 hP.P (ix x) 0 (f := bM σ x) (by rw [bLs_at g σ hxn hxs, bCE_1 g σ hxk]) rfl (mInB_of hc.2.2) hd (kk p ev s mi args below meth cd H locs ls C hin hsz hP hS hL)
theorem bs_iastore {l : Launch} {g : mG} {d k : Nat} {Q : List Frame → Array Value → State → State → Prop} {MC MS base pc len a b c : Nat} {ts : List Nat} {L S : List Value} {σ : bS} {r : bC} (hG : bG g) (hbs : base ≤ σ.1) (hd1 : 1 ≤ d) (h1 : r.2.2.2.1 - base ≤ MC) (h2 : bSl r.2.2.2.1 - bSl base ≤ MS) (hd : decode (mBy k) pc = .ok (.iastore, len)) (hln : mLnB (.iastore) len = true) (hp : mPay k pc (.iastore) a b c ts = true) (h : bStep k pc (.iastore, len, a, b, c, ts) L S σ = some r) (kk : bWB l g d k Q MC MS base r.1 r.2.1 r.2.2.1 r.2.2.2) : bWB l g d k Q MC MS base pc L S σ := by
  intro p ev s mi args below meth cd H locs ls C hin hsz hP hS hL
  obtain ⟨hx, hb, hml, hr, hlk, hown, hts, htab, htr, hW, hB⟩ := id C
  have e1 : len = 1 := Nat.eq_of_beq_eq_true hln
  subst e1
  obtain ⟨v, t, rfl, h⟩ := b1i_of h
  obtain ⟨j, t, rfl, h⟩ := b1i_of h
  obtain ⟨x, t, rfl, h⟩ := b1r_of h
  obtain ⟨hc, h⟩ := bq_of h
  cases h
  have kk : bWB l g d k Q MC MS base (pc + 1) L t (bSt σ x j.toNatClampNeg v) := kk
  rw [Bool.and_eq_true] at hc
  obtain ⟨hxn, hxs, hxk⟩ := bHas_of hc.1
  refine va_iast hx hb hW.1 hP.P (bD hG hP.2) hS (ix x) 0 (by rw [bLs_at g σ hxn hxs, bCE_1 g σ hxk]) rfl (mInB_of hc.2) hd (fun H1 locs1 hP1 hD1 hS1 => ?_)
  rw [bLs_set g (σ' := bSt σ x j.toNatClampNeg v) hxn (bSt_1 _ _ _ _) hP.2 _ (by rw [bCE_1 g _ hxk, bM_st, mset_eq]) (fun i hi => bCE_eq g (by rw [bM_st, mset_ne _ _ v hi]) (fun i => by rw [bF_st])) hxs] at hP1
  have k2 := kk p ev s mi args below meth cd H1 locs1 ls C hin hsz (bP.of hP1 (by rw [bSt_1]; exact hP.2)) hS1 hL
  rw [bSt_1] at k2
  exact k2
theorem bs_aastore {l : Launch} {g : mG} {d k : Nat} {Q : List Frame → Array Value → State → State → Prop} {MC MS base pc len a b c : Nat} {ts : List Nat} {L S : List Value} {σ : bS} {r : bC} (hG : bG g) (hbs : base ≤ σ.1) (hd1 : 1 ≤ d) (h1 : r.2.2.2.1 - base ≤ MC) (h2 : bSl r.2.2.2.1 - bSl base ≤ MS) (hd : decode (mBy k) pc = .ok (.aastore, len)) (hln : mLnB (.aastore) len = true) (hp : mPay k pc (.aastore) a b c ts = true) (h : bStep k pc (.aastore, len, a, b, c, ts) L S σ = some r) (kk : bWB l g d k Q MC MS base r.1 r.2.1 r.2.2.1 r.2.2.2) : bWB l g d k Q MC MS base pc L S σ := by
  intro p ev s mi args below meth cd H locs ls C hin hsz hP hS hL
  obtain ⟨hx, hb, hml, hr, hlk, hown, hts, htab, htr, hW, hB⟩ := id C
  have e1 : len = 1 := Nat.eq_of_beq_eq_true hln
  subst e1
  obtain ⟨v, t, rfl, h⟩ := b1r_of h
  obtain ⟨j, t, rfl, h⟩ := b1i_of h
  obtain ⟨x, t, rfl, h⟩ := b1r_of h
  obtain ⟨hc, h⟩ := bq_of h
  cases h
  have kk : bWB l g d k Q MC MS base (pc + 1) L t (bFl σ x j.toNatClampNeg) := kk
  rw [Bool.and_eq_true, Bool.and_eq_true, Bool.or_eq_true, Bool.and_eq_true, Bool.and_eq_true] at hc
  obtain ⟨hk2, hj, hv⟩ := hc
  have hv : v = mRF x j.toNatClampNeg := Nat.eq_of_beq_eq_true hv
  have hup : va_up (bRf g σ x) j.toNatClampNeg (some (gA g v)) = bRf g (bFl σ x j.toNatClampNeg) x := by
    funext i
    unfold va_up
    by_cases hi : i = j.toNatClampNeg
    · rw [if_pos hi, hi]
      unfold bRf
      rw [bF_fl_eq, if_pos rfl, hv]
    · rw [if_neg hi]
      unfold bRf
      rw [bF_fl_ne σ x _ (fun z => hi z.2)]
  rcases hk2 with ⟨hxb, hvb⟩ | ⟨hxb, hvb⟩
  · obtain ⟨hxn, hxs, hxk⟩ := bHas_of hxb
    obtain ⟨hvn, hvs, hvk⟩ := bHas_of hvb
    have e6 : bCE g σ x = .inl (gC g 5, mLn x, .inr (.inr (.inr (.inr (bRf g σ x))))) := by
      rw [bCE_4 g σ (by omega) (by omega), hxk]
    refine va_astq hx hb hW.1 hP.P (bD hG hP.2) hS (ix x) 5 (ix v) 5 (r := (RX5, TX5, 7)) (by rw [bLs_at g σ hxn hxs, e6]) rfl (by rw [bLs_at g σ hvn hvs, bCE_ob g σ (a := 5) hvk]) rfl (mInB_of hj) hd (fun H1 locs1 hP1 hD1 hS1 => ?_)
    have hset : (bLs g σ).set (ix x) (gA g x, .inl (gC g 5, mLn x, .inr (.inr (.inr (.inr (va_up (bRf g σ x) j.toNatClampNeg (some (gA g v)))))))) = bLs g (bFl σ x j.toNatClampNeg) := by
      refine bLs_set g (σ := σ) (σ' := bFl σ x j.toNatClampNeg) hxn rfl hP.2 _ ?_ (fun i hi => ?_) hxs
      · rw [bCE_4 g _ (by omega) (by omega), hxk, hup]
      · exact bCE_eq g rfl (fun z => (bF_fl_ne σ x _ (fun y => hi y.1)).symm)
    rw [hset] at hP1
    exact kk p ev s mi args below meth cd H1 locs1 ls C hin hsz (bP.of hP1 hP.2) hS1 hL
  · obtain ⟨hxn, hxs, hxk⟩ := bHas_of hxb
    obtain ⟨hvn, hvs, hvk⟩ := bHas_of hvb
    have e6 : bCE g σ x = .inl (gC g 6, mLn x, .inr (.inr (.inr (.inr (bRf g σ x))))) := by
      rw [bCE_4 g σ (by omega) (by omega), hxk]
    refine va_astq hx hb hW.1 hP.P (bD hG hP.2) hS (ix x) 6 (ix v) 3 (r := (RX3, TX3, 3)) (by rw [bLs_at g σ hxn hxs, e6]) rfl (by rw [bLs_at g σ hvn hvs, bCE_ob g σ (a := 3) hvk]) rfl (mInB_of hj) hd (fun H1 locs1 hP1 hD1 hS1 => ?_)
    have hset : (bLs g σ).set (ix x) (gA g x, .inl (gC g 6, mLn x, .inr (.inr (.inr (.inr (va_up (bRf g σ x) j.toNatClampNeg (some (gA g v)))))))) = bLs g (bFl σ x j.toNatClampNeg) := by
      refine bLs_set g (σ := σ) (σ' := bFl σ x j.toNatClampNeg) hxn rfl hP.2 _ ?_ (fun i hi => ?_) hxs
      · rw [bCE_4 g _ (by omega) (by omega), hxk, hup]
      · exact bCE_eq g rfl (fun z => (bF_fl_ne σ x _ (fun y => hi y.1)).symm)
    rw [hset] at hP1
    exact kk p ev s mi args below meth cd H1 locs1 ls C hin hsz (bP.of hP1 hP.2) hS1 hL
theorem bs_arraylength {l : Launch} {g : mG} {d k : Nat} {Q : List Frame → Array Value → State → State → Prop} {MC MS base pc len a b c : Nat} {ts : List Nat} {L S : List Value} {σ : bS} {r : bC} (hG : bG g) (hbs : base ≤ σ.1) (hd1 : 1 ≤ d) (h1 : r.2.2.2.1 - base ≤ MC) (h2 : bSl r.2.2.2.1 - bSl base ≤ MS) (hd : decode (mBy k) pc = .ok (.arraylength, len)) (hln : mLnB (.arraylength) len = true) (hp : mPay k pc (.arraylength) a b c ts = true) (h : bStep k pc (.arraylength, len, a, b, c, ts) L S σ = some r) (kk : bWB l g d k Q MC MS base r.1 r.2.1 r.2.2.1 r.2.2.2) : bWB l g d k Q MC MS base pc L S σ := by
  intro p ev s mi args below meth cd H locs ls C hin hsz hP hS hL
  obtain ⟨hx, hb, hml, hr, hlk, hown, hts, htab, htr, hW, hB⟩ := id C
  have e1 : len = 1 := Nat.eq_of_beq_eq_true hln
  subst e1
  obtain ⟨x, t, rfl, h⟩ := b1r_of h
  obtain ⟨hc, h⟩ := bq_of h
  cases h
  rw [Bool.and_eq_true, Bool.or_eq_true, Bool.or_eq_true] at hc
  rcases hc.2 with hxb | hxb | hxb
  · obtain ⟨hxn, hxs, hxk⟩ := bHas_of hxb
    exact va_alen (x := ((mLn x, .inl (bM σ x)) : vp_A)) hx hb hW.1 hP.P (ix x) 0 (by rw [bLs_at g σ hxn hxs, bCE_1 g σ hxk]) (ty := .int) rfl rfl hd (kk p ev s mi args below meth cd H locs ls C hin hsz hP hS hL)
  · obtain ⟨hxn, hxs, hxk⟩ := bHas_of hxb
    exact va_alen (x := ((mLn x, .inr (.inr (.inr (.inr (bRf g σ x))))) : vp_A)) hx hb hW.1 hP.P (ix x) 5 (by rw [bLs_at g σ hxn hxs, bCE_4 g σ (by omega) (by omega), hxk]) (ty := .object "HopedHours$Night") rfl rfl hd (kk p ev s mi args below meth cd H locs ls C hin hsz hP hS hL)
  · obtain ⟨hxn, hxs, hxk⟩ := bHas_of hxb
    exact va_alen (x := ((mLn x, .inr (.inr (.inr (.inr (bRf g σ x))))) : vp_A)) hx hb hW.1 hP.P (ix x) 6 (by rw [bLs_at g σ hxn hxs, bCE_4 g σ (by omega) (by omega), hxk]) (ty := .object "HopedHours$History") rfl rfl hd (kk p ev s mi args below meth cd H locs ls C hin hsz hP hS hL)
