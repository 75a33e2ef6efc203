set_option maxRecDepth 100000
/-! NIGHTS that change, in the class -/
/-- sleepers who wake of it -/
def mtc (A : Mm) (s : Nat) (c : Int32) (p : Nat) : Prop := A (61 + p) 0 = nI s ∧ A (61 + p) 1 = c
theorem stC_t {A : Mm} {s : Nat} {c : Int32} {p : Nat} {x : (Nat → Int32) × Int32} (h : mtc A s c p) : stC A s c p x = (upd x.1 (27 + p) 1, x.2 + (1 - x.1 (27 + p))) := ifp_t h
theorem stC_f {A : Mm} {s : Nat} {c : Int32} {p : Nat} {x : (Nat → Int32) × Int32} (h : ¬ mtc A s c p) : stC A s c p x = x := ifp_f h
theorem coS_at (A : Mm) (s : Nat) (c : Int32) (f : Nat → Int32) (w : Int32) : ∀ n i, (fo (stC A s c) n (f, w)).1 i = ifp (27 ≤ i ∧ i < 27 + n ∧ mtc A s c (i - 27)) 1 (f i)
  | 0, i => by rw [ifp_f (fun q => by omega)]; rfl
  | n + 1, i => by
    rw [fo_s]
    have ih := coS_at A s c f w n
    by_cases h : mtc A s c n
    · rw [stC_t h]
      show upd (fo (stC A s c) n (f, w)).1 (27 + n) 1 i = _
      by_cases e : i = 27 + n
      · rw [e, pk_us, ifp_t ⟨by omega, by omega, by rw [show 27 + n - 27 = n by omega]; exact h⟩]
      · rw [pk_un e, ih i]
        by_cases q : 27 ≤ i ∧ i < 27 + n ∧ mtc A s c (i - 27)
        · rw [ifp_t q, ifp_t ⟨q.1, by omega, q.2.2⟩]
        · rw [ifp_f q, ifp_f (fun z => q ⟨z.1, by omega, z.2.2⟩)]
    · rw [stC_f h, ih i]
      by_cases q : 27 ≤ i ∧ i < 27 + n ∧ mtc A s c (i - 27)
      · rw [ifp_t q, ifp_t ⟨q.1, by omega, q.2.2⟩]
      · rw [ifp_f q, ifp_f (fun z => q ⟨z.1, by
          rcases Nat.lt_or_eq_of_le (Nat.le_of_lt_succ (show i < 27 + n + 1 by omega)) with y | y
          · exact y
          · exact absurd (by have := z.2.2; rwa [y, show 27 + n - 27 = n by omega] at this) h, z.2.2⟩)]
theorem coS_w (A : Mm) (s : Nat) (c : Int32) (f : Nat → Int32) (w : Int32) {N : Nat} (hf : ∀ p, p < N → In (f (27 + p)) 2) : ∀ n, n ≤ N → (fo (stC A s c) n (f, w)).2 = w + nI (cnt (fun p => mtc A s c p ∧ f (27 + p) = 0) n)
  | 0, _ => (Int32.add_zero w).symm
  | n + 1, hn => by
    rw [fo_s]
    have ih := coS_w A s c f w hf n (by omega)
    obtain ⟨b, hb, eb⟩ := hf n (by omega)
    have ea : (fo (stC A s c) n (f, w)).1 (27 + n) = f (27 + n) := by rw [coS_at, ifp_f (fun q => by omega)]
    by_cases h : mtc A s c n
    · rw [stC_t h]
      show (fo (stC A s c) n (f, w)).2 + (1 - (fo (stC A s c) n (f, w)).1 (27 + n)) = _
      rw [ea, ih]
      rcases (show b = 0 ∨ b = 1 by omega) with rfl | rfl
      · rw [cnt_t ⟨h, eb⟩, eb, ← nI_1, Int32.add_assoc]
        rfl
      · rw [cnt_f (fun q => by have := q.2; rw [eb] at this; exact absurd this (by decide)), eb]
        show _ + (1 - 1) = _
        rw [show (1 - 1 : Int32) = 0 by decide, Int32.add_zero]
    · rw [stC_f h, ih, cnt_f (fun q => h q.1)]
/-- a call, in words of its own -/
theorem nCall_up {A : Mm} {R : Nat → Int32} {k : Nat} (w : Int32) (h : R (12 + k) = 0) : nCall A R k w = (1, coS A R k w (nP A)) := by
  unfold nCall
  rw [if_neg (by rw [h]; decide)]
theorem coR_at (A : Mm) (R : Nat → Int32) (k i : Nat) : coR A R k i = if i = 6 + k then R (6 + k) + 1 else if i = 18 + (R k).toNatClampNeg then coC A R k else R i := by
  unfold coR
  rw [upd_at, upd_at]
theorem Nt_call {A : Mm} (hA : CtB A) {R : Nat → Int32} (hR : Nt A R) {k : Nat} (hk : k < nM A) (w : Int32) : Nt A (nCall A R k w).2.1 := by
  have h6 := hA.2.2.1.2
  have h9 := hA.1.2
  have h8 := hA.2.2.2.2
  unfold nCall
  by_cases q : R (12 + k) = 1
  · rw [if_pos q]; exact hR
  · rw [if_neg q]
    show Nt A (coS A R k w (nP A)).1
    have hs := In_cl (hR.1 k hk) (by omega)
    unfold coS
    generalize hsn : (R k).toNatClampNeg = s at hs
    have at1 : ∀ i, i < 27 → (fo (stC A s (coC A R k)) (nP A) (coR A R k, w)).1 i = coR A R k i := fun i hi => by rw [coS_at, ifp_f (fun z => by omega)]
    have at2 : ∀ i, 35 ≤ i → (fo (stC A s (coC A R k)) (nP A) (coR A R k, w)).1 i = coR A R k i := fun i hi => by rw [coS_at, ifp_f (fun z => by omega)]
    refine ⟨fun j hj => ?_, fun j hj => ?_, fun j hj => ?_, fun j hj => ?_, ?_, fun j h1 h2 => ?_⟩
    · rw [at1 _ (by omega), coR_at, if_neg (by omega), if_neg (by omega)]; exact hR.1 j hj
    · rw [at1 _ (by omega), coR_at, if_neg (by omega), if_neg (by omega)]; exact hR.2.1 j hj
    · rw [at1 _ (by omega), coR_at, if_neg (by omega), hsn]
      by_cases z : 18 + j = 18 + s
      · rw [if_pos z]
        obtain ⟨c, hc, ec⟩ := sayR_In A R k (R k).toNatClampNeg (R 35)
        exact ⟨c, by omega, ec⟩
      · rw [if_neg z]; exact hR.2.2.1 j hj
    · rw [coS_at]
      by_cases z : 27 ≤ 27 + j ∧ 27 + j < 27 + nP A ∧ mtc A s (coC A R k) (27 + j - 27)
      · rw [ifp_t z]; exact ⟨1, by decide, rfl⟩
      · rw [ifp_f z, coR_at, if_neg (by omega), if_neg (by omega)]; exact hR.2.2.2.1 j hj
    · rw [at2 _ (by omega), coR_at, if_neg (by omega), if_neg (by omega)]; exact hR.2.2.2.2.1
    · rw [at1 _ (by omega), coR_at, if_neg (by omega), if_neg (by omega)]; exact hR.2.2.2.2.2 j h1 h2
theorem Nt_place {A : Mm} (hA : CtB A) {R : Nat → Int32} (hR : Nt A R) {k s : Nat} (hk : k < nM A) (hs : s < nS A) : Nt A (upd R k (nI s)) := by
  have h6 := hA.2.2.1.2
  refine ⟨fun j hj => ?_, fun j hj => ?_, fun j hj => ?_, fun j hj => ?_, ?_, fun j h1 h2 => ?_⟩
  · rw [upd_at]
    by_cases z : j = k
    · rw [if_pos z]; exact ⟨s, hs, rfl⟩
    · rw [if_neg z]; exact hR.1 j hj
  · rw [pk_un (by omega)]; exact hR.2.1 j hj
  · rw [pk_un (by omega)]; exact hR.2.2.1 j hj
  · rw [pk_un (by omega)]; exact hR.2.2.2.1 j hj
  · rw [pk_un (by omega)]; exact hR.2.2.2.2.1
  · rw [pk_un (by omega)]; exact hR.2.2.2.2.2 j h1 h2
theorem Nt_walk {A : Mm} (hA : CtB A) {R : Nat → Int32} (hR : Nt A R) {k s : Nat} (hk : k < nM A) (hs : s < nS A) (w : Int32) : Nt A (nWalk A R k s w).2.1 := by
  unfold nWalk
  by_cases q : R (12 + k) = 1 ∨ ¬ Ln A (R k) (nI s)
  · rw [ifp_t q]; exact hR
  · rw [ifp_f q]; exact Nt_call hA (Nt_place hA hR hk hs) hk w
theorem Nt_hour {A : Mm} (hA : CtB A) {R : Nat → Int32} (hR : Nt A R) : Nt A (nHour R) := by
  have h6 := hA.2.2.1.2
  unfold nHour
  obtain ⟨h, hh, eh⟩ := hR.2.2.2.2.1
  by_cases q : 24 ≤ R 35 + 1
  · rw [if_pos q]
    refine ⟨fun j hj => ?_, fun j hj => ?_, fun j hj => ?_, fun j hj => ?_, ?_, fun j h1 h2 => ?_⟩
    · show In (if j = 35 then _ else if j = 36 then _ else if 18 ≤ j ∧ j < 27 then _ else if 27 ≤ j ∧ j < 35 then _ else R j) _
      rw [if_neg (by omega), if_neg (by omega), if_neg (by omega), if_neg (by omega)]; exact hR.1 j hj
    · show In (if 12 + j = 35 then _ else if 12 + j = 36 then _ else if 18 ≤ 12 + j ∧ 12 + j < 27 then _ else if 27 ≤ 12 + j ∧ 12 + j < 35 then _ else R (12 + j)) _
      rw [if_neg (by omega), if_neg (by omega), if_neg (by omega), if_neg (by omega)]; exact hR.2.1 j hj
    · show In (if 18 + j = 35 then _ else if 18 + j = 36 then _ else if 18 ≤ 18 + j ∧ 18 + j < 27 then 24 else _) _
      rw [if_neg (by omega), if_neg (by omega), if_pos (by omega)]; exact ⟨24, by decide, rfl⟩
    · show In (if 27 + j = 35 then _ else if 27 + j = 36 then _ else if 18 ≤ 27 + j ∧ 27 + j < 27 then _ else if 27 ≤ 27 + j ∧ 27 + j < 35 then 0 else _) _
      rw [if_neg (by omega), if_neg (by omega), if_neg (by omega), if_pos (by omega)]; exact ⟨0, by decide, rfl⟩
    · exact ⟨0, by decide, rfl⟩
    · show (if 6 + j = 35 then _ else if 6 + j = 36 then _ else if 18 ≤ 6 + j ∧ 6 + j < 27 then _ else if 27 ≤ 6 + j ∧ 6 + j < 35 then _ else R (6 + j)) = 0
      rw [if_neg (by omega), if_neg (by omega), if_neg (by omega), if_neg (by omega)]; exact hR.2.2.2.2.2 j h1 h2
  · rw [if_neg q]
    refine ⟨fun j hj => ?_, fun j hj => ?_, fun j hj => ?_, fun j hj => ?_, ?_, fun j h1 h2 => ?_⟩
    · rw [pk_un (by omega)]; exact hR.1 j hj
    · rw [pk_un (by omega)]; exact hR.2.1 j hj
    · rw [pk_un (by omega)]; exact hR.2.2.1 j hj
    · rw [pk_un (by omega)]; exact hR.2.2.2.1 j hj
    · rw [pk_us, eh, nI_1]
      rw [eh, nI_1, show (24 : Int32) = nI 24 from rfl, nI_leI (by decide) (by omega)] at q
      exact ⟨h + 1, by omega, rfl⟩
    · rw [pk_un (by omega)]; exact hR.2.2.2.2.2 j h1 h2
theorem Nt_bed {A : Mm} (hA : CtB A) {R : Nat → Int32} (hR : Nt A R) {k : Nat} (hk : k < nM A) : Nt A (bdF R k) := by
  have h6 := hA.2.2.1.2
  unfold bdF
  refine ⟨fun j hj => ?_, fun j hj => ?_, fun j hj => ?_, fun j hj => ?_, ?_, fun j h1 h2 => ?_⟩
  · rw [pk_un (by omega)]; exact hR.1 j hj
  · rw [upd_at]
    by_cases z : 12 + j = 12 + k
    · rw [if_pos z]
      obtain ⟨b, hb, eb⟩ := hR.2.1 k (by omega)
      rw [eb]
      rcases (show b = 0 ∨ b = 1 by omega) with rfl | rfl
      · exact ⟨1, by decide, rfl⟩
      · exact ⟨0, by decide, rfl⟩
    · rw [if_neg z]; exact hR.2.1 j hj
  · rw [pk_un (by omega)]; exact hR.2.2.1 j hj
  · rw [pk_un (by omega)]; exact hR.2.2.2.1 j hj
  · rw [pk_un (by omega)]; exact hR.2.2.2.2.1
  · rw [pk_un (by omega)]; exact hR.2.2.2.2.2 j h1 h2
/-- all but this night and what a call leaves -/
def eqN (N : Nat) (m m2 : Mm) : Prop := ∀ a, a ≠ 602 → a ≠ 603 → (a < N ∨ N + 3 < a) → m2 a = m a
theorem eqN_refl (N : Nat) (m : Mm) : eqN N m m := fun _ _ _ _ => rfl
theorem eqN_trans {N : Nat} {m m2 m3 : Mm} (h : eqN N m m2) (h2 : eqN N m2 m3) : eqN N m m3 := fun a x y z => (h2 a x y z).trans (h a x y z)
theorem eqN_C {N : Nat} {m m2 : Mm} (h : eqL lC m m2) : eqN N m m2 := fun a x y _ => h a (by simp [x, y])
theorem eqN_set {N : Nat} {m m2 : Mm} (h : eqN N m m2) {a : Nat} (ha : N ≤ a ∧ a ≤ N + 3) (i : Nat) (v : Int32) : eqN N m (mset m2 a i v) := fun b x y z => by
  rw [mset_ne m2 (a := a) (x := b) i v (by omega)]
  exact h b x y z
theorem eqN_put {N : Nat} {m m2 : Mm} (h : eqN N m m2) {a : Nat} (ha : N ≤ a ∧ a ≤ N + 3) (f : Nat → Int32) : eqN N m (mput m2 a f) := fun b x y z => by
  rw [mput_ne m2 f (by omega)]
  exact h b x y z
theorem eqN_cs {N : Nat} (hN : N + 3 < 590 ∨ 601 < N) {A m m2 : Mm} (h : eqN N m m2) (hs : csim A m) : csim A m2 := fun a h1 h2 => by rw [h a (by omega) (by omega) (by omega)]; exact hs a h1 h2
section X12
variable {l : Launch} {g : mG} {d : Nat} {A : Mm}
theorem x_walk (hA : CtB A) (hC : CtR A A 590) {m : Mm} (hs : csim A m) (hd : 2 ≤ d) {N : Nat} (hN : ntB N = true) {R : Nat → Int32} (hR : NtR A R m N) (hV : Nt A R) {k s : Nat} (hk : k < nM A) (hs2 : s < nS A) : mHi l g d k_X8_walk [.ref 589, .ref N, .int (nI k), .int (nI s)] m (fun x m2 => (x = 0 ∧ m2 = m ∧ (R (12 + k) = 1 ∨ ¬ Ln A (R k) (nI s))) ∨ (x = 1 ∧ m2 = mset m (N + 1) k (nI s) ∧ ¬ (R (12 + k) = 1 ∨ ¬ Ln A (R k) (nI s)) ∧ R (12 + k) = 0)) := by
  have hn := nt_of hN
  have h6 := hA.2.2.1.2
  have h9 := hA.1.2
  obtain ⟨b, hb, eb⟩ := hV.2.1 k (by omega)
  have hp := In_cl (hV.1 k hk) (by omega)
  refine nBi 0 rfl rfl rfl (by decide) rfl (fun htr o Φ hΦ => mGoOn (mOk (by decide)) rfl [27] 400 ?_)
  show mReq (mIsB N 15) True ∧ mCal l g d k_X8_walk Φ 0 0 _ 2 k_X5_isUp false [.ref N, .int (nI k)] [] [.ref 589, .ref N, .int (nI k), .int (nI s)] m o 0 0 1
  have k27 : (R (12 + k) = 1 ∨ ¬ Ln A (R k) (nI s)) → mWB l g d k_X8_walk Φ 0 0 27 [.ref 589, .ref N, .int (nI k), .int (nI s)] [] m o 0 0 := by
    intro h
    refine mGoOn (mOk (by decide)) rfl [] 400 ?_
    show ((0 : Int32) = 0 ∨ (0 : Int32) = 1) ∧ Φ (.inl (some (.int (0 : Int32)))) m o ∧ 0 ≤ 0 ∧ 0 ≤ 0
    exact ⟨Or.inl rfl, eR (hΦ _ _ (Or.inl ⟨rfl, rfl, h⟩))⟩
  refine ⟨mReq_i hn.1 trivial, fCi htr (x_isUp hN hR hA (by omega) hk) (by omega) ?_⟩
  show ((pI (R (12 + k) = 0)) = 0 → mWB l g d k_X8_walk Φ 0 0 27 [.ref 589, .ref N, .int (nI k), .int (nI s)] [] m o 0 0) ∧ (¬ (pI (R (12 + k) = 0)) = 0 → mReq (mIsB N 15) (mCal l g d k_X8_walk Φ 0 0 _ 17 k_X11_at true [.ref (mRF N 4), .int (nI k)] [.ref 590] [.ref 589, .ref N, .int (nI k), .int (nI s)] m o 0 0 1))
  refine ⟨fun q => k27 (Or.inl ?_), fun q => ?_⟩
  · have q := pI_0.mp q
    rcases (show b = 0 ∨ b = 1 by omega) with rfl | rfl
    · exact absurd eb q
    · exact eb
  · have hup := pI_1.mp q
    rw [hn.2.1]
    refine mReq_i hn.1 (fCi htr (x_at m hn.2.2.2.2.1.1 hn.2.2.2.2.1.2 (by decide) (by omega)) (by omega) ?_)
    rw [hR.2.2.2.2.1 k hk]
    have e : R k = nI (R k).toNatClampNeg := hp.1
    generalize (R k).toNatClampNeg = a at hp e
    rw [e]
    refine ⟨trivial, fCi htr (x_hasLane hA hC hs (by omega) hp.2 hs2) (by omega) ?_⟩
    show (¬ (pI (Ln A (nI a) (nI s))) = 0 → mReq (mIsB N 15) (mCal l g d k_X8_walk Φ 0 0 _ 35 k_X11_put true [.ref (mRF N 4), .int (nI k), .int (nI s)] [] [.ref 589, .ref N, .int (nI k), .int (nI s)] m o 0 0 0)) ∧ ((pI (Ln A (nI a) (nI s))) = 0 → mWB l g d k_X8_walk Φ 0 0 27 [.ref 589, .ref N, .int (nI k), .int (nI s)] [] m o 0 0)
    rw [hn.2.1]
    refine ⟨fun z => mReq_i hn.1 (fCv htr (x_put m hn.2.2.2.2.1.1 hn.2.2.2.2.1.2 (by decide) (by omega) _) (by omega) ?_), fun z => k27 (Or.inr (by rw [e]; exact pI_0.mp z))⟩
    refine ⟨Or.inr rfl, eR (hΦ _ _ (Or.inr ⟨rfl, rfl, fun y => ?_, hup⟩))⟩
    rcases y with y | y
    · rw [hup] at y; exact absurd y (by decide)
    · rw [e] at y; exact y (pI_1.mp z)
theorem NtR_place {m : Mm} {N : Nat} {R : Nat → Int32} (hA : CtB A) (hR : NtR A R m N) {k s : Nat} (hk : k < nM A) : NtR A (upd R k (nI s)) (mset m (N + 1) k (nI s)) N := by
  have h6 := hA.2.2.1.2
  have h8 := hA.2.2.2.2
  refine ⟨?_, ?_, ?_, ?_, fun j hj => ?_, fun j hj => ?_, fun j hj hjS => ?_⟩
  · rw [mset_ne _ _ _ (by omega), pk_un (by omega)]; exact hR.1
  · rw [mset_ne _ _ _ (by omega), pk_un (by omega)]; exact hR.2.1
  · rw [mset_ne _ _ _ (by omega), hR.2.2.1]; exact msk_cong (fun j hj => by rw [pk_un (by omega)])
  · rw [mset_ne _ _ _ (by omega), hR.2.2.2.1]; exact msk_cong (fun j hj => by rw [pk_un (by omega)])
  · rw [mset_eq, upd_at, upd_at]
    by_cases z : j = k
    · rw [if_pos z, if_pos z]
    · rw [if_neg z, if_neg z]; exact hR.2.2.2.2.1 j hj
  · rw [mset_ne _ _ _ (by omega), pk_un (by omega)]; exact hR.2.2.2.2.2.1 j hj
  · rw [mset_ne _ _ _ (by omega), pk_un (by omega)]; exact hR.2.2.2.2.2.2 j hj hjS
theorem x_callOut (hA : Sv A) (hC : CtR A A 590) (hL : LwR A A 600) {m : Mm} (hs : csim A m) (hd : 3 ≤ d) {N : Nat} (hN : ntB N = true) (hN2 : N + 3 < 590 ∨ 603 < N) {R : Nat → Int32} (hR : NtR A R m N) (hV : Nt A R) {k : Nat} (hk : k < nM A) (w : Int32) : mHi l g d k_X8_callOut [.ref 589, .ref N, .int (nI k)] m (fun x m2 => x = (nCall A R k w).1 ∧ eqN N m m2 ∧ NtR A (nCall A R k w).2.1 m2 N) := by
  have hn := nt_of hN
  have h6 := hA.1.2.2.1.2
  have h9 := hA.1.1.2
  have h8 := hA.1.2.2.2.2
  obtain ⟨b, hb, eb⟩ := hV.2.1 k (by omega)
  have hp := In_cl (hV.1 k hk) (by omega)
  refine nBi 2 rfl rfl rfl (by decide) rfl (fun htr o Φ hΦ => mGoOn (mOk (by decide)) rfl [10,32] 400 ?_)
  show mReq (mIsB N 15) True ∧ mCal l g d k_X8_callOut Φ 0 0 _ 2 k_X5_isUp false [.ref N, .int (nI k)] [] [.ref 589, .ref N, .int (nI k), mJ, mJ] m o 0 0 1
  refine ⟨mReq_i hn.1 trivial, fCi htr (x_isUp hN hR hA.1 (by omega) hk) (by omega) ?_⟩
  show (¬ (pI (R (12 + k) = 0)) = 0 → mWB l g d k_X8_callOut Φ 0 0 10 [.ref 589, .ref N, .int (nI k), mJ, mJ] [] m o 0 0) ∧ ((pI (R (12 + k) = 0)) = 0 → ((0 : Int32) = 0 ∨ (0 : Int32) = 1) ∧ Φ (.inl (some (.int (0 : Int32)))) m o ∧ 0 ≤ 0 ∧ 0 ≤ 0)
  refine ⟨fun q => ?_, fun q => ?_⟩
  · have hup := pI_1.mp q
    rw [nCall_up w hup] at hΦ
    refine mGoOn (mOk (by decide)) rfl [32] 400 ?_
    show mReq (mIsB N 15) (mCal l g d k_X8_callOut Φ 0 0 _ 15 k_X11_at true [.ref (mRF N 4), .int (nI k)] [] [.ref 589, .ref N, .int (nI k), mJ, mJ] m o 0 0 1)
    rw [hn.2.1]
    refine mReq_i hn.1 (fCi htr (x_at m hn.2.2.2.2.1.1 hn.2.2.2.2.1.2 (by decide) (by omega)) (by omega) ?_)
    rw [hR.2.2.2.2.1 k hk]
    unfold coS at hΦ
    have ecr : ∀ i, coR A R k i = if i = 6 + k then R (6 + k) + 1 else if i = 18 + (R k).toNatClampNeg then coC A R k else R i := coR_at A R k
    have ecc : coC A R k = sayR A R k (R k).toNatClampNeg (R 35) := rfl
    have e : R k = nI (R k).toNatClampNeg := hp.1
    generalize (R k).toNatClampNeg = s at hp e hΦ ecr ecc
    rw [e]
    show mReq (mIsB N 15) (True ∧ mCal l g d k_X8_callOut Φ 0 0 _ 27 k_X8_cry false [.ref 589, .ref N, .int (nI k), .int (nI s), .int (m N 0)] [] [.ref 589, .ref N, .int (nI k), .int (nI s), mJ] m o 0 0 1)
    rw [hR.1]
    refine mReq_i hn.1 ⟨trivial, nCi htr (x_cry hA hC hL hs (by omega) hN (by omega) hR hk (by omega) _) (by omega) ?_⟩
    intro c m2 hc
    have hc1 : c = coC A R k := by rw [ecc]; exact hc.1
    have hR2 := eqC_Nt hc.2 (by omega) hR
    have hs2 := eqC_cs hc.2 hs
    have he2 := eqN_C (N := N) hc.2
    rw [← hc1] at hΦ ecr
    refine mGoOn (mOk (by decide)) rfl [] 400 ?_
    show mReq (mIsB N 15) (mCal l g d k_X8_callOut Φ 0 0 _ 39 k_X11_put true [.ref (mRF N 6), .int (nI s), .int c] [] [.ref 589, .ref N, .int (nI k), .int (nI s), .int c] m2 o 0 0 0)
    rw [hn.2.2.2.1]
    refine mReq_i hn.1 (fCv htr (x_put m2 hn.2.2.2.2.2.2.1 hn.2.2.2.2.2.2.2 (by decide) (k := s) (by omega) _) (by omega) ?_)
    show (Value.ref N).category = 1 ∧ (mReq (mIsB N 15) (True ∧ mCal l g d k_X8_callOut Φ 0 0 _ 54 k_X1_sleepersAt false [.ref 590, .int (nI s), .int c] [.int ((mset m2 (N + 3) s c) N 3), .ref N] [.ref 589, .ref N, .int (nI k), .int (nI s), .int c] (mset m2 (N + 3) s c) o 0 0 1))
    refine ⟨rfl, mReq_i hn.1 ⟨trivial, fCi htr (x_sleepersAt hA.1 hC (eqN_cs (N := N) (by omega) (eqN_set (eqN_refl _ m2) (by omega) _ _) hs2) (by omega) _ _) (by omega) ?_⟩⟩
    show mReq (mIsB N 15) (mReq (mIsB N 15) (mReq (mIsB N 15) (mCal l g d k_X8_callOut Φ 0 0 _ 71 k_X11_at true [.ref (mRF N 5), .int (nI k)] [.int (nI k), .ref (mRF N 5)] [.ref 589, .ref N, .int (nI k), .int (nI s), .int c] (mset (mset m2 (N + 3) s c) N 3 (((mset m2 (N + 3) s c) N 3) ||| (slpB A (nI s) c))) o 0 0 1)))
    rw [mset_ne m2 (a := N + 3) (x := N) _ _ (by omega), hR2.2.2.2.1, hn.2.2.1]
    refine mReq_i hn.1 (mReq_i hn.1 (mReq_i hn.1 (fCi htr (x_at _ hn.2.2.2.2.2.1.1 hn.2.2.2.2.2.1.2 (by decide) (k := k) (by omega)) (by omega) ?_)))
    rw [mset_ne _ (a := N) (x := N + 2) _ _ (by omega), mset_ne _ (a := N + 3) (x := N + 2) _ _ (by omega), hR2.2.2.2.2.2.1 k (by omega)]
    refine fCv htr (x_put _ hn.2.2.2.2.2.1.1 hn.2.2.2.2.2.1.2 (by decide) (k := k) (by omega) _) (by omega) ?_
    refine ⟨Or.inr rfl, eR (hΦ _ _ ⟨rfl, eqN_trans he2 (eqN_set (eqN_set (eqN_set (eqN_refl _ _) (by omega) _ _) (by omega) _ _) (by omega) _ _), ?_⟩)⟩
    have at1 : ∀ i, i < 27 ∨ 35 ≤ i → (fo (stC A s c) (nP A) (coR A R k, w)).1 i = coR A R k i := fun i hi => by rw [coS_at, ifp_f (fun z => by omega)]
    show NtR A (fo (stC A s c) (nP A) (coR A R k, w)).1 _ N
    refine ⟨?_, ?_, ?_, ?_, fun j hj => ?_, fun j hj => ?_, fun j hj hjS => ?_⟩
    · rw [at1 _ (by omega), ecr, if_neg (by omega), if_neg (by omega), mset_ne _ (a := N + 2) (x := N) _ _ (by omega), mset_eq, pk_un (by decide), mset_ne _ (a := N + 3) (x := N) _ _ (by omega)]
      exact hR2.1
    · rw [at1 _ (by omega), ecr, if_neg (by omega), if_neg (by omega), mset_ne _ (a := N + 2) (x := N) _ _ (by omega), mset_eq, pk_un (by decide), mset_ne _ (a := N + 3) (x := N) _ _ (by omega)]
      exact hR2.2.1
    · rw [mset_ne _ (a := N + 2) (x := N) _ _ (by omega), mset_eq, pk_un (by decide), mset_ne _ (a := N + 3) (x := N) _ _ (by omega), hR2.2.2.1]
      exact msk_cong (fun j hj => by rw [at1 _ (by omega), ecr, if_neg (by omega), if_neg (by omega)])
    · rw [mset_ne _ (a := N + 2) (x := N) _ _ (by omega), mset_eq, pk_us]
      unfold slpB
      refine hB_ext (fun i hi => ?_)
      rw [hB_or, hB_msk (by omega) hi, hB_msk (by omega) hi, hB_msk (by omega) hi, coS_at]
      constructor
      · rintro (⟨a1, a2⟩ | ⟨a1, a2⟩)
        · refine ⟨a1, ?_⟩
          by_cases z : 27 ≤ 27 + i ∧ 27 + i < 27 + nP A ∧ mtc A s c (27 + i - 27)
          · rw [ifp_t z]
          · rw [ifp_f z, ecr, if_neg (by omega), if_neg (by omega)]; exact a2
        · exact ⟨a1, by rw [ifp_t ⟨by omega, by omega, by rw [show 27 + i - 27 = i by omega]; exact a2⟩]⟩
      · rintro ⟨a1, a2⟩
        by_cases z : 27 ≤ 27 + i ∧ 27 + i < 27 + nP A ∧ mtc A s c (27 + i - 27)
        · exact Or.inr ⟨a1, by have := z.2.2; rwa [show 27 + i - 27 = i by omega] at this⟩
        · rw [ifp_f z, ecr, if_neg (by omega), if_neg (by omega)] at a2
          exact Or.inl ⟨a1, a2⟩
    · rw [at1 _ (by omega), ecr, if_neg (by omega), if_neg (by omega), mset_ne _ (a := N + 2) (x := N + 1) _ _ (by omega), mset_ne _ (a := N) (x := N + 1) _ _ (by omega), mset_ne _ (a := N + 3) (x := N + 1) _ _ (by omega)]
      exact hR2.2.2.2.2.1 j hj
    · rw [at1 _ (by omega), ecr, mset_eq, upd_at]
      by_cases z : j = k
      · rw [if_pos z, if_pos (by omega)]
        rfl
      · rw [if_neg z, if_neg (by omega), if_neg (by omega), mset_ne _ (a := N) (x := N + 2) _ _ (by omega), mset_ne _ (a := N + 3) (x := N + 2) _ _ (by omega)]
        exact hR2.2.2.2.2.2.1 j hj
    · rw [at1 _ (by omega), ecr, if_neg (by omega), mset_ne _ (a := N + 2) (x := N + 3) _ _ (by omega), mset_ne _ (a := N) (x := N + 3) _ _ (by omega), mset_eq, upd_at]
      by_cases z : j = s
      · rw [if_pos z, if_pos (by omega)]
      · rw [if_neg z, if_neg (by omega)]
        exact hR2.2.2.2.2.2.2 j hj hjS
  · have q := pI_0.mp q
    have h1 : R (12 + k) = 1 := by
      rcases (show b = 0 ∨ b = 1 by omega) with rfl | rfl
      · exact absurd eb q
      · exact eb
    have e0 : nCall A R k w = (0, R, w) := by unfold nCall; rw [if_pos h1]
    rw [e0] at hΦ
    exact ⟨Or.inl rfl, eR (hΦ _ _ ⟨rfl, eqN_refl _ _, hR⟩)⟩
end X12
