set_option maxRecDepth 100000
/-! THE CLASS'S SMALL METHODS -/
section X1
variable {l : Launch} {g : mG} {d : Nat} {A : Mm}
theorem x_hasBit (m : Mm) (b : Int32) {k : Nat} (hk : k < 32) : mFi l g d k_X11_hasBit [.int b, .int (nI k)] m (pI (hB b k)) m := by
  refine nFi 0 rfl rfl rfl (by decide) rfl (fun htr o Φ hΦ => mGoOn (mOk (by decide)) rfl [] 400 ?_)
  show (¬ ((jshr b (nI k)) &&& (1 : Int32)) = (1 : Int32) → ((0 : Int32) = 0 ∨ (0 : Int32) = 1) ∧ Φ (.inl (some (.int (0 : Int32)))) m o ∧ 0 ≤ 0 ∧ 0 ≤ 0) ∧ (((jshr b (nI k)) &&& (1 : Int32)) = (1 : Int32) → ((1 : Int32) = 0 ∨ (1 : Int32) = 1) ∧ Φ (.inl (some (.int (1 : Int32)))) m o ∧ 0 ≤ 0 ∧ 0 ≤ 0)
  refine ⟨fun h => ?_, fun h => ?_⟩
  · rw [pI_f (fun q => h ((hB_has hk).mpr q))] at hΦ
    exact ⟨Or.inl rfl, eR hΦ⟩
  · rw [pI_t ((hB_has hk).mp h)] at hΦ
    exact ⟨Or.inr rfl, eR hΦ⟩
theorem x_lowestBit (m : Mm) (hd : 1 ≤ d) {n : Nat} (hn : n < 512) (h0 : n ≠ 0) : mFi l g d k_X11_lowestBit [.int (nI n)] m (nI (low n)) m := by
  refine nFi 0 rfl rfl rfl (by decide) rfl (fun htr o Φ hΦ => mGoOn (mOk (by decide)) rfl [] 400 ?_)
  show mCal l g d k_X11_lowestBit Φ 0 0 _ 1 k_J6_numberOfTrailingZeros_0f7a4 false [.int (nI n)] [] [.int (nI n)] m o 0 0 1
  exact fCi htr (j_ntz m hn h0) hd (eR hΦ)
theorem x_within (m : Mm) (v lo hi : Int32) : mFi l g d k_X11_within [.int v, .int lo, .int hi] m (pI (lo ≤ v ∧ v ≤ hi)) m := by
  refine nFi 0 rfl rfl rfl (by decide) rfl (fun htr o Φ hΦ => mGoOn (mOk (by decide)) rfl [] 400 ?_)
  show (v < lo → ((0 : Int32) = 0 ∨ (0 : Int32) = 1) ∧ Φ (.inl (some (.int (0 : Int32)))) m o ∧ 0 ≤ 0 ∧ 0 ≤ 0) ∧ (¬ v < lo → (hi < v → ((0 : Int32) = 0 ∨ (0 : Int32) = 1) ∧ Φ (.inl (some (.int (0 : Int32)))) m o ∧ 0 ≤ 0 ∧ 0 ≤ 0) ∧ (¬ hi < v → ((1 : Int32) = 0 ∨ (1 : Int32) = 1) ∧ Φ (.inl (some (.int (1 : Int32)))) m o ∧ 0 ≤ 0 ∧ 0 ≤ 0))
  refine ⟨fun h => ?_, fun h => ⟨fun h2 => ?_, fun h2 => ?_⟩⟩
  · rw [pI_f (fun q => (fa_of_lt h).2.1 q.1)] at hΦ
    exact ⟨Or.inl rfl, eR hΦ⟩
  · rw [pI_f (fun q => (fa_of_lt h2).2.1 q.2)] at hΦ
    exact ⟨Or.inl rfl, eR hΦ⟩
  · rw [pI_t ⟨fa_of_nlt h, fa_of_nlt h2⟩] at hΦ
    exact ⟨Or.inr rfl, eR hΦ⟩
theorem x_isHour (m : Mm) (hd : 1 ≤ d) (s : Int32) : mFi l g d k_X11_isHour [.int s] m (pI (In s 24)) m := by
  refine nFi 0 rfl rfl rfl (by decide) rfl (fun htr o Φ hΦ => mGoOn (mOk (by decide)) rfl [] 400 ?_)
  show mCal l g d k_X11_isHour Φ 0 0 _ 4 k_X11_within false [.int s, .int (0 : Int32), .int (23 : Int32)] [] [.int s] m o 0 0 1
  refine fCi htr (x_within m s 0 23) hd ?_
  rw [show pI (0 ≤ s ∧ s ≤ 23) = pI (In s 24) from by rw [show (0 ≤ s ∧ s ≤ 23) = In s 24 from propext (in_23 s)]]
  exact ⟨pI_01 _, eR hΦ⟩
theorem x_isChoice (m : Mm) (hd : 1 ≤ d) (s : Int32) {n : Nat} (hn : n < 2 ^ 31) : mFi l g d k_X11_isChoice [.int s, .int (nI n)] m (pI (In s n)) m := by
  refine nFi 0 rfl rfl rfl (by decide) rfl (fun htr o Φ hΦ => mGoOn (mOk (by decide)) rfl [] 400 ?_)
  show mCal l g d k_X11_isChoice Φ 0 0 _ 5 k_X11_within false [.int s, .int (0 : Int32), .int ((nI n) - (1 : Int32))] [] [.int s, .int (nI n)] m o 0 0 1
  refine fCi htr (x_within m s 0 (nI n - 1)) hd ?_
  rw [show pI (0 ≤ s ∧ s ≤ nI n - 1) = pI (In s n) from by rw [show (0 ≤ s ∧ s ≤ nI n - 1) = In s n from propext (in_In hn)]]
  exact ⟨pI_01 _, eR hΦ⟩
theorem in_lt {s : Int32} {n : Nat} (hn : n < 2 ^ 31) : (¬ s < 0 ∧ ¬ nI n ≤ s) ↔ In s n := by
  rw [← in_In hn]
  have h1 : (nI n - 1).toInt = (n : Int) - 1 := by
    rw [Int32.toInt_sub, nI_toInt hn]
    show ((n : Int) - 1).bmod (2 ^ 32) = _
    rw [Int.bmod_eq_of_le_mul_two] <;> omega
  have e0 : (0 : Int32).toInt = 0 := rfl
  simp only [fa_lt, fa_le, h1, nI_toInt hn, e0]
  omega
theorem x_isOf (m : Mm) (s : Int32) {n : Nat} (hn : n < 31) : mFi l g d k_X11_isOf [.int s, .int (nI n)] m (pI (In s (2 ^ n))) m := by
  have hp : 2 ^ n < 2 ^ 31 := Nat.pow_lt_pow_right (by decide) hn
  refine nFi 0 rfl rfl rfl (by decide) rfl (fun htr o Φ hΦ => mGoOn (mOk (by decide)) rfl [] 400 ?_)
  show (s < 0 → ((0 : Int32) = 0 ∨ (0 : Int32) = 1) ∧ Φ (.inl (some (.int (0 : Int32)))) m o ∧ 0 ≤ 0 ∧ 0 ≤ 0) ∧ (¬ s < 0 → ((jshl (1 : Int32) (nI n)) ≤ s → ((0 : Int32) = 0 ∨ (0 : Int32) = 1) ∧ Φ (.inl (some (.int (0 : Int32)))) m o ∧ 0 ≤ 0 ∧ 0 ≤ 0) ∧ (¬ (jshl (1 : Int32) (nI n)) ≤ s → ((1 : Int32) = 0 ∨ (1 : Int32) = 1) ∧ Φ (.inl (some (.int (1 : Int32)))) m o ∧ 0 ≤ 0 ∧ 0 ≤ 0))
  rw [sh_pow n hn]
  have hi := in_lt (s := s) hp
  refine ⟨fun h => ?_, fun h => ⟨fun h2 => ?_, fun h2 => ?_⟩⟩
  · rw [pI_f (fun q => (hi.mpr q).1 h)] at hΦ
    exact ⟨Or.inl rfl, eR hΦ⟩
  · rw [pI_f (fun q => (hi.mpr q).2 h2)] at hΦ
    exact ⟨Or.inl rfl, eR hΦ⟩
  · rw [pI_t (hi.mp ⟨h, h2⟩)] at hΦ
    exact ⟨Or.inr rfl, eR hΦ⟩
theorem x_hasN (m : Mm) {n : Nat} (hn : n < 2 ^ 31) (s : Int32) {w : Int32} (hw : w = nI n) {Φ : mR → Mm → Int64 → Prop} {o : Int64} (hΦ : Φ (.inl (some (.int (pI (In s n))))) m o) : (s < 0 → ((0 : Int32) = 0 ∨ (0 : Int32) = 1) ∧ Φ (.inl (some (.int (0 : Int32)))) m o ∧ 0 ≤ 0 ∧ 0 ≤ 0) ∧ (¬ s < 0 → (w ≤ s → ((0 : Int32) = 0 ∨ (0 : Int32) = 1) ∧ Φ (.inl (some (.int (0 : Int32)))) m o ∧ 0 ≤ 0 ∧ 0 ≤ 0) ∧ (¬ w ≤ s → ((1 : Int32) = 0 ∨ (1 : Int32) = 1) ∧ Φ (.inl (some (.int (1 : Int32)))) m o ∧ 0 ≤ 0 ∧ 0 ≤ 0)) := by
  subst hw
  have hi := in_lt (s := s) hn
  refine ⟨fun h => ?_, fun h => ⟨fun h2 => ?_, fun h2 => ?_⟩⟩
  · rw [pI_f (fun q => (hi.mpr q).1 h)] at hΦ
    exact ⟨Or.inl rfl, eR hΦ⟩
  · rw [pI_f (fun q => (hi.mpr q).2 h2)] at hΦ
    exact ⟨Or.inl rfl, eR hΦ⟩
  · rw [pI_t (hi.mp ⟨h, h2⟩)] at hΦ
    exact ⟨Or.inr rfl, eR hΦ⟩
theorem x_hasStreet (hA : CtB A) (hC : CtR A A 590) {m : Mm} (hs : csim A m) (s : Int32) : mFi l g d k_X1_hasStreet [.ref 590, .int s] m (pI (In s (nS A))) m := by
  refine nFi 0 rfl rfl rfl (by decide) rfl (fun htr o Φ hΦ => mGoOn (mOk (by decide)) rfl [] 400 ?_)
  show (s < 0 → ((0 : Int32) = 0 ∨ (0 : Int32) = 1) ∧ Φ (.inl (some (.int (0 : Int32)))) m o ∧ 0 ≤ 0 ∧ 0 ≤ 0) ∧ (¬ s < 0 → ((m 590 0) ≤ s → ((0 : Int32) = 0 ∨ (0 : Int32) = 1) ∧ Φ (.inl (some (.int (0 : Int32)))) m o ∧ 0 ≤ 0 ∧ 0 ≤ 0) ∧ (¬ (m 590 0) ≤ s → ((1 : Int32) = 0 ∨ (1 : Int32) = 1) ∧ Φ (.inl (some (.int (1 : Int32)))) m o ∧ 0 ≤ 0 ∧ 0 ≤ 0))
  exact x_hasN m (by have := hA.1.2; omega) s ((csim_at hs 0 (by omega)).trans hC.1.1) hΦ
theorem x_hasMan (hA : CtB A) (hC : CtR A A 590) {m : Mm} (hs : csim A m) (s : Int32) : mFi l g d k_X1_hasMan [.ref 590, .int s] m (pI (In s (nM A))) m := by
  refine nFi 0 rfl rfl rfl (by decide) rfl (fun htr o Φ hΦ => mGoOn (mOk (by decide)) rfl [] 400 ?_)
  show (s < 0 → ((0 : Int32) = 0 ∨ (0 : Int32) = 1) ∧ Φ (.inl (some (.int (0 : Int32)))) m o ∧ 0 ≤ 0 ∧ 0 ≤ 0) ∧ (¬ s < 0 → ((m 590 2) ≤ s → ((0 : Int32) = 0 ∨ (0 : Int32) = 1) ∧ Φ (.inl (some (.int (0 : Int32)))) m o ∧ 0 ≤ 0 ∧ 0 ≤ 0) ∧ (¬ (m 590 2) ≤ s → ((1 : Int32) = 0 ∨ (1 : Int32) = 1) ∧ Φ (.inl (some (.int (1 : Int32)))) m o ∧ 0 ≤ 0 ∧ 0 ≤ 0))
  exact x_hasN m (by have := hA.2.2.1.2; omega) s ((csim_at hs 2 (by omega)).trans hC.1.2.2.1) hΦ
theorem x_hasSleeper (hA : CtB A) (hC : CtR A A 590) {m : Mm} (hs : csim A m) (s : Int32) : mFi l g d k_X1_hasSleeper [.ref 590, .int s] m (pI (In s (nP A))) m := by
  refine nFi 0 rfl rfl rfl (by decide) rfl (fun htr o Φ hΦ => mGoOn (mOk (by decide)) rfl [] 400 ?_)
  show (s < 0 → ((0 : Int32) = 0 ∨ (0 : Int32) = 1) ∧ Φ (.inl (some (.int (0 : Int32)))) m o ∧ 0 ≤ 0 ∧ 0 ≤ 0) ∧ (¬ s < 0 → ((m 590 3) ≤ s → ((0 : Int32) = 0 ∨ (0 : Int32) = 1) ∧ Φ (.inl (some (.int (0 : Int32)))) m o ∧ 0 ≤ 0 ∧ 0 ≤ 0) ∧ (¬ (m 590 3) ≤ s → ((1 : Int32) = 0 ∨ (1 : Int32) = 1) ∧ Φ (.inl (some (.int (1 : Int32)))) m o ∧ 0 ≤ 0 ∧ 0 ≤ 0))
  exact x_hasN m (by have := hA.2.2.2.2; omega) s ((csim_at hs 3 (by omega)).trans hC.1.2.2.2) hΦ
theorem x_hasLane (hA : CtB A) (hC : CtR A A 590) {m : Mm} (hs : csim A m) (hd : 1 ≤ d) {a b : Nat} (ha : a < nS A) (hb : b < nS A) : mFi l g d k_X1_hasLane [.ref 590, .int (nI a), .int (nI b)] m (pI (Ln A (nI a) (nI b))) m := by
  have h9 := hA.1.2
  refine nFi 0 rfl rfl rfl (by decide) rfl (fun htr o Φ hΦ => mGoOn (mOk (by decide)) rfl [] 400 ?_)
  show mCal l g d k_X1_hasLane Φ 0 0 _ 5 k_X11_at true [.ref 592, .int (nI a)] [] [.ref 590, .int (nI a), .int (nI b)] m o 0 0 1
  refine fCi htr (x_at m (a := 592) (n := 9) rfl rfl (by decide) (by omega)) hd ?_
  rw [csim_at hs a (by omega), hC.2.2.1 a ha]
  refine fCi htr (x_hasBit m _ (by omega)) hd ?_
  rw [show pI (hB (msk (fun k => Ln A (nI a) (nI k)) (nS A)) b) = pI (Ln A (nI a) (nI b)) from by
    rw [show hB (msk (fun k => Ln A (nI a) (nI k)) (nS A)) b = Ln A (nI a) (nI b) from propext ((hB_msk (by omega) (by omega)).trans ⟨fun q => q.2, fun q => ⟨hb, q⟩⟩)]]
  exact ⟨pI_01 _, eR hΦ⟩
theorem x_allStreets (hC : CtR A A 590) {m : Mm} (hs : csim A m) : mFi l g d k_X1_allStreets [.ref 590] m (aS A) m := by
  refine nFi 0 rfl rfl rfl (by decide) rfl (fun htr o Φ hΦ => mGoOn (mOk (by decide)) rfl [] 400 ?_)
  show Φ (.inl (some (.int ((jshl (1 : Int32) (m 590 0)) - (1 : Int32))))) m o ∧ 0 ≤ 0 ∧ 0 ≤ 0
  rw [csim_at hs 0 (by omega), hC.1.1]
  exact eR hΦ
/-- sleepers of a street who wake at an hour -/
noncomputable def slpB (A : Mm) (s h : Int32) : Int32 := msk (fun p => A (61 + p) 0 = s ∧ A (61 + p) 1 = h) (nP A)
theorem msk_and (P Q : Nat → Prop) {n : Nat} (hn : n ≤ 32) : msk P n &&& msk Q n = msk (fun i => P i ∧ Q i) n := by
  refine hB_ext (fun i hi => ?_)
  rw [hB_and, hB_msk hn hi, hB_msk hn hi, hB_msk hn hi]
  constructor
  · rintro ⟨⟨a, b⟩, -, c⟩; exact ⟨a, b, c⟩
  · rintro ⟨a, b, c⟩; exact ⟨⟨a, b⟩, a, c⟩
theorem x_sleepersAt (hA : CtB A) (hC : CtR A A 590) {m : Mm} (hs : csim A m) (hd : 1 ≤ d) (s h : Int32) : mFi l g d k_X1_sleepersAt [.ref 590, .int s, .int h] m (slpB A s h) m := by
  have h8 := hA.2.2.2.2
  refine nFi 0 rfl rfl rfl (by decide) rfl (fun htr o Φ hΦ => mGoOn (mOk (by decide)) rfl [] 400 ?_)
  show mCal l g d k_X1_sleepersAt Φ 0 0 _ 9 k_X11_places true [.ref 598, .int (m 590 3), .int s] [] [.ref 590, .int s, .int h] m o 0 0 1
  rw [csim_at hs 3 (by omega), hC.1.2.2.2]
  refine fCi htr (x_places m (a := 598) (n := 8) rfl rfl (by decide) h8 (by omega) s) hd ?_
  show mCal l g d k_X1_sleepersAt Φ 0 0 _ 21 k_X11_places true [.ref 599, .int (m 590 3), .int h] [.int (msk (fun i => m 598 i = s) (nP A))] [.ref 590, .int s, .int h] m o 0 0 1
  rw [csim_at hs 3 (by omega), hC.1.2.2.2]
  refine fCi htr (x_places m (a := 599) (n := 8) rfl rfl (by decide) h8 (by omega) h) hd ?_
  have e : msk (fun i => m 598 i = s) (nP A) &&& msk (fun i => m 599 i = h) (nP A) = slpB A s h := by
    rw [msk_and _ _ (by omega)]
    exact msk_cong (fun p hp => by rw [csim_at hs p (by omega), csim_at hs p (by omega), (hC.2.2.2.2.2 p hp).1, (hC.2.2.2.2.2 p hp).2])
  show Φ (.inl (some (.int (msk (fun i => m 598 i = s) (nP A) &&& msk (fun i => m 599 i = h) (nP A))))) m o ∧ 0 ≤ 0 ∧ 0 ≤ 0
  rw [e]
  exact eR hΦ
/-! NIGHTS that are read -/
theorem x_isUp {m : Mm} {N : Nat} (hN : ntB N = true) {R : Nat → Int32} (hR : NtR A R m N) (hA : CtB A) (hd : 1 ≤ d) {k : Nat} (hk : k < nM A) : mFi l g d k_X5_isUp [.ref N, .int (nI k)] m (pI (R (12 + k) = 0)) m := by
  have hn := nt_of hN
  have h6 := hA.2.2.1.2
  refine nFi 0 rfl rfl rfl (by decide) rfl (fun htr o Φ hΦ => mGoOn (mOk (by decide)) rfl [] 400 ?_)
  show mReq (mIsB N 15) (mCal l g d k_X5_isUp Φ 0 0 _ 5 k_X11_hasBit true [.int (m N 2), .int (nI k)] [] [.ref N, .int (nI k)] m o 0 0 1)
  refine mReq_i hn.1 (fCi htr (x_hasBit m _ (by omega)) hd ?_)
  rw [hR.2.2.1, show pI (hB (msk (fun k => R (12 + k) = 0) (nM A)) k) = pI (R (12 + k) = 0) from by
    rw [show hB (msk (fun k => R (12 + k) = 0) (nM A)) k = (R (12 + k) = 0) from propext ((hB_msk (by omega) (by omega)).trans ⟨fun q => q.2, fun q => ⟨hk, q⟩⟩)]]
  exact ⟨pI_01 _, eR hΦ⟩
theorem x_heardIn {m : Mm} {N : Nat} (hN : ntB N = true) (hd : 1 ≤ d) {s : Nat} (hs : s < 9) : mFi l g d k_X5_heardIn [.ref N, .int (nI s)] m (m (N + 3) s) m := by
  have hn := nt_of hN
  refine nFi 0 rfl rfl rfl (by decide) rfl (fun htr o Φ hΦ => mGoOn (mOk (by decide)) rfl [] 400 ?_)
  show mReq (mIsB N 15) (mCal l g d k_X5_heardIn Φ 0 0 _ 5 k_X11_at true [.ref (mRF N 6), .int (nI s)] [] [.ref N, .int (nI s)] m o 0 0 1)
  rw [hn.2.2.2.1]
  exact mReq_i hn.1 (fCi htr (x_at m hn.2.2.2.2.2.2.1 hn.2.2.2.2.2.2.2 (by decide) hs) hd (eR hΦ))
theorem x_allCalls {m : Mm} {N : Nat} (hN : ntB N = true) (hd : 1 ≤ d) : mFi l g d k_X5_allCalls [.ref N] m (sm (fun k => m (N + 2) k) 6) m := by
  have hn := nt_of hN
  refine nFi 2 rfl rfl rfl (by decide) rfl (fun htr o Φ hΦ => mGoOn (mOk (by decide)) rfl [4] 400 ?_)
  show mWB l g d k_X5_allCalls Φ 0 0 4 [.ref N, .int (0 : Int32), .int (0 : Int32)] [] m o 0 0
  refine mLoopZ (P := fun k => mWB l g d k_X5_allCalls Φ 0 0 4 [.ref N, .int (sm (fun k => m (N + 2) k) k), .int (nI k)] [] m o 0 0) (N := 6) (mGoOn (mOk (by decide)) rfl [4] 400 ?_) (fun k hi ih => mGoOn (mOk (by decide)) rfl [4] 400 ?_)
  · show ((6 : Int32) ≤ (nI 6) → Φ (.inl (some (.int (sm (fun k => m (N + 2) k) 6)))) m o ∧ 0 ≤ 0 ∧ 0 ≤ 0) ∧ (¬ (6 : Int32) ≤ (nI 6) → mReq (mIsB N 15) (mCal l g d k_X5_allCalls Φ 0 0 _ 16 k_X11_at true [.ref (mRF N 5), .int (nI 6)] [.int (sm (fun k => m (N + 2) k) 6)] [.ref N, .int (sm (fun k => m (N + 2) k) 6), .int (nI 6)] m o 0 0 1))
    simp (disch := omega) only [mReq_tt, nI_0a, nI_a0, nI_cl, mIn_ok, lit_add, lit_sub, add_lit, lit_le, le_lit, lit_lt, lt_lit, eq_lit, nI_add, nI_1, nI_leI, nI_ltI, nI_eq, mIn_lit, mIn_0, mIn_1, mIn_2, mIn_3, nI_l0, nI_p0, rf_22, rf_44, rf_60, rf_69, rf_391, rf_7, rf_37, rf_51, rf_230, rf_401, rf_413, rf_496, rf_513, rf_518, sB_2, sB_3, sB_4, sB_5, sB_6, sB_7, sL_2, sL_3, sL_4, sL_5, sL_6, sL_7, not_true_eq_false, not_false_eq_true, false_implies, true_implies, true_and, and_true, eq_self, true_or, or_true, Nat.le_refl, Nat.zero_add, Nat.add_zero, hn.1, hn.2.2.1]
    exact hΦ
  show ((6 : Int32) ≤ (nI k) → Φ (.inl (some (.int (sm (fun k => m (N + 2) k) k)))) m o ∧ 0 ≤ 0 ∧ 0 ≤ 0) ∧ (¬ (6 : Int32) ≤ (nI k) → mReq (mIsB N 15) (mCal l g d k_X5_allCalls Φ 0 0 _ 16 k_X11_at true [.ref (mRF N 5), .int (nI k)] [.int (sm (fun k => m (N + 2) k) k)] [.ref N, .int (sm (fun k => m (N + 2) k) k), .int (nI k)] m o 0 0 1))
  have hf : ¬ 6 ≤ k := by omega
  simp (disch := omega) only [mReq_tt, nI_0a, nI_a0, nI_cl, mIn_ok, lit_add, lit_sub, add_lit, lit_le, le_lit, lit_lt, lt_lit, eq_lit, nI_add, nI_1, nI_leI, nI_ltI, nI_eq, mIn_lit, mIn_0, mIn_1, mIn_2, mIn_3, nI_l0, nI_p0, rf_22, rf_44, rf_60, rf_69, rf_391, rf_7, rf_37, rf_51, rf_230, rf_401, rf_413, rf_496, rf_513, rf_518, sB_2, sB_3, sB_4, sB_5, sB_6, sB_7, sL_2, sL_3, sL_4, sL_5, sL_6, sL_7, not_true_eq_false, not_false_eq_true, false_implies, true_implies, true_and, and_true, eq_self, true_or, or_true, Nat.le_refl, Nat.zero_add, Nat.add_zero, hn.1, hn.2.2.1, hf]
  refine fCi htr (x_at m hn.2.2.2.2.2.1.1 hn.2.2.2.2.2.1.2 (by decide) hi) hd ?_
  show mWB l g d k_X5_allCalls Φ 0 0 4 [.ref N, .int ((sm (fun k => m (N + 2) k) k) + (m (N + 2) k)), .int ((nI k) + (1 : Int32))] [] m o 0 0
  simp (disch := omega) only [mReq_tt, nI_0a, nI_a0, nI_cl, mIn_ok, lit_add, lit_sub, add_lit, lit_le, le_lit, lit_lt, lt_lit, eq_lit, nI_add, nI_1, nI_leI, nI_ltI, nI_eq, mIn_lit, mIn_0, mIn_1, mIn_2, mIn_3, nI_l0, nI_p0, rf_22, rf_44, rf_60, rf_69, rf_391, rf_7, rf_37, rf_51, rf_230, rf_401, rf_413, rf_496, rf_513, rf_518, sB_2, sB_3, sB_4, sB_5, sB_6, sB_7, sL_2, sL_3, sL_4, sL_5, sL_6, sL_7, not_true_eq_false, not_false_eq_true, false_implies, true_implies, true_and, and_true, eq_self, true_or, or_true, Nat.le_refl, Nat.zero_add, Nat.add_zero]
  exact ih
end X1
