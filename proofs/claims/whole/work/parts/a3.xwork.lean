set_option maxRecDepth 100000
def XWk (A m m2 : Mm) (v : Int32) (w : Nat) (s' : QW) (e' : EX) : Prop := m2 587 1 = 0 ∧ (w = 16 → v = -20 ∧ m2 587 3 = -1 ∧ ∀ a, a ≠ 587 → m2 a = m a) ∧ (w ≠ 16 → (s'.1.2.1 ≠ 0 → v = s'.1.2.1 - 10 ∧ m2 587 3 = s'.1.2.2 ∧ ∀ a, a ≠ 587 → a < 621 ∨ 624 < a → m2 a = m a) ∧ (s'.1.2.1 = 0 → v = nI e'.2.2.2.1 ∧ m2 587 3 = -1 ∧ (∀ a, a ≠ 586 → a ≠ 587 → a ≠ 602 → a ≠ 603 → a < 621 ∨ 629 < a → a < 631 + 4 * w ∨ 634 + 4 * w < a → m2 a = m a) ∧ m2 625 2 = nI (w + 1) ∧ NtR A (A 494) m2 (631 + 4 * w) ∧ NtR A e'.1 m2 626 ∧ (∀ i, i ≠ 14 → m2 586 i = m 586 i) ∧ m2 586 14 = nI e'.2.2.2.2))
section XWk
variable {l : Launch} {g : mG} {d : Nat}
theorem x_keep {m : Mm} {w : Nat} (hw : m 625 2 = nI w) (h16 : w < 16) (hd : 3 ≤ d) : mHv l g d k_X3_keep [.ref 625] m (fun m2 => (∀ a, a ≠ 625 → a < 631 + 4 * w ∨ 634 + 4 * w < a → m2 a = m a) ∧ m2 625 2 = nI (w + 1) ∧ ncp m m2 626 (631 + 4 * w)) := by
  have hh : isH 625 := Or.inl rfl
  have hs := hs_of hh
  refine nBv 1 rfl rfl rfl (by decide) rfl (fun htr o Φ hΦ => mGoOn (mOk (by decide)) rfl [8] 400 ?_)
  show True ∧ mCal l g d k_X3_keep Φ 0 0 _ 5 k_X3_nightBefore false [.ref 625, .int (m 625 2)] [] [.ref 625, mJ] m o 0 0 3
  rw [hw]
  refine ⟨trivial, gCr htr (x_nb m hh (i := w) h16) (by omega) ?_⟩
  have e : 625 + 6 + 4 * w = 631 + 4 * w := by omega
  rw [e]
  refine mGoOn (mOk (by decide)) rfl [] 400 ?_
  show mReq (mIsB (631 + 4 * w) 15) True ∧ mCal l g d k_X3_keep Φ 0 0 _ 18 k_X5_copy false [.ref (631 + 4 * w), .ref 626] [] [.ref 625, .ref (631 + 4 * w)] m o 0 0 0
  have hn2 := (hs.2.2.2.2.2 w h16).2
  rw [e] at hn2
  refine ⟨mReq_i (nt_of hn2).1 trivial, nCv htr (x_ncopy (N := 631 + 4 * w) (M := 626) hn2 rfl (by omega) (by omega)) (by omega) ?_⟩
  intro m2 ⟨g1, g2⟩
  show (Value.ref 625).category = 1 ∧ (Φ (.inl none) (mset m2 625 2 ((m2 625 2) + (1 : Int32))) o ∧ 0 ≤ 0 ∧ 0 ≤ 0)
  have e2 : m2 625 2 = nI w := by rw [g1 625 (by omega)]; exact hw
  rw [e2, nI_1]
  refine ⟨rfl, eR (hΦ _ ⟨fun a a1 a2 => ?_, ?_, ?_⟩)⟩
  · rw [mset_ne _ _ _ a1]; exact g1 a (by omega)
  · rw [mset_eq, pk_us]
  · exact ncp_fr g2 (fun a _ _ => rfl) (fun a x y => mset_ne _ _ _ (by omega))
theorem x_work {A : Mm} (hA : Sv A) (hC : CtR A A 590) (hLw : LwR A A 600) {m : Mm} (hcs : csim A m) (hR : NtR A (A 494) m 626) (hV : Nt A (A 494)) {s w : Nat} (hs : m 587 1 = nI s) (h6 : s ≤ 600) (hw : m 625 2 = nI w) (h16 : w ≤ 16) (hd : 31 ≤ d) (n : Int32) {s' : QW} {w0 : Int32} {e' : EX} (hL : ∀ k, n = nI k → k ≤ 150 → k ≤ s → w ≠ 16 → wkS (m 588) k (nM A) (nS A) s' ∧ (s'.1.2.1 = 0 → Ex A s'.2.2 fuE 0 0 s'.2.1 (A 494, w0, 0, 0, 0) e')) : mHx l g d k_X11_work [.ref 586, .int n] m (fun v m2 => ∃ k, n = nI k ∧ k ≤ 150 ∧ k ≤ s ∧ XWk A m m2 v w s' e') (fun x m2 => ¬ isTx s 150 n ∧ x = 0 ∧ m2 = mset m 586 16 (m 586 16 + 1)) := by
  have hS9 := hA.1.1.2
  have hM6 := hA.1.2.2.1.2
  have hm2 : m 590 2 = nI (nM A) := by rw [hcs 590 (by decide) (by decide)]; exact hC.1.2.2.1
  have hm0 : m 590 0 = nI (nS A) := by rw [hcs 590 (by decide) (by decide)]; exact hC.1.1
  refine nBX 0 rfl rfl rfl (by decide) rfl (fun htr o Φ hΦ hE => mGoOn (mOk (by decide)) rfl [] 400 ?_)
  show True ∧ mCal l g d k_X11_work Φ 4 24 _ 9 k_X7_holds false [.ref 587, .int n, .int (150 : Int32)] [.ref 586] [.ref 586, .int n] m o 0 0 1
  refine ⟨trivial, gCi htr (x_holds hs h6 n (c := 150) (by decide)) (by omega) ?_⟩
  show True ∧ mCal l g d k_X11_work Φ 4 24 _ 12 k_X11_needArgument false [.ref 586, .int (pI (∃ k, n = nI k ∧ k ≤ 150 ∧ k ≤ s))] [] [.ref 586, .int n] m o 0 0 0
  refine ⟨trivial, cNeedA htr rfl (by omega) (by decide) (by decide) (fun h1 => ?_) (fun h1 => hE _ _ ⟨pI_0.mp h1, rfl, rfl⟩)⟩
  obtain ⟨k, rfl, hk, hks⟩ := pI_1.mp h1
  have hΦ2 : ∀ v m2, XWk A m m2 v w s' e' → Φ (.inl (some (.int v))) m2 o := fun v m2 q => hΦ v m2 ⟨k, rfl, hk, hks, q⟩
  show ((m 625 2) < (16 : Int32) → True ∧ mCal l g d k_X11_work Φ 4 24 _ 50 k_X7_open false [.ref 587, .int (nI k)] [] [.ref 586, .int (nI k)] m o 1 6 0) ∧ (¬ (m 625 2) < (16 : Int32) → True ∧ mCal l g d k_X11_work Φ 4 24 _ 32 k_X7_open false [.ref 587, .int (0 : Int32)] [] [.ref 586, .int (nI k)] m o 1 6 0)
  rw [hw, show (16 : Int32) = nI 16 from rfl, nI_ltI (by omega) (by decide)]
  obtain ⟨n0, s0, h0⟩ := tx_any m
  refine ⟨fun hlt => ⟨trivial, hCv htr (x_open h0 k) (by omega) ?_⟩, fun hge => ⟨trivial, hCv htr (x_open h0 0) (by omega) ?_⟩⟩
  rotate_left
  · rintro m1 ⟨e1, h1⟩
    show True ∧ mCal l g d k_X11_work Φ 4 24 _ 39 k_X7_drop false [.ref 587] [] [.ref 586, .int (nI k)] m1 o 1 6 0
    refine ⟨trivial, hCv htr (x_drop h1) (by omega) ?_⟩
    rintro m3 ⟨e3, h3⟩
    show Φ (.inl (some (.int (-20 : Int32)))) m3 o ∧ 1 ≤ 4 ∧ 6 ≤ 24
    exact e4 (hΦ2 _ _ ⟨h3.2.2.1, fun _ => ⟨rfl, h3.2.2.2.2.2, fun a ha => by rw [e3 a ha, e1 a ha]⟩, fun y => absurd (show w = 16 by omega) y⟩)
  rintro m1 ⟨e1, h1⟩
  obtain ⟨hW, hEx⟩ := hL k rfl hk hks (by omega)
  have hokW := wkS_ok hM6 hS9 hk hW
  show True ∧ mCal l g d k_X11_work Φ 4 24 _ 68 k_X9_read false [.ref 621, .ref 587, .ref 590] [] [.ref 586, .int (nI k)] m1 o 1 6 0
  refine ⟨trivial, hCv htr (x_wread hk hM6 hS9 hW h1 (by rw [e1 590 (by decide)]; exact hm2) (by rw [e1 590 (by decide)]; exact hm0) (by omega)) (by omega) ?_⟩
  rintro m2 ⟨t2, hx, e2, h2, hD⟩
  show True ∧ mCal l g d k_X11_work Φ 4 24 _ 75 k_X7_drop false [.ref 587] [] [.ref 586, .int (nI k)] m2 o 1 6 0
  refine ⟨trivial, hCv htr (x_drop h2) (by omega) ?_⟩
  rintro m3 ⟨e3, h3⟩
  show True ∧ mCal l g d k_X11_work Φ 4 24 _ 82 k_X7_good false [.ref 587] [] [.ref 586, .int (nI k)] m3 o 1 6 1
  refine ⟨trivial, gCi htr (x_good h3) (by omega) ?_⟩
  show (¬ (pI (t2.2.2.1 = 0)) = 0 → True ∧ mCal l g d k_X11_work Φ 4 24 _ 103 k_X3_keep false [.ref 625] [] [.ref 586, .int (nI k)] m3 o 1 6 0) ∧ ((pI (t2.2.2.1 = 0)) = 0 → Φ (.inl (some (.int ((m3 587 2) - (10 : Int32))))) m3 o ∧ 1 ≤ 4 ∧ 6 ≤ 24)
  have hfr : ∀ a, a ≠ 587 → a < 621 ∨ 624 < a → m3 a = m a := fun a a1 a2 => by rw [e3 a a1, e2 a a1 a2, e1 a a1]
  have hw3 : m3 625 2 = nI w := by rw [hfr 625 (by decide) (by omega)]; exact hw
  refine ⟨fun q => ⟨trivial, hCv htr (x_keep hw3 hlt (by omega)) (by omega) ?_⟩, fun q => e4 (hΦ2 _ _ ?_)⟩
  · have q0 := pI_1.mp q
    have hb0 := (xR_kd hx).mpr q0
    have hD3 := dWk_T (hD hb0) e3
    obtain ⟨hc75, hok⟩ := hokW.2 hb0
    rintro m4 ⟨b1, b2, b3⟩
    have hD4 : dWk (s'.2.1, s'.2.2) m4 := by
      unfold dWk dW1
      rw [b1 621 (by decide) (by omega), b1 622 (by decide) (by omega), b1 623 (by decide) (by omega), b1 624 (by decide) (by omega)]
      exact hD3
    have hcs4 : csim A m4 := fun a a1 a2 => by rw [b1 a (by omega) (by omega), hfr a (by omega) (by omega)]; exact hcs a a1 a2
    have hR3 : NtR A (A 494) m3 626 := NtR_fr (fun a a1 a2 => hfr a (by omega) (by omega)) hR
    have hR4 : NtR A (A 494) m4 626 := NtR_fr (fun a a1 a2 => b1 a (by omega) (by omega)) hR3
    have hK4 : NtR A (A 494) m4 (631 + 4 * w) := b3 A _ hA.1 hR3
    show True ∧ mCal l g d k_X11_work Φ 4 24 _ 121 k_X9_perform false [.ref 621, .ref 589, .ref 626] [] [.ref 586, .int (nI k)] m4 o 1 6 0
    refine ⟨trivial, hCv htr (x_perform hA hC hLw hc75 hok hcs4 hD4 hR4 hV (hEx hb0) (by omega)) (by omega) ?_⟩
    rintro m5 ⟨c1, c2, c3, c4⟩
    show Φ (.inl (some (.int ((mset m5 586 14 (m5 621 6)) 621 5)))) (mset m5 586 14 (m5 621 6)) o ∧ 1 ≤ 4 ∧ 6 ≤ 24
    rw [mset_ne _ (a := 586) (x := 621) _ _ (by decide), c3, c4]
    refine e4 (hΦ2 _ _ ⟨?_, fun y => absurd hlt (by omega), fun _ => ⟨fun y => absurd hb0 y, fun _ => ⟨rfl, ?_, fun a a1 a2 a3 a4 a5 a6 => ?_, ?_, ?_, ?_, fun i hi => ?_, ?_⟩⟩⟩)
    · rw [mset_ne _ _ _ (by decide), c1 587 (by decide) (by decide) (by decide) (by omega), b1 587 (by decide) (by omega)]; exact h3.2.2.1
    · rw [mset_ne _ _ _ (by decide), c1 587 (by decide) (by decide) (by decide) (by omega), b1 587 (by decide) (by omega), h3.2.2.2.2.2]; exact hx.2.2 q0
    · rw [mset_ne _ _ _ a1, c1 a a3 a4 (by omega) (by omega), b1 a (by omega) a6]; exact hfr a a2 (by omega)
    · rw [mset_ne _ _ _ (by decide), c1 625 (by decide) (by decide) (by decide) (by omega)]; exact b2
    · exact NtR_fr (fun a a1 a2 => by rw [mset_ne _ _ _ (by omega), c1 a (by omega) (by omega) (by omega) (by omega)]) hK4
    · exact NtR_fr (fun a a1 a2 => mset_ne _ _ _ (by omega)) c2
    · rw [mset_eq, pk_un hi, c1 586 (by decide) (by decide) (by decide) (by omega), b1 586 (by decide) (by omega), hfr 586 (by decide) (by omega)]
    · rw [mset_eq, pk_us]
  · have q0 := pI_0.mp q
    have hb0 : s'.1.2.1 ≠ 0 := fun y => q0 ((xR_kd hx).mp y)
    rcases hx.2.1 with ⟨u, _⟩ | ⟨_, u2, u3⟩
    · exact absurd u hb0
    · exact ⟨h3.2.2.1, fun y => absurd hlt (by omega), fun _ => ⟨fun _ => ⟨by rw [h3.2.2.2.2.1, u2], by rw [h3.2.2.2.2.2, u3], hfr⟩, fun y => absurd y hb0⟩⟩
end XWk
