set_option maxRecDepth 100000
def XCt (m m2 : Mm) (v : Int32) (c : CS) : Prop := m2 587 1 = 0 ∧ (c.1.2.1 ≠ 0 → v = c.1.2.1 - 10 ∧ m2 587 3 = c.1.2.2 ∧ ∀ a, a ≠ 587 → a < 604 ∨ 613 < a → m2 a = m a) ∧ (c.1.2.1 = 0 → v = nI (c.2 2).length ∧ m2 587 3 = -1 ∧ (∀ a, a ≠ 586 → a ≠ 587 → (a < 590 ∨ 600 < a) → (a < 604 ∨ 613 < a) → a ≠ 617 → a ≠ 618 → (a < 625 ∨ 629 < a) → m2 a = m a) ∧ m2 600 2 = 0 ∧ (m2 617 1 = 0 ∧ ∀ s, s < 9 → m2 618 s = -1) ∧ ((∀ i, i ≠ 13 → i ≠ 14 → m2 586 i = m 586 i) ∧ m2 586 13 = 0 ∧ m2 586 14 = 0) ∧ (∃ m3, dCt c.2 m3 ∧ (∀ i, i < 5 → m2 590 i = m3 604 i) ∧ ∀ r, 1 ≤ r → r ≤ 9 → ∀ i, i < cpL r → m2 (590 + r) i = m3 (604 + r) i) ∧ m2 625 2 = 0 ∧ (m2 626 0 = 0 ∧ m2 626 1 = 0 ∧ m2 626 2 = jshl 1 (nI (c.2 2).length) - 1 ∧ m2 626 3 = 0) ∧ (∀ k, k < 6 → m2 627 k = m2 595 k) ∧ (∀ k, k < 6 → m2 628 k = 0) ∧ ∀ s, s < 9 → m2 629 s = 24)
section XCc
variable {l : Launch} {g : mG} {d : Nat}
theorem x_city {m : Mm} {s : Nat} (hs : m 587 1 = nI s) (h6 : s ≤ 600) (hT : ∀ i, i < s → m 588 i ≠ -1) (hd : 9 ≤ d) (n : Int32) : mHx l g d k_X11_city [.ref 586, .int n] m (fun v m2 => ∃ k, n = nI k ∧ k ≤ s ∧ XCt m m2 v (ctR (m 588) k)) (fun x m2 => ¬ isTx s 600 n ∧ x = 0 ∧ m2 = mset m 586 16 (m 586 16 + 1)) := by
  refine nBX 0 rfl rfl rfl (by decide) rfl (fun htr o Φ hΦ hE => mGoOn (mOk (by decide)) rfl [] 400 ?_)
  show True ∧ mCal l g d k_X11_city Φ 4 24 _ 9 k_X7_holds false [.ref 587, .int n, .int (600 : Int32)] [.ref 586] [.ref 586, .int n] m o 0 0 1
  refine ⟨trivial, gCi htr (x_holds hs h6 n (c := 600) (by decide)) (by omega) ?_⟩
  show True ∧ mCal l g d k_X11_city Φ 4 24 _ 12 k_X11_needArgument false [.ref 586, .int (pI (∃ k, n = nI k ∧ k ≤ 600 ∧ k ≤ s))] [] [.ref 586, .int n] m o 0 0 0
  refine ⟨trivial, cNeedA htr rfl (by omega) (by decide) (by decide) (fun h1 => ?_) (fun h1 => hE _ _ ⟨pI_0.mp h1, rfl, rfl⟩)⟩
  obtain ⟨k, rfl, hk, hks⟩ := pI_1.mp h1
  show True ∧ mCal l g d k_X11_city Φ 4 24 _ 20 k_X7_open false [.ref 587, .int (nI k)] [] [.ref 586, .int (nI k)] m o 1 6 0
  obtain ⟨n0, s0, h0⟩ := tx_any m
  refine ⟨trivial, hCv htr (x_open h0 k) (by omega) ?_⟩
  rintro m1 ⟨e1, h1⟩
  show True ∧ mCal l g d k_X11_city Φ 4 24 _ 31 k_X1_read false [.ref 604, .ref 587] [] [.ref 586, .int (nI k)] m1 o 1 6 0
  refine ⟨trivial, hCv htr (x_cread h1 hk (fun i hi => hT i (by omega)) (by omega)) (by omega) ?_⟩
  rintro m2 ⟨s2, hx, e2, h2, hD⟩
  have l2 : ((ctR (m 588) k).2 2).length ≤ 6 := (ctR_ok.2.2.2 2 (by decide)).1
  generalize hbk : ctR (m 588) k = c at hD hx l2
  have hΦ2 : ∀ v m2, XCt m m2 v c → Φ (.inl (some (.int v))) m2 o := fun v m2 q => hΦ v m2 ⟨k, rfl, hks, by rw [hbk]; exact q⟩
  show True ∧ mCal l g d k_X11_city Φ 4 24 _ 38 k_X7_drop false [.ref 587] [] [.ref 586, .int (nI k)] m2 o 1 6 0
  refine ⟨trivial, hCv htr (x_drop h2) (by omega) ?_⟩
  rintro m3 ⟨e3, h3⟩
  show True ∧ mCal l g d k_X11_city Φ 4 24 _ 45 k_X7_good false [.ref 587] [] [.ref 586, .int (nI k)] m3 o 1 6 1
  refine ⟨trivial, gCi htr (x_good h3) (by omega) ?_⟩
  show (¬ (pI (s2.2.2.1 = 0)) = 0 → True ∧ mCal l g d k_X11_city Φ 4 24 _ 73 k_X1_copy false [.ref 590, .ref 604] [] [.ref 586, .int (nI k)] m3 o 1 6 0) ∧ ((pI (s2.2.2.1 = 0)) = 0 → Φ (.inl (some (.int ((m3 587 2) - (10 : Int32))))) m3 o ∧ 1 ≤ 4 ∧ 6 ≤ 24)
  have hfr : ∀ a, a ≠ 587 → a < 604 ∨ 613 < a → m3 a = m a := fun a a1 a2 => by rw [e3 a a1, e2 a a1 a2, e1 a a1]
  refine ⟨fun q => ⟨trivial, hCv htr (x_ccopy m3 (by omega)) (by omega) ?_⟩, fun q => e4 (hΦ2 _ _ ?_)⟩
  · have q0 := pI_1.mp q
    have hb0 := (xR_kd hx).mpr q0
    have hD3 := dCt_T hD e3
    rintro m4 h4
    show True ∧ mCal l g d k_X11_city Φ 4 24 _ 83 k_X4_clear false [.ref 600] [] [.ref 586, .int (nI k)] m4 o 1 6 0
    refine ⟨trivial, gCv htr (x_lclear m4) (by omega) ?_⟩
    show True ∧ mCal l g d k_X11_city Φ 4 24 _ 90 k_X0_clear false [.ref 617] [] [.ref 586, .int (nI k)] (mset m4 600 2 0) o 1 6 0
    refine ⟨trivial, gCv htr (x_bclear _ (by omega)) (by omega) ?_⟩
    have M1 : ∀ a, a ≠ 600 → a ≠ 617 → a ≠ 618 → mput (mset (mset m4 600 2 0) 617 1 0) 618 (fil (mset m4 600 2 0 618) 9 (-1)) a = m4 a := fun a a1 a2 a3 => by rw [mput_ne _ _ a3, mset_ne _ _ _ a2, mset_ne _ _ _ a1]
    have M2 : mput (mset (mset m4 600 2 0) 617 1 0) 618 (fil (mset m4 600 2 0 618) 9 (-1)) 600 2 = 0 := by rw [mput_ne _ _ (by decide), mset_ne _ _ _ (by decide), mset_eq, pk_us]
    have M3 : mput (mset (mset m4 600 2 0) 617 1 0) 618 (fil (mset m4 600 2 0 618) 9 (-1)) 617 1 = 0 := by rw [mput_ne _ _ (by decide), mset_eq, pk_us]
    have M4 : ∀ s, s < 9 → mput (mset (mset m4 600 2 0) 617 1 0) 618 (fil (mset m4 600 2 0 618) 9 (-1)) 618 s = -1 := fun s hs => by rw [mput_eq]; unfold fil; rw [if_pos hs]
    generalize mput (mset (mset m4 600 2 0) 617 1 0) 618 (fil (mset m4 600 2 0 618) 9 (-1)) = M at M1 M2 M3 M4 ⊢
    show True ∧ mCal l g d k_X11_city Φ 4 24 _ 104 k_X3_begin false [.ref 625, .ref 590] [] [.ref 586, .int (nI k)] M o 1 6 0
    refine ⟨trivial, hCv htr (x_begin M (by omega)) (by omega) ?_⟩
    rintro m5 ⟨b1, b2, b3, b4, b5, b6⟩
    have f590 : ∀ a, 590 ≤ a → a ≤ 599 → m5 a = m4 a := fun a a1 a2 => by rw [b1 a (by omega), M1 a (by omega) (by omega) (by omega)]
    have f2 : m5 590 2 = nI (c.2 2).length := by rw [f590 590 (by decide) (by decide), h4.2.1 2 (by decide)]; exact hD3.1 2 (by decide)
    have fM2 : M 590 2 = nI (c.2 2).length := by rw [← b1 590 (by omega)]; exact f2
    show Φ (.inl (some (.int ((mset (mset m5 586 13 (0 : Int32)) 586 14 (0 : Int32)) 590 2)))) (mset (mset m5 586 13 (0 : Int32)) 586 14 (0 : Int32)) o ∧ 1 ≤ 4 ∧ 6 ≤ 24
    rw [mset_ne _ (a := 586) (x := 590) _ _ (by decide), mset_ne _ (a := 586) (x := 590) _ _ (by decide), f2]
    have go : ∀ a, a ≠ 586 → mset (mset m5 586 13 0) 586 14 0 a = m5 a := fun a ha => by rw [mset_ne _ _ _ ha, mset_ne _ _ _ ha]
    refine e4 (hΦ2 _ _ ⟨?_, fun y => absurd hb0 y, fun _ => ⟨rfl, ?_, fun a a1 a2 a3 a4 a5 a6 a7 => ?_, ?_, ⟨?_, fun s hs => ?_⟩, ⟨fun i i1 i2 => ?_, ?_, ?_⟩, ⟨m3, hD3, fun i hi => ?_, fun r r1 r2 i hi => ?_⟩, ?_, ?_, fun k hk => ?_, fun k hk => ?_, fun s hs => ?_⟩⟩)
    · rw [go _ (by decide), b1 _ (by omega), M1 _ (by decide) (by decide) (by decide), h4.1 _ (by omega)]; exact h3.2.2.1
    · rw [go _ (by decide), b1 _ (by omega), M1 _ (by decide) (by decide) (by decide), h4.1 _ (by omega), h3.2.2.2.2.2]; exact hx.2.2 q0
    · rw [go a a1, b1 a (by omega), M1 a (by omega) a5 a6, h4.1 a (by omega)]; exact hfr a a2 a4
    · rw [go _ (by decide), b1 _ (by omega)]; exact M2
    · rw [go _ (by decide), b1 _ (by omega)]; exact M3
    · rw [go _ (by decide), b1 _ (by omega)]; exact M4 s hs
    · rw [mset_eq, pk_un i2, mset_eq, pk_un i1, b1 _ (by omega), M1 _ (by decide) (by decide) (by decide), h4.1 _ (by omega), hfr _ (by decide) (by omega)]
    · rw [mset_eq, pk_un (by decide), mset_eq, pk_us]
    · rw [mset_eq, pk_us]
    · rw [go _ (by decide), f590 590 (by decide) (by decide)]; exact h4.2.1 i hi
    · rw [go _ (by omega), f590 _ (by omega) (by omega)]; exact h4.2.2 r r1 r2 i hi
    · rw [go _ (by decide)]; exact b2
    · rw [go _ (by decide), ← fM2]; exact b3
    · rw [go _ (by decide), go _ (by decide), b1 595 (by omega)]; exact b4 k hk
    · rw [go _ (by decide)]; exact b5 k hk
    · rw [go _ (by decide)]; exact b6 s hs
  · have q0 := pI_0.mp q
    have hb0 : c.1.2.1 ≠ 0 := fun y => q0 ((xR_kd hx).mp y)
    rcases hx.2.1 with ⟨u, _⟩ | ⟨_, u2, u3⟩
    · exact absurd u hb0
    · refine ⟨h3.2.2.1, fun _ => ⟨by rw [h3.2.2.2.2.1, u2], by rw [h3.2.2.2.2.2, u3], hfr⟩, fun y => absurd y hb0⟩
end XCc
