set_option maxRecDepth 100000
/-- contracts of what may throw and changes -/
def mHx (l : Launch) (g : mG) (d k : Nat) (As : List Value) (m : Mm) (Q : Int32 → Mm → Prop) (E : Nat → Mm → Prop) : Prop := l.stackTraces = false → ∀ o, mSat l g d k As m o (mIX (fun v m2 o2 => Q v m2 ∧ o2 = o) (fun x m2 o2 => E x m2 ∧ o2 = o)) 4 24
theorem nBX {l : Launch} {g : mG} {d k : Nat} {As : List Value} {m : Mm} {Q : Int32 → Mm → Prop} {E : Nat → Mm → Prop} (r : Nat) (hc : m1c As = true) (hn : mNl k = As.length + r) (hH : mHd k = []) (hpn : plainName (mY k).cls = true) (hoc : mCn (mOc k) = (mY k).cls)
    (h : l.stackTraces = false → ∀ (o : Int64) (Φ : mR → Mm → Int64 → Prop), (∀ v m2, Q v m2 → Φ (.inl (some (.int v))) m2 o) → (∀ x m2, E x m2 → Φ (.inr x) m2 o) → mWB l g d k Φ 4 24 0 (As ++ List.replicate r mJ) [] m o 0 0) : mHx l g d k As m Q E := fun htr o => mBody htr r hc hn hH hpn hoc (h htr o _ (fun v m2 q => ⟨q, rfl⟩) (fun x m2 q => ⟨q, rfl⟩))
theorem tx_any (m : Mm) : ∃ n s, tx (m 588) n (m 587 1) s m := by
  obtain ⟨a, _, ea⟩ := wb_of32 (m 587 4)
  obtain ⟨b, _, eb⟩ := wb_of32 (m 587 5)
  obtain ⟨c, _, ec⟩ := wb_of32 (m 587 6)
  exact ⟨a, (b, c, m 587 2, m 587 3), rfl, ea, rfl, ⟨eb, ec⟩, rfl, rfl⟩
def XB (m m2 : Mm) (v : Int32) (b : BS) : Prop := m2 587 1 = 0 ∧ (b.1.2.1 ≠ 0 → v = b.1.2.1 - 10 ∧ m2 587 3 = b.1.2.2 ∧ ∀ a, a ≠ 587 → a ≠ 619 → a ≠ 620 → m2 a = m a) ∧ (b.1.2.1 = 0 → v = nI b.2.1 ∧ m2 587 3 = -1 ∧ (∀ a, a ≠ 587 → a < 617 ∨ 620 < a → m2 a = m a) ∧ m2 617 1 = nI b.2.1 ∧ ∀ s, s < 9 → (∀ t, t < b.2.1 → b.2.2.1 t = nI s → m2 618 s = b.2.2.2 t) ∧ ((∀ t, t < b.2.1 → b.2.2.1 t ≠ nI s) → m2 618 s = -1))
section X25
variable {l : Launch} {g : mG} {d : Nat}
theorem x_bcopy (m : Mm) (hd : 2 ≤ d) : mFu l g d k_X0_copy [.ref 617, .ref 619] m (mput (mset m 617 1 (m 619 1)) 618 (cpf (m 620) (m 618) 9)) := by
  refine nFu 0 rfl rfl rfl (by decide) rfl (fun htr o Φ hΦ => mGoOn (mOk (by decide)) rfl [] 400 ?_)
  show mCal l g d k_X0_copy Φ 0 0 _ 16 k_X11_copyRow true [.ref 620, .ref 618] [] [.ref 617, .ref 619] (mset m 617 1 (m 619 1)) o 0 0 0
  refine fCv htr (x_copyRow _ (x := 620) (y := 618) (n := 9) rfl rfl rfl rfl (by decide) (by omega)) (by omega) ?_
  rw [mset_ne m (a := 617) (x := 620) _ _ (by decide), mset_ne m (a := 617) (x := 618) _ _ (by decide)]
  exact eR hΦ
theorem x_book {m : Mm} {s N : Nat} (hs : m 587 1 = nI s) (h6 : s ≤ 600) (hN : N ≤ 9) (h59 : m 590 0 = nI N) (hT : ∀ i, i < s → m 588 i ≠ -1) (hd : 8 ≤ d) (n : Int32) : mHx l g d k_X11_book [.ref 586, .int n] m (fun v m2 => ∃ k, n = nI k ∧ k ≤ 60 ∧ k ≤ s ∧ XB m m2 v (bkR (m 588) k N)) (fun x m2 => ¬ isTx s 60 n ∧ x = 0 ∧ m2 = mset m 586 16 (m 586 16 + 1)) := by
  refine nBX 0 rfl rfl rfl (by decide) rfl (fun htr o Φ hΦ hE => mGoOn (mOk (by decide)) rfl [] 400 ?_)
  show True ∧ mCal l g d k_X11_book Φ 4 24 _ 8 k_X7_holds false [.ref 587, .int n, .int (60 : Int32)] [.ref 586] [.ref 586, .int n] m o 0 0 1
  refine ⟨trivial, gCi htr (x_holds hs h6 n (c := 60) (by decide)) (by omega) ?_⟩
  show True ∧ mCal l g d k_X11_book Φ 4 24 _ 11 k_X11_needArgument false [.ref 586, .int (pI (∃ k, n = nI k ∧ k ≤ 60 ∧ k ≤ s))] [] [.ref 586, .int n] m o 0 0 0
  refine ⟨trivial, cNeedA htr rfl (by omega) (by decide) (by decide) (fun h1 => ?_) (fun h1 => hE _ _ ⟨pI_0.mp h1, rfl, rfl⟩)⟩
  obtain ⟨k, rfl, hk, hks⟩ := pI_1.mp h1
  show True ∧ mCal l g d k_X11_book Φ 4 24 _ 19 k_X7_open false [.ref 587, .int (nI k)] [] [.ref 586, .int (nI k)] m o 1 6 0
  obtain ⟨n0, s0, h0⟩ := tx_any m
  refine ⟨trivial, hCv htr (x_open h0 k) (by omega) ?_⟩
  rintro m1 ⟨e1, h1⟩
  show True ∧ mCal l g d k_X11_book Φ 4 24 _ 37 k_X0_read false [.ref 619, .ref 587, .ref 590] [] [.ref 586, .int (nI k)] m1 o 1 6 0
  refine ⟨trivial, hCv htr (x_bread hN h1 hk (fun i hi => hT i (by omega)) (by rw [e1 590 (by decide)]; exact h59) (by omega)) (by omega) ?_⟩
  rintro m2 ⟨e2, hD, s2, h2, hx⟩
  generalize hbk : bkR (m 588) k N = b at hD hx
  have hΦ2 : ∀ v m2, XB m m2 v b → Φ (.inl (some (.int v))) m2 o := fun v m2 q => hΦ v m2 ⟨k, rfl, hk, hks, by rw [hbk]; exact q⟩
  show True ∧ mCal l g d k_X11_book Φ 4 24 _ 44 k_X7_drop false [.ref 587] [] [.ref 586, .int (nI k)] m2 o 1 6 0
  refine ⟨trivial, hCv htr (x_drop h2) (by omega) ?_⟩
  rintro m3 ⟨e3, h3⟩
  show True ∧ mCal l g d k_X11_book Φ 4 24 _ 51 k_X7_good false [.ref 587] [] [.ref 586, .int (nI k)] m3 o 1 6 1
  refine ⟨trivial, gCi htr (x_good h3) (by omega) ?_⟩
  show (¬ (pI (s2.2.2.1 = 0)) = 0 → True ∧ mCal l g d k_X11_book Φ 4 24 _ 76 k_X0_copy false [.ref 617, .ref 619] [] [.ref 586, .int (nI k)] m3 o 1 6 0) ∧ ((pI (s2.2.2.1 = 0)) = 0 → Φ (.inl (some (.int ((m3 587 2) - (10 : Int32))))) m3 o ∧ 1 ≤ 4 ∧ 6 ≤ 24)
  have hfr : ∀ a, a ≠ 587 → a ≠ 619 → a ≠ 620 → m3 a = m a := fun a a1 a2 a3 => by rw [e3 a a1, e2 a a1 a2 a3, e1 a a1]
  refine ⟨fun q => ⟨trivial, gCv htr (x_bcopy m3 (by omega)) (by omega) ?_⟩, fun q => e4 (hΦ2 _ _ ?_)⟩
  · have q0 := pI_1.mp q
    have hD3 := BD_T hD e3
    have hb0 := (xR_kd hx).mpr q0
    show Φ (.inl (some (.int ((mput (mset m3 617 1 (m3 619 1)) 618 (cpf (m3 620) (m3 618) 9)) 617 1)))) (mput (mset m3 617 1 (m3 619 1)) 618 (cpf (m3 620) (m3 618) 9)) o ∧ 1 ≤ 4 ∧ 6 ≤ 24
    have e617 : mput (mset m3 617 1 (m3 619 1)) 618 (cpf (m3 620) (m3 618) 9) 617 1 = nI b.2.1 := by rw [mput_ne _ _ (by decide), mset_eq, pk_us]; exact hD3.1
    rw [e617]
    refine e4 (hΦ2 _ _ ⟨?_, fun y => absurd hb0 y, fun _ => ⟨rfl, ?_, fun a a1 a2 => ?_, e617, fun t ht => ?_⟩⟩)
    · rw [mput_ne _ _ (by decide), mset_ne _ _ _ (by decide)]; exact h3.2.2.1
    · rw [mput_ne _ _ (by decide), mset_ne _ _ _ (by decide), h3.2.2.2.2.2]; exact hx.2.2 q0
    · rw [mput_ne _ _ (by omega), mset_ne _ _ _ (by omega)]; exact hfr a a1 (by omega) (by omega)
    · rw [mput_eq]
      unfold cpf
      rw [if_pos ht]
      exact hD3.2 t ht
  · have q0 := pI_0.mp q
    have hb0 : b.1.2.1 ≠ 0 := fun y => q0 ((xR_kd hx).mp y)
    rcases hx.2.1 with ⟨u, _⟩ | ⟨_, u2, u3⟩
    · exact absurd u hb0
    · refine ⟨h3.2.2.1, fun _ => ⟨by rw [h3.2.2.2.2.1, u2], by rw [h3.2.2.2.2.2, u3], hfr⟩, fun y => absurd y hb0⟩
end X25
