set_option maxRecDepth 100000
theorem xR_E {T : Nat → Int32} {n : Nat} {p : PS} {t : XS} (hx : xR T n p t) : (p.2.1 = 0 → n ≤ skp T n t.1 → xR T n (lwE T n p) (xLk T n t)) ∧ (p.2.1 = 0 → ¬ n ≤ skp T n t.1 → xR T n (lwE T n p) (xRf 1 (xLk T n t))) ∧ (p.2.1 ≠ 0 → xR T n (lwE T n p) t) := by
  unfold lwE
  refine ⟨fun q y => ?_, fun q y => ?_, fun q => ?_⟩
  · have e := (xR_at hx q).2.2
    rw [ifp_f (fun u => by have := u.2; omega)]
    exact xR_bl (xR_lk hx)
  · have e := (xR_at hx q).2.2
    rw [ifp_t ⟨q, by omega⟩, ← e]
    exact xR_wr (xR_bl (xR_lk hx)) (by decide) rfl
  · rw [ifp_f (fun u => q u.1)]
    exact xR_bl hx
def XLw (m m2 : Mm) (v : Int32) (p : PS) (cs : List (Nat × Nat)) : Prop := m2 587 1 = 0 ∧ (p.2.1 ≠ 0 → v = p.2.1 - 10 ∧ m2 587 3 = p.2.2 ∧ ∀ a, a ≠ 587 → a ≠ 614 → a ≠ 615 → m2 a = m a) ∧ (p.2.1 = 0 → v = 1 ∧ m2 587 3 = -1 ∧ (∀ a, a ≠ 587 → a ≠ 600 → a ≠ 601 → a ≠ 614 → a ≠ 615 → m2 a = m a) ∧ m2 600 2 = nI cs.length ∧ ∀ i, i < cs.length → m2 601 i = cdW (cAt cs i).1 (cAt cs i).2)
section X26
variable {l : Launch} {g : mG} {d : Nat} {T : Nat → Int32} {n : Nat} {z : Int32}
theorem lwE_0 {p : PS} : (lwE T n p).2.1 = 0 → p.2.1 = 0 := by
  unfold lwE
  by_cases q : p.2.1 = 0 ∧ skp T n p.1 < n
  · intro _; exact q.1
  · rw [ifp_f q]; exact fun h => h
theorem x_lread {s' : QS} {m : Mm} (hL : lwS T n s') (h : tx T n z (0, 0, 0, -1) m) (hn : n ≤ 150) (hT : ∀ i, i < n → T i ≠ -1) (hd : 38 ≤ d) : mHv l g d k_X4_read [.ref 614, .ref 587] m (fun m2 => ∃ t', xR T n (lwE T n s'.1) t' ∧ eLw m m2 ∧ tx T n z t' m2 ∧ ((lwE T n s'.1).2.1 = 0 → dLw s'.2 m2)) := by
  refine nBv 0 rfl rfl rfl (by decide) rfl (fun htr o Φ hΦ => mGoOn (mOk (by decide)) rfl [30] 400 ?_)
  show True ∧ mCal l g d k_X4_read Φ 0 0 _ 8 k_X4_readSum false [.ref 614, .ref 587, .int (0 : Int32)] [] [.ref 614, .ref 587] (mset m 614 2 (0 : Int32)) o 0 0 0
  have h0 : tx T n z (0, 0, 0, -1) (mset m 614 2 0) := tx_eq h (mset_ne _ _ _ (by decide)) (mset_ne _ _ _ (by decide))
  have hx0 : xR T n (skp T n 0, 0, -1) (0, 0, 0, -1) := ⟨⟨skp_in (Nat.zero_le _), Nat.zero_le _⟩, Or.inl ⟨rfl, rfl, skp_skp (Nat.zero_le _)⟩, fun _ => rfl⟩
  have e0 : eLw m (mset m 614 2 0) := fun a _ h1 _ => mset_ne _ _ _ h1
  refine ⟨trivial, nCv htr (x_readSum (by omega) hn hL hx0 h0 (by rw [mset_eq, pk_us])) (by omega) ?_⟩
  rintro m1 ⟨t1, x1, e1, h1, d1⟩
  have E := xR_E x1
  show True ∧ mCal l g d k_X4_read Φ 0 0 _ 12 k_X7_good false [.ref 587] [] [.ref 614, .ref 587] m1 o 0 0 1
  refine ⟨trivial, fCi htr (x_good h1) (by omega) ?_⟩
  show ((pI (t1.2.2.1 = 0)) = 0 → mWB l g d k_X4_read Φ 0 0 30 [.ref 614, .ref 587] [] m1 o 0 0) ∧ (¬ (pI (t1.2.2.1 = 0)) = 0 → True ∧ mCal l g d k_X4_read Φ 0 0 _ 19 k_X7_ended false [.ref 587] [] [.ref 614, .ref 587] m1 o 0 0 1)
  refine ⟨fun q => ?_, fun q => ?_⟩
  · refine mGoOn (mOk (by decide)) rfl [] 400 ?_
    show Φ (.inl none) m1 o ∧ 0 ≤ 0 ∧ 0 ≤ 0
    have q0 : s'.1.2.1 ≠ 0 := fun y => pI_0.mp q ((xR_kd x1).mp y)
    exact eR (hΦ _ ⟨t1, E.2.2 q0, eLw_trans e0 e1, h1, fun y => absurd (lwE_0 y) q0⟩)
  · have q0 := (xR_kd x1).mpr (pI_1.mp q)
    refine ⟨trivial, nCi htr (x_ended h1 (by omega) x1.1.2 hT (by omega)) (by omega) ?_⟩
    rintro x m2 ⟨rfl, e2, h2⟩
    show (¬ (pI (n ≤ skp T n t1.1)) = 0 → mWB l g d k_X4_read Φ 0 0 30 [.ref 614, .ref 587] [] m2 o 0 0) ∧ ((pI (n ≤ skp T n t1.1)) = 0 → True ∧ mCal l g d k_X4_read Φ 0 0 _ 27 k_X7_refuse false [.ref 587, .int (1 : Int32)] [] [.ref 614, .ref 587] m2 o 0 0 0)
    refine ⟨fun y => ?_, fun y => ⟨trivial, nCv htr (x_refuse h2 1) (by omega) ?_⟩⟩
    · refine mGoOn (mOk (by decide)) rfl [] 400 ?_
      show Φ (.inl none) m2 o ∧ 0 ≤ 0 ∧ 0 ≤ 0
      exact eR (hΦ _ ⟨_, E.1 q0 (pI_1.mp y), eLw_trans e0 (eLw_trans e1 (eLw_T e2)), h2, fun _ => dLw_T e2 (d1 q0)⟩)
    · rintro m3 ⟨e3, h3⟩
      refine mGoOn (mOk (by decide)) rfl [] 400 ?_
      show Φ (.inl none) m3 o ∧ 0 ≤ 0 ∧ 0 ≤ 0
      have xe := E.2.1 q0 (pI_0.mp y)
      refine eR (hΦ _ ⟨_, xe, eLw_trans e0 (eLw_trans e1 (eLw_trans (eLw_T e2) (eLw_T e3))), h3, fun u => dLw_T e3 (dLw_T e2 (d1 q0))⟩)
theorem x_lcopy (m : Mm) (hd : 2 ≤ d) : mFu l g d k_X4_copy [.ref 600, .ref 614] m (mput (mset m 600 2 (m 614 2)) 601 (cpf (m 615) (m 601) 150)) := by
  refine nFu 0 rfl rfl rfl (by decide) rfl (fun htr o Φ hΦ => mGoOn (mOk (by decide)) rfl [] 400 ?_)
  show mCal l g d k_X4_copy Φ 0 0 _ 16 k_X11_copyRow true [.ref 615, .ref 601] [] [.ref 600, .ref 614] (mset m 600 2 (m 614 2)) o 0 0 0
  refine fCv htr (x_copyRow _ (x := 615) (y := 601) (n := 150) rfl rfl rfl rfl (by decide) (by omega)) (by omega) ?_
  rw [mset_ne m (a := 600) (x := 615) _ _ (by decide), mset_ne m (a := 600) (x := 601) _ _ (by decide)]
  exact eR hΦ
theorem x_law {m : Mm} {s : Nat} (hs : m 587 1 = nI s) (h6 : s ≤ 600) (hT : ∀ i, i < s → m 588 i ≠ -1) (hd : 40 ≤ d) (n : Int32) {s' : QS} (hL : ∀ k, n = nI k → k ≤ 150 → k ≤ s → lwS (m 588) k s') : mHx l g d k_X11_law [.ref 586, .int n] m (fun v m2 => ∃ k, n = nI k ∧ k ≤ 150 ∧ k ≤ s ∧ XLw m m2 v (lwE (m 588) k s'.1) s'.2) (fun x m2 => ¬ isTx s 150 n ∧ x = 0 ∧ m2 = mset m 586 16 (m 586 16 + 1)) := by
  refine nBX 0 rfl rfl rfl (by decide) rfl (fun htr o Φ hΦ hE => mGoOn (mOk (by decide)) rfl [] 400 ?_)
  show True ∧ mCal l g d k_X11_law Φ 4 24 _ 9 k_X7_holds false [.ref 587, .int n, .int (150 : Int32)] [.ref 586] [.ref 586, .int n] m o 0 0 1
  refine ⟨trivial, gCi htr (x_holds hs h6 n (c := 150) (by decide)) (by omega) ?_⟩
  show True ∧ mCal l g d k_X11_law Φ 4 24 _ 12 k_X11_needArgument false [.ref 586, .int (pI (∃ k, n = nI k ∧ k ≤ 150 ∧ k ≤ s))] [] [.ref 586, .int n] m o 0 0 0
  refine ⟨trivial, cNeedA htr rfl (by omega) (by decide) (by decide) (fun h1 => ?_) (fun h1 => hE _ _ ⟨pI_0.mp h1, rfl, rfl⟩)⟩
  obtain ⟨k, rfl, hk, hks⟩ := pI_1.mp h1
  have hL2 := hL k rfl hk hks
  have hok := lwS_ok hL2
  show True ∧ mCal l g d k_X11_law Φ 4 24 _ 20 k_X7_open false [.ref 587, .int (nI k)] [] [.ref 586, .int (nI k)] m o 1 6 0
  obtain ⟨n0, s0, h0⟩ := tx_any m
  refine ⟨trivial, hCv htr (x_open h0 k) (by omega) ?_⟩
  rintro m1 ⟨e1, h1⟩
  show True ∧ mCal l g d k_X11_law Φ 4 24 _ 31 k_X4_read false [.ref 614, .ref 587] [] [.ref 586, .int (nI k)] m1 o 1 6 0
  refine ⟨trivial, hCv htr (x_lread hL2 h1 hk (fun i hi => hT i (by omega)) (by omega)) (by omega) ?_⟩
  rintro m2 ⟨s2, hx, e2, h2, hD⟩
  generalize hpe : lwE (m 588) k s'.1 = p at hD hx
  have hΦ2 : ∀ v m2, XLw m m2 v p s'.2 → Φ (.inl (some (.int v))) m2 o := fun v m2 q => hΦ v m2 ⟨k, rfl, hk, hks, by rw [hpe]; exact q⟩
  show True ∧ mCal l g d k_X11_law Φ 4 24 _ 38 k_X7_drop false [.ref 587] [] [.ref 586, .int (nI k)] m2 o 1 6 0
  refine ⟨trivial, hCv htr (x_drop h2) (by omega) ?_⟩
  rintro m3 ⟨e3, h3⟩
  show True ∧ mCal l g d k_X11_law Φ 4 24 _ 45 k_X7_good false [.ref 587] [] [.ref 586, .int (nI k)] m3 o 1 6 1
  refine ⟨trivial, gCi htr (x_good h3) (by omega) ?_⟩
  show (¬ (pI (s2.2.2.1 = 0)) = 0 → True ∧ mCal l g d k_X11_law Φ 4 24 _ 73 k_X4_copy false [.ref 600, .ref 614] [] [.ref 586, .int (nI k)] m3 o 1 6 0) ∧ ((pI (s2.2.2.1 = 0)) = 0 → Φ (.inl (some (.int ((m3 587 2) - (10 : Int32))))) m3 o ∧ 1 ≤ 4 ∧ 6 ≤ 24)
  have hfr : ∀ a, a ≠ 587 → a ≠ 614 → a ≠ 615 → m3 a = m a := fun a a1 a2 a3 => by rw [e3 a a1, e2 a a1 a2 a3, e1 a a1]
  refine ⟨fun q => ⟨trivial, gCv htr (x_lcopy m3 (by omega)) (by omega) ?_⟩, fun q => e4 (hΦ2 _ _ ?_)⟩
  · have q0 := pI_1.mp q
    have hb0 := (xR_kd hx).mpr q0
    have hD3 := dLw_T e3 (hD hb0)
    show Φ (.inl (some (.int (1 : Int32)))) (mput (mset m3 600 2 (m3 614 2)) 601 (cpf (m3 615) (m3 601) 150)) o ∧ 1 ≤ 4 ∧ 6 ≤ 24
    refine e4 (hΦ2 _ _ ⟨?_, fun y => absurd hb0 y, fun _ => ⟨rfl, ?_, fun a a1 a2 a3 a4 a5 => ?_, ?_, fun t ht => ?_⟩⟩)
    · rw [mput_ne _ _ (by decide), mset_ne _ _ _ (by decide)]; exact h3.2.2.1
    · rw [mput_ne _ _ (by decide), mset_ne _ _ _ (by decide), h3.2.2.2.2.2]; exact hx.2.2 q0
    · rw [mput_ne _ _ a3, mset_ne _ _ _ a2]; exact hfr a a1 a4 a5
    · rw [mput_ne _ _ (by decide), mset_eq, pk_us]; exact hD3.1
    · rw [mput_eq]
      unfold cpf
      rw [if_pos (by omega)]
      exact hD3.2 t ht
  · have q0 := pI_0.mp q
    have hb0 : p.2.1 ≠ 0 := fun y => q0 ((xR_kd hx).mp y)
    rcases hx.2.1 with ⟨u, _⟩ | ⟨_, u2, u3⟩
    · exact absurd u hb0
    · refine ⟨h3.2.2.1, fun _ => ⟨by rw [h3.2.2.2.2.1, u2], by rw [h3.2.2.2.2.2, u3], hfr⟩, fun y => absurd y hb0⟩
end X26
