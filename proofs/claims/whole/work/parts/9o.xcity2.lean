set_option maxRecDepth 100000
def cpL (r : Nat) : Nat := if r = 1 ∨ r = 2 then 9 else if r = 3 ∨ r = 4 then 14 else if r ≤ 7 then 6 else 8
/-- rows 1 to j of a city are copied -/
def CpI (j : Nat) (m M : Mm) : Prop := (∀ a, a < 590 ∨ 590 + j < a → M a = m a) ∧ (∀ i, i < 5 → M 590 i = m 604 i) ∧ ∀ r, 1 ≤ r → r ≤ j → ∀ i, i < cpL r → M (590 + r) i = m (604 + r) i
theorem CpI_s {j : Nat} {m M : Mm} (hj : j < 9) (h : CpI j m M) : CpI (j + 1) m (mput M (590 + (j + 1)) (cpf (M (604 + (j + 1))) (M (590 + (j + 1))) (cpL (j + 1)))) := by
  refine ⟨fun a ha => ?_, fun i hi => ?_, fun r h1 h2 i hi => ?_⟩
  · rw [mput_ne _ _ (by omega)]; exact h.1 a (by omega)
  · rw [mput_ne _ _ (by omega)]; exact h.2.1 i hi
  · by_cases q : r = j + 1
    · subst q
      rw [mput_eq]
      unfold cpf
      rw [if_pos hi, h.1 (604 + (j + 1)) (by omega)]
    · rw [mput_ne _ _ (by omega)]; exact h.2.2 r h1 (by omega) i hi
section XCp
variable {l : Launch} {g : mG} {d : Nat}
theorem x_ccopy (m : Mm) (hd : 2 ≤ d) : mHv l g d k_X1_copy [.ref 590, .ref 604] m (fun m2 => CpI 9 m m2) := by
  refine nBv 0 rfl rfl rfl (by decide) rfl (fun htr o Φ hΦ => mGoOn (mOk (by decide)) rfl [] 400 ?_)
  show mCal l g d k_X1_copy Φ 0 0 _ 48 k_X11_copyRow true [.ref 605, .ref 591] [] [.ref 590, .ref 604] (mset (mset (mset (mset (mset m 590 0 (m 604 0)) 590 1 ((mset m 590 0 (m 604 0)) 604 1)) 590 2 ((mset (mset m 590 0 (m 604 0)) 590 1 ((mset m 590 0 (m 604 0)) 604 1)) 604 2)) 590 3 ((mset (mset (mset m 590 0 (m 604 0)) 590 1 ((mset m 590 0 (m 604 0)) 604 1)) 590 2 ((mset (mset m 590 0 (m 604 0)) 590 1 ((mset m 590 0 (m 604 0)) 604 1)) 604 2)) 604 3)) 590 4 ((mset (mset (mset (mset m 590 0 (m 604 0)) 590 1 ((mset m 590 0 (m 604 0)) 604 1)) 590 2 ((mset (mset m 590 0 (m 604 0)) 590 1 ((mset m 590 0 (m 604 0)) 604 1)) 604 2)) 590 3 ((mset (mset (mset m 590 0 (m 604 0)) 590 1 ((mset m 590 0 (m 604 0)) 604 1)) 590 2 ((mset (mset m 590 0 (m 604 0)) 590 1 ((mset m 590 0 (m 604 0)) 604 1)) 604 2)) 604 3)) 604 4)) o 0 0 0
  have e604 : ∀ (M : Mm) (i : Nat) (v : Int32), mset M 590 i v 604 = M 604 := fun M i v => mset_ne _ _ _ (by decide)
  simp only [e604]
  have h0 : CpI 0 m (mset (mset (mset (mset (mset m 590 0 (m 604 0)) 590 1 (m 604 1)) 590 2 (m 604 2)) 590 3 (m 604 3)) 590 4 (m 604 4)) := by
    refine ⟨fun a ha => ?_, fun i hi => ?_, fun r h1 h2 => absurd h2 (by omega)⟩
    · rw [mset_ne _ _ _ (by omega), mset_ne _ _ _ (by omega), mset_ne _ _ _ (by omega), mset_ne _ _ _ (by omega), mset_ne _ _ _ (by omega)]
    · simp only [mset_eq, upd_at]
      obtain rfl | rfl | rfl | rfl | rfl : i = 0 ∨ i = 1 ∨ i = 2 ∨ i = 3 ∨ i = 4 := by omega
      all_goals rfl
  generalize mset (mset (mset (mset (mset m 590 0 (m 604 0)) 590 1 (m 604 1)) 590 2 (m 604 2)) 590 3 (m 604 3)) 590 4 (m 604 4) = M0 at h0 ⊢
  refine fCv htr (x_copyRow M0 (x := 605) (y := 591) (n := 9) rfl rfl rfl rfl (by decide) (by omega)) (by omega) ?_
  have h1 : CpI 1 m (mput M0 591 (cpf (M0 605) (M0 591) 9)) := CpI_s (j := 0) (by decide) h0
  generalize mput M0 591 (cpf (M0 605) (M0 591) 9) = M1 at h1 ⊢
  show mCal l g d k_X1_copy Φ 0 0 _ 59 k_X11_copyRow true [.ref 606, .ref 592] [] [.ref 590, .ref 604] M1 o 0 0 0
  refine fCv htr (x_copyRow M1 (x := 606) (y := 592) (n := 9) rfl rfl rfl rfl (by decide) (by omega)) (by omega) ?_
  have h2 : CpI 2 m (mput M1 592 (cpf (M1 606) (M1 592) 9)) := CpI_s (j := 1) (by decide) h1
  generalize mput M1 592 (cpf (M1 606) (M1 592) 9) = M2 at h2 ⊢
  show mCal l g d k_X1_copy Φ 0 0 _ 70 k_X11_copyRow true [.ref 607, .ref 593] [] [.ref 590, .ref 604] M2 o 0 0 0
  refine fCv htr (x_copyRow M2 (x := 607) (y := 593) (n := 14) rfl rfl rfl rfl (by decide) (by omega)) (by omega) ?_
  have h3 : CpI 3 m (mput M2 593 (cpf (M2 607) (M2 593) 14)) := CpI_s (j := 2) (by decide) h2
  generalize mput M2 593 (cpf (M2 607) (M2 593) 14) = M3 at h3 ⊢
  show mCal l g d k_X1_copy Φ 0 0 _ 81 k_X11_copyRow true [.ref 608, .ref 594] [] [.ref 590, .ref 604] M3 o 0 0 0
  refine fCv htr (x_copyRow M3 (x := 608) (y := 594) (n := 14) rfl rfl rfl rfl (by decide) (by omega)) (by omega) ?_
  have h4 : CpI 4 m (mput M3 594 (cpf (M3 608) (M3 594) 14)) := CpI_s (j := 3) (by decide) h3
  generalize mput M3 594 (cpf (M3 608) (M3 594) 14) = M4 at h4 ⊢
  show mCal l g d k_X1_copy Φ 0 0 _ 92 k_X11_copyRow true [.ref 609, .ref 595] [] [.ref 590, .ref 604] M4 o 0 0 0
  refine fCv htr (x_copyRow M4 (x := 609) (y := 595) (n := 6) rfl rfl rfl rfl (by decide) (by omega)) (by omega) ?_
  have h5 : CpI 5 m (mput M4 595 (cpf (M4 609) (M4 595) 6)) := CpI_s (j := 4) (by decide) h4
  generalize mput M4 595 (cpf (M4 609) (M4 595) 6) = M5 at h5 ⊢
  show mCal l g d k_X1_copy Φ 0 0 _ 103 k_X11_copyRow true [.ref 610, .ref 596] [] [.ref 590, .ref 604] M5 o 0 0 0
  refine fCv htr (x_copyRow M5 (x := 610) (y := 596) (n := 6) rfl rfl rfl rfl (by decide) (by omega)) (by omega) ?_
  have h6 : CpI 6 m (mput M5 596 (cpf (M5 610) (M5 596) 6)) := CpI_s (j := 5) (by decide) h5
  generalize mput M5 596 (cpf (M5 610) (M5 596) 6) = M6 at h6 ⊢
  show mCal l g d k_X1_copy Φ 0 0 _ 114 k_X11_copyRow true [.ref 611, .ref 597] [] [.ref 590, .ref 604] M6 o 0 0 0
  refine fCv htr (x_copyRow M6 (x := 611) (y := 597) (n := 6) rfl rfl rfl rfl (by decide) (by omega)) (by omega) ?_
  have h7 : CpI 7 m (mput M6 597 (cpf (M6 611) (M6 597) 6)) := CpI_s (j := 6) (by decide) h6
  generalize mput M6 597 (cpf (M6 611) (M6 597) 6) = M7 at h7 ⊢
  show mCal l g d k_X1_copy Φ 0 0 _ 125 k_X11_copyRow true [.ref 612, .ref 598] [] [.ref 590, .ref 604] M7 o 0 0 0
  refine fCv htr (x_copyRow M7 (x := 612) (y := 598) (n := 8) rfl rfl rfl rfl (by decide) (by omega)) (by omega) ?_
  have h8 : CpI 8 m (mput M7 598 (cpf (M7 612) (M7 598) 8)) := CpI_s (j := 7) (by decide) h7
  generalize mput M7 598 (cpf (M7 612) (M7 598) 8) = M8 at h8 ⊢
  show mCal l g d k_X1_copy Φ 0 0 _ 136 k_X11_copyRow true [.ref 613, .ref 599] [] [.ref 590, .ref 604] M8 o 0 0 0
  refine fCv htr (x_copyRow M8 (x := 613) (y := 599) (n := 8) rfl rfl rfl rfl (by decide) (by omega)) (by omega) ?_
  have h9 : CpI 9 m (mput M8 599 (cpf (M8 613) (M8 599) 8)) := CpI_s (j := 8) (by decide) h8
  generalize mput M8 599 (cpf (M8 613) (M8 599) 8) = M9 at h9 ⊢
  show Φ (.inl none) M9 o ∧ 0 ≤ 0 ∧ 0 ≤ 0
  exact eR (hΦ _ h9)
theorem x_begin (m : Mm) (hd : 3 ≤ d) : mHv l g d k_X3_begin [.ref 625, .ref 590] m (fun m2 => (∀ a, a < 625 ∨ 629 < a → m2 a = m a) ∧ m2 625 2 = 0 ∧ (m2 626 0 = 0 ∧ m2 626 1 = 0 ∧ m2 626 2 = jshl 1 (m 590 2) - 1 ∧ m2 626 3 = 0) ∧ (∀ k, k < 6 → m2 627 k = m 595 k) ∧ (∀ k, k < 6 → m2 628 k = 0) ∧ ∀ s, s < 9 → m2 629 s = 24) := by
  have hq : ∀ d m, 1 ≤ d → mFu l g d k_X5_beQuiet [.ref 626] m (mput (mset m 626 3 0) 629 (fil (m 629) 9 24)) := by
    intro d m hd
    refine nFu 0 rfl rfl rfl (by decide) rfl (fun htr o Φ hΦ => mGoOn (mOk (by decide)) rfl [] 400 ?_)
    show mCal l g d k_X5_beQuiet Φ 0 0 _ 11 k_J7_fill_53178 false [.ref 629, .int (24 : Int32)] [] [.ref 626] (mset m 626 3 (0 : Int32)) o 0 0 0
    refine fCv htr (j_fill _ (a := 629) (n := 9) rfl rfl (by decide) 24) hd ?_
    rw [mset_ne m (a := 626) (x := 629) _ _ (by decide)]
    exact eR hΦ
  have hb : ∀ d m, 2 ≤ d → mHv l g d k_X5_begin [.ref 626, .ref 590] m (fun m2 => (∀ a, a < 626 ∨ 629 < a → m2 a = m a) ∧ (m2 626 0 = 0 ∧ m2 626 1 = 0 ∧ m2 626 2 = jshl 1 (m 590 2) - 1 ∧ m2 626 3 = 0) ∧ (∀ k, k < 6 → m2 627 k = m 595 k) ∧ (∀ k, k < 6 → m2 628 k = 0) ∧ ∀ s, s < 9 → m2 629 s = 24) := by
    intro d m hd
    refine nBv 0 rfl rfl rfl (by decide) rfl (fun htr o Φ hΦ => mGoOn (mOk (by decide)) rfl [] 400 ?_)
    show mCal l g d k_X5_begin Φ 0 0 _ 30 k_X11_copyRow true [.ref 595, .ref 627] [] [.ref 626, .ref 590] (mset (mset (mset m 626 0 (0 : Int32)) 626 1 (0 : Int32)) 626 2 ((jshl (1 : Int32) ((mset (mset m 626 0 (0 : Int32)) 626 1 (0 : Int32)) 590 2)) - (1 : Int32))) o 0 0 0
    rw [mset_ne _ (a := 626) (x := 590) _ _ (by decide), mset_ne _ (a := 626) (x := 590) _ _ (by decide)]
    have a0 : ∀ a, a ≠ 626 → mset (mset (mset m 626 0 0) 626 1 0) 626 2 (jshl 1 (m 590 2) - 1) a = m a := fun a ha => by rw [mset_ne _ _ _ ha, mset_ne _ _ _ ha, mset_ne _ _ _ ha]
    have a1 : mset (mset (mset m 626 0 0) 626 1 0) 626 2 (jshl 1 (m 590 2) - 1) 626 0 = 0 ∧ mset (mset (mset m 626 0 0) 626 1 0) 626 2 (jshl 1 (m 590 2) - 1) 626 1 = 0 ∧ mset (mset (mset m 626 0 0) 626 1 0) 626 2 (jshl 1 (m 590 2) - 1) 626 2 = jshl 1 (m 590 2) - 1 := by
      simp only [mset_eq, upd_at]; exact ⟨rfl, rfl, rfl⟩
    generalize mset (mset (mset m 626 0 0) 626 1 0) 626 2 (jshl 1 (m 590 2) - 1) = M at a0 a1 ⊢
    refine fCv htr (x_copyRow M (x := 595) (y := 627) (n := 6) rfl rfl rfl rfl (by decide) (by omega)) (by omega) ?_
    show mCal l g d k_X5_begin Φ 0 0 _ 38 k_J7_fill_53178 false [.ref 628, .int (0 : Int32)] [] [.ref 626, .ref 590] (mput M 627 (cpf (M 595) (M 627) 6)) o 0 0 0
    refine fCv htr (j_fill _ (a := 628) (n := 6) rfl rfl (by decide) 0) (by omega) ?_
    rw [mput_ne M (a := 627) (x := 628) _ (by decide)]
    show True ∧ mCal l g d k_X5_begin Φ 0 0 _ 42 k_X5_beQuiet false [.ref 626] [] [.ref 626, .ref 590] (mput (mput M 627 (cpf (M 595) (M 627) 6)) 628 (fil (M 628) 6 0)) o 0 0 0
    refine ⟨trivial, fCv htr (hq _ _ (by omega)) (by omega) ?_⟩
    refine eR (hΦ _ ⟨fun a ha => ?_, ⟨?_, ?_, ?_, ?_⟩, fun k hk => ?_, fun k hk => ?_, fun s hs => ?_⟩)
    · rw [mput_ne _ _ (by omega), mset_ne _ _ _ (by omega), mput_ne _ _ (by omega), mput_ne _ _ (by omega), a0 a (by omega)]
    · rw [mput_ne _ _ (by decide), mset_eq, pk_un (by decide), mput_ne _ _ (by decide), mput_ne _ _ (by decide)]; exact a1.1
    · rw [mput_ne _ _ (by decide), mset_eq, pk_un (by decide), mput_ne _ _ (by decide), mput_ne _ _ (by decide)]; exact a1.2.1
    · rw [mput_ne _ _ (by decide), mset_eq, pk_un (by decide), mput_ne _ _ (by decide), mput_ne _ _ (by decide)]; exact a1.2.2
    · rw [mput_ne _ _ (by decide), mset_eq, pk_us]
    · rw [mput_ne _ _ (by decide), mset_ne _ _ _ (by decide), mput_ne _ _ (by decide), mput_eq]; unfold cpf; rw [if_pos hk, a0 595 (by decide)]
    · rw [mput_ne _ _ (by decide), mset_ne _ _ _ (by decide), mput_eq]; unfold fil; rw [if_pos hk]
    · rw [mput_eq]; unfold fil; rw [if_pos hs]
  refine nBv 0 rfl rfl rfl (by decide) rfl (fun htr o Φ hΦ => mGoOn (mOk (by decide)) rfl [] 400 ?_)
  show True ∧ mCal l g d k_X3_begin Φ 0 0 _ 5 k_X5_begin false [.ref 626, .ref 590] [] [.ref 625, .ref 590] m o 0 0 0
  refine ⟨trivial, nCv htr (hb _ _ (by omega)) (by omega) ?_⟩
  rintro m1 ⟨b1, b2, b3, b4, b5⟩
  show Φ (.inl none) (mset m1 625 2 (0 : Int32)) o ∧ 0 ≤ 0 ∧ 0 ≤ 0
  refine eR (hΦ _ ⟨fun a ha => by rw [mset_ne _ _ _ (by omega)]; exact b1 a (by omega), by rw [mset_eq, pk_us], ?_, fun k hk => ?_, fun k hk => ?_, fun s hs => ?_⟩)
  · rw [mset_ne _ _ _ (by decide)]; exact b2
  · rw [mset_ne _ _ _ (by decide)]; exact b3 k hk
  · rw [mset_ne _ _ _ (by decide)]; exact b4 k hk
  · rw [mset_ne _ _ _ (by decide)]; exact b5 s hs
theorem x_lclear (m : Mm) : mFu l g d k_X4_clear [.ref 600] m (mset m 600 2 0) := by
  refine nFu 0 rfl rfl rfl (by decide) rfl (fun htr o Φ hΦ => mGoOn (mOk (by decide)) rfl [] 400 ?_)
  show Φ (.inl none) (mset m 600 2 (0 : Int32)) o ∧ 0 ≤ 0 ∧ 0 ≤ 0
  exact eR hΦ
theorem x_bclear (m : Mm) (hd : 1 ≤ d) : mFu l g d k_X0_clear [.ref 617] m (mput (mset m 617 1 0) 618 (fil (m 618) 9 (-1))) := by
  refine nFu 0 rfl rfl rfl (by decide) rfl (fun htr o Φ hΦ => mGoOn (mOk (by decide)) rfl [] 400 ?_)
  show mCal l g d k_X0_clear Φ 0 0 _ 10 k_J7_fill_53178 false [.ref 618, .int (-1 : Int32)] [] [.ref 617] (mset m 617 1 (0 : Int32)) o 0 0 0
  refine fCv htr (j_fill _ (a := 618) (n := 9) rfl rfl (by decide) (-1)) hd ?_
  rw [mset_ne m (a := 617) (x := 618) _ _ (by decide)]
  exact eR hΦ
end XCp
