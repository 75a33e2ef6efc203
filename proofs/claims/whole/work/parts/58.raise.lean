set_option maxRecDepth 100000
/-! RAISE, in the class -/
def Cov (A : Mm) (a w : Int32) : Prop := ∃ f : Nat → Nat, ∀ p, p < 32 → hB w p → ∃ i, i < nM A ∧ hB a i ∧ f i < nS A ∧ hB (wkB A i (f i)) p
def PRa (A : Mm) (w : Int32) (a : Nat) : Prop := Cov A (nI a) w
noncomputable def qRai (A : Mm) (w : Int32) : Oc := ifp (In w (2 ^ nP A)) (0, 0, amd (PRa A w) f1s (2 ^ nM A) (2 ^ nM A)) (1, 1, 0)
theorem Cov_0 (A : Mm) (a : Int32) : Cov A a 0 := ⟨fun _ => 0, fun p _ h => absurd h (hB_0 _)⟩
theorem Cov_none {A : Mm} {a w : Int32} {p : Nat} (hp : p < 32) (h : hB w p) (ha : ∀ i, i < nM A → ¬ hB a i) : ¬ Cov A a w := by
  rintro ⟨f, hf⟩
  obtain ⟨i, h1, h2, _⟩ := hf p hp h
  exact ha i h1 h2
theorem wkB_bit {A : Mm} (hA : CtB A) (i s : Nat) {p : Nat} (hp : p < 32) : hB (wkB A i s) p ↔ p < nP A ∧ A (61 + p) 0 = nI s ∧ A (61 + p) 1 = sayN A i s (A 494 35) := by
  have := hA.2.2.2.2
  unfold wkB
  rw [hB_msk (by omega) hp]
theorem hB_les {a : Int32} {i j : Nat} (hi : i < 32) (hj : j < 32) : hB (a &&& (jshl 1 (nI i) ^^^ (-1))) j ↔ hB a j ∧ j ≠ i := by
  rw [hB_and, hB_not _ hj, hB_sh hi hj]
theorem Cov_step {A : Mm} (hA : CtB A) (a : Int32) {w : Int32} {p st : Nat} (hp : p < 32) (hw : hB w p) (hst : A (61 + p) 0 = nI st) (hs9 : st < nS A) : Cov A a w ↔ ∃ i, i < nM A ∧ hB a i ∧ hB (wkB A i st) p ∧ Cov A (a &&& (jshl 1 (nI i) ^^^ (-1))) (w &&& (wkB A i st ^^^ (-1))) := by
  have h6 := hA.2.2.1.2
  have h9 := hA.1.2
  constructor
  · rintro ⟨f, hf⟩
    obtain ⟨i, h1, h2, h3, h4⟩ := hf p hp hw
    have e : f i = st := by
      have := ((wkB_bit hA i (f i) hp).mp h4).2.1
      rw [hst, nI_eq (by omega) (by omega)] at this
      exact this.symm
    rw [e] at h4
    refine ⟨i, h1, h2, h4, f, fun r hr hb => ?_⟩
    rw [hB_and, hB_not _ hr] at hb
    obtain ⟨j, j1, j2, j3, j4⟩ := hf r hr hb.1
    refine ⟨j, j1, (hB_les (by omega) (by omega)).mpr ⟨j2, fun z => hb.2 ?_⟩, j3, j4⟩
    rw [← e, ← z]
    exact j4
  · rintro ⟨i, h1, h2, h4, f, hf⟩
    refine ⟨fun x => if x = i then st else f x, fun r hr hb => ?_⟩
    by_cases z : hB (wkB A i st) r
    · exact ⟨i, h1, h2, by dsimp only; rw [if_pos rfl]; exact hs9, by dsimp only; rw [if_pos rfl]; exact z⟩
    · obtain ⟨j, j1, j2, j3, j4⟩ := hf r hr (by rw [hB_and, hB_not _ hr]; exact ⟨hb, z⟩)
      have := (hB_les (by omega) (by omega)).mp j2
      exact ⟨j, j1, this.1, by dsimp only; rw [if_neg this.2]; exact j3, by dsimp only; rw [if_neg this.2]; exact j4⟩
theorem cnt_less {P Q : Nat → Prop} {i : Nat} (hi : P i) (h : ∀ j, Q j ↔ P j ∧ j ≠ i) : ∀ n, i < n → cnt P n = cnt Q n + 1
  | 0, q => by omega
  | n + 1, q => by
    by_cases e : i = n
    · subst e
      rw [cnt_t hi, cnt_f (fun z => ((h i).mp z).2 rfl)]
      congr 1
      exact cnt_cong (fun k hk => ⟨fun z => (h k).mpr ⟨z, by omega⟩, fun z => ((h k).mp z).1⟩)
    · have ih := cnt_less hi h n (by omega)
      by_cases z : P n
      · rw [cnt_t z, cnt_t ((h n).mpr ⟨z, fun y => e y.symm⟩), ih]
      · rw [cnt_f z, cnt_f (fun y => z ((h n).mp y).1), ih]
theorem cnt_0 {P : Nat → Prop} : ∀ n, cnt P n = 0 → ∀ j, j < n → ¬ P j
  | 0, _, j, hj => by omega
  | n + 1, h, j, hj => by
    by_cases z : P n
    · rw [cnt_t z] at h; omega
    · rw [cnt_f z] at h
      by_cases e : j = n
      · rw [e]; exact z
      · exact cnt_0 n h j (by omega)
theorem f1s_7 : ∀ n, n < 64 → f1s n < 7 := by
  intro n hn
  unfold f1s
  rw [one24_pc]
  exact (show ∀ n, n < 64 → nI (pc24 (nI n)) < 7 by decide +kernel) n hn
theorem ix9 : ∀ i, i < 6 → ∀ s, s < 9 → nI i * (9 : Int32) + nI s = nI (9 * i + s) := by decide +kernel
def Wkn (A m : Mm) (K S : Nat) : Prop := (∀ k s, k < K → s < nS A → m 697 (9 * k + s) = wkB A k s) ∧ ∀ s, s < S → m 697 (9 * K + s) = wkB A K s
section X16
variable {l : Launch} {g : mG} {A : Mm}
theorem x_canWake (hA : CtB A) (hT : Cty A) (hC : CtR A A 590) {m : Mm} (hs : csim A m) (hW : Wkn A m (nM A) 0) : ∀ (r d t : Nat), t + r = 6 → r + 3 ≤ d → ∀ a w : Int32, cnt (fun i => hB a i) (nM A) ≤ r → (∀ p, p < 32 → hB w p → p < nP A) → mFi l g d k_X6_canWake [.ref 696, .ref 590, .int a, .int w, .int (nI t)] m (pI (Cov A a w)) m := by
  have h6 := hA.2.2.1.2
  have h9 := hA.1.2
  have h8 := hA.2.2.2.2
  intro r
  induction r with
  | zero =>
    intro d t ht hd a w hc hw
    refine nFi 5 rfl rfl rfl (by decide) rfl (fun htr o Φ hΦ => mGoOn (mOk (by decide)) rfl [35,85,120] 400 ?_)
    show (¬ w = 0 → ((nI t) < (6 : Int32) → mCal l g d k_X6_canWake Φ 0 0 _ 16 k_X11_lowestBit true [.int w] [] [.ref 696, .ref 590, .int a, .int w, .int (nI t), mJ, mJ, mJ, mJ, mJ] m o 0 0 1) ∧ (¬ (nI t) < (6 : Int32) → ((0 : Int32) = 0 ∨ (0 : Int32) = 1) ∧ Φ (.inl (some (.int (0 : Int32)))) m o ∧ 0 ≤ 0 ∧ 0 ≤ 0)) ∧ (w = 0 → ((1 : Int32) = 0 ∨ (1 : Int32) = 1) ∧ Φ (.inl (some (.int (1 : Int32)))) m o ∧ 0 ≤ 0 ∧ 0 ≤ 0)
    refine ⟨fun q => ⟨fun z => absurd z ?_, fun _ => ⟨Or.inl rfl, eR ?_⟩⟩, fun q => ⟨Or.inr rfl, eR ?_⟩⟩
    · rw [show (6 : Int32) = nI 6 from rfl, nI_ltI (by omega) (by omega)]; omega
    · obtain ⟨n, hn, e⟩ := small9 (x := w) (fun i h1 h2 y => by have := hw i h2 y; omega)
      have hn0 : n ≠ 0 := fun y => q (by rw [e, y]; rfl)
      have hl := low_in hn hn0
      rw [pI_f (Cov_none (p := low n) (by omega) (by rw [e, hB_nI (by omega)]; exact hl.1) (cnt_0 _ (Nat.le_zero.mp hc)))] at hΦ
      exact hΦ
    · rw [q, pI_t (Cov_0 A a)] at hΦ
      exact hΦ
  | succ r IH =>
    intro d t ht hd a w hc hw
    refine nFi 5 rfl rfl rfl (by decide) rfl (fun htr o Φ hΦ => mGoOn (mOk (by decide)) rfl [35,85,120] 400 ?_)
    show (¬ w = 0 → ((nI t) < (6 : Int32) → mCal l g d k_X6_canWake Φ 0 0 _ 16 k_X11_lowestBit true [.int w] [] [.ref 696, .ref 590, .int a, .int w, .int (nI t), mJ, mJ, mJ, mJ, mJ] m o 0 0 1) ∧ (¬ (nI t) < (6 : Int32) → ((0 : Int32) = 0 ∨ (0 : Int32) = 1) ∧ Φ (.inl (some (.int (0 : Int32)))) m o ∧ 0 ≤ 0 ∧ 0 ≤ 0)) ∧ (w = 0 → ((1 : Int32) = 0 ∨ (1 : Int32) = 1) ∧ Φ (.inl (some (.int (1 : Int32)))) m o ∧ 0 ≤ 0 ∧ 0 ≤ 0)
    refine ⟨fun q => ⟨fun _ => ?_, fun z => absurd ?_ z⟩, fun q => ⟨Or.inr rfl, eR ?_⟩⟩
    rotate_left
    · rw [show (6 : Int32) = nI 6 from rfl, nI_ltI (by omega) (by omega)]; omega
    · rw [q, pI_t (Cov_0 A a)] at hΦ
      exact hΦ
    obtain ⟨n, hn, e⟩ := small9 (x := w) (fun i h1 h2 y => by have := hw i h2 y; omega)
    have hn0 : n ≠ 0 := fun y => q (by rw [e, y]; rfl)
    have hl := low_in hn hn0
    have hwp : hB w (low n) := by rw [e, hB_nI (by omega)]; exact hl.1
    have hx := x_lowestBit (l := l) (g := g) (d := d - 1) m (by omega) hn hn0
    rw [← e] at hx
    generalize low n = p at hl hwp hx
    have hp := hw p (by omega) hwp
    refine fCi htr hx (by omega) ?_
    show mCal l g d k_X6_canWake Φ 0 0 _ 27 k_X11_at true [.ref 598, .int (nI p)] [] [.ref 696, .ref 590, .int a, .int w, .int (nI t), .int (nI p), mJ, mJ, mJ, mJ] m o 0 0 1
    obtain ⟨st, hst, est⟩ := (hT.2.2.2.2 p hp).1
    refine fCi htr (x_at m (a := 598) (n := 8) rfl rfl (by decide) (k := p) (by omega)) (by omega) ?_
    rw [csim_at hs p (by omega), (hC.2.2.2.2.2 p hp).1, est]
    have hstep := Cov_step hA a (p := p) (st := st) (by omega) hwp est hst
    show mWB l g d k_X6_canWake Φ 0 0 35 [.ref 696, .ref 590, .int a, .int w, .int (nI t), .int (nI p), .int (nI st), .int (nI 0), mJ, mJ] [] m o 0 0
    refine mLoopQ (Q := fun i => hB a i ∧ hB (wkB A i st) p ∧ Cov A (a &&& (jshl 1 (nI i) ^^^ (-1))) (w &&& (wkB A i st ^^^ (-1)))) (P := fun i => ∀ x y, (x = mJ ∨ ∃ z, x = .int z) → (y = mJ ∨ ∃ z, y = .int z) → mWB l g d k_X6_canWake Φ 0 0 35 [.ref 696, .ref 590, .int a, .int w, .int (nI t), .int (nI p), .int (nI st), .int (nI i), x, y] [] m o 0 0) (N := nM A) ?_ ?_ mJ mJ (Or.inl rfl) (Or.inl rfl)
    · intro hb x y hx hy
      refine mWB_wk (show mWB l g d k_X6_canWake Φ 0 0 35 [.ref 696, .ref 590, .int a, .int w, .int (nI t), .int (nI p), .int (nI st), .int (nI (nM A)), mJ, mJ] [] m o 0 0 from ?_) ⟨Or.inr rfl, Or.inr rfl, Or.inr rfl, Or.inr rfl, Or.inr rfl, Or.inr rfl, Or.inr rfl, Or.inr rfl, Or.inl rfl, Or.inl rfl, trivial⟩
      refine mGoOn (mOk (by decide)) rfl [35,85,120] 400 ?_
      show ((m 590 2) ≤ (nI (nM A)) → ((0 : Int32) = 0 ∨ (0 : Int32) = 1) ∧ Φ (.inl (some (.int (0 : Int32)))) m o ∧ 0 ≤ 0 ∧ 0 ≤ 0) ∧ (¬ (m 590 2) ≤ (nI (nM A)) → mCal l g d k_X6_canWake Φ 0 0 _ 56 k_X11_at true [.ref 697, .int (((nI (nM A)) * (9 : Int32)) + (nI st))] [] [.ref 696, .ref 590, .int a, .int w, .int (nI t), .int (nI p), .int (nI st), .int (nI (nM A)), mJ, mJ] m o 0 0 1)
      rw [csim_at hs 2 (by omega), hC.1.2.2.1]
      refine ⟨fun _ => ⟨Or.inl rfl, eR ?_⟩, fun z => absurd (Int32.le_refl _) z⟩
      rw [pI_f (fun z => by obtain ⟨i, hi, h2⟩ := hstep.mp z; exact hb i hi h2)] at hΦ
      exact hΦ
    · intro i hi hb ih x y hx hy
      refine mWB_wk (show mWB l g d k_X6_canWake Φ 0 0 35 [.ref 696, .ref 590, .int a, .int w, .int (nI t), .int (nI p), .int (nI st), .int (nI i), mJ, mJ] [] m o 0 0 from ?_) ⟨Or.inr rfl, Or.inr rfl, Or.inr rfl, Or.inr rfl, Or.inr rfl, Or.inr rfl, Or.inr rfl, Or.inr rfl, Or.inl rfl, Or.inl rfl, trivial⟩
      refine mGoOn (mOk (by decide)) rfl [35,85,120] 400 ?_
      show ((m 590 2) ≤ (nI i) → ((0 : Int32) = 0 ∨ (0 : Int32) = 1) ∧ Φ (.inl (some (.int (0 : Int32)))) m o ∧ 0 ≤ 0 ∧ 0 ≤ 0) ∧ (¬ (m 590 2) ≤ (nI i) → mCal l g d k_X6_canWake Φ 0 0 _ 56 k_X11_at true [.ref 697, .int (((nI i) * (9 : Int32)) + (nI st))] [] [.ref 696, .ref 590, .int a, .int w, .int (nI t), .int (nI p), .int (nI st), .int (nI i), mJ, mJ] m o 0 0 1)
      rw [csim_at hs 2 (by omega), hC.1.2.2.1, ix9 i (by omega) st (by omega)]
      refine ⟨fun z => absurd z (by rw [nI_leI (by omega) (by omega)]; omega), fun _ => fCi htr (x_at m (a := 697) (n := 54) rfl rfl (by decide) (k := 9 * i + st) (by omega)) (by omega) ?_⟩
      rw [hW.1 i st hi hst]
      generalize hwk : wkB A i st = wk
      show mCal l g d k_X6_canWake Φ 0 0 _ 64 k_X11_hasBit true [.int a, .int (nI i)] [] [.ref 696, .ref 590, .int a, .int w, .int (nI t), .int (nI p), .int (nI st), .int (nI i), .int wk, mJ] m o 0 0 1
      rw [hwk] at ih
      have k120 : ∀ v, ¬ (hB a i ∧ hB wk p ∧ Cov A (a &&& (jshl 1 (nI i) ^^^ (-1))) (w &&& (wk ^^^ (-1)))) → mWB l g d k_X6_canWake Φ 0 0 120 [.ref 696, .ref 590, .int a, .int w, .int (nI t), .int (nI p), .int (nI st), .int (nI i), .int wk, .int v] [] m o 0 0 := by
        intro v hv
        refine mGoOn (mOk (by decide)) rfl [35] 400 ?_
        show mWB l g d k_X6_canWake Φ 0 0 35 [.ref 696, .ref 590, .int a, .int w, .int (nI t), .int (nI p), .int (nI st), .int ((nI i) + (1 : Int32)), .int wk, .int v] [] m o 0 0
        rw [nI_1]
        exact ih hv _ _ (Or.inr ⟨_, rfl⟩) (Or.inr ⟨_, rfl⟩)
      have k85 : ∀ v : Int32, (v = 0 → ¬ (hB a i ∧ hB wk p)) → (v ≠ 0 → hB a i ∧ hB wk p) → mWB l g d k_X6_canWake Φ 0 0 85 [.ref 696, .ref 590, .int a, .int w, .int (nI t), .int (nI p), .int (nI st), .int (nI i), .int wk, mJ] [.int v] m o 0 0 := by
        intro v hv0 hv1
        refine mGoOn (mOk (by decide)) rfl [35,120] 400 ?_
        show (v = 0 → mWB l g d k_X6_canWake Φ 0 0 120 [.ref 696, .ref 590, .int a, .int w, .int (nI t), .int (nI p), .int (nI st), .int (nI i), .int wk, .int v] [] m o 0 0) ∧ (¬ v = 0 → True ∧ mCal l g d k_X6_canWake Φ 0 0 _ 112 k_X6_canWake false [.ref 696, .ref 590, .int (a &&& ((jshl (1 : Int32) (nI i)) ^^^ (-1 : Int32))), .int (w &&& (wk ^^^ (-1 : Int32))), .int ((nI t) + (1 : Int32))] [] [.ref 696, .ref 590, .int a, .int w, .int (nI t), .int (nI p), .int (nI st), .int (nI i), .int wk, .int v] m o 0 0 1)
        refine ⟨fun z => k120 v (fun y => hv0 z ⟨y.1, y.2.1⟩), fun z => ?_⟩
        obtain ⟨g1, g2⟩ := hv1 z
        rw [nI_1]
        have hcl := cnt_less (P := fun j => hB a j) (Q := fun j => hB a j ∧ j ≠ i) (i := i) g1 (fun j => Iff.rfl) (nM A) hi
        have hcc : cnt (fun j => hB (a &&& (jshl 1 (nI i) ^^^ (-1))) j) (nM A) = cnt (fun j => hB a j ∧ j ≠ i) (nM A) := cnt_cong (fun j hj => hB_les (by omega) (by omega))
        refine ⟨trivial, fCi htr (IH (d - 1) (t + 1) (by omega) (by omega) (a &&& (jshl 1 (nI i) ^^^ (-1))) (w &&& (wk ^^^ (-1))) (by omega) (fun p hp hb => hw p hp ((hB_and _ _ _).mp hb).1)) (by omega) ?_⟩
        show ((pI (Cov A (a &&& (jshl 1 (nI i) ^^^ (-1))) (w &&& (wk ^^^ (-1))))) = 0 → mWB l g d k_X6_canWake Φ 0 0 120 [.ref 696, .ref 590, .int a, .int w, .int (nI t), .int (nI p), .int (nI st), .int (nI i), .int wk, .int v] [] m o 0 0) ∧ (¬ (pI (Cov A (a &&& (jshl 1 (nI i) ^^^ (-1))) (w &&& (wk ^^^ (-1))))) = 0 → ((1 : Int32) = 0 ∨ (1 : Int32) = 1) ∧ Φ (.inl (some (.int (1 : Int32)))) m o ∧ 0 ≤ 0 ∧ 0 ≤ 0)
        refine ⟨fun y => k120 v (fun u => pI_0.mp y u.2.2), fun y => ⟨Or.inr rfl, eR ?_⟩⟩
        rw [pI_t (hstep.mpr ⟨i, hi, g1, by rw [hwk]; exact g2, by rw [hwk]; exact pI_1.mp y⟩)] at hΦ
        exact hΦ
      refine fCi htr (x_hasBit m a (by omega)) (by omega) ?_
      show ((pI (hB a i)) = 0 → mWB l g d k_X6_canWake Φ 0 0 85 [.ref 696, .ref 590, .int a, .int w, .int (nI t), .int (nI p), .int (nI st), .int (nI i), .int wk, mJ] [.int (0 : Int32)] m o 0 0) ∧ (¬ (pI (hB a i)) = 0 → mCal l g d k_X6_canWake Φ 0 0 _ 74 k_X11_hasBit true [.int wk, .int (nI p)] [] [.ref 696, .ref 590, .int a, .int w, .int (nI t), .int (nI p), .int (nI st), .int (nI i), .int wk, mJ] m o 0 0 1)
      refine ⟨fun z => k85 0 (fun _ y => pI_0.mp z y.1) (fun y => absurd rfl y), fun z => fCi htr (x_hasBit m wk (by omega)) (by omega) ?_⟩
      show ((pI (hB wk p)) = 0 → mWB l g d k_X6_canWake Φ 0 0 85 [.ref 696, .ref 590, .int a, .int w, .int (nI t), .int (nI p), .int (nI st), .int (nI i), .int wk, mJ] [.int (0 : Int32)] m o 0 0) ∧ (¬ (pI (hB wk p)) = 0 → mWB l g d k_X6_canWake Φ 0 0 85 [.ref 696, .ref 590, .int a, .int w, .int (nI t), .int (nI p), .int (nI st), .int (nI i), .int wk, mJ] [.int (1 : Int32)] m o 0 0)
      exact ⟨fun z2 => k85 0 (fun _ y => pI_0.mp z2 y.2) (fun y => absurd rfl y), fun z2 => k85 1 (fun y => absurd y (by decide)) (fun _ => ⟨pI_1.mp z, pI_1.mp z2⟩)⟩
theorem x_prepare (hQ : Qr A) {d : Nat} {m : Mm} (hm : cl m = A) (hd : 4 ≤ d) : mHv l g d k_X6_prepare [.ref 696, .ref 589, .ref 626] m (fun m2 => cl m2 = A ∧ Wkn A m2 (nM A) 0) := by
  have hA := hQ.1.1
  have hC := hQ.2.2.2.2.1
  have hSv : Sv A := ⟨hQ.1.1, hQ.2.1⟩
  have h6 := hA.2.2.1.2
  have h9 := hA.1.2
  have h8 := hA.2.2.2.2
  refine nBv 4 rfl rfl rfl (by decide) rfl (fun htr o Φ hΦ => mGoOn (mOk (by decide)) rfl [8,20] 400 ?_)
  show mWB l g d k_X6_prepare Φ 0 0 8 [.ref 696, .ref 589, .ref 626, .ref 590, .int (0 : Int32), mJ, mJ] [] m o 0 0
  show mWB l g d k_X6_prepare Φ 0 0 8 [.ref 696, .ref 589, .ref 626, .ref 590, .int (nI 0), mJ, mJ] [] m o 0 0
  refine mLoopZ (P := fun k => ∀ m, cl m = A → Wkn A m k 0 → ∀ x y, (x = mJ ∨ ∃ z, x = .int z) → (y = mJ ∨ ∃ z, y = .int z) → mWB l g d k_X6_prepare Φ 0 0 8 [.ref 696, .ref 589, .ref 626, .ref 590, .int (nI k), x, y] [] m o 0 0) (N := nM A) ?_ ?_ m hm ⟨fun k s hk => absurd hk (by omega), fun s hs => absurd hs (by omega)⟩ mJ mJ (Or.inl rfl) (Or.inl rfl)
  · intro m hm hw x y _ _
    refine mWB_wk (show mWB l g d k_X6_prepare Φ 0 0 8 [.ref 696, .ref 589, .ref 626, .ref 590, .int (nI (nM A)), mJ, mJ] [] m o 0 0 from ?_) ⟨Or.inr rfl, Or.inr rfl, Or.inr rfl, Or.inr rfl, Or.inr rfl, Or.inl rfl, Or.inl rfl, trivial⟩
    refine mGoOn (mOk (by decide)) rfl [8,20] 400 ?_
    show ((m 590 2) ≤ (nI (nM A)) → Φ (.inl none) m o ∧ 0 ≤ 0 ∧ 0 ≤ 0) ∧ (¬ (m 590 2) ≤ (nI (nM A)) → mWB l g d k_X6_prepare Φ 0 0 20 [.ref 696, .ref 589, .ref 626, .ref 590, .int (nI (nM A)), .int (0 : Int32), mJ] [] m o 0 0)
    rw [ar hm 590 2, hC.1.2.2.1]
    exact ⟨fun _ => eR (hΦ _ ⟨hm, hw⟩), fun z => absurd (Int32.le_refl _) z⟩
  · intro k hk ih m hm hw x y _ _
    refine mWB_wk (show mWB l g d k_X6_prepare Φ 0 0 8 [.ref 696, .ref 589, .ref 626, .ref 590, .int (nI k), mJ, mJ] [] m o 0 0 from ?_) ⟨Or.inr rfl, Or.inr rfl, Or.inr rfl, Or.inr rfl, Or.inr rfl, Or.inl rfl, Or.inl rfl, trivial⟩
    refine mGoOn (mOk (by decide)) rfl [8,20] 400 ?_
    show ((m 590 2) ≤ (nI k) → Φ (.inl none) m o ∧ 0 ≤ 0 ∧ 0 ≤ 0) ∧ (¬ (m 590 2) ≤ (nI k) → mWB l g d k_X6_prepare Φ 0 0 20 [.ref 696, .ref 589, .ref 626, .ref 590, .int (nI k), .int (0 : Int32), mJ] [] m o 0 0)
    rw [ar hm 590 2, hC.1.2.2.1]
    refine ⟨fun z => absurd z (by rw [nI_leI (by omega) (by omega)]; omega), fun _ => ?_⟩
    show mWB l g d k_X6_prepare Φ 0 0 20 [.ref 696, .ref 589, .ref 626, .ref 590, .int (nI k), .int (nI 0), mJ] [] m o 0 0
    refine mLoopZ (P := fun s => ∀ m, cl m = A → Wkn A m k s → ∀ y, (y = mJ ∨ ∃ z, y = .int z) → mWB l g d k_X6_prepare Φ 0 0 20 [.ref 696, .ref 589, .ref 626, .ref 590, .int (nI k), .int (nI s), y] [] m o 0 0) (N := nS A) ?_ ?_ m hm hw mJ (Or.inl rfl)
    · intro m hm hw y _
      refine mWB_wk (show mWB l g d k_X6_prepare Φ 0 0 20 [.ref 696, .ref 589, .ref 626, .ref 590, .int (nI k), .int (nI (nS A)), mJ] [] m o 0 0 from ?_) ⟨Or.inr rfl, Or.inr rfl, Or.inr rfl, Or.inr rfl, Or.inr rfl, Or.inr rfl, Or.inl rfl, trivial⟩
      refine mGoOn (mOk (by decide)) rfl [8,20] 400 ?_
      show ((m 590 0) ≤ (nI (nS A)) → mWB l g d k_X6_prepare Φ 0 0 8 [.ref 696, .ref 589, .ref 626, .ref 590, .int ((nI k) + (1 : Int32)), .int (nI (nS A)), mJ] [] m o 0 0) ∧ (¬ (m 590 0) ≤ (nI (nS A)) → True ∧ mCal l g d k_X6_prepare Φ 0 0 _ 39 k_X8_cry false [.ref 589, .ref 626, .int (nI k), .int (nI (nS A)), .int (m 626 0)] [] [.ref 696, .ref 589, .ref 626, .ref 590, .int (nI k), .int (nI (nS A)), mJ] m o 0 0 1)
      rw [ar hm 590 0, hC.1.1, nI_1]
      refine ⟨fun _ => ih m hm ⟨fun k2 s2 h1 h2 => ?_, fun s hs => absurd hs (by omega)⟩ _ _ (Or.inr ⟨_, rfl⟩) (Or.inl rfl), fun z => absurd (Int32.le_refl _) z⟩
      by_cases e : k2 = k
      · rw [e]; exact hw.2 s2 h2
      · exact hw.1 k2 s2 (by omega) h2
    · intro s hs ih2 m hm hw y _
      refine mWB_wk (show mWB l g d k_X6_prepare Φ 0 0 20 [.ref 696, .ref 589, .ref 626, .ref 590, .int (nI k), .int (nI s), mJ] [] m o 0 0 from ?_) ⟨Or.inr rfl, Or.inr rfl, Or.inr rfl, Or.inr rfl, Or.inr rfl, Or.inr rfl, Or.inl rfl, trivial⟩
      refine mGoOn (mOk (by decide)) rfl [8,20] 400 ?_
      show ((m 590 0) ≤ (nI s) → mWB l g d k_X6_prepare Φ 0 0 8 [.ref 696, .ref 589, .ref 626, .ref 590, .int ((nI k) + (1 : Int32)), .int (nI s), mJ] [] m o 0 0) ∧ (¬ (m 590 0) ≤ (nI s) → True ∧ mCal l g d k_X6_prepare Φ 0 0 _ 39 k_X8_cry false [.ref 589, .ref 626, .int (nI k), .int (nI s), .int (m 626 0)] [] [.ref 696, .ref 589, .ref 626, .ref 590, .int (nI k), .int (nI s), mJ] m o 0 0 1)
      have hN := nrNow hQ hm
      rw [ar hm 590 0, hC.1.1, hN.1]
      refine ⟨fun z => absurd z (by rw [nI_leI (by omega) (by omega)]; omega), fun _ => ⟨trivial, nCi htr (x_cry hSv hC hQ.2.2.2.2.2.1 (csim_of hm) (by omega) (N := 626) rfl (by omega) hN hk (by omega) _) (by omega) ?_⟩⟩
      rintro x m2 ⟨hx, hf⟩
      have hm2 : cl m2 = A := eqL_cl (fun a ha i => by
        simp [lC] at ha
        rcases ha with rfl | rfl <;> rfl) hf hm
      show True ∧ mCal l g d k_X6_prepare Φ 0 0 _ 61 k_X1_sleepersAt false [.ref 590, .int (nI s), .int x] [.int (((nI k) * (9 : Int32)) + (nI s)), .ref 697] [.ref 696, .ref 589, .ref 626, .ref 590, .int (nI k), .int (nI s), .int x] m2 o 0 0 1
      rw [ix9 k (by omega) s (by omega)]
      refine ⟨trivial, fCi htr (x_sleepersAt hA hC (csim_of hm2) (by omega) _ _) (by omega) ?_⟩
      show mCal l g d k_X6_prepare Φ 0 0 _ 64 k_X11_put true [.ref 697, .int (nI (9 * k + s)), .int (slpB A (nI s) x)] [] [.ref 696, .ref 589, .ref 626, .ref 590, .int (nI k), .int (nI s), .int x] m2 o 0 0 0
      refine fCv htr (x_put m2 (a := 697) (n := 54) rfl rfl (by decide) (k := 9 * k + s) (by omega) _) (by omega) ?_
      show mWB l g d k_X6_prepare Φ 0 0 20 [.ref 696, .ref 589, .ref 626, .ref 590, .int (nI k), .int ((nI s) + (1 : Int32)), .int x] [] (mset m2 697 (9 * k + s) (slpB A (nI s) x)) o 0 0
      rw [nI_1]
      refine ih2 _ (cl_mset hm2 _ rfl) ⟨fun k2 s2 h1 h2 => ?_, fun s2 h2 => ?_⟩ _ (Or.inr ⟨_, rfl⟩)
      · rw [mset_eq, pk_un (by omega), hf 697 (by decide)]
        exact hw.1 k2 s2 h1 h2
      · rw [mset_eq, upd_at]
        by_cases e : s2 = s
        · rw [if_pos (by omega), e, hx]
          rfl
        · rw [if_neg (by omega), hf 697 (by decide)]
          exact hw.2 s2 (by omega)
theorem x_fewestMen (hQ : Qr A) {d : Nat} {m : Mm} (hm : cl m = A) (hd : 11 ≤ d) {w : Int32} (hw : In w (2 ^ nP A)) : mHi l g d k_X6_fewestMen [.ref 696, .ref 589, .ref 626, .int w] m (fun x m2 => x = amd (PRa A w) f1s (2 ^ nM A) (2 ^ nM A) ∧ cl m2 = A) := by
  have hA := hQ.1.1
  have hC := hQ.2.2.2.2.1
  have h6 := hA.2.2.1.2
  have h8 := hA.2.2.2.2
  have hpw : 2 ^ nM A ≤ 2 ^ 6 := Nat.pow_le_pow_right (by decide) h6
  refine nBi 3 rfl rfl rfl (by decide) rfl (fun htr o Φ hΦ => mGoOn (mOk (by decide)) rfl [16,66] 400 ?_)
  show True ∧ mCal l g d k_X6_fewestMen Φ 0 0 _ 3 k_X6_prepare false [.ref 696, .ref 589, .ref 626] [] [.ref 696, .ref 589, .ref 626, .int w, mJ, mJ, mJ] m o 0 0 0
  refine ⟨trivial, nCv htr (x_prepare hQ hm (by omega)) (by omega) ?_⟩
  rintro m2 ⟨hm2, hW⟩
  show mWB l g d k_X6_fewestMen Φ 0 0 16 [.ref 696, .ref 589, .ref 626, .int w, .int (7 : Int32), .int (-1 : Int32), .int (0 : Int32)] [] m2 o 0 0
  rw [amd_amn _ _ (by omega)] at hΦ
  have hcf := cfo_amn (P := PRa A w) (f := f1s) (K := 7) (N := 2 ^ nM A) (by omega) (fun n hn _ => f1s_7 n (by omega))
  rw [← (hcf (2 ^ nM A) (Nat.le_refl _)).1] at hΦ
  have hwb : ∀ p, p < 32 → hB w p → p < nP A := by
    obtain ⟨n, hn, rfl⟩ := hw
    intro p hp hb
    rw [hB_nI hp] at hb
    have := Nat.testBit_lt_two_pow (x := n) (i := p)
    by_cases z : p < nP A
    · exact z
    · rw [this (Nat.lt_of_lt_of_le hn (Nat.pow_le_pow_right (by decide) (by omega)))] at hb
      cases hb
  show mWB l g d k_X6_fewestMen Φ 0 0 16 [.ref 696, .ref 589, .ref 626, .int w, .int ((cfo (PRa A w) f1s 7 0).1), .int ((cfo (PRa A w) f1s 7 0).2), .int (nI 0)] [] m2 o 0 0
  refine mLoopZ (P := fun n => mWB l g d k_X6_fewestMen Φ 0 0 16 [.ref 696, .ref 589, .ref 626, .int w, .int ((cfo (PRa A w) f1s 7 n).1), .int ((cfo (PRa A w) f1s 7 n).2), .int (nI n)] [] m2 o 0 0) (N := 2 ^ nM A) ?_ ?_
  · refine mGoOn (mOk (by decide)) rfl [16,66] 400 ?_
    show ((jshl (1 : Int32) (m2 590 2)) ≤ (nI (2 ^ nM A)) → Φ (.inl (some (.int ((cfo (PRa A w) f1s 7 (2 ^ nM A)).2)))) m2 o ∧ 0 ≤ 0 ∧ 0 ≤ 0) ∧ (¬ (jshl (1 : Int32) (m2 590 2)) ≤ (nI (2 ^ nM A)) → mCal l g d k_X6_fewestMen Φ 0 0 _ 32 k_J6_bitCount_0f7a4 false [.int (nI (2 ^ nM A))] [] [.ref 696, .ref 589, .ref 626, .int w, .int ((cfo (PRa A w) f1s 7 (2 ^ nM A)).1), .int ((cfo (PRa A w) f1s 7 (2 ^ nM A)).2), .int (nI (2 ^ nM A))] m2 o 0 0 1)
    rw [ar hm2 590 2, hC.1.2.2.1, sh_pow _ (by omega)]
    exact ⟨fun _ => eR (hΦ _ _ ⟨rfl, hm2⟩), fun z => absurd (Int32.le_refl _) z⟩
  · intro n hn ih
    refine mGoOn (mOk (by decide)) rfl [16,66] 400 ?_
    show ((jshl (1 : Int32) (m2 590 2)) ≤ (nI n) → Φ (.inl (some (.int ((cfo (PRa A w) f1s 7 n).2)))) m2 o ∧ 0 ≤ 0 ∧ 0 ≤ 0) ∧ (¬ (jshl (1 : Int32) (m2 590 2)) ≤ (nI n) → mCal l g d k_X6_fewestMen Φ 0 0 _ 32 k_J6_bitCount_0f7a4 false [.int (nI n)] [] [.ref 696, .ref 589, .ref 626, .int w, .int ((cfo (PRa A w) f1s 7 n).1), .int ((cfo (PRa A w) f1s 7 n).2), .int (nI n)] m2 o 0 0 1)
    rw [ar hm2 590 2, hC.1.2.2.1, sh_pow _ (by omega)]
    refine ⟨fun z => absurd z (by rw [nI_leI (by omega) (by omega)]; omega), fun _ => fCi htr (j_bitCount m2 (n := n) (by omega)) (by omega) ?_⟩
    show (((cfo (PRa A w) f1s 7 n).1) ≤ (f1s n) → mWB l g d k_X6_fewestMen Φ 0 0 66 [.ref 696, .ref 589, .ref 626, .int w, .int ((cfo (PRa A w) f1s 7 n).1), .int ((cfo (PRa A w) f1s 7 n).2), .int (nI n)] [] m2 o 0 0) ∧ (¬ ((cfo (PRa A w) f1s 7 n).1) ≤ (f1s n) → True ∧ mCal l g d k_X6_fewestMen Φ 0 0 _ 49 k_X6_canWake false [.ref 696, .ref 590, .int (nI n), .int w, .int (0 : Int32)] [] [.ref 696, .ref 589, .ref 626, .int w, .int ((cfo (PRa A w) f1s 7 n).1), .int ((cfo (PRa A w) f1s 7 n).2), .int (nI n)] m2 o 0 0 1)
    have k66 : ∀ x, x = cfo (PRa A w) f1s 7 (n + 1) → mWB l g d k_X6_fewestMen Φ 0 0 66 [.ref 696, .ref 589, .ref 626, .int w, .int x.1, .int x.2, .int (nI n)] [] m2 o 0 0 := by
      rintro x rfl
      refine mGoOn (mOk (by decide)) rfl [16] 400 ?_
      show mWB l g d k_X6_fewestMen Φ 0 0 16 [.ref 696, .ref 589, .ref 626, .int w, .int ((cfo (PRa A w) f1s 7 (n + 1)).1), .int ((cfo (PRa A w) f1s 7 (n + 1)).2), .int ((nI n) + (1 : Int32))] [] m2 o 0 0
      rw [nI_1]
      exact ih
    refine ⟨fun z => k66 (cfo (PRa A w) f1s 7 n) (cfo_f (fun y => (fa_of_lt y.1).2.1 z)).symm, fun z => ⟨trivial, fCi htr (x_canWake hA hQ.1 hC (csim_of hm2) hW 6 (d - 1) 0 (by omega) (by omega) (nI n) w (Nat.le_trans (cnt_le _ _) (by omega)) hwb) (by omega) ?_⟩⟩
    show ((pI (Cov A (nI n) w)) = 0 → mWB l g d k_X6_fewestMen Φ 0 0 66 [.ref 696, .ref 589, .ref 626, .int w, .int ((cfo (PRa A w) f1s 7 n).1), .int ((cfo (PRa A w) f1s 7 n).2), .int (nI n)] [] m2 o 0 0) ∧ (¬ (pI (Cov A (nI n) w)) = 0 → mCal l g d k_X6_fewestMen Φ 0 0 _ 57 k_J6_bitCount_0f7a4 false [.int (nI n)] [] [.ref 696, .ref 589, .ref 626, .int w, .int ((cfo (PRa A w) f1s 7 n).1), .int ((cfo (PRa A w) f1s 7 n).2), .int (nI n)] m2 o 0 0 1)
    refine ⟨fun y => k66 (cfo (PRa A w) f1s 7 n) (cfo_f (fun u => pI_0.mp y u.2)).symm, fun y => fCi htr (j_bitCount m2 (n := n) (by omega)) (by omega) ?_⟩
    show mWB l g d k_X6_fewestMen Φ 0 0 66 [.ref 696, .ref 589, .ref 626, .int w, .int (f1s n), .int (nI n), .int (nI n)] [] m2 o 0 0
    exact k66 (f1s n, nI n) (cfo_t (fa_of_nle z) (pI_1.mp y)).symm
theorem x_raise (hQ : Qr A) {d : Nat} {m : Mm} (hm : cl m = A) (hd : 12 ≤ d) (w : Int32) : xS l g d k_X11_raise [.ref 586, .int w] m A (qRai A w) := by
  have hC := hQ.2.2.2.2.1
  have h8 := hQ.1.1.2.2.2.2
  refine nBx 0 rfl rfl rfl (by decide) rfl (fun htr o Φ hΦ => mGoOn (mOk (by decide)) rfl [] 400 ?_)
  show mCal l g d k_X11_raise Φ 4 24 _ 12 k_X11_isOf false [.int w, .int (m 590 3)] [.ref 586] [.ref 586, .int w] m o 0 0 1
  unfold qRai at hΦ
  rw [ar hm 590 3, hC.1.2.2.2]
  refine gCi htr (x_isOf m w (n := nP A) (by omega)) (by omega) ?_
  show True ∧ mCal l g d k_X11_raise Φ 4 24 _ 15 k_X11_needArgument false [.ref 586, .int (pI (In w (2 ^ nP A)))] [] [.ref 586, .int w] m o 0 0 0
  refine ⟨trivial, cNeedA htr rfl (by omega) (by decide) (by decide) (fun h1 => ?_) (fun h1 => by
    replace h1 := pI_0.mp h1
    rw [ifp_f (h1)] at hΦ
    exact hΦ _ _ (xk_a hm (by decide)))⟩
  replace h1 := pI_1.mp h1
  rw [ifp_t (h1)] at hΦ
  show True ∧ mCal l g d k_X11_raise Φ 4 24 _ 34 k_X6_fewestMen false [.ref 696, .ref 589, .ref 626, .int w] [] [.ref 586, .int w] m o 1 6 1
  refine ⟨trivial, hCi htr (x_fewestMen hQ hm (by omega) h1) (by omega) ?_⟩
  rintro x m2 ⟨rfl, hm2⟩
  exact e4 (hΦ _ _ (xk_v hm2 rfl))
end X16
