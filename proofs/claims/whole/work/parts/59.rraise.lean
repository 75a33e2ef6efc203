set_option maxRecDepth 100000
/-! RAISE, in the reference -/
abbrev Tb : Type := Nat → Nat → Prop
def tb0 : Tb := fun a b => a = 0 ∧ b = 0
def tbS (k u a b : Nat) (T : Tb) : Tb := fun x y => T x y ∨ (x = a + 2 ^ k ∧ y = b ||| u ∧ T a b)
def tbB (k u a : Nat) (T : Tb) (n : Nat) : Tb := fo (fun b => tbS k u a b) n T
def tbA (k u : Nat) (T : Tb) (n : Nat) : Tb := fo (fun a T => tbB k u a T 256) n T
noncomputable def uu (A : Mm) (w k s : Nat) : Nat := (wkB A k s &&& nI w).toNatClampNeg
def tbJ (A : Mm) (w k : Nat) (T : Tb) (n : Nat) : Tb := fo (fun s T => tbA k (uu A w k s) T (2 ^ k)) n T
def tbK (A : Mm) (w n : Nat) : Tb := fo (fun k T => tbJ A w k T (nS A)) n tb0
theorem tbB_iff {k u a : Nat} (T : Tb) : ∀ n x y, tbB k u a T n x y ↔ T x y ∨ (x = a + 2 ^ k ∧ ∃ b, b < n ∧ y = b ||| u ∧ T a b)
  | 0, x, y => ⟨Or.inl, fun h => h.elim id (fun z => by obtain ⟨_, b, hb, _⟩ := z; omega)⟩
  | n + 1, x, y => by
    have ih := tbB_iff (k := k) (u := u) (a := a) T n
    have h2 : 0 < 2 ^ k := Nat.two_pow_pos k
    have e : tbB k u a T (n + 1) x y ↔ tbB k u a T n x y ∨ (x = a + 2 ^ k ∧ y = n ||| u ∧ tbB k u a T n a n) := Iff.rfl
    rw [e, ih x y, ih a n]
    constructor
    · rintro ((h | ⟨h1, b, hb, h3⟩) | ⟨h1, h3, h4 | h4⟩)
      · exact Or.inl h
      · exact Or.inr ⟨h1, b, by omega, h3⟩
      · exact Or.inr ⟨h1, n, by omega, h3, h4⟩
      · have := h4.1; omega
    · rintro (h | ⟨h1, b, hb, h3, h4⟩)
      · exact Or.inl (Or.inl h)
      · by_cases z : b = n
        · subst z; exact Or.inr ⟨h1, h3, Or.inl h4⟩
        · exact Or.inl (Or.inr ⟨h1, b, by omega, h3, h4⟩)
theorem tbA_iff {k u : Nat} (T : Tb) : ∀ n, n ≤ 2 ^ k → ∀ x y, tbA k u T n x y ↔ T x y ∨ ∃ a b, a < n ∧ b < 256 ∧ x = a + 2 ^ k ∧ y = b ||| u ∧ T a b
  | 0, _, x, y => ⟨Or.inl, fun h => h.elim id (fun z => by obtain ⟨a, b, hb, _⟩ := z; omega)⟩
  | n + 1, hn, x, y => by
    have ih := tbA_iff (k := k) (u := u) T n (by omega)
    have e : tbA k u T (n + 1) x y ↔ tbB k u n (tbA k u T n) 256 x y := Iff.rfl
    rw [e, tbB_iff, ih x y]
    constructor
    · rintro ((h | ⟨a, b, ha, h3⟩) | ⟨h1, b, hb, h3, h4⟩)
      · exact Or.inl h
      · exact Or.inr ⟨a, b, by omega, h3⟩
      · refine Or.inr ⟨n, b, by omega, hb, h1, h3, ?_⟩
        rcases (ih n b).mp h4 with h5 | ⟨a, b', h6, _, h7, _⟩
        · exact h5
        · omega
    · rintro (h | ⟨a, b, ha, hb, h3, h4, h5⟩)
      · exact Or.inl (Or.inl h)
      · by_cases z : a = n
        · subst z; exact Or.inr ⟨h3, b, hb, h4, (ih a b).mpr (Or.inl h5)⟩
        · exact Or.inl (Or.inr ⟨a, b, by omega, hb, h3, h4, h5⟩)
theorem tbJ_iff {A : Mm} {w k : Nat} (T : Tb) : ∀ n x y, tbJ A w k T n x y ↔ T x y ∨ ∃ s a b, s < n ∧ a < 2 ^ k ∧ b < 256 ∧ x = a + 2 ^ k ∧ y = b ||| uu A w k s ∧ T a b
  | 0, x, y => ⟨Or.inl, fun h => h.elim id (fun z => by obtain ⟨s, a, b, hb, _⟩ := z; omega)⟩
  | n + 1, x, y => by
    have ih := tbJ_iff (A := A) (w := w) (k := k) T n
    have e : tbJ A w k T (n + 1) x y ↔ tbA k (uu A w k n) (tbJ A w k T n) (2 ^ k) x y := Iff.rfl
    rw [e, tbA_iff _ _ (Nat.le_refl _), ih x y]
    constructor
    · rintro ((h | ⟨s, a, b, hs, h3⟩) | ⟨a, b, ha, hb, h1, h3, h4⟩)
      · exact Or.inl h
      · exact Or.inr ⟨s, a, b, by omega, h3⟩
      · refine Or.inr ⟨n, a, b, by omega, ha, hb, h1, h3, ?_⟩
        rcases (ih a b).mp h4 with h5 | ⟨s, a', b', _, _, _, h7, _⟩
        · exact h5
        · omega
    · rintro (h | ⟨s, a, b, hs, ha, hb, h3, h4, h5⟩)
      · exact Or.inl (Or.inl h)
      · by_cases z : s = n
        · subst z; exact Or.inr ⟨a, b, ha, hb, h3, h4, (ih a b).mpr (Or.inl h5)⟩
        · exact Or.inl (Or.inr ⟨s, a, b, by omega, ha, hb, h3, h4, h5⟩)
theorem uu_ok {A : Mm} (hA : CtB A) (w k s : Nat) : wkB A k s &&& nI w = nI (uu A w k s) ∧ uu A w k s < 256 ∧ ∀ p, (uu A w k s).testBit p = true ↔ p < 32 ∧ hB (wkB A k s) p ∧ w.testBit p = true := by
  have h8 := hA.2.2.2.2
  have hb : ∀ p, p < 32 → (hB (wkB A k s &&& nI w) p ↔ hB (wkB A k s) p ∧ w.testBit p = true) := fun p hp => by rw [hB_and, hB_nI hp]
  obtain ⟨n, hn, e⟩ := small9 (x := wkB A k s &&& nI w) (fun i h1 h2 q => by
    have := ((wkB_bit hA k s h2).mp ((hb i h2).mp q).1).1
    omega)
  have eu : uu A w k s = n := by unfold uu; rw [e, nI_cl (by omega)]
  rw [eu]
  have htb : ∀ p, n.testBit p = true ↔ p < 32 ∧ hB (wkB A k s) p ∧ w.testBit p = true := fun p => by
    by_cases hp : p < 32
    · rw [← hB_nI hp, ← e, hb p hp]
      exact ⟨fun q => ⟨hp, q⟩, fun q => q.2⟩
    · constructor
      · intro q
        rw [Nat.testBit_lt_two_pow (Nat.lt_of_lt_of_le hn (show 512 ≤ 2 ^ p from Nat.pow_le_pow_right (n := 2) (by decide) (show 9 ≤ p by omega)))] at q
        cases q
      · exact fun q => absurd q.1 hp
  refine ⟨e, ?_, htb⟩
  refine Nat.lt_pow_two_of_testBit (n := 8) n (fun i hi => ?_)
  have : ¬ n.testBit i = true := fun q => by
    have q2 := (htb i).mp q
    have := ((wkB_bit hA k s q2.1).mp q2.2.1).1
    omega
  simpa using this
theorem un_ex {A : Mm} (hA : CtB A) (w a : Nat) (f : Nat → Nat) : ∀ n, ∃ b, b < 256 ∧ ∀ p, (b.testBit p = true ↔ ∃ i, i < n ∧ a.testBit i = true ∧ (uu A w i (f i)).testBit p = true)
  | 0 => ⟨0, by decide, fun p => ⟨fun h => absurd h (by rw [Nat.zero_testBit]; decide), fun h => by obtain ⟨i, hi, _⟩ := h; omega⟩⟩
  | n + 1 => by
    obtain ⟨b, hb, h⟩ := un_ex hA w a f n
    by_cases z : a.testBit n = true
    · refine ⟨b ||| uu A w n (f n), Nat.or_lt_two_pow (n := 8) hb (uu_ok hA w n (f n)).2.1, fun p => ?_⟩
      rw [Nat.testBit_or, Bool.or_eq_true, h p]
      constructor
      · rintro (⟨i, hi, h2⟩ | h2)
        · exact ⟨i, by omega, h2⟩
        · exact ⟨n, by omega, z, h2⟩
      · rintro ⟨i, hi, h2, h3⟩
        by_cases e : i = n
        · subst e; exact Or.inr h3
        · exact Or.inl ⟨i, by omega, h2, h3⟩
    · refine ⟨b, hb, fun p => ?_⟩
      rw [h p]
      constructor
      · rintro ⟨i, hi, h2⟩
        exact ⟨i, by omega, h2⟩
      · rintro ⟨i, hi, h2, h3⟩
        by_cases e : i = n
        · subst e; exact absurd h2 z
        · exact ⟨i, by omega, h2, h3⟩
theorem tbK_iff {A : Mm} (hA : CtB A) (w : Nat) : ∀ n x y, tbK A w n x y ↔ x < 2 ^ n ∧ ∃ f : Nat → Nat, (∀ i, i < n → x.testBit i = true → f i < nS A) ∧ ∀ p, (y.testBit p = true ↔ ∃ i, i < n ∧ x.testBit i = true ∧ (uu A w i (f i)).testBit p = true)
  | 0, x, y => by
    constructor
    · rintro ⟨rfl, rfl⟩
      exact ⟨by decide, fun _ => 0, fun i hi => by omega, fun p => ⟨fun h => absurd h (by rw [Nat.zero_testBit]; decide), fun h => by obtain ⟨i, hi, _⟩ := h; omega⟩⟩
    · rintro ⟨h1, f, _, h2⟩
      refine ⟨by omega, Nat.eq_of_testBit_eq (fun p => ?_)⟩
      rw [Nat.zero_testBit]
      cases z : y.testBit p
      · rfl
      · obtain ⟨i, hi, _⟩ := (h2 p).mp z; omega
  | n + 1, x, y => by
    have ih := tbK_iff hA w n
    have e : tbK A w (n + 1) x y ↔ tbJ A w n (tbK A w n) (nS A) x y := Iff.rfl
    have hp2 : 2 ^ (n + 1) = 2 ^ n + 2 ^ n := by rw [Nat.pow_succ]; omega
    rw [e, tbJ_iff, ih x y]
    constructor
    · rintro (⟨h1, f, h2, h3⟩ | ⟨s, a, b, hs, ha, hb, rfl, h3, h4⟩)
      · have hn : x.testBit n = false := Nat.testBit_lt_two_pow h1
        refine ⟨by omega, f, fun i hi hx => ?_, fun p => ?_⟩
        · by_cases z : i = n
          · subst z; rw [hn] at hx; cases hx
          · exact h2 i (by omega) hx
        · rw [h3 p]
          constructor
          · rintro ⟨i, hi, h5⟩
            exact ⟨i, by omega, h5⟩
          · rintro ⟨i, hi, h5, h6⟩
            by_cases z : i = n
            · subst z; rw [hn] at h5; cases h5
            · exact ⟨i, by omega, h5, h6⟩
      · obtain ⟨_, f, h5, h6⟩ := (ih a b).mp h4
        have hb1 : ∀ i, i < n → (a + 2 ^ n).testBit i = a.testBit i := fun i hi => by rw [Nat.add_comm, Nat.testBit_two_pow_add_gt hi]
        have hb2 : (a + 2 ^ n).testBit n = true := by rw [Nat.add_comm, Nat.testBit_two_pow_add_eq, Nat.testBit_lt_two_pow ha]; rfl
        refine ⟨by omega, fun i => if i = n then s else f i, fun i hi hx => ?_, fun p => ?_⟩
        · dsimp only
          by_cases z : i = n
          · rw [if_pos z]; exact hs
          · rw [if_neg z]; exact h5 i (by omega) (by rw [← hb1 i (by omega)]; exact hx)
        · rw [h3, Nat.testBit_or, Bool.or_eq_true, h6 p]
          constructor
          · rintro (⟨i, hi, h7, h8⟩ | h7)
            · exact ⟨i, by omega, by rw [hb1 i hi]; exact h7, by dsimp only; rw [if_neg (by omega)]; exact h8⟩
            · exact ⟨n, by omega, hb2, by dsimp only; rw [if_pos rfl]; exact h7⟩
          · rintro ⟨i, hi, h7, h8⟩
            dsimp only at h8
            by_cases z : i = n
            · subst z; rw [if_pos rfl] at h8; exact Or.inr h8
            · rw [if_neg z] at h8
              exact Or.inl ⟨i, by omega, by rw [← hb1 i (by omega)]; exact h7, h8⟩
    · rintro ⟨h1, f, h2, h3⟩
      by_cases hx : x < 2 ^ n
      · refine Or.inl ⟨hx, f, fun i hi h => h2 i (by omega) h, fun p => ?_⟩
        have hn : x.testBit n = false := Nat.testBit_lt_two_pow hx
        rw [h3 p]
        constructor
        · rintro ⟨i, hi, h5, h6⟩
          by_cases z : i = n
          · subst z; rw [hn] at h5; cases h5
          · exact ⟨i, by omega, h5, h6⟩
        · rintro ⟨i, hi, h5⟩
          exact ⟨i, by omega, h5⟩
      · have ha : x - 2 ^ n < 2 ^ n := by omega
        have ex : x = (x - 2 ^ n) + 2 ^ n := by omega
        generalize x - 2 ^ n = a at ha ex
        subst ex
        have hb1 : ∀ i, i < n → (a + 2 ^ n).testBit i = a.testBit i := fun i hi => by rw [Nat.add_comm, Nat.testBit_two_pow_add_gt hi]
        have hb2 : (a + 2 ^ n).testBit n = true := by rw [Nat.add_comm, Nat.testBit_two_pow_add_eq, Nat.testBit_lt_two_pow ha]; rfl
        obtain ⟨b, hb, hbt⟩ := un_ex hA w a f n
        refine Or.inr ⟨f n, a, b, h2 n (by omega) hb2, ha, hb, rfl, Nat.eq_of_testBit_eq (fun p => ?_), (ih a b).mpr ⟨ha, f, fun i hi h => h2 i (by omega) (by rw [hb1 i hi]; exact h), hbt⟩⟩
        rw [Bool.eq_iff_iff, h3 p, Nat.testBit_or, Bool.or_eq_true, hbt p]
        constructor
        · rintro ⟨i, hi, h5, h6⟩
          by_cases z : i = n
          · subst z; exact Or.inr h6
          · exact Or.inl ⟨i, by omega, by rw [← hb1 i (by omega)]; exact h5, h6⟩
        · rintro (⟨i, hi, h5, h6⟩ | h6)
          · exact ⟨i, by omega, by rw [hb1 i hi]; exact h5, h6⟩
          · exact ⟨n, by omega, hb2, h6⟩
theorem tbK_cov {A : Mm} (hT : Cty A) {w a : Nat} (ha : a < 2 ^ nM A) (hw : w < 2 ^ nP A) : tbK A w (nM A) a w ↔ PRa A (nI w) a := by
  have hA := hT.1
  have h6 := hA.2.2.1.2
  have h8 := hA.2.2.2.2
  rw [tbK_iff hA]
  unfold PRa Cov
  constructor
  · rintro ⟨_, f, h1, h2⟩
    refine ⟨f, fun p hp hb => ?_⟩
    rw [hB_nI hp] at hb
    obtain ⟨i, hi, h3, h4⟩ := (h2 p).mp hb
    exact ⟨i, hi, (hB_nI (by omega)).mpr h3, h1 i hi h3, (((uu_ok hA w i (f i)).2.2 p).mp h4).2.1⟩
  · rintro ⟨f, hf⟩
    refine ⟨ha, fun i => if f i < nS A then f i else 0, fun i hi _ => ?_, fun p => ⟨fun hb => ?_, fun h => ?_⟩⟩
    · dsimp only
      obtain ⟨s, hs, _⟩ := (hT.2.2.2.1 i hi).1
      by_cases z : f i < nS A
      · rw [if_pos z]; exact z
      · rw [if_neg z]; omega
    · have hp : p < 32 := by
        by_cases z : p < 32
        · exact z
        · rw [Nat.testBit_lt_two_pow (Nat.lt_of_lt_of_le hw (Nat.pow_le_pow_right (by decide) (by omega)))] at hb
          cases hb
      obtain ⟨i, hi, h2, h3, h4⟩ := hf p hp ((hB_nI hp).mpr hb)
      exact ⟨i, hi, (hB_nI (by omega)).mp h2, by dsimp only; rw [if_pos h3]; exact ((uu_ok hA w i (f i)).2.2 p).mpr ⟨hp, h4, hb⟩⟩
    · obtain ⟨i, hi, h2, h3⟩ := h
      exact (((uu_ok hA w i _).2.2 p).mp h3).2.2
