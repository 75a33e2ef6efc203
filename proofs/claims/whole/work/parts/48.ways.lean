set_option maxRecDepth 100000
/-! THE LEAST OF SOME, in both ways of looking -/
def IsArg (P : Nat → Prop) (f : Nat → Int32) (lo hi : Nat) (r : Int32) : Prop := (r = -1 ∧ ∀ k, lo ≤ k → k < hi → ¬ P k) ∨ ∃ j, lo ≤ j ∧ j < hi ∧ r = nI j ∧ P j ∧ ∀ k, lo ≤ k → k < hi → P k → f j ≤ f k ∧ (f k ≤ f j → j ≤ k)
theorem le_tr {a b c : Int32} (h : a ≤ b) (h2 : b ≤ c) : a ≤ c := by rw [fa_le] at *; omega
theorem le_rf (a : Int32) : a ≤ a := by rw [fa_le]; omega
theorem IsArg.one {P : Nat → Prop} {f : Nat → Int32} {lo hi : Nat} {r r' : Int32} (hh : hi < 2 ^ 31) (h : IsArg P f lo hi r) (h2 : IsArg P f lo hi r') : r = r' := by
  rcases h with ⟨e, hn⟩ | ⟨j, h1, h3, e, hP, hm⟩
  · rcases h2 with ⟨e', -⟩ | ⟨j', h1', h3', e', hP', -⟩
    · rw [e, e']
    · exact absurd hP' (hn j' h1' h3')
  · rcases h2 with ⟨e', hn'⟩ | ⟨j', h1', h3', e', hP', hm'⟩
    · exact absurd hP (hn' j h1 h3)
    · have a1 := hm j' h1' h3' hP'
      have a2 := hm' j h1 h3 hP
      have := a1.2 a2.1
      have := a2.2 a1.1
      rw [e, e', show j = j' by omega]
theorem amn_arg (P : Nat → Prop) (f : Nat → Int32) : ∀ n, n < 2 ^ 31 → IsArg P f 0 n (amn P f n)
  | 0, _ => Or.inl ⟨rfl, fun k _ h => by omega⟩
  | n + 1, hn => by
    have ih := amn_arg P f n (by omega)
    by_cases hP : P n
    · rcases ih with ⟨e, h⟩ | ⟨j, -, h3, e, hPj, hm⟩
      · rw [amn_t hP (Or.inl e)]
        refine Or.inr ⟨n, Nat.zero_le _, by omega, rfl, hP, fun k _ hk hPk => ?_⟩
        rcases Nat.lt_or_eq_of_le (Nat.le_of_lt_succ hk) with q | q
        · exact absurd hPk (h k (Nat.zero_le _) q)
        · subst q; exact ⟨le_rf _, fun _ => Nat.le_refl _⟩
      · by_cases q : f j ≤ f n
        · rw [amn_f (fun z => z.2.elim (fun y => by rw [e] at y; exact nI_m1 (by omega) y) (fun y => y (by rw [e, nI_cl (by omega)]; exact q))), e]
          refine Or.inr ⟨j, Nat.zero_le _, by omega, rfl, hPj, fun k _ hk hPk => ?_⟩
          rcases Nat.lt_or_eq_of_le (Nat.le_of_lt_succ hk) with y | y
          · exact hm k (Nat.zero_le _) y hPk
          · subst y; exact ⟨q, fun _ => by omega⟩
        · rw [amn_t hP (Or.inr (by rw [e, nI_cl (by omega)]; exact q))]
          have q2 := fa_of_nle q
          refine Or.inr ⟨n, Nat.zero_le _, by omega, rfl, hP, fun k _ hk hPk => ?_⟩
          rcases Nat.lt_or_eq_of_le (Nat.le_of_lt_succ hk) with y | y
          · have h1 := (hm k (Nat.zero_le _) y hPk).1
            have h2 := le_tr (fa_of_lt q2).1 h1
            exact ⟨h2, fun z => absurd (le_tr h1 z) q⟩
          · subst y; exact ⟨le_rf _, fun _ => Nat.le_refl _⟩
    · rw [amn_f (fun z => hP z.1)]
      rcases ih with ⟨e, h⟩ | ⟨j, -, h3, e, hPj, hm⟩
      · refine Or.inl ⟨e, fun k _ hk => ?_⟩
        rcases Nat.lt_or_eq_of_le (Nat.le_of_lt_succ hk) with y | y
        · exact h k (Nat.zero_le _) y
        · subst y; exact hP
      · refine Or.inr ⟨j, Nat.zero_le _, by omega, e, hPj, fun k _ hk hPk => ?_⟩
        rcases Nat.lt_or_eq_of_le (Nat.le_of_lt_succ hk) with y | y
        · exact hm k (Nat.zero_le _) y hPk
        · subst y; exact absurd hPk hP
theorem amd_arg (P : Nat → Prop) (f : Nat → Int32) {N : Nat} (hN : N < 2 ^ 31) : ∀ c, c ≤ N → IsArg P f (N - c) N (amd P f N c)
  | 0, _ => Or.inl ⟨rfl, fun k h1 h2 => by omega⟩
  | c + 1, hc => by
    have ih := amd_arg P f hN c (by omega)
    have e0 : N - c = N - (c + 1) + 1 := by omega
    generalize hn : N - (c + 1) = n at *
    have hnN : n < N := by omega
    rw [e0] at ih
    by_cases hP : P n
    · rcases ih with ⟨e, h⟩ | ⟨j, h1, h3, e, hPj, hm⟩
      · rw [amd_t (by rw [hn]; exact hP) (Or.inl e), hn]
        refine Or.inr ⟨n, Nat.le_refl _, hnN, rfl, hP, fun k h1 hk hPk => ?_⟩
        rcases Nat.lt_or_eq_of_le h1 with q | q
        · exact absurd hPk (h k q hk)
        · subst q; exact ⟨le_rf _, fun _ => Nat.le_refl _⟩
      · by_cases q : f n ≤ f j
        · rw [amd_t (by rw [hn]; exact hP) (Or.inr (by rw [hn, e, nI_cl (by omega)]; exact q)), hn]
          refine Or.inr ⟨n, Nat.le_refl _, hnN, rfl, hP, fun k h1 hk hPk => ⟨?_, fun _ => h1⟩⟩
          rcases Nat.lt_or_eq_of_le h1 with y | y
          · exact le_tr q (hm k y hk hPk).1
          · subst y; exact le_rf _
        · rw [amd_f (fun z => z.2.elim (fun y => by rw [e] at y; exact nI_m1 (by omega) y) (fun y => q (by rw [hn, e, nI_cl (by omega)] at y; exact y))), e]
          refine Or.inr ⟨j, by omega, h3, rfl, hPj, fun k h1 hk hPk => ?_⟩
          rcases Nat.lt_or_eq_of_le h1 with y | y
          · exact hm k y hk hPk
          · subst y; exact ⟨(fa_of_lt (fa_of_nle q)).1, fun z => absurd z q⟩
    · rw [amd_f (fun z => hP (by rw [hn] at z; exact z.1))]
      rcases ih with ⟨e, h⟩ | ⟨j, h1, h3, e, hPj, hm⟩
      · refine Or.inl ⟨e, fun k h1 hk => ?_⟩
        rcases Nat.lt_or_eq_of_le h1 with y | y
        · exact h k y hk
        · subst y; exact hP
      · refine Or.inr ⟨j, by omega, h3, e, hPj, fun k h1 hk hPk => ?_⟩
        rcases Nat.lt_or_eq_of_le h1 with y | y
        · exact hm k y hk hPk
        · subst y; exact absurd hPk hP
theorem amd_amn (P : Nat → Prop) (f : Nat → Int32) {N : Nat} (hN : N < 2 ^ 31) : amd P f N N = amn P f N := by
  have h := amd_arg P f hN N (Nat.le_refl _)
  rw [Nat.sub_self] at h
  exact h.one hN (amn_arg P f N hN)
/-- the class's way: the fewest by now, and who -/
noncomputable def cfo (P : Nat → Prop) (f : Nat → Int32) (K : Int32) : Nat → Int32 × Int32
  | 0 => (K, -1)
  | n + 1 => ifp (f n < (cfo P f K n).1 ∧ P n) (f n, nI n) (cfo P f K n)
theorem cfo_t {P : Nat → Prop} {f : Nat → Int32} {K : Int32} {n : Nat} (h : f n < (cfo P f K n).1) (h2 : P n) : cfo P f K (n + 1) = (f n, nI n) := ifp_t ⟨h, h2⟩
theorem cfo_f {P : Nat → Prop} {f : Nat → Int32} {K : Int32} {n : Nat} (h : ¬ (f n < (cfo P f K n).1 ∧ P n)) : cfo P f K (n + 1) = cfo P f K n := ifp_f h
theorem cfo_amn {P : Nat → Prop} {f : Nat → Int32} {K : Int32} {N : Nat} (hN : N < 2 ^ 31) (hK : ∀ n, n < N → P n → f n < K) : ∀ n, n ≤ N → (cfo P f K n).2 = amn P f n ∧ (cfo P f K n).1 = if amn P f n = -1 then K else f (amn P f n).toNatClampNeg
  | 0, _ => ⟨rfl, rfl⟩
  | n + 1, hn => by
    obtain ⟨h1, h2⟩ := cfo_amn hN hK n (by omega)
    by_cases hP : P n
    · by_cases q : amn P f n = -1
      · rw [if_pos q] at h2
        rw [cfo_t (by rw [h2]; exact hK n (by omega) hP) hP, amn_t hP (Or.inl q), if_neg (nI_m1 (by omega)), nI_cl (by omega)]
        exact ⟨rfl, rfl⟩
      · rw [if_neg q] at h2
        by_cases z : f (amn P f n).toNatClampNeg ≤ f n
        · rw [cfo_f (fun y => by rw [h2] at y; exact (fa_of_lt y.1).2.1 z), amn_f (fun y => y.2.elim q (fun x => x z)), if_neg q]
          exact ⟨h1, h2⟩
        · rw [cfo_t (by rw [h2]; exact fa_of_nle z) hP, amn_t hP (Or.inr z), if_neg (nI_m1 (by omega)), nI_cl (by omega)]
          exact ⟨rfl, rfl⟩
    · rw [cfo_f (fun y => hP y.2), amn_f (fun y => hP y.1)]
      exact ⟨h1, h2⟩
/-! WALKS, there and back -/
def wk (A : Mm) (op : Int32) (a : Nat) : Nat → Nat → Prop
  | 0 => fun t => t = a ∧ hB op t
  | n + 1 => fun t => hB op t ∧ ∃ s, s < nS A ∧ wk A op a n s ∧ Ln A (nI s) (nI t)
theorem wk_pre {A : Mm} {op : Int32} : ∀ (n a b : Nat), a < nS A → b < nS A → wk A op a (n + 1) b → hB op a ∧ ∃ s, s < nS A ∧ Ln A (nI a) (nI s) ∧ wk A op s n b
  | 0, a, b, ha, hb, h => by
    obtain ⟨h1, s, hs, ⟨rfl, h2⟩, h3⟩ := h
    exact ⟨h2, b, hb, h3, rfl, h1⟩
  | n + 1, a, b, ha, hb, h => by
    obtain ⟨h1, s, hs, h2, h3⟩ := h
    obtain ⟨h4, r, hr, h5, h6⟩ := wk_pre n a s ha hs h2
    exact ⟨h4, r, hr, h5, h1, s, hs, h6, h3⟩
theorem wk_sym {A : Mm} {op : Int32} : ∀ (n a b : Nat), a < nS A → b < nS A → wk A op a n b → wk A op b n a
  | 0, a, b, ha, hb, h => ⟨h.1.symm, h.1 ▸ h.2⟩
  | n + 1, a, b, ha, hb, h => by
    obtain ⟨h1, s, hs, h2, h3⟩ := wk_pre n a b ha hb h
    exact ⟨h1, s, hs, wk_sym n s b hs hb h3, Ln_sym h2⟩
theorem fl_w {A : Mm} (hA : CtB A) {op : Int32} {a : Nat} (ha : a < nS A) : ∀ n, n < 100 → ∀ t, t < nS A → (fl A op a n t ≠ -1 ↔ ∃ j, j ≤ n ∧ wk A op a j t) := by
  have h9 := hA.1.2
  have hcb : ∀ t, t < nS A → (hB (jshl 1 (nI a) &&& op) t ↔ t = a ∧ hB op t) := fun t ht => by rw [hB_and, hB_sh (by omega) (by omega)]
  intro n
  induction n with
  | zero =>
    intro hn t ht
    rw [← cm_fl hA hcb 0 hn t ht]
    show hB (jshl 1 (nI a) &&& op) t ↔ _
    rw [hcb t ht]
    constructor
    · exact fun h => ⟨0, Nat.le_refl _, h⟩
    · rintro ⟨j, hj, h⟩
      have : j = 0 := by omega
      subst this
      exact h
  | succ n ih =>
    intro hn t ht
    rw [← cm_fl hA hcb (n + 1) hn t ht]
    show hB (gr A op (cm A op (jshl 1 (nI a) &&& op) n)) t ↔ _
    rw [hB_gr hA _ _ (by omega)]
    have ih2 : ∀ s, s < nS A → (hB (cm A op (jshl 1 (nI a) &&& op) n) s ↔ ∃ j, j ≤ n ∧ wk A op a j s) := fun s hs => (cm_fl hA hcb n (by omega) s hs).trans (ih (by omega) s hs)
    constructor
    · rintro (h | ⟨s, hs, h1, h2, -, h4⟩)
      · obtain ⟨j, hj, q⟩ := (ih2 t ht).mp h
        exact ⟨j, by omega, q⟩
      · obtain ⟨j, hj, q⟩ := (ih2 s hs).mp h1
        exact ⟨j + 1, by omega, h2, s, hs, q, h4⟩
    · rintro ⟨j, hj, q⟩
      by_cases hjn : j ≤ n
      · exact Or.inl ((ih2 t ht).mpr ⟨j, hjn, q⟩)
      · have : j = n + 1 := by omega
        subst this
        obtain ⟨h2, s, hs, h1, h4⟩ := q
        exact Or.inr ⟨s, hs, (ih2 s hs).mpr ⟨n, Nat.le_refl _, h1⟩, h2, ht, h4⟩
theorem fl_min {A : Mm} (hA : CtB A) {op : Int32} {a : Nat} (ha : a < nS A) {n t : Nat} (hn : n < 100) (ht : t < nS A) (h : fl A op a n t ≠ -1) : ∃ j, j ≤ n ∧ fl A op a n t = nI j ∧ wk A op a j t ∧ ∀ i, i < j → ¬ wk A op a i t := by
  obtain ⟨j, h1, h2, h3, h4⟩ := fl_v n t hn h
  have hz : ∀ i, i < j → ¬ wk A op a i t := fun i hi q => (fl_w hA ha i (by omega) t ht).mpr ⟨i, Nat.le_refl _, q⟩ (h4 i hi)
  obtain ⟨i, hi, q⟩ := (fl_w hA ha j (by omega) t ht).mp (by rw [h3]; exact nI_m1 (by omega))
  rcases Nat.lt_or_eq_of_le hi with y | y
  · exact absurd q (hz i y)
  · subst y; exact ⟨i, h1, h2, q, hz⟩
theorem fl_sym {A : Mm} (hA : CtB A) (op : Int32) {a b : Nat} (ha : a < nS A) (hb : b < nS A) {n : Nat} (hn : n < 100) : fl A op a n b = fl A op b n a := by
  by_cases h : fl A op a n b = -1
  · by_cases h2 : fl A op b n a = -1
    · rw [h, h2]
    · obtain ⟨j, h1, -, h3, -⟩ := fl_min hA hb hn ha h2
      exact absurd h ((fl_w hA ha n hn b hb).mpr ⟨j, h1, wk_sym j b a hb ha h3⟩)
  · obtain ⟨j, h1, h2, h3, h4⟩ := fl_min hA ha hn hb h
    obtain ⟨i, i1, i2, i3, i4⟩ := fl_min hA hb hn ha ((fl_w hA hb n hn a ha).mpr ⟨j, h1, wk_sym j a b ha hb h3⟩)
    rw [h2, i2]
    congr 1
    rcases Nat.lt_trichotomy i j with y | y | y
    · exact absurd (wk_sym i b a hb ha i3) (h4 i y)
    · exact y.symm
    · exact absurd (wk_sym j a b ha hb h3) (i4 j y)
theorem aS_pow {A : Mm} (hA : CtB A) : aS A = nI (2 ^ nS A - 1) := by
  have h9 := hA.1.2
  unfold aS
  rw [sh_pow _ (by omega)]
  exact nI_dec1 (Nat.one_le_two_pow)
theorem hB_aS {A : Mm} (hA : CtB A) {t : Nat} (ht : t < 32) : hB (aS A) t ↔ t < nS A := by
  rw [aS_pow hA, hB_nI ht, Nat.testBit_two_pow_sub_one]
  simp
