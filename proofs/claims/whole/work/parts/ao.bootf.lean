set_option maxRecDepth 100000
/-! THE FIRST CELLS: what they hold at the end -/
def bFullB (σ : bS) (x : Nat) : Bool := bif Nat.blt (mKd x) 4 then !(Nat.beq (mKd x) 0) else bif Nat.blt (mKd x) 10 then (List.range (mLn x)).all (bF σ x) else (List.range (mLn x)).all (fun j => !(mIsRef (mKd x - 10) j) || bF σ x j)
def bRlB (C : Mm) : Bool :=
  [21, 35, 36, 37, 38, 1].all (fun i => decide (C 0 i = 0)) && ([(587, 1), (600, 2), (617, 1), (586, 13), (586, 14), (625, 2), (626, 0), (626, 1), (626, 2), (626, 3)].all (fun q => decide (C q.1 q.2 = 0)) && (decide (C 587 3 = C 0 3) && (decide (C 586 15 = C 2 0) && (decide (C 586 16 = C 2 1) && ((List.range 9).all (fun s => decide (C 618 s = -1)) && ((List.range 5).all (fun i => decide (C 590 i = 0)) && ((List.range 10).all (fun r => (List.range (cpL r)).all (fun i => decide (r = 0) || decide (C (590 + r) i = 0))) && ((List.range 6).all (fun k => decide (C 627 k = C 595 k)) && ((List.range 6).all (fun k => decide (C 628 k = 0)) && ((List.range 4).all (fun k => decide (C 4 k = 0)) && (List.range 37).all (fun k => decide (C 494 k = nowC (fun _ => []) k))))))))))))
def bFc (lo n : Nat) : Bool := (List.range n).all (fun i => bFullB bσ0 (lo + i))
theorem bFc_0 : bFc 0 77 = true := by decide +kernel
theorem bFc_1 : bFc 77 77 = true := by decide +kernel
theorem bFc_2 : bFc 154 77 = true := by decide +kernel
theorem bFc_3 : bFc 231 77 = true := by decide +kernel
theorem bFc_4 : bFc 308 77 = true := by decide +kernel
theorem bFc_5 : bFc 385 77 = true := by decide +kernel
theorem bFc_6 : bFc 462 77 = true := by decide +kernel
theorem bFc_7 : bFc 539 77 = true := by decide +kernel
theorem bFc_8 : bFc 616 77 = true := by decide +kernel
theorem bFc_9 : bFc 693 77 = true := by decide +kernel
theorem bFc_10 : bFc 770 77 = true := by decide +kernel
theorem bFc_11 : bFc 847 70 = true := by decide +kernel
theorem bFc_use {lo n x : Nat} (h : bFc lo n = true) (h1 : lo ≤ x) (h2 : x < lo + n) : bFullB bσ0 x = true := by
  have := List.all_eq_true.mp h (x - lo) (List.mem_range.mpr (by omega))
  rw [Nat.add_sub_cancel' h1] at this
  exact this
theorem bFull_all : ∀ x, x < 917 → bFullB bσ0 x = true := by
  intro x hx
  rcases Nat.lt_or_ge x 77 with g0 | g0
  · exact bFc_use bFc_0 (Nat.zero_le x) g0
  rcases Nat.lt_or_ge x 154 with g1 | g1
  · exact bFc_use bFc_1 g0 g1
  rcases Nat.lt_or_ge x 231 with g2 | g2
  · exact bFc_use bFc_2 g1 g2
  rcases Nat.lt_or_ge x 308 with g3 | g3
  · exact bFc_use bFc_3 g2 g3
  rcases Nat.lt_or_ge x 385 with g4 | g4
  · exact bFc_use bFc_4 g3 g4
  rcases Nat.lt_or_ge x 462 with g5 | g5
  · exact bFc_use bFc_5 g4 g5
  rcases Nat.lt_or_ge x 539 with g6 | g6
  · exact bFc_use bFc_6 g5 g6
  rcases Nat.lt_or_ge x 616 with g7 | g7
  · exact bFc_use bFc_7 g6 g7
  rcases Nat.lt_or_ge x 693 with g8 | g8
  · exact bFc_use bFc_8 g7 g8
  rcases Nat.lt_or_ge x 770 with g9 | g9
  · exact bFc_use bFc_9 g8 g9
  rcases Nat.lt_or_ge x 847 with g10 | g10
  · exact bFc_use bFc_10 g9 g10
  exact bFc_use bFc_11 g10 hx
theorem bRl0_ok : bRlB (cl (bM bσ0)) = true := by decide +kernel
theorem bSl_ok : bSl 917 ≤ 100000 := by decide +kernel
theorem bRl_of {C : Mm} (h : bRlB C = true) : Rl C := by
  unfold bRlB at h
  simp only [Bool.and_eq_true, List.all_eq_true, decide_eq_true_eq, Bool.or_eq_true, List.mem_range] at h
  obtain ⟨h1, h2, h3, h4, h5, h6, h7, h8, h9, h10, h11, h12⟩ := h
  have hD : cDok (fun _ => []) := ⟨Nat.zero_le _, fun k hk => ⟨Nat.zero_le _, fun i hi => absurd hi (Nat.not_lt_zero i)⟩⟩
  have hT : cTb C (fun _ => []) := ⟨fun k hk => h11 k hk, fun i hi => absurd hi (Nat.not_lt_zero i), fun i hi => absurd hi (Nat.not_lt_zero i), fun i hi => absurd hi (Nat.not_lt_zero i), fun i hi => absurd hi (Nat.not_lt_zero i), fun k hk => h12 k hk⟩
  have hn : nS C = 0 := by
    unfold nS
    rw [h11 0 (by decide)]
    rfl
  refine Rl_new hD hT ⟨h1 21 (by decide), h1 35 (by decide), h1 36 (by decide), h1 37 (by decide), h1 38 (by decide)⟩ (h1 1 (by decide)) (h2 (587, 1) (by decide)) h3 (h2 (600, 2) (by decide)) ⟨h2 (617, 1) (by decide), fun s hs => h6 s hs⟩ ⟨h2 (586, 13) (by decide), h2 (586, 14) (by decide)⟩ ⟨h4, h5⟩ ⟨fun _ _ => 0, ?_, fun i hi => h7 i hi, fun r hr1 hr9 i hi => ?_⟩ (h2 (625, 2) (by decide)) ⟨h2 (626, 0) (by decide), h2 (626, 1) (by decide), (h2 (626, 2) (by decide)).trans (by decide), h2 (626, 3) (by decide)⟩ (fun k hk => h9 k hk) (fun k hk => h10 k hk) (fun s _ hs => absurd hs (by rw [hn]; exact Nat.not_lt_zero s))
  · exact ⟨fun k hk => rfl, fun i hi => absurd hi (Nat.not_lt_zero i), fun i hi => absurd hi (Nat.not_lt_zero i), fun i hi => absurd hi (Nat.not_lt_zero i), fun i hi => absurd hi (Nat.not_lt_zero i), fun s hs j hj => ⟨fun q => absurd q (hB_0 j), fun q => by obtain ⟨e, he, -⟩ := q; exact absurd he (Nat.not_lt_zero e)⟩⟩
  · rcases h8 r (by omega) i hi with q | q
    · omega
    · exact q
theorem bRun_ex : ∃ σ : bS, bRun = some (23, bLd, [], σ) ∧ σ.1 = 917 ∧ (∀ x, x < 917 → bFullB σ x = true) ∧ Rl (cl (bM σ)) :=
  ⟨bσ0, bRun_v, rfl, bFull_all, bRl_of bRl0_ok⟩
theorem arrV_cg {cI : ClassId} {n : Nat} {f f2 : Nat → Value} (h : ∀ j, j < n → f j = f2 j) : arrV cI n f = arrV cI n f2 := by
  unfold arrV
  congr 1
  congr 1
  funext j
  exact h j j.2
/-- all is there: the small machine's cells -/
theorem bAt_full {g : mG} {σ : bS} {H : Heap} {x a : Nat} (hf : bFullB σ x = true) (h : va_at g.1 vwCl (a, bCE g σ x) H) : va_at g.1 vwCl (a, mCE g (bM σ) 0 x) H := by
  unfold bFullB at hf
  unfold bCE at h
  unfold mCE
  by_cases k1 : mKd x = 1
  · rw [if_pos k1] at h ⊢
    exact h
  rw [if_neg k1] at h ⊢
  by_cases k2 : mKd x = 2
  · rw [if_pos k2] at h ⊢
    exact h
  rw [if_neg k2] at h ⊢
  by_cases k3 : mKd x = 3
  · rw [if_pos k3] at h ⊢
    exact h
  rw [if_neg k3] at h ⊢
  by_cases k0 : mKd x = 0
  · rw [k0] at hf
    exact absurd (show false = true from hf) (by decide)
  have e4 : Nat.blt (mKd x) 4 = false := by
    cases hb : Nat.blt (mKd x) 4 with
    | true => have := (blt_if _ _).mp hb; omega
    | false => rfl
  rw [e4, cond_false] at hf
  by_cases k4 : mKd x < 10
  · rw [if_pos k4] at h ⊢
    rw [(blt_if _ _).mpr k4, cond_true] at hf
    have e : vp_cell (gC g (mKd x - 1)) (mLn x, .inr (.inr (.inr (.inr (bRf g σ x))))) = vp_cell (gC g (mKd x - 1)) (mLn x, .inr (.inr (.inr (.inr (fun i => some (gA g (mRF x i))))))) := by
      show arrV _ _ (fun j => va_rf (bRf g σ x j)) = arrV _ _ (fun j => va_rf (some (gA g (mRF x j))))
      refine arrV_cg (fun j hj => ?_)
      unfold bRf
      rw [if_pos (List.all_eq_true.mp hf j (List.mem_range.mpr hj))]
    show H[a]? = some (vp_cell _ _)
    rw [← e]
    exact h
  · rw [if_neg k4] at h ⊢
    have e5 : Nat.blt (mKd x) 10 = false := by
      cases hb : Nat.blt (mKd x) 10 with
      | true => exact absurd ((blt_if _ _).mp hb) k4
      | false => rfl
    rw [e5, cond_false] at hf
    have e : (List.range (mLn x)).map (bFv g σ x (mKd x - 10)) = (List.range (mLn x)).map (mFv g (bM σ) x (mKd x - 10)) := by
      refine List.map_congr_left (fun j hj => ?_)
      have hq := List.all_eq_true.mp hf j hj
      unfold bFv mFv
      by_cases z : mIsRef (mKd x - 10) j = true
      · rw [z] at hq
        rw [if_pos z, if_pos z, if_pos (by simpa using hq)]
      · rw [if_neg z, if_neg z]
    rw [← e]
    exact h
theorem mP_of {g : mG} {σ : bS} {H : Heap} (hG : bG g) (h : bP g σ H) (h9 : σ.1 = 917) (hf : ∀ x, x < 917 → bFullB σ x = true) : mP g (bM σ) 0 H := by
  have key : ∀ (k : Nat) (q : Nat × va_E), (mLs g (bM σ) 0)[k]? = some q → k < 917 ∧ q = (gA g k, mCE g (bM σ) 0 k) := by
    intro k q hk
    have hlt : k < 917 := by
      have := (List.getElem?_eq_some_iff.mp hk).1
      unfold mLs at this
      rw [List.length_map, List.length_range] at this
      exact this
    rw [mLs_at g (bM σ) 0 hlt] at hk
    exact ⟨hlt, (Option.some.inj hk).symm⟩
  have hix : ∀ k, k < 917 → ix k < 917 := by
    intro k hk
    rw [ix_if]
    split <;> omega
  have hgA : ∀ k, k < 917 → gA g k = gB g + ix k := by
    intro k hk
    have := hG (ix k) (hix k hk)
    rw [al_ix hk] at this
    exact this
  refine ⟨fun k q hk => ?_, fun i j p q hi hj hpq => ?_, fun k q hk => ?_⟩
  · obtain ⟨hlt, rfl⟩ := key k q hk
    have h1 := h.1 (ix k) (by rw [h9]; exact hix k hlt)
    rw [al_ix hlt] at h1
    exact bAt_full (hf k hlt) h1
  · obtain ⟨hi', rfl⟩ := key i p hi
    obtain ⟨hj', rfl⟩ := key j q hj
    have e : gA g i = gA g j := hpq
    rw [hgA i hi', hgA j hj'] at e
    have e2 : ix i = ix j := by omega
    rw [← al_ix hi', ← al_ix hj', e2]
  · obtain ⟨hlt, rfl⟩ := key k q hk
    show gB g ≤ gA g k
    rw [hgA k hlt]
    omega
