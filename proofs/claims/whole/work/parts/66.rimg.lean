set_option maxRecDepth 100000
/-! UNDO, IMAGE, RESTORE, in the reference -/
def ce1 (j : Nat) : Nat := if j = 0 then 0 else if j < 38 then 494 else 497 + (j - 38) / 37
def ce2 (j : Nat) : Nat := if j = 0 then 36 else if j < 38 then j - 1 else (j - 38) % 37
def src (m : Mm) (j : Nat) : Int32 := m (ce1 j) (ce2 j)
theorem ce_0 : ce1 0 = 0 ∧ ce2 0 = 36 := ⟨rfl, rfl⟩
theorem ce_1 {i : Nat} (hi : i < 37) : ce1 (1 + i) = 494 ∧ ce2 (1 + i) = i := by
  unfold ce1 ce2
  rw [if_neg (by omega), if_pos (by omega), if_neg (by omega), if_pos (by omega)]
  omega
theorem ce_2 {w i : Nat} (hi : i < 37) : ce1 (38 + 37 * w + i) = 497 + w ∧ ce2 (38 + 37 * w + i) = i := by
  unfold ce1 ce2
  rw [if_neg (by omega), if_neg (by omega), if_neg (by omega), if_neg (by omega)]
  omega
theorem ce_in {j : Nat} (hj : j < 630) : (j = 0 ∧ ce1 j = 0 ∧ ce2 j = 36) ∨ (0 < j ∧ j < 38 ∧ ce1 j = 494 ∧ ce2 j = j - 1) ∨ (38 ≤ j ∧ ce1 j = 497 + (j - 38) / 37 ∧ ce2 j = (j - 38) % 37) := by
  by_cases h0 : j = 0
  · subst h0; exact Or.inl ⟨rfl, rfl, rfl⟩
  · by_cases h1 : j < 38
    · refine Or.inr (Or.inl ⟨by omega, h1, ?_, ?_⟩)
      · unfold ce1; rw [if_neg h0, if_pos h1]
      · unfold ce2; rw [if_neg h0, if_pos h1]
    · refine Or.inr (Or.inr ⟨by omega, ?_, ?_⟩)
      · unfold ce1; rw [if_neg h0, if_neg h1]
      · unfold ce2; rw [if_neg h0, if_neg h1]
theorem ce_ne {i j : Nat} (hi : i < 630) (hj : j < 630) (h : i ≠ j) : ¬ (ce1 i = ce1 j ∧ ce2 i = ce2 j) := by
  rcases ce_in hi with ⟨a1, a2, a3⟩ | ⟨a0, a1, a2, a3⟩ | ⟨a1, a2, a3⟩ <;> rcases ce_in hj with ⟨b1, b2, b3⟩ | ⟨b0, b1, b2, b3⟩ | ⟨b1, b2, b3⟩ <;> rw [a2, a3, b2, b3] <;> omega
theorem mset_at (m : Mm) (a i : Nat) (v : Int32) (b j : Nat) : mset m a i v b j = if b = a ∧ j = i then v else m b j := by
  by_cases h : b = a
  · subst h
    rw [mset_eq, upd_at]
    by_cases h2 : j = i
    · rw [if_pos h2, if_pos ⟨rfl, h2⟩]
    · rw [if_neg h2, if_neg (fun z => h2 z.2)]
  · rw [mset_ne _ _ _ h, if_neg (fun z => h z.1)]
def pR (t : Nat) (v : Int32) (m : Mm) (x s : Nat) : Int32 := if t = 0 then v else m x s
def pM (t : Nat) (v : Int32) (m : Mm) (x s : Nat) : Mm := if t = 0 then mset (mset m x s v) 0 39 (nI (s + 1)) else mset m 0 39 (nI (s + 1))
/-- s numbers are put (t = 0) or taken (t = 1) -/
def PA (t x : Nat) (m0 m2 : Mm) (s : Nat) : Prop := (∀ a i, (∀ j, j < 630 → ¬ (a = ce1 j ∧ i = ce2 j)) → ¬ (a = 0 ∧ i = 39) → ¬ (a = x) → m2 a i = m0 a i) ∧ m2 0 39 = nI s ∧
  (t = 0 → (∀ j, j < 630 → src m2 j = src m0 j) ∧ ∀ j, j < s → m2 x j = src m0 j) ∧ (t ≠ 0 → m2 x = m0 x ∧ ∀ j, j < s → src m2 j = m0 x j)
theorem PA_step {t x : Nat} {m0 m2 : Mm} {s : Nat} (hx : 514 ≤ x ∧ x ≤ 516) (hs : s < 630) (h : PA t x m0 m2 s) : PA t x m0 (mset (pM t (src m2 s) m2 x s) (ce1 s) (ce2 s) (pR t (src m2 s) m2 x s)) (s + 1) := by
  have hc : ∀ j, j < 630 → ce1 j ≠ x ∧ ¬ (ce1 j = 0 ∧ ce2 j = 39) := fun j hj => by
    rcases ce_in hj with ⟨a1, a2, a3⟩ | ⟨a0, a1, a2, a3⟩ | ⟨a1, a2, a3⟩ <;> rw [a2, a3] <;> omega
  have hcs := hc s hs
  by_cases ht : t = 0
  · have eM : pM t (src m2 s) m2 x s = mset (mset m2 x s (src m2 s)) 0 39 (nI (s + 1)) := if_pos ht
    have eR : pR t (src m2 s) m2 x s = src m2 s := if_pos ht
    rw [eM, eR]
    have q := h.2.2.1 ht
    refine ⟨fun a i h1 h2 h3 => ?_, ?_, fun _ => ⟨fun j hj => ?_, fun j hj => ?_⟩, fun z => absurd ht z⟩
    · rw [mset_at, if_neg (h1 s hs), mset_at, if_neg h2, mset_at, if_neg (fun z => h3 z.1)]
      exact h.1 a i h1 h2 h3
    · rw [mset_at, if_neg (fun z => hcs.2 ⟨z.1.symm, z.2.symm⟩), mset_at, if_pos ⟨rfl, rfl⟩]
    · unfold src
      rw [mset_at]
      by_cases e : j = s
      · rw [if_pos ⟨by rw [e], by rw [e]⟩, e]; exact q.1 s hs
      · rw [if_neg (ce_ne hj hs e), mset_at, if_neg (hc j hj).2, mset_at, if_neg (fun z => (hc j hj).1 z.1)]
        exact q.1 j hj
    · rw [mset_at, if_neg (fun z => hcs.1 z.1.symm), mset_at, if_neg (fun z => by omega), mset_at]
      by_cases e : j = s
      · rw [if_pos ⟨rfl, e⟩, e]; exact q.1 s hs
      · rw [if_neg (fun z => e z.2)]; exact q.2 j (by omega)
  · have eM : pM t (src m2 s) m2 x s = mset m2 0 39 (nI (s + 1)) := if_neg ht
    have eR : pR t (src m2 s) m2 x s = m2 x s := if_neg ht
    rw [eM, eR]
    have q := h.2.2.2 ht
    refine ⟨fun a i h1 h2 h3 => ?_, ?_, fun z => absurd z ht, fun _ => ⟨?_, fun j hj => ?_⟩⟩
    · rw [mset_at, if_neg (h1 s hs), mset_at, if_neg h2]
      exact h.1 a i h1 h2 h3
    · rw [mset_at, if_neg (fun z => hcs.2 ⟨z.1.symm, z.2.symm⟩), mset_at, if_pos ⟨rfl, rfl⟩]
    · rw [mset_ne _ _ _ (fun z => hcs.1 z.symm), mset_ne _ _ _ (by omega)]
      exact q.1
    · unfold src
      rw [mset_at]
      by_cases e : j = s
      · rw [if_pos ⟨by rw [e], by rw [e]⟩, e, q.1]
      · rw [if_neg (ce_ne (by omega) hs e), mset_at, if_neg (hc j (by omega)).2]
        exact q.2 j (by omega)
section R23
variable {l : Launch} {g : mG} {d : Nat} {A : Mm}
theorem r_puts {m : Mm} {x s t : Nat} (hx : 514 ≤ x ∧ x ≤ 516) (hs : s < 630) (h39 : m 0 39 = nI s) (ht : t < 2) (v : Int32) : mFi l g d k_X12_puts [.ref 0, .ref x, .int v, .int (nI t)] m (pR t v m x s) (pM t v m x s) := by
  refine nFi 0 rfl rfl rfl (by decide) rfl (fun htr o Φ hΦ => mGoOn (mOk (by decide)) rfl [] 400 ?_)
  show (¬ (nI t) = 0 → (Value.ref 0).category = 1 ∧ (mReq (mIsB x 1) (mReq (mInB (((mset m 0 39 ((m 0 39) + (1 : Int32))) 0 39) - (1 : Int32)) (mLn x)) (Φ (.inl (some (.int ((mset m 0 39 ((m 0 39) + (1 : Int32))) x ((((mset m 0 39 ((m 0 39) + (1 : Int32))) 0 39) - (1 : Int32)).toNatClampNeg))))) (mset m 0 39 ((m 0 39) + (1 : Int32))) o ∧ 0 ≤ 0 ∧ 0 ≤ 0)))) ∧ ((nI t) = 0 → mReq (mIsB x 1) (mReq (mInB (m 0 39) (mLn x)) ((Value.ref 0).category = 1 ∧ (mReq (mIsB x 1) (mReq (mInB (((mset (mset m x ((m 0 39).toNatClampNeg) v) 0 39 (((mset m x ((m 0 39).toNatClampNeg) v) 0 39) + (1 : Int32))) 0 39) - (1 : Int32)) (mLn x)) (Φ (.inl (some (.int ((mset (mset m x ((m 0 39).toNatClampNeg) v) 0 39 (((mset m x ((m 0 39).toNatClampNeg) v) 0 39) + (1 : Int32))) x ((((mset (mset m x ((m 0 39).toNatClampNeg) v) 0 39 (((mset m x ((m 0 39).toNatClampNeg) v) 0 39) + (1 : Int32))) 0 39) - (1 : Int32)).toNatClampNeg))))) (mset (mset m x ((m 0 39).toNatClampNeg) v) 0 39 (((mset m x ((m 0 39).toNatClampNeg) v) 0 39) + (1 : Int32))) o ∧ 0 ≤ 0 ∧ 0 ≤ 0))))))
  have hb : mIsB x 1 = true := sB_7 (by omega)
  have hl : mLn x = 630 := sL_7 (by omega)
  have e1 : nI (s + 1) - 1 = nI s := by rw [nI_dec1 (by omega)]; rfl
  rw [hb, hl, h39, nI_cl (by omega), mset_ne m (a := x) (x := 0) _ _ (by omega), h39, nI_1, mset_eq, pk_us, mset_eq, pk_us, e1, mIn_ok hs (by decide), nI_cl (by omega)]
  rcases (show t = 0 ∨ t = 1 by omega) with rfl | rfl
  · refine ⟨fun z => absurd rfl z, fun _ => ⟨rfl, eR ?_⟩⟩
    have eM : pM 0 v m x s = mset (mset m x s v) 0 39 (nI (s + 1)) := rfl
    have eR : pR 0 v m x s = v := rfl
    rw [eM, eR] at hΦ
    rw [mset_ne _ (a := 0) (x := x) _ _ (by omega), mset_eq, pk_us]
    exact hΦ
  · refine ⟨fun _ => ⟨rfl, eR ?_⟩, fun z => absurd z (by decide)⟩
    have eM : pM 1 v m x s = mset m 0 39 (nI (s + 1)) := rfl
    have eR : pR 1 v m x s = m x s := rfl
    rw [eM, eR] at hΦ
    rw [mset_ne _ (a := 0) (x := x) _ _ (by omega)]
    exact hΦ
theorem r_putsAll {m : Mm} {x t : Nat} (hx : 514 ≤ x ∧ x ≤ 516) (ht : t < 2) (hd : 1 ≤ d) : mHv l g d k_X12_putsAll [.ref 0, .ref x, .int (nI t)] m (fun m2 => PA t x m m2 630) := by
  refine nBv 2 rfl rfl rfl (by decide) rfl (fun htr o Φ hΦ => mGoOn (mOk (by decide)) rfl [21,53,62] 400 ?_)
  show True ∧ mCal l g d k_X12_putsAll Φ 0 0 _ 13 k_X12_puts false [.ref 0, .ref x, .int ((mset m 0 39 (0 : Int32)) 0 36), .int (nI t)] [.ref 0] [.ref 0, .ref x, .int (nI t), mJ, mJ] (mset m 0 39 (0 : Int32)) o 0 0 1
  have h0 : PA t x m (mset m 0 39 (0 : Int32)) 0 := by
    refine ⟨fun a i _ h2 _ => ?_, ?_, fun _ => ⟨fun j hj => ?_, fun j hj => absurd hj (by omega)⟩, fun _ => ⟨mset_ne _ _ _ (by omega), fun j hj => absurd hj (by omega)⟩⟩
    · rw [mset_at, if_neg h2]
    · rw [mset_at, if_pos ⟨rfl, rfl⟩]; rfl
    · unfold src
      rw [mset_at, if_neg ?_]
      rcases ce_in hj with ⟨a1, a2, a3⟩ | ⟨a0, a1, a2, a3⟩ | ⟨a1, a2, a3⟩ <;> rw [a2, a3] <;> omega
  generalize mset m 0 39 (0 : Int32) = m1 at h0 ⊢
  refine ⟨trivial, fCi htr (r_puts hx (by decide) h0.2.1 ht _) hd ?_⟩
  show mWB l g d k_X12_putsAll Φ 0 0 21 [.ref 0, .ref x, .int (nI t), .int (0 : Int32), mJ] [] (mset (pM t (m1 0 36) m1 x 0) 0 36 (pR t (m1 0 36) m1 x 0)) o 0 0
  have h1 : PA t x m (mset (pM t (m1 0 36) m1 x 0) 0 36 (pR t (m1 0 36) m1 x 0)) 1 := PA_step hx (by decide) h0
  generalize mset (pM t (m1 0 36) m1 x 0) 0 36 (pR t (m1 0 36) m1 x 0) = m2 at h1 ⊢
  clear h0
  refine mLoopZ (P := fun i => ∀ m2, PA t x m m2 (1 + i) → mWB l g d k_X12_putsAll Φ 0 0 21 [.ref 0, .ref x, .int (nI t), .int (nI i), mJ] [] m2 o 0 0) (N := 37) ?_ ?_ m2 h1
  · intro m2 h2
    have h37 : (37 : Int32) ≤ nI 37 := by decide
    generalize nI 37 = c at h37 ⊢
    refine mGoOn (mOk (by decide)) rfl [21,53,62] 400 ?_
    show ((37 : Int32) ≤ c → mWB l g d k_X12_putsAll Φ 0 0 53 [.ref 0, .ref x, .int (nI t), .int (0 : Int32), mJ] [] m2 o 0 0) ∧ (¬ (37 : Int32) ≤ c → mReq (mInB c 37) (True ∧ mCal l g d k_X12_putsAll Φ 0 0 _ 41 k_X12_puts false [.ref 0, .ref x, .int (m2 494 c.toNatClampNeg), .int (nI t)] [.int c, .ref 494] [.ref 0, .ref x, .int (nI t), .int c, mJ] m2 o 0 0 1))
    refine ⟨fun _ => ?_, fun z => absurd h37 z⟩
    refine mLoopZ (P := fun w => ∀ m2, PA t x m m2 (38 + 37 * w) → mWB l g d k_X12_putsAll Φ 0 0 53 [.ref 0, .ref x, .int (nI t), .int (nI w), mJ] [] m2 o 0 0) (N := 16) ?_ ?_ m2 h2
    · intro m2 h2
      refine mGoOn (mOk (by decide)) rfl [21,53,62] 400 ?_
      show ((16 : Int32) ≤ (nI 16) → Φ (.inl none) m2 o ∧ 0 ≤ 0 ∧ 0 ≤ 0) ∧ (¬ (16 : Int32) ≤ (nI 16) → mWB l g d k_X12_putsAll Φ 0 0 62 [.ref 0, .ref x, .int (nI t), .int (nI 16), .int (0 : Int32)] [] m2 o 0 0)
      exact ⟨fun _ => eR (hΦ _ h2), fun z => absurd (by decide) z⟩
    · intro w hw ih m2 h2
      refine mGoOn (mOk (by decide)) rfl [21,53,62] 400 ?_
      show ((16 : Int32) ≤ (nI w) → Φ (.inl none) m2 o ∧ 0 ≤ 0 ∧ 0 ≤ 0) ∧ (¬ (16 : Int32) ≤ (nI w) → mWB l g d k_X12_putsAll Φ 0 0 62 [.ref 0, .ref x, .int (nI t), .int (nI w), .int (0 : Int32)] [] m2 o 0 0)
      refine ⟨fun z => absurd z (by rw [show (16 : Int32) = nI 16 from rfl, nI_leI (by decide) (by omega)]; omega), fun _ => ?_⟩
      refine mLoopZ (P := fun i => ∀ m2, PA t x m m2 (38 + 37 * w + i) → mWB l g d k_X12_putsAll Φ 0 0 62 [.ref 0, .ref x, .int (nI t), .int (nI w), .int (nI i)] [] m2 o 0 0) (N := 37) ?_ ?_ m2 h2
      · intro m2 h2
        have h37 : (37 : Int32) ≤ nI 37 := by decide
        generalize nI 37 = c at h37 ⊢
        refine mGoOn (mOk (by decide)) rfl [21,53,62] 400 ?_
        show ((37 : Int32) ≤ c → mWB l g d k_X12_putsAll Φ 0 0 53 [.ref 0, .ref x, .int (nI t), .int ((nI w) + (1 : Int32)), .int c] [] m2 o 0 0) ∧ (¬ (37 : Int32) ≤ c → mReq (mInB (nI w) 16) (mReq (mInB (nI w) 16) (mReq (mIsB (mRF 496 ((nI w).toNatClampNeg)) 1) (mReq (mInB c (mLn (mRF 496 ((nI w).toNatClampNeg)))) (True ∧ mCal l g d k_X12_putsAll Φ 0 0 _ 89 k_X12_puts false [.ref 0, .ref x, .int (m2 (mRF 496 ((nI w).toNatClampNeg)) c.toNatClampNeg), .int (nI t)] [.int c, .ref (mRF 496 ((nI w).toNatClampNeg))] [.ref 0, .ref x, .int (nI t), .int (nI w), .int c] m2 o 0 0 1)))))
        refine ⟨fun _ => ?_, fun z => absurd h37 z⟩
        rw [nI_1]
        exact mWB_wk (ih m2 (by rw [show 38 + 37 * (w + 1) = 38 + 37 * w + 37 by omega]; exact h2)) ⟨Or.inr rfl, Or.inr rfl, Or.inr rfl, Or.inr rfl, Or.inl rfl, trivial⟩
      · intro i hi ih2 m2 h2
        refine mGoOn (mOk (by decide)) rfl [21,53,62] 400 ?_
        show ((37 : Int32) ≤ (nI i) → mWB l g d k_X12_putsAll Φ 0 0 53 [.ref 0, .ref x, .int (nI t), .int ((nI w) + (1 : Int32)), .int (nI i)] [] m2 o 0 0) ∧ (¬ (37 : Int32) ≤ (nI i) → mReq (mInB (nI w) 16) (mReq (mInB (nI w) 16) (mReq (mIsB (mRF 496 ((nI w).toNatClampNeg)) 1) (mReq (mInB (nI i) (mLn (mRF 496 ((nI w).toNatClampNeg)))) (True ∧ mCal l g d k_X12_putsAll Φ 0 0 _ 89 k_X12_puts false [.ref 0, .ref x, .int (m2 (mRF 496 ((nI w).toNatClampNeg)) ((nI i).toNatClampNeg)), .int (nI t)] [.int (nI i), .ref (mRF 496 ((nI w).toNatClampNeg))] [.ref 0, .ref x, .int (nI t), .int (nI w), .int (nI i)] m2 o 0 0 1)))))
        rw [nI_cl (show w < 2 ^ 31 by omega), nI_cl (show i < 2 ^ 31 by omega), rf_496, sB_6 (by omega), sL_6 (by omega), mIn_ok hw (by decide), mIn_ok hi (by decide)]
        refine ⟨fun z => absurd z (by rw [show (37 : Int32) = nI 37 from rfl, nI_leI (by decide) (by omega)]; omega), fun _ => ⟨trivial, fCi htr (r_puts hx (s := 38 + 37 * w + i) (by omega) h2.2.1 ht _) hd ?_⟩⟩
        have h3 := PA_step hx (s := 38 + 37 * w + i) (by omega) h2
        unfold src at h3
        rw [(ce_2 (w := w) hi).1, (ce_2 (w := w) hi).2] at h3
        show mReq (mIsB (497 + w) 1) (mReq (mInB (nI i) (mLn (497 + w))) (mWB l g d k_X12_putsAll Φ 0 0 62 [.ref 0, .ref x, .int (nI t), .int (nI w), .int ((nI i) + (1 : Int32))] [] (mset (pM t (m2 (497 + w) i) m2 x (38 + 37 * w + i)) (497 + w) ((nI i).toNatClampNeg) (pR t (m2 (497 + w) i) m2 x (38 + 37 * w + i))) o 0 0))
        rw [sB_6 (by omega), sL_6 (by omega), mIn_ok hi (by decide), nI_cl (show i < 2 ^ 31 by omega), nI_1]
        exact ih2 _ h3
  · intro i hi ih m2 h2
    refine mGoOn (mOk (by decide)) rfl [21,53,62] 400 ?_
    show ((37 : Int32) ≤ (nI i) → mWB l g d k_X12_putsAll Φ 0 0 53 [.ref 0, .ref x, .int (nI t), .int (0 : Int32), mJ] [] m2 o 0 0) ∧ (¬ (37 : Int32) ≤ (nI i) → mReq (mInB (nI i) 37) (True ∧ mCal l g d k_X12_putsAll Φ 0 0 _ 41 k_X12_puts false [.ref 0, .ref x, .int (m2 494 ((nI i).toNatClampNeg)), .int (nI t)] [.int (nI i), .ref 494] [.ref 0, .ref x, .int (nI t), .int (nI i), mJ] m2 o 0 0 1))
    rw [nI_cl (show i < 2 ^ 31 by omega), mIn_ok hi (by decide)]
    refine ⟨fun z => absurd z (by rw [show (37 : Int32) = nI 37 from rfl, nI_leI (by decide) (by omega)]; omega), fun _ => ⟨trivial, fCi htr (r_puts hx (s := 1 + i) (by omega) h2.2.1 ht _) hd ?_⟩⟩
    have h3 := PA_step hx (s := 1 + i) (by omega) h2
    unfold src at h3
    rw [(ce_1 hi).1, (ce_1 hi).2] at h3
    show mReq (mInB (nI i) 37) (mWB l g d k_X12_putsAll Φ 0 0 21 [.ref 0, .ref x, .int (nI t), .int ((nI i) + (1 : Int32)), mJ] [] (mset (pM t (m2 494 i) m2 x (1 + i)) 494 ((nI i).toNatClampNeg) (pR t (m2 494 i) m2 x (1 + i))) o 0 0)
    rw [mIn_ok hi (by decide), nI_cl (show i < 2 ^ 31 by omega), nI_1]
    exact ih _ h3
end R23
