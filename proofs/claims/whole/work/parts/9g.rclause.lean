set_option maxRecDepth 100000
def rdC (a : Nat) : Prop := a = 3 ∨ a = 5 ∨ (8 ≤ a ∧ a ≤ 21) ∨ (38 ≤ a ∧ a ≤ 43) ∨ (52 ≤ a ∧ a ≤ 59)
def rTb (X : Mm) (D : CD) : Prop := (∀ i, i < (D 0).length → X 5 i = (eAt (D 0) i).1) ∧ (∀ i, i < (D 1).length → X (8 + i) 0 = (eAt (D 1) i).1 ∧ X (8 + i) 1 = (eAt (D 1) i).2.1) ∧ (∀ i, i < (D 2).length → X (38 + i) 0 = (eAt (D 2) i).1 ∧ X (38 + i) 1 = (eAt (D 2) i).2.1 ∧ X (38 + i) 2 = (eAt (D 2) i).2.2) ∧ (∀ i, i < (D 3).length → X (52 + i) 0 = (eAt (D 3) i).1 ∧ X (52 + i) 1 = (eAt (D 3) i).2.1)
def RCt (X0 : Mm) (D : CD) (X : Mm) : Prop := (∀ a, a ≠ 0 → ¬ rdC a → X a = X0 a) ∧ (∀ i, i ≠ 7 → X 0 i = X0 0 i) ∧ (∀ k, k < 4 → X 3 k = nI (D k).length) ∧ rTb X D
section R39
variable {l : Launch} {g : mG} {d : Nat}
theorem r_clE (htr : l.stackTraces = false) (o : Int64) {Φ : mR → Mm → Int64 → Prop} (hd : 3 ≤ d) {n : Nat} (hn : n ≤ 600) {X0 Y : Mm} {D : CD} {k : Nat} (hk : k < 4) (hD : cDok D) (Y2 : Y 0 2 = nI n) (Y1 : Y 1 = X0 1) {r : PS × Ent} (hr : r.1.1 ≤ n) (hR : RCt X0 D Y) (h7 : Y 0 7 = nI (tot D + 1)) (hnew : r.1.2.1 = 0 → rTb Y (updD D k (D k ++ [r.2]))) (hΦ : ∀ X', RCt X0 (cE (X0 1) n D k r).2 X' → ((cE (X0 1) n D k r).1.2.1 = 0 → X' 0 7 = nI (tot (cE (X0 1) n D k r).2)) → Φ (.inl none) (mPS X' (cE (X0 1) n D k r).1) o) : mWB l g d k_X12_clause Φ 0 0 269 [.ref 0, .int (nI k), mJ, mJ, mJ, mJ] [] (mPS Y r.1) o 0 0 := by
  refine mGoOn (mOk (by decide)) rfl [294] 400 ?_
  show True ∧ mCal l g d k_X12_clause Φ 0 0 _ 272 k_X12_sign false [.ref 0, .int (59 : Int32)] [] [.ref 0, .int (nI k), mJ, mJ, mJ, mJ] (mPS Y r.1) o 0 0 0
  have hsg := r_sign (l := l) (g := g) (d := d - 1) Y r.1 Y2 hn hr (by omega) 59
  rw [Y1] at hsg
  refine ⟨trivial, fCv htr hsg (by omega) ?_⟩
  have hok := pSgn_ok (T := X0 1) (n := n) (c := 59) (by decide) hr
  have hlen := (hD.2 k hk).1
  have hm := most_le k
  have e3 : mPS Y (pSgn (X0 1) n 59 r.1) 3 k = nI (D k).length := by rw [mPS_o _ _ (by decide)]; exact hR.2.2.1 k hk
  unfold cE at hΦ
  show (Value.int (nI k)).category = 1 ∧ (Value.ref 3).category = 1 ∧ (mReq (mInB (nI k) 4) ((¬ ((mPS Y (pSgn (X0 1) n 59 r.1)) 0 5) = 0 → mWB l g d k_X12_clause Φ 0 0 294 [.ref 0, .int (nI k), mJ, mJ, mJ, mJ] [.int (0 : Int32), .int ((mPS Y (pSgn (X0 1) n 59 r.1)) 3 ((nI k).toNatClampNeg)), .int (nI k), .ref 3] (mPS Y (pSgn (X0 1) n 59 r.1)) o 0 0) ∧ (((mPS Y (pSgn (X0 1) n 59 r.1)) 0 5) = 0 → mWB l g d k_X12_clause Φ 0 0 294 [.ref 0, .int (nI k), mJ, mJ, mJ, mJ] [.int (1 : Int32), .int ((mPS Y (pSgn (X0 1) n 59 r.1)) 3 ((nI k).toNatClampNeg)), .int (nI k), .ref 3] (mPS Y (pSgn (X0 1) n 59 r.1)) o 0 0)))
  rw [mIn_ok hk (by decide), nI_cl (by omega), e3, mPS_5]
  have k294 : ∀ x : Int32, (∀ X', (∀ a, a ≠ 3 → X' a = Y a) → X' 3 = upd (Y 3) k (nI (D k).length + x) → Φ (.inl none) (mPS X' (pSgn (X0 1) n 59 r.1)) o) → mWB l g d k_X12_clause Φ 0 0 294 [.ref 0, .int (nI k), mJ, mJ, mJ, mJ] [.int x, .int (nI (D k).length), .int (nI k), .ref 3] (mPS Y (pSgn (X0 1) n 59 r.1)) o 0 0 := by
    intro x hx
    refine mGoOn (mOk (by decide)) rfl [] 400 ?_
    show mReq (mInB (nI k) 4) (Φ (.inl none) (mset (mPS Y (pSgn (X0 1) n 59 r.1)) 3 ((nI k).toNatClampNeg) ((nI (D k).length) + x)) o ∧ 0 ≤ 0 ∧ 0 ≤ 0)
    rw [mIn_ok hk (by decide), nI_cl (by omega), mPS_set _ _ (by decide)]
    exact mReq_i rfl (eR (hx _ (fun a ha => mset_ne _ _ _ ha) (by rw [mset_eq])))
  refine ⟨rfl, rfl, mReq_i rfl ⟨fun z => k294 0 (fun X' h1 h2 => ?_), fun z => k294 1 (fun X' h1 h2 => ?_)⟩⟩
  · rw [ifp_f z] at hΦ
    have e3' : X' 3 = Y 3 := by
      rw [h2]
      funext j
      rw [upd_at]
      by_cases q : j = k
      · rw [if_pos q, q, hR.2.2.1 k hk, nI_a0]
      · rw [if_neg q]
    have eX : X' = Y := by
      funext a
      by_cases q : a = 3
      · rw [q, e3']
      · exact h1 a q
    rw [eX]
    exact hΦ Y hR (fun y => absurd y z)
  · rw [ifp_t z] at hΦ
    rw [nI_1] at h2
    refine hΦ X' ⟨fun a ha hc => ?_, fun i hi => ?_, fun j hj => ?_, ?_⟩ (fun _ => ?_)
    · rw [h1 a (fun q => hc (Or.inl q))]; exact hR.1 a ha hc
    · rw [h1 0 (by decide)]; exact hR.2.1 i hi
    · rw [h2, upd_at]
      show _ = nI (updD D k (D k ++ [r.2]) j).length
      rw [updD_at]
      by_cases q : j = k
      · rw [if_pos q, if_pos q, len_app]
      · rw [if_neg q, if_neg q]; exact hR.2.2.1 j hj
    · have hT := hnew (hok.2 z).1
      unfold rTb at hT ⊢
      refine ⟨fun i hi => ?_, fun i hi => ?_, fun i hi => ?_, fun i hi => ?_⟩
      · rw [h1 5 (by decide)]; exact hT.1 i hi
      · rw [h1 (8 + i) (by omega)]; exact hT.2.1 i hi
      · rw [h1 (38 + i) (by omega)]; exact hT.2.2.1 i hi
      · rw [h1 (52 + i) (by omega)]; exact hT.2.2.2 i hi
    · rw [h1 0 (by decide), h7]
      show _ = nI (tot (updD D k (D k ++ [r.2])))
      rw [tot_upd hk]
/-- rows of one kind are set behind the last -/
theorem rTb_set {Y Y' : Mm} {D : CD} {k : Nat} (hk : k < 4) {e : Ent} (hT : rTb Y D) (hD : cDok D) (hm : (D k).length ≠ most k) (h5 : ∀ i, i < (D 0).length → Y' 5 i = Y 5 i) (hr : ∀ a, 8 ≤ a → a ≤ 59 → (k = 1 → a ≠ 8 + (D 1).length) → (k = 2 → a ≠ 38 + (D 2).length) → (k = 3 → a ≠ 52 + (D 3).length) → Y' a = Y a)
    (n0 : k = 0 → Y' 5 (D 0).length = e.1) (n1 : k = 1 → Y' (8 + (D 1).length) 0 = e.1 ∧ Y' (8 + (D 1).length) 1 = e.2.1) (n2 : k = 2 → Y' (38 + (D 2).length) 0 = e.1 ∧ Y' (38 + (D 2).length) 1 = e.2.1 ∧ Y' (38 + (D 2).length) 2 = e.2.2) (n3 : k = 3 → Y' (52 + (D 3).length) 0 = e.1 ∧ Y' (52 + (D 3).length) 1 = e.2.1) : rTb Y' (updD D k (D k ++ [e])) := by
  have m0 : (D 0).length ≤ 9 := (hD.2 0 (by decide)).1
  have m1 : (D 1).length ≤ 14 := (hD.2 1 (by decide)).1
  have m2 : (D 2).length ≤ 6 := (hD.2 2 (by decide)).1
  have m3 : (D 3).length ≤ 8 := (hD.2 3 (by decide)).1
  unfold rTb
  rw [updD_at, updD_at, updD_at, updD_at]
  refine ⟨fun i hi => ?_, fun i hi => ?_, fun i hi => ?_, fun i hi => ?_⟩
  · by_cases q : 0 = k
    · subst q
      rw [if_pos rfl] at hi ⊢
      rw [len_app] at hi
      by_cases y : i = (D 0).length
      · rw [y, eAt_new]; exact n0 rfl
      · rw [eAt_app (by omega), h5 i (by omega)]; exact hT.1 i (by omega)
    · rw [if_neg q] at hi ⊢
      rw [h5 i hi]; exact hT.1 i hi
  · by_cases q : 1 = k
    · subst q
      rw [if_pos rfl] at hi ⊢
      rw [len_app] at hi
      have hm' : (D 1).length ≠ 14 := hm
      by_cases y : i = (D 1).length
      · rw [y, eAt_new]; exact n1 rfl
      · rw [eAt_app (by omega), hr (8 + i) (by omega) (by omega) (fun _ => by omega) (fun z => by omega) (fun z => by omega)]; exact hT.2.1 i (by omega)
    · rw [if_neg q] at hi ⊢
      rw [hr (8 + i) (by omega) (by omega) (fun z => absurd z.symm q) (fun z => by omega) (fun z => by omega)]; exact hT.2.1 i hi
  · by_cases q : 2 = k
    · subst q
      rw [if_pos rfl] at hi ⊢
      rw [len_app] at hi
      have hm' : (D 2).length ≠ 6 := hm
      by_cases y : i = (D 2).length
      · rw [y, eAt_new]; exact n2 rfl
      · rw [eAt_app (by omega), hr (38 + i) (by omega) (by omega) (fun z => by omega) (fun _ => by omega) (fun z => by omega)]; exact hT.2.2.1 i (by omega)
    · rw [if_neg q] at hi ⊢
      have m1' : k = 1 → (D 1).length ≠ 14 := fun z => by subst z; exact hm
      rw [hr (38 + i) (by omega) (by omega) (fun z => by have := m1' z; omega) (fun z => absurd z.symm q) (fun z => by omega)]; exact hT.2.2.1 i hi
  · by_cases q : 3 = k
    · subst q
      rw [if_pos rfl] at hi ⊢
      rw [len_app] at hi
      have hm' : (D 3).length ≠ 8 := hm
      by_cases y : i = (D 3).length
      · rw [y, eAt_new]; exact n3 rfl
      · rw [eAt_app (by omega), hr (52 + i) (by omega) (by omega) (fun z => by omega) (fun z => by omega) (fun _ => by omega)]; exact hT.2.2.2 i (by omega)
    · rw [if_neg q] at hi ⊢
      rw [hr (52 + i) (by omega) (by omega) (fun z => by omega) (fun z => by omega) (fun z => absurd z.symm q)]; exact hT.2.2.2 i hi
end R39
