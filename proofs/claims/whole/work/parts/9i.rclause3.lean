set_option maxRecDepth 100000
section R41
variable {l : Launch} {g : mG} {d n : Nat} {X0 : Mm}
theorem r_clause {X : Mm} {c : CS} (hd : 7 ≤ d) (hn : n ≤ 600) (h2 : X0 0 2 = nI n) (hok : cOk (X0 1) n c) (hf : c.1.2.1 = 0) (hR : RCt X0 c.2 X) (h7 : X 0 7 = nI (tot c.2)) : mHv l g d k_X12_clause [.ref 0] (mPS X c.1) (fun m2 => ∃ X', m2 = mPS X' (cl0 (X0 1) n c).1 ∧ RCt X0 (cl0 (X0 1) n c).2 X' ∧ ((cl0 (X0 1) n c).1.2.1 = 0 → X' 0 7 = nI (tot (cl0 (X0 1) n c).2))) := by
  obtain ⟨hp, hq, hD⟩ := hok
  have eX2 : X 0 2 = nI n := by rw [hR.2.1 2 (by decide)]; exact h2
  have eX1 : X 1 = X0 1 := hR.1 1 (by decide) (by unfold rdC; omega)
  refine nBv 5 rfl rfl rfl (by decide) rfl (fun htr o Φ hΦ => mGoOn (mOk (by decide)) rfl [53,269] 400 ?_)
  show True ∧ mCal l g d k_X12_clause Φ 0 0 _ 1 k_X12_kindHere false [.ref 0] [] [.ref 0, mJ, mJ, mJ, mJ, mJ] (mPS X c.1) o 0 0 1
  have hk := r_kindHere (l := l) (g := g) (d := d - 1) (X := X) (p := c.1) eX2 hn hp hf (by rw [eX1]; exact hq) (by omega)
  rw [eX1] at hk
  refine ⟨trivial, fCi htr hk (by omega) ?_⟩
  have hle := kdH_le (T := X0 1) (n := n) c.1.1
  have hpos := kdH_pos (T := X0 1) (n := n) hp
  have hΦ2 : ∀ X', RCt X0 (cl0 (X0 1) n c).2 X' → ((cl0 (X0 1) n c).1.2.1 = 0 → X' 0 7 = nI (tot (cl0 (X0 1) n c).2)) → Φ (.inl none) (mPS X' (cl0 (X0 1) n c).1) o := fun X' a b => hΦ _ ⟨X', rfl, a, b⟩
  unfold cl0 at hΦ2
  clear hΦ
  generalize kdH (X0 1) n c.1.1 = k at hle hpos hΦ2 ⊢
  have k53 : ∀ (v : Int32) (f : Int32), f ≠ 0 → (∀ X', RCt X0 c.2 X' → Φ (.inl none) (mPS X' (c.1.1, f, nI c.1.1)) o) → mWB l g d k_X12_clause Φ 0 0 53 [.ref 0, .int v, mJ, mJ, mJ, mJ] [] (mPS X (c.1.1, f, nI c.1.1)) o 0 0 := by
    intro v f hf0 h
    refine mGoOn (mOk (by decide)) rfl [269] 400 ?_
    show (((mPS X (c.1.1, f, nI c.1.1)) 0 5) = 0 → True ∧ mCal l g d k_X12_clause Φ 0 0 _ 62 k_X12_skipWord false [.ref 0] [] [.ref 0, .int v, mJ, mJ, mJ, mJ] (mPS X (c.1.1, f, nI c.1.1)) o 0 0 0) ∧ (¬ ((mPS X (c.1.1, f, nI c.1.1)) 0 5) = 0 → Φ (.inl none) (mPS X (c.1.1, f, nI c.1.1)) o ∧ 0 ≤ 0 ∧ 0 ≤ 0)
    rw [mPS_5]
    exact ⟨fun z => absurd z hf0, fun _ => eR (h X hR)⟩
  have ew : ∀ f : Int32, pWr f (nI c.1.1) c.1 = (c.1.1, f, nI c.1.1) := fun f => if_pos hf
  show (¬ (kdI k) = (-1 : Int32) → (((mPS X c.1) 0 7) = (60 : Int32) → True ∧ mCal l g d k_X12_clause Φ 0 0 _ 50 k_X12_wrong false [.ref 0, .int (3 : Int32), .int ((mPS X c.1) 0 4)] [] [.ref 0, .int (kdI k), mJ, mJ, mJ, mJ] (mPS X c.1) o 0 0 0) ∧ (¬ ((mPS X c.1) 0 7) = (60 : Int32) → mReq (mInB (kdI k) 4) (mCal l g d k_X12_clause Φ 0 0 _ 38 k_X12_mostOf false [.int (kdI k)] [.int ((mPS X c.1) 3 ((kdI k).toNatClampNeg))] [.ref 0, .int (kdI k), mJ, mJ, mJ, mJ] (mPS X c.1) o 0 0 1))) ∧ ((kdI k) = (-1 : Int32) → True ∧ mCal l g d k_X12_clause Φ 0 0 _ 16 k_X12_wrong false [.ref 0, .int (1 : Int32), .int ((mPS X c.1) 0 4)] [] [.ref 0, .int (kdI k), mJ, mJ, mJ, mJ] (mPS X c.1) o 0 0 0)
  by_cases q4 : k = 4
  · rw [ifp_t q4] at hΦ2
    rw [q4, show kdI 4 = -1 from rfl]
    refine ⟨fun z => absurd rfl z, fun _ => ?_⟩
    have hw := q_wrong (l := l) (g := g) (d := d - 1) 1 (nI c.1.1) X c.1
    rw [ew 1] at hw
    rw [mPS_4]
    refine ⟨trivial, fCv htr hw (by omega) (k53 _ 1 (by decide) (fun X' hX' => hΦ2 X' hX' (fun z => absurd (show (1 : Int32) = 0 from z) (by decide))))⟩
  · rw [ifp_f q4] at hΦ2
    have hk4 : k < 4 := by omega
    have ek : kdI k = nI k := if_neg q4
    have hlen := (hD.2 k hk4).1
    have hmo := most_le k
    have e3 : mPS X c.1 3 k = nI (c.2 k).length := by rw [mPS_o _ _ (by decide)]; exact hR.2.2.1 k hk4
    have e7 : mPS X c.1 0 7 = nI (tot c.2) := by rw [mPS_f _ _ (by decide) (by decide) (by decide)]; exact h7
    have ht := hD.1
    rw [ek, mIn_ok hk4 (by decide), nI_cl (by omega), e3, e7, mPS_4, show (60 : Int32) = nI 60 from rfl, nI_eq (by omega) (by decide)]
    have hw := q_wrong (l := l) (g := g) (d := d - 1) 3 (nI c.1.1) X c.1
    rw [ew 3] at hw
    refine ⟨fun _ => ⟨fun q60 => ?_, fun q60 => ?_⟩, fun z => absurd z (nI_nm (by omega))⟩
    · rw [ifp_t (Or.inl q60)] at hΦ2
      exact ⟨trivial, fCv htr hw (by omega) (k53 _ 3 (by decide) (fun X' hX' => hΦ2 X' hX' (fun z => absurd (show (3 : Int32) = 0 from z) (by decide))))⟩
    · refine mReq_i rfl (fCi htr (r_mostOf _ hk4) (by omega) ?_)
      show (¬ (nI (c.2 k).length) = (nI (most k)) → mWB l g d k_X12_clause Φ 0 0 53 [.ref 0, .int (nI k), mJ, mJ, mJ, mJ] [] (mPS X c.1) o 0 0) ∧ ((nI (c.2 k).length) = (nI (most k)) → True ∧ mCal l g d k_X12_clause Φ 0 0 _ 50 k_X12_wrong false [.ref 0, .int (3 : Int32), .int ((mPS X c.1) 0 4)] [] [.ref 0, .int (nI k), mJ, mJ, mJ, mJ] (mPS X c.1) o 0 0 0)
      rw [nI_eq (by omega) (by omega), mPS_4]
      refine ⟨fun qm => ?_, fun qm => ?_⟩
      · rw [ifp_f (fun z => z.elim q60 qm)] at hΦ2
        obtain ⟨hp2, hp3⟩ := hpos q4
        refine mGoOn (mOk (by decide)) rfl [269,108,124,197,242] 400 ?_
        show (((mPS X c.1) 0 5) = 0 → True ∧ mCal l g d k_X12_clause Φ 0 0 _ 62 k_X12_skipWord false [.ref 0] [] [.ref 0, .int (nI k), mJ, mJ, mJ, mJ] (mPS X c.1) o 0 0 0) ∧ (¬ ((mPS X c.1) 0 5) = 0 → Φ (.inl none) (mPS X c.1) o ∧ 0 ≤ 0 ∧ 0 ≤ 0)
        rw [mPS_5]
        refine ⟨fun _ => ?_, fun z => absurd hf z⟩
        have hsw := r_skipWord (l := l) (g := g) (d := d - 1) X c.1 eX2 hn hp (by omega)
        rw [eX1] at hsw
        have ep : pSkw (X0 1) n c.1 = (swd (X0 1) n (n - c.1.1) c.1.1, c.1.2) := rfl
        rw [ep] at hsw
        refine ⟨trivial, fCv htr hsw (by omega) ?_⟩
        show (Value.ref 0).category = 1 ∧ (mReq (mInB (nI k) 4) ((((nI k).toInt = 0 → mWB l g d k_X12_clause Φ 0 0 108 [.ref 0, .int (nI k), .int ((mset (mPS X (swd (X0 1) n (n - c.1.1) c.1.1, c.1.2)) 0 7 (((mPS X (swd (X0 1) n (n - c.1.1) c.1.1, c.1.2)) 0 7) + (1 : Int32))) 3 ((nI k).toNatClampNeg)), mJ, mJ, mJ] [] (mset (mPS X (swd (X0 1) n (n - c.1.1) c.1.1, c.1.2)) 0 7 (((mPS X (swd (X0 1) n (n - c.1.1) c.1.1, c.1.2)) 0 7) + (1 : Int32))) o 0 0) ∧ ((nI k).toInt = 1 → mWB l g d k_X12_clause Φ 0 0 124 [.ref 0, .int (nI k), .int ((mset (mPS X (swd (X0 1) n (n - c.1.1) c.1.1, c.1.2)) 0 7 (((mPS X (swd (X0 1) n (n - c.1.1) c.1.1, c.1.2)) 0 7) + (1 : Int32))) 3 ((nI k).toNatClampNeg)), mJ, mJ, mJ] [] (mset (mPS X (swd (X0 1) n (n - c.1.1) c.1.1, c.1.2)) 0 7 (((mPS X (swd (X0 1) n (n - c.1.1) c.1.1, c.1.2)) 0 7) + (1 : Int32))) o 0 0) ∧ ((nI k).toInt = 2 → mWB l g d k_X12_clause Φ 0 0 197 [.ref 0, .int (nI k), .int ((mset (mPS X (swd (X0 1) n (n - c.1.1) c.1.1, c.1.2)) 0 7 (((mPS X (swd (X0 1) n (n - c.1.1) c.1.1, c.1.2)) 0 7) + (1 : Int32))) 3 ((nI k).toNatClampNeg)), mJ, mJ, mJ] [] (mset (mPS X (swd (X0 1) n (n - c.1.1) c.1.1, c.1.2)) 0 7 (((mPS X (swd (X0 1) n (n - c.1.1) c.1.1, c.1.2)) 0 7) + (1 : Int32))) o 0 0) ∧ True) ∧ ((nI k).toInt < 0 ∨ 2 < (nI k).toInt → mWB l g d k_X12_clause Φ 0 0 242 [.ref 0, .int (nI k), .int ((mset (mPS X (swd (X0 1) n (n - c.1.1) c.1.1, c.1.2)) 0 7 (((mPS X (swd (X0 1) n (n - c.1.1) c.1.1, c.1.2)) 0 7) + (1 : Int32))) 3 ((nI k).toNatClampNeg)), mJ, mJ, mJ] [] (mset (mPS X (swd (X0 1) n (n - c.1.1) c.1.1, c.1.2)) 0 7 (((mPS X (swd (X0 1) n (n - c.1.1) c.1.1, c.1.2)) 0 7) + (1 : Int32))) o 0 0)))
        have e7' : mPS X (swd (X0 1) n (n - c.1.1) c.1.1, c.1.2) 0 7 = nI (tot c.2) := by rw [mPS_f _ _ (by decide) (by decide) (by decide)]; exact h7
        rw [e7', nI_1, mPS_set0 _ _ (by decide) (by decide) (by decide), mPS_o _ _ (show (3 : Nat) ≠ 0 by decide), mset_ne _ _ _ (show (3 : Nat) ≠ 0 by decide), mIn_ok hk4 (by decide), nI_cl (by omega), hR.2.2.1 k hk4, nI_toInt (by omega)]
        have R7 : RCt X0 c.2 (mset X 0 7 (nI (tot c.2 + 1))) := by
          obtain ⟨a1, a2, a3, b0, b1, b2, b3⟩ := hR
          refine ⟨fun a ha hc => by rw [mset_ne _ _ _ ha]; exact a1 a ha hc, fun i hi => by rw [mset_eq, pk_un hi]; exact a2 i hi, fun j hj => by rw [mset_ne _ _ _ (by decide)]; exact a3 j hj, fun i hi => by rw [mset_ne _ _ _ (by decide)]; exact b0 i hi, fun i hi => by rw [mset_ne _ _ _ (by omega)]; exact b1 i hi, fun i hi => by rw [mset_ne _ _ _ (by omega)]; exact b2 i hi, fun i hi => by rw [mset_ne _ _ _ (by omega)]; exact b3 i hi⟩
        have y2 : mset X 0 7 (nI (tot c.2 + 1)) 0 2 = nI n := by rw [mset_eq, pk_un (by decide)]; exact eX2
        have y1 : mset X 0 7 (nI (tot c.2 + 1)) 1 = X0 1 := by rw [mset_ne _ _ _ (by decide)]; exact eX1
        have y7 : mset X 0 7 (nI (tot c.2 + 1)) 0 7 = nI (tot c.2 + 1) := by rw [mset_eq, pk_us]
        generalize mset X 0 7 (nI (tot c.2 + 1)) = Y at R7 y2 y1 y7 ⊢
        unfold cB at hΦ2
        refine ⟨rfl, mReq_i rfl ⟨⟨fun z => ?_, fun z => ?_, fun z => ?_, trivial⟩, fun z => ?_⟩⟩
        · have e : k = 0 := by omega
          subst e
          rw [if_pos rfl] at hΦ2
          exact r_c0 htr o (by omega) hn hD qm y2 y1 hp3 R7 y7 hΦ2
        · have e : k = 1 := by omega
          subst e
          rw [if_neg (by decide), if_pos rfl] at hΦ2
          exact r_c1 htr o (by omega) hn hD qm y2 y1 hp3 R7 y7 hΦ2
        · have e : k = 2 := by omega
          subst e
          rw [if_neg (by decide), if_neg (by decide), if_pos rfl] at hΦ2
          exact r_c2 htr o (by omega) hn hD qm y2 y1 hp3 R7 y7 hΦ2
        · have e : k = 3 := by omega
          subst e
          rw [if_neg (by decide), if_neg (by decide), if_neg (by decide)] at hΦ2
          exact r_c3 htr o (by omega) hn hD qm y2 y1 hp3 R7 y7 hΦ2
      · rw [ifp_t (Or.inr qm)] at hΦ2
        exact ⟨trivial, fCv htr hw (by omega) (k53 _ 3 (by decide) (fun X' hX' => hΦ2 X' hX' (fun z => absurd (show (3 : Int32) = 0 from z) (by decide))))⟩
end R41
