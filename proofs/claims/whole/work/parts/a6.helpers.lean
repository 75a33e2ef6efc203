set_option maxRecDepth 100000
/-! THE LAW'S HELPERS -/
/-- what a helper answers where the class answers by q: 0, and the answer lies in the row; or which exception came -/
def hO (A : Mm) (q : Oc) : mR → Mm → Int64 → Prop := mIX (fun r m2 o2 => r = q.1 ∧ (q.1 = 0 → o2 = q.2.2.toInt64 ∧ cl m2 = A) ∧ (q.1 ≠ 0 → cl m2 = mset A 586 (15 + q.2.1) (A 586 (15 + q.2.1) + 1))) mN0
def hS (l : Launch) (g : mG) (d k : Nat) (As : List Value) (m A : Mm) (q : Oc) : Prop := l.stackTraces = false → ∀ o, mSat l g d k As m o (hO A q) 4 24
def hOL (A : Mm) (q : OcL) : mR → Mm → Int64 → Prop := mIX (fun r m2 o2 => r = q.1 ∧ (q.1 = 0 → o2 = q.2.2 ∧ cl m2 = A) ∧ (q.1 ≠ 0 → cl m2 = mset A 586 (15 + q.2.1) (A 586 (15 + q.2.1) + 1))) mN0
def hSL (l : Launch) (g : mG) (d k : Nat) (As : List Value) (m A : Mm) (q : OcL) : Prop := l.stackTraces = false → ∀ o, mSat l g d k As m o (hOL A q) 4 24
def hQ (Q : Int32 → Mm → Prop) (E : Nat → Mm → Prop) : mR → Mm → Int64 → Prop := mIX (fun r m2 o2 => (r = 0 ∧ ∃ v, Q v m2 ∧ o2 = v.toInt64) ∨ (r = 1 ∧ E 0 m2)) mN0
def hX (l : Launch) (g : mG) (d k : Nat) (As : List Value) (m : Mm) (Q : Int32 → Mm → Prop) (E : Nat → Mm → Prop) : Prop := l.stackTraces = false → ∀ o, mSat l g d k As m o (hQ Q E) 4 24
section HL
variable {l : Launch} {g : mG} {d : Nat} {m A : Mm}
theorem h_city (p0 : Int32) {Q : Int32 → Mm → Prop} {E : Nat → Mm → Prop} (hx : mHx l g (d - 1) k_X11_city [.ref 586, .int p0] m Q E) (hE : ∀ x m2, E x m2 → x = 0) (hd : 1 ≤ d) : hX l g d k_L_city [.ref 586, .int p0, .ref 585] m Q E := by
  intro htr o
  refine mSat_ofH htr (by decide) (by decide) rfl 1 (m1c_of rfl) rfl (mGoOn (mOk (by decide)) rfl [] 400 ?_)
  have hΦ : ∀ r m2 o2, ((r = 0 ∧ ∃ v, Q v m2 ∧ o2 = v.toInt64) ∨ (r = 1 ∧ E 0 m2)) → hQ Q E (.inl (some (.int r))) m2 o2 := fun _ _ _ q => q
  generalize hQ Q E = Φ at hΦ ⊢
  show True ∧ mCal l g d k_L_city Φ 4 24 _ 4 k_X11_city false [.ref 586, .int p0] [.int (0 : Int32), .ref 585] [.ref 586, .int p0, .ref 585, mJ] m o 0 0 1
  refine ⟨trivial, d - 1, fun v m2 o2 => Q v m2 ∧ o2 = o, fun x m2 o2 => E x m2 ∧ o2 = o, 4, 24, by omega, hx htr o, by decide, by decide, ?_, ?_⟩
  · rintro v m2 o2 ⟨q, rfl⟩
    show (aOut = aOut ∧ (Φ (.inl (some (.int (0 : Int32)))) m2 v.toInt64 ∧ 4 ≤ 4 ∧ 24 ≤ 24))
    exact ⟨rfl, hΦ _ _ _ (Or.inl ⟨rfl, v, q, rfl⟩), Nat.le_refl _, Nat.le_refl _⟩
  · show ∀ x m2 o2, _ → _
    rintro x m2 o2 ⟨q, rfl⟩
    have e := hE x m2 q
    subst e
    refine mXB_n (mOk (by decide)) rfl [] [] rfl (by decide) (Or.inl ⟨rfl, rfl, fun z hz => absurd hz List.not_mem_nil⟩) rfl 4 (mGoOn (mOk (by decide)) rfl [] 400 ?_)
    show Φ (.inl (some (.int (1 : Int32)))) m2 o2 ∧ 4 ≤ 4 ∧ 24 ≤ 24
    exact ⟨hΦ _ _ _ (Or.inr ⟨rfl, q⟩), Nat.le_refl _, Nat.le_refl _⟩
theorem h_law (p0 : Int32) {Q : Int32 → Mm → Prop} {E : Nat → Mm → Prop} (hx : mHx l g (d - 1) k_X11_law [.ref 586, .int p0] m Q E) (hE : ∀ x m2, E x m2 → x = 0) (hd : 1 ≤ d) : hX l g d k_L_law [.ref 586, .int p0, .ref 585] m Q E := by
  intro htr o
  refine mSat_ofH htr (by decide) (by decide) rfl 1 (m1c_of rfl) rfl (mGoOn (mOk (by decide)) rfl [] 400 ?_)
  have hΦ : ∀ r m2 o2, ((r = 0 ∧ ∃ v, Q v m2 ∧ o2 = v.toInt64) ∨ (r = 1 ∧ E 0 m2)) → hQ Q E (.inl (some (.int r))) m2 o2 := fun _ _ _ q => q
  generalize hQ Q E = Φ at hΦ ⊢
  show True ∧ mCal l g d k_L_law Φ 4 24 _ 4 k_X11_law false [.ref 586, .int p0] [.int (0 : Int32), .ref 585] [.ref 586, .int p0, .ref 585, mJ] m o 0 0 1
  refine ⟨trivial, d - 1, fun v m2 o2 => Q v m2 ∧ o2 = o, fun x m2 o2 => E x m2 ∧ o2 = o, 4, 24, by omega, hx htr o, by decide, by decide, ?_, ?_⟩
  · rintro v m2 o2 ⟨q, rfl⟩
    show (aOut = aOut ∧ (Φ (.inl (some (.int (0 : Int32)))) m2 v.toInt64 ∧ 4 ≤ 4 ∧ 24 ≤ 24))
    exact ⟨rfl, hΦ _ _ _ (Or.inl ⟨rfl, v, q, rfl⟩), Nat.le_refl _, Nat.le_refl _⟩
  · show ∀ x m2 o2, _ → _
    rintro x m2 o2 ⟨q, rfl⟩
    have e := hE x m2 q
    subst e
    refine mXB_n (mOk (by decide)) rfl [] [] rfl (by decide) (Or.inl ⟨rfl, rfl, fun z hz => absurd hz List.not_mem_nil⟩) rfl 4 (mGoOn (mOk (by decide)) rfl [] 400 ?_)
    show Φ (.inl (some (.int (1 : Int32)))) m2 o2 ∧ 4 ≤ 4 ∧ 24 ≤ 24
    exact ⟨hΦ _ _ _ (Or.inr ⟨rfl, q⟩), Nat.le_refl _, Nat.le_refl _⟩
theorem h_work (p0 : Int32) {Q : Int32 → Mm → Prop} {E : Nat → Mm → Prop} (hx : mHx l g (d - 1) k_X11_work [.ref 586, .int p0] m Q E) (hE : ∀ x m2, E x m2 → x = 0) (hd : 1 ≤ d) : hX l g d k_L_work [.ref 586, .int p0, .ref 585] m Q E := by
  intro htr o
  refine mSat_ofH htr (by decide) (by decide) rfl 1 (m1c_of rfl) rfl (mGoOn (mOk (by decide)) rfl [] 400 ?_)
  have hΦ : ∀ r m2 o2, ((r = 0 ∧ ∃ v, Q v m2 ∧ o2 = v.toInt64) ∨ (r = 1 ∧ E 0 m2)) → hQ Q E (.inl (some (.int r))) m2 o2 := fun _ _ _ q => q
  generalize hQ Q E = Φ at hΦ ⊢
  show True ∧ mCal l g d k_L_work Φ 4 24 _ 4 k_X11_work false [.ref 586, .int p0] [.int (0 : Int32), .ref 585] [.ref 586, .int p0, .ref 585, mJ] m o 0 0 1
  refine ⟨trivial, d - 1, fun v m2 o2 => Q v m2 ∧ o2 = o, fun x m2 o2 => E x m2 ∧ o2 = o, 4, 24, by omega, hx htr o, by decide, by decide, ?_, ?_⟩
  · rintro v m2 o2 ⟨q, rfl⟩
    show (aOut = aOut ∧ (Φ (.inl (some (.int (0 : Int32)))) m2 v.toInt64 ∧ 4 ≤ 4 ∧ 24 ≤ 24))
    exact ⟨rfl, hΦ _ _ _ (Or.inl ⟨rfl, v, q, rfl⟩), Nat.le_refl _, Nat.le_refl _⟩
  · show ∀ x m2 o2, _ → _
    rintro x m2 o2 ⟨q, rfl⟩
    have e := hE x m2 q
    subst e
    refine mXB_n (mOk (by decide)) rfl [] [] rfl (by decide) (Or.inl ⟨rfl, rfl, fun z hz => absurd hz List.not_mem_nil⟩) rfl 4 (mGoOn (mOk (by decide)) rfl [] 400 ?_)
    show Φ (.inl (some (.int (1 : Int32)))) m2 o2 ∧ 4 ≤ 4 ∧ 24 ≤ 24
    exact ⟨hΦ _ _ _ (Or.inr ⟨rfl, q⟩), Nat.le_refl _, Nat.le_refl _⟩
theorem h_book (p0 : Int32) {Q : Int32 → Mm → Prop} {E : Nat → Mm → Prop} (hx : mHx l g (d - 1) k_X11_book [.ref 586, .int p0] m Q E) (hE : ∀ x m2, E x m2 → x = 0) (hd : 1 ≤ d) : hX l g d k_L_book [.ref 586, .int p0, .ref 585] m Q E := by
  intro htr o
  refine mSat_ofH htr (by decide) (by decide) rfl 1 (m1c_of rfl) rfl (mGoOn (mOk (by decide)) rfl [] 400 ?_)
  have hΦ : ∀ r m2 o2, ((r = 0 ∧ ∃ v, Q v m2 ∧ o2 = v.toInt64) ∨ (r = 1 ∧ E 0 m2)) → hQ Q E (.inl (some (.int r))) m2 o2 := fun _ _ _ q => q
  generalize hQ Q E = Φ at hΦ ⊢
  show True ∧ mCal l g d k_L_book Φ 4 24 _ 4 k_X11_book false [.ref 586, .int p0] [.int (0 : Int32), .ref 585] [.ref 586, .int p0, .ref 585, mJ] m o 0 0 1
  refine ⟨trivial, d - 1, fun v m2 o2 => Q v m2 ∧ o2 = o, fun x m2 o2 => E x m2 ∧ o2 = o, 4, 24, by omega, hx htr o, by decide, by decide, ?_, ?_⟩
  · rintro v m2 o2 ⟨q, rfl⟩
    show (aOut = aOut ∧ (Φ (.inl (some (.int (0 : Int32)))) m2 v.toInt64 ∧ 4 ≤ 4 ∧ 24 ≤ 24))
    exact ⟨rfl, hΦ _ _ _ (Or.inl ⟨rfl, v, q, rfl⟩), Nat.le_refl _, Nat.le_refl _⟩
  · show ∀ x m2 o2, _ → _
    rintro x m2 o2 ⟨q, rfl⟩
    have e := hE x m2 q
    subst e
    refine mXB_n (mOk (by decide)) rfl [] [] rfl (by decide) (Or.inl ⟨rfl, rfl, fun z hz => absurd hz List.not_mem_nil⟩) rfl 4 (mGoOn (mOk (by decide)) rfl [] 400 ?_)
    show Φ (.inl (some (.int (1 : Int32)))) m2 o2 ∧ 4 ≤ 4 ∧ 24 ≤ 24
    exact ⟨hΦ _ _ _ (Or.inr ⟨rfl, q⟩), Nat.le_refl _, Nat.le_refl _⟩
theorem h_told (p0 : Int32) {q : Oc} (hx : xS l g (d - 1) k_X11_told [.ref 586, .int p0] m A q) (hq : q.1 = 0 ∨ (q.1 = 1 ∧ q.2.1 = 1)) (hd : 1 ≤ d) : hS l g d k_L_told [.ref 586, .int p0, .ref 585] m A q := by
  intro htr o
  refine mSat_ofH htr (by decide) (by decide) rfl 1 (m1c_of rfl) rfl (mGoOn (mOk (by decide)) rfl [] 400 ?_)
  have hΦ : ∀ r m2 o2, (r = q.1 ∧ (q.1 = 0 → o2 = q.2.2.toInt64 ∧ cl m2 = A) ∧ (q.1 ≠ 0 → cl m2 = mset A 586 (15 + q.2.1) (A 586 (15 + q.2.1) + 1))) → hO A q (.inl (some (.int r))) m2 o2 := fun _ _ _ q => q
  generalize hO A q = Φ at hΦ ⊢
  show True ∧ mCal l g d k_L_told Φ 4 24 _ 4 k_X11_told false [.ref 586, .int p0] [.int (0 : Int32), .ref 585] [.ref 586, .int p0, .ref 585, mJ] m o 0 0 1
  refine ⟨trivial, d - 1, fun v m2 o2 => xOk A q (.inl (some (.int v))) m2 ∧ o2 = o, fun x m2 o2 => xOk A q (.inr x) m2 ∧ o2 = o, 4, 24, by omega, hx htr o, by decide, by decide, ?_, ?_⟩
  · rintro v m2 o2 ⟨⟨a1, a2, a3⟩, rfl⟩
    show (aOut = aOut ∧ (Φ (.inl (some (.int (0 : Int32)))) m2 v.toInt64 ∧ 4 ≤ 4 ∧ 24 ≤ 24))
    exact ⟨rfl, hΦ _ _ _ ⟨a1.symm, fun _ => ⟨by rw [a2], a3⟩, fun y => absurd a1 y⟩, Nat.le_refl _, Nat.le_refl _⟩
  · show ∀ x m2 o2, _ → _
    rintro x m2 o2 ⟨⟨a1, a2, a3⟩, rfl⟩
    rcases hq with q0 | ⟨q1, q2⟩
    · exact absurd q0 a1
    · rw [q2] at a2
      have e : x = 0 := a2
      subst e
      refine mXB_n (mOk (by decide)) rfl [] [] rfl (by decide) (Or.inl ⟨rfl, rfl, fun z hz => absurd hz List.not_mem_nil⟩) rfl 4 (mGoOn (mOk (by decide)) rfl [] 400 ?_)
      show Φ (.inl (some (.int (1 : Int32)))) m2 o2 ∧ 4 ≤ 4 ∧ 24 ≤ 24
      exact ⟨hΦ _ _ _ ⟨q1.symm, fun y => absurd y a1, fun _ => a3⟩, Nat.le_refl _, Nat.le_refl _⟩
theorem h_street (p0 p1 : Int32) {q : Oc} (hx : xS l g (d - 1) k_X11_street [.ref 586, .int p0, .int p1] m A q) (hq : q.1 = 0 ∨ (q.1 = 1 ∧ q.2.1 = 0) ∨ (q.1 = 2 ∧ q.2.1 = 1)) (hd : 1 ≤ d) : hS l g d k_L_street [.ref 586, .int p0, .int p1, .ref 585] m A q := by
  intro htr o
  refine mSat_ofH htr (by decide) (by decide) rfl 1 (m1c_of rfl) rfl (mGoOn (mOk (by decide)) rfl [] 400 ?_)
  have hΦ : ∀ r m2 o2, (r = q.1 ∧ (q.1 = 0 → o2 = q.2.2.toInt64 ∧ cl m2 = A) ∧ (q.1 ≠ 0 → cl m2 = mset A 586 (15 + q.2.1) (A 586 (15 + q.2.1) + 1))) → hO A q (.inl (some (.int r))) m2 o2 := fun _ _ _ q => q
  generalize hO A q = Φ at hΦ ⊢
  show True ∧ mCal l g d k_L_street Φ 4 24 _ 5 k_X11_street false [.ref 586, .int p0, .int p1] [.int (0 : Int32), .ref 585] [.ref 586, .int p0, .int p1, .ref 585, mJ] m o 0 0 1
  refine ⟨trivial, d - 1, fun v m2 o2 => xOk A q (.inl (some (.int v))) m2 ∧ o2 = o, fun x m2 o2 => xOk A q (.inr x) m2 ∧ o2 = o, 4, 24, by omega, hx htr o, by decide, by decide, ?_, ?_⟩
  · rintro v m2 o2 ⟨⟨a1, a2, a3⟩, rfl⟩
    show (aOut = aOut ∧ (Φ (.inl (some (.int (0 : Int32)))) m2 v.toInt64 ∧ 4 ≤ 4 ∧ 24 ≤ 24))
    exact ⟨rfl, hΦ _ _ _ ⟨a1.symm, fun _ => ⟨by rw [a2], a3⟩, fun y => absurd a1 y⟩, Nat.le_refl _, Nat.le_refl _⟩
  · show ∀ x m2 o2, _ → _
    rintro x m2 o2 ⟨⟨a1, a2, a3⟩, rfl⟩
    rcases hq with q0 | ⟨q1, q2⟩ | ⟨q1, q2⟩
    · exact absurd q0 a1
    · rw [q2] at a2
      have e : x = 1 := a2
      subst e
      refine mXB_s (mOk (by decide)) rfl [] [(0, 10, 17, 13)] rfl (by decide) (Or.inr ⟨rfl, rfl, rfl⟩) rfl 5 (mGoOn (mOk (by decide)) rfl [] 400 ?_)
      show Φ (.inl (some (.int (1 : Int32)))) m2 o2 ∧ 4 ≤ 4 ∧ 24 ≤ 24
      exact ⟨hΦ _ _ _ ⟨q1.symm, fun y => absurd y a1, fun _ => a3⟩, Nat.le_refl _, Nat.le_refl _⟩
    · rw [q2] at a2
      have e : x = 0 := a2
      subst e
      refine mXB_s (mOk (by decide)) rfl [(0, 10, 13, 31)] [] rfl (by decide) (Or.inl ⟨rfl, rfl, fun z hz => by rw [List.mem_singleton.mp hz]⟩) rfl 5 (mGoOn (mOk (by decide)) rfl [] 400 ?_)
      show Φ (.inl (some (.int (2 : Int32)))) m2 o2 ∧ 4 ≤ 4 ∧ 24 ≤ 24
      exact ⟨hΦ _ _ _ ⟨q1.symm, fun y => absurd y a1, fun _ => a3⟩, Nat.le_refl _, Nat.le_refl _⟩
theorem h_lane (p0 p1 : Int32) {q : Oc} (hx : xS l g (d - 1) k_X11_lane [.ref 586, .int p0, .int p1] m A q) (hq : q.1 = 0 ∨ (q.1 = 1 ∧ q.2.1 = 0) ∨ (q.1 = 2 ∧ q.2.1 = 1)) (hd : 1 ≤ d) : hS l g d k_L_lane [.ref 586, .int p0, .int p1, .ref 585] m A q := by
  intro htr o
  refine mSat_ofH htr (by decide) (by decide) rfl 1 (m1c_of rfl) rfl (mGoOn (mOk (by decide)) rfl [] 400 ?_)
  have hΦ : ∀ r m2 o2, (r = q.1 ∧ (q.1 = 0 → o2 = q.2.2.toInt64 ∧ cl m2 = A) ∧ (q.1 ≠ 0 → cl m2 = mset A 586 (15 + q.2.1) (A 586 (15 + q.2.1) + 1))) → hO A q (.inl (some (.int r))) m2 o2 := fun _ _ _ q => q
  generalize hO A q = Φ at hΦ ⊢
  show True ∧ mCal l g d k_L_lane Φ 4 24 _ 5 k_X11_lane false [.ref 586, .int p0, .int p1] [.int (0 : Int32), .ref 585] [.ref 586, .int p0, .int p1, .ref 585, mJ] m o 0 0 1
  refine ⟨trivial, d - 1, fun v m2 o2 => xOk A q (.inl (some (.int v))) m2 ∧ o2 = o, fun x m2 o2 => xOk A q (.inr x) m2 ∧ o2 = o, 4, 24, by omega, hx htr o, by decide, by decide, ?_, ?_⟩
  · rintro v m2 o2 ⟨⟨a1, a2, a3⟩, rfl⟩
    show (aOut = aOut ∧ (Φ (.inl (some (.int (0 : Int32)))) m2 v.toInt64 ∧ 4 ≤ 4 ∧ 24 ≤ 24))
    exact ⟨rfl, hΦ _ _ _ ⟨a1.symm, fun _ => ⟨by rw [a2], a3⟩, fun y => absurd a1 y⟩, Nat.le_refl _, Nat.le_refl _⟩
  · show ∀ x m2 o2, _ → _
    rintro x m2 o2 ⟨⟨a1, a2, a3⟩, rfl⟩
    rcases hq with q0 | ⟨q1, q2⟩ | ⟨q1, q2⟩
    · exact absurd q0 a1
    · rw [q2] at a2
      have e : x = 1 := a2
      subst e
      refine mXB_s (mOk (by decide)) rfl [] [(0, 10, 17, 13)] rfl (by decide) (Or.inr ⟨rfl, rfl, rfl⟩) rfl 5 (mGoOn (mOk (by decide)) rfl [] 400 ?_)
      show Φ (.inl (some (.int (1 : Int32)))) m2 o2 ∧ 4 ≤ 4 ∧ 24 ≤ 24
      exact ⟨hΦ _ _ _ ⟨q1.symm, fun y => absurd y a1, fun _ => a3⟩, Nat.le_refl _, Nat.le_refl _⟩
    · rw [q2] at a2
      have e : x = 0 := a2
      subst e
      refine mXB_s (mOk (by decide)) rfl [(0, 10, 13, 31)] [] rfl (by decide) (Or.inl ⟨rfl, rfl, fun z hz => by rw [List.mem_singleton.mp hz]⟩) rfl 5 (mGoOn (mOk (by decide)) rfl [] 400 ?_)
      show Φ (.inl (some (.int (2 : Int32)))) m2 o2 ∧ 4 ≤ 4 ∧ 24 ≤ 24
      exact ⟨hΦ _ _ _ ⟨q1.symm, fun y => absurd y a1, fun _ => a3⟩, Nat.le_refl _, Nat.le_refl _⟩
theorem h_man (p0 p1 : Int32) {q : Oc} (hx : xS l g (d - 1) k_X11_man [.ref 586, .int p0, .int p1] m A q) (hq : q.1 = 0 ∨ (q.1 = 1 ∧ q.2.1 = 0) ∨ (q.1 = 2 ∧ q.2.1 = 1)) (hd : 1 ≤ d) : hS l g d k_L_man [.ref 586, .int p0, .int p1, .ref 585] m A q := by
  intro htr o
  refine mSat_ofH htr (by decide) (by decide) rfl 1 (m1c_of rfl) rfl (mGoOn (mOk (by decide)) rfl [] 400 ?_)
  have hΦ : ∀ r m2 o2, (r = q.1 ∧ (q.1 = 0 → o2 = q.2.2.toInt64 ∧ cl m2 = A) ∧ (q.1 ≠ 0 → cl m2 = mset A 586 (15 + q.2.1) (A 586 (15 + q.2.1) + 1))) → hO A q (.inl (some (.int r))) m2 o2 := fun _ _ _ q => q
  generalize hO A q = Φ at hΦ ⊢
  show True ∧ mCal l g d k_L_man Φ 4 24 _ 5 k_X11_man false [.ref 586, .int p0, .int p1] [.int (0 : Int32), .ref 585] [.ref 586, .int p0, .int p1, .ref 585, mJ] m o 0 0 1
  refine ⟨trivial, d - 1, fun v m2 o2 => xOk A q (.inl (some (.int v))) m2 ∧ o2 = o, fun x m2 o2 => xOk A q (.inr x) m2 ∧ o2 = o, 4, 24, by omega, hx htr o, by decide, by decide, ?_, ?_⟩
  · rintro v m2 o2 ⟨⟨a1, a2, a3⟩, rfl⟩
    show (aOut = aOut ∧ (Φ (.inl (some (.int (0 : Int32)))) m2 v.toInt64 ∧ 4 ≤ 4 ∧ 24 ≤ 24))
    exact ⟨rfl, hΦ _ _ _ ⟨a1.symm, fun _ => ⟨by rw [a2], a3⟩, fun y => absurd a1 y⟩, Nat.le_refl _, Nat.le_refl _⟩
  · show ∀ x m2 o2, _ → _
    rintro x m2 o2 ⟨⟨a1, a2, a3⟩, rfl⟩
    rcases hq with q0 | ⟨q1, q2⟩ | ⟨q1, q2⟩
    · exact absurd q0 a1
    · rw [q2] at a2
      have e : x = 1 := a2
      subst e
      refine mXB_s (mOk (by decide)) rfl [] [(0, 10, 17, 13)] rfl (by decide) (Or.inr ⟨rfl, rfl, rfl⟩) rfl 5 (mGoOn (mOk (by decide)) rfl [] 400 ?_)
      show Φ (.inl (some (.int (1 : Int32)))) m2 o2 ∧ 4 ≤ 4 ∧ 24 ≤ 24
      exact ⟨hΦ _ _ _ ⟨q1.symm, fun y => absurd y a1, fun _ => a3⟩, Nat.le_refl _, Nat.le_refl _⟩
    · rw [q2] at a2
      have e : x = 0 := a2
      subst e
      refine mXB_s (mOk (by decide)) rfl [(0, 10, 13, 31)] [] rfl (by decide) (Or.inl ⟨rfl, rfl, fun z hz => by rw [List.mem_singleton.mp hz]⟩) rfl 5 (mGoOn (mOk (by decide)) rfl [] 400 ?_)
      show Φ (.inl (some (.int (2 : Int32)))) m2 o2 ∧ 4 ≤ 4 ∧ 24 ≤ 24
      exact ⟨hΦ _ _ _ ⟨q1.symm, fun y => absurd y a1, fun _ => a3⟩, Nat.le_refl _, Nat.le_refl _⟩
theorem h_sleeper (p0 p1 : Int32) {q : Oc} (hx : xS l g (d - 1) k_X11_sleeper [.ref 586, .int p0, .int p1] m A q) (hq : q.1 = 0 ∨ (q.1 = 1 ∧ q.2.1 = 0) ∨ (q.1 = 2 ∧ q.2.1 = 1)) (hd : 1 ≤ d) : hS l g d k_L_sleeper [.ref 586, .int p0, .int p1, .ref 585] m A q := by
  intro htr o
  refine mSat_ofH htr (by decide) (by decide) rfl 1 (m1c_of rfl) rfl (mGoOn (mOk (by decide)) rfl [] 400 ?_)
  have hΦ : ∀ r m2 o2, (r = q.1 ∧ (q.1 = 0 → o2 = q.2.2.toInt64 ∧ cl m2 = A) ∧ (q.1 ≠ 0 → cl m2 = mset A 586 (15 + q.2.1) (A 586 (15 + q.2.1) + 1))) → hO A q (.inl (some (.int r))) m2 o2 := fun _ _ _ q => q
  generalize hO A q = Φ at hΦ ⊢
  show True ∧ mCal l g d k_L_sleeper Φ 4 24 _ 5 k_X11_sleeper false [.ref 586, .int p0, .int p1] [.int (0 : Int32), .ref 585] [.ref 586, .int p0, .int p1, .ref 585, mJ] m o 0 0 1
  refine ⟨trivial, d - 1, fun v m2 o2 => xOk A q (.inl (some (.int v))) m2 ∧ o2 = o, fun x m2 o2 => xOk A q (.inr x) m2 ∧ o2 = o, 4, 24, by omega, hx htr o, by decide, by decide, ?_, ?_⟩
  · rintro v m2 o2 ⟨⟨a1, a2, a3⟩, rfl⟩
    show (aOut = aOut ∧ (Φ (.inl (some (.int (0 : Int32)))) m2 v.toInt64 ∧ 4 ≤ 4 ∧ 24 ≤ 24))
    exact ⟨rfl, hΦ _ _ _ ⟨a1.symm, fun _ => ⟨by rw [a2], a3⟩, fun y => absurd a1 y⟩, Nat.le_refl _, Nat.le_refl _⟩
  · show ∀ x m2 o2, _ → _
    rintro x m2 o2 ⟨⟨a1, a2, a3⟩, rfl⟩
    rcases hq with q0 | ⟨q1, q2⟩ | ⟨q1, q2⟩
    · exact absurd q0 a1
    · rw [q2] at a2
      have e : x = 1 := a2
      subst e
      refine mXB_s (mOk (by decide)) rfl [] [(0, 10, 17, 13)] rfl (by decide) (Or.inr ⟨rfl, rfl, rfl⟩) rfl 5 (mGoOn (mOk (by decide)) rfl [] 400 ?_)
      show Φ (.inl (some (.int (1 : Int32)))) m2 o2 ∧ 4 ≤ 4 ∧ 24 ≤ 24
      exact ⟨hΦ _ _ _ ⟨q1.symm, fun y => absurd y a1, fun _ => a3⟩, Nat.le_refl _, Nat.le_refl _⟩
    · rw [q2] at a2
      have e : x = 0 := a2
      subst e
      refine mXB_s (mOk (by decide)) rfl [(0, 10, 13, 31)] [] rfl (by decide) (Or.inl ⟨rfl, rfl, fun z hz => by rw [List.mem_singleton.mp hz]⟩) rfl 5 (mGoOn (mOk (by decide)) rfl [] 400 ?_)
      show Φ (.inl (some (.int (2 : Int32)))) m2 o2 ∧ 4 ≤ 4 ∧ 24 ≤ 24
      exact ⟨hΦ _ _ _ ⟨q1.symm, fun y => absurd y a1, fun _ => a3⟩, Nat.le_refl _, Nat.le_refl _⟩
theorem h_would (p0 p1 p2 p3 p4 p5 p6 p7 : Int32) {q : Oc} (hx : xS l g (d - 1) k_X11_would [.ref 586, .int p0, .int p1, .int p2, .int p3, .int p4, .int p5, .int p6, .int p7] m A q) (hq : q.1 = 0 ∨ (q.1 = 1 ∧ q.2.1 = 1)) (hd : 1 ≤ d) : hS l g d k_L_would [.ref 586, .int p0, .int p1, .int p2, .int p3, .int p4, .int p5, .int p6, .int p7, .ref 585] m A q := by
  intro htr o
  refine mSat_ofH htr (by decide) (by decide) rfl 1 (m1c_of rfl) rfl (mGoOn (mOk (by decide)) rfl [] 400 ?_)
  have hΦ : ∀ r m2 o2, (r = q.1 ∧ (q.1 = 0 → o2 = q.2.2.toInt64 ∧ cl m2 = A) ∧ (q.1 ≠ 0 → cl m2 = mset A 586 (15 + q.2.1) (A 586 (15 + q.2.1) + 1))) → hO A q (.inl (some (.int r))) m2 o2 := fun _ _ _ q => q
  generalize hO A q = Φ at hΦ ⊢
  show True ∧ mCal l g d k_L_would Φ 4 24 _ 17 k_X11_would false [.ref 586, .int p0, .int p1, .int p2, .int p3, .int p4, .int p5, .int p6, .int p7] [.int (0 : Int32), .ref 585] [.ref 586, .int p0, .int p1, .int p2, .int p3, .int p4, .int p5, .int p6, .int p7, .ref 585, mJ] m o 0 0 1
  refine ⟨trivial, d - 1, fun v m2 o2 => xOk A q (.inl (some (.int v))) m2 ∧ o2 = o, fun x m2 o2 => xOk A q (.inr x) m2 ∧ o2 = o, 4, 24, by omega, hx htr o, by decide, by decide, ?_, ?_⟩
  · rintro v m2 o2 ⟨⟨a1, a2, a3⟩, rfl⟩
    show (aOut = aOut ∧ (Φ (.inl (some (.int (0 : Int32)))) m2 v.toInt64 ∧ 4 ≤ 4 ∧ 24 ≤ 24))
    exact ⟨rfl, hΦ _ _ _ ⟨a1.symm, fun _ => ⟨by rw [a2], a3⟩, fun y => absurd a1 y⟩, Nat.le_refl _, Nat.le_refl _⟩
  · show ∀ x m2 o2, _ → _
    rintro x m2 o2 ⟨⟨a1, a2, a3⟩, rfl⟩
    rcases hq with q0 | ⟨q1, q2⟩
    · exact absurd q0 a1
    · rw [q2] at a2
      have e : x = 0 := a2
      subst e
      refine mXB_s (mOk (by decide)) rfl [] [] rfl (by decide) (Or.inl ⟨rfl, rfl, fun z hz => absurd hz List.not_mem_nil⟩) rfl 11 (mGoOn (mOk (by decide)) rfl [] 400 ?_)
      show Φ (.inl (some (.int (1 : Int32)))) m2 o2 ∧ 4 ≤ 4 ∧ 24 ≤ 24
      exact ⟨hΦ _ _ _ ⟨q1.symm, fun y => absurd y a1, fun _ => a3⟩, Nat.le_refl _, Nat.le_refl _⟩
theorem h_says (p0 p1 : Int32) {q : Oc} (hx : xS l g (d - 1) k_X11_says [.ref 586, .int p0, .int p1] m A q) (hq : q.1 = 0 ∨ (q.1 = 1 ∧ q.2.1 = 0)) (hd : 1 ≤ d) : hS l g d k_L_says [.ref 586, .int p0, .int p1, .ref 585] m A q := by
  intro htr o
  refine mSat_ofH htr (by decide) (by decide) rfl 1 (m1c_of rfl) rfl (mGoOn (mOk (by decide)) rfl [] 400 ?_)
  have hΦ : ∀ r m2 o2, (r = q.1 ∧ (q.1 = 0 → o2 = q.2.2.toInt64 ∧ cl m2 = A) ∧ (q.1 ≠ 0 → cl m2 = mset A 586 (15 + q.2.1) (A 586 (15 + q.2.1) + 1))) → hO A q (.inl (some (.int r))) m2 o2 := fun _ _ _ q => q
  generalize hO A q = Φ at hΦ ⊢
  show True ∧ mCal l g d k_L_says Φ 4 24 _ 5 k_X11_says false [.ref 586, .int p0, .int p1] [.int (0 : Int32), .ref 585] [.ref 586, .int p0, .int p1, .ref 585, mJ] m o 0 0 1
  refine ⟨trivial, d - 1, fun v m2 o2 => xOk A q (.inl (some (.int v))) m2 ∧ o2 = o, fun x m2 o2 => xOk A q (.inr x) m2 ∧ o2 = o, 4, 24, by omega, hx htr o, by decide, by decide, ?_, ?_⟩
  · rintro v m2 o2 ⟨⟨a1, a2, a3⟩, rfl⟩
    show (aOut = aOut ∧ (Φ (.inl (some (.int (0 : Int32)))) m2 v.toInt64 ∧ 4 ≤ 4 ∧ 24 ≤ 24))
    exact ⟨rfl, hΦ _ _ _ ⟨a1.symm, fun _ => ⟨by rw [a2], a3⟩, fun y => absurd a1 y⟩, Nat.le_refl _, Nat.le_refl _⟩
  · show ∀ x m2 o2, _ → _
    rintro x m2 o2 ⟨⟨a1, a2, a3⟩, rfl⟩
    rcases hq with q0 | ⟨q1, q2⟩
    · exact absurd q0 a1
    · rw [q2] at a2
      have e : x = 1 := a2
      subst e
      refine mXB_s (mOk (by decide)) rfl [] [] rfl (by decide) (Or.inr ⟨rfl, rfl, rfl⟩) rfl 5 (mGoOn (mOk (by decide)) rfl [] 400 ?_)
      show Φ (.inl (some (.int (1 : Int32)))) m2 o2 ∧ 4 ≤ 4 ∧ 24 ≤ 24
      exact ⟨hΦ _ _ _ ⟨q1.symm, fun y => absurd y a1, fun _ => a3⟩, Nat.le_refl _, Nat.le_refl _⟩
theorem h_wakes (p0 p1 : Int32) {q : Oc} (hx : xS l g (d - 1) k_X11_wakes [.ref 586, .int p0, .int p1] m A q) (hq : q.1 = 0 ∨ (q.1 = 1 ∧ q.2.1 = 0)) (hd : 1 ≤ d) : hS l g d k_L_wakes [.ref 586, .int p0, .int p1, .ref 585] m A q := by
  intro htr o
  refine mSat_ofH htr (by decide) (by decide) rfl 1 (m1c_of rfl) rfl (mGoOn (mOk (by decide)) rfl [] 400 ?_)
  have hΦ : ∀ r m2 o2, (r = q.1 ∧ (q.1 = 0 → o2 = q.2.2.toInt64 ∧ cl m2 = A) ∧ (q.1 ≠ 0 → cl m2 = mset A 586 (15 + q.2.1) (A 586 (15 + q.2.1) + 1))) → hO A q (.inl (some (.int r))) m2 o2 := fun _ _ _ q => q
  generalize hO A q = Φ at hΦ ⊢
  show True ∧ mCal l g d k_L_wakes Φ 4 24 _ 5 k_X11_wakes false [.ref 586, .int p0, .int p1] [.int (0 : Int32), .ref 585] [.ref 586, .int p0, .int p1, .ref 585, mJ] m o 0 0 1
  refine ⟨trivial, d - 1, fun v m2 o2 => xOk A q (.inl (some (.int v))) m2 ∧ o2 = o, fun x m2 o2 => xOk A q (.inr x) m2 ∧ o2 = o, 4, 24, by omega, hx htr o, by decide, by decide, ?_, ?_⟩
  · rintro v m2 o2 ⟨⟨a1, a2, a3⟩, rfl⟩
    show (aOut = aOut ∧ (Φ (.inl (some (.int (0 : Int32)))) m2 v.toInt64 ∧ 4 ≤ 4 ∧ 24 ≤ 24))
    exact ⟨rfl, hΦ _ _ _ ⟨a1.symm, fun _ => ⟨by rw [a2], a3⟩, fun y => absurd a1 y⟩, Nat.le_refl _, Nat.le_refl _⟩
  · show ∀ x m2 o2, _ → _
    rintro x m2 o2 ⟨⟨a1, a2, a3⟩, rfl⟩
    rcases hq with q0 | ⟨q1, q2⟩
    · exact absurd q0 a1
    · rw [q2] at a2
      have e : x = 1 := a2
      subst e
      refine mXB_s (mOk (by decide)) rfl [] [] rfl (by decide) (Or.inr ⟨rfl, rfl, rfl⟩) rfl 5 (mGoOn (mOk (by decide)) rfl [] 400 ?_)
      show Φ (.inl (some (.int (1 : Int32)))) m2 o2 ∧ 4 ≤ 4 ∧ 24 ≤ 24
      exact ⟨hΦ _ _ _ ⟨q1.symm, fun y => absurd y a1, fun _ => a3⟩, Nat.le_refl _, Nat.le_refl _⟩
theorem h_nearest (p0 p1 p2 : Int32) {q : Oc} (hx : xS l g (d - 1) k_X11_nearest [.ref 586, .int p0, .int p1, .int p2] m A q) (hq : q.1 = 0 ∨ (q.1 = 1 ∧ q.2.1 = 0) ∨ (q.1 = 2 ∧ q.2.1 = 1)) (hd : 1 ≤ d) : hS l g d k_L_nearest [.ref 586, .int p0, .int p1, .int p2, .ref 585] m A q := by
  intro htr o
  refine mSat_ofH htr (by decide) (by decide) rfl 1 (m1c_of rfl) rfl (mGoOn (mOk (by decide)) rfl [] 400 ?_)
  have hΦ : ∀ r m2 o2, (r = q.1 ∧ (q.1 = 0 → o2 = q.2.2.toInt64 ∧ cl m2 = A) ∧ (q.1 ≠ 0 → cl m2 = mset A 586 (15 + q.2.1) (A 586 (15 + q.2.1) + 1))) → hO A q (.inl (some (.int r))) m2 o2 := fun _ _ _ q => q
  generalize hO A q = Φ at hΦ ⊢
  show True ∧ mCal l g d k_L_nearest Φ 4 24 _ 7 k_X11_nearest false [.ref 586, .int p0, .int p1, .int p2] [.int (0 : Int32), .ref 585] [.ref 586, .int p0, .int p1, .int p2, .ref 585, mJ] m o 0 0 1
  refine ⟨trivial, d - 1, fun v m2 o2 => xOk A q (.inl (some (.int v))) m2 ∧ o2 = o, fun x m2 o2 => xOk A q (.inr x) m2 ∧ o2 = o, 4, 24, by omega, hx htr o, by decide, by decide, ?_, ?_⟩
  · rintro v m2 o2 ⟨⟨a1, a2, a3⟩, rfl⟩
    show (aOut = aOut ∧ (Φ (.inl (some (.int (0 : Int32)))) m2 v.toInt64 ∧ 4 ≤ 4 ∧ 24 ≤ 24))
    exact ⟨rfl, hΦ _ _ _ ⟨a1.symm, fun _ => ⟨by rw [a2], a3⟩, fun y => absurd a1 y⟩, Nat.le_refl _, Nat.le_refl _⟩
  · show ∀ x m2 o2, _ → _
    rintro x m2 o2 ⟨⟨a1, a2, a3⟩, rfl⟩
    rcases hq with q0 | ⟨q1, q2⟩ | ⟨q1, q2⟩
    · exact absurd q0 a1
    · rw [q2] at a2
      have e : x = 1 := a2
      subst e
      refine mXB_s (mOk (by decide)) rfl [] [(0, 12, 19, 13)] rfl (by decide) (Or.inr ⟨rfl, rfl, rfl⟩) rfl 6 (mGoOn (mOk (by decide)) rfl [] 400 ?_)
      show Φ (.inl (some (.int (1 : Int32)))) m2 o2 ∧ 4 ≤ 4 ∧ 24 ≤ 24
      exact ⟨hΦ _ _ _ ⟨q1.symm, fun y => absurd y a1, fun _ => a3⟩, Nat.le_refl _, Nat.le_refl _⟩
    · rw [q2] at a2
      have e : x = 0 := a2
      subst e
      refine mXB_s (mOk (by decide)) rfl [(0, 12, 15, 31)] [] rfl (by decide) (Or.inl ⟨rfl, rfl, fun z hz => by rw [List.mem_singleton.mp hz]⟩) rfl 6 (mGoOn (mOk (by decide)) rfl [] 400 ?_)
      show Φ (.inl (some (.int (2 : Int32)))) m2 o2 ∧ 4 ≤ 4 ∧ 24 ≤ 24
      exact ⟨hΦ _ _ _ ⟨q1.symm, fun y => absurd y a1, fun _ => a3⟩, Nat.le_refl _, Nat.le_refl _⟩
theorem h_raise (p0 : Int32) {q : Oc} (hx : xS l g (d - 1) k_X11_raise [.ref 586, .int p0] m A q) (hq : q.1 = 0 ∨ (q.1 = 1 ∧ q.2.1 = 1)) (hd : 1 ≤ d) : hS l g d k_L_raise [.ref 586, .int p0, .ref 585] m A q := by
  intro htr o
  refine mSat_ofH htr (by decide) (by decide) rfl 1 (m1c_of rfl) rfl (mGoOn (mOk (by decide)) rfl [] 400 ?_)
  have hΦ : ∀ r m2 o2, (r = q.1 ∧ (q.1 = 0 → o2 = q.2.2.toInt64 ∧ cl m2 = A) ∧ (q.1 ≠ 0 → cl m2 = mset A 586 (15 + q.2.1) (A 586 (15 + q.2.1) + 1))) → hO A q (.inl (some (.int r))) m2 o2 := fun _ _ _ q => q
  generalize hO A q = Φ at hΦ ⊢
  show True ∧ mCal l g d k_L_raise Φ 4 24 _ 4 k_X11_raise false [.ref 586, .int p0] [.int (0 : Int32), .ref 585] [.ref 586, .int p0, .ref 585, mJ] m o 0 0 1
  refine ⟨trivial, d - 1, fun v m2 o2 => xOk A q (.inl (some (.int v))) m2 ∧ o2 = o, fun x m2 o2 => xOk A q (.inr x) m2 ∧ o2 = o, 4, 24, by omega, hx htr o, by decide, by decide, ?_, ?_⟩
  · rintro v m2 o2 ⟨⟨a1, a2, a3⟩, rfl⟩
    show (aOut = aOut ∧ (Φ (.inl (some (.int (0 : Int32)))) m2 v.toInt64 ∧ 4 ≤ 4 ∧ 24 ≤ 24))
    exact ⟨rfl, hΦ _ _ _ ⟨a1.symm, fun _ => ⟨by rw [a2], a3⟩, fun y => absurd a1 y⟩, Nat.le_refl _, Nat.le_refl _⟩
  · show ∀ x m2 o2, _ → _
    rintro x m2 o2 ⟨⟨a1, a2, a3⟩, rfl⟩
    rcases hq with q0 | ⟨q1, q2⟩
    · exact absurd q0 a1
    · rw [q2] at a2
      have e : x = 0 := a2
      subst e
      refine mXB_n (mOk (by decide)) rfl [] [] rfl (by decide) (Or.inl ⟨rfl, rfl, fun z hz => absurd hz List.not_mem_nil⟩) rfl 4 (mGoOn (mOk (by decide)) rfl [] 400 ?_)
      show Φ (.inl (some (.int (1 : Int32)))) m2 o2 ∧ 4 ≤ 4 ∧ 24 ≤ 24
      exact ⟨hΦ _ _ _ ⟨q1.symm, fun y => absurd y a1, fun _ => a3⟩, Nat.le_refl _, Nat.le_refl _⟩
theorem h_who (p0 : Int32) {q : Oc} (hx : xS l g (d - 1) k_X11_who [.ref 586, .int p0] m A q) (hq : q.1 = 0 ∨ (q.1 = 1 ∧ q.2.1 = 1)) (hd : 1 ≤ d) : hS l g d k_L_who [.ref 586, .int p0, .ref 585] m A q := by
  intro htr o
  refine mSat_ofH htr (by decide) (by decide) rfl 1 (m1c_of rfl) rfl (mGoOn (mOk (by decide)) rfl [] 400 ?_)
  have hΦ : ∀ r m2 o2, (r = q.1 ∧ (q.1 = 0 → o2 = q.2.2.toInt64 ∧ cl m2 = A) ∧ (q.1 ≠ 0 → cl m2 = mset A 586 (15 + q.2.1) (A 586 (15 + q.2.1) + 1))) → hO A q (.inl (some (.int r))) m2 o2 := fun _ _ _ q => q
  generalize hO A q = Φ at hΦ ⊢
  show True ∧ mCal l g d k_L_who Φ 4 24 _ 4 k_X11_who false [.ref 586, .int p0] [.int (0 : Int32), .ref 585] [.ref 586, .int p0, .ref 585, mJ] m o 0 0 1
  refine ⟨trivial, d - 1, fun v m2 o2 => xOk A q (.inl (some (.int v))) m2 ∧ o2 = o, fun x m2 o2 => xOk A q (.inr x) m2 ∧ o2 = o, 4, 24, by omega, hx htr o, by decide, by decide, ?_, ?_⟩
  · rintro v m2 o2 ⟨⟨a1, a2, a3⟩, rfl⟩
    show (aOut = aOut ∧ (Φ (.inl (some (.int (0 : Int32)))) m2 v.toInt64 ∧ 4 ≤ 4 ∧ 24 ≤ 24))
    exact ⟨rfl, hΦ _ _ _ ⟨a1.symm, fun _ => ⟨by rw [a2], a3⟩, fun y => absurd a1 y⟩, Nat.le_refl _, Nat.le_refl _⟩
  · show ∀ x m2 o2, _ → _
    rintro x m2 o2 ⟨⟨a1, a2, a3⟩, rfl⟩
    rcases hq with q0 | ⟨q1, q2⟩
    · exact absurd q0 a1
    · rw [q2] at a2
      have e : x = 0 := a2
      subst e
      refine mXB_n (mOk (by decide)) rfl [] [] rfl (by decide) (Or.inl ⟨rfl, rfl, fun z hz => absurd hz List.not_mem_nil⟩) rfl 4 (mGoOn (mOk (by decide)) rfl [] 400 ?_)
      show Φ (.inl (some (.int (1 : Int32)))) m2 o2 ∧ 4 ≤ 4 ∧ 24 ≤ 24
      exact ⟨hΦ _ _ _ ⟨q1.symm, fun y => absurd y a1, fun _ => a3⟩, Nat.le_refl _, Nat.le_refl _⟩
theorem h_listen (p0 : Int32) {q : Oc} (hx : xS l g (d - 1) k_X11_listen [.ref 586, .int p0] m A q) (hq : q.1 = 0 ∨ (q.1 = 1 ∧ q.2.1 = 1)) (hd : 1 ≤ d) : hS l g d k_L_listen [.ref 586, .int p0, .ref 585] m A q := by
  intro htr o
  refine mSat_ofH htr (by decide) (by decide) rfl 1 (m1c_of rfl) rfl (mGoOn (mOk (by decide)) rfl [] 400 ?_)
  have hΦ : ∀ r m2 o2, (r = q.1 ∧ (q.1 = 0 → o2 = q.2.2.toInt64 ∧ cl m2 = A) ∧ (q.1 ≠ 0 → cl m2 = mset A 586 (15 + q.2.1) (A 586 (15 + q.2.1) + 1))) → hO A q (.inl (some (.int r))) m2 o2 := fun _ _ _ q => q
  generalize hO A q = Φ at hΦ ⊢
  show True ∧ mCal l g d k_L_listen Φ 4 24 _ 4 k_X11_listen false [.ref 586, .int p0] [.int (0 : Int32), .ref 585] [.ref 586, .int p0, .ref 585, mJ] m o 0 0 1
  refine ⟨trivial, d - 1, fun v m2 o2 => xOk A q (.inl (some (.int v))) m2 ∧ o2 = o, fun x m2 o2 => xOk A q (.inr x) m2 ∧ o2 = o, 4, 24, by omega, hx htr o, by decide, by decide, ?_, ?_⟩
  · rintro v m2 o2 ⟨⟨a1, a2, a3⟩, rfl⟩
    show (aOut = aOut ∧ (Φ (.inl (some (.int (0 : Int32)))) m2 v.toInt64 ∧ 4 ≤ 4 ∧ 24 ≤ 24))
    exact ⟨rfl, hΦ _ _ _ ⟨a1.symm, fun _ => ⟨by rw [a2], a3⟩, fun y => absurd a1 y⟩, Nat.le_refl _, Nat.le_refl _⟩
  · show ∀ x m2 o2, _ → _
    rintro x m2 o2 ⟨⟨a1, a2, a3⟩, rfl⟩
    rcases hq with q0 | ⟨q1, q2⟩
    · exact absurd q0 a1
    · rw [q2] at a2
      have e : x = 0 := a2
      subst e
      refine mXB_n (mOk (by decide)) rfl [] [] rfl (by decide) (Or.inl ⟨rfl, rfl, fun z hz => absurd hz List.not_mem_nil⟩) rfl 4 (mGoOn (mOk (by decide)) rfl [] 400 ?_)
      show Φ (.inl (some (.int (1 : Int32)))) m2 o2 ∧ 4 ≤ 4 ∧ 24 ≤ 24
      exact ⟨hΦ _ _ _ ⟨q1.symm, fun y => absurd y a1, fun _ => a3⟩, Nat.le_refl _, Nat.le_refl _⟩
theorem h_way (p0 p1 : Int32) {q : Oc} (hx : xS l g (d - 1) k_X11_way [.ref 586, .int p0, .int p1] m A q) (hq : q.1 = 0 ∨ (q.1 = 1 ∧ q.2.1 = 0)) (hd : 1 ≤ d) : hS l g d k_L_way [.ref 586, .int p0, .int p1, .ref 585] m A q := by
  intro htr o
  refine mSat_ofH htr (by decide) (by decide) rfl 1 (m1c_of rfl) rfl (mGoOn (mOk (by decide)) rfl [] 400 ?_)
  have hΦ : ∀ r m2 o2, (r = q.1 ∧ (q.1 = 0 → o2 = q.2.2.toInt64 ∧ cl m2 = A) ∧ (q.1 ≠ 0 → cl m2 = mset A 586 (15 + q.2.1) (A 586 (15 + q.2.1) + 1))) → hO A q (.inl (some (.int r))) m2 o2 := fun _ _ _ q => q
  generalize hO A q = Φ at hΦ ⊢
  show True ∧ mCal l g d k_L_way Φ 4 24 _ 5 k_X11_way false [.ref 586, .int p0, .int p1] [.int (0 : Int32), .ref 585] [.ref 586, .int p0, .int p1, .ref 585, mJ] m o 0 0 1
  refine ⟨trivial, d - 1, fun v m2 o2 => xOk A q (.inl (some (.int v))) m2 ∧ o2 = o, fun x m2 o2 => xOk A q (.inr x) m2 ∧ o2 = o, 4, 24, by omega, hx htr o, by decide, by decide, ?_, ?_⟩
  · rintro v m2 o2 ⟨⟨a1, a2, a3⟩, rfl⟩
    show (aOut = aOut ∧ (Φ (.inl (some (.int (0 : Int32)))) m2 v.toInt64 ∧ 4 ≤ 4 ∧ 24 ≤ 24))
    exact ⟨rfl, hΦ _ _ _ ⟨a1.symm, fun _ => ⟨by rw [a2], a3⟩, fun y => absurd a1 y⟩, Nat.le_refl _, Nat.le_refl _⟩
  · show ∀ x m2 o2, _ → _
    rintro x m2 o2 ⟨⟨a1, a2, a3⟩, rfl⟩
    rcases hq with q0 | ⟨q1, q2⟩
    · exact absurd q0 a1
    · rw [q2] at a2
      have e : x = 1 := a2
      subst e
      refine mXB_s (mOk (by decide)) rfl [] [] rfl (by decide) (Or.inr ⟨rfl, rfl, rfl⟩) rfl 5 (mGoOn (mOk (by decide)) rfl [] 400 ?_)
      show Φ (.inl (some (.int (1 : Int32)))) m2 o2 ∧ 4 ≤ 4 ∧ 24 ≤ 24
      exact ⟨hΦ _ _ _ ⟨q1.symm, fun y => absurd y a1, fun _ => a3⟩, Nat.le_refl _, Nat.le_refl _⟩
theorem h_past (p0 p1 p2 : Int32) {q : Oc} (hx : xS l g (d - 1) k_X11_past [.ref 586, .int p0, .int p1, .int p2] m A q) (hq : q.1 = 0 ∨ (q.1 = 1 ∧ q.2.1 = 0) ∨ (q.1 = 2 ∧ q.2.1 = 1)) (hd : 1 ≤ d) : hS l g d k_L_past [.ref 586, .int p0, .int p1, .int p2, .ref 585] m A q := by
  intro htr o
  refine mSat_ofH htr (by decide) (by decide) rfl 1 (m1c_of rfl) rfl (mGoOn (mOk (by decide)) rfl [] 400 ?_)
  have hΦ : ∀ r m2 o2, (r = q.1 ∧ (q.1 = 0 → o2 = q.2.2.toInt64 ∧ cl m2 = A) ∧ (q.1 ≠ 0 → cl m2 = mset A 586 (15 + q.2.1) (A 586 (15 + q.2.1) + 1))) → hO A q (.inl (some (.int r))) m2 o2 := fun _ _ _ q => q
  generalize hO A q = Φ at hΦ ⊢
  show True ∧ mCal l g d k_L_past Φ 4 24 _ 7 k_X11_past false [.ref 586, .int p0, .int p1, .int p2] [.int (0 : Int32), .ref 585] [.ref 586, .int p0, .int p1, .int p2, .ref 585, mJ] m o 0 0 1
  refine ⟨trivial, d - 1, fun v m2 o2 => xOk A q (.inl (some (.int v))) m2 ∧ o2 = o, fun x m2 o2 => xOk A q (.inr x) m2 ∧ o2 = o, 4, 24, by omega, hx htr o, by decide, by decide, ?_, ?_⟩
  · rintro v m2 o2 ⟨⟨a1, a2, a3⟩, rfl⟩
    show (aOut = aOut ∧ (Φ (.inl (some (.int (0 : Int32)))) m2 v.toInt64 ∧ 4 ≤ 4 ∧ 24 ≤ 24))
    exact ⟨rfl, hΦ _ _ _ ⟨a1.symm, fun _ => ⟨by rw [a2], a3⟩, fun y => absurd a1 y⟩, Nat.le_refl _, Nat.le_refl _⟩
  · show ∀ x m2 o2, _ → _
    rintro x m2 o2 ⟨⟨a1, a2, a3⟩, rfl⟩
    rcases hq with q0 | ⟨q1, q2⟩ | ⟨q1, q2⟩
    · exact absurd q0 a1
    · rw [q2] at a2
      have e : x = 1 := a2
      subst e
      refine mXB_s (mOk (by decide)) rfl [] [(0, 12, 19, 13)] rfl (by decide) (Or.inr ⟨rfl, rfl, rfl⟩) rfl 6 (mGoOn (mOk (by decide)) rfl [] 400 ?_)
      show Φ (.inl (some (.int (1 : Int32)))) m2 o2 ∧ 4 ≤ 4 ∧ 24 ≤ 24
      exact ⟨hΦ _ _ _ ⟨q1.symm, fun y => absurd y a1, fun _ => a3⟩, Nat.le_refl _, Nat.le_refl _⟩
    · rw [q2] at a2
      have e : x = 0 := a2
      subst e
      refine mXB_s (mOk (by decide)) rfl [(0, 12, 15, 31)] [] rfl (by decide) (Or.inl ⟨rfl, rfl, fun z hz => by rw [List.mem_singleton.mp hz]⟩) rfl 6 (mGoOn (mOk (by decide)) rfl [] 400 ?_)
      show Φ (.inl (some (.int (2 : Int32)))) m2 o2 ∧ 4 ≤ 4 ∧ 24 ≤ 24
      exact ⟨hΦ _ _ _ ⟨q1.symm, fun y => absurd y a1, fun _ => a3⟩, Nat.le_refl _, Nat.le_refl _⟩
theorem h_shut (p0 p1 : Int32) {q : Oc} (hx : xS l g (d - 1) k_X11_shut [.ref 586, .int p0, .int p1] m A q) (hq : q.1 = 0 ∨ (q.1 = 1 ∧ q.2.1 = 0) ∨ (q.1 = 2 ∧ q.2.1 = 1)) (hd : 1 ≤ d) : hS l g d k_L_shut [.ref 586, .int p0, .int p1, .ref 585] m A q := by
  intro htr o
  refine mSat_ofH htr (by decide) (by decide) rfl 1 (m1c_of rfl) rfl (mGoOn (mOk (by decide)) rfl [] 400 ?_)
  have hΦ : ∀ r m2 o2, (r = q.1 ∧ (q.1 = 0 → o2 = q.2.2.toInt64 ∧ cl m2 = A) ∧ (q.1 ≠ 0 → cl m2 = mset A 586 (15 + q.2.1) (A 586 (15 + q.2.1) + 1))) → hO A q (.inl (some (.int r))) m2 o2 := fun _ _ _ q => q
  generalize hO A q = Φ at hΦ ⊢
  show True ∧ mCal l g d k_L_shut Φ 4 24 _ 5 k_X11_shut false [.ref 586, .int p0, .int p1] [.int (0 : Int32), .ref 585] [.ref 586, .int p0, .int p1, .ref 585, mJ] m o 0 0 1
  refine ⟨trivial, d - 1, fun v m2 o2 => xOk A q (.inl (some (.int v))) m2 ∧ o2 = o, fun x m2 o2 => xOk A q (.inr x) m2 ∧ o2 = o, 4, 24, by omega, hx htr o, by decide, by decide, ?_, ?_⟩
  · rintro v m2 o2 ⟨⟨a1, a2, a3⟩, rfl⟩
    show (aOut = aOut ∧ (Φ (.inl (some (.int (0 : Int32)))) m2 v.toInt64 ∧ 4 ≤ 4 ∧ 24 ≤ 24))
    exact ⟨rfl, hΦ _ _ _ ⟨a1.symm, fun _ => ⟨by rw [a2], a3⟩, fun y => absurd a1 y⟩, Nat.le_refl _, Nat.le_refl _⟩
  · show ∀ x m2 o2, _ → _
    rintro x m2 o2 ⟨⟨a1, a2, a3⟩, rfl⟩
    rcases hq with q0 | ⟨q1, q2⟩ | ⟨q1, q2⟩
    · exact absurd q0 a1
    · rw [q2] at a2
      have e : x = 1 := a2
      subst e
      refine mXB_s (mOk (by decide)) rfl [] [(0, 10, 17, 13)] rfl (by decide) (Or.inr ⟨rfl, rfl, rfl⟩) rfl 5 (mGoOn (mOk (by decide)) rfl [] 400 ?_)
      show Φ (.inl (some (.int (1 : Int32)))) m2 o2 ∧ 4 ≤ 4 ∧ 24 ≤ 24
      exact ⟨hΦ _ _ _ ⟨q1.symm, fun y => absurd y a1, fun _ => a3⟩, Nat.le_refl _, Nat.le_refl _⟩
    · rw [q2] at a2
      have e : x = 0 := a2
      subst e
      refine mXB_s (mOk (by decide)) rfl [(0, 10, 13, 31)] [] rfl (by decide) (Or.inl ⟨rfl, rfl, fun z hz => by rw [List.mem_singleton.mp hz]⟩) rfl 5 (mGoOn (mOk (by decide)) rfl [] 400 ?_)
      show Φ (.inl (some (.int (2 : Int32)))) m2 o2 ∧ 4 ≤ 4 ∧ 24 ≤ 24
      exact ⟨hΦ _ _ _ ⟨q1.symm, fun y => absurd y a1, fun _ => a3⟩, Nat.le_refl _, Nat.le_refl _⟩
theorem h_believe (p0 p1 p2 : Int32) {q : OcL} (hx : xSL l g (d - 1) k_X11_believe [.ref 586, .int p0, .int p1, .int p2] m A q) (hq : q.1 = 0 ∨ (q.1 = 1 ∧ q.2.1 = 1)) (hd : 1 ≤ d) : hSL l g d k_L_believe [.ref 586, .int p0, .int p1, .int p2, .ref 585] m A q := by
  intro htr o
  refine mSat_ofH htr (by decide) (by decide) rfl 1 (m1c_of rfl) rfl (mGoOn (mOk (by decide)) rfl [] 400 ?_)
  have hΦ : ∀ r m2 o2, (r = q.1 ∧ (q.1 = 0 → o2 = q.2.2 ∧ cl m2 = A) ∧ (q.1 ≠ 0 → cl m2 = mset A 586 (15 + q.2.1) (A 586 (15 + q.2.1) + 1))) → hOL A q (.inl (some (.int r))) m2 o2 := fun _ _ _ q => q
  generalize hOL A q = Φ at hΦ ⊢
  show True ∧ mCal l g d k_L_believe Φ 4 24 _ 7 k_X11_believe false [.ref 586, .int p0, .int p1, .int p2] [.int (0 : Int32), .ref 585] [.ref 586, .int p0, .int p1, .int p2, .ref 585, mJ] m o 0 0 2
  refine ⟨trivial, d - 1, fun v m2 o2 => xOkL A q (.inl (some (.long v))) m2 ∧ o2 = o, fun x m2 o2 => xOkL A q (.inr x) m2 ∧ o2 = o, 4, 24, by omega, hx htr o, by decide, by decide, ?_, ?_⟩
  · rintro v m2 o2 ⟨⟨a1, a2, a3⟩, rfl⟩
    show (aOut = aOut ∧ (Φ (.inl (some (.int (0 : Int32)))) m2 v ∧ 4 ≤ 4 ∧ 24 ≤ 24))
    exact ⟨rfl, hΦ _ _ _ ⟨a1.symm, fun _ => ⟨by rw [a2], a3⟩, fun y => absurd a1 y⟩, Nat.le_refl _, Nat.le_refl _⟩
  · show ∀ x m2 o2, _ → _
    rintro x m2 o2 ⟨⟨a1, a2, a3⟩, rfl⟩
    rcases hq with q0 | ⟨q1, q2⟩
    · exact absurd q0 a1
    · rw [q2] at a2
      have e : x = 0 := a2
      subst e
      refine mXB_s (mOk (by decide)) rfl [] [] rfl (by decide) (Or.inl ⟨rfl, rfl, fun z hz => absurd hz List.not_mem_nil⟩) rfl 6 (mGoOn (mOk (by decide)) rfl [] 400 ?_)
      show Φ (.inl (some (.int (1 : Int32)))) m2 o2 ∧ 4 ≤ 4 ∧ 24 ≤ 24
      exact ⟨hΦ _ _ _ ⟨q1.symm, fun y => absurd y a1, fun _ => a3⟩, Nat.le_refl _, Nat.le_refl _⟩
theorem h_roster (p0 : Int32) {q : Oc} (hx : xS l g (d - 1) k_X11_roster [.ref 586, .int p0] m A q) (hq : q.1 = 0 ∨ (q.1 = 1 ∧ q.2.1 = 1)) (hd : 1 ≤ d) : hS l g d k_L_roster [.ref 586, .int p0, .ref 585] m A q := by
  intro htr o
  refine mSat_ofH htr (by decide) (by decide) rfl 1 (m1c_of rfl) rfl (mGoOn (mOk (by decide)) rfl [] 400 ?_)
  have hΦ : ∀ r m2 o2, (r = q.1 ∧ (q.1 = 0 → o2 = q.2.2.toInt64 ∧ cl m2 = A) ∧ (q.1 ≠ 0 → cl m2 = mset A 586 (15 + q.2.1) (A 586 (15 + q.2.1) + 1))) → hO A q (.inl (some (.int r))) m2 o2 := fun _ _ _ q => q
  generalize hO A q = Φ at hΦ ⊢
  show True ∧ mCal l g d k_L_roster Φ 4 24 _ 4 k_X11_roster false [.ref 586, .int p0] [.int (0 : Int32), .ref 585] [.ref 586, .int p0, .ref 585, mJ] m o 0 0 1
  refine ⟨trivial, d - 1, fun v m2 o2 => xOk A q (.inl (some (.int v))) m2 ∧ o2 = o, fun x m2 o2 => xOk A q (.inr x) m2 ∧ o2 = o, 4, 24, by omega, hx htr o, by decide, by decide, ?_, ?_⟩
  · rintro v m2 o2 ⟨⟨a1, a2, a3⟩, rfl⟩
    show (aOut = aOut ∧ (Φ (.inl (some (.int (0 : Int32)))) m2 v.toInt64 ∧ 4 ≤ 4 ∧ 24 ≤ 24))
    exact ⟨rfl, hΦ _ _ _ ⟨a1.symm, fun _ => ⟨by rw [a2], a3⟩, fun y => absurd a1 y⟩, Nat.le_refl _, Nat.le_refl _⟩
  · show ∀ x m2 o2, _ → _
    rintro x m2 o2 ⟨⟨a1, a2, a3⟩, rfl⟩
    rcases hq with q0 | ⟨q1, q2⟩
    · exact absurd q0 a1
    · rw [q2] at a2
      have e : x = 0 := a2
      subst e
      refine mXB_n (mOk (by decide)) rfl [] [] rfl (by decide) (Or.inl ⟨rfl, rfl, fun z hz => absurd hz List.not_mem_nil⟩) rfl 4 (mGoOn (mOk (by decide)) rfl [] 400 ?_)
      show Φ (.inl (some (.int (1 : Int32)))) m2 o2 ∧ 4 ≤ 4 ∧ 24 ≤ 24
      exact ⟨hΦ _ _ _ ⟨q1.symm, fun y => absurd y a1, fun _ => a3⟩, Nat.le_refl _, Nat.le_refl _⟩
theorem h_thief (p0 p1 : Int32) {q : Oc} (hx : xS l g (d - 1) k_X11_thief [.ref 586, .int p0, .int p1] m A q) (hq : q.1 = 0 ∨ (q.1 = 1 ∧ q.2.1 = 1)) (hd : 1 ≤ d) : hS l g d k_L_thief [.ref 586, .int p0, .int p1, .ref 585] m A q := by
  intro htr o
  refine mSat_ofH htr (by decide) (by decide) rfl 1 (m1c_of rfl) rfl (mGoOn (mOk (by decide)) rfl [] 400 ?_)
  have hΦ : ∀ r m2 o2, (r = q.1 ∧ (q.1 = 0 → o2 = q.2.2.toInt64 ∧ cl m2 = A) ∧ (q.1 ≠ 0 → cl m2 = mset A 586 (15 + q.2.1) (A 586 (15 + q.2.1) + 1))) → hO A q (.inl (some (.int r))) m2 o2 := fun _ _ _ q => q
  generalize hO A q = Φ at hΦ ⊢
  show True ∧ mCal l g d k_L_thief Φ 4 24 _ 5 k_X11_thief false [.ref 586, .int p0, .int p1] [.int (0 : Int32), .ref 585] [.ref 586, .int p0, .int p1, .ref 585, mJ] m o 0 0 1
  refine ⟨trivial, d - 1, fun v m2 o2 => xOk A q (.inl (some (.int v))) m2 ∧ o2 = o, fun x m2 o2 => xOk A q (.inr x) m2 ∧ o2 = o, 4, 24, by omega, hx htr o, by decide, by decide, ?_, ?_⟩
  · rintro v m2 o2 ⟨⟨a1, a2, a3⟩, rfl⟩
    show (aOut = aOut ∧ (Φ (.inl (some (.int (0 : Int32)))) m2 v.toInt64 ∧ 4 ≤ 4 ∧ 24 ≤ 24))
    exact ⟨rfl, hΦ _ _ _ ⟨a1.symm, fun _ => ⟨by rw [a2], a3⟩, fun y => absurd a1 y⟩, Nat.le_refl _, Nat.le_refl _⟩
  · show ∀ x m2 o2, _ → _
    rintro x m2 o2 ⟨⟨a1, a2, a3⟩, rfl⟩
    rcases hq with q0 | ⟨q1, q2⟩
    · exact absurd q0 a1
    · rw [q2] at a2
      have e : x = 0 := a2
      subst e
      refine mXB_s (mOk (by decide)) rfl [] [] rfl (by decide) (Or.inl ⟨rfl, rfl, fun z hz => absurd hz List.not_mem_nil⟩) rfl 5 (mGoOn (mOk (by decide)) rfl [] 400 ?_)
      show Φ (.inl (some (.int (1 : Int32)))) m2 o2 ∧ 4 ≤ 4 ∧ 24 ≤ 24
      exact ⟨hΦ _ _ _ ⟨q1.symm, fun y => absurd y a1, fun _ => a3⟩, Nat.le_refl _, Nat.le_refl _⟩
theorem h_oil (p0 p1 p2 : Int32) {q : Oc} (hx : xS l g (d - 1) k_X11_oil [.ref 586, .int p0, .int p1, .int p2] m A q) (hq : q.1 = 0 ∨ (q.1 = 1 ∧ q.2.1 = 0) ∨ (q.1 = 2 ∧ q.2.1 = 1)) (hd : 1 ≤ d) : hS l g d k_L_oil [.ref 586, .int p0, .int p1, .int p2, .ref 585] m A q := by
  intro htr o
  refine mSat_ofH htr (by decide) (by decide) rfl 1 (m1c_of rfl) rfl (mGoOn (mOk (by decide)) rfl [] 400 ?_)
  have hΦ : ∀ r m2 o2, (r = q.1 ∧ (q.1 = 0 → o2 = q.2.2.toInt64 ∧ cl m2 = A) ∧ (q.1 ≠ 0 → cl m2 = mset A 586 (15 + q.2.1) (A 586 (15 + q.2.1) + 1))) → hO A q (.inl (some (.int r))) m2 o2 := fun _ _ _ q => q
  generalize hO A q = Φ at hΦ ⊢
  show True ∧ mCal l g d k_L_oil Φ 4 24 _ 7 k_X11_oil false [.ref 586, .int p0, .int p1, .int p2] [.int (0 : Int32), .ref 585] [.ref 586, .int p0, .int p1, .int p2, .ref 585, mJ] m o 0 0 1
  refine ⟨trivial, d - 1, fun v m2 o2 => xOk A q (.inl (some (.int v))) m2 ∧ o2 = o, fun x m2 o2 => xOk A q (.inr x) m2 ∧ o2 = o, 4, 24, by omega, hx htr o, by decide, by decide, ?_, ?_⟩
  · rintro v m2 o2 ⟨⟨a1, a2, a3⟩, rfl⟩
    show (aOut = aOut ∧ (Φ (.inl (some (.int (0 : Int32)))) m2 v.toInt64 ∧ 4 ≤ 4 ∧ 24 ≤ 24))
    exact ⟨rfl, hΦ _ _ _ ⟨a1.symm, fun _ => ⟨by rw [a2], a3⟩, fun y => absurd a1 y⟩, Nat.le_refl _, Nat.le_refl _⟩
  · show ∀ x m2 o2, _ → _
    rintro x m2 o2 ⟨⟨a1, a2, a3⟩, rfl⟩
    rcases hq with q0 | ⟨q1, q2⟩ | ⟨q1, q2⟩
    · exact absurd q0 a1
    · rw [q2] at a2
      have e : x = 1 := a2
      subst e
      refine mXB_s (mOk (by decide)) rfl [] [(0, 12, 19, 13)] rfl (by decide) (Or.inr ⟨rfl, rfl, rfl⟩) rfl 6 (mGoOn (mOk (by decide)) rfl [] 400 ?_)
      show Φ (.inl (some (.int (1 : Int32)))) m2 o2 ∧ 4 ≤ 4 ∧ 24 ≤ 24
      exact ⟨hΦ _ _ _ ⟨q1.symm, fun y => absurd y a1, fun _ => a3⟩, Nat.le_refl _, Nat.le_refl _⟩
    · rw [q2] at a2
      have e : x = 0 := a2
      subst e
      refine mXB_s (mOk (by decide)) rfl [(0, 12, 15, 31)] [] rfl (by decide) (Or.inl ⟨rfl, rfl, fun z hz => by rw [List.mem_singleton.mp hz]⟩) rfl 6 (mGoOn (mOk (by decide)) rfl [] 400 ?_)
      show Φ (.inl (some (.int (2 : Int32)))) m2 o2 ∧ 4 ≤ 4 ∧ 24 ≤ 24
      exact ⟨hΦ _ _ _ ⟨q1.symm, fun y => absurd y a1, fun _ => a3⟩, Nat.le_refl _, Nat.le_refl _⟩
theorem h_sounds (p0 : Int32) {q : Oc} (hx : xS l g (d - 1) k_X11_sounds [.ref 586, .int p0] m A q) (hq : q.1 = 0 ∨ (q.1 = 1 ∧ q.2.1 = 1)) (hd : 1 ≤ d) : hS l g d k_L_sounds [.ref 586, .int p0, .ref 585] m A q := by
  intro htr o
  refine mSat_ofH htr (by decide) (by decide) rfl 1 (m1c_of rfl) rfl (mGoOn (mOk (by decide)) rfl [] 400 ?_)
  have hΦ : ∀ r m2 o2, (r = q.1 ∧ (q.1 = 0 → o2 = q.2.2.toInt64 ∧ cl m2 = A) ∧ (q.1 ≠ 0 → cl m2 = mset A 586 (15 + q.2.1) (A 586 (15 + q.2.1) + 1))) → hO A q (.inl (some (.int r))) m2 o2 := fun _ _ _ q => q
  generalize hO A q = Φ at hΦ ⊢
  show True ∧ mCal l g d k_L_sounds Φ 4 24 _ 4 k_X11_sounds false [.ref 586, .int p0] [.int (0 : Int32), .ref 585] [.ref 586, .int p0, .ref 585, mJ] m o 0 0 1
  refine ⟨trivial, d - 1, fun v m2 o2 => xOk A q (.inl (some (.int v))) m2 ∧ o2 = o, fun x m2 o2 => xOk A q (.inr x) m2 ∧ o2 = o, 4, 24, by omega, hx htr o, by decide, by decide, ?_, ?_⟩
  · rintro v m2 o2 ⟨⟨a1, a2, a3⟩, rfl⟩
    show (aOut = aOut ∧ (Φ (.inl (some (.int (0 : Int32)))) m2 v.toInt64 ∧ 4 ≤ 4 ∧ 24 ≤ 24))
    exact ⟨rfl, hΦ _ _ _ ⟨a1.symm, fun _ => ⟨by rw [a2], a3⟩, fun y => absurd a1 y⟩, Nat.le_refl _, Nat.le_refl _⟩
  · show ∀ x m2 o2, _ → _
    rintro x m2 o2 ⟨⟨a1, a2, a3⟩, rfl⟩
    rcases hq with q0 | ⟨q1, q2⟩
    · exact absurd q0 a1
    · rw [q2] at a2
      have e : x = 0 := a2
      subst e
      refine mXB_n (mOk (by decide)) rfl [] [] rfl (by decide) (Or.inl ⟨rfl, rfl, fun z hz => absurd hz List.not_mem_nil⟩) rfl 4 (mGoOn (mOk (by decide)) rfl [] 400 ?_)
      show Φ (.inl (some (.int (1 : Int32)))) m2 o2 ∧ 4 ≤ 4 ∧ 24 ≤ 24
      exact ⟨hΦ _ _ _ ⟨q1.symm, fun y => absurd y a1, fun _ => a3⟩, Nat.le_refl _, Nat.le_refl _⟩
theorem h_busiest (p0 : Int32) {q : Oc} (hx : xS l g (d - 1) k_X11_busiest [.ref 586, .int p0] m A q) (hq : q.1 = 0 ∨ (q.1 = 1 ∧ q.2.1 = 1)) (hd : 1 ≤ d) : hS l g d k_L_busiest [.ref 586, .int p0, .ref 585] m A q := by
  intro htr o
  refine mSat_ofH htr (by decide) (by decide) rfl 1 (m1c_of rfl) rfl (mGoOn (mOk (by decide)) rfl [] 400 ?_)
  have hΦ : ∀ r m2 o2, (r = q.1 ∧ (q.1 = 0 → o2 = q.2.2.toInt64 ∧ cl m2 = A) ∧ (q.1 ≠ 0 → cl m2 = mset A 586 (15 + q.2.1) (A 586 (15 + q.2.1) + 1))) → hO A q (.inl (some (.int r))) m2 o2 := fun _ _ _ q => q
  generalize hO A q = Φ at hΦ ⊢
  show True ∧ mCal l g d k_L_busiest Φ 4 24 _ 4 k_X11_busiest false [.ref 586, .int p0] [.int (0 : Int32), .ref 585] [.ref 586, .int p0, .ref 585, mJ] m o 0 0 1
  refine ⟨trivial, d - 1, fun v m2 o2 => xOk A q (.inl (some (.int v))) m2 ∧ o2 = o, fun x m2 o2 => xOk A q (.inr x) m2 ∧ o2 = o, 4, 24, by omega, hx htr o, by decide, by decide, ?_, ?_⟩
  · rintro v m2 o2 ⟨⟨a1, a2, a3⟩, rfl⟩
    show (aOut = aOut ∧ (Φ (.inl (some (.int (0 : Int32)))) m2 v.toInt64 ∧ 4 ≤ 4 ∧ 24 ≤ 24))
    exact ⟨rfl, hΦ _ _ _ ⟨a1.symm, fun _ => ⟨by rw [a2], a3⟩, fun y => absurd a1 y⟩, Nat.le_refl _, Nat.le_refl _⟩
  · show ∀ x m2 o2, _ → _
    rintro x m2 o2 ⟨⟨a1, a2, a3⟩, rfl⟩
    rcases hq with q0 | ⟨q1, q2⟩
    · exact absurd q0 a1
    · rw [q2] at a2
      have e : x = 0 := a2
      subst e
      refine mXB_n (mOk (by decide)) rfl [] [] rfl (by decide) (Or.inl ⟨rfl, rfl, fun z hz => absurd hz List.not_mem_nil⟩) rfl 4 (mGoOn (mOk (by decide)) rfl [] 400 ?_)
      show Φ (.inl (some (.int (1 : Int32)))) m2 o2 ∧ 4 ≤ 4 ∧ 24 ≤ 24
      exact ⟨hΦ _ _ _ ⟨q1.symm, fun y => absurd y a1, fun _ => a3⟩, Nat.le_refl _, Nat.le_refl _⟩
theorem h_reach (p0 : Int32) {q : Oc} (hx : xS l g (d - 1) k_X11_reach [.ref 586, .int p0] m A q) (hq : q.1 = 0 ∨ (q.1 = 1 ∧ q.2.1 = 0)) (hd : 1 ≤ d) : hS l g d k_L_reach [.ref 586, .int p0, .ref 585] m A q := by
  intro htr o
  refine mSat_ofH htr (by decide) (by decide) rfl 1 (m1c_of rfl) rfl (mGoOn (mOk (by decide)) rfl [] 400 ?_)
  have hΦ : ∀ r m2 o2, (r = q.1 ∧ (q.1 = 0 → o2 = q.2.2.toInt64 ∧ cl m2 = A) ∧ (q.1 ≠ 0 → cl m2 = mset A 586 (15 + q.2.1) (A 586 (15 + q.2.1) + 1))) → hO A q (.inl (some (.int r))) m2 o2 := fun _ _ _ q => q
  generalize hO A q = Φ at hΦ ⊢
  show True ∧ mCal l g d k_L_reach Φ 4 24 _ 4 k_X11_reach false [.ref 586, .int p0] [.int (0 : Int32), .ref 585] [.ref 586, .int p0, .ref 585, mJ] m o 0 0 1
  refine ⟨trivial, d - 1, fun v m2 o2 => xOk A q (.inl (some (.int v))) m2 ∧ o2 = o, fun x m2 o2 => xOk A q (.inr x) m2 ∧ o2 = o, 4, 24, by omega, hx htr o, by decide, by decide, ?_, ?_⟩
  · rintro v m2 o2 ⟨⟨a1, a2, a3⟩, rfl⟩
    show (aOut = aOut ∧ (Φ (.inl (some (.int (0 : Int32)))) m2 v.toInt64 ∧ 4 ≤ 4 ∧ 24 ≤ 24))
    exact ⟨rfl, hΦ _ _ _ ⟨a1.symm, fun _ => ⟨by rw [a2], a3⟩, fun y => absurd a1 y⟩, Nat.le_refl _, Nat.le_refl _⟩
  · show ∀ x m2 o2, _ → _
    rintro x m2 o2 ⟨⟨a1, a2, a3⟩, rfl⟩
    rcases hq with q0 | ⟨q1, q2⟩
    · exact absurd q0 a1
    · rw [q2] at a2
      have e : x = 1 := a2
      subst e
      refine mXB_n (mOk (by decide)) rfl [] [] rfl (by decide) (Or.inr ⟨rfl, rfl, rfl⟩) rfl 4 (mGoOn (mOk (by decide)) rfl [] 400 ?_)
      show Φ (.inl (some (.int (1 : Int32)))) m2 o2 ∧ 4 ≤ 4 ∧ 24 ≤ 24
      exact ⟨hΦ _ _ _ ⟨q1.symm, fun y => absurd y a1, fun _ => a3⟩, Nat.le_refl _, Nat.le_refl _⟩
theorem h_range (p0 : Int32) {q : Oc} (hx : xS l g (d - 1) k_X11_range [.ref 586, .int p0] m A q) (hq : q.1 = 0 ∨ (q.1 = 1 ∧ q.2.1 = 0)) (hd : 1 ≤ d) : hS l g d k_L_range [.ref 586, .int p0, .ref 585] m A q := by
  intro htr o
  refine mSat_ofH htr (by decide) (by decide) rfl 1 (m1c_of rfl) rfl (mGoOn (mOk (by decide)) rfl [] 400 ?_)
  have hΦ : ∀ r m2 o2, (r = q.1 ∧ (q.1 = 0 → o2 = q.2.2.toInt64 ∧ cl m2 = A) ∧ (q.1 ≠ 0 → cl m2 = mset A 586 (15 + q.2.1) (A 586 (15 + q.2.1) + 1))) → hO A q (.inl (some (.int r))) m2 o2 := fun _ _ _ q => q
  generalize hO A q = Φ at hΦ ⊢
  show True ∧ mCal l g d k_L_range Φ 4 24 _ 4 k_X11_range false [.ref 586, .int p0] [.int (0 : Int32), .ref 585] [.ref 586, .int p0, .ref 585, mJ] m o 0 0 1
  refine ⟨trivial, d - 1, fun v m2 o2 => xOk A q (.inl (some (.int v))) m2 ∧ o2 = o, fun x m2 o2 => xOk A q (.inr x) m2 ∧ o2 = o, 4, 24, by omega, hx htr o, by decide, by decide, ?_, ?_⟩
  · rintro v m2 o2 ⟨⟨a1, a2, a3⟩, rfl⟩
    show (aOut = aOut ∧ (Φ (.inl (some (.int (0 : Int32)))) m2 v.toInt64 ∧ 4 ≤ 4 ∧ 24 ≤ 24))
    exact ⟨rfl, hΦ _ _ _ ⟨a1.symm, fun _ => ⟨by rw [a2], a3⟩, fun y => absurd a1 y⟩, Nat.le_refl _, Nat.le_refl _⟩
  · show ∀ x m2 o2, _ → _
    rintro x m2 o2 ⟨⟨a1, a2, a3⟩, rfl⟩
    rcases hq with q0 | ⟨q1, q2⟩
    · exact absurd q0 a1
    · rw [q2] at a2
      have e : x = 1 := a2
      subst e
      refine mXB_n (mOk (by decide)) rfl [] [] rfl (by decide) (Or.inr ⟨rfl, rfl, rfl⟩) rfl 4 (mGoOn (mOk (by decide)) rfl [] 400 ?_)
      show Φ (.inl (some (.int (1 : Int32)))) m2 o2 ∧ 4 ≤ 4 ∧ 24 ≤ 24
      exact ⟨hΦ _ _ _ ⟨q1.symm, fun y => absurd y a1, fun _ => a3⟩, Nat.le_refl _, Nat.le_refl _⟩
theorem h_late (p0 : Int32) {q : Oc} (hx : xS l g (d - 1) k_X11_late [.ref 586, .int p0] m A q) (hq : q.1 = 0 ∨ (q.1 = 1 ∧ q.2.1 = 0)) (hd : 1 ≤ d) : hS l g d k_L_late [.ref 586, .int p0, .ref 585] m A q := by
  intro htr o
  refine mSat_ofH htr (by decide) (by decide) rfl 1 (m1c_of rfl) rfl (mGoOn (mOk (by decide)) rfl [] 400 ?_)
  have hΦ : ∀ r m2 o2, (r = q.1 ∧ (q.1 = 0 → o2 = q.2.2.toInt64 ∧ cl m2 = A) ∧ (q.1 ≠ 0 → cl m2 = mset A 586 (15 + q.2.1) (A 586 (15 + q.2.1) + 1))) → hO A q (.inl (some (.int r))) m2 o2 := fun _ _ _ q => q
  generalize hO A q = Φ at hΦ ⊢
  show True ∧ mCal l g d k_L_late Φ 4 24 _ 4 k_X11_late false [.ref 586, .int p0] [.int (0 : Int32), .ref 585] [.ref 586, .int p0, .ref 585, mJ] m o 0 0 1
  refine ⟨trivial, d - 1, fun v m2 o2 => xOk A q (.inl (some (.int v))) m2 ∧ o2 = o, fun x m2 o2 => xOk A q (.inr x) m2 ∧ o2 = o, 4, 24, by omega, hx htr o, by decide, by decide, ?_, ?_⟩
  · rintro v m2 o2 ⟨⟨a1, a2, a3⟩, rfl⟩
    show (aOut = aOut ∧ (Φ (.inl (some (.int (0 : Int32)))) m2 v.toInt64 ∧ 4 ≤ 4 ∧ 24 ≤ 24))
    exact ⟨rfl, hΦ _ _ _ ⟨a1.symm, fun _ => ⟨by rw [a2], a3⟩, fun y => absurd a1 y⟩, Nat.le_refl _, Nat.le_refl _⟩
  · show ∀ x m2 o2, _ → _
    rintro x m2 o2 ⟨⟨a1, a2, a3⟩, rfl⟩
    rcases hq with q0 | ⟨q1, q2⟩
    · exact absurd q0 a1
    · rw [q2] at a2
      have e : x = 1 := a2
      subst e
      refine mXB_n (mOk (by decide)) rfl [] [] rfl (by decide) (Or.inr ⟨rfl, rfl, rfl⟩) rfl 4 (mGoOn (mOk (by decide)) rfl [] 400 ?_)
      show Φ (.inl (some (.int (1 : Int32)))) m2 o2 ∧ 4 ≤ 4 ∧ 24 ≤ 24
      exact ⟨hΦ _ _ _ ⟨q1.symm, fun y => absurd y a1, fun _ => a3⟩, Nat.le_refl _, Nat.le_refl _⟩
theorem h_agree (p0 : Int32) {q : Oc} (hx : xS l g (d - 1) k_X11_agree [.ref 586, .int p0] m A q) (hq : q.1 = 0 ∨ (q.1 = 1 ∧ q.2.1 = 1)) (hd : 1 ≤ d) : hS l g d k_L_agree [.ref 586, .int p0, .ref 585] m A q := by
  intro htr o
  refine mSat_ofH htr (by decide) (by decide) rfl 1 (m1c_of rfl) rfl (mGoOn (mOk (by decide)) rfl [] 400 ?_)
  have hΦ : ∀ r m2 o2, (r = q.1 ∧ (q.1 = 0 → o2 = q.2.2.toInt64 ∧ cl m2 = A) ∧ (q.1 ≠ 0 → cl m2 = mset A 586 (15 + q.2.1) (A 586 (15 + q.2.1) + 1))) → hO A q (.inl (some (.int r))) m2 o2 := fun _ _ _ q => q
  generalize hO A q = Φ at hΦ ⊢
  show True ∧ mCal l g d k_L_agree Φ 4 24 _ 4 k_X11_agree false [.ref 586, .int p0] [.int (0 : Int32), .ref 585] [.ref 586, .int p0, .ref 585, mJ] m o 0 0 1
  refine ⟨trivial, d - 1, fun v m2 o2 => xOk A q (.inl (some (.int v))) m2 ∧ o2 = o, fun x m2 o2 => xOk A q (.inr x) m2 ∧ o2 = o, 4, 24, by omega, hx htr o, by decide, by decide, ?_, ?_⟩
  · rintro v m2 o2 ⟨⟨a1, a2, a3⟩, rfl⟩
    show (aOut = aOut ∧ (Φ (.inl (some (.int (0 : Int32)))) m2 v.toInt64 ∧ 4 ≤ 4 ∧ 24 ≤ 24))
    exact ⟨rfl, hΦ _ _ _ ⟨a1.symm, fun _ => ⟨by rw [a2], a3⟩, fun y => absurd a1 y⟩, Nat.le_refl _, Nat.le_refl _⟩
  · show ∀ x m2 o2, _ → _
    rintro x m2 o2 ⟨⟨a1, a2, a3⟩, rfl⟩
    rcases hq with q0 | ⟨q1, q2⟩
    · exact absurd q0 a1
    · rw [q2] at a2
      have e : x = 0 := a2
      subst e
      refine mXB_n (mOk (by decide)) rfl [] [] rfl (by decide) (Or.inl ⟨rfl, rfl, fun z hz => absurd hz List.not_mem_nil⟩) rfl 4 (mGoOn (mOk (by decide)) rfl [] 400 ?_)
      show Φ (.inl (some (.int (1 : Int32)))) m2 o2 ∧ 4 ≤ 4 ∧ 24 ≤ 24
      exact ⟨hΦ _ _ _ ⟨q1.symm, fun y => absurd y a1, fun _ => a3⟩, Nat.le_refl _, Nat.le_refl _⟩
theorem h_waker (p0 p1 : Int32) {q : Oc} (hx : xS l g (d - 1) k_X11_waker [.ref 586, .int p0, .int p1] m A q) (hq : q.1 = 0 ∨ (q.1 = 1 ∧ q.2.1 = 0) ∨ (q.1 = 2 ∧ q.2.1 = 1)) (hd : 1 ≤ d) : hS l g d k_L_waker [.ref 586, .int p0, .int p1, .ref 585] m A q := by
  intro htr o
  refine mSat_ofH htr (by decide) (by decide) rfl 1 (m1c_of rfl) rfl (mGoOn (mOk (by decide)) rfl [] 400 ?_)
  have hΦ : ∀ r m2 o2, (r = q.1 ∧ (q.1 = 0 → o2 = q.2.2.toInt64 ∧ cl m2 = A) ∧ (q.1 ≠ 0 → cl m2 = mset A 586 (15 + q.2.1) (A 586 (15 + q.2.1) + 1))) → hO A q (.inl (some (.int r))) m2 o2 := fun _ _ _ q => q
  generalize hO A q = Φ at hΦ ⊢
  show True ∧ mCal l g d k_L_waker Φ 4 24 _ 5 k_X11_waker false [.ref 586, .int p0, .int p1] [.int (0 : Int32), .ref 585] [.ref 586, .int p0, .int p1, .ref 585, mJ] m o 0 0 1
  refine ⟨trivial, d - 1, fun v m2 o2 => xOk A q (.inl (some (.int v))) m2 ∧ o2 = o, fun x m2 o2 => xOk A q (.inr x) m2 ∧ o2 = o, 4, 24, by omega, hx htr o, by decide, by decide, ?_, ?_⟩
  · rintro v m2 o2 ⟨⟨a1, a2, a3⟩, rfl⟩
    show (aOut = aOut ∧ (Φ (.inl (some (.int (0 : Int32)))) m2 v.toInt64 ∧ 4 ≤ 4 ∧ 24 ≤ 24))
    exact ⟨rfl, hΦ _ _ _ ⟨a1.symm, fun _ => ⟨by rw [a2], a3⟩, fun y => absurd a1 y⟩, Nat.le_refl _, Nat.le_refl _⟩
  · show ∀ x m2 o2, _ → _
    rintro x m2 o2 ⟨⟨a1, a2, a3⟩, rfl⟩
    rcases hq with q0 | ⟨q1, q2⟩ | ⟨q1, q2⟩
    · exact absurd q0 a1
    · rw [q2] at a2
      have e : x = 1 := a2
      subst e
      refine mXB_s (mOk (by decide)) rfl [] [(0, 10, 17, 13)] rfl (by decide) (Or.inr ⟨rfl, rfl, rfl⟩) rfl 5 (mGoOn (mOk (by decide)) rfl [] 400 ?_)
      show Φ (.inl (some (.int (1 : Int32)))) m2 o2 ∧ 4 ≤ 4 ∧ 24 ≤ 24
      exact ⟨hΦ _ _ _ ⟨q1.symm, fun y => absurd y a1, fun _ => a3⟩, Nat.le_refl _, Nat.le_refl _⟩
    · rw [q2] at a2
      have e : x = 0 := a2
      subst e
      refine mXB_s (mOk (by decide)) rfl [(0, 10, 13, 31)] [] rfl (by decide) (Or.inl ⟨rfl, rfl, fun z hz => by rw [List.mem_singleton.mp hz]⟩) rfl 5 (mGoOn (mOk (by decide)) rfl [] 400 ?_)
      show Φ (.inl (some (.int (2 : Int32)))) m2 o2 ∧ 4 ≤ 4 ∧ 24 ≤ 24
      exact ⟨hΦ _ _ _ ⟨q1.symm, fun y => absurd y a1, fun _ => a3⟩, Nat.le_refl _, Nat.le_refl _⟩
theorem h_deepest (p0 : Int32) {q : Oc} (hx : xS l g (d - 1) k_X11_deepest [.ref 586, .int p0] m A q) (hq : q.1 = 0 ∨ (q.1 = 1 ∧ q.2.1 = 1)) (hd : 1 ≤ d) : hS l g d k_L_deepest [.ref 586, .int p0, .ref 585] m A q := by
  intro htr o
  refine mSat_ofH htr (by decide) (by decide) rfl 1 (m1c_of rfl) rfl (mGoOn (mOk (by decide)) rfl [] 400 ?_)
  have hΦ : ∀ r m2 o2, (r = q.1 ∧ (q.1 = 0 → o2 = q.2.2.toInt64 ∧ cl m2 = A) ∧ (q.1 ≠ 0 → cl m2 = mset A 586 (15 + q.2.1) (A 586 (15 + q.2.1) + 1))) → hO A q (.inl (some (.int r))) m2 o2 := fun _ _ _ q => q
  generalize hO A q = Φ at hΦ ⊢
  show True ∧ mCal l g d k_L_deepest Φ 4 24 _ 4 k_X11_deepest false [.ref 586, .int p0] [.int (0 : Int32), .ref 585] [.ref 586, .int p0, .ref 585, mJ] m o 0 0 1
  refine ⟨trivial, d - 1, fun v m2 o2 => xOk A q (.inl (some (.int v))) m2 ∧ o2 = o, fun x m2 o2 => xOk A q (.inr x) m2 ∧ o2 = o, 4, 24, by omega, hx htr o, by decide, by decide, ?_, ?_⟩
  · rintro v m2 o2 ⟨⟨a1, a2, a3⟩, rfl⟩
    show (aOut = aOut ∧ (Φ (.inl (some (.int (0 : Int32)))) m2 v.toInt64 ∧ 4 ≤ 4 ∧ 24 ≤ 24))
    exact ⟨rfl, hΦ _ _ _ ⟨a1.symm, fun _ => ⟨by rw [a2], a3⟩, fun y => absurd a1 y⟩, Nat.le_refl _, Nat.le_refl _⟩
  · show ∀ x m2 o2, _ → _
    rintro x m2 o2 ⟨⟨a1, a2, a3⟩, rfl⟩
    rcases hq with q0 | ⟨q1, q2⟩
    · exact absurd q0 a1
    · rw [q2] at a2
      have e : x = 0 := a2
      subst e
      refine mXB_n (mOk (by decide)) rfl [] [] rfl (by decide) (Or.inl ⟨rfl, rfl, fun z hz => absurd hz List.not_mem_nil⟩) rfl 4 (mGoOn (mOk (by decide)) rfl [] 400 ?_)
      show Φ (.inl (some (.int (1 : Int32)))) m2 o2 ∧ 4 ≤ 4 ∧ 24 ≤ 24
      exact ⟨hΦ _ _ _ ⟨q1.symm, fun y => absurd y a1, fun _ => a3⟩, Nat.le_refl _, Nat.le_refl _⟩
theorem h_farthest (p0 p1 : Int32) {q : Oc} (hx : xS l g (d - 1) k_X11_farthest [.ref 586, .int p0, .int p1] m A q) (hq : q.1 = 0 ∨ (q.1 = 1 ∧ q.2.1 = 0) ∨ (q.1 = 2 ∧ q.2.1 = 1)) (hd : 1 ≤ d) : hS l g d k_L_farthest [.ref 586, .int p0, .int p1, .ref 585] m A q := by
  intro htr o
  refine mSat_ofH htr (by decide) (by decide) rfl 1 (m1c_of rfl) rfl (mGoOn (mOk (by decide)) rfl [] 400 ?_)
  have hΦ : ∀ r m2 o2, (r = q.1 ∧ (q.1 = 0 → o2 = q.2.2.toInt64 ∧ cl m2 = A) ∧ (q.1 ≠ 0 → cl m2 = mset A 586 (15 + q.2.1) (A 586 (15 + q.2.1) + 1))) → hO A q (.inl (some (.int r))) m2 o2 := fun _ _ _ q => q
  generalize hO A q = Φ at hΦ ⊢
  show True ∧ mCal l g d k_L_farthest Φ 4 24 _ 5 k_X11_farthest false [.ref 586, .int p0, .int p1] [.int (0 : Int32), .ref 585] [.ref 586, .int p0, .int p1, .ref 585, mJ] m o 0 0 1
  refine ⟨trivial, d - 1, fun v m2 o2 => xOk A q (.inl (some (.int v))) m2 ∧ o2 = o, fun x m2 o2 => xOk A q (.inr x) m2 ∧ o2 = o, 4, 24, by omega, hx htr o, by decide, by decide, ?_, ?_⟩
  · rintro v m2 o2 ⟨⟨a1, a2, a3⟩, rfl⟩
    show (aOut = aOut ∧ (Φ (.inl (some (.int (0 : Int32)))) m2 v.toInt64 ∧ 4 ≤ 4 ∧ 24 ≤ 24))
    exact ⟨rfl, hΦ _ _ _ ⟨a1.symm, fun _ => ⟨by rw [a2], a3⟩, fun y => absurd a1 y⟩, Nat.le_refl _, Nat.le_refl _⟩
  · show ∀ x m2 o2, _ → _
    rintro x m2 o2 ⟨⟨a1, a2, a3⟩, rfl⟩
    rcases hq with q0 | ⟨q1, q2⟩ | ⟨q1, q2⟩
    · exact absurd q0 a1
    · rw [q2] at a2
      have e : x = 1 := a2
      subst e
      refine mXB_s (mOk (by decide)) rfl [] [(0, 10, 17, 13)] rfl (by decide) (Or.inr ⟨rfl, rfl, rfl⟩) rfl 5 (mGoOn (mOk (by decide)) rfl [] 400 ?_)
      show Φ (.inl (some (.int (1 : Int32)))) m2 o2 ∧ 4 ≤ 4 ∧ 24 ≤ 24
      exact ⟨hΦ _ _ _ ⟨q1.symm, fun y => absurd y a1, fun _ => a3⟩, Nat.le_refl _, Nat.le_refl _⟩
    · rw [q2] at a2
      have e : x = 0 := a2
      subst e
      refine mXB_s (mOk (by decide)) rfl [(0, 10, 13, 31)] [] rfl (by decide) (Or.inl ⟨rfl, rfl, fun z hz => by rw [List.mem_singleton.mp hz]⟩) rfl 5 (mGoOn (mOk (by decide)) rfl [] 400 ?_)
      show Φ (.inl (some (.int (2 : Int32)))) m2 o2 ∧ 4 ≤ 4 ∧ 24 ≤ 24
      exact ⟨hΦ _ _ _ ⟨q1.symm, fun y => absurd y a1, fun _ => a3⟩, Nat.le_refl _, Nat.le_refl _⟩
theorem h_year (p0 p1 p2 p3 : Int32) {q : Oc} (hx : xS l g (d - 1) k_X11_year [.ref 586, .int p0, .int p1, .int p2, .int p3] m A q) (hq : q.1 = 0 ∨ (q.1 = 1 ∧ q.2.1 = 1)) (hd : 1 ≤ d) : hS l g d k_L_year [.ref 586, .int p0, .int p1, .int p2, .int p3, .ref 585] m A q := by
  intro htr o
  refine mSat_ofH htr (by decide) (by decide) rfl 1 (m1c_of rfl) rfl (mGoOn (mOk (by decide)) rfl [] 400 ?_)
  have hΦ : ∀ r m2 o2, (r = q.1 ∧ (q.1 = 0 → o2 = q.2.2.toInt64 ∧ cl m2 = A) ∧ (q.1 ≠ 0 → cl m2 = mset A 586 (15 + q.2.1) (A 586 (15 + q.2.1) + 1))) → hO A q (.inl (some (.int r))) m2 o2 := fun _ _ _ q => q
  generalize hO A q = Φ at hΦ ⊢
  show True ∧ mCal l g d k_L_year Φ 4 24 _ 9 k_X11_year false [.ref 586, .int p0, .int p1, .int p2, .int p3] [.int (0 : Int32), .ref 585] [.ref 586, .int p0, .int p1, .int p2, .int p3, .ref 585, mJ] m o 0 0 1
  refine ⟨trivial, d - 1, fun v m2 o2 => xOk A q (.inl (some (.int v))) m2 ∧ o2 = o, fun x m2 o2 => xOk A q (.inr x) m2 ∧ o2 = o, 4, 24, by omega, hx htr o, by decide, by decide, ?_, ?_⟩
  · rintro v m2 o2 ⟨⟨a1, a2, a3⟩, rfl⟩
    show (aOut = aOut ∧ (Φ (.inl (some (.int (0 : Int32)))) m2 v.toInt64 ∧ 4 ≤ 4 ∧ 24 ≤ 24))
    exact ⟨rfl, hΦ _ _ _ ⟨a1.symm, fun _ => ⟨by rw [a2], a3⟩, fun y => absurd a1 y⟩, Nat.le_refl _, Nat.le_refl _⟩
  · show ∀ x m2 o2, _ → _
    rintro x m2 o2 ⟨⟨a1, a2, a3⟩, rfl⟩
    rcases hq with q0 | ⟨q1, q2⟩
    · exact absurd q0 a1
    · rw [q2] at a2
      have e : x = 0 := a2
      subst e
      refine mXB_s (mOk (by decide)) rfl [] [] rfl (by decide) (Or.inl ⟨rfl, rfl, fun z hz => absurd hz List.not_mem_nil⟩) rfl 7 (mGoOn (mOk (by decide)) rfl [] 400 ?_)
      show Φ (.inl (some (.int (1 : Int32)))) m2 o2 ∧ 4 ≤ 4 ∧ 24 ≤ 24
      exact ⟨hΦ _ _ _ ⟨q1.symm, fun y => absurd y a1, fun _ => a3⟩, Nat.le_refl _, Nat.le_refl _⟩
theorem h_span (p0 p1 p2 p3 p4 p5 : Int32) {q : Oc} (hx : xS l g (d - 1) k_X11_span [.ref 586, .int p0, .int p1, .int p2, .int p3, .int p4, .int p5] m A q) (hq : q.1 = 0 ∨ (q.1 = 1 ∧ q.2.1 = 1)) (hd : 1 ≤ d) : hS l g d k_L_span [.ref 586, .int p0, .int p1, .int p2, .int p3, .int p4, .int p5, .ref 585] m A q := by
  intro htr o
  refine mSat_ofH htr (by decide) (by decide) rfl 1 (m1c_of rfl) rfl (mGoOn (mOk (by decide)) rfl [] 400 ?_)
  have hΦ : ∀ r m2 o2, (r = q.1 ∧ (q.1 = 0 → o2 = q.2.2.toInt64 ∧ cl m2 = A) ∧ (q.1 ≠ 0 → cl m2 = mset A 586 (15 + q.2.1) (A 586 (15 + q.2.1) + 1))) → hO A q (.inl (some (.int r))) m2 o2 := fun _ _ _ q => q
  generalize hO A q = Φ at hΦ ⊢
  show True ∧ mCal l g d k_L_span Φ 4 24 _ 13 k_X11_span false [.ref 586, .int p0, .int p1, .int p2, .int p3, .int p4, .int p5] [.int (0 : Int32), .ref 585] [.ref 586, .int p0, .int p1, .int p2, .int p3, .int p4, .int p5, .ref 585, mJ] m o 0 0 1
  refine ⟨trivial, d - 1, fun v m2 o2 => xOk A q (.inl (some (.int v))) m2 ∧ o2 = o, fun x m2 o2 => xOk A q (.inr x) m2 ∧ o2 = o, 4, 24, by omega, hx htr o, by decide, by decide, ?_, ?_⟩
  · rintro v m2 o2 ⟨⟨a1, a2, a3⟩, rfl⟩
    show (aOut = aOut ∧ (Φ (.inl (some (.int (0 : Int32)))) m2 v.toInt64 ∧ 4 ≤ 4 ∧ 24 ≤ 24))
    exact ⟨rfl, hΦ _ _ _ ⟨a1.symm, fun _ => ⟨by rw [a2], a3⟩, fun y => absurd a1 y⟩, Nat.le_refl _, Nat.le_refl _⟩
  · show ∀ x m2 o2, _ → _
    rintro x m2 o2 ⟨⟨a1, a2, a3⟩, rfl⟩
    rcases hq with q0 | ⟨q1, q2⟩
    · exact absurd q0 a1
    · rw [q2] at a2
      have e : x = 0 := a2
      subst e
      refine mXB_s (mOk (by decide)) rfl [] [] rfl (by decide) (Or.inl ⟨rfl, rfl, fun z hz => absurd hz List.not_mem_nil⟩) rfl 9 (mGoOn (mOk (by decide)) rfl [] 400 ?_)
      show Φ (.inl (some (.int (1 : Int32)))) m2 o2 ∧ 4 ≤ 4 ∧ 24 ≤ 24
      exact ⟨hΦ _ _ _ ⟨q1.symm, fun y => absurd y a1, fun _ => a3⟩, Nat.le_refl _, Nat.le_refl _⟩
end HL
