/-! THE READING OF TEXTS, as the reference does it: where it stands, the fault, its place -/
noncomputable def pI (p : Prop) : Int32 := @ite _ p (Classical.propDecidable p) 1 0
theorem pI_t {p : Prop} (h : p) : pI p = 1 := if_pos h
theorem pI_f {p : Prop} (h : ¬ p) : pI p = 0 := if_neg h
theorem pI_01 (p : Prop) : pI p = 0 ∨ pI p = 1 := by
  by_cases h : p
  · exact Or.inr (pI_t h)
  · exact Or.inl (pI_f h)
theorem pI_0 {p : Prop} : pI p = 0 ↔ ¬ p := by
  by_cases h : p
  · rw [pI_t h]; exact ⟨fun q => absurd q (by decide), fun q => absurd h q⟩
  · rw [pI_f h]; exact ⟨fun _ => h, fun _ => rfl⟩
theorem pI_1 {p : Prop} : ¬ pI p = 0 ↔ p := by
  by_cases h : p
  · rw [pI_t h]; exact ⟨fun _ => h, fun _ => by decide⟩
  · rw [pI_f h]; exact ⟨fun q => absurd rfl q, fun q => absurd q h⟩
theorem ite_pI (p : Prop) [Decidable p] : (if p then (1 : Int32) else 0) = pI p := by
  by_cases h : p
  · rw [if_pos h, pI_t h]
  · rw [if_neg h, pI_f h]
def isDg (c : Int32) : Prop := 48 ≤ c ∧ c ≤ 57
def isSm (c : Int32) : Prop := 97 ≤ c ∧ c ≤ 122
/-- the three fields of the reading -/
def mP3 (m : Mm) (a : Nat) (f fa : Int32) : Mm := fun x j => if x = 0 ∧ j = 4 then nI a else if x = 0 ∧ j = 5 then f else if x = 0 ∧ j = 6 then fa else m x j
theorem mP3_4 (m : Mm) (a : Nat) (f fa : Int32) : mP3 m a f fa 0 4 = nI a := by unfold mP3; simp
theorem mP3_5 (m : Mm) (a : Nat) (f fa : Int32) : mP3 m a f fa 0 5 = f := by unfold mP3; simp
theorem mP3_6 (m : Mm) (a : Nat) (f fa : Int32) : mP3 m a f fa 0 6 = fa := by unfold mP3; simp
theorem mP3_o (m : Mm) (a : Nat) (f fa : Int32) {x : Nat} (h : x ≠ 0) : mP3 m a f fa x = m x := by funext j; unfold mP3; simp [h]
theorem mP3_f (m : Mm) (a : Nat) (f fa : Int32) {j : Nat} (h4 : j ≠ 4) (h5 : j ≠ 5) (h6 : j ≠ 6) : mP3 m a f fa 0 j = m 0 j := by unfold mP3; simp [h4, h5, h6]
theorem mP3_s4 (m : Mm) (a b : Nat) (f fa : Int32) : mset (mP3 m a f fa) 0 4 (nI b) = mP3 m b f fa := by
  funext x j
  rw [mset_ap]
  unfold mP3
  by_cases h : x = 0 ∧ j = 4
  · simp [h]
  · simp [h]
theorem mP3_s56 (m : Mm) (a : Nat) (f fa w h : Int32) : mset (mset (mP3 m a f fa) 0 5 w) 0 6 h = mP3 m a w h := by
  funext x j
  rw [mset_ap, mset_ap]
  unfold mP3
  by_cases h6 : x = 0 ∧ j = 6
  · have : ¬ (x = 0 ∧ j = 4) := by omega
    have : ¬ (x = 0 ∧ j = 5) := by omega
    simp [*]
  · by_cases h5 : x = 0 ∧ j = 5
    · have : ¬ (x = 0 ∧ j = 4) := by omega
      simp [*]
    · simp [h5, h6]
theorem mP3_id (m : Mm) {a : Nat} {f fa : Int32} (h4 : m 0 4 = nI a) (h5 : m 0 5 = f) (h6 : m 0 6 = fa) : m = mP3 m a f fa := by
  funext x j
  unfold mP3
  by_cases q4 : x = 0 ∧ j = 4
  · rw [if_pos q4, q4.1, q4.2, h4]
  · rw [if_neg q4]
    by_cases q5 : x = 0 ∧ j = 5
    · rw [if_pos q5, q5.1, q5.2, h5]
    · rw [if_neg q5]
      by_cases q6 : x = 0 ∧ j = 6
      · rw [if_pos q6, q6.1, q6.2, h6]
      · rw [if_neg q6]
theorem mP3_mP3 (m : Mm) (a b : Nat) (f fa f' fa' : Int32) : mP3 (mP3 m a f fa) b f' fa' = mP3 m b f' fa' := by
  funext x j
  unfold mP3
  by_cases q4 : x = 0 ∧ j = 4
  · simp [q4]
  · by_cases q5 : x = 0 ∧ j = 5
    · simp [q5]
    · by_cases q6 : x = 0 ∧ j = 6
      · simp [q6]
      · simp [q4, q5, q6]
abbrev PS : Type := Nat × Int32 × Int32
def mPS (m : Mm) (s : PS) : Mm := mP3 m s.1 s.2.1 s.2.2
noncomputable def pWr (w : Int32) (h : Int32) (s : PS) : PS := if s.2.1 = 0 then (s.1, w, h) else s
def pBl (T : Nat → Int32) (n : Nat) (s : PS) : PS := (skp T n s.1, s.2)
theorem pWr_a (w h : Int32) (s : PS) : (pWr w h s).1 = s.1 := by unfold pWr; split <;> rfl
section R2
variable {l : Launch} {g : mG} {d : Nat}
theorem q_isDigit (c : Int32) (m : Mm) : mFi l g d k_X12_isDigit [.int c] m (pI (isDg c)) m := by
  have h := r_isDigit (l := l) (g := g) (d := d) c m
  rwa [ite_pI] at h
theorem q_isSmall (c : Int32) (m : Mm) : mFi l g d k_X12_isSmall [.int c] m (pI (isSm c)) m := by
  have h := r_isSmall (l := l) (g := g) (d := d) c m
  rwa [ite_pI] at h
theorem q_in (v lo hi : Int32) (m : Mm) : mFi l g d k_X12_in [.int v, .int lo, .int hi] m (pI (lo ≤ v ∧ v ≤ hi)) m := by
  have h := r_in (l := l) (g := g) (d := d) v lo hi m
  rwa [ite_pI] at h
theorem q_wrong (w h : Int32) (m : Mm) (s : PS) : mFu l g d k_X12_wrong [.ref 0, .int w, .int h] (mPS m s) (mPS m (pWr w h s)) := by
  have q := r_wrong (l := l) (g := g) (d := d) w h (mPS m s)
  have e : (if mPS m s 0 5 = 0 then mset (mset (mPS m s) 0 5 w) 0 6 h else mPS m s) = mPS m (pWr w h s) := by
    unfold mPS pWr
    rw [mP3_5]
    by_cases h0 : s.2.1 = 0
    · rw [if_pos h0, if_pos h0, mP3_s56]
    · rw [if_neg h0, if_neg h0]
  rwa [e] at q
theorem q_byteAt {n i : Nat} (m : Mm) (s : PS) (hs : m 0 2 = nI n) (hn : n ≤ 600) (hi : i < 2 ^ 31) : mFi l g d k_X12_byteAt [.ref 0, .int (nI i)] (mPS m s) (bAt (m 1) n i) (mPS m s) := by
  have h := r_byteAt (l := l) (g := g) (d := d) (n := n) (i := i) (mPS m s) (by unfold mPS; rw [mP3_f _ _ _ _ (by decide) (by decide) (by decide)]; exact hs) hn hi
  have e : (mPS m s) 1 = m 1 := mP3_o m _ _ _ (by decide)
  rwa [e] at h
theorem q_blanks {n : Nat} (m : Mm) (s : PS) (hs : m 0 2 = nI n) (hn : n ≤ 600) (hi : s.1 ≤ 600) (hd : 1 ≤ d) : mFu l g d k_X12_blanks [.ref 0] (mPS m s) (mPS m (pBl (m 1) n s)) := by
  have h := r_blanks (l := l) (g := g) (d := d) (n := n) (i := s.1) (mPS m s) (by unfold mPS; rw [mP3_f _ _ _ _ (by decide) (by decide) (by decide)]; exact hs) (by unfold mPS; rw [mP3_4]) hn hi hd
  have e : (mPS m s) 1 = m 1 := mP3_o m _ _ _ (by decide)
  rw [e] at h
  have e2 : mset (mPS m s) 0 4 (nI (skp (m 1) n s.1)) = mPS m (pBl (m 1) n s) := by unfold mPS; rw [mP3_s4]; rfl
  rwa [e2] at h
end R2
