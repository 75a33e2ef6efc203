set_option maxRecDepth 100000
/-! THE FIRST CELLS: what the machine's state says of the heap -/
theorem blt_if (a b : Nat) : (Nat.blt a b = true) ↔ a < b := by simp [Nat.blt_eq]
theorem al_if (t : Nat) : al t = if t < 331 then 586 + t else t - 331 := by
  unfold al
  by_cases h : t < 331
  · rw [(blt_if t 331).mpr h, if_pos h, cond_true]
  · rw [if_neg h]
    cases hb : Nat.blt t 331 with
    | false => rfl
    | true => exact absurd ((blt_if t 331).mp hb) h
theorem ix_if (k : Nat) : ix k = if k < 586 then k + 331 else k - 586 := by
  unfold ix
  by_cases h : k < 586
  · rw [(blt_if k 586).mpr h, if_pos h, cond_true]
  · rw [if_neg h]
    cases hb : Nat.blt k 586 with
    | false => rfl
    | true => exact absurd ((blt_if k 586).mp hb) h
theorem al_ix {k : Nat} (h : k < 917) : al (ix k) = k := by
  rw [al_if, ix_if]
  split <;> split <;> omega
theorem ix_al {t : Nat} (h : t < 917) : ix (al t) = t := by
  rw [ix_if, al_if]
  split <;> split <;> omega
theorem al_lt {t : Nat} (h : t < 917) : al t < 917 := by
  rw [al_if]
  split <;> omega
theorem bMl_cons (q : Nat × Nat × Int32) (t : List (Nat × Nat × Int32)) (k i : Nat) : bMl (q :: t) k i = if q.1 = k ∧ q.2.1 = i then q.2.2 else bMl t k i := by
  show (bif Nat.beq q.1 k && Nat.beq q.2.1 i then q.2.2 else bMl t k i) = _
  by_cases h : q.1 = k ∧ q.2.1 = i
  · rw [if_pos h, h.1, h.2, Nat.beq_refl, Nat.beq_refl]
    rfl
  · rw [if_neg h]
    cases hb : (Nat.beq q.1 k && Nat.beq q.2.1 i) with
    | false => rfl
    | true =>
      rw [Bool.and_eq_true] at hb
      exact absurd ⟨Nat.eq_of_beq_eq_true hb.1, Nat.eq_of_beq_eq_true hb.2⟩ h
theorem bSt_1 (σ : bS) (k i : Nat) (v : Int32) : (bSt σ k i v).1 = σ.1 := by
  unfold bSt
  cases decide (bMl σ.2.1 k i = v) <;> rfl
theorem bSt_2 (σ : bS) (k i : Nat) (v : Int32) : (bSt σ k i v).2.2 = σ.2.2 := by
  unfold bSt
  cases decide (bMl σ.2.1 k i = v) <;> rfl
theorem bM_st (σ : bS) (k i : Nat) (v : Int32) : bM (bSt σ k i v) = mset (bM σ) k i v := by
  funext x j
  have e : mset (bM σ) k i v x j = if x = k ∧ j = i then v else bM σ x j := by
    unfold mset
    by_cases hx : x = k
    · subst hx
      rw [if_pos rfl]
      unfold upd
      by_cases hj : j = i
      · rw [if_pos hj, if_pos ⟨rfl, hj⟩]
      · rw [if_neg hj, if_neg (fun q => hj q.2)]
    · rw [if_neg hx, if_neg (fun q => hx q.1)]
  rw [e]
  unfold bM bSt
  by_cases h : bMl σ.2.1 k i = v
  · rw [decide_eq_true h, cond_true]
    by_cases hq : x = k ∧ j = i
    · rw [if_pos hq, hq.1, hq.2, h]
    · rw [if_neg hq]
  · rw [decide_eq_false h, cond_false]
    show bMl ((k, i, v) :: σ.2.1) x j = _
    rw [bMl_cons]
    by_cases hq : x = k ∧ j = i
    · rw [if_pos hq, if_pos ⟨hq.1.symm, hq.2.symm⟩]
    · rw [if_neg hq, if_neg (fun z => hq ⟨z.1.symm, z.2.symm⟩)]
theorem bF_st (σ : bS) (k i : Nat) (v : Int32) : bF (bSt σ k i v) = bF σ := by
  funext x j
  unfold bF
  rw [bSt_2]
theorem bF_fl (σ : bS) (k j x i : Nat) : bF (bFl σ k j) x i = ((Nat.beq k x && Nat.beq j i) || bF σ x i) := rfl
theorem bF_fl_eq (σ : bS) (k j : Nat) : bF (bFl σ k j) k j = true := by
  rw [bF_fl, Nat.beq_refl, Nat.beq_refl]
  rfl
theorem bF_fl_ne (σ : bS) (k j : Nat) {x i : Nat} (h : ¬ (x = k ∧ i = j)) : bF (bFl σ k j) x i = bF σ x i := by
  rw [bF_fl]
  cases hb : (Nat.beq k x && Nat.beq j i) with
  | false => rfl
  | true =>
    rw [Bool.and_eq_true] at hb
    exact absurd ⟨(Nat.eq_of_beq_eq_true hb.1).symm, (Nat.eq_of_beq_eq_true hb.2).symm⟩ h
theorem bIn_of {σ : bS} (h : bIn σ = true) {k : Nat} (hk : ¬ ix k < σ.1) (i : Nat) : bM σ k i = 0 ∧ bF σ k i = false := by
  unfold bIn at h
  rw [Bool.and_eq_true] at h
  constructor
  · have key : ∀ t : List (Nat × Nat × Int32), t.all (fun q => Nat.blt (ix q.1) σ.1) = true → bMl t k i = 0 := by
      intro t
      induction t with
      | nil => intro _; rfl
      | cons q t ih =>
        intro ht
        rw [List.all_cons, Bool.and_eq_true] at ht
        rw [bMl_cons, if_neg, ih ht.2]
        intro z
        rw [z.1] at ht
        exact hk ((blt_if _ _).mp ht.1)
    exact key _ h.1
  · cases hb : bF σ k i with
    | false => rfl
    | true =>
      obtain ⟨q, hq, hq2⟩ := List.any_eq_true.mp hb
      rw [Bool.and_eq_true] at hq2
      have := List.all_eq_true.mp h.2 q hq
      rw [Nat.eq_of_beq_eq_true hq2.1] at this
      exact absurd ((blt_if _ _).mp this) hk
def bG (g : mG) : Prop := ∀ t, t < 917 → gA g (al t) = gB g + t
def bFv (g : mG) (σ : bS) (k ci j : Nat) : Value := if mIsRef ci j = true then (if bF σ k j = true then .ref (gA g (mRF k j)) else .null) else .int (bM σ k j)
def bRf (g : mG) (σ : bS) (k i : Nat) : Option Nat := if bF σ k i = true then some (gA g (mRF k i)) else none
def bCE (g : mG) (σ : bS) (k : Nat) : va_E :=
  if mKd k = 1 then .inl (gC g 0, mLn k, .inl (bM σ k))
  else if mKd k = 2 then .inl (gC g 1, mLn k, .inl (bM σ k))
  else if mKd k = 3 then .inl (gC g 2, mLn k, .inr (.inl (fun _ => 0)))
  else if mKd k < 10 then .inl (gC g (mKd k - 1), mLn k, .inr (.inr (.inr (.inr (bRf g σ k)))))
  else .inr (mKd k - 10, (List.range (mLn k)).map (bFv g σ k (mKd k - 10)))
theorem bCE_1 (g : mG) (σ : bS) {x : Nat} (h : mKd x = 1) : bCE g σ x = .inl (gC g 0, mLn x, .inl (bM σ x)) := by unfold bCE; rw [if_pos h]
theorem bCE_2 (g : mG) (σ : bS) {x : Nat} (h : mKd x = 2) : bCE g σ x = .inl (gC g 1, mLn x, .inl (bM σ x)) := by unfold bCE; rw [if_neg (by omega), if_pos h]
theorem bCE_3 (g : mG) (σ : bS) {x : Nat} (h : mKd x = 3) : bCE g σ x = .inl (gC g 2, mLn x, .inr (.inl (fun _ => 0))) := by unfold bCE; rw [if_neg (by omega), if_neg (by omega), if_pos h]
theorem bCE_4 (g : mG) (σ : bS) {x : Nat} (h : 3 < mKd x) (h2 : mKd x < 10) : bCE g σ x = .inl (gC g (mKd x - 1), mLn x, .inr (.inr (.inr (.inr (bRf g σ x))))) := by unfold bCE; rw [if_neg (by omega), if_neg (by omega), if_neg (by omega), if_pos (by omega)]
theorem bCE_ob (g : mG) (σ : bS) {x a : Nat} (h : mKd x = 10 + a) : bCE g σ x = .inr (a, (List.range (mLn x)).map (bFv g σ x a)) := by
  unfold bCE
  rw [if_neg (by omega), if_neg (by omega), if_neg (by omega), if_neg (by omega), h, show 10 + a - 10 = a by omega]
theorem bCE_eq (g : mG) {σ σ' : bS} {k : Nat} (h : bM σ k = bM σ' k) (h2 : ∀ j, bF σ k j = bF σ' k j) : bCE g σ k = bCE g σ' k := by
  have e1 : bRf g σ k = bRf g σ' k := by
    funext i
    unfold bRf
    rw [h2]
  have e2 : ∀ ci, bFv g σ k ci = bFv g σ' k ci := by
    intro ci
    funext i
    unfold bFv
    rw [h2, h]
  unfold bCE
  rw [h, e1, e2]
def bLs (g : mG) (σ : bS) : va_W := (List.range σ.1).map (fun t => (gA g (al t), bCE g σ (al t)))
theorem bLs_at (g : mG) (σ : bS) {x : Nat} (hx : x < 917) (h : ix x < σ.1) : (bLs g σ)[ix x]? = some (gA g x, bCE g σ x) := by
  unfold bLs
  rw [List.getElem?_map, List.getElem?_range h]
  show some (gA g (al (ix x)), bCE g σ (al (ix x))) = _
  rw [al_ix hx]
def bP (g : mG) (σ : bS) (H : Heap) : Prop := (∀ t, t < σ.1 → va_at g.1 vwCl (gA g (al t), bCE g σ (al t)) H) ∧ σ.1 ≤ 917
theorem bLs_get {g : mG} {σ : bS} {i : Nat} {q : Nat × va_E} (h : (bLs g σ)[i]? = some q) : i < σ.1 ∧ q = (gA g (al i), bCE g σ (al i)) := by
  by_cases hi : i < σ.1
  · unfold bLs at h
    rw [List.getElem?_map, List.getElem?_range hi] at h
    exact ⟨hi, (Option.some.inj h).symm⟩
  · rw [List.getElem?_eq_none (by unfold bLs; rw [List.length_map, List.length_range]; omega)] at h
    cases h
theorem bP.P {g : mG} {σ : bS} {H : Heap} (h : bP g σ H) : va_P g.1 vwCl (bLs g σ) H := by
  intro i q hq
  obtain ⟨h1, rfl⟩ := bLs_get hq
  exact h.1 i h1
theorem bP.of {g : mG} {σ : bS} {H : Heap} (h : va_P g.1 vwCl (bLs g σ) H) (h2 : σ.1 ≤ 917) : bP g σ H := by
  refine ⟨fun t ht => h t _ ?_, h2⟩
  unfold bLs
  rw [List.getElem?_map, List.getElem?_range ht]
  rfl
theorem bD {g : mG} {σ : bS} (hG : bG g) (h2 : σ.1 ≤ 917) : va_D (mA g) (bLs g σ) := by
  refine ⟨fun i j p q hi hj e => ?_, fun i q hi => ?_⟩
  · obtain ⟨h1, rfl⟩ := bLs_get hi
    obtain ⟨h3, rfl⟩ := bLs_get hj
    have e : gA g (al i) = gA g (al j) := e
    rw [hG i (by omega), hG j (by omega)] at e
    omega
  · obtain ⟨h1, rfl⟩ := bLs_get hi
    show gB g ≤ gA g (al i)
    rw [hG i (by omega)]
    omega
/-- one cell changes -/
theorem bLs_set (g : mG) {σ σ' : bS} {x : Nat} (hx : x < 917) (h1 : σ'.1 = σ.1) (h9 : σ.1 ≤ 917) (e : va_E) (he : e = bCE g σ' x) (ho : ∀ j, j ≠ x → bCE g σ j = bCE g σ' j) (hl : ix x < σ.1) : (bLs g σ).set (ix x) (gA g x, e) = bLs g σ' := by
  apply List.ext_getElem?
  intro i
  by_cases hi : i < σ.1
  · have e1 : (bLs g σ')[i]? = some (gA g (al i), bCE g σ' (al i)) := by
      unfold bLs
      rw [List.getElem?_map, List.getElem?_range (by omega)]
      rfl
    rw [e1]
    by_cases hk : i = ix x
    · subst hk
      rw [List.getElem?_set_self (by unfold bLs; rw [List.length_map, List.length_range]; exact hi), al_ix hx, he]
    · rw [List.getElem?_set_ne (fun q => hk q.symm)]
      unfold bLs
      rw [List.getElem?_map, List.getElem?_range hi]
      show some (gA g (al i), bCE g σ (al i)) = _
      rw [ho (al i) (fun q => hk (by rw [← q, ix_al (by omega)]))]
  · rw [List.getElem?_eq_none (by rw [List.length_set]; unfold bLs; rw [List.length_map, List.length_range]; omega), List.getElem?_eq_none (by unfold bLs; rw [List.length_map, List.length_range]; omega)]
theorem bP_kept {g : mG} {σ : bS} {H H1 : Heap} (h : bP g σ H) (ho : ∀ q, q < H.size → H1[q]? = H[q]?) : ∀ t, t < σ.1 → va_at g.1 vwCl (gA g (al t), bCE g σ (al t)) H1 := fun t ht => (h.1 t ht).kept (ho _ (h.1 t ht).lt)
/-- a cell more -/
theorem bP_up {g : mG} {σ : bS} {H H1 : Heap} (h : bP g σ H) (ho : ∀ q, q < H.size → H1[q]? = H[q]?) (h9 : σ.1 < 917) (hn : va_at g.1 vwCl (gA g (al σ.1), bCE g σ (al σ.1)) H1) : bP g (bUp σ) H1 := by
  have e : ∀ k, bCE g (bUp σ) k = bCE g σ k := fun k => bCE_eq g rfl (fun _ => rfl)
  refine ⟨fun t ht => ?_, h9⟩
  rw [e]
  by_cases q : t = σ.1
  · subst q
    exact hn
  · exact bP_kept h ho t (by have : t < σ.1 + 1 := ht; omega)
/-- how many slots the first t cells have -/
def bSl : Nat → Nat
  | 0 => 0
  | t + 1 => bSl t + mLn (al t)
theorem bSl_mono {a b : Nat} (h : a ≤ b) : bSl a ≤ bSl b := by
  induction b with
  | zero => rw [Nat.le_zero.mp h]; exact Nat.le_refl _
  | succ b ih =>
    by_cases q : a = b + 1
    · rw [q]; exact Nat.le_refl _
    · exact Nat.le_trans (ih (by omega)) (Nat.le_add_right _ _)
theorem bHas_of {σ : bS} {x n : Nat} (h : bHas σ x n = true) : x < 917 ∧ ix x < σ.1 ∧ mKd x = n := by
  unfold bHas at h
  rw [Bool.and_eq_true, Bool.and_eq_true] at h
  exact ⟨(blt_if _ _).mp h.1, (blt_if _ _).mp h.2.1, Nat.eq_of_beq_eq_true h.2.2⟩
theorem b1i_of {α : Type} {S : List Value} {f : Int32 → List Value → Option α} {r : α} (h : b1i S f = some r) : ∃ x t, S = .int x :: t ∧ f x t = some r := by
  cases S with
  | nil => cases h
  | cons v t =>
    cases v with
    | int x => exact ⟨x, t, rfl, h⟩
    | _ => cases h
theorem b1r_of {α : Type} {S : List Value} {f : Nat → List Value → Option α} {r : α} (h : b1r S f = some r) : ∃ x t, S = .ref x :: t ∧ f x t = some r := by
  cases S with
  | nil => cases h
  | cons v t =>
    cases v with
    | ref x => exact ⟨x, t, rfl, h⟩
    | _ => cases h
theorem bq_of {α : Type} {c : Bool} {r : Option α} {z : α} (h : bq c r = some z) : c = true ∧ r = some z := by
  unfold bq at h
  cases c with
  | false => cases h
  | true => exact ⟨rfl, h⟩
theorem bGi_of {α : Type} {L : List Value} {i : Nat} {f : Int32 → Option α} {r : α} (h : bGi L i f = some r) : ∃ x, L[i]? = some (.int x) ∧ f x = some r := by
  unfold bGi at h
  split at h
  · rename_i x q
    exact ⟨x, q, h⟩
  · cases h
theorem bGr_of {α : Type} {L : List Value} {i : Nat} {f : Nat → Option α} {r : α} (h : bGr L i f = some r) : ∃ x, L[i]? = some (.ref x) ∧ f x = some r := by
  unfold bGr at h
  split at h
  · rename_i x q
    exact ⟨x, q, h⟩
  · cases h
