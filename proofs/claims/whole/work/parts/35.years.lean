set_option maxRecDepth 100000
/-! YEARS BY SEEDS -/
def dr (L : Int32) : Int32 := L * 1103515245 + 12345
def drv (L n : Int32) : Int32 := jrem (jshr L 16 &&& 32767) n
theorem drv_nI (L : Int32) {n : Nat} (h0 : 0 < n) (hn : n < 2 ^ 31) : ∃ j, drv L (nI n) = nI (j % n) := by
  obtain ⟨j, _, hj⟩ := wb_of32 (jshr L 16)
  refine ⟨j % 2 ^ 15, ?_⟩
  unfold drv
  rw [hj, show (32767 : Int32) = nI (2 ^ 15 - 1) from rfl, fa_mask]
  exact pk_rem (by have := Nat.mod_lt j (show 0 < 2 ^ 15 by decide); omega) h0 hn
theorem drv_In (L : Int32) {n : Nat} (h0 : 0 < n) (hn : n < 2 ^ 31) : In (drv L (nI n)) n := by
  obtain ⟨j, hj⟩ := drv_nI L h0 hn
  exact ⟨j % n, Nat.mod_lt _ h0, hj⟩
def eq37 (R R' : Nat → Int32) : Prop := ∀ i, i < 37 → R i = R' i
def plR (A : Mm) (R : Nat → Int32) : Prop := ∀ k, k < nM A → In (R k) (nS A)
theorem eq37_upd {R R' : Nat → Int32} (h : eq37 R R') (i : Nat) {v v' : Int32} (hv : v = v') : eq37 (upd R i v) (upd R' i v') := fun j hj => by
  rw [upd_at, upd_at, hv, h j hj]
theorem sayR_37 {A : Mm} (hA : CtB A) {R R' : Nat → Int32} (h : eq37 R R') {k s : Nat} (hk : k < 6) (hs : s < 9) (x : Int32) : sayR A R k s x = sayR A R' k s x := by
  have hN2 := hA.2.2.1.2
  unfold sayR oth
  rw [h (6 + k) (by omega), h 36 (by omega), h (18 + s) (by omega)]
  rw [cnt_cong (P := fun j => j ≠ k ∧ R j = nI s ∧ R (12 + j) = 0) (Q := fun j => j ≠ k ∧ R' j = nI s ∧ R' (12 + j) = 0) (fun j hj => by rw [h j (by omega), h (12 + j) (by omega)])]
theorem fo_inv {σ : Type} {st st' : Nat → σ → σ} {I : σ → σ → Prop} : ∀ {n : Nat} {x y : σ}, I x y → (∀ k, k < n → ∀ x y, I x y → I (st k x) (st' k y)) → I (fo st n x) (fo st' n y)
  | 0, _, _, h, _ => h
  | n + 1, x, y, h, hs => hs n (by omega) _ _ (fo_inv h (fun k hk => hs k (by omega)))
theorem coC_37 {A : Mm} (hA : CtB A) {R R' : Nat → Int32} (h : eq37 R R') {k : Nat} (hk : k < nM A) (hp : plR A R) : coC A R k = coC A R' k := by
  have hN := hA.1.2
  have hN2 := hA.2.2.1.2
  unfold coC
  have := In_cl (hp k hk) (by omega)
  rw [← h k (by omega), ← h 35 (by omega)]
  exact sayR_37 hA h (by omega) (by omega) _
theorem coS_37 {A : Mm} (hA : CtB A) {R R' : Nat → Int32} (h : eq37 R R') {k : Nat} (hk : k < nM A) (hp : plR A R) (w : Int32) : eq37 (coS A R k w (nP A)).1 (coS A R' k w (nP A)).1 ∧ (coS A R k w (nP A)).2 = (coS A R' k w (nP A)).2 := by
  have hN2 := hA.2.2.1.2
  have hN3 := hA.2.2.2.2
  unfold coS
  rw [← coC_37 hA h hk hp, ← h k (by omega)]
  refine fo_inv (I := fun (x y : (Nat → Int32) × Int32) => eq37 x.1 y.1 ∧ x.2 = y.2) ⟨?_, rfl⟩ ?_
  · unfold coR
    rw [← coC_37 hA h hk hp, ← h k (by omega)]
    exact eq37_upd (eq37_upd h _ rfl) _ (by rw [h (6 + k) (by omega)])
  · intro p hp2 x y hxy
    unfold stC
    by_cases q : A (61 + p) 0 = nI (R k).toNatClampNeg ∧ A (61 + p) 1 = coC A R k
    · rw [ifp_t q, ifp_t q]
      exact ⟨eq37_upd hxy.1 _ rfl, by rw [hxy.2, hxy.1 (27 + p) (by omega)]⟩
    · rw [ifp_f q, ifp_f q]
      exact hxy
def e3 (x y : N3) : Prop := x.1 = y.1 ∧ eq37 x.2.1 y.2.1 ∧ x.2.2 = y.2.2
theorem nCall_37 {A : Mm} (hA : CtB A) {R R' : Nat → Int32} (h : eq37 R R') {k : Nat} (hk : k < nM A) (hp : plR A R) (w : Int32) : e3 (nCall A R k w) (nCall A R' k w) := by
  have hN2 := hA.2.2.1.2
  unfold nCall
  rw [h (12 + k) (by omega)]
  by_cases q : R' (12 + k) = 1
  · rw [if_pos q, if_pos q]; exact ⟨rfl, h, rfl⟩
  · rw [if_neg q, if_neg q]; exact ⟨rfl, coS_37 hA h hk hp w⟩
theorem plR_upd {A : Mm} {R : Nat → Int32} (h : plR A R) {k s : Nat} (hs : s < nS A) : plR A (upd R k (nI s)) := fun j hj => by
  rw [upd_at]
  by_cases e : j = k
  · rw [if_pos e]; exact ⟨s, hs, rfl⟩
  · rw [if_neg e]; exact h j hj
theorem nWalk_37 {A : Mm} (hA : CtB A) {R R' : Nat → Int32} (h : eq37 R R') {k s : Nat} (hk : k < nM A) (hs : s < nS A) (hp : plR A R) (w : Int32) : e3 (nWalk A R k s w) (nWalk A R' k s w) := by
  have hN2 := hA.2.2.1.2
  unfold nWalk
  rw [h (12 + k) (by omega), h k (by omega)]
  by_cases q : R' (12 + k) = 1 ∨ ¬ Ln A (R' k) (nI s)
  · rw [ifp_t q, ifp_t q]; exact ⟨rfl, h, rfl⟩
  · rw [ifp_f q, ifp_f q]; exact nCall_37 hA (eq37_upd h _ rfl) hk (plR_upd hp hs) w
theorem nHour_37 {R R' : Nat → Int32} (h : eq37 R R') : eq37 (nHour R) (nHour R') := by
  intro i hi
  unfold nHour
  rw [h 35 (by omega), h 36 (by omega)]
  by_cases q : 24 ≤ R' 35 + 1
  · rw [if_pos q, if_pos q]

    rw [h i hi]
  · rw [if_neg q, if_neg q, upd_at, upd_at, h i hi]
theorem pl_hi {A : Mm} (hA : CtB A) {R R' : Nat → Int32} (h : ∀ i, i < 6 → R' i = R i) (hp : plR A R) : plR A R' := fun k hk => by rw [h k (by have := hA.2.2.1.2; omega)]; exact hp k hk
theorem coS_lo (A : Mm) (R : Nat → Int32) (k : Nat) (w : Int32) : ∀ (n i : Nat), i < 6 → (coS A R k w n).1 i = R i := by
  intro n i hi
  unfold coS
  refine fo_inv (I := fun (x _ : (Nat → Int32) × Int32) => x.1 i = R i) (st' := fun _ x => x) (y := (R, w)) ?_ ?_
  · show coR A R k i = R i
    unfold coR; rw [upd_at, if_neg (by omega), upd_at, if_neg (by omega)]
  · intro p _ x y hx
    unfold stC
    by_cases q : A (61 + p) 0 = nI (R k).toNatClampNeg ∧ A (61 + p) 1 = coC A R k
    · rw [ifp_t q]; show upd _ _ _ _ = _; rw [upd_at, if_neg (by omega)]; exact hx
    · rw [ifp_f q]; exact hx
theorem nCall_lo (A : Mm) (R : Nat → Int32) (k : Nat) (w : Int32) {i : Nat} (hi : i < 6) : (nCall A R k w).2.1 i = R i := by
  unfold nCall
  by_cases q : R (12 + k) = 1
  · rw [if_pos q]
  · rw [if_neg q]; exact coS_lo A R k w _ i hi
theorem nWalk_pl {A : Mm} (hA : CtB A) {R : Nat → Int32} (hp : plR A R) {k s : Nat} (hs : s < nS A) (w : Int32) : plR A (nWalk A R k s w).2.1 := by
  unfold nWalk
  by_cases q : R (12 + k) = 1 ∨ ¬ Ln A (R k) (nI s)
  · rw [ifp_t q]; exact hp
  · rw [ifp_f q]; exact pl_hi hA (fun i hi => nCall_lo A _ k w hi) (plR_upd hp hs)
theorem nHour_lo (R : Nat → Int32) {i : Nat} (hi : i < 18) : nHour R i = R i := by
  unfold nHour
  by_cases q : 24 ≤ R 35 + 1
  · rw [if_pos q]; rw [if_neg (by omega), if_neg (by omega), if_neg (by omega), if_neg (by omega)]
  · rw [if_neg q, upd_at, if_neg (by omega)]
theorem n01 (A : Mm) (R : Nat → Int32) (k : Nat) (w : Int32) : (nCall A R k w).1 = 0 ∨ (nCall A R k w).1 = 1 := by
  unfold nCall
  by_cases e : R (12 + k) = 1
  · rw [if_pos e]; exact Or.inl rfl
  · rw [if_neg e]; exact Or.inr rfl
theorem w01 (A : Mm) (R : Nat → Int32) (k s : Nat) (w : Int32) : (nWalk A R k s w).1 = 0 ∨ (nWalk A R k s w).1 = 1 := by
  unfold nWalk
  by_cases q : R (12 + k) = 1 ∨ ¬ Ln A (R k) (nI s)
  · rw [ifp_t q]; exact Or.inl rfl
  · rw [ifp_f q]; exact n01 A _ k w
abbrev Y4 : Type := (Nat → Int32) × Int32 × Int32 × Int32
def yK (A : Mm) (y : Y4) : Nat := (drv (dr y.2.2.1) (A 4 2)).toNatClampNeg
def yS (A : Mm) (y : Y4) : Nat := (drv (dr (dr y.2.2.1)) (A 4 0)).toNatClampNeg
noncomputable def yN (A : Mm) (y : Y4) : N3 := nWalk A y.1 (yK A y) (yS A y) y.2.1
def bdF (R : Nat → Int32) (k : Nat) : Nat → Int32 := upd R (12 + k) (1 - R (12 + k))
noncomputable def yB (A : Mm) (q : Int32) (y : Y4) : Nat → Int32 := if q ≤ drv (dr (dr (dr y.2.2.1))) 16 then (yN A y).2.1 else bdF (yN A y).2.1 (yK A y)
noncomputable def stY (A : Mm) (q : Int32) (y : Y4) : Y4 := (nHour (yB A q y), (yN A y).2.2, dr (dr (dr y.2.2.1)), y.2.2.2 + (yN A y).1)
noncomputable def foY (A : Mm) (q seed : Int32) (n : Nat) : Y4 := fo (fun _ y => stY A q y) n (A 494, 0, seed, 0)
noncomputable def yr (A : Mm) (seed : Int32) (n : Nat) (q : Int32) : Y4 := if nM A = 0 then (A 494, 0, seed, 0) else foY A q seed n
theorem yr_pl {A : Mm} (hA : CtB A) (hS : 0 < nS A) {q : Int32} {y : Y4} (h : plR A y.1) : plR A (stY A q y).1 := by
  have hN := hA.1
  have hs : yS A y < nS A := by
    unfold yS
    rw [hN.1]
    exact (In_cl (drv_In _ hS (by omega)) (by omega)).2
  have h1 := nWalk_pl hA h (k := yK A y) hs y.2.1
  refine pl_hi hA (R := (yN A y).2.1) (fun i hi => ?_) h1
  show nHour _ i = _
  rw [nHour_lo _ (by omega)]
  unfold yB
  by_cases z : q ≤ drv (dr (dr (dr y.2.2.1))) 16
  · rw [if_pos z]
  · rw [if_neg z]; unfold bdF; rw [upd_at, if_neg (by omega)]
