set_option maxRecDepth 100000
/-! BOTH ARE CALLED: the class's method first, then the reference's -/
def pPr (l : Launch) (g : mG) (d kL kR : Nat) (aL aR : List Value) (m : Mm) : Prop := ∃ Ψ : Int32 → Mm → Int64 → Prop, (l.stackTraces = false → ∀ o, mSat l g d kL aL m o (mIX Ψ mN0) 4 24) ∧ ∀ r m1 o1, Ψ r m1 o1 → mHi l g d kR aR m1 (fun v m2 => m2 0 0 = r ∧ (r = 0 → o1 = v.toInt64) ∧ Rl (cl m2))
def pPl (l : Launch) (g : mG) (d kL kR : Nat) (aL aR : List Value) (m : Mm) : Prop := ∃ Ψ : Int32 → Mm → Int64 → Prop, (l.stackTraces = false → ∀ o, mSat l g d kL aL m o (mIX Ψ mN0) 4 24) ∧ ∀ r m1 o1, Ψ r m1 o1 → mHl l g d kR aR m1 (fun v m2 => m2 0 0 = r ∧ (r = 0 → o1 = v) ∧ Rl (cl m2))
def pJ (l : Launch) (g : mG) (d kL kR : Nat) (aL aR : List Value) (m : Mm) : Prop := ∃ Ψ : Int32 → Mm → Prop, (l.stackTraces = false → ∀ o, mSat l g d kL aL m o (mIX (fun v m2 o2 => Ψ v m2 ∧ o2 = o) mN0) 4 24) ∧ ∀ r m1, Ψ r m1 → mHi l g d kR aR m1 (fun v m2 => v = r ∧ Rl (cl m2))
theorem Qr_cN1 {A : Mm} (hR : Rl A) (j : Nat) : Qr (cN1 A j) := by
  obtain ⟨⟨q1, q2, q3, q4, q5, q6, q7, q8, q9⟩, -⟩ := hR
  have h : ∀ a, a ≠ 2 → a ≠ 586 → cN1 A j a = A a := fun a _ h2 => cN1_lo A j h2
  have hS := sim_cN1 A j
  have e0 := h 0 (by decide) (by decide)
  have hbk : ∀ a, 392 ≤ a → a ≤ 400 → cN1 A j a = A a := fun a h1 h2 => h a (by omega) (by omega)
  have hC4 := nMSP (h 4 (by decide) (by decide))
  have hM6 := q1.1.2.2.1.2
  have hP8 := q1.1.2.2.2.2
  have e494 := h 494 (by decide) (by decide)
  have e35 : cN1 A j 0 35 = A 0 35 := by rw [e0]
  have e14 : cN1 A j 586 14 = A 586 14 := by unfold cN1; rw [mset_eq, pk_un (by omega)]
  exact ⟨cg_Cty hS q1, sim_LwOk hS q2, cg_BkOk e35 hbk (sim_nS hS) q3, by rw [e494]; exact cg_Nt hC4.1 hC4.2.2 hM6 (eq37_refl _) q4, cg_CtR hS q1.1 (fun a h1 h2 => h a (by omega) (by omega)) q5, cg_LwR hS q2 (fun a h1 h2 => h a (by omega) (by omega)) q6, cg_BkR e35 hbk q3 (fun a h1 h2 => h a (by omega) (by omega)) q7, by rw [e494]; exact cg_NtR hC4.1 hC4.2.1 hC4.2.2 hM6 hP8 (eq37_refl _) (fun a h1 h2 => h a (by omega) (by omega)) q8, by rw [e14, e0]; exact q9⟩
section PQ
variable {l : Launch} {g : mG} {d : Nat} {m A : Mm}
theorem pR_q {kL kR : Nat} {aL aR : List Value} {F : Mm → Oc} (hR : Rl A) (hx : hS l g d kL aL m A (F A)) (hs : ∀ j, sE (F A) (F (cN1 A j))) (hr : ∀ B m1, Qr B → cl m1 = B → mHi l g d kR aR m1 (rO B (F B))) : pPr l g d kL kR aL aR m := by
  refine ⟨_, hx, ?_⟩
  rintro r m1 o1 ⟨rfl, h0, h1⟩
  by_cases z : (F A).1 = 0
  · obtain ⟨e1, e2⟩ := h0 z
    refine mHi_mono (hr A m1 hR.1 e2) (fun v m2 q => ⟨q.1, fun _ => ?_, ?_⟩)
    · rw [e1, (q.2.1 z).1]
    · rw [(q.2.1 z).2]; exact hR
  · have e2 := h1 z
    have hj := (hs 0).2
    generalize hjj : (F A).2.1 = j at *
    have eF := (hs j).1 z
    refine mHi_mono (hr (cN1 A j) m1 (Qr_cN1 hR j) e2) (fun v m2 q => ?_)
    rw [eF] at q
    refine ⟨q.1, fun y => absurd y z, ?_⟩
    rw [q.2.2 z, hjj, cN1_lo A j (show (2 : Nat) ≠ 586 by decide)]
    exact Rl_cnt hR hj
theorem pRL_q {kL kR : Nat} {aL aR : List Value} {q : OcL} (hR : Rl A) (hj : q.2.1 < 2) (hx : hSL l g d kL aL m A q) (hr : ∀ B m1, cl m1 = B → mHl l g d kR aR m1 (rOL B q)) : pPl l g d kL kR aL aR m := by
  refine ⟨_, hx, ?_⟩
  rintro r m1 o1 ⟨rfl, h0, h1⟩
  by_cases z : q.1 = 0
  · obtain ⟨e1, e2⟩ := h0 z
    refine mHl_mono (hr A m1 e2) (fun v m2 q => ⟨q.1, fun _ => ?_, ?_⟩)
    · rw [e1, (q.2.1 z).1]
    · rw [(q.2.1 z).2]; exact hR
  · have e2 := h1 z
    refine mHl_mono (hr (cN1 A q.2.1) m1 e2) (fun v m2 p => ?_)
    refine ⟨p.1, fun y => absurd y z, ?_⟩
    rw [p.2.2 z, cN1_lo A _ (show (2 : Nat) ≠ 586 by decide)]
    exact Rl_cnt hR hj
theorem pJ_q {kL kR : Nat} {aL aR : List Value} {v : Int32} (hR : Rl A) (hx : xS l g d kL aL m A (0, 0, v)) (hr : ∀ m1, cl m1 = A → mHi l g d kR aR m1 (rO A (0, 0, v))) : pJ l g d kL kR aL aR m := by
  refine ⟨fun r m1 => r = v ∧ cl m1 = A, fun htr o => mMono (hx htr o) (fun r m2 o2 q => ?_), ?_⟩
  · rcases r with (_ | w) | x
    · exact q.elim
    · cases w <;> first | exact q.elim | exact ⟨⟨q.1.2.1, q.1.2.2⟩, q.2⟩
    · exact absurd rfl q.1.1
  · rintro r m1 ⟨rfl, e⟩
    refine mHi_mono (hr m1 e) (fun w m2 q => ?_)
    have := q.2.1 rfl
    exact ⟨this.1, by rw [this.2]; exact hR⟩
theorem p_believe (hR : Rl A) (hm : cl m = A) (hd : 60 ≤ d) (p0 p1 p2 : Int32) : pPl l g d k_L_believe k_X12_believe [.ref 586, .int p0, .int p1, .int p2, .ref 585] [.ref 0, .int p0, .int p1, .int p2] m := by
  have e : (qBel p0 p1 p2).1 = 0 ∨ ((qBel p0 p1 p2).1 = 1 ∧ (qBel p0 p1 p2).2.1 = 1) := by
    unfold qBel
    by_cases h : isBl p0 p1 p2
    · rw [ifp_t h]; exact Or.inl rfl
    · rw [ifp_f h]; exact Or.inr ⟨rfl, rfl⟩
  have e2 : (qBel p0 p1 p2).2.1 < 2 := by
    unfold qBel
    by_cases h : isBl p0 p1 p2
    · rw [ifp_t h]; show 0 < 2; decide
    · rw [ifp_f h]; show 1 < 2; decide
  exact pRL_q hR e2 (h_believe p0 p1 p2 (x_believe hm (by omega) p0 p1 p2) e (by omega)) (fun B m1 h1 => r_believe h1 (by omega) p0 p1 p2)
theorem p_fault (hR : Rl A) (hm : cl m = A) : pJ l g d k_X11_fault k_X12_fault [.ref 586] [.ref 0] m := pJ_q hR (x_fault hR hm) (fun m1 h1 => r_fault h1)
theorem p_silent (hR : Rl A) (hm : cl m = A) (hd : 60 ≤ d) : pJ l g d k_X11_silent k_X12_silent [.ref 586] [.ref 0] m := pJ_q hR (x_silent hR.1 hm (by omega)) (fun m1 h1 => r_silent hR.1.1.1 h1 (by omega))
theorem p_status (hR : Rl A) (hm : cl m = A) (hd : 60 ≤ d) (p0 : Int32) : pJ l g d k_X11_status k_X12_status [.ref 586, .int p0] [.ref 0, .int p0] m := pJ_q hR (x_status hR hm p0) (fun m1 h1 => r_status h1 (by omega) p0)
theorem p_count (hR : Rl A) (hm : cl m = A) (p0 : Int32) : pJ l g d k_X11_count k_X12_count [.ref 586, .int p0] [.ref 0, .int p0] m := pJ_q hR (x_count hR hm p0) (fun m1 h1 => r_count h1 p0)
theorem p_street (hR : Rl A) (hm : cl m = A) (hd : 60 ≤ d) (p0 p1 : Int32) : pPr l g d k_L_street k_X12_street [.ref 586, .int p0, .int p1, .ref 585] [.ref 0, .int p0, .int p1] m :=
  pR_q (F := fun B => qStr B p0 p1) hR (h_street p0 p1 (x_street hR.1 hm (by omega) p0 p1) o2 (by omega)) (fun j => sE2) (fun B m1 hQ h1 => r_street hQ.1.1 h1 (by omega) p0 p1)
theorem p_lane (hR : Rl A) (hm : cl m = A) (hd : 60 ≤ d) (p0 p1 : Int32) : pPr l g d k_L_lane k_X12_lane [.ref 586, .int p0, .int p1, .ref 585] [.ref 0, .int p0, .int p1] m :=
  pR_q (F := fun B => qLane B p0 p1) hR (h_lane p0 p1 (x_lane hR.1 hm (by omega) p0 p1) o2 (by omega)) (fun j => sE2) (fun B m1 hQ h1 => r_lane hQ.1.1 h1 (by omega) p0 p1)
theorem p_man (hR : Rl A) (hm : cl m = A) (hd : 60 ≤ d) (p0 p1 : Int32) : pPr l g d k_L_man k_X12_man [.ref 586, .int p0, .int p1, .ref 585] [.ref 0, .int p0, .int p1] m :=
  pR_q (F := fun B => qMan B p0 p1) hR (h_man p0 p1 (x_man hR.1 hm (by omega) p0 p1) o2 (by omega)) (fun j => sE2) (fun B m1 hQ h1 => r_man hQ.1.1 h1 (by omega) p0 p1)
theorem p_sleeper (hR : Rl A) (hm : cl m = A) (hd : 60 ≤ d) (p0 p1 : Int32) : pPr l g d k_L_sleeper k_X12_sleeper [.ref 586, .int p0, .int p1, .ref 585] [.ref 0, .int p0, .int p1] m :=
  pR_q (F := fun B => qSlp B p0 p1) hR (h_sleeper p0 p1 (x_sleeper hR.1 hm (by omega) p0 p1) o2 (by omega)) (fun j => sE2) (fun B m1 hQ h1 => r_sleeper hQ.1.1 h1 (by omega) p0 p1)
theorem p_nearest (hR : Rl A) (hm : cl m = A) (hd : 60 ≤ d) (p0 p1 p2 : Int32) : pPr l g d k_L_nearest k_X12_nearest [.ref 586, .int p0, .int p1, .int p2, .ref 585] [.ref 0, .int p0, .int p1, .int p2] m :=
  pR_q (F := fun B => qNr B p0 p1 p2) hR (h_nearest p0 p1 p2 (x_nearest hR.1 hm (by omega) p0 p1 p2) o2 (by omega)) (fun j => sE2) (fun B m1 hQ h1 => r_nearest ⟨hQ.1.1, hQ.2.1⟩ hQ.2.2.2.1 h1 (by omega) p0 p1 p2)
theorem p_past (hR : Rl A) (hm : cl m = A) (hd : 60 ≤ d) (p0 p1 p2 : Int32) : pPr l g d k_L_past k_X12_past [.ref 586, .int p0, .int p1, .int p2, .ref 585] [.ref 0, .int p0, .int p1, .int p2] m :=
  pR_q (F := fun B => qPst B p0 p1 p2) hR (h_past p0 p1 p2 (x_past hR.1 hm (by omega) p0 p1 p2) o2 (by omega)) (fun j => sE2) (fun B m1 hQ h1 => r_past hQ.1.1 h1 (by omega) p0 p1 p2)
theorem p_shut (hR : Rl A) (hm : cl m = A) (hd : 60 ≤ d) (p0 p1 : Int32) : pPr l g d k_L_shut k_X12_shut [.ref 586, .int p0, .int p1, .ref 585] [.ref 0, .int p0, .int p1] m :=
  pR_q (F := fun B => qSht B p0 p1) hR (h_shut p0 p1 (x_shut hR.1 hm (by omega) p0 p1) o2 (by omega)) (fun j => sE2) (fun B m1 hQ h1 => r_shut hQ.1.1 h1 (by omega) p0 p1)
theorem p_oil (hR : Rl A) (hm : cl m = A) (hd : 60 ≤ d) (p0 p1 p2 : Int32) : pPr l g d k_L_oil k_X12_oil [.ref 586, .int p0, .int p1, .int p2, .ref 585] [.ref 0, .int p0, .int p1, .int p2] m :=
  pR_q (F := fun B => qOil B p0 p1 p2) hR (h_oil p0 p1 p2 (x_oil hR.1 hm (by omega) p0 p1 p2) o2 (by omega)) (fun j => sE2) (fun B m1 hQ h1 => r_oil hQ.1.1 h1 (by omega) p0 p1 p2)
theorem p_waker (hR : Rl A) (hm : cl m = A) (hd : 60 ≤ d) (p0 p1 : Int32) : pPr l g d k_L_waker k_X12_waker [.ref 586, .int p0, .int p1, .ref 585] [.ref 0, .int p0, .int p1] m :=
  pR_q (F := fun B => qWkr B p0 p1) hR (h_waker p0 p1 (x_waker hR.1 hm (by omega) p0 p1) o2 (by omega)) (fun j => sE2) (fun B m1 hQ h1 => r_waker ⟨hQ.1.1, hQ.2.1⟩ hQ.1 hQ.2.2.2.1 h1 (by omega) p0 p1)
theorem p_farthest (hR : Rl A) (hm : cl m = A) (hd : 60 ≤ d) (p0 p1 : Int32) : pPr l g d k_L_farthest k_X12_farthest [.ref 586, .int p0, .int p1, .ref 585] [.ref 0, .int p0, .int p1] m :=
  pR_q (F := fun B => qFar B p0 p1) hR (h_farthest p0 p1 (x_farthest hR.1 hm (by omega) p0 p1) o2 (by omega)) (fun j => sE2) (fun B m1 hQ h1 => r_farthest hQ.1.1 hQ.2.2.2.1 h1 (by omega) p0 p1)
theorem p_says (hR : Rl A) (hm : cl m = A) (hd : 60 ≤ d) (p0 p1 : Int32) : pPr l g d k_L_says k_X12_says [.ref 586, .int p0, .int p1, .ref 585] [.ref 0, .int p0, .int p1] m :=
  pR_q (F := fun B => qSay B p0 p1) hR (h_says p0 p1 (x_says hR.1 hm (by omega) p0 p1) o1 (by omega)) (fun j => sE1) (fun B m1 hQ h1 => r_says ⟨hQ.1.1, hQ.2.1⟩ h1 (by omega) p0 p1)
theorem p_wakes (hR : Rl A) (hm : cl m = A) (hd : 60 ≤ d) (p0 p1 : Int32) : pPr l g d k_L_wakes k_X12_wakes [.ref 586, .int p0, .int p1, .ref 585] [.ref 0, .int p0, .int p1] m :=
  pR_q (F := fun B => qWak B p0 p1) hR (h_wakes p0 p1 (x_wakes hR.1 hm (by omega) p0 p1) o1 (by omega)) (fun j => sE1) (fun B m1 hQ h1 => r_wakes ⟨hQ.1.1, hQ.2.1⟩ h1 (by omega) p0 p1)
theorem p_way (hR : Rl A) (hm : cl m = A) (hd : 60 ≤ d) (p0 p1 : Int32) : pPr l g d k_L_way k_X12_way [.ref 586, .int p0, .int p1, .ref 585] [.ref 0, .int p0, .int p1] m :=
  pR_q (F := fun B => qWay B p0 p1) hR (h_way p0 p1 (x_way hR.1 hm (by omega) p0 p1) o1 (by omega)) (fun j => sE1) (fun B m1 hQ h1 => r_way hQ.1.1 h1 (by omega) p0 p1)
theorem p_reach (hR : Rl A) (hm : cl m = A) (hd : 60 ≤ d) (p0 : Int32) : pPr l g d k_L_reach k_X12_reach [.ref 586, .int p0, .ref 585] [.ref 0, .int p0] m :=
  pR_q (F := fun B => qRch B p0) hR (h_reach p0 (x_reach hR.1 hm (by omega) p0) o1 (by omega)) (fun j => sE1) (fun B m1 hQ h1 => r_reach hQ.1.1 hQ.2.2.2.1 h1 (by omega) p0)
theorem p_range (hR : Rl A) (hm : cl m = A) (hd : 60 ≤ d) (p0 : Int32) : pPr l g d k_L_range k_X12_range [.ref 586, .int p0, .ref 585] [.ref 0, .int p0] m :=
  pR_q (F := fun B => qRng B p0) hR (h_range p0 (x_range hR.1 hm (by omega) p0) o1 (by omega)) (fun j => sE1) (fun B m1 hQ h1 => r_range ⟨hQ.1.1, hQ.2.1⟩ h1 (by omega) p0)
theorem p_late (hR : Rl A) (hm : cl m = A) (hd : 60 ≤ d) (p0 : Int32) : pPr l g d k_L_late k_X12_late [.ref 586, .int p0, .ref 585] [.ref 0, .int p0] m :=
  pR_q (F := fun B => qLat B p0) hR (h_late p0 (x_late hR.1 hm (by omega) p0) o1 (by omega)) (fun j => sE1) (fun B m1 hQ h1 => r_late ⟨hQ.1.1, hQ.2.1⟩ hQ.2.2.2.1 h1 (by omega) p0)
theorem p_told (hR : Rl A) (hm : cl m = A) (hd : 60 ≤ d) (p0 : Int32) : pPr l g d k_L_told k_X12_told [.ref 586, .int p0, .ref 585] [.ref 0, .int p0] m :=
  pR_q (F := fun B => qTld B p0) hR (h_told p0 (x_told hR.1 hm (by omega) p0) o1 (by omega)) (fun j => sE1) (fun B m1 hQ h1 => r_told hQ.1.1 h1 (by omega) p0)
theorem p_would (hR : Rl A) (hm : cl m = A) (hd : 60 ≤ d) (p0 p1 p2 p3 p4 p5 p6 p7 : Int32) : pPr l g d k_L_would k_X12_would [.ref 586, .int p0, .int p1, .int p2, .int p3, .int p4, .int p5, .int p6, .int p7, .ref 585] [.ref 0, .int p0, .int p1, .int p2, .int p3, .int p4, .int p5, .int p6, .int p7] m :=
  pR_q (F := fun B => qWld B p0 p1 p2 p3 p4 p5 p6 p7) hR (h_would p0 p1 p2 p3 p4 p5 p6 p7 (x_would hR.1 hm (by omega) p0 p1 p2 p3 p4 p5 p6 p7) o1 (by omega)) (fun j => sE1) (fun B m1 hQ h1 => r_would ⟨hQ.1.1, hQ.2.1⟩ h1 (by omega) p0 p1 p2 p3 p4 p5 p6 p7)
theorem p_raise (hR : Rl A) (hm : cl m = A) (hd : 60 ≤ d) (p0 : Int32) : pPr l g d k_L_raise k_X12_raise [.ref 586, .int p0, .ref 585] [.ref 0, .int p0] m :=
  pR_q (F := fun B => qRai B p0) hR (h_raise p0 (x_raise hR.1 hm (by omega) p0) o1 (by omega)) (fun j => sE1) (fun B m1 hQ h1 => r_raise ⟨hQ.1.1, hQ.2.1⟩ hQ.1 h1 (by omega) p0)
theorem p_who (hR : Rl A) (hm : cl m = A) (hd : 60 ≤ d) (p0 : Int32) : pPr l g d k_L_who k_X12_who [.ref 586, .int p0, .ref 585] [.ref 0, .int p0] m :=
  pR_q (F := fun B => qWho B p0) hR (h_who p0 (x_who hR.1 hm (by omega) p0) o1 (by omega)) (fun j => sE1) (fun B m1 hQ h1 => r_who ⟨hQ.1.1, hQ.2.1⟩ hQ.2.2.1 h1 (by omega) p0)
theorem p_listen (hR : Rl A) (hm : cl m = A) (hd : 60 ≤ d) (p0 : Int32) : pPr l g d k_L_listen k_X12_listen [.ref 586, .int p0, .ref 585] [.ref 0, .int p0] m :=
  pR_q (F := fun B => qLis B p0) hR (h_listen p0 (x_listen hR.1 hm (by omega) p0) o1 (by omega)) (fun j => sE1) (fun B m1 hQ h1 => r_listen ⟨hQ.1.1, hQ.2.1⟩ hQ.2.2.1 h1 (by omega) p0)
theorem p_roster (hR : Rl A) (hm : cl m = A) (hd : 60 ≤ d) (p0 : Int32) : pPr l g d k_L_roster k_X12_roster [.ref 586, .int p0, .ref 585] [.ref 0, .int p0] m :=
  pR_q (F := fun B => qRos B p0) hR (h_roster p0 (x_roster hR.1 hm (by omega) p0) o1 (by omega)) (fun j => sE1) (fun B m1 hQ h1 => r_roster hQ.1 h1 (by omega) p0)
theorem p_thief (hR : Rl A) (hm : cl m = A) (hd : 60 ≤ d) (p0 p1 : Int32) : pPr l g d k_L_thief k_X12_thief [.ref 586, .int p0, .int p1, .ref 585] [.ref 0, .int p0, .int p1] m :=
  pR_q (F := fun B => qThf B p0 p1) hR (h_thief p0 p1 (x_thief hR.1 hm (by omega) p0 p1) o1 (by omega)) (fun j => sE1) (fun B m1 hQ h1 => r_thief hQ.1.1 h1 (by omega) p0 p1)
theorem p_sounds (hR : Rl A) (hm : cl m = A) (hd : 60 ≤ d) (p0 : Int32) : pPr l g d k_L_sounds k_X12_sounds [.ref 586, .int p0, .ref 585] [.ref 0, .int p0] m :=
  pR_q (F := fun B => qSnd B p0) hR (h_sounds p0 (x_sounds hR.1 hm (by omega) p0) o1 (by omega)) (fun j => sE1) (fun B m1 hQ h1 => r_sounds hQ.1.1 h1 (by omega) p0)
theorem p_busiest (hR : Rl A) (hm : cl m = A) (hd : 60 ≤ d) (p0 : Int32) : pPr l g d k_L_busiest k_X12_busiest [.ref 586, .int p0, .ref 585] [.ref 0, .int p0] m :=
  pR_q (F := fun B => qBus B p0) hR (h_busiest p0 (x_busiest hR.1 hm (by omega) p0) o1 (by omega)) (fun j => sE1) (fun B m1 hQ h1 => r_busiest hQ.1.1 h1 (by omega) p0)
theorem p_agree (hR : Rl A) (hm : cl m = A) (hd : 60 ≤ d) (p0 : Int32) : pPr l g d k_L_agree k_X12_agree [.ref 586, .int p0, .ref 585] [.ref 0, .int p0] m :=
  pR_q (F := fun B => qAgr B p0) hR (h_agree p0 (x_agree hR.1 hm (by omega) p0) o1 (by omega)) (fun j => sE1) (fun B m1 hQ h1 => r_agree ⟨hQ.1.1, hQ.2.1⟩ hQ.2.2.2.1 h1 (by omega) p0)
theorem p_deepest (hR : Rl A) (hm : cl m = A) (hd : 60 ≤ d) (p0 : Int32) : pPr l g d k_L_deepest k_X12_deepest [.ref 586, .int p0, .ref 585] [.ref 0, .int p0] m :=
  pR_q (F := fun B => qDep B p0) hR (h_deepest p0 (x_deepest hR.1 hm (by omega) p0) o1 (by omega)) (fun j => sE1) (fun B m1 hQ h1 => r_deepest hQ.1.1 h1 (by omega) p0)
theorem p_year (hR : Rl A) (hm : cl m = A) (hd : 60 ≤ d) (p0 p1 p2 p3 : Int32) : pPr l g d k_L_year k_X12_year [.ref 586, .int p0, .int p1, .int p2, .int p3, .ref 585] [.ref 0, .int p0, .int p1, .int p2, .int p3] m :=
  pR_q (F := fun B => qYr B p0 p1 p2 p3) hR (h_year p0 p1 p2 p3 (x_year hR.1 hm (by omega) p0 p1 p2 p3) o1 (by omega)) (fun j => sE1) (fun B m1 hQ h1 => r_year ⟨hQ.1.1, hQ.2.1⟩ hQ.1 hQ.2.2.2.1.1 h1 (by omega) p0 p1 p2 p3)
theorem p_span (hR : Rl A) (hm : cl m = A) (hd : 60 ≤ d) (p0 p1 p2 p3 p4 p5 : Int32) : pPr l g d k_L_span k_X12_span [.ref 586, .int p0, .int p1, .int p2, .int p3, .int p4, .int p5, .ref 585] [.ref 0, .int p0, .int p1, .int p2, .int p3, .int p4, .int p5] m :=
  pR_q (F := fun B => qSpn B p0 p1 p2 p3 p4 p5) hR (h_span p0 p1 p2 p3 p4 p5 (x_span hR.1 hm (by omega) p0 p1 p2 p3 p4 p5) o1 (by omega)) (fun j => sE1) (fun B m1 hQ h1 => r_span ⟨hQ.1.1, hQ.2.1⟩ hQ.1 hQ.2.2.2.1.1 h1 (by omega) p0 p1 p2 p3 p4 p5)
end PQ
