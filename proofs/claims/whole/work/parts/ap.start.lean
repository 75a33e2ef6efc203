set_option maxRecDepth 100000
/-! THE START: what the Statement gives -/
def wTm : List (String × Nat) := [("HopedHours", 424), ("HopedHours$City", 81), ("HopedHours$City", 90), ("HopedHours$City", 95), ("HopedHours$City", 100), ("HopedHours$Law", 95), ("HopedHours$Law", 97), ("HopedHours$Law", 99), ("HopedHours$Law", 103), ("HopedHours$Law", 105), ("HopedHours$Law", 107), ("HopedHours$Law", 109), ("HopedHours$Law", 87), ("HopedHours$Law", 93), ("HopedHours$Work", 58), ("HopedHours$Work", 80), ("HopedHours$Work", 82), ("HopedHours$Work", 86), ("HopedHours", 417)]
def wT (i : Nat) : Term := .string (wTm.getD i ("", 0)).1 (wTm.getD i ("", 0)).2
def wV (i : Nat) : Term := .field (wT i) "java/lang/String" "value" "[B"
def wEx : List Nat := [71, 106, 117, 127, 137, 152, 165, 179, 213, 229, 248, 268, 289, 311, 333, 354, 378, 428, 456]
def wNe : List (Nat × Nat × Nat) := [(0, 1, 116), (0, 2, 125), (0, 3, 134), (0, 4, 148), (0, 5, 160), (0, 6, 173), (0, 7, 188), (0, 8, 220), (0, 9, 238), (0, 10, 257), (0, 11, 277), (0, 12, 298), (0, 13, 319), (0, 14, 339), (0, 15, 362), (0, 16, 385), (0, 17, 437), (0, 18, 496), (1, 2, 126), (1, 3, 135), (1, 4, 149), (1, 5, 161), (1, 6, 174), (1, 7, 189), (1, 8, 221), (1, 9, 239), (1, 10, 258), (1, 11, 278), (1, 12, 299), (1, 13, 320), (1, 14, 340), (1, 15, 363), (1, 16, 386), (1, 17, 438), (1, 18, 497), (2, 3, 136), (2, 4, 150), (2, 5, 162), (2, 6, 175), (2, 7, 190), (2, 8, 222), (2, 9, 240), (2, 10, 259), (2, 11, 279), (2, 12, 300), (2, 13, 321), (2, 14, 341), (2, 15, 364), (2, 16, 387), (2, 17, 439), (2, 18, 498), (3, 4, 151), (3, 5, 163), (3, 6, 176), (3, 7, 191), (3, 8, 223), (3, 9, 241), (3, 10, 260), (3, 11, 280), (3, 12, 301), (3, 13, 322), (3, 14, 342), (3, 15, 365), (3, 16, 388), (3, 17, 440), (3, 18, 499), (4, 5, 164), (4, 6, 177), (4, 7, 192), (4, 8, 224), (4, 9, 242), (4, 10, 261), (4, 11, 281), (4, 12, 302), (4, 13, 323), (4, 14, 343), (4, 15, 366), (4, 16, 389), (4, 17, 441), (4, 18, 500), (5, 6, 178), (5, 7, 193), (5, 8, 225), (5, 9, 243), (5, 10, 262), (5, 11, 282), (5, 12, 303), (5, 13, 324), (5, 14, 344), (5, 15, 367), (5, 16, 390), (5, 17, 442), (5, 18, 501), (6, 7, 194), (6, 8, 226), (6, 9, 244), (6, 10, 263), (6, 11, 283), (6, 12, 304), (6, 13, 325), (6, 14, 345), (6, 15, 368), (6, 16, 391), (6, 17, 443), (6, 18, 502), (7, 8, 227), (7, 9, 245), (7, 10, 264), (7, 11, 284), (7, 12, 305), (7, 13, 326), (7, 14, 346), (7, 15, 369), (7, 16, 392), (7, 17, 444), (7, 18, 503), (8, 9, 247), (8, 10, 266), (8, 11, 286), (8, 12, 307), (8, 13, 328), (8, 14, 348), (8, 15, 371), (8, 16, 394), (8, 17, 446), (8, 18, 505), (9, 10, 267), (9, 11, 287), (9, 12, 308), (9, 13, 329), (9, 14, 349), (9, 15, 372), (9, 16, 395), (9, 17, 447), (9, 18, 506), (10, 11, 288), (10, 12, 309), (10, 13, 330), (10, 14, 350), (10, 15, 373), (10, 16, 396), (10, 17, 448), (10, 18, 507), (11, 12, 310), (11, 13, 331), (11, 14, 351), (11, 15, 374), (11, 16, 397), (11, 17, 449), (11, 18, 508), (12, 13, 332), (12, 14, 352), (12, 15, 375), (12, 16, 398), (12, 17, 450), (12, 18, 509), (13, 14, 353), (13, 15, 376), (13, 16, 399), (13, 17, 451), (13, 18, 510), (14, 15, 377), (14, 16, 400), (14, 17, 452), (14, 18, 511), (15, 16, 401), (15, 17, 453), (15, 18, 512), (16, 17, 454), (16, 18, 513), (17, 18, 515)]
def wNi : List Nat := [1043, 1035, 1038, 803, 770, 780, 781, 993, 1227, 1232, 328, 888, 856, 982, 522, 954, 977, 1202, 1208, 1209, 1210, 499, 670, 759, 164, 240, 966, 955, 957, 918, 941, 418, 126, 158, 270, 272, 292, 386, 396, 413]
def wSr : List Nat := [622, 684, 771, 784, 789, 872, 874, 875, 876, 877, 878, 879, 880, 881, 882, 911, 919, 920, 921, 922, 1084]
abbrev wF : List Cond := flatC (Jvm.Cond.and given_1 narrow_1)
def wCk1 (F : List Cond) (i : Nat) : Bool := decide (F[wEx.getD i 0]? = some (.exactly (wT i) "java/lang/String")) && (decide (F[wEx.getD i 0 + 1]? = some (.eq (.field (wT i) "java/lang/String" "coder" "B") (.int 0))) && (decide (F[wEx.getD i 0 + 2]? = some (.arrayOf (wV i) .byte)) && (decide (F[wEx.getD i 0 + 3]? = some (.eq (.length (wV i)) (.int (Int32.ofNat (mTl.getD i 0))))) && ((List.range (mTl.getD i 0)).all (fun j => decide (F[wEx.getD i 0 + 4 + j]? = some (.eq (.elem (wV i) (.int (Int32.ofNat j))) (.int ((mTb.getD i []).getD j 0))))) && decide (mTl.getD i 0 < 100)))))
def wCk2 (F : List Cond) (q : Nat × Nat × Nat) : Bool := decide (F[q.2.2]? = some (.not (.eq (wT q.1) (wT q.2.1))))
def wCk3 (i : Nat) : Bool := (List.range 19).all (fun j => Nat.beq i j || wNe.any (fun q => (Nat.beq q.1 i && Nat.beq q.2.1 j) || (Nat.beq q.1 j && Nat.beq q.2.1 i)))
def wCk4 (n : Nat) : Bool := match mNW[n]? with
  | some q => decide (lw_tbl[wNi.getD n 0]? = some (.methodLinkNest q.1 q.2.1 q.2.2.1 q.2.2.2))
  | none => false
def wCk5 (F : List Cond) (n : Nat) : Bool := match mStr[n]? with
  | some q => decide (q.2.2 < 19) && (decide (lw_tbl[wSr.getD n 0]? = some (.stringRef q.1 q.2.1 (mTx.getD q.2.2 ""))) && (decide (wTm.getD q.2.2 ("", 0) = (q.1, q.2.1)) || decide (F[if q.2.2 = 1 then 206 else 416]? = some (.eq (wT q.2.2) (.string q.1 q.2.1)))))
  | none => false
theorem wOk1 : (List.range 19).all (wCk1 wF) = true := by decide +kernel
theorem wOk2 : wNe.all (wCk2 wF) = true := by decide +kernel
theorem wOk3 : (List.range 19).all wCk3 = true := by decide +kernel
theorem wOk4 : (List.range mNW.length).all wCk4 = true := by decide +kernel
theorem wOk5 : (List.range mStr.length).all (wCk5 wF) = true := by decide +kernel
theorem wIn {args : Array Value} {s : State} (hgv : (Jvm.Cond.and given_1 narrow_1).before args s = true) {w : Cond} (i : Nat) (h : wF[i]? = some w) : w.before args s = true := flat_of_before _ hgv _ (List.mem_of_getElem? h)
theorem wS {args : Array Value} {s : State} {A : Nat → Prop} (hgv : (Jvm.Cond.and given_1 narrow_1).before args s = true) (hA : ∀ a : Nat, a < s.heap.size → ¬ A a) : ∃ adK adV : Nat → Nat, vk_S mTx.length mTl mTb adK adV A s s.heap ∧ ∀ i : Nat, i < 19 → (wT i).eval args s none [] s = some (.ref (adK i)) := by
  have h1 : ∀ i : Nat, i < 19 → wCk1 wF i = true := fun i hi => List.all_eq_true.mp wOk1 i (List.mem_range.mpr hi)
  have h2 : ∀ i : Nat, i < 19 → _ := fun i hi => by
    have h := h1 i hi
    unfold wCk1 at h
    simp only [Bool.and_eq_true, decide_eq_true_eq] at h
    exact h
  refine vk_Sof (N := 19) (tm := wT) (fun i hi => Nat.lt_trans (h2 i hi).2.2.2.2.2 (by decide)) (fun i hi => wIn hgv _ (h2 i hi).1) (fun i hi => wIn hgv _ (h2 i hi).2.1) (fun i hi => wIn hgv _ (h2 i hi).2.2.1) (fun i hi => wIn hgv _ (h2 i hi).2.2.2.1) (fun i hi j hj => ?_) (fun i j hi hj hij => ?_) hA
  · exact wIn hgv _ (of_decide_eq_true (List.all_eq_true.mp (h2 i hi).2.2.2.2.1 j (List.mem_range.mpr hj)))
  · have h3 := List.all_eq_true.mp (List.all_eq_true.mp wOk3 i (List.mem_range.mpr hi)) j (List.mem_range.mpr hj)
    rw [Bool.or_eq_true] at h3
    rcases h3 with h3 | h3
    · exact absurd (Nat.eq_of_beq_eq_true h3) hij
    · obtain ⟨q, hq, hq2⟩ := List.any_eq_true.mp h3
      have h4 : wF[q.2.2]? = some (.not (.eq (wT q.1) (wT q.2.1))) := of_decide_eq_true (List.all_eq_true.mp wOk2 q hq)
      rw [Bool.or_eq_true, Bool.and_eq_true, Bool.and_eq_true] at hq2
      rcases hq2 with ⟨e1, e2⟩ | ⟨e1, e2⟩
      · rw [Nat.eq_of_beq_eq_true e1, Nat.eq_of_beq_eq_true e2] at h4
        exact Or.inl (wIn hgv _ h4)
      · rw [Nat.eq_of_beq_eq_true e1, Nat.eq_of_beq_eq_true e2] at h4
        exact Or.inr (wIn hgv _ h4)
theorem wEq {args : Array Value} {s : State} {t u : Term} {a : Nat} (h : (Cond.eq t u).before args s = true) (ht : t.eval args s none [] s = some (.ref a)) : u.eval args s none [] s = some (.ref a) := by
  cases hu : u.eval args s none [] s with
  | none => simp [Cond.before, Cond.holds, Cond.value, ht, hu] at h
  | some w =>
    simp only [Cond.before, Cond.holds, Cond.value, ht, hu] at h
    cases w <;> simp_all
/-- the places of all that a run knows by number -/
def wA (h0 b t : Nat) (adK adV : Nat → Nat) (k : Nat) : Nat := if k < 917 then h0 + ix k else if k = 1000000 then b else if k = 1000200 then t else if k < 1000101 then adK (k - 1000001) else adV (k - 1000101)
theorem wK_ok : (List.range 13).all (fun c => bNT.any (fun q => Nat.beq q.2.2.1 c)) = true := by decide +kernel
theorem wTb {w : Cond} {args : Array Value} {s : State} (hts : ∀ w ∈ lw_tbl, w.before args s = true) (i : Nat) (h : lw_tbl[i]? = some w) : w.before args s = true := hts w (List.mem_of_getElem? h)
theorem wWorld {s : State} {b L : Nat} {xs : Nat → Int32} (hts : ∀ w ∈ lw_tbl, w.before #[Value.ref b] s = true) (hgv : (Jvm.Cond.and given_1 narrow_1).before #[Value.ref b] s = true) (hX : va_X b L xs s s.heap) (hbl : b < s.heap.size) : ∃ g : mG, gB g = s.heap.size ∧ gL g = L ∧ gA g mScr = b ∧ bG g ∧ mW g s s.heap := by
  have hA : ∀ a : Nat, a < s.heap.size → ¬ (fun q : Nat => s.heap.size ≤ q) a := fun a h => Nat.not_le.mpr h
  obtain ⟨adK, adV, hSt, hEv⟩ := wS (A := fun q : Nat => s.heap.size ≤ q) hgv hA
  have hK0 : ∀ c : Nat, ∃ z : Nat × (Nat → Nat), ∀ q, vwCl[c]? = some q → u_Kn s q.1 q.2.1 q.2.2 z.1 z.2 := by
    intro c
    cases hq : vwCl[c]? with
    | none => exact ⟨(0, fun _ => 0), fun q h => by cases h⟩
    | some q =>
      have hc : c < 13 := (List.getElem?_eq_some_iff.mp hq).1
      obtain ⟨r, hr, hr2⟩ := List.any_eq_true.mp (List.all_eq_true.mp wK_ok c (List.mem_range.mpr hc))
      obtain ⟨q', h1, -, h2, -⟩ := bNT_of hr
      rw [Nat.eq_of_beq_eq_true hr2, hq] at h1
      cases h1
      obtain ⟨cC, iS, hk⟩ := u_known (ws := mGW) (fun w hw => hts w (List.mem_filter.mp hw).1) (mUs_of hq) (hts _ (List.mem_filter.mp h2).1)
      exact ⟨(cC, iS), fun q' h => by cases h; exact hk⟩
  obtain ⟨kz, hkz⟩ := Classical.axiomOfChoice hK0
  obtain ⟨c0, k0, p0, a01, a02, a03⟩ := Cond.arrayClass_spec (wTb (w := .arrayClass .int) hts 155 (by decide +kernel))
  obtain ⟨c1, k1, p1, a11, a12, a13⟩ := Cond.arrayClass_spec (wTb (w := .arrayClass .boolean) hts 1602 (by decide +kernel))
  obtain ⟨c2, k2, p2, a21, a22, a23⟩ := Cond.arrayClass_spec (wTb (w := .arrayClass .long) hts 2040 (by decide +kernel))
  obtain ⟨p3, c3, k3, -, -, a32, a33, a31⟩ := arrayOverA_spec (wTb (w := .arrayOver (.array .int)) hts 1440 (by decide +kernel))
  obtain ⟨p4, c4, k4, -, -, a42, a43, a41⟩ := arrayOverA_spec (wTb (w := .arrayOver (.array .boolean)) hts 1442 (by decide +kernel))
  obtain ⟨p5, c5, k5, a50, -, a52, a53, a51⟩ := Cond.arrayOver_spec (wTb (w := .arrayOver (.object "HopedHours$Night")) hts 370 (by decide +kernel))
  obtain ⟨p6, c6, k6, a60, -, a62, a63, a61⟩ := Cond.arrayOver_spec (wTb (w := .arrayOver (.object "HopedHours$History")) hts 383 (by decide +kernel))
  have hZ1 : vx_Zq "java/lang/Throwable" "UNASSIGNED_STACK" "[Ljava/lang/StackTraceElement;" (fun q : Nat => s.heap.size ≤ q) s s.heap := vx_Zqof (wTb hts 609 (by decide +kernel)) (wTb hts 104 (by decide +kernel)) (wIn hgv 4 (by decide +kernel)) hA
  have hZ2 : vx_Zq "java/lang/Throwable" "SUPPRESSED_SENTINEL" "Ljava/util/List;" (fun q : Nat => s.heap.size ≤ q) s s.heap := vx_Zqof (wTb hts 611 (by decide +kernel)) (wTb hts 104 (by decide +kernel)) (wIn hgv 5 (by decide +kernel)) hA
  have hZ3 : va_Z "java/lang/String" "COMPACT_STRINGS" "Z" (.int 1) (fun q : Nat => s.heap.size ≤ q) s s.heap := va_Zof (wTb hts 698 (by decide +kernel)) (wTb hts 108 (by decide +kernel)) (va_eqi (wIn hgv 6 (by decide +kernel))) hA
  have hZ4 : va_Zq "jdk/internal/util/Preconditions" "SIOOBE_FORMATTER" "Ljava/util/function/BiFunction;" (fun q : Nat => s.heap.size ≤ q) s s.heap := va_Zqof (wTb hts 714 (by decide +kernel)) (wTb hts 110 (by decide +kernel)) (wIn hgv 7 (by decide +kernel)) hA
  obtain ⟨t, ht⟩ : ∃ t : Nat, va_Z "jdk/internal/util/Preconditions" "SIOOBE_FORMATTER" "Ljava/util/function/BiFunction;" .null (fun q : Nat => s.heap.size ≤ q) s s.heap ∨ va_Z "jdk/internal/util/Preconditions" "SIOOBE_FORMATTER" "Ljava/util/function/BiFunction;" (.ref t) (fun q : Nat => s.heap.size ≤ q) s s.heap := by
    rcases hZ4 with h | ⟨t, h⟩
    · exact ⟨0, Or.inl h⟩
    · exact ⟨t, Or.inr h⟩
  have hN1 : va_Nc "java/lang/IllegalArgumentException" "java/util/NoSuchElementException" s := va_Nc.of (wIn hgv 38 (by decide +kernel))
  have hN2 : va_Nc "java/util/NoSuchElementException" "java/lang/IllegalArgumentException" s := va_Nc.of (wIn hgv 24 (by decide +kernel))
  have eS : ∀ i, i < 19 → wA s.heap.size b t adK adV (1000001 + i) = adK i := fun i hi => by
    unfold wA
    rw [if_neg (by omega), if_neg (by omega), if_neg (by omega), if_pos (by omega), show 1000001 + i - 1000001 = i by omega]
  have eV : ∀ i, i < 19 → wA s.heap.size b t adK adV (1000101 + i) = adV i := fun i hi => by
    unfold wA
    rw [if_neg (by omega), if_neg (by omega), if_neg (by omega), if_neg (by omega), show 1000101 + i - 1000101 = i by omega]
  have eB : wA s.heap.size b t adK adV 1000000 = b := by
    unfold wA
    rw [if_neg (by omega), if_pos rfl]
  have eF : wA s.heap.size b t adK adV 1000200 = t := by
    unfold wA
    rw [if_neg (by omega), if_neg (by omega), if_pos rfl]
  refine ⟨((fun c => (kz c).1, fun c => (kz c).2), (fun i => [c0, c1, c2, c3, c4, c5, c6].getD i 0), wA s.heap.size b t adK adV, adK, adV, s.heap.size, L, xs), rfl, rfl, eB, fun i hi => ?_, ⟨fun c q hq => hkz c q hq, fun k q hk => ?_⟩, fun q hq => ?_, fun q hq => ?_, hSt, hZ1, hZ2, ?_, ?_, ?_, fun i hi => eS i hi, hZ3, hN1, hN2, ?_, fun i hi => eV i hi, fun q hq => ?_, fun q hq => ?_⟩
  · show wA s.heap.size b t adK adV (al i) = s.heap.size + i
    unfold wA
    rw [if_pos (al_lt hi), ix_al hi]
  · rcases k with _ | _ | _ | _ | _ | _ | _ | k
    · cases hk
      exact ⟨fun n z => ⟨fun k h => (by cases h), k0, a02, p0, a03⟩, a01⟩
    · cases hk
      exact ⟨fun n z => ⟨fun k h => (by cases h), k1, a12, p1, a13⟩, a11⟩
    · cases hk
      exact ⟨fun n z => ⟨fun k h => (by cases h), k2, a22, p2, a23⟩, a21⟩
    · cases hk
      exact ⟨fun n z => ⟨fun k h => (by cases h), k3, a32, p3, a33⟩, a31⟩
    · cases hk
      exact ⟨fun n z => ⟨fun k h => (by cases h), k4, a42, p4, a43⟩, a41⟩
    · cases hk
      exact ⟨fun n z => ⟨fun k h => (by cases h), k5, a52, p5, a53⟩, k5, p5, a52, a53, a50, a51⟩
    · cases hk
      exact ⟨fun n z => ⟨fun k h => (by cases h), k6, a62, p6, a63⟩, k6, p6, a62, a63, a60, a61⟩
    · cases hk
  · obtain ⟨n, hn⟩ := List.getElem?_of_mem hq
    have h4 := List.all_eq_true.mp wOk4 n (List.mem_range.mpr (List.getElem?_eq_some_iff.mp hn).1)
    unfold wCk4 at h4
    rw [hn] at h4
    exact va_tabs (A := #[Value.ref b]) rfl rfl (wTb hts _ (of_decide_eq_true h4))
  · obtain ⟨n, hn⟩ := List.getElem?_of_mem hq
    have h5 := List.all_eq_true.mp wOk5 n (List.mem_range.mpr (List.getElem?_eq_some_iff.mp hn).1)
    unfold wCk5 at h5
    rw [hn] at h5
    simp only [Bool.and_eq_true, Bool.or_eq_true, decide_eq_true_eq] at h5
    obtain ⟨h6, h7, h8⟩ := h5
    refine vk_R.of (wTb hts _ h7) ?_
    show (Term.string q.1 q.2.1).eval #[Value.ref b] s none [] s = some (.ref (adK q.2.2))
    rcases h8 with h8 | h8
    · have e := hEv q.2.2 h6
      unfold wT at e
      rw [h8] at e
      exact e
    · exact wEq (wIn hgv _ h8) (hEv q.2.2 h6)
  · show va_X (wA s.heap.size b t adK adV 1000000) L xs s s.heap
    rw [eB]
    exact hX
  · show wA s.heap.size b t adK adV 1000000 < s.heap.size
    rw [eB]
    exact hbl
  · show wA s.heap.size b t adK adV 1000000 < s.heap.size
    rw [eB]
    exact hbl
  · rcases ht with h | h
    · exact Or.inl h
    · refine Or.inr ?_
      show va_Z _ _ _ (.ref (wA s.heap.size b t adK adV 1000200)) _ _ _
      rw [eF]
      exact h
  · have hq : q = ⟨"java/lang/RuntimeException", "<init>", "(Ljava/lang/String;)V"⟩ ∨ q = ⟨"java/lang/Exception", "<init>", "(Ljava/lang/String;)V"⟩ ∨ q = ⟨"java/lang/Throwable", "<init>", "(Ljava/lang/String;)V"⟩ := by simpa [mDcl] using hq
    rcases hq with rfl | rfl | rfl
    · exact va_tabs (A := #[Value.ref b]) rfl rfl <| wTb (w := .declares ⟨"java/lang/RuntimeException", "<init>", "(Ljava/lang/String;)V"⟩) hts 586 (by decide +kernel)
    · exact va_tabs (A := #[Value.ref b]) rfl rfl <| wTb (w := .declares ⟨"java/lang/Exception", "<init>", "(Ljava/lang/String;)V"⟩) hts 588 (by decide +kernel)
    · exact va_tabs (A := #[Value.ref b]) rfl rfl <| wTb (w := .declares ⟨"java/lang/Throwable", "<init>", "(Ljava/lang/String;)V"⟩) hts 590 (by decide +kernel)
  · have hq : q = "java/lang/IllegalArgumentException" ∨ q = "java/util/NoSuchElementException" := by simpa [mCst] using hq
    rcases hq with rfl | rfl
    · exact va_tabs (A := #[Value.ref b]) rfl rfl <| wTb (w := .castable "java/lang/IllegalArgumentException" "java/lang/IllegalArgumentException") hts 584 (by decide +kernel)
    · exact va_tabs (A := #[Value.ref b]) rfl rfl <| wTb (w := .castable "java/util/NoSuchElementException" "java/util/NoSuchElementException") hts 1077 (by decide +kernel)
