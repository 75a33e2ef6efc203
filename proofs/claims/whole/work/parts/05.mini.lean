/-! THE SMALL MACHINE: its memory, its world, its judgement mWB. The cells are numbered (part 04); a number k stands for the address ad k. -/
abbrev Mm : Type := Nat → Nat → Int32
def mset (m : Mm) (a i : Nat) (v : Int32) : Mm := fun x => if x = a then upd (m a) i v else m x
def mput (m : Mm) (a : Nat) (f : Nat → Int32) : Mm := fun x => if x = a then f else m x
/-- what is fixed in a run: the tables' numbers, the array classes, the addresses of cells, of texts, of the texts' bytes; where the run's own cells begin; the script -/
abbrev mG : Type := va_G × (Nat → ClassId) × (Nat → Nat) × (Nat → Nat) × (Nat → Nat) × Nat × Nat × (Nat → Int32)
def gC (g : mG) : Nat → ClassId := g.2.1
def gA (g : mG) : Nat → Nat := g.2.2.1
def gK (g : mG) : Nat → Nat := g.2.2.2.1
def gV (g : mG) : Nat → Nat := g.2.2.2.2.1
def gB (g : mG) : Nat := g.2.2.2.2.2.1
def gL (g : mG) : Nat := g.2.2.2.2.2.2.1
def gS (g : mG) : Nat → Int32 := g.2.2.2.2.2.2.2
def mA (g : mG) : Nat → Prop := fun q => gB g ≤ q
/-- a local of which nothing is known -/
def mJ : Value := .float 0
abbrev mScr : Nat := 1000000
abbrev mSt (i : Nat) : Nat := 1000001 + i
def mtr (ad : Nat → Nat) : Value → Value
  | .ref k => .ref (ad k)
  | v => v
theorem mtr_cat (ad : Nat → Nat) (v : Value) : (mtr ad v).category = v.category := by cases v <;> rfl
def mIsRef (ci j : Nat) : Bool := match vwCl[ci]? with
  | some q => decide ((q.2.1 j).2.2.1 ≠ "I")
  | none => false
def mFv (g : mG) (m : Mm) (k ci j : Nat) : Value := if mIsRef ci j = true then .ref (gA g (mRF k j)) else .int (m k j)
def mCE (g : mG) (m : Mm) (o : Int64) (k : Nat) : va_E :=
  if mKd k = 1 then .inl (gC g 0, mLn k, .inl (m k))
  else if mKd k = 2 then .inl (gC g 1, mLn k, .inl (m k))
  else if mKd k = 3 then .inl (gC g 2, mLn k, .inr (.inl (fun _ => o)))
  else if mKd k < 10 then .inl (gC g (mKd k - 1), mLn k, .inr (.inr (.inr (.inr (fun i => some (gA g (mRF k i)))))))
  else .inr (mKd k - 10, (List.range (mLn k)).map (mFv g m k (mKd k - 10)))
def mTys (g : mG) : List (ClassId × FieldType) := [(gC g 0, .int), (gC g 1, .boolean), (gC g 2, .long), (gC g 3, .array .int), (gC g 4, .array .boolean), (gC g 5, .object "HopedHours$Night"), (gC g 6, .object "HopedHours$History")]
def mLs (g : mG) (m : Mm) (o : Int64) : va_W := (List.range mNc).map (fun k => (gA g k, mCE g m o k))
theorem mLs_at (g : mG) (m : Mm) (o : Int64) {k : Nat} (h : k < mNc) : (mLs g m o)[k]? = some (gA g k, mCE g m o k) := by
  unfold mLs
  rw [List.getElem?_map, List.getElem?_range h]
  rfl
theorem mCE_eq (g : mG) {m m' : Mm} (o : Int64) {k : Nat} (h : m k = m' k) : mCE g m o k = mCE g m' o k := by
  unfold mCE mFv
  rw [h]
theorem mCE_o (g : mG) (m : Mm) (o o' : Int64) {k : Nat} (h : mKd k ≠ 3) : mCE g m o k = mCE g m o' k := by
  unfold mCE
  rw [if_neg h, if_neg h]
/-- one cell of the list changes -/
theorem mLs_set (g : mG) {m m' : Mm} {o o' : Int64} {k : Nat} (e : va_E) (he : e = mCE g m' o' k) (ho : ∀ j, j ≠ k → mCE g m o j = mCE g m' o' j) : (mLs g m o).set k (gA g k, e) = mLs g m' o' := by
  apply List.ext_getElem?
  intro i
  by_cases hi : i < mNc
  · rw [mLs_at g m' o' hi]
    by_cases hk : i = k
    · subst hk
      rw [List.getElem?_set_self (by unfold mLs; rw [List.length_map, List.length_range]; exact hi), he]
    · rw [List.getElem?_set_ne (fun q => hk q.symm), mLs_at g m o hi, ho i hk]
  · have h1 : (mLs g m' o')[i]? = none := List.getElem?_eq_none (by unfold mLs; rw [List.length_map, List.length_range]; omega)
    have h2 : ((mLs g m o).set k (gA g k, e))[i]? = none := List.getElem?_eq_none (by rw [List.length_set]; unfold mLs; rw [List.length_map, List.length_range]; omega)
    rw [h1, h2]
theorem mset_ne (m : Mm) {a x : Nat} (i : Nat) (v : Int32) (h : x ≠ a) : mset m a i v x = m x := by
  unfold mset; rw [if_neg h]
theorem mset_eq (m : Mm) (a i : Nat) (v : Int32) : mset m a i v a = upd (m a) i v := by
  unfold mset; rw [if_pos rfl]
theorem mput_ne (m : Mm) {a x : Nat} (f : Nat → Int32) (h : x ≠ a) : mput m a f x = m x := by
  unfold mput; rw [if_neg h]
theorem mput_eq (m : Mm) (a : Nat) (f : Nat → Int32) : mput m a f a = f := by
  unfold mput; rw [if_pos rfl]
/-- what is thrown: the constructors that hand on, the classes -/
def mDcl : List MethodName := [⟨"java/lang/RuntimeException", "<init>", "(Ljava/lang/String;)V"⟩, ⟨"java/lang/Exception", "<init>", "(Ljava/lang/String;)V"⟩, ⟨"java/lang/Throwable", "<init>", "(Ljava/lang/String;)V"⟩]
def mCst : List String := ["java/lang/IllegalArgumentException", "java/util/NoSuchElementException"]
/-- the places of the texts' bytes, and of the one formatter -/
abbrev mVt (i : Nat) : Nat := 1000101 + i
abbrev mFm : Nat := 1000200
def mZf (g : mG) (U : State) (H : Heap) : Prop := va_Z "jdk/internal/util/Preconditions" "SIOOBE_FORMATTER" "Ljava/util/function/BiFunction;" .null (mA g) U H ∨ va_Z "jdk/internal/util/Preconditions" "SIOOBE_FORMATTER" "Ljava/util/function/BiFunction;" (.ref (gA g mFm)) (mA g) U H
theorem mZf.moved {g : mG} {u U : State} {H : Heap} (hvm : u.vm.Alike U.vm) (h : mZf g u H) : mZf g U H := h.elim (fun q => Or.inl (va_Z.moved hvm q)) (fun q => Or.inr (va_Z.moved hvm q))
theorem mZf.kept {g : mG} {U : State} {H H1 : Heap} (h : mZf g U H) (hq : ∀ a : Nat, a < H.size → ¬ mA g a → H1[a]? = H[a]?) : mZf g U H1 := h.elim (fun q => Or.inl (q.kept hq)) (fun q => Or.inr (q.kept hq))
/-- the world: what the tables say, and the old cells -/
def mW (g : mG) (U : State) (H : Heap) : Prop :=
  va_K g.1 vwCl (mTys g) U ∧ (∀ q ∈ mNW, va_Nw (.methodLinkNest q.1 q.2.1 q.2.2.1 q.2.2.2) U) ∧ (∀ q ∈ mStr, vk_R q.1 q.2.1 (mTx.getD q.2.2 "") (gK g q.2.2) U) ∧
  vk_S mTx.length mTl mTb (gK g) (gV g) (mA g) U H ∧ vx_Zq Jvm.Bundle.tN "UNASSIGNED_STACK" Jvm.Bundle.steD (mA g) U H ∧ vx_Zq Jvm.Bundle.tN "SUPPRESSED_SENTINEL" Jvm.Bundle.listD (mA g) U H ∧
  va_X (gA g mScr) (gL g) (gS g) U H ∧ gA g mScr < gB g ∧ gA g mScr < H.size ∧ (∀ i, i < mTx.length → gA g (mSt i) = gK g i) ∧ va_Z "java/lang/String" "COMPACT_STRINGS" "Z" (.int 1) (mA g) U H ∧ va_Nc "java/lang/IllegalArgumentException" "java/util/NoSuchElementException" U ∧ va_Nc "java/util/NoSuchElementException" "java/lang/IllegalArgumentException" U ∧ mZf g U H ∧ (∀ i, i < mTx.length → gA g (mVt i) = gV g i) ∧ (∀ q ∈ mDcl, va_Nw (.declares q) U) ∧ (∀ q ∈ mCst, va_Nw (.castable q q) U)
/-- the memory m, o as cells of the heap -/
def mP (g : mG) (m : Mm) (o : Int64) (H : Heap) : Prop := va_P g.1 vwCl (mLs g m o) H ∧ va_D (mA g) (mLs g m o)
def mEx (x : Nat) : String := if x = 0 then "java/lang/IllegalArgumentException" else "java/util/NoSuchElementException"
abbrev mR : Type := Option Value ⊕ Nat
def mPc (g : mG) (As : List Value) (m : Mm) (o : Int64) : Array Value → State → Prop := va_Pc (As.map (mtr (gA g))) (fun U => mW g U U.heap ∧ mP g m o U.heap ∧ gB g ≤ U.heap.size)
def mQc (g : mG) (Φ : mR → Mm → Int64 → Prop) : Array Value → State → Outcome → State → Prop := fun _ st oc t => (∃ (v : Option Value) (m' : Mm) (o' : Int64), oc = .returned (v.map (mtr (gA g))) ∧ Φ (.inl v) m' o' ∧ mP g m' o' t.heap) ∧ va_F (mA g) st t
def mXC (g : mG) (Φ : mR → Mm → Int64 → Prop) : String → State → State → Prop := fun E st t => (∃ (x : Nat) (m' : Mm) (o' : Int64), E = mEx x ∧ Φ (.inr x) m' o' ∧ mP g m' o' t.heap) ∧ va_F (mA g) st t
/-- the words of all methods -/
def mGW : List Cond := lw_tbl.filter goodWord
theorem mGW_at {w : Cond} (i : Nat) (h : lw_tbl[i]? = some w) (h2 : goodWord w = true) : w ∈ mGW := List.mem_filter.mpr ⟨List.mem_of_getElem? h, h2⟩
def mM0 : mM := (⟨"", "", ""⟩, ⟨#[]⟩, 0, none, 0, [], [], [])
def mMe (k : Nat) : mM := mTab.getD k mM0
def mY (k : Nat) : MethodName := (mMe k).1
def mNl (k : Nat) : Nat := (mMe k).2.2.1
def mRt (k : Nat) : Option FieldType := (mMe k).2.2.2.1
def mOc (k : Nat) : Nat := (mMe k).2.2.2.2.1
def mHd (k : Nat) : List (Nat × Nat × Nat × Nat) := (mMe k).2.2.2.2.2.1
def mCd (k : Nat) : List mE := (mMe k).2.2.2.2.2.2.1
def mPl (k : Nat) : List Nat := (mMe k).2.2.2.2.2.2.2
def mByOf : Option Cond → ByteArray
  | some (.code _ b _ _) => b
  | some (.codeWith _ b _ _ _) => b
  | _ => code
def mBy (k : Nat) : ByteArray := mByOf (lw_tbl[(mPl k).getD 0 0]?)
/-- the word of a method's code -/
def mCW (k : Nat) : Cond := match mHd k with
  | [] => .code (mY k) (mBy k) (mNl k) (mRt k)
  | hh => .codeWith (mY k) (mBy k) (mNl k) (mRt k) hh
def mWs (k : Nat) : List Cond := mCW k :: mGW
def mRm (d mc ms : Nat) : Room := { frames := d, cells := mc, slots := ms, locals := 64 * d }
/-- method k, called with As where the memory is m, o: it ends with what Φ says; at most mc cells of ms slots are made; frames: d -/
def mSat (l : Launch) (g : mG) (d k : Nat) (As : List Value) (m : Mm) (o : Int64) (Φ : mR → Mm → Int64 → Prop) (mc ms : Nat) : Prop :=
  vx_Met l (mY k) (mWs k) (mRm d mc ms) (mPc g As m o) (mQc g Φ) (mXC g Φ) mc ms (mA g)
/-- what is known inside method k -/
def mCtx (l : Launch) (g : mG) (k : Nat) (p : Program) (s : State) (mi : MethodId) (args : Array Value) (meth : Method) (c : Code) : Prop :=
  p.tables.exec = Jvm.exec ∧ c.code = mBy k ∧ c.maxLocals = mNl k ∧ meth.sig.returnType = mRt k ∧ meth.locks = false ∧ s.vm.findClass (mCn (mOc k)) = some mi.cls ∧ (∀ w ∈ mWs k, w.before args s = true) ∧ c.exceptionTable.toList = tableOf (mHd k) ∧ l.stackTraces = false ∧ mW g s s.heap ∧ gB g ≤ s.heap.size
/-- the locals that are known, with their places -/
def mLvF (ad : Nat → Nat) : Nat → List Value → List (Nat × Value)
  | _, [] => []
  | i, v :: t => if v = mJ then mLvF ad (i + 1) t else (i, mtr ad v) :: mLvF ad (i + 1) t
def mLv (ad : Nat → Nat) (L : List Value) : List (Nat × Value) := mLvF ad 0 L
def mWB (l : Launch) (g : mG) (d k : Nat) (Φ : mR → Mm → Int64 → Prop) (MC MS : Nat) (pc : Nat) (L S : List Value) (m : Mm) (o : Int64) (cN sN : Nat) : Prop :=
  ∀ (p : Program) (e : Env) (s : State) (mi : MethodId) (args : Array Value) (below : List Frame) (meth : Method) (c : Code) (H : Heap) (locs : List Loc) (ls : Array Slot),
    mCtx l g k p s mi args meth c → mP g m o H → va_S (mA g) s.heap H locs → lv_has ls (mNl k) (mLv (gA g) L) →
    W p l e (mRm d MC MS) s mi args below meth c H locs cN sN (vx_MQ below (mQc g Φ) (mXC g Φ) args s MC MS (mA g)) (F0 mi pc ls (S.map (mtr (gA g))))
theorem mLvF_mem {ad : Nat → Nat} {q : Nat × Value} : ∀ {L : List Value} {i : Nat}, q ∈ mLvF ad i L ↔ ∃ (j : Nat) (v : Value), L[j]? = some v ∧ v ≠ mJ ∧ q = (i + j, mtr ad v)
  | [], i => by simp [mLvF]
  | v :: t, i => by
    unfold mLvF
    have ih := @mLvF_mem ad q t (i + 1)
    by_cases hv : v = mJ
    · rw [if_pos hv, ih]
      constructor
      · rintro ⟨j, w, h1, h2, h3⟩
        exact ⟨j + 1, w, by simpa using h1, h2, by rw [h3]; congr 1; omega⟩
      · rintro ⟨j, w, h1, h2, h3⟩
        cases j with
        | zero => simp at h1; exact absurd (h1 ▸ hv) h2
        | succ j => exact ⟨j, w, by simpa using h1, h2, by rw [h3]; congr 1; omega⟩
    · rw [if_neg hv, List.mem_cons, ih]
      constructor
      · rintro (h | ⟨j, w, h1, h2, h3⟩)
        · exact ⟨0, v, by simp, hv, by simpa using h⟩
        · exact ⟨j + 1, w, by simpa using h1, h2, by rw [h3]; congr 1; omega⟩
      · rintro ⟨j, w, h1, h2, h3⟩
        cases j with
        | zero => simp at h1; subst h1; exact Or.inl (by simpa using h3)
        | succ j => exact Or.inr ⟨j, w, by simpa using h1, h2, by rw [h3]; congr 1; omega⟩
theorem mLv_mem {ad : Nat → Nat} {q : Nat × Value} {L : List Value} : q ∈ mLv ad L ↔ ∃ (j : Nat) (v : Value), L[j]? = some v ∧ v ≠ mJ ∧ q = (j, mtr ad v) := by
  unfold mLv
  rw [mLvF_mem]
  simp
theorem mLv_get {ad : Nat → Nat} {L : List Value} {n : Nat} {ls : Array Slot} (h : lv_has ls n (mLv ad L)) {i : Nat} {v : Value} (hi : L[i]? = some v) (hv : v ≠ mJ) : ls[i]? = some (.val (mtr ad v)) :=
  h.2.2 (i, mtr ad v) (mLv_mem.mpr ⟨i, v, hi, hv, rfl⟩)
/-- a local is written: a long that reached into it is lost -/
def mKill (L : List Value) : Nat → List Value
  | 0 => L
  | j + 1 => match L[j]? with
    | some v => bif v.category == 2 then L.set j mJ else L
    | none => L
theorem mKill_succ (L : List Value) (j : Nat) : mKill L (j + 1) = match L[j]? with
    | some v => bif v.category == 2 then L.set j mJ else L
    | none => L := rfl
def mSto (L : List Value) (i : Nat) (v : Value) : List Value := (mKill L i).set i v
def mSto2 (L : List Value) (i : Nat) (v : Value) : List Value := ((mKill L i).set i v).set (i + 1) mJ
theorem mKill_mem {L : List Value} {i j : Nat} {w : Value} (h : (mKill L i)[j]? = some w) (hw : w ≠ mJ) : L[j]? = some w ∧ ¬ (j + 1 = i ∧ w.category = 2) := by
  cases i with
  | zero => exact ⟨h, fun q => by omega⟩
  | succ i =>
    cases hx : L[i]? with
    | none =>
      have e : mKill L (i + 1) = L := by rw [mKill_succ, hx]
      rw [e] at h
      refine ⟨h, fun q => ?_⟩
      have hj : j = i := by omega
      subst hj
      rw [hx] at h
      cases h
    | some v =>
      have e : mKill L (i + 1) = bif v.category == 2 then L.set i mJ else L := by rw [mKill_succ, hx]
      rw [e] at h
      by_cases hc : v.category = 2
      · have hb : (v.category == 2) = true := by rw [hc]; rfl
        rw [hb, cond_true] at h
        by_cases hj : j = i
        · subst hj
          rw [List.getElem?_set_self (List.getElem?_eq_some_iff.mp hx).1] at h
          exact absurd (Option.some.inj h).symm hw
        · rw [List.getElem?_set_ne (fun q => hj q.symm)] at h
          exact ⟨h, fun q => hj (by omega)⟩
      · have hb : (v.category == 2) = false := by simp [hc]
        rw [hb, cond_false] at h
        refine ⟨h, fun q => ?_⟩
        have hj : j = i := by omega
        subst hj
        rw [hx] at h
        cases h
        exact hc q.2
theorem mKill_len (L : List Value) (i : Nat) : (mKill L i).length = L.length := by
  cases i with
  | zero => rfl
  | succ i =>
    rw [mKill_succ]
    cases hx : L[i]? with
    | none => rfl
    | some v =>
      show (bif v.category == 2 then L.set i mJ else L).length = L.length
      cases (v.category == 2) <;> simp
/-- behind a store of one slot -/
theorem mSto_has {ad : Nat → Nat} {L : List Value} {n i : Nat} {v : Value} {ls : Array Slot} (h : lv_has ls n ((i, mtr ad v) :: (mLv ad L).filter (fun q => !(q.1 == i) && !(q.1 + 1 == i && q.2.category == 2)))) : lv_has ls n (mLv ad (mSto L i v)) := by
  refine ⟨h.1, h.2.1, fun q hq => h.2.2 q ?_⟩
  obtain ⟨j, w, h1, h2, rfl⟩ := mLv_mem.mp hq
  unfold mSto at h1
  by_cases hj : j = i
  · subst hj
    rw [List.getElem?_set] at h1
    simp only [if_true] at h1
    split at h1
    · cases h1
      exact List.mem_cons_self
    · cases h1
  · rw [List.getElem?_set_ne (fun q => hj q.symm)] at h1
    obtain ⟨h3, h4⟩ := mKill_mem h1 h2
    refine List.mem_cons_of_mem _ (List.mem_filter.mpr ⟨mLv_mem.mpr ⟨j, w, h3, h2, rfl⟩, ?_⟩)
    simp only [mtr_cat, Bool.and_eq_true, Bool.not_eq_true', beq_eq_false_iff_ne, ne_eq, Bool.and_eq_false_iff]
    refine ⟨hj, ?_⟩
    by_cases hq : j + 1 = i
    · exact Or.inr (fun q => h4 ⟨hq, q⟩)
    · exact Or.inl hq
theorem mSto2_has {ad : Nat → Nat} {L : List Value} {n i : Nat} {v : Value} {ls : Array Slot} (h : lv_has ls n ((i, mtr ad v) :: (mLv ad L).filter (fun q => !(q.1 == i) && (!(q.1 == i + 1) && !(q.1 + 1 == i && q.2.category == 2))))) : lv_has ls n (mLv ad (mSto2 L i v)) := by
  refine ⟨h.1, h.2.1, fun q hq => h.2.2 q ?_⟩
  obtain ⟨j, w, h1, h2, rfl⟩ := mLv_mem.mp hq
  unfold mSto2 at h1
  by_cases hj1 : j = i + 1
  · subst hj1
    rw [List.getElem?_set] at h1
    simp only [if_true] at h1
    split at h1
    · exact absurd (Option.some.inj h1).symm h2
    · cases h1
  rw [List.getElem?_set_ne (fun q => hj1 q.symm)] at h1
  by_cases hj : j = i
  · subst hj
    rw [List.getElem?_set] at h1
    simp only [if_true] at h1
    split at h1
    · cases h1
      exact List.mem_cons_self
    · cases h1
  · rw [List.getElem?_set_ne (fun q => hj q.symm)] at h1
    obtain ⟨h3, h4⟩ := mKill_mem h1 h2
    refine List.mem_cons_of_mem _ (List.mem_filter.mpr ⟨mLv_mem.mpr ⟨j, w, h3, h2, rfl⟩, ?_⟩)
    simp only [mtr_cat, Bool.and_eq_true, Bool.not_eq_true', beq_eq_false_iff_ne, ne_eq, Bool.and_eq_false_iff]
    refine ⟨hj, hj1, ?_⟩
    by_cases hq : j + 1 = i
    · exact Or.inr (fun q => h4 ⟨hq, q⟩)
    · exact Or.inl hq
/-- the world at a call -/
theorem mW_move {g : mG} {s U : State} {locs : List Loc} {H : Heap} (hW : s.WarmedH U.vm) (h : mW g s s.heap) (hS : va_S (mA g) s.heap H locs) (hH : U.heap = H) : mW g U U.heap := by
  obtain ⟨h1, h2, h3, h4, h5, h6, h7, h8, h9, h10, h11, h12, h13, h14, h15, h16, h17⟩ := h
  subst hH
  have hk := hS.2.1
  refine ⟨va_K.moved hW.alike h1, fun q hq => va_Nw.warmM hW (h2 q hq), fun q hq => vk_R.warm hW (h3 q hq), vk_S.moved hW.alike (h4.kept hk), vx_Zq.moved hW.alike (h5.kept hk), vx_Zq.moved hW.alike (h6.kept hk), va_X.moved hW.alike (h7.kept (hk _ h9 (Nat.not_le.mpr h8))), h8, Nat.lt_of_lt_of_le h9 hS.1, h10, va_Z.moved hW.alike (h11.kept hk), ?_, ?_, mZf.moved hW.alike (h14.kept hk), h15, fun q hq => va_Nw.warmD hW (h16 q hq), fun q hq => va_Nw.warmC hW (h17 q hq)⟩
  · obtain ⟨a, b, c1, c2, c3⟩ := h12
    exact ⟨a, b, by rw [hW.alike.findClass]; exact c1, by rw [hW.alike.findClass]; exact c2, by rw [hW.alike.assignable]; exact c3⟩
  · obtain ⟨a, b, c1, c2, c3⟩ := h13
    exact ⟨a, b, by rw [hW.alike.findClass]; exact c1, by rw [hW.alike.findClass]; exact c2, by rw [hW.alike.assignable]; exact c3⟩
theorem mW_calling {g : mG} {U : State} {f : JFrame} {mk : MethodId} {a : Array Value} (h : mW g U U.heap) : mW g (U.calling f mk a) (U.calling f mk a).heap := by
  obtain ⟨h1, h2, h3, h4, h5, h6, h7, h8, h9, h10, h11, h12, h13, h14, h15, h16, h17⟩ := h
  have hal : U.vm.Alike (U.calling f mk a).vm := Vm.Alike.refl U.vm
  exact ⟨va_K.moved (u := U) hal h1, fun q hq => va_Nw.same (u := U) rfl rfl (h2 q hq), fun q hq => vk_R.same (u := U) rfl (h3 q hq), vk_S.moved (u := U) hal h4, vx_Zq.moved (u := U) hal h5, vx_Zq.moved (u := U) hal h6, va_X.moved (u := U) hal h7, h8, h9, h10, va_Z.moved (u := U) hal h11, h12, h13, mZf.moved (u := U) hal h14, h15, fun q hq => va_Nw.same (u := U) rfl rfl (h16 q hq), fun q hq => va_Nw.same (u := U) rfl rfl (h17 q hq)⟩
theorem mPc_blind {g : mG} {As : List Value} {m : Mm} {o : Int64} : FrameBlind (mPc g As m o) := fun a U f mk h => ⟨h.1, mW_calling h.2.1, h.2.2.1, h.2.2.2⟩
