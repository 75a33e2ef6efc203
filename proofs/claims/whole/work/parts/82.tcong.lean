set_option maxRecDepth 100000
/-! ONLY THE BYTES OF THE TEXT COUNT -/
section TC
variable {T T' : Nat → Int32} {n : Nat}
theorem bAt_cg (h : ∀ i, i < n → T i = T' i) : bAt T n = bAt T' n := by
  funext i
  unfold bAt
  by_cases q : i < n
  · rw [if_pos q, if_pos q, h i q]
  · rw [if_neg q, if_neg q]
theorem skp_cg (h : bAt T n = bAt T' n) : skp T n = skp T' n := by
  have key : ∀ f i, skB T n f i = skB T' n f i := by
    intro f
    induction f with
    | zero => exact fun _ => rfl
    | succ f ih =>
      intro i
      show (if bAt T n i = 32 then skB T n f (i + 1) else i) = (if bAt T' n i = 32 then skB T' n f (i + 1) else i)
      rw [h, ih]
  funext i
  exact key _ _
theorem dgs_cg (h : bAt T n = bAt T' n) : ∀ f i v, dgs T n f i v = dgs T' n f i v := by
  intro f
  induction f with
  | zero => exact fun _ _ => rfl
  | succ f ih =>
    intro i v
    by_cases q : isDg (bAt T n i)
    · rw [dgs_yes q, dgs_yes (h ▸ q), ih, h]
    · rw [dgs_no q, dgs_no (h ▸ q)]
theorem swd_cg (h : bAt T n = bAt T' n) : ∀ f i, swd T n f i = swd T' n f i := by
  intro f
  induction f with
  | zero => exact fun _ => rfl
  | succ f ih =>
    intro i
    by_cases q : isSm (bAt T n i)
    · rw [swd_yes q, swd_yes (h ▸ q), ih]
    · rw [swd_no q, swd_no (h ▸ q)]
theorem wdl_cg (h : bAt T n = bAt T' n) (b : Nat) : ∀ f k v, wdl T n b f k v = wdl T' n b f k v := by
  intro f
  induction f with
  | zero => exact fun _ _ => rfl
  | succ f ih =>
    intro k v
    by_cases q : isSm (bAt T n (b + k))
    · rw [wdl_yes q, wdl_yes (h ▸ q), ih, h]
    · rw [wdl_no q, wdl_no (h ▸ q)]
theorem pBl_cg (h : bAt T n = bAt T' n) : pBl T n = pBl T' n := by
  funext s; unfold pBl; rw [skp_cg h]
theorem pNum_cg (h : bAt T n = bAt T' n) : pNum T n = pNum T' n := by
  funext lo hi s
  unfold pNum
  rw [skp_cg h, pBl_cg h, h, dgs_cg h]
theorem pSgn_cg (h : bAt T n = bAt T' n) : pSgn T n = pSgn T' n := by
  funext c s
  unfold pSgn
  rw [skp_cg h, pBl_cg h, h]
theorem pTks_cg (h : bAt T n = bAt T' n) : pTks T n = pTks T' n := by
  funext c s
  unfold pTks
  rw [skp_cg h, pBl_cg h, h]
theorem wHere_cg (h : bAt T n = bAt T' n) : wHere T n = wHere T' n := by
  funext b
  unfold wHere
  rw [wdl_cg h]
theorem pIsW_cg (h : bAt T n = bAt T' n) : pIsW T n = pIsW T' n := by
  funext w s
  unfold pIsW
  rw [skp_cg h, pBl_cg h, wHere_cg h]
theorem pSkw_cg (h : bAt T n = bAt T' n) : pSkw T n = pSkw T' n := by
  funext s
  unfold pSkw
  rw [swd_cg h]
theorem bkR_cg (h : ∀ i, i < n → T i = T' i) (N : Nat) : bkR T n N = bkR T' n N := by
  have hb := bAt_cg h
  have e1 : bk1 T n N = bk1 T' n N := by
    funext b
    unfold bk1 b2p b1p
    rw [pNum_cg hb, pSgn_cg hb, pBl_cg hb]
  have key : ∀ f b, bkF T n N f b = bkF T' n N f b := by
    intro f
    induction f with
    | zero => exact fun _ => rfl
    | succ f ih =>
      intro b
      show ifp _ (bkF T n N f (bk1 T n N b)) b = ifp _ (bkF T' n N f (bk1 T' n N b)) b
      rw [e1, ih]
  unfold bkR
  rw [skp_cg hb, key]
end TC
