/-! valid characters stay valid; what counts as a change -/
theorem V_ne0 {x : Int64} (h : V x) : x ≠ 0 := fun e => h.1 (by rw [e]; decide +kernel)
theorem V_nn {x : Int64} (h : V x) : 0 ≤ lg_cmp x 0 := by
  rw [lg_cmp_ge]
  have h7 : zb x 63 = false := by
    have h1 := congrArg (fun n => n.testBit 7) h.2.2.1
    simp only [pt_bit] at h1
    simpa using h1
  rw [Int64.le_iff_toInt_le]
  have : x.toInt = x.toBitVec.toInt := rfl
  rw [this, BitVec.toInt_eq_msb_cond, BitVec.msb_eq_getLsbD_last]
  unfold zb at h7
  simp only [Nat.reduceSub, h7]
  show (0 : Int) ≤ _
  simp
theorem gone_neg : ¬ (0 : Int32) ≤ lg_cmp (-1) 0 := by decide +kernel
theorem fmt_1 (b t f : Nat) (x : Int64) (hf : f < 256) (hb : b < 256) : pt (fmtL b t f x) 1 = f := by
  unfold fmtL
  have h1 := pt_lt x 1
  have h5 := pt_lt x 5
  have h4 := or_lt (pt_lt x 4) hb
  have hq : (if pt x 4 = 0 then pt x 1 else pt x 5) < 256 := by split <;> assumption
  by_cases ht : t = 0
  · simp [ht, pw, hf]
  · by_cases h2 : pt x 2 = b
    · simp [ht, h2, pw, hf]
    · by_cases h3 : f = (if pt x 4 = 0 then pt x 1 else pt x 5)
      · simp only [ht, h2, if_false, if_pos h3]
        simp [pw, hf]
      · simp only [ht, h2, if_false, if_neg h3]
        rw [pw _ _ _ _ (by decide) hq (by decide), pw _ _ _ _ (by decide) h4 (by decide), pw _ _ _ _ (by decide) hf (by decide)]
        simp
theorem V_wi {x : Int64} (h : V x) {k v : Nat} (hk : k = 1 ∨ k = 2 ∨ k = 3) (hv : v < 256) : V (wi x k v) := by
  have hk8 : k < 8 := by omega
  obtain ⟨h0, h6, h7, h4⟩ := h
  unfold V
  rw [pw _ _ _ _ hk8 hv (by decide), pw _ _ _ _ hk8 hv (by decide), pw _ _ _ _ hk8 hv (by decide), pw _ _ _ _ hk8 hv (by decide), pw _ _ _ _ hk8 hv (by decide)]
  rw [if_neg (by omega), if_neg (by omega), if_neg (by omega), if_neg (by omega), if_neg (by omega)]
  exact ⟨h0, h6, h7, h4⟩
theorem V_w45 {x : Int64} (h : V x) {u v : Nat} (hu : u < 256) (hv : v < 256) (huv : u = 0 → v = 0) : V (wi (wi x 4 u) 5 v) := by
  obtain ⟨h0, h6, h7, h4⟩ := h
  unfold V
  simp only [pw _ 5 v _ (by decide) hv (show 0 < 8 by decide), pw _ 5 v _ (by decide) hv (show 6 < 8 by decide), pw _ 5 v _ (by decide) hv (show 7 < 8 by decide), pw _ 5 v _ (by decide) hv (show 4 < 8 by decide), pw _ 5 v _ (by decide) hv (show 5 < 8 by decide), pw _ 4 u _ (by decide) hu (show 0 < 8 by decide), pw _ 4 u _ (by decide) hu (show 6 < 8 by decide), pw _ 4 u _ (by decide) hu (show 7 < 8 by decide), pw _ 4 u _ (by decide) hu (show 4 < 8 by decide)]
  exact ⟨h0, h6, h7, huv⟩
theorem or_ne {a b : Nat} (hb : b ≠ 0) : a ||| b ≠ 0 := fun e => hb (Nat.eq_zero_of_le_zero (e ▸ Nat.right_le_or))
theorem bec_V {x y : Int64} (h : V x) {kind b t a : Nat} (hb : b < 256) (hb0 : b ≠ 0) (ha : a < 256) (e : bec kind b t a x = some y) : V y := by
  unfold bec at e
  have h1 := pt_lt x 1
  have h5 := pt_lt x 5
  have h4 := or_lt (pt_lt x 4) hb
  have h3 := or_lt (pt_lt x 3) hb
  have hq : (if pt x 4 = 0 then pt x 1 else pt x 5) < 256 := by split <;> assumption
  split at e
  · unfold ersL at e
    split at e
    · cases e
    · cases e; exact V_wi h (by decide) h3
  · split at e
    · cases e
      unfold fmtL
      split
      · exact V_w45 (V_wi h (by decide) ha) (by decide) (by decide) (by decide)
      · split
        · exact V_wi h (by decide) ha
        · by_cases h6 : a = (if pt x 4 = 0 then pt x 1 else pt x 5)
          · rw [if_pos h6]; exact V_w45 (V_wi (k := 1) h (by decide) ha) (by decide) (by decide) (by decide)
          · rw [if_neg h6]; exact V_w45 (V_wi (k := 1) h (by decide) ha) h4 hq (fun e => absurd e (or_ne hb0))
    · split at e
      · unfold accL at e
        split at e
        · cases e
          have hy : V (if pt x 2 &&& a = 0 then x else wi x 2 0) := by
            split
            · exact h
            · exact V_wi h (by decide) (by decide)
          show V (if pt x 4 &&& a = 0 then _ else _)
          split
          · exact hy
          · exact V_w45 hy (by decide) (by decide) (by decide)
        · cases e
      · unfold rejL at e
        split at e
        · cases e
          have hy : V (wi x 3 (bic (pt x 3) a)) := V_wi h (by decide) (bic_lt (pt_lt x 3))
          show V (if pt x 4 &&& a = 0 then _ else _)
          split
          · exact hy
          · exact V_w45 (V_wi hy (by decide) h5) (by decide) (by decide) (by decide)
        · cases e
theorem pt_ushr (x : Int64) {k : Nat} (hk : k < 6) : pt (zf_lushr x (16 : Int32)) k = pt x (k + 2) := by
  apply Nat.eq_of_testBit_eq
  intro i
  rw [pt_bit, pt_bit, show (16 : Int32) = nI 16 from rfl, zb_ushr (by decide)]
  rw [show 16 + (8 * k + i) = 8 * (k + 2) + i by omega]
theorem ushr_eq {x y : Int64} (h : zf_lushr x (16 : Int32) = zf_lushr y (16 : Int32)) (h0 : pt x 0 = pt y 0) (h1 : pt x 1 = pt y 1) : x = y := pt_ext fun k hk => by
  match k with
  | 0 => exact h0
  | 1 => exact h1
  | k + 2 => rw [← pt_ushr x (by omega), ← pt_ushr y (by omega), h]
/-- settling: the mark is another just if the character is -/
theorem bec_mark {x y : Int64} {kind b t a : Nat} (hk : kind = 3 ∨ kind = 4) (e : bec kind b t a x = some y) : zf_lushr y (16 : Int32) = zf_lushr x (16 : Int32) ↔ y = x := by
  constructor
  · intro h
    by_cases hf : kind = 4 ∧ pt x 4 &&& a ≠ 0
    · exfalso
      obtain ⟨k4, h4⟩ := hf
      subst k4
      unfold bec rejL at e
      simp only [show ¬ (4 = 1) by decide, show ¬ (4 = 2) by decide, show ¬ (4 = 3) by decide, if_false] at e
      split at e
      · cases e
        have e1 := pt_ushr (wi (wi (wi (wi x 3 (bic (pt x 3) a)) 1 (pt x 5)) 4 0) 5 0) (k := 2) (by decide)
        rw [h, pt_ushr x (by decide), pw _ _ _ _ (by decide) (by decide) (by decide), pw _ _ _ _ (by decide) (by decide) (by decide)] at e1
        simp at e1
        exact h4 (by rw [e1]; simp)
      · cases e
    · refine ushr_eq h ?_ ?_
      · unfold bec accL rejL at e
        have h5 := pt_lt x 5
        have hbl := bic_lt (b := a) (pt_lt x 3)
        rcases hk with hk | hk <;> subst hk <;> simp at e <;> (obtain ⟨_, e⟩ := e; subst e; repeat' split) <;> simp [pw, h5, hbl]
      · unfold bec accL rejL at e
        have hbl := bic_lt (b := a) (pt_lt x 3)
        rcases hk with hk | hk <;> subst hk <;> simp at e
        · obtain ⟨_, e⟩ := e; subst e; repeat' split
          all_goals simp [pw]
        · obtain ⟨_, e⟩ := e
          simp at hf
          rw [if_pos hf] at e
          subst e
          simp [pw, hbl]
  · intro h; rw [h]
theorem V_shr {x : Int64} (h : V x) : zf_lshr x (16 : Int32) = zf_lushr x (16 : Int32) := zb_ext fun i hi => by
  rw [show (16 : Int32) = nI 16 from rfl, zb_ushr (by decide), zb_shr (by decide) _ hi]
  split
  · rfl
  · rename_i h2
    have h1 := congrArg (fun n => n.testBit 7) h.2.2.1
    simp only [pt_bit] at h1
    have : zb x 63 = false := by simpa using h1
    rw [this, zb_big (by omega)]
theorem mk_V {c f i : Nat} (hc : c < 256) (hc0 : c ≠ 0) (hf : f < 256) (hi : i < 256) : V (mk c f i) := by
  unfold V mk
  have z : ∀ k, k < 8 → pt 0 k = 0 := by decide +kernel
  simp [pw, hc, hf, hi, hc0, z]
theorem mk_put {c f i : Nat} (hc : c < 256) (hf : f < 256) (hi : i < 256) : (lN c ||| (zf_lshl (nI f).toInt64 (8 : Int32))) ||| (zf_lshl (nI i).toInt64 (16 : Int32)) = mk c f i := zb_ext fun q hq => by
  unfold mk
  rw [zb_wi _ (by decide) hi hq, zb_wi _ (by decide) hf hq, zb_wi _ (by decide) hc hq, zb_or, zb_or, show (8 : Int32) = nI 8 from rfl, show (16 : Int32) = nI 16 from rfl, zb_shl (by decide) _ hq, zb_shl (by decide) _ hq, nI_l (by omega), nI_l (by omega), zb_lN, zb_lN, zb_lN, zb_0]
  by_cases h1 : q < 8
  · simp [h1, show q < 64 by omega, show ¬ 8 ≤ q by omega, show ¬ 16 ≤ q by omega]
  · by_cases h2 : q < 16
    · simp [h1, h2, show q < 64 by omega, show 8 ≤ q by omega, show ¬ 16 ≤ q by omega, show q - 8 < 64 by omega, nb_lt hc (show 8 ≤ q by omega)]
    · by_cases h3 : q < 24
      · simp [h1, h2, h3, show q < 64 by omega, show 8 ≤ q by omega, show 16 ≤ q by omega, show q - 16 < 64 by omega, nb_lt hc (show 8 ≤ q by omega), nb_lt hf (show 8 ≤ q - 8 by omega)]
      · simp [h1, h2, h3, show q < 64 by omega, show 8 ≤ q by omega, show 16 ≤ q by omega, nb_lt hc (show 8 ≤ q by omega), nb_lt hf (show 8 ≤ q - 8 by omega), nb_lt hi (show 8 ≤ q - 16 by omega)]
