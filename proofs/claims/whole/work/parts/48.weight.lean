/-! the weight of an edit; sums -/
theorem nI_sub {a b : Nat} (h : b ≤ a) : nI a - nI b = nI (a - b) := by
  have e : nI a = nI (a - b) + nI b := by rw [nI_add]; congr 1; omega
  rw [e, Int32.add_sub_cancel]
theorem nI_s1 {a : Nat} (h : 1 ≤ a) : nI a - (1 : Int32) = nI (a - 1) := nI_sub (b := 1) h
def fl (l : List Int64) (i : Nat) : Int64 := l.getD i 0
theorem rp_fl {f : Nat → Int64} {l : List Int64} (h : rp f l) {i : Nat} (hi : i < l.length) : f i = fl l i := by
  unfold fl; rw [List.getD_eq_getElem?_getD, h i hi]; rfl
theorem fl_ext {l l' : List Int64} (h : l.length = l'.length) (he : ∀ i, i < l.length → fl l i = fl l' i) : l = l' := by
  apply List.ext_getElem h
  intro i h1 h2
  have := he i h1
  unfold fl at this
  simpa [List.getD_eq_getElem?_getD, h1, h2] using this
def hdF (f g : Nat → Int64) : Nat → Nat → Nat
  | 0, i => i
  | k + 1, i => if f i = g i then hdF f g k (i + 1) else i
def tlF (f : Nat → Int64) (n : Nat) (g : Nat → Int64) (m : Nat) : Nat → Nat → Nat
  | 0, q => q
  | k + 1, q => if f (n - 1 - q) = g (m - 1 - q) then tlF f n g m k (q + 1) else q
def hdL (l l' : List Int64) : Nat := hdF (fl l) (fl l') (min l.length l'.length) 0
def tlL (l l' : List Int64) : Nat := tlF (fl l) l.length (fl l') l'.length (min l.length l'.length - hdL l l') 0
def wt (l l' : List Int64) : Nat := l.length + l'.length - 2 * (hdL l l' + tlL l l')
theorem hdF_le (f g : Nat → Int64) : ∀ k i, i ≤ hdF f g k i ∧ hdF f g k i ≤ i + k := by
  intro k
  induction k with
  | zero => intro i; exact ⟨Nat.le_refl _, Nat.le_refl _⟩
  | succ k ih => intro i; unfold hdF; split; have := ih (i + 1); omega; omega
theorem hdF_eq (f g : Nat → Int64) : ∀ k i j, i ≤ j → j < hdF f g k i → f j = g j := by
  intro k
  induction k with
  | zero => intro i j h1 h2; unfold hdF at h2; omega
  | succ k ih =>
    intro i j h1 h2
    unfold hdF at h2
    split at h2
    · rename_i h
      by_cases hj : j = i
      · rw [hj]; exact h
      · exact ih (i + 1) j (by omega) h2
    · omega
theorem tlF_le (f : Nat → Int64) (n : Nat) (g : Nat → Int64) (m : Nat) : ∀ k i, i ≤ tlF f n g m k i ∧ tlF f n g m k i ≤ i + k := by
  intro k
  induction k with
  | zero => intro i; exact ⟨Nat.le_refl _, Nat.le_refl _⟩
  | succ k ih => intro i; unfold tlF; split; have := ih (i + 1); omega; omega
theorem tlF_eq (f : Nat → Int64) (n : Nat) (g : Nat → Int64) (m : Nat) : ∀ k i j, i ≤ j → j < tlF f n g m k i → f (n - 1 - j) = g (m - 1 - j) := by
  intro k
  induction k with
  | zero => intro i j h1 h2; unfold tlF at h2; omega
  | succ k ih =>
    intro i j h1 h2
    unfold tlF at h2
    split at h2
    · rename_i h
      by_cases hj : j = i
      · rw [hj]; exact h
      · exact ih (i + 1) j (by omega) h2
    · omega
theorem hdF_comm (f g : Nat → Int64) : ∀ k i, hdF f g k i = hdF g f k i := by
  intro k
  induction k with
  | zero => intro i; rfl
  | succ k ih =>
    intro i; unfold hdF
    by_cases h : f i = g i
    · rw [if_pos h, if_pos h.symm, ih]
    · rw [if_neg h, if_neg (fun e => h e.symm)]
theorem tlF_comm (f : Nat → Int64) (n : Nat) (g : Nat → Int64) (m : Nat) : ∀ k i, tlF f n g m k i = tlF g m f n k i := by
  intro k
  induction k with
  | zero => intro i; rfl
  | succ k ih =>
    intro i; unfold tlF
    by_cases h : f (n - 1 - i) = g (m - 1 - i)
    · rw [if_pos h, if_pos h.symm, ih]
    · rw [if_neg h, if_neg (fun e => h e.symm)]
theorem hdL_comm (l l' : List Int64) : hdL l l' = hdL l' l := by unfold hdL; rw [hdF_comm, Nat.min_comm]
theorem tlL_comm (l l' : List Int64) : tlL l l' = tlL l' l := by unfold tlL; rw [tlF_comm, Nat.min_comm, hdL_comm]
theorem wt_comm (l l' : List Int64) : wt l l' = wt l' l := by unfold wt; rw [hdL_comm, tlL_comm, Nat.add_comm l.length]
theorem hdL_le (l l' : List Int64) : hdL l l' ≤ min l.length l'.length := by have := (hdF_le (fl l) (fl l') (min l.length l'.length) 0).2; unfold hdL; omega
theorem tlL_le (l l' : List Int64) : hdL l l' + tlL l l' ≤ min l.length l'.length := by
  have h1 := hdL_le l l'
  have := (tlF_le (fl l) l.length (fl l') l'.length (min l.length l'.length - hdL l l') 0).2
  unfold tlL; omega
theorem wt_0 {l l' : List Int64} (h : wt l l' = 0) : l = l' := by
  have h1 := tlL_le l l'
  unfold wt at h
  have hle : l.length = l'.length := by omega
  refine fl_ext hle fun i hi => ?_
  by_cases hh : i < hdL l l'
  · exact hdF_eq _ _ _ 0 i (by omega) hh
  · have := tlF_eq (fl l) l.length (fl l') l'.length (min l.length l'.length - hdL l l') 0 (l.length - 1 - i) (by omega) (by
      show _ < tlL l l'
      omega)
    rwa [← hle, show l.length - 1 - (l.length - 1 - i) = i by omega] at this
theorem wt_le {l l' : List Int64} (h : l.length ≤ 600) (h' : l'.length ≤ 600) : wt l l' ≤ 1200 := by unfold wt; omega
theorem wt_self (l : List Int64) : wt l l = 0 := by
  have e : ∀ k i, hdF (fl l) (fl l) k i = i + k := by
    intro k
    induction k with
    | zero => intro i; rfl
    | succ k ih => intro i; unfold hdF; rw [if_pos rfl, ih]; omega
  unfold wt hdL
  rw [e]; simp; omega
def sm (f : Nat → Nat) : Nat → Nat → Nat
  | _, 0 => 0
  | i, k + 1 => f i + sm f (i + 1) k
theorem sm_r (f : Nat → Nat) : ∀ k i, sm f i (k + 1) = sm f i k + f (i + k) := by
  intro k
  induction k with
  | zero => intro i; simp [sm]
  | succ k ih =>
    intro i
    have := ih (i + 1)
    show f i + sm f (i + 1) (k + 1) = (f i + sm f (i + 1) k) + f (i + (k + 1))
    rw [this, show i + 1 + k = i + (k + 1) by omega]; omega
theorem sm_congr {f g : Nat → Nat} : ∀ k i, (∀ j, i ≤ j → j < i + k → f j = g j) → sm f i k = sm g i k := by
  intro k
  induction k with
  | zero => intro i _; rfl
  | succ k ih => intro i h; unfold sm; rw [h i (by omega) (by omega), ih (i + 1) (fun j h1 h2 => h j (by omega) (by omega))]
theorem sm_sh (f : Nat → Nat) : ∀ k i, sm (fun j => f (j + 1)) i k = sm f (i + 1) k := by
  intro k
  induction k with
  | zero => intro i; rfl
  | succ k ih => intro i; unfold sm; rw [ih]
theorem sm_add (f : Nat → Nat) : ∀ k i m, sm f i (k + m) = sm f i k + sm f (i + k) m := by
  intro k
  induction k with
  | zero => intro i m; simp [sm]
  | succ k ih =>
    intro i m
    rw [show k + 1 + m = (k + m) + 1 by omega]
    show f i + sm f (i + 1) (k + m) = f i + sm f (i + 1) k + _
    rw [ih, show i + 1 + k = i + (k + 1) by omega]; omega
theorem sm_le {f g : Nat → Nat} : ∀ k i, (∀ j, i ≤ j → j < i + k → f j ≤ g j) → sm f i k ≤ sm g i k := by
  intro k
  induction k with
  | zero => intro i _; exact Nat.le_refl _
  | succ k ih => intro i h; unfold sm; have := h i (by omega) (by omega); have := ih (i + 1) (fun j h1 h2 => h j (by omega) (by omega)); omega
theorem sm_mem (f : Nat → Nat) {j : Nat} : ∀ k i, i ≤ j → j < i + k → f j ≤ sm f i k := by
  intro k
  induction k with
  | zero => intro i h1 h2; omega
  | succ k ih =>
    intro i h1 h2
    unfold sm
    by_cases h : j = i
    · subst h; omega
    · have := ih (i + 1) (by omega) (by omega); omega
section WT
variable (c : Nat) (I : Nat → Int32) (A : Nat → Nat → Int64) (E : Nat → Nat → Int32) (B : Nat → Option zq_E) (n w : Nat)
theorem l_w54 {l l' : List Int64} (hl : I 3 = nI l.length) (hl' : I 5 = nI l'.length) (hr : rp (A 0) l) (hr' : rp (A 1) l') (h6 : l.length ≤ 600) (h6' : l'.length ≤ 600) {p : Nat} : ∀ k fuel q, p + q + k = min l.length l'.length → k < fuel → g_Mo_weight_54 fuel c (nI (min l.length l'.length)) (nI p) (nI q) (mo c I A E B n w) = f_Mo_weight_97 c (nI p) (nI (tlF (fl l) l.length (fl l') l'.length k q)) (mo c I A E B n w) := by
  intro k
  induction k with
  | zero =>
    intro fuel q hq hf
    obtain ⟨fuel, rfl⟩ : ∃ m, fuel = m + 1 := ⟨fuel - 1, by omega⟩
    show f_Mo_weight_54 _ _ _ _ _ _ = _
    unfold f_Mo_weight_54
    rw [nI_add, if_pos (nI_le (by omega) (by omega))]; rfl
  | succ k ih =>
    intro fuel q hq hf
    obtain ⟨fuel, rfl⟩ : ∃ m, fuel = m + 1 := ⟨fuel - 1, by omega⟩
    show f_Mo_weight_54 _ _ _ _ _ _ = _
    unfold f_Mo_weight_54 tlF
    rw [nI_add, if_neg (nI_ge (by omega) (by omega))]
    simp only [mo_is, mo_g0, mo_g1, mo_g2, mo_g3, mo_g5, mo_g7, mo_g9, mo_g12, mo_g13, mo_g17, mo_g18, mo_g19, mo_r4, mo_r6, mo_r8, mo_r10, mo_r11, mo_r14, mo_r15, mo_r16, mo_p0, mo_p1, mo_p2, mo_p3, mo_p5, mo_p7, mo_p9, mo_p12, mo_p13, mo_p17, mo_p18, mo_p19, Option.bind_some, zb_S, hl, hl']
    rw [nI_s1 (show 1 ≤ l.length by omega), nI_sub (show q ≤ l.length - 1 by omega), nI_s1 (show 1 ≤ l'.length by omega), nI_sub (show q ≤ l'.length - 1 by omega)]
    simp only [mo_l0 (hi := show l.length - 1 - q < 600 by omega), mo_l1 (hi := show l'.length - 1 - q < 600 by omega), Option.bind_some, lcmp0, nI_1, rp_fl hr (show l.length - 1 - q < l.length by omega), rp_fl hr' (show l'.length - 1 - q < l'.length by omega)]
    split
    · exact ih fuel (q + 1) (by omega) (by omega)
    · rfl
theorem l_w25 {l l' : List Int64} (hr : rp (A 0) l) (hr' : rp (A 1) l') (h6 : l.length ≤ 600) (h6' : l'.length ≤ 600) : ∀ k fuel p, p + k = min l.length l'.length → k < fuel → g_Mo_weight_25 fuel c (nI (min l.length l'.length)) (nI p) (mo c I A E B n w) = f_Mo_weight_52 c (nI (min l.length l'.length)) (nI (hdF (fl l) (fl l') k p)) (mo c I A E B n w) := by
  intro k
  induction k with
  | zero =>
    intro fuel q hq hf
    obtain ⟨fuel, rfl⟩ : ∃ m, fuel = m + 1 := ⟨fuel - 1, by omega⟩
    show f_Mo_weight_25 _ _ _ _ _ = _
    unfold f_Mo_weight_25
    rw [if_pos (nI_le (by omega) (by omega))]; rfl
  | succ k ih =>
    intro fuel q hq hf
    obtain ⟨fuel, rfl⟩ : ∃ m, fuel = m + 1 := ⟨fuel - 1, by omega⟩
    show f_Mo_weight_25 _ _ _ _ _ = _
    unfold f_Mo_weight_25 hdF
    rw [if_neg (nI_ge (by omega) (by omega))]
    simp only [mo_is, mo_g0, mo_g1, mo_g2, mo_g3, mo_g5, mo_g7, mo_g9, mo_g12, mo_g13, mo_g17, mo_g18, mo_g19, mo_r4, mo_r6, mo_r8, mo_r10, mo_r11, mo_r14, mo_r15, mo_r16, mo_p0, mo_p1, mo_p2, mo_p3, mo_p5, mo_p7, mo_p9, mo_p12, mo_p13, mo_p17, mo_p18, mo_p19, Option.bind_some, zb_S, mo_l0 (hi := show q < 600 by omega), mo_l1 (hi := show q < 600 by omega), lcmp0, nI_1, rp_fl hr (show q < l.length by omega), rp_fl hr' (show q < l'.length by omega)]
    split
    · exact ih fuel (q + 1) (by omega) (by omega)
    · rfl
theorem m_weight {l l' : List Int64} (hl : I 3 = nI l.length) (hl' : I 5 = nI l'.length) (hr : rp (A 0) l) (hr' : rp (A 1) l') (h6 : l.length ≤ 600) (h6' : l'.length ≤ 600) : f_Mo_weight c (mo c I A E B n w) = some (mo c I A E B n w, nI (wt l l')) := by
  have e0 : f_Mo_weight c (mo c I A E B n w) = f_Mo_weight_22 c (nI (min l.length l'.length)) (mo c I A E B n w) := by
    unfold f_Mo_weight
    simp only [mo_is, mo_g0, mo_g1, mo_g2, mo_g3, mo_g5, mo_g7, mo_g9, mo_g12, mo_g13, mo_g17, mo_g18, mo_g19, mo_r4, mo_r6, mo_r8, mo_r10, mo_r11, mo_r14, mo_r15, mo_r16, mo_p0, mo_p1, mo_p2, mo_p3, mo_p5, mo_p7, mo_p9, mo_p12, mo_p13, mo_p17, mo_p18, mo_p19, Option.bind_some, zb_S, hl, hl']
    by_cases h : l'.length ≤ l.length
    · rw [if_pos (nI_le h (by omega)), Nat.min_eq_right h]
    · rw [if_neg (nI_ge (by omega) (by omega)), Nat.min_eq_left (by omega)]
  have hm : min l.length l'.length ≤ 600 := by omega
  have h1 := hdL_le l l'
  have h2 := tlL_le l l'
  rw [e0]
  unfold f_Mo_weight_22
  rw [← nI_0, l_w25 c I A E B n w hr hr' h6 h6' (min l.length l'.length) zq_F 0 (by omega) (zF_lt (by omega))]
  unfold f_Mo_weight_52
  rw [← nI_0]
  have e2 := l_w54 c I A E B n w hl hl' hr hr' h6 h6' (p := hdL l l') (min l.length l'.length - hdL l l') zq_F 0 (by omega) (zF_lt (by omega))
  unfold hdL at e2
  rw [e2]
  unfold f_Mo_weight_97
  simp only [mo_is, mo_g0, mo_g1, mo_g2, mo_g3, mo_g5, mo_g7, mo_g9, mo_g12, mo_g13, mo_g17, mo_g18, mo_g19, mo_r4, mo_r6, mo_r8, mo_r10, mo_r11, mo_r14, mo_r15, mo_r16, mo_p0, mo_p1, mo_p2, mo_p3, mo_p5, mo_p7, mo_p9, mo_p12, mo_p13, mo_p17, mo_p18, mo_p19, Option.bind_some, zb_S, hl, hl']
  have e3 : ((nI l.length + nI l'.length) - ((2 : Int32) * (nI (hdL l l') + nI (tlL l l')))) = nI (wt l l') := by
    rw [nI_add, nI_add, show (2 : Int32) = nI 2 from rfl, nI_mul, nI_sub (by omega)]; rfl
  unfold tlL hdL at e3
  rw [e3]
theorem l_wOf {gw : Nat → Nat} {to : Nat} (h42 : to ≤ 42) (hE : ∀ j, j < to → E 2 j = nI (gw j)) : ∀ k fuel i acc, i + k = to → k < fuel → g_Mo_weightOf_5 fuel c (nI to) (nI acc) (nI i) (mo c I A E B n w) = some (mo c I A E B n w, nI (acc + sm gw i k)) := by
  intro k
  induction k with
  | zero =>
    intro fuel q acc hq hf
    obtain ⟨fuel, rfl⟩ : ∃ m, fuel = m + 1 := ⟨fuel - 1, by omega⟩
    show f_Mo_weightOf_5 _ _ _ _ _ _ = _
    unfold f_Mo_weightOf_5
    rw [if_pos (nI_le (by omega) (by omega))]; rfl
  | succ k ih =>
    intro fuel q acc hq hf
    obtain ⟨fuel, rfl⟩ : ∃ m, fuel = m + 1 := ⟨fuel - 1, by omega⟩
    show f_Mo_weightOf_5 _ _ _ _ _ _ = _
    unfold f_Mo_weightOf_5
    rw [if_neg (nI_ge (by omega) (by omega))]
    simp only [mo_is, mo_g0, mo_g1, mo_g2, mo_g3, mo_g5, mo_g7, mo_g9, mo_g12, mo_g13, mo_g17, mo_g18, mo_g19, mo_r4, mo_r6, mo_r8, mo_r10, mo_r11, mo_r14, mo_r15, mo_r16, mo_p0, mo_p1, mo_p2, mo_p3, mo_p5, mo_p7, mo_p9, mo_p12, mo_p13, mo_p17, mo_p18, mo_p19, Option.bind_some, zb_S, mo_i2 (hi := show q < 42 by omega), hE q (by omega), nI_1, nI_add]
    rw [ih fuel (q + 1) _ (by omega) (by omega)]
    show _ = some (_, nI (acc + (gw q + sm gw (q + 1) k)))
    rw [Nat.add_assoc]
theorem m_wOf {gw : Nat → Nat} {fr to : Nat} (hft : fr ≤ to) (h42 : to ≤ 42) (hE : ∀ j, j < to → E 2 j = nI (gw j)) : f_Mo_weightOf c (nI fr) (nI to) (mo c I A E B n w) = some (mo c I A E B n w, nI (sm gw fr (to - fr))) := by
  unfold f_Mo_weightOf
  rw [← nI_0, l_wOf c I A E B n w h42 hE (to - fr) zq_F fr 0 (by omega) (zF_lt (by omega)), Nat.zero_add]
theorem m_startOf {ge : Nat → Nat} {g : Nat} (h42 : g ≤ 42) (hE : ∀ j, j < g → E 0 j = nI (sm ge 0 (j + 1))) : f_Mo_startOf c (nI g) (mo c I A E B n w) = some (mo c I A E B n w, nI (sm ge 0 g)) := by
  unfold f_Mo_startOf f_Mo_startOf_16
  simp only [nI0 (show g < 2 ^ 31 by omega)]
  by_cases h : g = 0
  · rw [if_pos h, h]; rfl
  · rw [if_neg h, nI_s1 (by omega)]
    simp only [mo_is, mo_g0, mo_g1, mo_g2, mo_g3, mo_g5, mo_g7, mo_g9, mo_g12, mo_g13, mo_g17, mo_g18, mo_g19, mo_r4, mo_r6, mo_r8, mo_r10, mo_r11, mo_r14, mo_r15, mo_r16, mo_p0, mo_p1, mo_p2, mo_p3, mo_p5, mo_p7, mo_p9, mo_p12, mo_p13, mo_p17, mo_p18, mo_p19, Option.bind_some, zb_S, mo_i0 (hi := show g - 1 < 42 by omega), hE (g - 1) (by omega)]
    rw [show g - 1 + 1 = g by omega]
end WT
