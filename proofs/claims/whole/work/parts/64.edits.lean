/-! the class's edits -/
def fm (kind b t a : Nat) : List Int64 → List Int64
  | [] => []
  | x :: xs => (bec kind b t a x).toList ++ fm kind b t a xs
def cs (kind b t a : Nat) : List Int64 → Nat
  | [] => 0
  | x :: xs => chg kind b t a x + cs kind b t a xs
theorem pr_fm (kind b t a : Nat) : ∀ (m : Nat) (r : List Int64), pr kind b t a m r = fm kind b t a (r.take m) ++ r.drop m := by
  intro m
  induction m with
  | zero => intro r; simp [pr, fm]
  | succ m ih =>
    intro r
    cases r with
    | nil => simp [pr, fm]
    | cons x xs => simp [pr, fm, ih]
theorem ct_cs (kind b t a : Nat) : ∀ (m : Nat) (r : List Int64), ct kind b t a m r = cs kind b t a (r.take m) := by
  intro m
  induction m with
  | zero => intro r; simp [ct, cs]
  | succ m ih =>
    intro r
    cases r with
    | nil => simp [ct, cs]
    | cons x xs => simp [ct, cs, ih]
theorem fm_len (kind b t a : Nat) : ∀ (r : List Int64), (fm kind b t a r).length ≤ r.length := by
  intro r
  induction r with
  | nil => exact Nat.le_refl _
  | cons x xs ih =>
    have h2 : (bec kind b t a x).toList.length ≤ 1 := by cases bec kind b t a x <;> simp
    simp only [fm, List.length_append, List.length_cons]; omega
section CED
variable {b : Nat} {S : zq_S} {au tr op : Nat} {tx q : List Int64} {sn : Nat → List Int64} {ge gw : Nat → Nat} {d u oe ow : Nat}
theorem c_bit (ha : zs_gi S b 3 4 = some (nI au)) (h8 : au < 8) : f_CT_workerBit b S = some (S, nI (2 ^ au)) := by
  unfold f_CT_workerBit
  rw [ha, Option.bind_some, bitN au h8]
theorem c_own (hi : zs_is S b 3 = true) (ha : zs_gi S b 3 4 = some (nI au)) (h8 : au < 8) (x : Int64) : f_CT_isOwn b x S = some (S, if pt x 2 = 2 ^ au then 1 else 0) := by
  unfold f_CT_isOwn f_CT_isOwn_18
  have hb := bitL au h8
  rw [lget2, zb_S, if_pos hi, c_bit ha h8, zb_S]
  have e : (nI (pt x 2) = nI (2 ^ au)) ↔ pt x 2 = 2 ^ au := nI_eq (by have := pt_lt x 2; omega) (by omega)
  simp only [e]
  by_cases h : pt x 2 = 2 ^ au <;> simp [h]
theorem c_aEr (hi : zs_is S b 3 = true) (ha : zs_gi S b 3 4 = some (nI au)) (h8 : au < 8) (ht : zs_gi S b 3 5 = some (nI tr)) (h2 : tr < 2) (x : Int64) (a : Nat) : f_CT_afterErasing b x S = some (S, (bec 1 (2 ^ au) tr a x).getD 0) := by
  have hb := bitL au h8
  unfold f_CT_afterErasing f_CT_afterErasing_15 bec ersL
  rw [ht, Option.bind_some]
  simp only [nI0 (show tr < 2 ^ 31 by omega), c_own hi ha h8, zb_S, hi, if_true, lget3, c_bit ha h8, nI_or, lwi3 x (or_lt (pt_lt x 3) hb)]
  by_cases h : tr = 0
  · simp [h]
  · by_cases h3 : pt x 2 = 2 ^ au <;> simp [h, h3]
theorem c_aFm (hi : zs_is S b 3 = true) (ha : zs_gi S b 3 4 = some (nI au)) (h8 : au < 8) (ht : zs_gi S b 3 5 = some (nI tr)) (h2 : tr < 2) (x : Int64) {f : Nat} (hf : f < 256) : f_CT_afterFormatting b x (nI f) S = some (S, fmtL (2 ^ au) tr f x) := by
  have hb := bitL au h8
  have h1 := pt_lt x 1
  have h5 := pt_lt x 5
  have hq : (if pt x 4 = 0 then pt x 1 else pt x 5) < 256 := by split <;> assumption
  have e : (nI f = nI (if pt x 4 = 0 then pt x 1 else pt x 5)) ↔ f = (if pt x 4 = 0 then pt x 1 else pt x 5) := nI_eq (by omega) (by omega)
  unfold f_CT_afterFormatting fmtL
  rw [lwi1 x hf, zb_S, ht, Option.bind_some]
  simp only [nI0 (show tr < 2 ^ 31 by omega), lwof, zb_S, hi, if_true, c_own hi ha h8, lfB, e, lget4, c_bit ha h8, nI_or, lwi4 _ (or_lt (pt_lt x 4) hb), lwi5 _ hq]
  by_cases h : tr = 0
  · simp [h]
  · by_cases h3 : pt x 2 = 2 ^ au
    · simp [h, h3]
    · simp only [if_neg h, if_neg h3, if_true]
      by_cases hc : f = (if pt x 4 = 0 then pt x 1 else pt x 5)
      · rw [if_pos hc, if_pos hc]
      · rw [if_neg hc, if_neg hc]
theorem sd_put (h : SCd b S au tr op tx sn ge gw d u oe ow q) {y : Option Int64} (hv : ∀ v, y = some v → V v) (hq : q.length < 600) : ∃ td S', zs_gr S b 3 3 = some (some td) ∧ zs_is S td 0 = true ∧ f_Text_add td (y.getD 0) S = some (S', ()) ∧ SCd b S' au tr op tx sn ge gw d u oe ow (q ++ y.toList) ∧ KR b S S' := by
  cases y with
  | none =>
    obtain ⟨td, h1, h2, h3⟩ := sd_add0 h
    exact ⟨td, S, h1, h2, h3, by simpa using h, KR_r b S⟩
  | some v => exact sd_add h (V_ne0 (hv v rfl)) hq
theorem seg_0 {x : Int64} {xs : List Int64} {k : Nat} (h : ∀ j, j < (x :: xs).length → (x :: xs)[j]? = some (fl tx (k + j))) : fl tx k = x ∧ ∀ j, j < xs.length → xs[j]? = some (fl tx (k + 1 + j)) := by
  constructor
  · have := h 0 (by simp)
    simpa using this.symm
  · intro j hj
    have := h (j + 1) (by simp; omega)
    simpa [Nat.add_assoc, Nat.add_comm, Nat.add_left_comm] using this
theorem l_cer (h8 : au < 8) (h2 : tr < 2) (h6 : tx.length ≤ 600) {pl m : Nat} (hpm : pl + m ≤ tx.length) : ∀ (seg : List Int64) (fuel k : Nat) (q : List Int64) (S : zq_S), seg.length < fuel → k + seg.length = pl + m → (∀ j, j < seg.length → seg[j]? = some (fl tx (k + j))) → (∀ x ∈ seg, V x) → SCd b S au tr op tx sn ge gw d u oe ow q → q.length ≤ k → ∃ S', g_CT_erase_13 fuel b (nI pl) (nI m) (nI k) S = f_CT_erase_13 (fun _ _ _ _ _ => none) b (nI pl) (nI m) (nI (pl + m)) S' ∧ SCd b S' au tr op tx sn ge gw d u oe ow (q ++ fm 1 (2 ^ au) tr 0 seg) ∧ KR b S S' := by
  intro seg
  induction seg with
  | nil =>
    intro fuel k q S hf hk hs hV h hq
    obtain ⟨fuel, rfl⟩ : ∃ m, fuel = m + 1 := ⟨fuel - 1, by omega⟩
    simp only [List.length_nil, Nat.add_zero] at hk
    subst hk
    refine ⟨S, ?_, by simpa [fm] using h, KR_r b S⟩
    show f_CT_erase_13 _ _ _ _ _ _ = _
    unfold f_CT_erase_13
    rw [nI_add, if_pos (Int32.le_refl _), if_pos (Int32.le_refl _)]
  | cons x xs ih =>
    intro fuel k q S hf hk hs hV h hq
    obtain ⟨fuel, rfl⟩ : ∃ m, fuel = m + 1 := ⟨fuel - 1, by omega⟩
    simp only [List.length_cons] at hf hk
    obtain ⟨hx, hs'⟩ := seg_0 hs
    have hVx : V x := hV x (by simp)
    obtain ⟨tt, g2, hT⟩ := sd_tx h
    obtain ⟨td, S1, g3, i3, e3, h3, kr3⟩ := sd_put h (y := bec 1 (2 ^ au) tr 0 x) (fun v hv => bec_V hVx (bitL au h8) (bit_ne au) (by decide) hv) (by omega)
    obtain ⟨S2, e4, h4, kr4⟩ := ih fuel (k + 1) _ S1 (by omega) (by omega) hs' (fun y hy => hV y (by simp [hy])) h3 (by
      have : (bec 1 (2 ^ au) tr 0 x).toList.length ≤ 1 := by cases bec 1 (2 ^ au) tr 0 x <;> simp
      rw [List.length_append]; omega)
    refine ⟨S2, ?_, by simpa [fm] using h4, KR_t kr3 kr4⟩
    show f_CT_erase_13 _ _ _ _ _ _ = _
    conv => lhs; unfold f_CT_erase_13
    rw [nI_add, if_neg (nI_ge (by omega) (by omega)), g3, g2]
    simp only [Option.bind_some]
    rw [if_pos (TX_is hT), TX_at hT (by omega), zb_S, if_pos (sd_is h), hx, c_aEr (sd_is h) (sd_au h) h8 (sd_tr h) h2 x 0, zb_S, if_pos i3, e3, zb_S, nI_1]
    exact e4
theorem l_cfm (h8 : au < 8) (h2 : tr < 2) (h6 : tx.length ≤ 600) {pl m f : Nat} (hf256 : f < 256) (hpm : pl + m ≤ tx.length) : ∀ (seg : List Int64) (fuel k acc : Nat) (q : List Int64) (S : zq_S), seg.length < fuel → k + seg.length = pl + m → (∀ j, j < seg.length → seg[j]? = some (fl tx (k + j))) → (∀ x ∈ seg, V x) → SCd b S au tr op tx sn ge gw d u oe ow q → q.length ≤ k → ∃ S', g_CT_format_21 fuel b (nI pl) (nI m) (nI f) (nI acc) (nI k) S = f_CT_format_21 (fun _ _ _ _ _ _ _ => none) b (nI pl) (nI m) (nI f) (nI (acc + cs 2 (2 ^ au) tr f seg)) (nI (pl + m)) S' ∧ SCd b S' au tr op tx sn ge gw d u oe ow (q ++ fm 2 (2 ^ au) tr f seg) ∧ KR b S S' := by
  intro seg
  induction seg with
  | nil =>
    intro fuel k acc q S hf hk hs hV h hq
    obtain ⟨fuel, rfl⟩ : ∃ m, fuel = m + 1 := ⟨fuel - 1, by omega⟩
    simp only [List.length_nil, Nat.add_zero] at hk
    subst hk
    refine ⟨S, ?_, by simpa [fm] using h, KR_r b S⟩
    show f_CT_format_21 _ _ _ _ _ _ _ _ = _
    unfold f_CT_format_21 cs
    rw [nI_add, if_pos (Int32.le_refl _), if_pos (Int32.le_refl _), Nat.add_zero]
  | cons x xs ih =>
    intro fuel k acc q S hf hk hs hV h hq
    obtain ⟨fuel, rfl⟩ : ∃ m, fuel = m + 1 := ⟨fuel - 1, by omega⟩
    simp only [List.length_cons] at hf hk
    obtain ⟨hx, hs'⟩ := seg_0 hs
    have hVx : V x := hV x (by simp)
    obtain ⟨tt, g2, hT⟩ := sd_tx h
    have hbe : bec 2 (2 ^ au) tr f x = some (fmtL (2 ^ au) tr f x) := by unfold bec; simp
    obtain ⟨td, S1, g3, i3, e3, h3, kr3⟩ := sd_put h (y := bec 2 (2 ^ au) tr f x) (fun v hv => bec_V hVx (bitL au h8) (bit_ne au) hf256 hv) (by omega)
    obtain ⟨S2, e4, h4, kr4⟩ := ih fuel (k + 1) (acc + chg 2 (2 ^ au) tr f x) _ S1 (by omega) (by omega) hs' (fun y hy => hV y (by simp [hy])) h3 (by
      rw [hbe, List.length_append]; simp; omega)
    refine ⟨S2, ?_, by simpa [fm] using h4, KR_t kr3 kr4⟩
    show f_CT_format_21 _ _ _ _ _ _ _ _ = _
    conv => lhs; unfold f_CT_format_21 f_CT_format_54
    rw [nI_add, if_neg (nI_ge (by omega) (by omega)), g2]
    simp only [Option.bind_some]
    rw [if_pos (TX_is hT), TX_at hT (by omega), zb_S, hx, lget1, zb_S, g3]
    rw [hbe, Option.getD_some] at e3
    simp only [Option.bind_some, sd_is h, if_true, c_aFm (sd_is h) (sd_au h) h8 (sd_tr h) h2 x hf256, zb_S, i3, e3, nI_1]
    have e5 : (nI (pt x 1) = nI f) ↔ pt x 1 = f := nI_eq (by have := pt_lt x 1; omega) (by omega)
    simp only [e5]
    have e6 : chg 2 (2 ^ au) tr f x = if pt x 1 = f then 0 else 1 := by unfold chg; simp
    rw [e6] at e4
    rw [show cs 2 (2 ^ au) tr f (x :: xs) = (if pt x 1 = f then 0 else 1) + cs 2 (2 ^ au) tr f xs by rw [← e6]; rfl, ← Nat.add_assoc, ← e4]
    by_cases h1 : pt x 1 = f
    · rw [if_pos h1, if_pos h1]; rfl
    · rw [if_neg h1, if_neg h1]
theorem l_cst (h8 : au < 8) (h6 : tx.length ≤ 600) {kind pl m a : Nat} (hk34 : kind = 3 ∨ kind = 4) {v4 : Int32} (hv4 : v4 = if kind = 3 then 1 else 0) (ha256 : a < 256) (hpm : pl + m ≤ tx.length) : ∀ (seg : List Int64) (fuel k acc : Nat) (q : List Int64) (S : zq_S), seg.length < fuel → k + seg.length = pl + m → (∀ j, j < seg.length → seg[j]? = some (fl tx (k + j))) → (∀ x ∈ seg, V x) → SCd b S au tr op tx sn ge gw d u oe ow q → q.length ≤ k → ∃ S', g_CT_settleMarks_11 fuel b (nI pl) (nI m) (nI a) v4 (nI acc) (nI k) S = f_CT_settleMarks_11 (fun _ _ _ _ _ _ _ _ => none) b (nI pl) (nI m) (nI a) v4 (nI (acc + cs kind (2 ^ au) tr a seg)) (nI (pl + m)) S' ∧ SCd b S' au tr op tx sn ge gw d u oe ow (q ++ fm kind (2 ^ au) tr a seg) ∧ KR b S S' := by
  intro seg
  induction seg with
  | nil =>
    intro fuel k acc q S hf hk hs hV h hq
    obtain ⟨fuel, rfl⟩ : ∃ m, fuel = m + 1 := ⟨fuel - 1, by omega⟩
    simp only [List.length_nil, Nat.add_zero] at hk
    subst hk
    refine ⟨S, ?_, by simpa [fm] using h, KR_r b S⟩
    show f_CT_settleMarks_11 _ _ _ _ _ _ _ _ _ = _
    unfold f_CT_settleMarks_11 cs
    rw [nI_add, if_pos (Int32.le_refl _), if_pos (Int32.le_refl _), Nat.add_zero]
  | cons x xs ih =>
    intro fuel k acc q S hf hk hs hV h hq
    obtain ⟨fuel, rfl⟩ : ∃ m, fuel = m + 1 := ⟨fuel - 1, by omega⟩
    simp only [List.length_cons] at hf hk
    obtain ⟨hx, hs'⟩ := seg_0 hs
    have hVx : V x := hV x (by simp)
    obtain ⟨tt, g2, hT⟩ := sd_tx h
    obtain ⟨td, S1, g3, i3, e3, h3, kr3⟩ := sd_put h (y := bec kind (2 ^ au) tr a x) (fun v hv => bec_V hVx (bitL au h8) (bit_ne au) ha256 hv) (by omega)
    obtain ⟨S2, e4, h4, kr4⟩ := ih fuel (k + 1) (acc + chg kind (2 ^ au) tr a x) _ S1 (by omega) (by omega) hs' (fun y hy => hV y (by simp [hy])) h3 (by
      have : (bec kind (2 ^ au) tr a x).toList.length ≤ 1 := by cases bec kind (2 ^ au) tr a x <;> simp
      rw [List.length_append]; omega)
    refine ⟨S2, ?_, by simpa [fm] using h4, KR_t kr3 kr4⟩
    have hop : ∀ K, f_CT_settleMarks_11 K b (nI pl) (nI m) (nI a) v4 (nI acc) (nI k) S = f_CT_settleMarks_50 K b (nI pl) (nI m) (nI a) v4 (nI acc) (nI k) x ((bec kind (2 ^ au) tr a x).getD 0) S := by
      intro K
      unfold f_CT_settleMarks_11
      rw [nI_add, if_neg (nI_ge (by omega) (by omega)), g2]
      simp only [Option.bind_some]
      rw [if_pos (TX_is hT), TX_at hT (by omega), zb_S, hx, lrej, lacc]
      rcases hk34 with e | e <;> subst e
      · have hv : v4 = 1 := hv4
        rw [if_neg (show ¬ v4 = 0 by rw [hv]; decide), zb_S]; rfl
      · have hv : v4 = 0 := hv4
        rw [if_pos hv, zb_S]; rfl
    have h76 : ∀ acc', f_CT_settleMarks_76 (g_CT_settleMarks_11 fuel) b (nI pl) (nI m) (nI a) v4 (nI acc') (nI k) ((bec kind (2 ^ au) tr a x).getD 0) S = g_CT_settleMarks_11 fuel b (nI pl) (nI m) (nI a) v4 (nI acc') (nI (k + 1)) S1 := by
      intro acc'
      unfold f_CT_settleMarks_76
      rw [g3]
      simp only [Option.bind_some]
      rw [if_pos i3, e3, zb_S, nI_1]
    show f_CT_settleMarks_11 _ _ _ _ _ _ _ _ _ = _
    rw [hop]
    unfold f_CT_settleMarks_50 f_CT_settleMarks_73 f_Let_markOf
    simp only [lcmp0, zb_S, nI_1, h76]
    rw [show cs kind (2 ^ au) tr a (x :: xs) = chg kind (2 ^ au) tr a x + cs kind (2 ^ au) tr a xs from rfl, ← Nat.add_assoc, ← e4]
    have hk2 : kind ≠ 2 := by omega
    cases hbe : bec kind (2 ^ au) tr a x with
    | none =>
      rw [Option.getD_none, if_pos rfl, (bec_gone hbe).2]
    | some y =>
      have hVy := bec_V hVx (bitL au h8) (bit_ne au) ha256 hbe
      rw [Option.getD_some, if_neg (V_ne0 hVy)]
      have hm := bec_mark hk34 hbe
      unfold chg
      rw [if_neg hk2, hbe]
      by_cases hyx : y = x
      · rw [if_pos (hm.mpr hyx), hyx, if_pos rfl]; rfl
      · rw [if_neg (fun e => hyx (hm.mp e)), if_neg (by simpa using hyx)]
theorem c_code (s : Int64) {i : Nat} (hi : i < 8) (S : zq_S) : f_CT_codeAt s (nI i) S = some (S, nI (pt s i)) := by
  unfold f_CT_codeAt
  rw [show (8 : Int32) = nI 8 from rfl, nI_mul, Nat.mul_comm, ushr_pt s hi]
theorem l_hmc (s : Int64) (S : zq_S) : ∀ k fuel i, i + k = 8 → k < fuel → g_CT_howManyCodes_2 fuel s (nI i) S = some (S, nI (hm s k i)) := by
  intro k
  induction k with
  | zero =>
    intro fuel i hi hf
    obtain ⟨fuel, rfl⟩ : ∃ m, fuel = m + 1 := ⟨fuel - 1, by omega⟩
    have hi : i = 8 := by omega
    subst hi
    show f_CT_howManyCodes_2 _ _ _ _ = _
    unfold f_CT_howManyCodes_2 f_CT_howManyCodes_22
    rw [if_pos (by decide)]; rfl
  | succ k ih =>
    intro fuel i hi hf
    obtain ⟨fuel, rfl⟩ : ∃ m, fuel = m + 1 := ⟨fuel - 1, by omega⟩
    show f_CT_howManyCodes_2 _ _ _ _ = _
    unfold f_CT_howManyCodes_2 f_CT_howManyCodes_22 hm
    rw [if_neg (nI8 (by omega)), c_code s (by omega), zb_S]
    simp only [nIb (pt_lt s i), nI_1]
    by_cases h : pt s i = 0
    · rw [if_pos h, if_pos h]
    · rw [if_neg h, if_neg h]; exact ih fuel (i + 1) (by omega) (by omega)
theorem c_hmc (s : Int64) (S : zq_S) : f_CT_howManyCodes s S = some (S, nI (nc s)) := by
  unfold f_CT_howManyCodes
  have := l_hmc s S 8 zq_F 0 (by omega) (zF_lt (by omega))
  rw [nI_0] at this
  exact this
theorem l_cin (Er : zq_S) (s : Int64) {v1 : Int32} {f ins m : Nat} (hf256 : f < 256) (hi256 : ins < 256) (hm8 : m ≤ nc s) : ∀ (k fuel i : Nat) (q : List Int64) (S : zq_S), i + k = m → k < fuel → SCd b S au tr op tx sn ge gw d u oe ow q → q.length + k ≤ 600 → ∃ S', g_CT_insert_83 Er fuel b v1 s (nI f) (nI m) (nI ins) (nI i) S = f_CT_insert_83 Er (fun _ _ _ _ _ _ _ _ => none) b v1 s (nI f) (nI m) (nI ins) (nI m) S' ∧ SCd b S' au tr op tx sn ge gw d u oe ow (q ++ (List.range' i k).map (fun i => mk (pt s i) f ins)) ∧ KR b S S' := by
  have h8 := nc_le s
  intro k
  induction k with
  | zero =>
    intro fuel i q S hi hf h hq
    obtain ⟨fuel, rfl⟩ : ∃ m, fuel = m + 1 := ⟨fuel - 1, by omega⟩
    have hi : i = m := by omega
    subst hi
    refine ⟨S, ?_, by simpa using h, KR_r b S⟩
    show f_CT_insert_83 Er _ _ _ _ _ _ _ _ _ = _
    unfold f_CT_insert_83
    rw [if_pos (Int32.le_refl _), if_pos (Int32.le_refl _)]
  | succ k ih =>
    intro fuel i q S hi hf h hq
    obtain ⟨fuel, rfl⟩ : ∃ m, fuel = m + 1 := ⟨fuel - 1, by omega⟩
    obtain ⟨td, S1, g3, i3, e3, h3, kr3⟩ := sd_add h (v := mk (pt s i) f ins) (V_ne0 (mk_V (pt_lt s i) (nc_ne (by omega)) hf256 hi256)) (by omega)
    obtain ⟨S2, e4, h4, kr4⟩ := ih fuel (i + 1) _ S1 (by omega) (by omega) h3 (by simp; omega)
    refine ⟨S2, ?_, by simpa [List.range'_succ] using h4, KR_t kr3 kr4⟩
    show f_CT_insert_83 Er _ _ _ _ _ _ _ _ _ = _
    conv => lhs; unfold f_CT_insert_83
    rw [if_neg (nI_ge (by omega) (by omega)), g3, Option.bind_some, c_code s (by omega), zb_S, lmake (pt_lt s i) hf256 hi256, zb_S, Option.bind_some, if_pos i3, e3, zb_S, nI_1]
    exact e4
def bump (S : zq_S) : zq_S := (S.1, S.2.1 + 1, S.2.2)
theorem SC_bump (h : SC b S au tr op tx sn ge gw d u oe ow) : SC b (bump S) au tr op tx sn ge gw d u oe ow := by
  obtain ⟨q, bg, G, X, LX, ge1, gw1, ⟨r1, r2, r3⟩, rest⟩ := h
  exact ⟨q, bg, G, X, LX, ge1, gw1, ⟨r1, r2, ⟨fun q hq => r3.1 q (Nat.le_of_succ_le hq), Nat.le_succ_of_le r3.2⟩⟩, rest⟩
theorem c_rng (h : SCd b S au tr op tx sn ge gw d u oe ow q) (h6 : tx.length ≤ 600) (E : zq_S) {v1 v2 : Int32} (hr : RNG v1 v2 tx.length) : f_CT_requireRange E b v1 v2 S = some (S, .inl ()) := by
  obtain ⟨pl, m, rfl, rfl, hpm⟩ := hr
  obtain ⟨tt, g2, hT⟩ := sd_tx h
  unfold f_CT_requireRange
  rw [if_neg (nI_pos (show m < 2 ^ 31 by omega)), if_neg (nI_pos (show pl < 2 ^ 31 by omega)), g2]
  simp only [Option.bind_some]
  rw [TX_sz hT, Option.bind_some, nI_sub (by omega), if_pos (nI_le (by omega) (by omega))]
theorem c_rngb (h : SCd b S au tr op tx sn ge gw d u oe ow q) (h6 : tx.length ≤ 600) {v1 v2 : Int32} (hr : ¬ RNG v1 v2 tx.length) : f_CT_requireRange S b v1 v2 S = some (bump S, .inr 0) := by
  obtain ⟨tt, g2, hT⟩ := sd_tx h
  have ht : f_CT_requireRange_21 S S = some (bump S, .inr 0) := by
    unfold f_CT_requireRange_21
    rw [if_pos ⟨rfl, rfl⟩]; rfl
  unfold f_CT_requireRange
  rw [ht]
  by_cases h2 : v2 < 0
  · rw [if_pos h2]
  · rw [if_neg h2]
    by_cases h1 : v1 < 0
    · rw [if_pos h1]
    · rw [if_neg h1, g2]
      simp only [Option.bind_some]
      rw [TX_sz hT, Option.bind_some, if_neg]
      obtain ⟨m, hm, rfl⟩ := nI_of h2
      obtain ⟨p, hp, rfl⟩ := nI_of h1
      intro hc
      rw [Int32.le_iff_toInt_le, Int32.toInt_sub, nI_toInt hp, nI_toInt hm, nI_toInt (show tx.length < 2 ^ 31 by omega), Int.bmod_eq_of_le (by omega) (by omega)] at hc
      exact hr ⟨p, m, rfl, rfl, by omega⟩
theorem c_fmt {f : Nat} (hf : f < 256) (E S : zq_S) : f_CT_requireFormat E (nI f) S = some (S, .inl ()) := by
  unfold f_CT_requireFormat
  rw [if_neg (nI_pos (show f < 2 ^ 31 by omega)), if_pos (show nI f ≤ (255 : Int32) from nI_le (b := 255) (by omega) (by decide))]
theorem c_fmtb {v : Int32} (h : ¬ BYT v) (S : zq_S) : f_CT_requireFormat S v S = some (bump S, .inr 1) := by
  have ht : f_CT_requireFormat_11 S S = some (bump S, .inr 1) := by
    unfold f_CT_requireFormat_11
    rw [if_pos ⟨rfl, rfl⟩]; rfl
  unfold f_CT_requireFormat
  rw [ht]
  by_cases h1 : v < 0
  · rw [if_pos h1]
  · rw [if_neg h1, if_neg]
    obtain ⟨p, hp, rfl⟩ := nI_of h1
    intro hc
    have hc' : nI p ≤ nI 255 := hc
    rw [nI_leI hp (by decide)] at hc'
    exact h ⟨p, rfl, by omega⟩
theorem c_set {a : Nat} (h1 : 1 ≤ a) (ha : a < 256) (E S : zq_S) : f_CT_requireSet E (nI a) S = some (S, .inl ()) := by
  unfold f_CT_requireSet
  rw [if_neg (show ¬ nI a < (1 : Int32) from nI_nlt (b := 1) h1 (by omega)), if_pos (show nI a ≤ (255 : Int32) from nI_le (b := 255) (by omega) (by decide))]
theorem c_setb {v : Int32} (h : ¬ SET v) (S : zq_S) : f_CT_requireSet S v S = some (bump S, .inr 1) := by
  have ht : f_CT_requireSet_12 S S = some (bump S, .inr 1) := by
    unfold f_CT_requireSet_12
    rw [if_pos ⟨rfl, rfl⟩]; rfl
  unfold f_CT_requireSet
  rw [ht]
  by_cases h1 : v < (1 : Int32)
  · rw [if_pos h1]
  · rw [if_neg h1, if_neg]
    have h0 : ¬ v < 0 := fun hv => h1 (Int32.lt_trans hv (by decide))
    obtain ⟨p, hp, rfl⟩ := nI_of h0
    intro hc
    have hc' : nI p ≤ nI 255 := hc
    have h1' : ¬ nI p < nI 1 := h1
    rw [nI_leI hp (by decide)] at hc'
    rw [nI_ltI hp (by decide)] at h1'
    exact h ⟨p, rfl, by omega, by omega⟩
end CED
