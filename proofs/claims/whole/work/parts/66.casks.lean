/-! the class's questions -/
section CAS
variable {b : Nat} {S : zq_S} {au tr op : Nat} {tx q : List Int64} {sn : Nat → List Int64} {ge gw : Nat → Nat} {d u oe ow : Nat}
theorem c_isView {v : Nat} (hv : v < 3) (S : zq_S) : f_CT_isView (nI v) S = some (S, 1) := by
  unfold f_CT_isView f_CT_isView_14
  rw [if_neg (nI_pos (show v < 2 ^ 31 by omega)), if_neg (show ¬ (2 : Int32) < nI v from nI_nlt (a := 2) (b := v) (by omega) (by decide)), if_pos (Or.inr rfl)]
theorem c_isViewb {v : Int32} (hv : ∀ a, a < 3 → v ≠ nI a) (S : zq_S) : f_CT_isView v S = some (S, 0) := by
  unfold f_CT_isView f_CT_isView_13 f_CT_isView_14
  by_cases h0 : v < 0
  · rw [if_pos h0, if_pos (Or.inl rfl)]
  · rw [if_neg h0]
    obtain ⟨p, hp, rfl⟩ := nI_of h0
    rw [if_pos (show (2 : Int32) < nI p from nI_lt (a := 2) (Nat.not_le.mp (fun h => hv p (by omega) rfl)) hp), if_pos (Or.inl rfl)]
theorem c_inView {v : Nat} (hv : v < 3) (x : Int64) (S : zq_S) : f_CT_isInView x (nI v) S = some (S, if sv v x = true then 1 else 0) := by
  unfold f_CT_isInView f_CT_isInView_19 f_CT_isInView_33 f_CT_isInView_38 sv
  have e1 : (nI v = (1 : Int32)) ↔ v = 1 := nI_eq (a := v) (b := 1) (by omega) (by decide)
  simp only [nI0 (show v < 2 ^ 31 by omega), e1, lget2, lget3, zb_S, nIb (pt_lt x 2), nIb (pt_lt x 3)]
  by_cases h0 : v = 0
  · simp [h0]
  · by_cases h1 : v = 1
    · subst h1
      by_cases h : pt x 3 = 0 <;> simp [h]
    · by_cases h : pt x 2 = 0 <;> simp [h0, h1, h]
theorem l_clen {tt : Nat} (g2 : zs_gr S b 3 2 = some (some tt)) (hT : TX S tt tx) {v : Nat} (hv : v < 3) : ∀ (rest : List Int64) (fuel m k : Nat), rest.length < fuel → k + rest.length = tx.length → (∀ j, j < rest.length → rest[j]? = some (fl tx (k + j))) → g_CT_length_13 fuel b (nI v) (nI m) (nI k) S = some (S, nI (cv v rest m)) := by
  have h6 := TX_600 hT
  intro rest
  induction rest with
  | nil =>
    intro fuel m k hf hk hr
    obtain ⟨fuel, rfl⟩ : ∃ m, fuel = m + 1 := ⟨fuel - 1, by omega⟩
    simp only [List.length_nil, Nat.add_zero] at hk
    show f_CT_length_13 _ _ _ _ _ _ = _
    unfold f_CT_length_13
    simp only [g2, TX_sz hT, Option.bind_some]
    rw [if_pos (nI_le (by omega) (by omega))]; rfl
  | cons x xs ih =>
    intro fuel m k hf hk hr
    obtain ⟨fuel, rfl⟩ : ∃ m, fuel = m + 1 := ⟨fuel - 1, by omega⟩
    simp only [List.length_cons] at hf hk
    obtain ⟨hx, hr'⟩ := seg_0 hr
    show f_CT_length_13 _ _ _ _ _ _ = _
    unfold f_CT_length_13 f_CT_length_42
    simp only [g2, TX_sz hT, Option.bind_some]
    rw [if_neg (nI_ge (by omega) (by omega)), if_pos (TX_is hT), TX_at hT (by omega), zb_S, hx, c_inView hv, zb_S, nI_1]
    unfold cv
    by_cases hs : sv v x = true
    · rw [if_pos hs, if_pos hs, if_neg (by decide), nI_1]
      exact ih fuel _ _ (by omega) (by omega) hr'
    · rw [if_neg hs, if_neg hs, if_pos rfl]
      exact ih fuel _ _ (by omega) (by omega) hr'
theorem all_fl (tx : List Int64) : ∀ j, j < tx.length → tx[j]? = some (fl tx (0 + j)) := fun j hj => by
  unfold fl
  rw [Nat.zero_add, List.getD_eq_getElem?_getD]
  simp [hj]
theorem c_len (h : SC b S au tr op tx sn ge gw d u oe ow) {v : Nat} (hv : v < 3) : f_CT_length b (nI v) S = some (S, nI (cv v tx 0)) := by
  obtain ⟨q, h⟩ := h
  obtain ⟨tt, g2, hT⟩ := sd_tx h
  have h6 := TX_600 hT
  unfold f_CT_length
  rw [c_isView hv, zb_S, if_neg (by decide), ← nI_0]
  exact l_clen g2 hT hv tx zq_F 0 0 (zF_lt (by omega)) (by omega) (all_fl tx)
theorem c_lenb {v : Int32} (hv : ∀ a, a < 3 → v ≠ nI a) : f_CT_length b v S = some (S, -1) := by
  unfold f_CT_length
  rw [c_isViewb hv, zb_S, if_pos rfl]
theorem l_cpl {tt : Nat} (g2 : zs_gr S b 3 2 = some (some tt)) (hT : TX S tt tx) {v : Nat} (hv : v < 3) (i : Int32) : ∀ (rest : List Int64) (fuel m k : Nat), rest.length < fuel → k + rest.length = tx.length → (∀ j, j < rest.length → rest[j]? = some (fl tx (k + j))) → g_CT_placeOfSeen_5 fuel b (nI v) i (nI m) (nI k) S = some (S, match plc v i rest m k with | .inl j => nI j | .inr _ => (-1 : Int32)) := by
  have h6 := TX_600 hT
  intro rest
  induction rest with
  | nil =>
    intro fuel m k hf hk hr
    obtain ⟨fuel, rfl⟩ : ∃ m, fuel = m + 1 := ⟨fuel - 1, by omega⟩
    simp only [List.length_nil, Nat.add_zero] at hk
    show f_CT_placeOfSeen_5 _ _ _ _ _ _ _ = _
    unfold f_CT_placeOfSeen_5
    simp only [g2, TX_sz hT, Option.bind_some]
    rw [if_pos (nI_le (by omega) (by omega))]; rfl
  | cons x xs ih =>
    intro fuel m k hf hk hr
    obtain ⟨fuel, rfl⟩ : ∃ m, fuel = m + 1 := ⟨fuel - 1, by omega⟩
    simp only [List.length_cons] at hf hk
    obtain ⟨hx, hr'⟩ := seg_0 hr
    show f_CT_placeOfSeen_5 _ _ _ _ _ _ _ = _
    unfold f_CT_placeOfSeen_5 f_CT_placeOfSeen_44
    simp only [g2, TX_sz hT, Option.bind_some]
    rw [if_neg (nI_ge (by omega) (by omega)), if_pos (TX_is hT), TX_at hT (by omega), zb_S, hx, c_inView hv, zb_S]
    simp only [nI_1]
    unfold plc
    by_cases hs : sv v x = true
    · rw [if_pos hs, if_pos hs, if_neg (by decide)]
      by_cases hm : nI m = i
      · rw [if_pos hm, if_pos hm]
      · rw [if_neg hm, if_neg hm]
        exact ih fuel _ _ (by omega) (by omega) hr'
    · rw [if_neg hs, if_neg hs, if_pos rfl]
      exact ih fuel _ _ (by omega) (by omega) hr'
theorem c_seen1 {v1 v3 : Int32} (i : Int32) (h : (∀ a, a < 3 → v1 ≠ nI a) ∨ ∀ a, a < 3 → v3 ≠ nI a) : f_CT_seen S b v1 i v3 S = some (bump S, .inr 1) := by
  have ht : f_CT_seen_16 S S = some (bump S, .inr 1) := by
    unfold f_CT_seen_16
    rw [if_pos ⟨rfl, rfl⟩]; rfl
  unfold f_CT_seen
  by_cases h1 : ∃ a, a < 3 ∧ v1 = nI a
  · obtain ⟨a, ha, rfl⟩ := h1
    have h3 : ∀ a, a < 3 → v3 ≠ nI a := by
      rcases h with h | h
      · exact absurd rfl (h a ha)
      · exact h
    rw [c_isView ha, zb_S, if_neg (by decide), ht]
    by_cases h0 : v3 < 0
    · rw [if_pos h0]
    · rw [if_neg h0, if_neg]
      obtain ⟨p, hp, rfl⟩ := nI_of h0
      intro hc
      have hc' : nI p ≤ nI 2 := hc
      rw [nI_leI hp (by decide)] at hc'
      exact h3 p (by omega) rfl
  · rw [c_isViewb (fun a ha e => h1 ⟨a, ha, e⟩), zb_S, if_pos rfl, ht]
theorem c_seen (h : SC b S au tr op tx sn ge gw d u oe ow) {v what : Nat} (hv : v < 3) (hw : what < 3) (i : Int32) : f_CT_seen S b (nI v) i (nI what) S = match plc v i tx 0 0 with | .inl j => some (S, .inl (nI (seenV v what (fl tx j) j))) | .inr _ => some (bump S, .inr 0) := by
  obtain ⟨q, h⟩ := h
  obtain ⟨tt, g2, hT⟩ := sd_tx h
  have h6 := TX_600 hT
  have e0 : f_CT_placeOfSeen b (nI v) i S = some (S, match plc v i tx 0 0 with | .inl j => nI j | .inr _ => (-1 : Int32)) := by
    unfold f_CT_placeOfSeen
    rw [← nI_0]
    exact l_cpl g2 hT hv i tx zq_F 0 0 (zF_lt (by omega)) (by omega) (all_fl tx)
  unfold f_CT_seen
  rw [c_isView hv, zb_S, if_neg (by decide), if_neg (nI_pos (show what < 2 ^ 31 by omega)), if_pos (show nI what ≤ (2 : Int32) from nI_le (b := 2) (by omega) (by decide)), if_pos (sd_is h), e0, zb_S]
  cases hp : plc v i tx 0 0 with
  | inr j =>
    simp only
    rw [if_neg (by decide), if_pos ⟨trivial, trivial⟩]; rfl
  | inl j =>
    have hj := plc_l v i tx 0 0 j hp
    simp only
    rw [if_pos (nI_pos' (by omega)), g2]
    simp only [Option.bind_some]
    rw [if_pos (TX_is hT), TX_at hT (by omega), zb_S]
    unfold f_CT_formatInView f_CT_formatInView_18 f_CT_seen_87 seenV
    have e2 : (nI what = (2 : Int32)) ↔ what = 2 := nI_eq (a := what) (b := 2) (by omega) (by decide)
    have e3 : (nI v = (2 : Int32)) ↔ v = 2 := nI_eq (a := v) (b := 2) (by omega) (by decide)
    simp only [e2, e3, nI0 (show what < 2 ^ 31 by omega), lget0, lget1, lfB, zb_S]
    have hw3 : what = 0 ∨ what = 1 ∨ what = 2 := by omega
    rcases hw3 with hw | hw | hw <;> subst hw
    · simp
    · by_cases k2 : v = 2 <;> by_cases k4 : pt (fl tx j) 4 = 0 <;> simp [k2, k4, zb_S]
    · simp
theorem RNG1 {v1 : Int32} {len : Nat} : RNG v1 (1 : Int32) len ↔ ∃ p, p < len ∧ v1 = nI p := by
  constructor
  · rintro ⟨pl, m, e1, e2, h⟩
    by_cases hm : m = 0
    · subst hm; exact absurd e2 (by decide)
    · exact ⟨pl, by omega, e1⟩
  · rintro ⟨p, h, e⟩
    exact ⟨p, 1, e, rfl, by omega⟩
theorem c_mark1 (h : SC b S au tr op tx sn ge gw d u oe ow) (h6 : tx.length ≤ 600) {v1 v2 : Int32} (hp : ∀ p, p < tx.length → v1 ≠ nI p) : f_CT_mark S b v1 v2 S = some (bump S, .inr 0) := by
  obtain ⟨q, h⟩ := h
  unfold f_CT_mark
  rw [if_pos (sd_is h), c_rngb h h6 (fun hr => by obtain ⟨p, h1, h2⟩ := RNG1.mp hr; exact hp p h1 h2), zt_r]
theorem c_mark2 (h : SC b S au tr op tx sn ge gw d u oe ow) (h6 : tx.length ≤ 600) {p : Nat} (hp : p < tx.length) {v2 : Int32} (h2 : ∀ a, a < 4 → v2 ≠ nI a) : f_CT_mark S b (nI p) v2 S = some (bump S, .inr 1) := by
  obtain ⟨q, h⟩ := h
  obtain ⟨tt, g2, hT⟩ := sd_tx h
  unfold f_CT_mark
  rw [if_pos (sd_is h), c_rng h h6 S (RNG1.mpr ⟨p, hp, rfl⟩), zt_l, g2]
  simp only [Option.bind_some]
  rw [if_pos (TX_is hT), TX_at hT hp, zb_S, if_neg (show ¬ v2 = 0 from h2 0 (by decide)), if_neg (show ¬ v2 = 1 from h2 1 (by decide)), if_neg (show ¬ v2 = 2 from h2 2 (by decide)), if_neg (show ¬ v2 = 3 from h2 3 (by decide)), if_pos ⟨rfl, rfl⟩]; rfl
theorem c_mark (h : SC b S au tr op tx sn ge gw d u oe ow) (h6 : tx.length ≤ 600) {p a : Nat} (hp : p < tx.length) (ha : a < 4) : f_CT_mark S b (nI p) (nI a) S = some (S, .inl (markV a (fl tx p))) := by
  obtain ⟨q, h⟩ := h
  obtain ⟨tt, g2, hT⟩ := sd_tx h
  unfold f_CT_mark
  rw [if_pos (sd_is h), c_rng h h6 S (RNG1.mpr ⟨p, hp, rfl⟩), zt_l, g2]
  simp only [Option.bind_some]
  rw [if_pos (TX_is hT), TX_at hT hp, zb_S]
  unfold f_CT_mark_86 markV
  have e1 : (nI a = (1 : Int32)) ↔ a = 1 := nI_eq (a := a) (b := 1) (by omega) (by decide)
  have e2 : (nI a = (2 : Int32)) ↔ a = 2 := nI_eq (a := a) (b := 2) (by omega) (by decide)
  have e3 : (nI a = (3 : Int32)) ↔ a = 3 := nI_eq (a := a) (b := 3) (by omega) (by decide)
  simp only [nI0 (show a < 2 ^ 31 by omega), e1, e2, e3, lget2, lget3, lget4, lget5, lisF, zb_S]
  have h4 : a = 0 ∨ a = 1 ∨ a = 2 ∨ a = 3 := by omega
  rcases h4 with h | h | h | h <;> subst h
  · simp
  · simp
  · simp
  · by_cases k4 : pt (fl tx p) 4 = 0 <;> simp [k4]
theorem l_cnx {tt : Nat} (g2 : zs_gr S b 3 2 = some (some tt)) (hT : TX S tt tx) {a : Nat} : ∀ (rest : List Int64) (fuel k : Nat), rest.length < fuel → k + rest.length = tx.length → (∀ j, j < rest.length → rest[j]? = some (fl tx (k + j))) → g_CT_next_12 fuel b (nI a) (nI k) S = some (S, .inl (match nx a rest k with | some j => nI j | none => -1)) := by
  have h6 := TX_600 hT
  intro rest
  induction rest with
  | nil =>
    intro fuel k hf hk hr
    obtain ⟨fuel, rfl⟩ : ∃ m, fuel = m + 1 := ⟨fuel - 1, by omega⟩
    simp only [List.length_nil, Nat.add_zero] at hk
    show f_CT_next_12 _ _ _ _ _ = _
    unfold f_CT_next_12
    simp only [g2, TX_sz hT, Option.bind_some]
    rw [if_pos (nI_le (by omega) (by omega))]; rfl
  | cons x xs ih =>
    intro fuel k hf hk hr
    obtain ⟨fuel, rfl⟩ : ∃ m, fuel = m + 1 := ⟨fuel - 1, by omega⟩
    simp only [List.length_cons] at hf hk
    obtain ⟨hx, hr'⟩ := seg_0 hr
    show f_CT_next_12 _ _ _ _ _ = _
    unfold f_CT_next_12
    simp only [g2, TX_sz hT, Option.bind_some]
    rw [if_neg (nI_ge (by omega) (by omega)), if_pos (TX_is hT), TX_at hT (by omega), zb_S, hx, lmks, zb_S, nI_and, nI_1]
    have hlt : (pt x 2 ||| pt x 3 ||| pt x 4) &&& a < 256 := and_lt (or_lt (or_lt (pt_lt x 2) (pt_lt x 3)) (pt_lt x 4))
    simp only [nIb hlt]
    unfold nx mkr
    by_cases hc : (pt x 2 ||| pt x 3 ||| pt x 4) &&& a = 0
    · rw [if_pos hc, if_pos hc]; exact ih fuel _ (by omega) (by omega) hr'
    · rw [if_neg hc, if_neg hc]
theorem c_next1 (h : SC b S au tr op tx sn ge gw d u oe ow) (h6 : tx.length ≤ 600) {v1 v2 : Int32} (hp : ¬ PLC v1 tx.length) : f_CT_next b v1 v2 S = some (bump S, .inr 0) := by
  obtain ⟨q, h⟩ := h
  unfold f_CT_next
  rw [if_pos (sd_is h), c_rngb h h6 (fun hr => hp (RNG0.mp hr)), zt_r]
theorem c_next2 (h : SC b S au tr op tx sn ge gw d u oe ow) (h6 : tx.length ≤ 600) {v1 v2 : Int32} (hp : PLC v1 tx.length) (h2 : ¬ SET v2) : f_CT_next b v1 v2 S = some (bump S, .inr 1) := by
  obtain ⟨q, h⟩ := h
  unfold f_CT_next
  rw [if_pos (sd_is h), c_rng h h6 S (RNG0.mpr hp), zt_l, c_setb h2, zt_r]
theorem c_next (h : SC b S au tr op tx sn ge gw d u oe ow) (h6 : tx.length ≤ 600) {p a : Nat} (hp : p ≤ tx.length) (h1 : 1 ≤ a) (ha : a < 256) : f_CT_next b (nI p) (nI a) S = some (S, .inl (match nx a (tx.drop p) p with | some j => nI j | none => -1)) := by
  obtain ⟨q, h⟩ := h
  obtain ⟨tt, g2, hT⟩ := sd_tx h
  unfold f_CT_next
  rw [if_pos (sd_is h), c_rng h h6 S (RNG0.mpr ⟨p, rfl, hp⟩), zt_l, c_set h1 ha, zt_l]
  refine l_cnx g2 hT (tx.drop p) zq_F p (zF_lt (by simp; omega)) (by simp; omega) (fun j hj => ?_)
  rw [List.getElem?_drop]
  simp only [List.length_drop] at hj
  have := all_fl tx (p + j) (by omega)
  rwa [Nat.zero_add] at this
theorem l_crn {tt : Nat} (g2 : zs_gr S b 3 2 = some (some tt)) (hT : TX S tt tx) : ∀ (rest : List Int64) (fuel m k : Nat) (bf : Int64), rest.length < fuel → k + rest.length = tx.length → (∀ j, j < rest.length → rest[j]? = some (fl tx (k + j))) → g_CT_countRuns_7 fuel b (nI m) bf (nI k) S = some (S, nI (rn rest bf m)) := by
  have h6 := TX_600 hT
  intro rest
  induction rest with
  | nil =>
    intro fuel m k bf hf hk hr
    obtain ⟨fuel, rfl⟩ : ∃ m, fuel = m + 1 := ⟨fuel - 1, by omega⟩
    simp only [List.length_nil, Nat.add_zero] at hk
    show f_CT_countRuns_7 _ _ _ _ _ _ = _
    unfold f_CT_countRuns_7
    simp only [g2, TX_sz hT, Option.bind_some]
    rw [if_pos (nI_le (by omega) (by omega))]; rfl
  | cons x xs ih =>
    intro fuel m k bf hf hk hr
    obtain ⟨fuel, rfl⟩ : ∃ m, fuel = m + 1 := ⟨fuel - 1, by omega⟩
    simp only [List.length_cons] at hf hk
    obtain ⟨hx, hr'⟩ := seg_0 hr
    show f_CT_countRuns_7 _ _ _ _ _ _ = _
    unfold f_CT_countRuns_7 f_CT_countRuns_50 f_Let_markOf
    simp only [g2, TX_sz hT, Option.bind_some]
    rw [if_neg (nI_ge (by omega) (by omega)), if_pos (TX_is hT), TX_at hT (by omega), zb_S, hx, zb_S]
    simp only [lcmp0, nI_1]
    unfold rn
    by_cases h0 : mkL x = 0
    · rw [if_pos (show zf_lushr x 16 = 0 from h0), if_pos h0]
      exact ih fuel _ _ _ (by omega) (by omega) hr'
    · rw [if_neg (show ¬ zf_lushr x 16 = 0 from h0), if_neg h0]
      by_cases h1 : mkL x = bf
      · rw [if_pos (show zf_lushr x 16 = bf from h1), if_pos h1]
        exact ih fuel _ _ _ (by omega) (by omega) hr'
      · rw [if_neg (show ¬ zf_lushr x 16 = bf from h1), if_neg h1]
        exact ih fuel _ _ _ (by omega) (by omega) hr'
theorem l_cfd {mf : Nat → Int64} (g1 : zs_gr S b 3 1 = some (some (b + 3))) (hm : S.1 (b + 3) = some (.inl (0, 600, .inr (.inl mf)))) (z : Int64) {fo : Nat} (hfo : fo ≤ 600) : ∀ (k fuel i : Nat), i + k = fo → k < fuel → ∃ r : Int32, g_CT_isFound_3 fuel b z (nI fo) (nI i) S = some (S, r) ∧ (r = 0 ∨ r = 1) ∧ (r = 1 ↔ ∃ j, i ≤ j ∧ j < fo ∧ mf j = z) := by
  intro k
  induction k with
  | zero =>
    intro fuel i hi hf
    obtain ⟨fuel, rfl⟩ : ∃ m, fuel = m + 1 := ⟨fuel - 1, by omega⟩
    refine ⟨0, ?_, Or.inl rfl, ⟨fun h => absurd h (by decide), fun ⟨j, h1, h2, _⟩ => absurd h2 (by omega)⟩⟩
    show f_CT_isFound_3 _ _ _ _ _ _ = _
    unfold f_CT_isFound_3 f_CT_isFound_39
    rw [if_pos (nI_le (by omega) (by omega)), if_pos (Or.inl rfl)]
  | succ k ih =>
    intro fuel i hi hf
    obtain ⟨fuel, rfl⟩ : ∃ m, fuel = m + 1 := ⟨fuel - 1, by omega⟩
    have hop : f_CT_isFound_3 (g_CT_isFound_3 fuel) b z (nI fo) (nI i) S = if mf i = z then some (S, 1) else g_CT_isFound_3 fuel b z (nI fo) (nI (i + 1)) S := by
      unfold f_CT_isFound_3 f_CT_isFound_39
      rw [if_neg (nI_ge (by omega) (by omega)), g1]
      simp only [Option.bind_some]
      rw [show zs_len S (b + 3) 0 = some (nI 600) from z_len hm, Option.bind_some, if_neg (nI_ge (by omega) (by decide)), z_lal hm (by omega) (by decide), Option.bind_some, nI_1, if_pos (Or.inr trivial)]
      simp only [lcmp0]
    show ∃ r : Int32, f_CT_isFound_3 _ _ _ _ _ _ = _ ∧ _
    rw [hop]
    by_cases hz : mf i = z
    · rw [if_pos hz]
      exact ⟨1, rfl, Or.inr rfl, ⟨fun _ => ⟨i, by omega, by omega, hz⟩, fun _ => rfl⟩⟩
    · rw [if_neg hz]
      obtain ⟨r, e, h1, h2⟩ := ih fuel (i + 1) (by omega) (by omega)
      refine ⟨r, e, h1, ⟨fun h => ?_, fun ⟨j, c1, c2, c3⟩ => h2.mpr ⟨j, ?_, c2, c3⟩⟩⟩
      · obtain ⟨j, c1, c2, c3⟩ := h2.mp h
        exact ⟨j, by omega, c2, c3⟩
      · by_cases hji : j = i
        · subst hji; exact absurd c3 hz
        · omega
theorem sd_mf (h : SCd b S au tr op tx sn ge gw d u oe ow q) (mf' : Nat → Int64) : SCd b (zq_u S (b + 3) (.inl (0, 600, .inr (.inl mf')))) au tr op tx sn ge gw d u oe ow q := by
  obtain ⟨bg, G, X, LX, ge1, gw1, r, rest⟩ := h
  exact ⟨bg, G, X, LX, ge1, gw1, RC_mf r mf', rest⟩
theorem sd_m3 (h : SCd b S au tr op tx sn ge gw d u oe ow q) : ∃ mf, zs_gr S b 3 1 = some (some (b + 3)) ∧ S.1 (b + 3) = some (.inl (0, 600, .inr (.inl mf))) := by
  obtain ⟨bg, G, X, LX, ge1, gw1, r, rest⟩ := h
  obtain ⟨mf, h3⟩ := r.1.2.2.2
  exact ⟨mf, FX_mf r, h3⟩
theorem l_cdf (h6 : tx.length ≤ 600) : ∀ (rest p : List Int64) (fuel fo : Nat) (S : zq_S) (mf : Nat → Int64), rest.length < fuel → tx = p ++ rest → SCd b S au tr op tx sn ge gw d u oe ow q → S.1 (b + 3) = some (.inl (0, 600, .inr (.inl mf))) → fo ≤ p.length → (∀ z, z ≠ 0 → ((∃ j, j < fo ∧ mf j = z) ↔ z ∈ p.map mkL)) → ∃ S', g_CT_countDifferentMarks_4 fuel b (nI fo) (nI p.length) S = some (S', nI (df p rest fo)) ∧ SCd b S' au tr op tx sn ge gw d u oe ow q ∧ KR b S S' := by
  intro rest
  induction rest with
  | nil =>
    intro p fuel fo S mf hf ht h hm hfo hz
    obtain ⟨fuel, rfl⟩ : ∃ m, fuel = m + 1 := ⟨fuel - 1, by omega⟩
    obtain ⟨tt, g2, hT⟩ := sd_tx h
    have hp : p.length = tx.length := by rw [ht]; simp
    refine ⟨S, ?_, h, KR_r b S⟩
    show f_CT_countDifferentMarks_4 _ _ _ _ _ = _
    unfold f_CT_countDifferentMarks_4
    simp only [g2, TX_sz hT, Option.bind_some]
    rw [if_pos (nI_le (by omega) (by omega))]; rfl
  | cons x xs ih =>
    intro p fuel fo S mf hf ht h hm hfo hz
    obtain ⟨fuel, rfl⟩ : ∃ m, fuel = m + 1 := ⟨fuel - 1, by omega⟩
    simp only [List.length_cons] at hf
    obtain ⟨tt, g2, hT⟩ := sd_tx h
    obtain ⟨_, g1, _⟩ := sd_m3 h
    have hp : p.length + (xs.length + 1) = tx.length := by rw [ht]; simp
    have hx : fl tx p.length = x := by
      unfold fl
      rw [ht, List.getD_eq_getElem?_getD, List.getElem?_append_right (Nat.le_refl _)]; simp
    obtain ⟨r, er, hr01, hr1⟩ := l_cfd g1 hm (mkL x) (show fo ≤ 600 by omega) fo zq_F 0 (by omega) (zF_lt (by omega))
    rw [nI_0] at er
    have hop : f_CT_countDifferentMarks_4 (g_CT_countDifferentMarks_4 fuel) b (nI fo) (nI p.length) S = if mkL x = 0 then g_CT_countDifferentMarks_4 fuel b (nI fo) (nI (p.length + 1)) S else if r = 0 then g_CT_countDifferentMarks_4 fuel b (nI (fo + 1)) (nI (p.length + 1)) (zq_u S (b + 3) (.inl (0, 600, .inr (.inl (vp_updL mf fo (mkL x)))))) else g_CT_countDifferentMarks_4 fuel b (nI fo) (nI (p.length + 1)) S := by
      unfold f_CT_countDifferentMarks_4 f_CT_countDifferentMarks_61 f_Let_markOf f_CT_isFound
      simp only [g2, TX_sz hT, Option.bind_some]
      rw [if_neg (nI_ge (by omega) (by omega)), if_pos (TX_is hT), TX_at hT (by omega), zb_S, hx, zb_S, if_pos (sd_is h)]
      simp only [lcmp0, nI_1]
      rw [show zf_lushr x (16 : Int32) = mkL x from rfl, er, zb_S, g1]
      simp only [Option.bind_some]
      rw [show zs_len S (b + 3) 0 = some (nI 600) from z_len hm, Option.bind_some, if_neg (nI_ge (show fo < 600 by omega) (by decide)), z_las hm (show fo < 600 by omega) (by decide), Option.bind_some]
    have ht' : tx = (p ++ [x]) ++ xs := by rw [ht]; simp
    have hpl : (p ++ [x]).length = p.length + 1 := by simp
    show ∃ S', f_CT_countDifferentMarks_4 _ _ _ _ _ = _ ∧ _
    rw [hop]
    unfold df
    by_cases h0 : mkL x = 0
    · rw [if_pos h0, if_pos h0, ← hpl]
      refine ih (p ++ [x]) fuel fo S mf (by omega) ht' h hm (by omega) (fun z hz0 => ?_)
      rw [hz z hz0]
      simp only [List.map_append, List.mem_append, List.map_cons, List.map_nil, List.mem_singleton]
      constructor
      · exact Or.inl
      · rintro (a | a)
        · exact a
        · exact absurd (a.trans h0) hz0
    · rw [if_neg h0, if_neg h0, frs_1]
      have hmem : r = 1 ↔ mkL x ∈ p.map mkL := by
        rw [hr1, ← hz (mkL x) h0]
        constructor
        · rintro ⟨j, _, c2, c3⟩; exact ⟨j, c2, c3⟩
        · rintro ⟨j, c2, c3⟩; exact ⟨j, by omega, c2, c3⟩
      by_cases hin : mkL x ∈ p.map mkL
      · have hr : r = 1 := hmem.mpr hin
        rw [if_neg (by rw [hr]; decide), if_pos hin, ← hpl, Nat.add_zero]
        refine ih (p ++ [x]) fuel fo S mf (by omega) ht' h hm (by omega) (fun z hz0 => ?_)
        rw [hz z hz0]
        simp only [List.map_append, List.mem_append, List.map_cons, List.map_nil, List.mem_singleton]
        constructor
        · exact Or.inl
        · rintro (a | a)
          · exact a
          · rw [a]; exact hin
      · have hr : r = 0 := by
          rcases hr01 with hr | hr
          · exact hr
          · exact absurd (hmem.mp hr) hin
        rw [if_pos hr, if_neg hin, ← hpl]
        obtain ⟨S', e, h', kr⟩ := ih (p ++ [x]) fuel (fo + 1) _ (vp_updL mf fo (mkL x)) (by omega) ht' (sd_mf h _) (u_at _ _ _) (by omega) (fun z hz0 => by
          simp only [List.map_append, List.mem_append, List.map_cons, List.map_nil, List.mem_singleton]
          rw [← hz z hz0]
          constructor
          · rintro ⟨j, c1, c2⟩
            by_cases hj : j = fo
            · rw [hj, updL_at] at c2; exact Or.inr c2.symm
            · rw [updL_ne _ _ hj] at c2; exact Or.inl ⟨j, by omega, c2⟩
          · rintro (⟨j, c1, c2⟩ | a)
            · exact ⟨j, by omega, by rw [updL_ne _ _ (by omega)]; exact c2⟩
            · exact ⟨fo, by omega, by rw [updL_at]; exact a.symm⟩)
        exact ⟨S', e, h', KR_t (KR_u (Or.inl (by omega))) kr⟩
theorem c_count (h : SC b S au tr op tx sn ge gw d u oe ow) (hW : WF op tx sn ge gw d u oe ow) (v : Int32) : ∃ S', f_CT_count b v S = some (S', cntV v op tx gw d u) ∧ KR b S S' ∧ SC b S' au tr op tx sn ge gw d u oe ow := by
  obtain ⟨w1, w2, w3, w4, w5, w6, w7, w8, w9, w10⟩ := hW
  have hSC := h
  obtain ⟨q, h⟩ := h
  have h' := h
  obtain ⟨tt, g2, hT⟩ := sd_tx h
  obtain ⟨mf, g1, hm⟩ := sd_m3 h
  obtain ⟨bg, G, X, LX, ge1, gw1, r, r0, r1, r2, r3, r4, r5, r6⟩ := h
  unfold f_CT_count f_CT_count_101 cntV
  rw [if_pos (sd_is h'), if_pos (sd_is h'), FX_h r]
  simp only [Option.bind_some]
  rw [if_pos (FX_ish r), FX_d r, FX_u r, FX_op r]
  simp only [Option.bind_some]
  by_cases h0 : v = 0
  · rw [if_pos h0, if_pos h0]
    have e := l_crn g2 hT tx zq_F 0 0 0 (zF_lt (by omega)) (by omega) (all_fl tx)
    rw [nI_0] at e
    unfold f_CT_countRuns
    rw [e, zb_S]
    exact ⟨S, rfl, KR_r b S, hSC⟩
  · rw [if_neg h0, if_neg h0]
    by_cases h1 : v = 1
    · rw [if_pos h1, if_pos h1]
      obtain ⟨S', e, hs, kr⟩ := l_cdf w1 tx [] zq_F 0 S mf (zF_lt (by omega)) rfl h' hm (by simp) (fun z _ => by simp)
      unfold f_CT_countDifferentMarks
      have e' : g_CT_countDifferentMarks_4 zq_F b (0 : Int32) (0 : Int32) S = some (S', nI (df [] tx 0)) := e
      rw [e', zb_S]
      exact ⟨S', rfl, kr, q, hs⟩
    · rw [if_neg h1, if_neg h1]
      by_cases h2 : v = 2
      · rw [if_pos h2, if_pos h2]
        exact ⟨S, rfl, KR_r b S, hSC⟩
      · rw [if_neg h2, if_neg h2]
        by_cases h3 : v = 3
        · rw [if_pos h3, if_pos h3]
          exact ⟨S, rfl, KR_r b S, hSC⟩
        · rw [if_neg h3, if_neg h3]
          by_cases h4 : v = 4
          · rw [if_pos h4, if_pos h4]
            have e := h_wb r (fr := 0) (to := d) (Nat.zero_le d) (by omega) (fun j _ hj => (r4 j (by omega)).1)
            rw [nI_0, Nat.sub_zero, sm_congr (g := gw) d 0 (fun j _ hj => (r4 j (by omega)).2.2)] at e
            unfold f_Hist_weightOfDone
            rw [FX_d r, Option.bind_some, if_pos (FX_ish r), e]
            exact ⟨S, rfl, KR_r b S, hSC⟩
          · rw [if_neg h4, if_neg h4]
            by_cases h5 : v = 5
            · rw [if_pos h5, if_pos h5]
              have e := h_wb r (fr := d) (to := d + u) (by omega) (by omega) (fun j _ hj => (r4 j (by omega)).1)
              rw [show d + u - d = u by omega, sm_congr (g := gw) u d (fun j _ hj => (r4 j (by omega)).2.2)] at e
              unfold f_Hist_weightOfUndone
              rw [FX_d r, FX_u r]
              simp only [Option.bind_some]
              rw [nI_add, e]
              simp only [FX_ish r, if_true, zb_S]
              exact ⟨S, rfl, KR_r b S, hSC⟩
            · rw [if_neg h5, if_neg h5]
              by_cases h6 : v = 6
              · rw [if_pos h6, if_pos h6]
                have : op = 0 ∨ op = 1 := by omega
                rcases this with ho | ho <;> subst ho
                · rw [if_pos nI_0]; exact ⟨S, rfl, KR_r b S, hSC⟩
                · rw [if_neg (by decide)]; exact ⟨S, rfl, KR_r b S, hSC⟩
              · rw [if_neg h6, if_neg h6]
                exact ⟨S, rfl, KR_r b S, hSC⟩
end CAS
