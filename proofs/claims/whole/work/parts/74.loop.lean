/-! the law's loop -/
theorem SM_up {b K : Nat} {S : zq_S} (h : SM b S K) : SM b S (K + 1) := by
  obtain ⟨I, A, E, au, tr, op, tx, sn, ge, gw, d, u, oe, ow, hS, hM, hO, hR, hW, h8, h2, hK⟩ := h
  exact ⟨I, A, E, au, tr, op, tx, sn, ge, gw, d, u, oe, ow, hS, hM, hO, hR, hW, h8, h2, by omega⟩
theorem SM_is {b K : Nat} {S : zq_S} (h : SM b S K) : zs_is S b 3 = true := by
  obtain ⟨I, A, E, au, tr, op, tx, sn, ge, gw, d, u, oe, ow, hS, _⟩ := h
  exact sc_is hS
theorem tlR {b K : Nat} {W : Option (zq_S × Int32)} {M : zq_S → Option (zq_S × Int32)} (h : PR b K W M) (N D : zq_S → Option (zq_S × Int32)) (hN : ∀ S2, SM b S2 K → ∃ T, N S2 = some (T, (1 : Int32))) : ∃ T, zs_b W (fun S7 x8 => if zs_is S7 (b + 8) 4 = true then zs_b (M S7) fun S14 x15 => if zs_is S14 (b + 8) 4 = true then zs_b (f_Mo_thrown (b + 8) S14) fun S20 x21 => if x21 = x8 then if x8 = 0 then (zs_lal S20 (b + 17) 0 (0 : Int32)).bind fun x27 => if (lg_cmp x27 x15.toInt64) = 0 then N S20 else D S20 else N S20 else D S20 else none else none) = some (T, (1 : Int32)) := by
  obtain ⟨S1, k, S2, r, eW, is1, eM, is2, eT, eo, hS⟩ := h
  obtain ⟨T, hT⟩ := hN S2 hS
  refine ⟨T, ?_⟩
  rw [eW, zb_S, if_pos is1, eM, zb_S, if_pos is2, eT, zb_S, if_pos rfl]
  by_cases hk : k = 0
  · rw [if_pos hk, eo hk, Option.bind_some, if_pos ((lcmp0 _ _).mpr rfl)]; exact hT
  · rw [if_neg hk]; exact hT
theorem tlO {b K : Nat} {W : Option (zq_S × Int32)} {M : zq_S → Option (zq_S × Unit)} (h : PO b K W M) (N D : zq_S → Option (zq_S × Int32)) (hN : ∀ S2, SM b S2 K → ∃ T, N S2 = some (T, (1 : Int32))) : ∃ T, zs_b W (fun S7 x8 => if zs_is S7 (b + 8) 4 = true then zs_b (M S7) fun S14 _ => if zs_is S14 (b + 8) 4 = true then zs_b (f_Mo_thrown (b + 8) S14) fun S20 x21 => if x21 = x8 then N S20 else D S20 else none else none) = some (T, (1 : Int32)) := by
  obtain ⟨S1, k, S2, eW, is1, eM, is2, eT, hS⟩ := h
  obtain ⟨T, hT⟩ := hN S2 hS
  refine ⟨T, ?_⟩
  rw [eW, zb_S, if_pos is1, eM, zb_S, if_pos is2, eT, zb_S, if_pos rfl]; exact hT
theorem tlQ {b K : Nat} {W : Option (zq_S × Int32)} {M : zq_S → Option (zq_S × Int32)} (h : PQ b K W M) (N D : zq_S → Option (zq_S × Int32)) (hN : ∀ S2, SM b S2 K → ∃ T, N S2 = some (T, (1 : Int32))) : ∃ T, zs_b W (fun S7 x8 => if zs_is S7 (b + 8) 4 = true then zs_b (M S7) fun S14 x15 => if x8 = x15 then N S14 else D S14 else none) = some (T, (1 : Int32)) := by
  obtain ⟨S1, k, S2, eW, is1, eM, hS⟩ := h
  obtain ⟨T, hT⟩ := hN S2 hS
  refine ⟨T, ?_⟩
  rw [eW, zb_S, if_pos is1, eM, zb_S, if_pos rfl]; exact hT
theorem sld {xs : Nat → Int32} {L j : Nat} (hj : j < L) (hL : L ≤ 2560) : zl_sld xs L (nI j) = some (xs j) := by
  unfold zl_sld
  rw [if_neg (nI_in hj (by omega)), nI_clamp (by omega)]
set_option maxHeartbeats 4000000 in
set_option maxRecDepth 20000 in
theorem st_law {xs : Nat → Int32} {L b i : Nat} (hL : L ≤ 2560) (h5 : 5 * i + 5 ≤ L) {k23 : Option Nat → Option Nat → Option Nat → Int32 → zq_S → Option (zq_S × Int32)} (hN : ∀ S2, SM b S2 (i + 1) → ∃ T, k23 (some b) (some (b + 8)) (some (b + 17)) (nI (5 * i) + (5 : Int32)) S2 = some (T, (1 : Int32))) {S : zq_S} (h : SM b S i) : ∃ T, f_Law_law_23 xs L k23 (some b) (some (b + 8)) (some (b + 17)) (nI (5 * i)) S = some (T, (1 : Int32)) := by
  have hi5 : i ≤ 512 := by omega
  have s0 : zl_sld xs L (nI (5 * i)) = some (xs (5 * i)) := sld (by omega) hL
  have s1 : zl_sld xs L (nI (5 * i) + (1 : Int32)) = some (xs (5 * i + 1)) := by rw [nI_1]; exact sld (by omega) hL
  have s2 : zl_sld xs L (nI (5 * i) + (2 : Int32)) = some (xs (5 * i + 2)) := by rw [show (2 : Int32) = nI 2 from rfl, nI_add]; exact sld (by omega) hL
  have s3 : zl_sld xs L (nI (5 * i) + (3 : Int32)) = some (xs (5 * i + 3)) := by rw [show (3 : Int32) = nI 3 from rfl, nI_add]; exact sld (by omega) hL
  have s4 : zl_sld xs L (nI (5 * i) + (4 : Int32)) = some (xs (5 * i + 4)) := by rw [show (4 : Int32) = nI 4 from rfl, nI_add]; exact sld (by omega) hL
  have hlt : ¬ (nI L - (5 : Int32)) < nI (5 * i) := by
    rw [show (5 : Int32) = nI 5 from rfl, nI_sub (by omega), nI_ltI (by omega) (by omega)]; omega
  unfold f_Law_law_23
  rw [if_neg hlt, s0, Option.bind_some]
  by_cases c0 : xs (5 * i) &&& (15 : Int32) = 0
  · rw [if_pos c0]
    simp only [s1, s2, s3, s4, Option.bind_some]
    exact tlR (p_author h _) _ _ hN
  rw [if_neg c0]
  by_cases c1 : xs (5 * i) &&& (15 : Int32) = 1
  · rw [if_pos c1]
    rw [s1, Option.bind_some]
    unfold f_Law_law_187 f_Law_law_205
    by_cases hx : xs (5 * i + 1) = 0
    · simp only [s1, hx, Option.bind_some, if_true, SM_is h]
      exact tlQ (p_track h (v := 0) (by decide)) _ _ hN
    · simp only [s1, if_neg hx, Option.bind_some, if_true, SM_is h]
      exact tlQ (p_track h (v := 1) (by decide)) _ _ hN
  rw [if_neg c1]
  by_cases c2 : xs (5 * i) &&& (15 : Int32) = 2
  · rw [if_pos c2]
    simp only [s1, s2, s3, s4, Option.bind_some]
    exact tlR (p_insert h hi5 _ _ _) _ _ hN
  rw [if_neg c2]
  by_cases c3 : xs (5 * i) &&& (15 : Int32) = 3
  · rw [if_pos c3]
    simp only [s1, s2, s3, s4, Option.bind_some]
    exact tlR (p_erase h hi5 _ _) _ _ hN
  rw [if_neg c3]
  by_cases c4 : xs (5 * i) &&& (15 : Int32) = 4
  · rw [if_pos c4]
    simp only [s1, s2, s3, s4, Option.bind_some]
    exact tlR (p_format h hi5 _ _ _) _ _ hN
  rw [if_neg c4]
  by_cases c5 : xs (5 * i) &&& (15 : Int32) = 5
  · rw [if_pos c5]
    simp only [s1, s2, s3, s4, Option.bind_some]
    exact tlR (p_accept h hi5 _ _ _) _ _ hN
  rw [if_neg c5]
  by_cases c6 : xs (5 * i) &&& (15 : Int32) = 6
  · rw [if_pos c6]
    simp only [s1, s2, s3, s4, Option.bind_some]
    exact tlR (p_reject h hi5 _ _ _) _ _ hN
  rw [if_neg c6]
  by_cases c7 : xs (5 * i) &&& (15 : Int32) = 7
  · rw [if_pos c7]
    simp only [Option.bind_some]
    exact tlO (p_open h) _ _ hN
  rw [if_neg c7]
  by_cases c8 : xs (5 * i) &&& (15 : Int32) = 8
  · rw [if_pos c8]
    simp only [Option.bind_some]
    exact tlR (p_close h hi5) _ _ hN
  rw [if_neg c8]
  by_cases c9 : xs (5 * i) &&& (15 : Int32) = 9
  · rw [if_pos c9]
    simp only [Option.bind_some]
    exact tlR (p_undo h) _ _ hN
  rw [if_neg c9]
  by_cases c10 : xs (5 * i) &&& (15 : Int32) = 10
  · rw [if_pos c10]
    simp only [Option.bind_some]
    exact tlR (p_redo h) _ _ hN
  rw [if_neg c10]
  by_cases c11 : xs (5 * i) &&& (15 : Int32) = 11
  · rw [if_pos c11]
    simp only [s1, s2, s3, s4, Option.bind_some, if_true, SM_is h]
    exact tlQ (p_length h _) _ _ hN
  rw [if_neg c11]
  by_cases c12 : xs (5 * i) &&& (15 : Int32) = 12
  · rw [if_pos c12]
    simp only [s1, s2, s3, s4, Option.bind_some]
    exact tlR (p_seen h _ _ _) _ _ hN
  rw [if_neg c12]
  by_cases c13 : xs (5 * i) &&& (15 : Int32) = 13
  · rw [if_pos c13]
    simp only [s1, s2, s3, s4, Option.bind_some]
    exact tlR (p_mark h _ _) _ _ hN
  rw [if_neg c13]
  by_cases c14 : xs (5 * i) &&& (15 : Int32) = 14
  · rw [if_pos c14]
    simp only [s1, s2, s3, s4, Option.bind_some]
    exact tlR (p_next h _ _) _ _ hN
  rw [if_neg c14]
  by_cases c15 : xs (5 * i) &&& (15 : Int32) = 15
  · rw [if_pos c15]
    simp only [s1, s2, s3, s4, Option.bind_some, if_true, SM_is h]
    exact tlQ (p_count h _) _ _ hN
  rw [if_neg c15]
  exact hN S (SM_up h)
theorem l_law {xs : Nat → Int32} {L b : Nat} (hL : L ≤ 2560) : ∀ (k fuel i : Nat) (S : zq_S), k < fuel → L / 5 = i + k → SM b S i → ∃ T, g_Law_law_23 xs L fuel (some b) (some (b + 8)) (some (b + 17)) (nI (5 * i)) S = some (T, (1 : Int32)) := by
  intro k
  induction k with
  | zero =>
    intro fuel i S hf hi h
    obtain ⟨f, rfl⟩ : ∃ f, fuel = f + 1 := ⟨fuel - 1, by omega⟩
    have hlt : (nI L - (5 : Int32)) < nI (5 * i) := by
      by_cases h5 : 5 ≤ L
      · rw [show (5 : Int32) = nI 5 from rfl, nI_sub h5]
        exact nI_lt (by omega) (by omega)
      · have h0 : i = 0 := by omega
        subst h0
        have : L = 0 ∨ L = 1 ∨ L = 2 ∨ L = 3 ∨ L = 4 := by omega
        rcases this with e | e | e | e | e <;> subst e <;> decide
    refine ⟨S, ?_⟩
    show f_Law_law_23 xs L (g_Law_law_23 xs L f) (some b) (some (b + 8)) (some (b + 17)) (nI (5 * i)) S = _
    unfold f_Law_law_23
    rw [if_pos hlt, if_pos (Or.inr rfl)]
  | succ k ih =>
    intro fuel i S hf hi h
    obtain ⟨f, rfl⟩ : ∃ f, fuel = f + 1 := ⟨fuel - 1, by omega⟩
    show ∃ T, f_Law_law_23 xs L (g_Law_law_23 xs L f) (some b) (some (b + 8)) (some (b + 17)) (nI (5 * i)) S = _
    refine st_law hL (by omega) (fun S2 h2 => ?_) h
    rw [show (5 : Int32) = nI 5 from rfl, nI_add, show 5 * i + 5 = 5 * (i + 1) by omega]
    exact ih f (i + 1) S2 (by omega) (by omega) h2
theorem law_go (xs : Nat → Int32) {L : Nat} (hL : L ≤ 2560) (n : Nat) : ∃ T, f_Law_law xs L (fun _ => none, n, 0) = some (T, 1) := by
  obtain ⟨S6, e6, c0, c1, c2, c3, t4, t6, q6, z6⟩ := C_new (fun _ => none, n, 0)
  have hn : ((fun _ => none, n, 0) : zq_S).2.1 = n := rfl
  rw [hn] at e6 c0 c1 c2 c3 t4 t6 q6 z6
  obtain ⟨S13, e13, m13, q13, z13⟩ := M_new S6
  rw [z6] at e13 m13 q13 z13
  have n17 : S13.2.1 = n + 17 := z13
  have hq : ∀ q, q ≠ n + 17 → (zq_n S13 (.inl (0, 1, .inr (.inl (fun _ => 0))))).1 q = S13.1 q := fun q h => n_ne S13 _ (by omega)
  have hat : (zq_n S13 (.inl (0, 1, .inr (.inl (fun _ => 0))))).1 (n + 17) = some (.inl (0, 1, .inr (.inl (fun _ => 0)))) := by rw [← n17]; exact n_at S13 _
  have hz : (zq_n S13 (.inl (0, 1, .inr (.inl (fun _ => 0))))).2.1 = n + 18 := by show S13.2.1 + 1 = _; omega
  have hlo : ∀ q, q < n + 8 → (zq_n S13 (.inl (0, 1, .inr (.inl (fun _ => 0))))).1 q = S6.1 q := fun q h => (hq q (by omega)).trans (q13 q (by omega))
  have hSM : SM n (zq_n S13 (.inl (0, 1, .inr (.inl (fun _ => 0))))) 0 := by
    refine SM_start ((hlo _ (by omega)).trans c0) ((hlo _ (by omega)).trans c1) ((hlo _ (by omega)).trans c2) ((hlo _ (by omega)).trans c3) (TX_eq t4 (hlo _ (by omega)) (hlo _ (by omega))) (TX_eq t6 (hlo _ (by omega)) (hlo _ (by omega))) (fun q h1 h2 => (hq q (by omega)).trans (m13 q h1 h2)) ⟨_, hat⟩ ⟨fun q h => ?_, by omega⟩
    rw [hz] at h
    rw [hq q (by omega), q13 q (by omega), q6 q (by omega)]
  unfold f_Law_law
  rw [hn, e6, zb_S, z6, e13, zb_S, n17]
  obtain ⟨T, hT⟩ := l_law (xs := xs) hL (L / 5) zq_FL 0 _ (by unfold zq_FL; omega) (by omega) hSM
  exact ⟨T, hT⟩
