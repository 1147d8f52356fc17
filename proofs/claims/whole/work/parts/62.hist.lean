/-! the class's history -/
section HS
variable {b : Nat} {S : zq_S} {au tr op bg d u : Nat} {G : Nat → Option Nat} {X : Nat → Nat} {LX : Nat → List Int64} {ge gw : Nat → Nat}
theorem FX_d (h : RC b S au tr op bg d u G X LX ge gw) : zs_gi S (b + 1) 2 1 = some (nI d) := z_gi h.1.2.1 rfl
theorem FX_u (h : RC b S au tr op bg d u G X LX ge gw) : zs_gi S (b + 1) 2 2 = some (nI u) := z_gi h.1.2.1 rfl
theorem FX_op (h : RC b S au tr op bg d u G X LX ge gw) : zs_gi S (b + 1) 2 3 = some (nI op) := z_gi h.1.2.1 rfl
theorem FX_bg (h : RC b S au tr op bg d u G X LX ge gw) : zs_gi S (b + 1) 2 4 = some (nI bg) := z_gi h.1.2.1 rfl
theorem FX_ga (h : RC b S au tr op bg d u G X LX ge gw) : zs_gr S (b + 1) 2 0 = some (some (b + 2)) := z_gr h.1.2.1 rfl
theorem FX_ish (h : RC b S au tr op bg d u G X LX ge gw) : zs_is S (b + 1) 2 = true := z_is h.1.2.1
theorem FX_isc (h : RC b S au tr op bg d u G X LX ge gw) : zs_is S b 3 = true := z_is h.1.1
theorem FX_41 (h : RC b S au tr op bg d u G X LX ge gw) : zs_len S (b + 2) 1 = some (nI 41) := z_len h.1.2.2.1
theorem FX_G (h : RC b S au tr op bg d u G X LX ge gw) {i : Nat} (hi : i < 41) : zs_aal S (b + 2) 1 (nI i) = some (G i) := z_aal h.1.2.2.1 hi (by decide)
theorem FX_h (h : RC b S au tr op bg d u G X LX ge gw) : zs_gr S b 3 0 = some (some (b + 1)) := z_gr h.1.1 rfl
theorem FX_mf (h : RC b S au tr op bg d u G X LX ge gw) : zs_gr S b 3 1 = some (some (b + 3)) := z_gr h.1.1 rfl
theorem FX_tx (h : RC b S au tr op bg d u G X LX ge gw) : zs_gr S b 3 2 = some (some (X 0)) := z_gr h.1.1 rfl
theorem FX_td (h : RC b S au tr op bg d u G X LX ge gw) : zs_gr S b 3 3 = some (some (X 1)) := z_gr h.1.1 rfl
theorem FX_au (h : RC b S au tr op bg d u G X LX ge gw) : zs_gi S b 3 4 = some (nI au) := z_gi h.1.1 rfl
theorem FX_tr (h : RC b S au tr op bg d u G X LX ge gw) : zs_gi S b 3 5 = some (nI tr) := z_gi h.1.1 rfl
theorem gbm_ix (hd : d ≤ 40) : (if (nI 41 - (1 : Int32)) < (if nI d < (0 : Int32) then (0 : Int32) else nI d) then (nI 41 - (1 : Int32)) else (if nI d < (0 : Int32) then (0 : Int32) else nI d)) = nI d := by
  rw [if_neg (nI_pos (show d < 2 ^ 31 by omega)), nI_s1 (by decide), if_neg (nI_nlt (by omega) (by decide))]
theorem act_up {G : Nat → Option Nat} {d p : Nat} {k : Nat} (h : act (va_up G d (some p)) k) (hk : k ≠ d + 2) : act G k := by
  rcases h with h | h | ⟨i, hi, h, hg⟩
  · exact Or.inl h
  · exact Or.inr (Or.inl h)
  · rw [va_up_ne _ _ (by omega)] at hg
    exact Or.inr (Or.inr ⟨i, hi, h, hg⟩)
theorem h_gbm (h : RC b S au tr op bg d u G X LX ge gw) (hd : d ≤ 40) : ∃ (S' : zq_S) (g : Nat) (G' : Nat → Option Nat) (X' : Nat → Nat) (LX' : Nat → List Int64) (ge' gw' : Nat → Nat), f_Hist_groupBeingMade (b + 1) S = some (S', some g) ∧ RC b S' au tr op bg d u G' X' LX' ge' gw' ∧ KR b S S' ∧ G' d = some g ∧ (∀ i, i ≠ d → G' i = G i ∧ ge' i = ge i ∧ gw' i = gw i) ∧ (∀ k, k ≠ d + 2 → X' k = X k ∧ LX' k = LX k) ∧ (G d ≠ none → LX' (d + 2) = LX (d + 2) ∧ ge' d = ge d ∧ gw' d = gw d) := by
  have hix := gbm_ix hd
  have hop : f_Hist_groupBeingMade (b + 1) S = if G d = none then (zs_b (f_Group_init (S.2.1) (zq_n S (.inr (1, [.null, .int 0, .int 0])))) fun S22 _ => (zs_aas S22 (b + 2) 1 1 (nI d) (some (S.2.1))).bind fun S26 => f_Hist_groupBeingMade_41 (b + 1) (nI d) S26) else some (S, G d) := by
    unfold f_Hist_groupBeingMade
    simp only [FX_d h, FX_ga h, FX_41 h, Option.bind_some, hix, FX_G h (show d < 41 by omega)]
    unfold f_Hist_groupBeingMade_41
    simp only [FX_ga h, Option.bind_some, FX_G h (show d < 41 by omega)]
  rw [hop]
  cases hgd : G d with
  | some g =>
    rw [if_neg (by simp)]
    exact ⟨S, g, G, X, LX, ge, gw, rfl, h, KR_r b S, hgd, fun i _ => ⟨rfl, rfl, rfl⟩, fun k _ => ⟨rfl, rfl⟩, fun _ => ⟨rfl, rfl, rfl⟩⟩
  | none =>
    rw [if_pos rfl]
    obtain ⟨S1, e1, g1, t1, q1, s1⟩ := G_new S
    obtain ⟨⟨f0, f1, f2, mf, f3⟩, ⟨a1, a2, a3, a4⟩, hF⟩ := h
    have hp := hF.2
    have k1 : S1.1 (b + 1) = S.1 (b + 1) := q1 _ (by omega) (by omega) (by omega)
    have k2 : S1.1 (b + 2) = S.1 (b + 2) := q1 _ (by omega) (by omega) (by omega)
    have e2 := z_aas (ci := 1) (k2.trans f2) (show d < 41 by omega) (by decide) (v := some S.2.1) (z_is g1)
    refine ⟨zq_u S1 (b + 2) (.inl (1, 41, .inr (.inr (.inr (.inr (va_up G d (some S.2.1))))))), S.2.1, va_up G d (some S.2.1), va_up X (d + 2) (S.2.1 + 1), va_up LX (d + 2) [], va_up ge d 0, va_up gw d 0, ?_, ⟨⟨?_, ?_, u_at _ _ _, mf, ?_⟩, ⟨fun k hk => ?_, fun k k' hk hk' e => ?_, fun i g hi hg => ?_, fun i j g hi hj hg hg' => ?_⟩, ⟨fun q hq => ?_, ?_⟩⟩, fun q c1 c2 => ?_, va_up_self _ _ _, fun i hi => ⟨va_up_ne _ _ hi, va_up_ne _ _ hi, va_up_ne _ _ hi⟩, fun k hk => ⟨va_up_ne _ _ hk, va_up_ne _ _ hk⟩, fun hn => absurd rfl hn⟩
    · rw [e1, zb_S, e2, Option.bind_some]
      unfold f_Hist_groupBeingMade_41
      have k3 : (zq_u S1 (b + 2) (.inl (1, 41, .inr (.inr (.inr (.inr (va_up G d (some S.2.1)))))))).1 (b + 1) = some (.inr (2, [.ref (b + 2), .int (nI d), .int (nI u), .int (nI op), .int (nI bg)])) := (u_ne _ _ (by omega)).trans (k1.trans f1)
      rw [z_gr k3 rfl, Option.bind_some, Option.bind_some, z_aal (u_at _ _ _) (show d < 41 by omega) (by decide), Option.bind_some, va_up_self]
    · rw [u_ne _ _ (by omega), q1 _ (by omega) (by omega) (by omega), f0, va_up_ne _ _ (by omega), va_up_ne _ _ (by omega)]
    · exact (u_ne _ _ (by omega)).trans (k1.trans f1)
    · exact (u_ne _ _ (by omega)).trans ((q1 _ (by omega) (by omega) (by omega)).trans f3)
    · by_cases hkd : k = d + 2
      · subst hkd
        rw [va_up_self, va_up_self]
        exact ⟨TX_eq t1 (u_ne _ _ (by omega)) (u_ne _ _ (by omega)), Or.inr (by omega)⟩
      · rw [va_up_ne _ _ hkd, va_up_ne _ _ hkd]
        obtain ⟨t, c⟩ := a1 k (act_up hk hkd)
        have t' := t
        have hc := (CR_ne c).1
        obtain ⟨f, t1, t2, _⟩ := t
        have l1 := FRE_lt hF t1
        have l2 := FRE_lt hF t2
        exact ⟨TX_eq t' ((u_ne _ _ (by omega)).trans (q1 _ (by omega) (by omega) (by omega))) ((u_ne _ _ (by omega)).trans (q1 _ (by omega) (by omega) (by omega))), c⟩
    · have hlt : ∀ k, act (va_up G d (some S.2.1)) k → k ≠ d + 2 → X k < S.2.1 := by
        intro k hk hkd
        obtain ⟨⟨f, t1, _⟩, _⟩ := a1 k (act_up hk hkd)
        exact FRE_lt hF t1
      by_cases hkd : k = d + 2
      · by_cases hkd' : k' = d + 2
        · rw [hkd, hkd']
        · rw [hkd, va_up_self, va_up_ne _ _ hkd'] at e
          have := hlt k' hk' hkd'; omega
      · by_cases hkd' : k' = d + 2
        · rw [hkd', va_up_self, va_up_ne _ _ hkd] at e
          have := hlt k hk hkd; omega
        · rw [va_up_ne _ _ hkd, va_up_ne _ _ hkd'] at e
          exact a2 k k' (act_up hk hkd) (act_up hk' hkd') e
    · by_cases hid : i = d
      · subst hid
        rw [va_up_self] at hg
        cases hg
        rw [va_up_self, va_up_self, va_up_self]
        exact ⟨(u_ne _ _ (by omega)).trans g1, by omega⟩
      · rw [va_up_ne _ _ hid] at hg
        rw [va_up_ne _ _ hid, va_up_ne _ _ hid, va_up_ne _ _ (show i + 2 ≠ d + 2 by omega)]
        obtain ⟨cg, hb⟩ := a3 i g hi hg
        have l1 := FRE_lt hF cg
        exact ⟨(u_ne _ _ (by omega)).trans ((q1 _ (by omega) (by omega) (by omega)).trans cg), hb⟩
    · have hgl : ∀ i, i < 41 → ∀ g, G i = some g → g < S.2.1 := fun i hi g hg => FRE_lt hF (a3 i g hi hg).1
      by_cases hid : i = d
      · by_cases hjd : j = d
        · rw [hid, hjd]
        · rw [hid, va_up_self] at hg
          rw [va_up_ne _ _ hjd] at hg'
          cases hg
          have := hgl j hj _ hg'; omega
      · by_cases hjd : j = d
        · rw [hjd, va_up_self] at hg'
          rw [va_up_ne _ _ hid] at hg
          cases hg'
          have := hgl i hi _ hg; omega
        · rw [va_up_ne _ _ hid] at hg
          rw [va_up_ne _ _ hjd] at hg'
          exact a4 i j g hi hj hg hg'
    · have hq' : S.2.1 + 3 ≤ q := by rw [← s1]; exact hq
      rw [u_ne _ _ (by omega), q1 _ (by omega) (by omega) (by omega)]
      exact hF.1 q (by omega)
    · show b + 18 ≤ S1.2.1
      omega
    · rw [u_ne _ _ (by omega), q1 _ (by omega) (by omega) (by omega)]
theorem RC_TX (h : RC b S au tr op bg d u G X LX ge gw) {k : Nat} (hk : act G k) : TX S (X k) (LX k) := (h.2.1.1 k hk).1
theorem RC_ne (h : RC b S au tr op bg d u G X LX ge gw) {k k' : Nat} (hk : act G k) (hk' : act G k') (hne : k ≠ k') : X k ≠ X k' := fun e => hne (h.2.1.2.1 k k' hk hk' e)
theorem RC_g (h : RC b S au tr op bg d u G X LX ge gw) {i g : Nat} (hi : i < 41) (hg : G i = some g) : S.1 g = some (.inr (1, [.ref (X (i + 2)), .int (nI (ge i)), .int (nI (gw i))])) := (h.2.1.2.2.1 i g hi hg).1
theorem TX_600 {S : zq_S} {t : Nat} {l : List Int64} (h : TX S t l) : l.length ≤ 600 := by obtain ⟨f, _, _, h3, _⟩ := h; exact h3
theorem h_restart (h : RC b S au tr op bg d u G X LX ge gw) {i g : Nat} (hi : i < 41) (hg : G i = some g) : ∃ S', f_Group_restart g (some (X 0)) S = some (S', ()) ∧ RC b S' au tr op bg d u G X (va_up LX (i + 2) (LX 0)) (va_up ge i 0) (va_up gw i 0) ∧ KR b S S' := by
  have hai : act G (i + 2) := actg hi (by rw [hg]; simp)
  have hT := RC_TX h hai
  have h6 := TX_600 (RC_TX h (act0 G))
  obtain ⟨S1, e1, t1, f1⟩ := TX_clear hT
  obtain ⟨r1, kr1⟩ := RC_fr h hai f1 t1
  have hT0 := RC_TX r1 (act0 G)
  rw [va_up_ne _ _ (by omega)] at hT0
  obtain ⟨S2, e2, t2, f2⟩ := TX_part hT0 t1 (RC_ne h (act0 G) hai (by omega)) (p := 0) (e := (LX 0).length) (Nat.zero_le _) (Nat.le_refl _) (by simp; omega)
  have hl : ([] : List Int64) ++ ((LX 0).drop 0).take ((LX 0).length - 0) = LX 0 := by simp
  rw [hl] at t2
  obtain ⟨r2, kr2⟩ := RC_fr r1 hai f2 t2
  rw [va_uu] at r2
  obtain ⟨r3, kr3⟩ := RC_grp r2 hi hg 0 (gw i)
  obtain ⟨r4, kr4⟩ := RC_grp r3 hi hg 0 0
  rw [va_uu, va_uu] at r4
  refine ⟨_, ?_, r4, KR_t kr1 (KR_t kr2 (KR_t kr3 kr4))⟩
  unfold f_Group_restart
  rw [z_gr (RC_g h hi hg) rfl]
  simp only [Option.bind_some]
  rw [if_pos (TX_is hT), e1, zb_S, z_gr (RC_g r1 hi hg) rfl]
  simp only [Option.bind_some]
  rw [TX_sz hT0]
  simp only [Option.bind_some]
  rw [if_pos (TX_is t1), ← nI_0, e2, zb_S, z_p (RC_g r2 hi hg) (by simp)]
  simp only [Option.bind_some]
  have c3 := RC_g r3 hi hg
  rw [show (zq_u S2 g (.inr (1, [Value.ref (X (i + 2)), Value.int (nI (ge i)), Value.int (nI (gw i))].set 1 (Value.int (nI 0))))) = zq_u S2 g (.inr (1, [Value.ref (X (i + 2)), Value.int (nI 0), Value.int (nI (gw i))])) from rfl, z_p c3 (by simp), Option.bind_some, va_up_self, va_up_self]
  rfl
theorem h_rec27 (h : RC b S au tr op bg d u G X LX ge gw) {i g : Nat} (hi : i < 41) (hg : G i = some g) (w : Nat) : ∃ S', f_Hist_recordEdit_27 (nI w) (some g) S = some (S', ()) ∧ RC b S' au tr op bg d u G X LX (va_up ge i (ge i + 1)) (va_up gw i (gw i + w)) ∧ KR b S S' := by
  obtain ⟨r3, kr3⟩ := RC_grp h hi hg (ge i + 1) (gw i)
  obtain ⟨r4, kr4⟩ := RC_grp r3 hi hg (ge i + 1) (gw i + w)
  rw [va_uu, va_uu] at r4
  refine ⟨_, ?_, r4, KR_t kr3 kr4⟩
  have c3 := RC_g r3 hi hg
  unfold f_Hist_recordEdit_27
  rw [Option.bind_some, z_gi (RC_g h hi hg) rfl, Option.bind_some, z_p (RC_g h hi hg) (by simp), Option.bind_some, nI_1]
  rw [show (zq_u S g (.inr (1, [Value.ref (X (i + 2)), Value.int (nI (ge i)), Value.int (nI (gw i))].set 1 (Value.int (nI (ge i + 1)))))) = zq_u S g (.inr (1, [Value.ref (X (i + 2)), Value.int (nI (ge i + 1)), Value.int (nI (gw i))])) from rfl]
  rw [z_gi c3 rfl, Option.bind_some, z_p c3 (by simp), Option.bind_some, va_up_self, va_up_self, nI_add]
  rfl
theorem h_rec (h : RC b S au tr op bg d u G X LX ge gw) (hd : d ≤ 40) (hbg : bg < 2) (w : Nat) : ∃ (S' : zq_S) (G' : Nat → Option Nat) (X' : Nat → Nat) (LX' : Nat → List Int64) (ge' gw' : Nat → Nat), f_Hist_recordEdit (b + 1) (some (X 0)) (nI w) S = some (S', ()) ∧ RC b S' au tr op 1 d 0 G' X' LX' ge' gw' ∧ KR b S S' ∧ G' d ≠ none ∧ (∀ i, i ≠ d → G' i = G i ∧ ge' i = ge i ∧ gw' i = gw i) ∧ (∀ k, k ≠ d + 2 → X' k = X k ∧ LX' k = LX k) ∧ (bg = 0 → LX' (d + 2) = LX 0 ∧ ge' d = 1 ∧ gw' d = w) ∧ (bg = 1 → G d ≠ none → LX' (d + 2) = LX (d + 2) ∧ ge' d = ge d + 1 ∧ gw' d = gw d + w) := by
  have r0 := RC_hist h d 0 op bg
  obtain ⟨S1, g, G1, X1, L1, ge1, gw1, e1, r1, kr1, hg1, p1, p2, p3⟩ := h_gbm r0 hd
  have hop : f_Hist_recordEdit (b + 1) (some (X 0)) (nI w) S = if nI bg = 0 then (zs_b (f_Group_restart g (some (X 0)) S1) fun S14 _ => (zs_pz S14 (b + 1) 2 4 (1 : Int32)).bind fun S19 => f_Hist_recordEdit_27 (nI w) (some g) S19) else f_Hist_recordEdit_27 (nI w) (some g) S1 := by
    unfold f_Hist_recordEdit
    rw [z_p h.1.2.1 (by simp), Option.bind_some]
    rw [show (zq_u S (b + 1) (.inr (2, [Value.ref (b + 2), Value.int (nI d), Value.int (nI u), Value.int (nI op), Value.int (nI bg)].set 2 (Value.int 0)))) = zq_u S (b + 1) (.inr (2, [Value.ref (b + 2), Value.int (nI d), Value.int (nI 0), Value.int (nI op), Value.int (nI bg)])) from rfl]
    rw [if_pos (FX_ish r0), e1, zb_S, FX_bg r1, Option.bind_some, Option.bind_some, if_pos (z_is (RC_g r1 (show d < 41 by omega) hg1))]
  have hx0 : X1 0 = X 0 := (p2 0 (by omega)).1
  have hl0 : L1 0 = LX 0 := (p2 0 (by omega)).2
  have kr0 : KR b S (zq_u S (b + 1) (.inr (2, [.ref (b + 2), .int (nI d), .int (nI 0), .int (nI op), .int (nI bg)]))) := KR_u (Or.inl (by omega))
  rw [hop]
  by_cases hb0 : bg = 0
  · subst hb0
    rw [if_pos nI_0]
    obtain ⟨S2, e2, r2, kr2⟩ := h_restart r1 (show d < 41 by omega) hg1
    have r3 := RC_hist r2 d 0 op 1
    obtain ⟨S4, e4, r4, kr4⟩ := h_rec27 r3 (show d < 41 by omega) hg1 w
    rw [hx0] at e2
    refine ⟨S4, G1, X1, _, _, _, ?_, r4, KR_t kr0 (KR_t kr1 (KR_t kr2 (KR_t (KR_u (Or.inl (by omega))) kr4))), by rw [hg1]; simp, fun i hi => ?_, fun k hk => ?_, fun _ => ?_, fun hb => absurd hb (by decide)⟩
    · rw [e2, zb_S, z_pz r2.1.2.1 (by simp) (Or.inr rfl), Option.bind_some]
      exact e4
    · rw [va_up_ne _ _ hi, va_up_ne _ _ hi, va_up_ne _ _ hi, va_up_ne _ _ hi]; exact p1 i hi
    · rw [va_up_ne _ _ hk]; exact p2 k hk
    · rw [va_up_self, va_up_self, va_up_self, va_up_self, va_up_self, hl0]
      exact ⟨rfl, rfl, by omega⟩
  · have hb1 : bg = 1 := by omega
    subst hb1
    rw [if_neg (by decide)]
    obtain ⟨S4, e4, r4, kr4⟩ := h_rec27 r1 (show d < 41 by omega) hg1 w
    refine ⟨S4, G1, X1, _, _, _, e4, r4, KR_t kr0 (KR_t kr1 kr4), by rw [hg1]; simp, fun i hi => ?_, fun k hk => p2 k hk, fun hb => absurd hb (by decide), fun _ hn => ?_⟩
    · rw [va_up_ne _ _ hi, va_up_ne _ _ hi]; exact p1 i hi
    · rw [va_up_self, va_up_self, (p3 hn).2.1, (p3 hn).2.2]
      exact ⟨(p3 hn).1, rfl, rfl⟩
theorem l_wb (h : RC b S au tr op bg d u G X LX ge gw) {to : Nat} (h41 : to ≤ 41) : ∀ k fuel i acc, i + k = to → k < fuel → (∀ j, i ≤ j → j < to → G j ≠ none) → g_Hist_weightBetween_9 fuel (b + 1) (nI to) (nI acc) (nI i) S = some (S, nI (acc + sm gw i k)) := by
  intro k
  induction k with
  | zero =>
    intro fuel i acc hi hf hG
    obtain ⟨fuel, rfl⟩ : ∃ m, fuel = m + 1 := ⟨fuel - 1, by omega⟩
    show f_Hist_weightBetween_9 _ _ _ _ _ _ = _
    unfold f_Hist_weightBetween_9 f_Hist_weightBetween_54
    rw [if_pos (nI_le (by omega) (by omega))]; rfl
  | succ k ih =>
    intro fuel i acc hi hf hG
    obtain ⟨fuel, rfl⟩ : ∃ m, fuel = m + 1 := ⟨fuel - 1, by omega⟩
    obtain ⟨g, hg⟩ : ∃ g, G i = some g := by
      cases hgi : G i with
      | none => exact absurd hgi (hG i (by omega) (by omega))
      | some g => exact ⟨g, rfl⟩
    show f_Hist_weightBetween_9 _ _ _ _ _ _ = _
    unfold f_Hist_weightBetween_9 f_Hist_weightBetween_48
    rw [if_neg (nI_ge (by omega) (by omega))]
    simp only [FX_ga h, FX_41 h, Option.bind_some]
    rw [if_neg (nI_ge (by omega) (by decide)), FX_G h (show i < 41 by omega), hg]
    simp only [Option.bind_some]
    rw [if_neg (by simp), z_gi (RC_g h (show i < 41 by omega) hg) rfl, Option.bind_some, nI_add, nI_1, ih fuel (i + 1) _ (by omega) (by omega) (fun j h1 h2 => hG j (by omega) h2)]
    show _ = some (S, nI (acc + (gw i + sm gw (i + 1) k)))
    rw [Nat.add_assoc]
theorem h_wb (h : RC b S au tr op bg d u G X LX ge gw) {fr to : Nat} (hft : fr ≤ to) (h41 : to ≤ 41) (hG : ∀ j, fr ≤ j → j < to → G j ≠ none) : f_Hist_weightBetween (b + 1) (nI fr) (nI to) S = some (S, nI (sm gw fr (to - fr))) := by
  unfold f_Hist_weightBetween
  rw [if_neg (nI_pos (show fr < 2 ^ 31 by omega)), ← nI_0, l_wb h h41 (to - fr) zq_F fr 0 (by omega) (zF_lt (by omega)) hG, Nat.zero_add]
theorem h_tm (h : RC b S au tr op bg d u G X LX ge gw) (h41 : d ≤ 41) (hG : ∀ j, j < d → G j ≠ none) (hb : sm gw 0 d < 2 ^ 31) : f_Hist_isTooMuch (b + 1) S = some (S, if 40 < d ∨ 3000 < sm gw 0 d then 1 else 0) := by
  unfold f_Hist_isTooMuch f_Hist_isTooMuch_19 f_Hist_isTooMuch_24 f_Hist_weightOfDone
  have e := h_wb h (Nat.zero_le d) h41 (fun j _ hj => hG j hj)
  rw [nI_0, Nat.sub_zero] at e
  simp only [FX_d h, FX_ish h, Option.bind_some, if_true, e, zb_S]
  by_cases h40 : 40 < d
  · rw [if_pos (show (40 : Int32) < nI d from nI_lt (a := 40) h40 (by omega)), if_pos (Or.inl h40), if_pos (Or.inr trivial)]
  · rw [if_neg (show ¬ (40 : Int32) < nI d from nI_nlt (a := 40) (b := d) (by omega) (by decide))]
    by_cases h30 : 3000 < sm gw 0 d
    · rw [if_neg (show ¬ nI (sm gw 0 d) ≤ (3000 : Int32) from nI_ge (a := 3000) h30 hb), if_pos (Or.inr h30), if_pos (Or.inr trivial)]
    · rw [if_pos (show nI (sm gw 0 d) ≤ (3000 : Int32) from nI_le (b := 3000) (Nat.not_lt.mp h30) (by decide)), if_neg (show ¬ (40 < d ∨ 3000 < sm gw 0 d) by omega), if_pos (Or.inl trivial)]
def pm (d i : Nat) : Nat := if i + 1 < d then i + 1 else if i + 1 = d then 0 else i
theorem pm_inj {d i j : Nat} (h : pm d i = pm d j) : i = j := by
  unfold pm at h
  split at h
  · split at h
    · omega
    · split at h <;> omega
  · split at h
    · split at h
      · omega
      · split at h <;> omega
    · split at h
      · omega
      · split at h <;> omega
theorem pm_41 {d i : Nat} (hd : d ≤ 41) (hi : i < 41) : pm d i < 41 := by
  unfold pm
  split
  · omega
  · split <;> omega
theorem l_fe {b d u op bg : Nat} (h41 : d ≤ 41) (v1 : Option Nat) : ∀ (k fuel i : Nat) (S : zq_S) (G1 : Nat → Option Nat), i + k = d → 1 ≤ i → k < fuel → S.1 (b + 1) = some (.inr (2, [.ref (b + 2), .int (nI d), .int (nI u), .int (nI op), .int (nI bg)])) → S.1 (b + 2) = some (.inl (1, 41, .inr (.inr (.inr (.inr G1))))) → (∀ j, j < 41 → zs_ok S 1 (G1 j) = true) → ∃ (S' : zq_S) (G2 : Nat → Option Nat), g_Hist_forgetEarliest_9 fuel (b + 1) v1 (nI i) S = f_Hist_forgetEarliest_46 (b + 1) v1 S' ∧ S'.1 (b + 2) = some (.inl (1, 41, .inr (.inr (.inr (.inr G2))))) ∧ (∀ q, q ≠ b + 2 → S'.1 q = S.1 q) ∧ S'.2.1 = S.2.1 ∧ (∀ j, j + 1 < i → G2 j = G1 j) ∧ (∀ j, i ≤ j + 1 → j + 1 < d → G2 j = G1 (j + 1)) ∧ ∀ j, d ≤ j + 1 → G2 j = G1 j := by
  intro k
  induction k with
  | zero =>
    intro fuel i S G1 hi h1 hf f1 f2 hok
    obtain ⟨fuel, rfl⟩ : ∃ m, fuel = m + 1 := ⟨fuel - 1, by omega⟩
    refine ⟨S, G1, ?_, f2, fun _ _ => rfl, rfl, fun _ _ => rfl, fun j a c => absurd c (by omega), fun _ _ => rfl⟩
    show f_Hist_forgetEarliest_9 _ _ _ _ _ = _
    unfold f_Hist_forgetEarliest_9
    rw [z_gi f1 rfl, Option.bind_some, if_pos (nI_le (by omega) (by omega))]
  | succ k ih =>
    intro fuel i S G1 hi h1 hf f1 f2 hok
    obtain ⟨fuel, rfl⟩ : ∃ m, fuel = m + 1 := ⟨fuel - 1, by omega⟩
    have e2 := z_aas (ci := 1) f2 (show i - 1 < 41 by omega) (by decide) (v := G1 i) (hok i (by omega))
    have hok' : ∀ j, j < 41 → zs_ok (zq_u S (b + 2) (.inl (1, 41, .inr (.inr (.inr (.inr (va_up G1 (i - 1) (G1 i)))))))) 1 (va_up G1 (i - 1) (G1 i) j) = true := by
      have hsame : ∀ o : Option Nat, zs_ok S 1 o = true → zs_ok (zq_u S (b + 2) (.inl (1, 41, .inr (.inr (.inr (.inr (va_up G1 (i - 1) (G1 i)))))))) 1 o = true := by
        intro o ho
        cases o with
        | none => rfl
        | some g =>
          obtain ⟨fs, hfs⟩ := zs_isS ho
          exact z_is ((u_ne _ _ (cell_ne hfs f2 (by simp))).trans hfs)
      intro j hj
      by_cases hji : j = i - 1
      · rw [hji, va_up_self]; exact hsame _ (hok i (by omega))
      · rw [va_up_ne _ _ hji]; exact hsame _ (hok j hj)
    obtain ⟨S', G2, e, c2, cq, cs, g1, g2, g3⟩ := ih fuel (i + 1) (zq_u S (b + 2) (.inl (1, 41, .inr (.inr (.inr (.inr (va_up G1 (i - 1) (G1 i)))))))) (va_up G1 (i - 1) (G1 i)) (by omega) (by omega) (by omega) ((u_ne _ _ (by omega)).trans f1) (u_at _ _ _) hok'
    refine ⟨S', G2, ?_, c2, fun q hq => (cq q hq).trans (u_ne _ _ hq), cs, fun j hj => ?_, fun j hj hj2 => ?_, fun j hj => ?_⟩
    · show f_Hist_forgetEarliest_9 _ _ _ _ _ = _
      unfold f_Hist_forgetEarliest_9
      rw [z_gi f1 rfl, Option.bind_some, if_neg (nI_ge (by omega) (by omega)), z_gr f1 rfl]
      simp only [Option.bind_some]
      rw [show zs_len S (b + 2) 1 = some (nI 41) from z_len f2, Option.bind_some, if_neg (nI_ge (by omega) (by decide)), z_aal f2 (show i < 41 by omega) (by decide)]
      simp only [Option.bind_some]
      rw [nI_s1 h1, e2, Option.bind_some, nI_1]
      exact e
    · rw [g1 j (by omega), va_up_ne _ _ (by omega)]
    · by_cases hji : j + 1 = i
      · rw [g1 j (by omega), show j = i - 1 by omega, va_up_self, show i - 1 + 1 = i by omega]
      · rw [g2 j (by omega) hj2, va_up_ne _ _ (by omega)]
    · rw [g3 j hj, va_up_ne _ _ (by omega)]
theorem h_fe (h : RC b S au tr op bg (d + 1) u G X LX ge gw) (h41 : d + 1 ≤ 41) : ∃ S', f_Hist_forgetEarliest (b + 1) S = some (S', ()) ∧ RC b S' au tr op bg d u (fun i => G (pm (d + 1) i)) (fun k => if k < 2 then X k else X (pm (d + 1) (k - 2) + 2)) (fun k => if k < 2 then LX k else LX (pm (d + 1) (k - 2) + 2)) (fun i => ge (pm (d + 1) i)) (fun i => gw (pm (d + 1) i)) ∧ KR b S S' := by
  have hok : ∀ j, j < 41 → zs_ok S 1 (G j) = true := by
    intro j hj
    cases hg : G j with
    | none => rfl
    | some g => exact z_is (RC_g h hj hg)
  have e0 := FX_ga h
  have eG := FX_G h (show 0 < 41 by decide)
  rw [nI_0] at eG
  obtain ⟨⟨f0, f1, f2, mf, f3⟩, hH, hF⟩ := h
  obtain ⟨S1, G2, e1, c2, cq, cs, g1, g2, g3⟩ := l_fe h41 (G 0) d zq_F 1 S G (by omega) (by omega) (zF_lt (by omega)) f1 f2 hok
  have k1 : S1.1 (b + 1) = some (.inr (2, [.ref (b + 2), .int (nI (d + 1)), .int (nI u), .int (nI op), .int (nI bg)])) := (cq _ (by omega)).trans f1
  have hG3 : va_up G2 d (G 0) = fun i => G (pm (d + 1) i) := by
    funext i
    unfold pm
    by_cases hi : i = d
    · subst hi; rw [va_up_self, if_neg (by omega), if_pos rfl]
    · rw [va_up_ne _ _ hi]
      by_cases hi2 : i + 1 < d + 1
      · rw [if_pos hi2]; exact g2 i (by omega) hi2
      · rw [if_neg hi2, if_neg (by omega)]; exact g3 i (by omega)
  have hokS : zs_ok (zq_u S1 (b + 1) (.inr (2, [.ref (b + 2), .int (nI d), .int (nI u), .int (nI op), .int (nI bg)]))) 1 (G 0) = true := by
    have h0 := hok 0 (by decide)
    cases hg : G 0 with
    | none => rfl
    | some g =>
      rw [hg] at h0
      obtain ⟨fs, hfs⟩ := zs_isS h0
      have n1 : g ≠ b + 1 := cell_ne hfs f1 (by simp)
      have n2 : g ≠ b + 2 := cell_ne hfs f2 (by simp)
      exact z_is ((u_ne _ _ n1).trans ((cq _ n2).trans hfs))
  have k2 : (zq_u S1 (b + 1) (.inr (2, [.ref (b + 2), .int (nI d), .int (nI u), .int (nI op), .int (nI bg)]))).1 (b + 2) = some (.inl (1, 41, .inr (.inr (.inr (.inr G2))))) := (u_ne _ _ (by omega)).trans c2
  have k3 := u_at S1 (b + 1) (.inr (2, [.ref (b + 2), .int (nI d), .int (nI u), .int (nI op), .int (nI bg)]))
  have e3 := z_aas (ci := 1) k2 (show d < 41 by omega) (by decide) (v := G 0) hokS
  rw [hG3] at e3
  refine ⟨zq_u (zq_u S1 (b + 1) (.inr (2, [.ref (b + 2), .int (nI d), .int (nI u), .int (nI op), .int (nI bg)]))) (b + 2) (.inl (1, 41, .inr (.inr (.inr (.inr (fun i => G (pm (d + 1) i))))))), ?_, ⟨⟨?_, ?_, u_at _ _ _, mf, ?_⟩, ?_, ?_⟩, ?_⟩
  · unfold f_Hist_forgetEarliest
    simp only [e0, Option.bind_some, eG]
    rw [show (1 : Int32) = nI 1 from rfl, e1]
    unfold f_Hist_forgetEarliest_46 f_Hist_forgetEarliest_85
    rw [z_gi k1 rfl, Option.bind_some, z_p k1 (by simp), Option.bind_some, nI_s1 (by omega), show d + 1 - 1 = d by omega]
    rw [show (zq_u S1 (b + 1) (.inr (2, [Value.ref (b + 2), Value.int (nI (d + 1)), Value.int (nI u), Value.int (nI op), Value.int (nI bg)].set 1 (Value.int (nI d))))) = zq_u S1 (b + 1) (.inr (2, [Value.ref (b + 2), Value.int (nI d), Value.int (nI u), Value.int (nI op), Value.int (nI bg)])) from rfl]
    rw [z_gi k3 rfl, Option.bind_some, if_neg (nI_pos (show d < 2 ^ 31 by omega)), z_gr k3 rfl]
    simp only [Option.bind_some]
    rw [show zs_len (zq_u S1 (b + 1) (.inr (2, [.ref (b + 2), .int (nI d), .int (nI u), .int (nI op), .int (nI bg)]))) (b + 2) 1 = some (nI 41) from z_len k2, Option.bind_some, if_neg (nI_ge (by omega) (by decide)), e3]
    rfl
  · rw [u_ne _ _ (by omega), u_ne _ _ (by omega), cq _ (by omega)]
    exact f0
  · rw [u_ne _ _ (by omega), u_at]
  · rw [u_ne _ _ (by omega), u_ne _ _ (by omega), cq _ (by omega)]; exact f3
  · exact HP_lo (HP_perm hH (pm (d + 1)) (fun i j => pm_inj) (fun i hi => pm_41 h41 hi)) (fun q hq => by rw [u_ne _ _ (by omega), u_ne _ _ (by omega), cq _ (by omega)])
  · refine FRE_eq hF cs (fun q hq => ?_)
    have n1 : q ≠ b + 1 := fun e => by rw [e, f1] at hq; cases hq
    have n2 : q ≠ b + 2 := fun e => by rw [e, f2] at hq; cases hq
    rw [u_ne _ _ n2, u_ne _ _ n1, cq _ n2]; exact hq
  · intro q hq1 hq2
    rw [u_ne _ _ (by omega), u_ne _ _ (by omega), cq _ (by omega)]
theorem nI_dec (k : Nat) : nI (k + 1) + (-1 : Int32) = nI k := by
  have := nI_pred k
  rwa [Int32.sub_eq_add_neg] at this
theorem fgt_congr : ∀ d (f g : Nat → Nat), (∀ i, i < d → f i = g i) → fgt d f = fgt d g := by
  intro d
  induction d with
  | zero => intro f g _; rfl
  | succ d ih =>
    intro f g h
    unfold fgt
    rw [sm_congr (g := g) (d + 1) 0 (fun j _ hj => h j (by omega)), ih (sh 1 f) (sh 1 g) (fun i hi => h (i + 1) (by omega))]
theorem l_heg (v1 : Int32) : ∀ (d fuel : Nat) (S : zq_S) (G : Nat → Option Nat) (X : Nat → Nat) (LX : Nat → List Int64) (ge gw : Nat → Nat), RC b S au tr op bg d u G X LX ge gw → d ≤ 41 → (∀ i, i < d → G i ≠ none) → sm gw 0 d < 2 ^ 31 → d < fuel → ∃ (S' : zq_S) (G' : Nat → Option Nat) (X' : Nat → Nat) (LX' : Nat → List Int64) (ge' gw' : Nat → Nat), g_Hist_endGroup_37 fuel (b + 1) v1 (nI d) S = some (S', v1) ∧ RC b S' au tr op bg (d - fgt d gw) u G' X' LX' ge' gw' ∧ KR b S S' ∧ (∀ i, i < d - fgt d gw → G' i = G (i + fgt d gw) ∧ LX' (i + 2) = LX (i + fgt d gw + 2) ∧ ge' i = ge (i + fgt d gw) ∧ gw' i = gw (i + fgt d gw)) ∧ LX' 0 = LX 0 := by
  intro d
  induction d with
  | zero =>
    intro fuel S G X LX ge gw h h41 hG hb hf
    obtain ⟨fuel, rfl⟩ : ∃ m, fuel = m + 1 := ⟨fuel - 1, by omega⟩
    refine ⟨S, G, X, LX, ge, gw, ?_, h, KR_r b S, fun i hi => absurd hi (by omega), rfl⟩
    show f_Hist_endGroup_37 _ _ _ _ _ = _
    unfold f_Hist_endGroup_37 f_Hist_endGroup_58
    rw [if_pos (by rw [nI_0]; exact Int32.le_refl 0)]
  | succ d ih =>
    intro fuel S G X LX ge gw h h41 hG hb hf
    obtain ⟨fuel, rfl⟩ : ∃ m, fuel = m + 1 := ⟨fuel - 1, by omega⟩
    show ∃ (S' : zq_S) (G' : Nat → Option Nat) (X' : Nat → Nat) (LX' : Nat → List Int64) (ge' gw' : Nat → Nat), f_Hist_endGroup_37 _ _ _ _ _ = _ ∧ _
    have hop : f_Hist_endGroup_37 (g_Hist_endGroup_37 fuel) (b + 1) v1 (nI (d + 1)) S = if 40 < d + 1 ∨ 3000 < sm gw 0 (d + 1) then zs_b (f_Hist_forgetEarliest (b + 1) S) fun S8 _ => g_Hist_endGroup_37 fuel (b + 1) v1 (nI d) S8 else some (S, v1) := by
      unfold f_Hist_endGroup_37 f_Hist_endGroup_58
      rw [if_neg (nI_nle (by omega) (by omega)), if_pos (FX_ish h), h_tm h h41 hG hb, zb_S, if_pos (FX_ish h), nI_dec]
      by_cases ht : 40 < d + 1 ∨ 3000 < sm gw 0 (d + 1)
      · simp [ht]
      · simp [ht]
    rw [hop]
    by_cases ht : 40 < d + 1 ∨ 3000 < sm gw 0 (d + 1)
    · obtain ⟨S1, e1, r1, kr1⟩ := h_fe h h41
      have hpm : ∀ i, i < d → pm (d + 1) i = i + 1 := fun i hi => by unfold pm; rw [if_pos (by omega)]
      have hsg := sm_sh1 gw d
      have hsm : sm (fun i => gw (pm (d + 1) i)) 0 d = sm (sh 1 gw) 0 d := sm_congr d 0 (fun j _ hj => by show gw (pm (d + 1) j) = gw (j + 1); rw [hpm j (by omega)])
      have hfc : fgt d (fun i => gw (pm (d + 1) i)) = fgt d (sh 1 gw) := fgt_congr d _ _ (fun j hj => by show gw (pm (d + 1) j) = gw (j + 1); rw [hpm j hj])
      have hfg : fgt (d + 1) gw = fgt d (sh 1 gw) + 1 := by conv => lhs; unfold fgt; rw [if_pos ht]
      obtain ⟨S2, G2, X2, L2, ge2, gw2, e2, r2, kr2, p2, q2⟩ := ih fuel S1 _ _ _ _ _ r1 (by omega) (fun i hi => by rw [hpm i hi]; exact hG (i + 1) (by omega)) (by rw [hsm]; omega) (by omega)
      rw [hfc] at r2 p2
      rw [if_pos ht, hfg, show d + 1 - (fgt d (sh 1 gw) + 1) = d - fgt d (sh 1 gw) by omega]
      have hfl := fgt_le d (sh 1 gw)
      refine ⟨S2, G2, X2, L2, ge2, gw2, by rw [e1, zb_S]; exact e2, r2, KR_t kr1 kr2, fun i hi => ?_, by rw [q2]; rfl⟩
      obtain ⟨a1, a2, a3, a4⟩ := p2 i hi
      have hx := hpm (i + fgt d (sh 1 gw)) (by omega)
      rw [hx] at a1 a3 a4
      rw [if_neg (by omega), show i + fgt d (sh 1 gw) + 2 - 2 = i + fgt d (sh 1 gw) by omega, hx] at a2
      exact ⟨a1, a2, a3, a4⟩
    · have hfg : fgt (d + 1) gw = 0 := by unfold fgt; rw [if_neg ht]
      rw [if_neg ht, hfg]
      exact ⟨S, G, X, LX, ge, gw, rfl, h, KR_r b S, fun i _ => ⟨rfl, rfl, rfl, rfl⟩, rfl⟩
theorem h_end0 (h : RC b S au tr op 0 d u G X LX ge gw) : f_Hist_endGroup (b + 1) S = some (S, 0) := by
  unfold f_Hist_endGroup
  rw [FX_bg h, Option.bind_some, if_pos nI_0]
theorem h_end (h : RC b S au tr op 1 d u G X LX ge gw) (hd : d ≤ 40) (hG : ∀ i, i ≤ d → G i ≠ none) (hb : sm gw 0 (d + 1) < 2 ^ 31) {o : Nat} (ho : o = fgt (d + 1) gw) : ∃ (S' : zq_S) (G' : Nat → Option Nat) (X' : Nat → Nat) (LX' : Nat → List Int64) (ge' gw' : Nat → Nat), f_Hist_endGroup (b + 1) S = some (S', nI (ge d)) ∧ RC b S' au tr op 0 (d + 1 - o) u G' X' LX' ge' gw' ∧ KR b S S' ∧ (∀ i, i < d + 1 - o → G' i = G (i + o) ∧ LX' (i + 2) = LX (i + o + 2) ∧ ge' i = ge (i + o) ∧ gw' i = gw (i + o)) ∧ LX' 0 = LX 0 := by
  obtain ⟨g, hg⟩ : ∃ g, G d = some g := by
    cases hgi : G d with
    | none => exact absurd hgi (hG d (by omega))
    | some g => exact ⟨g, rfl⟩
  have e1 : f_Hist_groupBeingMade (b + 1) S = some (S, some g) := by
    unfold f_Hist_groupBeingMade f_Hist_groupBeingMade_41
    simp only [FX_d h, FX_ga h, FX_41 h, Option.bind_some, gbm_ix hd, FX_G h (show d < 41 by omega), hg]
    rw [if_neg (by simp)]
  have r1 := RC_hist h d u op 0
  have r2 := RC_hist r1 (d + 1) u op 0
  obtain ⟨S3, G3, X3, L3, ge3, gw3, e3, r3, kr3, p3, q3⟩ := l_heg (nI (ge d)) (d + 1) zq_F _ _ _ _ _ _ r2 (by omega) (fun i hi => hG i (by omega)) hb (zF_lt (by omega))
  rw [← ho] at r3 p3
  refine ⟨S3, G3, X3, L3, ge3, gw3, ?_, r3, KR_t (KR_u (Or.inl (by omega))) (KR_t (KR_u (Or.inl (by omega))) kr3), p3, q3⟩
  unfold f_Hist_endGroup
  rw [FX_bg h, Option.bind_some, if_neg (by decide), if_pos (FX_ish h), e1, zb_S, Option.bind_some, z_gi (RC_g h (show d < 41 by omega) hg) rfl, Option.bind_some, z_pz h.1.2.1 (by simp) (Or.inl rfl), Option.bind_some]
  rw [show (zq_u S (b + 1) (.inr (2, [Value.ref (b + 2), Value.int (nI d), Value.int (nI u), Value.int (nI op), Value.int (nI 1)].set 4 (Value.int 0)))) = zq_u S (b + 1) (.inr (2, [Value.ref (b + 2), Value.int (nI d), Value.int (nI u), Value.int (nI op), Value.int (nI 0)])) from rfl]
  rw [FX_d r1, Option.bind_some, z_p r1.1.2.1 (by simp), Option.bind_some, nI_1]
  rw [show ∀ T : zq_S, (zq_u T (b + 1) (.inr (2, [Value.ref (b + 2), Value.int (nI d), Value.int (nI u), Value.int (nI op), Value.int (nI 0)].set 1 (Value.int (nI (d + 1)))))) = zq_u T (b + 1) (.inr (2, [Value.ref (b + 2), Value.int (nI (d + 1)), Value.int (nI u), Value.int (nI op), Value.int (nI 0)])) from fun _ => rfl]
  rw [FX_d r2, Option.bind_some]
  exact e3
theorem h_back0 (h : RC b S au tr op bg d u G X LX ge gw) (ho : op < 2) (hd : d ≤ 40) (hn : op = 1 ∨ d = 0) : f_Hist_stepBack (b + 1) S = some (S, none) := by
  unfold f_Hist_stepBack f_Hist_stepBack_26
  rw [FX_op h, Option.bind_some]
  by_cases h1 : op = 0
  · have hd0 : d = 0 := by omega
    rw [if_pos (by rw [h1]; exact nI_0), FX_d h, Option.bind_some, if_pos (by rw [hd0, nI_0]; exact Int32.le_refl 0)]
  · rw [if_neg (nI_ne0 (by omega) (by omega))]
theorem h_back (h : RC b S au tr 0 bg d u G X LX ge gw) (hd : d ≤ 40) (hd0 : 0 < d) : f_Hist_stepBack (b + 1) S = some (zq_u (zq_u S (b + 1) (.inr (2, [.ref (b + 2), .int (nI (d - 1)), .int (nI u), .int (nI 0), .int (nI bg)]))) (b + 1) (.inr (2, [.ref (b + 2), .int (nI (d - 1)), .int (nI (u + 1)), .int (nI 0), .int (nI bg)])), G (d - 1)) := by
  have r1 := RC_hist h (d - 1) u 0 bg
  have r2 := RC_hist r1 (d - 1) (u + 1) 0 bg
  unfold f_Hist_stepBack f_Hist_stepBack_26
  rw [FX_op h, Option.bind_some, if_pos nI_0, FX_d h, Option.bind_some, if_neg (nI_nle hd0 (by omega)), Option.bind_some, FX_ga h, Option.bind_some, Option.bind_some, FX_41 h, Option.bind_some, if_pos (nI_le (by omega) (by decide)), Option.bind_some, z_p h.1.2.1 (by simp), Option.bind_some, nI_s1 hd0]
  rw [show (zq_u S (b + 1) (.inr (2, [Value.ref (b + 2), Value.int (nI d), Value.int (nI u), Value.int (nI 0), Value.int (nI bg)].set 1 (Value.int (nI (d - 1)))))) = zq_u S (b + 1) (.inr (2, [Value.ref (b + 2), Value.int (nI (d - 1)), Value.int (nI u), Value.int (nI 0), Value.int (nI bg)])) from rfl]
  rw [FX_u r1, Option.bind_some, z_p r1.1.2.1 (by simp), Option.bind_some, nI_1]
  rw [show ∀ T : zq_S, (zq_u T (b + 1) (.inr (2, [Value.ref (b + 2), Value.int (nI (d - 1)), Value.int (nI u), Value.int (nI 0), Value.int (nI bg)].set 2 (Value.int (nI (u + 1)))))) = zq_u T (b + 1) (.inr (2, [Value.ref (b + 2), Value.int (nI (d - 1)), Value.int (nI (u + 1)), Value.int (nI 0), Value.int (nI bg)])) from fun _ => rfl]
  rw [FX_ga r2, Option.bind_some, FX_d r2, Option.bind_some, Option.bind_some, FX_G r2 (show d - 1 < 41 by omega), Option.bind_some]
theorem h_fwd0 (h : RC b S au tr op bg d u G X LX ge gw) (ho : op < 2) (hd : d + u ≤ 40) (hn : op = 1 ∨ u = 0) : f_Hist_stepForward (b + 1) S = some (S, none) := by
  unfold f_Hist_stepForward f_Hist_stepForward_33
  rw [FX_op h, Option.bind_some]
  by_cases h1 : op = 0
  · have hd0 : u = 0 := by omega
    rw [if_pos (by rw [h1]; exact nI_0), FX_u h, Option.bind_some, if_pos (by rw [hd0, nI_0]; exact Int32.le_refl 0)]
  · rw [if_neg (nI_ne0 (by omega) (by omega))]
theorem h_fwd (h : RC b S au tr 0 bg d u G X LX ge gw) (hd : d + u ≤ 40) (hu : 0 < u) : f_Hist_stepForward (b + 1) S = some (zq_u (zq_u S (b + 1) (.inr (2, [.ref (b + 2), .int (nI (d + 1)), .int (nI u), .int (nI 0), .int (nI bg)]))) (b + 1) (.inr (2, [.ref (b + 2), .int (nI (d + 1)), .int (nI (u - 1)), .int (nI 0), .int (nI bg)])), G d) := by
  have r1 := RC_hist h (d + 1) u 0 bg
  have r2 := RC_hist r1 (d + 1) (u - 1) 0 bg
  unfold f_Hist_stepForward f_Hist_stepForward_33
  rw [FX_op h, Option.bind_some, if_pos nI_0, FX_u h, Option.bind_some, if_neg (nI_nle hu (by omega)), FX_d h, Option.bind_some, if_neg (nI_pos (show d < 2 ^ 31 by omega)), Option.bind_some, FX_ga h, Option.bind_some, Option.bind_some, FX_41 h, Option.bind_some, if_pos (nI_lt (show d < 41 by omega) (by decide)), Option.bind_some, z_p h.1.2.1 (by simp), Option.bind_some, nI_1]
  rw [show (zq_u S (b + 1) (.inr (2, [Value.ref (b + 2), Value.int (nI d), Value.int (nI u), Value.int (nI 0), Value.int (nI bg)].set 1 (Value.int (nI (d + 1)))))) = zq_u S (b + 1) (.inr (2, [Value.ref (b + 2), Value.int (nI (d + 1)), Value.int (nI u), Value.int (nI 0), Value.int (nI bg)])) from rfl]
  rw [FX_u r1, Option.bind_some, z_p r1.1.2.1 (by simp), Option.bind_some, nI_s1 hu]
  rw [show ∀ T : zq_S, (zq_u T (b + 1) (.inr (2, [Value.ref (b + 2), Value.int (nI (d + 1)), Value.int (nI u), Value.int (nI 0), Value.int (nI bg)].set 2 (Value.int (nI (u - 1)))))) = zq_u T (b + 1) (.inr (2, [Value.ref (b + 2), Value.int (nI (d + 1)), Value.int (nI (u - 1)), Value.int (nI 0), Value.int (nI bg)])) from fun _ => rfl]
  rw [FX_ga r2, Option.bind_some, FX_d r2, Option.bind_some, Option.bind_some, nI_s1 (by omega), show d + 1 - 1 = d by omega, FX_G r2 (show d < 41 by omega), Option.bind_some]
end HS
