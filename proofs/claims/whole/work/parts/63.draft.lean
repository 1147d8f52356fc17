/-! the class against the state it stands for; drafts -/
theorem RC_eq {b : Nat} {S S' : zq_S} {au tr op bg d u : Nat} {G : Nat → Option Nat} {X : Nat → Nat} {LX : Nat → List Int64} {ge gw : Nat → Nat} (h : RC b S au tr op bg d u G X LX ge gw) (h1 : ∀ q, S'.1 q = S.1 q) (h2 : S'.2.1 = S.2.1) : RC b S' au tr op bg d u G X LX ge gw := by
  obtain ⟨f, n, w⟩ := S
  obtain ⟨f', n', w'⟩ := S'
  have e1 : f' = f := funext h1
  have e2 : n' = n := h2
  subst e1 e2
  exact h
def SCd (b : Nat) (S : zq_S) (au tr op : Nat) (tx : List Int64) (sn : Nat → List Int64) (ge gw : Nat → Nat) (d u oe ow : Nat) (q : List Int64) : Prop := ∃ (bg : Nat) (G : Nat → Option Nat) (X : Nat → Nat) (LX : Nat → List Int64) (ge1 gw1 : Nat → Nat), RC b S au tr op bg d u G X LX ge1 gw1 ∧ LX 0 = tx ∧ LX 1 = q ∧ (∀ i, i < d → LX (i + 2) = sn i) ∧ (∀ i, d ≤ i → i < d + u → LX (i + 2) = sn (i + 1)) ∧ (∀ i, i < d + u → G i ≠ none ∧ ge1 i = ge i ∧ gw1 i = gw i) ∧ (oe = 0 → bg = 0) ∧ (0 < oe → bg = 1 ∧ G d ≠ none ∧ LX (d + 2) = sn d ∧ ge1 d = oe ∧ gw1 d = ow)
def SC (b : Nat) (S : zq_S) (au tr op : Nat) (tx : List Int64) (sn : Nat → List Int64) (ge gw : Nat → Nat) (d u oe ow : Nat) : Prop := ∃ q, SCd b S au tr op tx sn ge gw d u oe ow q
section SCS
variable {b : Nat} {S : zq_S} {au tr op : Nat} {tx q : List Int64} {sn : Nat → List Int64} {ge gw : Nat → Nat} {d u oe ow : Nat}
theorem sd_is (h : SCd b S au tr op tx sn ge gw d u oe ow q) : zs_is S b 3 = true := by obtain ⟨_, _, _, _, _, _, r, _⟩ := h; exact FX_isc r
theorem sd_au (h : SCd b S au tr op tx sn ge gw d u oe ow q) : zs_gi S b 3 4 = some (nI au) := by obtain ⟨_, _, _, _, _, _, r, _⟩ := h; exact FX_au r
theorem sd_tr (h : SCd b S au tr op tx sn ge gw d u oe ow q) : zs_gi S b 3 5 = some (nI tr) := by obtain ⟨_, _, _, _, _, _, r, _⟩ := h; exact FX_tr r
theorem sd_tx (h : SCd b S au tr op tx sn ge gw d u oe ow q) : ∃ tt, zs_gr S b 3 2 = some (some tt) ∧ TX S tt tx := by
  obtain ⟨_, G, X, LX, _, _, r, h0, _⟩ := h
  exact ⟨X 0, FX_tx r, by have := RC_TX r (act0 G); rwa [h0] at this⟩
theorem sd_add (h : SCd b S au tr op tx sn ge gw d u oe ow q) {v : Int64} (hv : v ≠ 0) (hq : q.length < 600) : ∃ td S', zs_gr S b 3 3 = some (some td) ∧ zs_is S td 0 = true ∧ f_Text_add td v S = some (S', ()) ∧ SCd b S' au tr op tx sn ge gw d u oe ow (q ++ [v]) ∧ KR b S S' := by
  obtain ⟨bg, G, X, LX, ge1, gw1, r, h0, h1, h2, h3, h4, h5, h6⟩ := h
  have hT := RC_TX r (act1 G)
  rw [h1] at hT
  obtain ⟨S', e, t, f⟩ := TX_add hT hv hq
  obtain ⟨r', kr⟩ := RC_fr r (act1 G) f t
  exact ⟨X 1, S', FX_td r, TX_is hT, e, ⟨bg, G, X, _, ge1, gw1, r', by rw [va_up_ne _ _ (by decide)]; exact h0, va_up_self _ _ _, fun i hi => by rw [va_up_ne _ _ (by omega)]; exact h2 i hi, fun i hi hi2 => by rw [va_up_ne _ _ (by omega)]; exact h3 i hi hi2, h4, h5, fun ho => by rw [va_up_ne _ _ (by omega)]; exact h6 ho⟩, kr⟩
theorem sd_add0 (h : SCd b S au tr op tx sn ge gw d u oe ow q) : ∃ td, zs_gr S b 3 3 = some (some td) ∧ zs_is S td 0 = true ∧ f_Text_add td 0 S = some (S, ()) := by
  obtain ⟨bg, G, X, LX, ge1, gw1, r, h0, h1, h2, h3, h4, h5, h6⟩ := h
  exact ⟨X 1, FX_td r, TX_is (RC_TX r (act1 G)), TX_add0 S _⟩
theorem c_start (h : SCd b S au tr op tx sn ge gw d u oe ow q) {pl : Nat} (hp : pl ≤ tx.length) : ∃ S', f_CT_startDraft b (nI pl) S = some (S', ()) ∧ SCd b S' au tr op tx sn ge gw d u oe ow (tx.take pl) ∧ KR b S S' := by
  obtain ⟨bg, G, X, LX, ge1, gw1, r, h0, h1, h2, h3, h4, h5, h6⟩ := h
  have hT := RC_TX r (act1 G)
  have h60 := TX_600 (RC_TX r (act0 G))
  rw [h0] at h60
  obtain ⟨S1, e1, t1, f1⟩ := TX_clear hT
  obtain ⟨r1, kr1⟩ := RC_fr r (act1 G) f1 t1
  have hT0 := RC_TX r1 (act0 G)
  rw [va_up_ne _ _ (by decide), h0] at hT0
  obtain ⟨S2, e2, t2, f2⟩ := TX_part hT0 t1 (RC_ne r (act0 G) (act1 G) (by decide)) (p := 0) (e := pl) (Nat.zero_le _) hp (by simp; omega)
  have hl : ([] : List Int64) ++ (tx.drop 0).take (pl - 0) = tx.take pl := by simp
  rw [hl] at t2
  obtain ⟨r2, kr2⟩ := RC_fr r1 (act1 G) f2 t2
  rw [va_uu] at r2
  refine ⟨S2, ?_, ⟨bg, G, X, _, ge1, gw1, r2, by rw [va_up_ne _ _ (by decide)]; exact h0, va_up_self _ _ _, fun i hi => by rw [va_up_ne _ _ (by omega)]; exact h2 i hi, fun i hi hi2 => by rw [va_up_ne _ _ (by omega)]; exact h3 i hi hi2, h4, h5, fun ho => by rw [va_up_ne _ _ (by omega)]; exact h6 ho⟩, KR_t kr1 kr2⟩
  unfold f_CT_startDraft
  rw [FX_td r]
  simp only [Option.bind_some]
  rw [if_pos (TX_is hT), e1, zb_S, FX_td r1, FX_tx r1]
  simp only [Option.bind_some]
  rw [if_pos (TX_is t1), ← nI_0, e2, zb_S]
theorem uu_at (S : zq_S) (b : Nat) (e e' : zq_E) (q : Nat) : (zq_u (zq_u S b e) b e').1 q = (zq_u S b e').1 q := by
  by_cases h : q = b
  · subst h; rw [u_at, u_at]
  · rw [u_ne _ _ h, u_ne _ _ h, u_ne _ _ h]
theorem c_finish (h : SCd b S au tr op tx sn ge gw d u oe ow q) (hW : WF op tx sn ge gw d u oe ow) (hb : ow < 2 ^ 29) {p : Nat} (hp : p ≤ tx.length) (hq : q.length + (tx.length - p) ≤ 600) {nw : List Int64} (hnw : nw = q ++ tx.drop p) {o : Nat} (ho : o = fgt (d + 1) (va_up gw d (wt nw tx))) : ∃ S', f_CT_finishDraft b (nI p) S = some (S', ()) ∧ KR b S S' ∧ (wt nw tx = 0 → SC b S' au tr op tx sn ge gw d u oe ow) ∧ (wt nw tx ≠ 0 → op = 1 → SC b S' au tr 1 nw sn ge gw d 0 (oe + 1) (ow + wt nw tx)) ∧ (wt nw tx ≠ 0 → op = 0 → SC b S' au tr 0 nw (sh o (va_up sn (d + 1) nw)) (sh o (va_up ge d 1)) (sh o (va_up gw d (wt nw tx))) (d + 1 - o) 0 0 0) := by
  obtain ⟨w1, w2, w3, w4, w5, w6, w7, w8, w9, w10⟩ := hW
  obtain ⟨bg, G, X, LX, ge1, gw1, r, h0, h1, h2, h3, h4, h5, h6⟩ := h
  have hbg : bg < 2 := by
    by_cases hoe : oe = 0
    · rw [h5 hoe]; decide
    · rw [(h6 (by omega)).1]; decide
  have hT := RC_TX r (act1 G)
  have hT0 := RC_TX r (act0 G)
  rw [h1] at hT
  rw [h0] at hT0
  obtain ⟨S1, e1, t1, f1⟩ := TX_part hT0 hT (RC_ne r (act0 G) (act1 G) (by decide)) (p := p) (e := tx.length) hp (Nat.le_refl _) hq
  have hl : q ++ (tx.drop p).take (tx.length - p) = nw := by
    rw [hnw, List.take_of_length_le (by simp)]
  rw [hl] at t1
  obtain ⟨r1, kr1⟩ := RC_fr r (act1 G) f1 t1
  have hT1 := RC_TX r1 (act0 G)
  rw [va_up_ne _ _ (by decide), h0] at hT1
  have hn6 := TX_600 t1
  have hwt := wt_le hn6 w1
  have ew := TX_wt hT1 t1
  rw [wt_comm] at ew
  have hop : f_CT_finishDraft b (nI p) S = if nI (wt nw tx) = 0 then some (S1, ()) else zs_b (f_Hist_recordEdit (b + 1) (some (X 0)) (nI (wt nw tx)) S1) fun S38 _ => (zs_gr S38 b 3 2).bind fun x43 => (zs_gr S38 b 3 3).bind fun x45 => (zs_p S38 b 3 2 (va_rf x45)).bind fun S47 => (zs_p S47 b 3 3 (va_rf x43)).bind fun S49 => (zs_gr S49 b 3 0).bind fun x51 => (x51).bind fun a53 => (zs_gi S49 a53 2 3).bind fun x55 => if x55 = 0 then (zs_gr S49 b 3 0).bind fun x57 => (x57).bind fun a59 => if zs_is S49 a59 2 = true then zs_b (f_Hist_endGroup a59 S49) fun S62 x63 => f_CT_finishDraft_84 S62 else none else f_CT_finishDraft_84 S49 := by
    unfold f_CT_finishDraft
    rw [FX_td r, FX_tx r]
    simp only [Option.bind_some]
    rw [TX_sz hT0]
    simp only [Option.bind_some]
    rw [if_pos (TX_is hT), e1, zb_S, FX_tx r1, FX_td r1]
    simp only [Option.bind_some]
    rw [if_pos (TX_is hT1), ew, zb_S, FX_h r1, Option.bind_some, FX_tx r1, Option.bind_some, Option.bind_some, if_pos (FX_ish r1)]
  rw [hop]
  by_cases hz : wt nw tx = 0
  · rw [if_pos (by rw [hz]; exact nI_0)]
    refine ⟨S1, rfl, kr1, fun _ => ⟨nw, bg, G, X, _, ge1, gw1, r1, by rw [va_up_ne _ _ (by decide)]; exact h0, va_up_self _ _ _, fun i hi => by rw [va_up_ne _ _ (by omega)]; exact h2 i hi, fun i hi hi2 => by rw [va_up_ne _ _ (by omega)]; exact h3 i hi hi2, h4, h5, fun ho => by rw [va_up_ne _ _ (by omega)]; exact h6 ho⟩, fun hn => absurd hz hn, fun hn => absurd hz hn⟩
  · rw [if_neg (nI_ne0 (by omega) (by omega))]
    obtain ⟨S2, G2, X2, L2, ge2, gw2, e2, r2, kr2, hg2, p2, q2, s2, s2'⟩ := h_rec r1 (by omega) hbg (wt nw tx)
    have hx0 : X2 0 = X 0 := (q2 0 (by omega)).1
    have hx1 : X2 1 = X 1 := (q2 1 (by omega)).1
    have hL0 : L2 0 = tx := by rw [(q2 0 (by omega)).2, va_up_ne _ _ (by decide)]; exact h0
    have hL1 : L2 1 = nw := by rw [(q2 1 (by omega)).2, va_up_self]
    have rs := RC_sw r2
    have r3 : RC b (zq_u (zq_u S2 b (.inr (3, [.ref (b + 1), .ref (b + 3), .ref (X2 1), .ref (X2 1), .int (nI au), .int (nI tr)]))) b (.inr (3, [.ref (b + 1), .ref (b + 3), .ref (X2 1), .ref (X2 0), .int (nI au), .int (nI tr)]))) au tr op 1 d 0 G2 (sw 0 1 X2) (sw 0 1 L2) ge2 gw2 := RC_eq rs (uu_at _ _ _ _) rfl
    have kr3 : KR b S (zq_u (zq_u S2 b (.inr (3, [.ref (b + 1), .ref (b + 3), .ref (X2 1), .ref (X2 1), .int (nI au), .int (nI tr)]))) b (.inr (3, [.ref (b + 1), .ref (b + 3), .ref (X2 1), .ref (X2 0), .int (nI au), .int (nI tr)]))) := KR_t kr1 (KR_t kr2 (KR_t (KR_u (Or.inl (by omega))) (KR_u (Or.inl (by omega)))))
    have hop2 : (zs_b (f_Hist_recordEdit (b + 1) (some (X 0)) (nI (wt nw tx)) S1) fun S38 _ => (zs_gr S38 b 3 2).bind fun x43 => (zs_gr S38 b 3 3).bind fun x45 => (zs_p S38 b 3 2 (va_rf x45)).bind fun S47 => (zs_p S47 b 3 3 (va_rf x43)).bind fun S49 => (zs_gr S49 b 3 0).bind fun x51 => (x51).bind fun a53 => (zs_gi S49 a53 2 3).bind fun x55 => if x55 = 0 then (zs_gr S49 b 3 0).bind fun x57 => (x57).bind fun a59 => if zs_is S49 a59 2 = true then zs_b (f_Hist_endGroup a59 S49) fun S62 x63 => f_CT_finishDraft_84 S62 else none else f_CT_finishDraft_84 S49) = if nI op = 0 then zs_b (f_Hist_endGroup (b + 1) (zq_u (zq_u S2 b (.inr (3, [.ref (b + 1), .ref (b + 3), .ref (X2 1), .ref (X2 1), .int (nI au), .int (nI tr)]))) b (.inr (3, [.ref (b + 1), .ref (b + 3), .ref (X2 1), .ref (X2 0), .int (nI au), .int (nI tr)])))) fun S62 x63 => some (S62, ()) else some ((zq_u (zq_u S2 b (.inr (3, [.ref (b + 1), .ref (b + 3), .ref (X2 1), .ref (X2 1), .int (nI au), .int (nI tr)]))) b (.inr (3, [.ref (b + 1), .ref (b + 3), .ref (X2 1), .ref (X2 0), .int (nI au), .int (nI tr)]))), ()) := by
      rw [e2, zb_S, FX_tx r2, Option.bind_some, FX_td r2, Option.bind_some, z_p r2.1.1 (by simp), Option.bind_some]
      rw [show (zq_u S2 b (.inr (3, [Value.ref (b + 1), Value.ref (b + 3), Value.ref (X2 0), Value.ref (X2 1), Value.int (nI au), Value.int (nI tr)].set 2 (va_rf (some (X2 1)))))) = zq_u S2 b (.inr (3, [Value.ref (b + 1), Value.ref (b + 3), Value.ref (X2 1), Value.ref (X2 1), Value.int (nI au), Value.int (nI tr)])) from rfl]
      rw [z_p (u_at _ _ _) (by simp), Option.bind_some]
      rw [show ∀ T : zq_S, (zq_u T b (.inr (3, [Value.ref (b + 1), Value.ref (b + 3), Value.ref (X2 1), Value.ref (X2 1), Value.int (nI au), Value.int (nI tr)].set 3 (va_rf (some (X2 0)))))) = zq_u T b (.inr (3, [Value.ref (b + 1), Value.ref (b + 3), Value.ref (X2 1), Value.ref (X2 0), Value.int (nI au), Value.int (nI tr)])) from fun _ => rfl]
      rw [FX_h r3]
      simp only [Option.bind_some]
      rw [FX_op r3]
      simp only [Option.bind_some]
      rw [if_pos (FX_ish r3)]
      rfl
    rw [hop2]
    have hsw0 : sw 0 1 L2 0 = nw := by rw [sw_at]; simp [hL1]
    have hswk : ∀ k, 2 ≤ k → sw 0 1 L2 k = L2 k := fun k hk => by rw [sw_at, if_neg (by omega), if_neg (by omega)]
    have hLk : ∀ k, 2 ≤ k → k ≠ d + 2 → L2 k = LX k := fun k hk hkd => by rw [(q2 k hkd).2, va_up_ne _ _ (by omega)]
    by_cases hop0 : op = 0
    · have hoe : oe = 0 := by
        by_cases hh : oe = 0
        · exact hh
        · have := (w9 (by omega)).1; omega
      have hbg0 := h5 hoe
      subst hbg0
      obtain ⟨s3, s4, s5⟩ := s2 rfl
      have hg1w : ∀ i, i < d + 1 → gw2 i = va_up gw d (wt nw tx) i := by
        intro i hi
        by_cases hid : i = d
        · rw [hid, va_up_self]; exact s5
        · rw [va_up_ne _ _ hid, (p2 i hid).2.2]; exact (h4 i (by omega)).2.2
      have hg1e : ∀ i, i < d + 1 → ge2 i = va_up ge d 1 i := by
        intro i hi
        by_cases hid : i = d
        · rw [hid, va_up_self]; exact s4
        · rw [va_up_ne _ _ hid, (p2 i hid).2.1]; exact (h4 i (by omega)).2.1
      have hsmw : sm gw2 0 (d + 1) < 2 ^ 31 := by
        rw [sm_r, Nat.zero_add, s5, sm_congr (g := gw) d 0 (fun j _ hj => by rw [hg1w j (by omega), va_up_ne _ _ (by omega)])]
        have := sm_mono gw (show d ≤ d + u by omega)
        omega
      have hol := fgt_le (d + 1) (va_up gw d (wt nw tx))
      rw [← ho] at hol
      obtain ⟨S4, G4, X4, L4, ge4, gw4, e4, r4, kr4, p4, q4⟩ := h_end r3 (by omega) (fun i hi => by
        by_cases hid : i = d
        · rw [hid]; exact hg2
        · rw [(p2 i hid).1]; exact (h4 i (by omega)).1) hsmw (o := o) (by rw [ho]; exact (fgt_congr _ _ _ hg1w).symm)
      rw [if_pos (by rw [hop0]; exact nI_0), e4, zb_S]
      refine ⟨S4, rfl, KR_t kr3 kr4, fun hn => absurd hn hz, fun _ hn => absurd hn (by omega), fun _ _ => ⟨L4 1, 0, G4, X4, L4, ge4, gw4, by rw [hop0] at r4; exact r4, by rw [q4]; exact hsw0, rfl, fun i hi => ?_, fun i hi hi2 => absurd hi2 (by omega), fun i hi => ?_, fun _ => rfl, fun hn => absurd hn (by decide)⟩⟩
      · rw [(p4 i hi).2.1, hswk _ (by omega)]
        show L2 (i + o + 2) = va_up sn (d + 1) nw (i + o)
        rw [va_up_ne _ _ (by omega)]
        by_cases hid : i + o = d
        · rw [hid, s3, va_up_ne _ _ (by decide), h0]; exact (w8 hoe).2
        · rw [hLk _ (by omega) (by omega)]; exact h2 _ (by omega)
      · obtain ⟨a1, a2, a3, a4⟩ := p4 i (by omega)
        refine ⟨?_, ?_, ?_⟩
        · rw [a1]
          by_cases hid : i + o = d
          · rw [hid]; exact hg2
          · rw [(p2 _ hid).1]; exact (h4 _ (by omega)).1
        · rw [a3]; exact hg1e _ (by omega)
        · rw [a4]; exact hg1w _ (by omega)
    · have hop1 : op = 1 := by omega
      rw [if_neg (nI_ne0 (by omega) (by omega))]
      refine ⟨_, rfl, kr3, fun hn => absurd hn hz, fun _ _ => ⟨sw 0 1 L2 1, 1, G2, sw 0 1 X2, sw 0 1 L2, ge2, gw2, by rw [hop1] at r3; exact r3, hsw0, rfl, fun i hi => ?_, fun i hi hi2 => absurd hi2 (by omega), fun i hi => ?_, fun hn => absurd hn (by omega), fun _ => ⟨rfl, hg2, ?_, ?_, ?_⟩⟩, fun _ hn => absurd hn hop0⟩
      · rw [hswk _ (by omega), hLk _ (by omega) (by omega)]; exact h2 i hi
      · rw [(p2 i (by omega)).1, (p2 i (by omega)).2.1, (p2 i (by omega)).2.2]; exact h4 i (by omega)
      · rw [hswk _ (by omega)]
        by_cases hoe : oe = 0
        · rw [(s2 (h5 hoe)).1, va_up_ne _ _ (by decide), h0]; exact (w8 hoe).2
        · obtain ⟨c1, c2, c3, c4, c5⟩ := h6 (by omega)
          rw [(s2' c1 c2).1, va_up_ne _ _ (by omega)]; exact c3
      · by_cases hoe : oe = 0
        · rw [(s2 (h5 hoe)).2.1, hoe]
        · obtain ⟨c1, c2, c3, c4, c5⟩ := h6 (by omega)
          rw [(s2' c1 c2).2.1, c4]
      · by_cases hoe : oe = 0
        · rw [(s2 (h5 hoe)).2.2, (w8 hoe).1, Nat.zero_add]
        · obtain ⟨c1, c2, c3, c4, c5⟩ := h6 (by omega)
          rw [(s2' c1 c2).2.2, c5]
end SCS
