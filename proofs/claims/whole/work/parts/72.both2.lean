/-! groups and questions, side by side -/
def PQ (b K : Nat) (W : Option (zq_S × Int32)) (M : zq_S → Option (zq_S × Int32)) : Prop := ∃ (S1 : zq_S) (x : Int32) (S2 : zq_S), W = some (S1, x) ∧ zs_is S1 (b + 8) 4 = true ∧ M S1 = some (S2, x) ∧ SM b S2 K
def PO (b K : Nat) (W : Option (zq_S × Int32)) (M : zq_S → Option (zq_S × Unit)) : Prop := ∃ (S1 : zq_S) (k : Int32) (S2 : zq_S), W = some (S1, k) ∧ zs_is S1 (b + 8) 4 = true ∧ M S1 = some (S2, ()) ∧ zs_is S2 (b + 8) 4 = true ∧ f_Mo_thrown (b + 8) S2 = some (S2, k) ∧ SM b S2 K
section BQ
variable {b : Nat} {S S' : zq_S} {I : Nat → Int32} {A : Nat → Nat → Int64} {E : Nat → Nat → Int32} {au tr op : Nat} {tx : List Int64} {sn : Nat → List Int64} {ge gw : Nat → Nat} {d u oe ow K : Nat}
theorem PQ_ok (hS : SC b S' au tr op tx sn ge gw d u oe ow) (hkr : KR b S S') (hO : OUT b S) (hM : MC b S I A E) {x : Int32} {W : Option (zq_S × Int32)} {M : zq_S → Option (zq_S × Int32)} (hWr : W = some (S', x)) (hR : ∀ (B : Nat → Option zq_E) (n w : Nat), ∃ (I' : Nat → Int32) (w' : Nat), M (mo (b + 8) I A E B n w) = some (mo (b + 8) I' A E B n w', x) ∧ RM I' A E au tr op tx sn ge gw d u oe ow) (hW : WF op tx sn ge gw d u oe ow) (h8 : au < 8) (h2 : tr < 2) (hK : ow ≤ 1200 * K) : PQ b K W M := by
  obtain ⟨f, hf⟩ := hO
  have hM1 : MC b S' I A E := MC_kr hM (fun q h1 h2 => hkr q h1 (by omega))
  have hov := mo_over (b + 8) I A E hM1
  obtain ⟨I', w', e2, hRM⟩ := hR S'.1 S'.2.1 S'.2.2
  refine ⟨S', x, _, hWr, ?_, ?_, SM_mk hS ⟨f, (hkr _ (by omega) (by omega)).trans hf⟩ hRM hW h8 h2 hK w'⟩
  · rw [hov]; exact mo_is _ _ _ _ _ _ _
  · rw [← hov] at e2; exact e2
theorem PO_ok (hS : SC b S' au tr op tx sn ge gw d u oe ow) (hkr : KR b S S') (hO : OUT b S) (hM : MC b S I A E) {k : Int32} {W : Option (zq_S × Int32)} {M : zq_S → Option (zq_S × Unit)} (hWr : W = some (S', k)) (hR : ∀ (B : Nat → Option zq_E) (n w : Nat), ∃ (I' : Nat → Int32) (w' : Nat), M (mo (b + 8) I A E B n w) = some (mo (b + 8) I' A E B n w', ()) ∧ I' 0 = k ∧ RM I' A E au tr op tx sn ge gw d u oe ow) (hW : WF op tx sn ge gw d u oe ow) (h8 : au < 8) (h2 : tr < 2) (hK : ow ≤ 1200 * K) : PO b K W M := by
  obtain ⟨f, hf⟩ := hO
  have hM1 : MC b S' I A E := MC_kr hM (fun q h1 h2 => hkr q h1 (by omega))
  have hov := mo_over (b + 8) I A E hM1
  obtain ⟨I', w', e2, i0, hRM⟩ := hR S'.1 S'.2.1 S'.2.2
  refine ⟨S', k, _, hWr, ?_, ?_, mo_is _ _ _ _ _ _ _, ?_, SM_mk hS ⟨f, (hkr _ (by omega) (by omega)).trans hf⟩ hRM hW h8 h2 hK w'⟩
  · rw [hov]; exact mo_is _ _ _ _ _ _ _
  · rw [← hov] at e2; exact e2
  · rw [thr, i0]
theorem KR_bump (b : Nat) (S : zq_S) : KR b S (bump S) := fun _ _ _ => rfl
theorem KR_rfl (b : Nat) (S : zq_S) : KR b S S := fun _ _ _ => rfl
theorem p_open (h : SM b S K) : PO b (K + 1) (f_Law_open (some b) S) (fun S => f_Mo_open (b + 8) S) := by
  obtain ⟨I, A, E, au, tr, op, tx, sn, ge, gw, d, u, oe, ow, hS, hM, hO, hR, hW, h8, h2, hK⟩ := h
  by_cases ho : op = 1
  · subst ho
    refine PO_ok (k := 1) (SC_bump hS) (KR_bump b S) hO hM ?_ (fun B n w => ⟨_, _, m_open1 (b + 8) I A E B n w hR.2.2.2.2.1, by simp [va_up], RM_0 hR 1⟩) hW h8 h2 (by omega)
    unfold f_Law_open
    rw [Option.bind_some, if_pos (sc_is hS), c_open1 hS, zt_r]; rfl
  · have ho : op = 0 := by have := hW.2.2.2.2.2.2.2.2.2; omega
    subst ho
    obtain ⟨S', e, hk, hS'⟩ := c_open0 hS
    have hoe : oe = 0 := by
      have := hW.2.2.2.2.2.2.2.2.1
      exact Decidable.byContradiction fun h => absurd (this (by omega)).1 (by decide)
    subst hoe
    have how : ow = 0 := (hW.2.2.2.2.2.2.2.1 rfl).1
    subst how
    refine PO_ok (k := 0) hS' hk hO hM ?_ (fun B n w => ⟨_, _, m_open0 (b + 8) I A E B n w hR.2.2.2.2.1, by simp [va_up], RM_op (RM_0 hR 0)⟩) ?_ h8 h2 (by omega)
    · unfold f_Law_open
      rw [Option.bind_some, if_pos (sc_is hS), e, zt_l]
    · obtain ⟨w1, w2, w3, w4, w5, w6, w7, w8, w9, w10⟩ := hW
      exact ⟨w1, w2, w3, w4, w5, w6, w7, w8, fun h => absurd h (Nat.lt_irrefl 0), by decide⟩
theorem p_close (h : SM b S K) (hK5 : K ≤ 512) : PR b (K + 1) (f_Law_close (some b) (some (b + 17)) S) (fun S => f_Mo_close (b + 8) S) := by
  obtain ⟨I, A, E, au, tr, op, tx, sn, ge, gw, d, u, oe, ow, hS, hM, hO, hR, hW, h8, h2, hK⟩ := h
  by_cases ho : op = 1
  · subst ho
    obtain ⟨S', e, hk, hS0, hS1⟩ := c_close hS hW (by omega) rfl
    have hWr : f_Law_close (some b) (some (b + 17)) S = (zs_las S' (b + 17) 0 (0 : Int32) (nI oe).toInt64).bind fun S11 => some (S11, (0 : Int32)) := by
      unfold f_Law_close
      rw [Option.bind_some, if_pos (sc_is hS), e, zt_l, Option.bind_some]
    by_cases h0 : oe = 0
    · refine PR_ok (hS0 h0) hk hO hM hWr (fun B n w => ?_) ?_ h8 h2 (by omega)
      · obtain ⟨I', A', E', w', e', i0, r, _⟩ := m_close (b + 8) B n hR hW rfl (by omega) rfl w
        exact ⟨I', A', E', w', e', i0, r h0⟩
      · obtain ⟨w1, w2, w3, w4, w5, w6, w7, w8, w9, w10⟩ := hW
        exact ⟨w1, w2, w3, w4, w5, w6, Nat.le_refl 0, fun _ => ⟨rfl, (w8 h0).2⟩, fun h => absurd h (Nat.lt_irrefl 0), by decide⟩
    · refine PR_ok (hS1 (by omega)) hk hO hM hWr (fun B n w => ?_) (WF_end hW hW.1 hW.2.1 (by omega) hW.2.2.2.2.2.2.1 rfl) h8 h2 (by omega)
      obtain ⟨I', A', E', w', e', i0, _, r⟩ := m_close (b + 8) B n hR hW rfl (by omega) rfl w
      exact ⟨I', A', E', w', e', i0, r (by omega)⟩
  · have ho : op = 0 := by have := hW.2.2.2.2.2.2.2.2.2; omega
    subst ho
    refine PR_bad (k := 1) hS hM hO hR hW h8 h2 (by omega) (by decide) ?_ (fun B n w => ⟨_, _, m_close1 (b + 8) I A E B n w hR.2.2.2.2.1⟩)
    unfold f_Law_close
    rw [Option.bind_some, if_pos (sc_is hS), c_close1 hS, zt_r]; rfl
theorem p_undo (h : SM b S K) : PR b (K + 1) (f_Law_undo (some b) (some (b + 17)) S) (fun S => f_Mo_undo (b + 8) S) := by
  obtain ⟨I, A, E, au, tr, op, tx, sn, ge, gw, d, u, oe, ow, hS, hM, hO, hR, hW, h8, h2, hK⟩ := h
  have hd40 := hW.2.2.2.1
  have hop2 := hW.2.2.2.2.2.2.2.2.2
  by_cases hn : op = 1 ∨ d = 0
  · refine PR_bad (k := 1) hS hM hO hR hW h8 h2 (by omega) (by decide) ?_ (fun B n w => ⟨_, _, m_undo1 (b + 8) I A E B n w hR.2.2.2.2.1 hR.2.2.2.2.2.2.1 hop2 (by omega) hn⟩)
    unfold f_Law_undo
    rw [Option.bind_some, if_pos (sc_is hS), c_undo1 hS hop2 (by omega) hn, zt_r]; rfl
  · have ho : op = 0 := by omega
    subst ho
    obtain ⟨S', e, hk, hS'⟩ := c_undo hS hW (by omega)
    refine PR_ok (x := nI (ge (d - 1))) hS' hk hO hM ?_ (fun B n w => ?_) ?_ h8 h2 (by omega)
    · unfold f_Law_undo
      rw [Option.bind_some, if_pos (sc_is hS), e, zt_l, Option.bind_some]
    · obtain ⟨I', A', w', e', i0, r⟩ := m_undo (b + 8) B n hR hW rfl (by omega) w
      exact ⟨I', A', E, w', e', i0, r⟩
    · obtain ⟨w1, w2, w3, w4, w5, w6, w7, w8, w9, w10⟩ := hW
      have hdu : d - 1 + (u + 1) = d + u := by omega
      exact ⟨(w3 (d - 1) (by omega)).1, (w3 (d - 1) (by omega)).2, fun j hj => w3 j (by omega), by omega, by rw [hdu]; exact w5, fun j hj => w6 j (by omega), Nat.le_refl 0, fun _ => ⟨rfl, rfl⟩, fun h => absurd h (Nat.lt_irrefl 0), by decide⟩
theorem p_redo (h : SM b S K) : PR b (K + 1) (f_Law_redo (some b) (some (b + 17)) S) (fun S => f_Mo_redo (b + 8) S) := by
  obtain ⟨I, A, E, au, tr, op, tx, sn, ge, gw, d, u, oe, ow, hS, hM, hO, hR, hW, h8, h2, hK⟩ := h
  have hd40 := hW.2.2.2.1
  have hop2 := hW.2.2.2.2.2.2.2.2.2
  by_cases hn : op = 1 ∨ u = 0
  · refine PR_bad (k := 1) hS hM hO hR hW h8 h2 (by omega) (by decide) ?_ (fun B n w => ⟨_, _, m_redo1 (b + 8) I A E B n w hR.2.2.2.2.1 hR.2.2.2.2.2.2.1 hR.2.2.2.2.2.2.2.1 hop2 (by omega) hn⟩)
    unfold f_Law_redo
    rw [Option.bind_some, if_pos (sc_is hS), c_redo1 hS hop2 (by omega) hn, zt_r]; rfl
  · have ho : op = 0 := by omega
    subst ho
    obtain ⟨S', e, hk, hS'⟩ := c_redo hS hW (by omega)
    refine PR_ok (x := nI (ge d)) hS' hk hO hM ?_ (fun B n w => ?_) ?_ h8 h2 (by omega)
    · unfold f_Law_redo
      rw [Option.bind_some, if_pos (sc_is hS), e, zt_l, Option.bind_some]
    · obtain ⟨I', A', w', e', i0, r⟩ := m_redo (b + 8) B n hR hW rfl (by omega) w
      exact ⟨I', A', E, w', e', i0, r⟩
    · obtain ⟨w1, w2, w3, w4, w5, w6, w7, w8, w9, w10⟩ := hW
      have hdu : d + 1 + (u - 1) = d + u := by omega
      exact ⟨(w3 (d + 1) (by omega)).1, (w3 (d + 1) (by omega)).2, fun j hj => w3 j (by omega), by omega, by rw [hdu]; exact w5, fun j hj => w6 j (by omega), Nat.le_refl 0, fun _ => ⟨rfl, rfl⟩, fun h => absurd h (Nat.lt_irrefl 0), by decide⟩
theorem p_track (h : SM b S K) {v : Nat} (hv : v < 2) : PQ b (K + 1) (f_CT_track b (nI v) S) (fun S => f_Mo_track (b + 8) (nI v) S) := by
  obtain ⟨I, A, E, au, tr, op, tx, sn, ge, gw, d, u, oe, ow, hS, hM, hO, hR, hW, h8, h2, hK⟩ := h
  obtain ⟨S', e, hk, hS'⟩ := c_track hS h2 hv
  exact PQ_ok hS' hk hO hM e (fun B n w => ⟨_, _, m_track (b + 8) I A E B n w hR.2.1 h2 hv, RM_tr (RM_0 hR 0) v⟩) hW h8 hv (by omega)
theorem p_length (h : SM b S K) (v : Int32) : PQ b (K + 1) (f_CT_length b v S) (fun S => f_Mo_length (b + 8) v S) := by
  obtain ⟨I, A, E, au, tr, op, tx, sn, ge, gw, d, u, oe, ow, hS, hM, hO, hR, hW, h8, h2, hK⟩ := h
  by_cases hv : ∃ a, a < 3 ∧ v = nI a
  · obtain ⟨a, ha, rfl⟩ := hv
    exact PQ_ok hS (KR_rfl b S) hO hM (c_len hS ha) (fun B n w => ⟨_, _, m_len (b + 8) I A E B n w ha hR.2.2.1 hW.1 hR.2.2.2.1, RM_0 hR 0⟩) hW h8 h2 (by omega)
  · have hv' : ∀ a, a < 3 → v ≠ nI a := fun a ha e => hv ⟨a, ha, e⟩
    exact PQ_ok hS (KR_rfl b S) hO hM (c_lenb hv') (fun B n w => ⟨_, _, m_len1 (b + 8) I A E B n w hv', RM_0 hR 0⟩) hW h8 h2 (by omega)
theorem p_count (h : SM b S K) (v : Int32) : PQ b (K + 1) (f_CT_count b v S) (fun S => f_Mo_count (b + 8) v S) := by
  obtain ⟨I, A, E, au, tr, op, tx, sn, ge, gw, d, u, oe, ow, hS, hM, hO, hR, hW, h8, h2, hK⟩ := h
  obtain ⟨S', e, hk, hS'⟩ := c_count hS hW v
  exact PQ_ok hS' hk hO hM e (fun B n w => ⟨_, _, m_count (b + 8) B n hR hW v w, RM_0 hR 0⟩) hW h8 h2 (by omega)
theorem p_seen (h : SM b S K) (v1 v2 v3 : Int32) : PR b (K + 1) (f_Law_seen (some b) v1 v2 v3 (some (b + 17)) S) (fun S => f_Mo_seen (b + 8) v1 v2 v3 S) := by
  obtain ⟨I, A, E, au, tr, op, tx, sn, ge, gw, d, u, oe, ow, hS, hM, hO, hR, hW, h8, h2, hK⟩ := h
  by_cases hv : (∃ a, a < 3 ∧ v1 = nI a) ∧ ∃ a, a < 3 ∧ v3 = nI a
  · obtain ⟨⟨a, ha, rfl⟩, ⟨t, ht, rfl⟩⟩ := hv
    have ec := c_seen hS ha ht v2
    have em := fun B n w => m_seen (b + 8) I A E B n w ha ht v2 hR.2.2.1 hW.1 hR.2.2.2.1
    cases hp : plc a v2 tx 0 0 with
    | inl j =>
      rw [hp] at ec
      refine PR_ok (x := nI (seenV a t (fl tx j) j)) hS (KR_rfl b S) hO hM ?_ (fun B n w => ⟨_, _, _, _, (em B n w).trans (by rw [hp]), by simp [va_up], RM_0 hR 0⟩) hW h8 h2 (by omega)
      unfold f_Law_seen
      rw [Option.bind_some, if_pos (sc_is hS), ec, zt_l, Option.bind_some]
    | inr j =>
      rw [hp] at ec
      refine PR_bad (k := 2) hS hM hO hR hW h8 h2 (by omega) (by decide) ?_ (fun B n w => ⟨_, _, (em B n w).trans (by rw [hp])⟩)
      unfold f_Law_seen
      rw [Option.bind_some, if_pos (sc_is hS), ec, zt_r]; rfl
  · have hv' : (∀ a, a < 3 → v1 ≠ nI a) ∨ ∀ a, a < 3 → v3 ≠ nI a := by
      by_cases h1 : ∃ a, a < 3 ∧ v1 = nI a
      · exact Or.inr fun a ha e => hv ⟨h1, a, ha, e⟩
      · exact Or.inl fun a ha e => h1 ⟨a, ha, e⟩
    refine PR_bad (k := 1) hS hM hO hR hW h8 h2 (by omega) (by decide) ?_ (fun B n w => ⟨_, _, m_seen1 (b + 8) I A E B n w v2 hv'⟩)
    unfold f_Law_seen
    rw [Option.bind_some, if_pos (sc_is hS), c_seen1 v2 hv', zt_r]; rfl
theorem p_mark (h : SM b S K) (v1 v2 : Int32) : PR b (K + 1) (f_Law_mark (some b) v1 v2 (some (b + 17)) S) (fun S => f_Mo_mark (b + 8) v1 v2 S) := by
  obtain ⟨I, A, E, au, tr, op, tx, sn, ge, gw, d, u, oe, ow, hS, hM, hO, hR, hW, h8, h2, hK⟩ := h
  by_cases hp : ∃ p, p < tx.length ∧ v1 = nI p
  · obtain ⟨p, hp, rfl⟩ := hp
    by_cases hv : ∃ a, a < 4 ∧ v2 = nI a
    · obtain ⟨a, ha, rfl⟩ := hv
      refine PR_ok hS (KR_rfl b S) hO hM ?_ (fun B n w => ⟨_, _, _, _, m_mark (b + 8) I A E B n w hR.2.2.1 hW.1 hR.2.2.2.1 hp ha, by simp [va_up], RM_0 hR 0⟩) hW h8 h2 (by omega)
      unfold f_Law_mark
      rw [Option.bind_some, if_pos (sc_is hS), c_mark hS hW.1 hp ha, zt_l, Option.bind_some]
    · have hv' : ∀ a, a < 4 → v2 ≠ nI a := fun a ha e => hv ⟨a, ha, e⟩
      refine PR_bad (k := 2) hS hM hO hR hW h8 h2 (by omega) (by decide) ?_ (fun B n w => ⟨_, _, m_mark2 (b + 8) I A E B n w hR.2.2.1 hW.1 hp hv'⟩)
      unfold f_Law_mark
      rw [Option.bind_some, if_pos (sc_is hS), c_mark2 hS hW.1 hp hv', zt_r]; rfl
  · have hp' : ∀ p, p < tx.length → v1 ≠ nI p := fun a ha e => hp ⟨a, ha, e⟩
    refine PR_bad (k := 1) hS hM hO hR hW h8 h2 (by omega) (by decide) ?_ (fun B n w => ⟨_, _, m_mark1 (b + 8) I A E B n w hR.2.2.1 hW.1 hp'⟩)
    unfold f_Law_mark
    rw [Option.bind_some, if_pos (sc_is hS), c_mark1 hS hW.1 hp', zt_r]; rfl
theorem p_next (h : SM b S K) (v1 v2 : Int32) : PR b (K + 1) (f_Law_next (some b) v1 v2 (some (b + 17)) S) (fun S => f_Mo_next (b + 8) v1 v2 S) := by
  obtain ⟨I, A, E, au, tr, op, tx, sn, ge, gw, d, u, oe, ow, hS, hM, hO, hR, hW, h8, h2, hK⟩ := h
  by_cases hp : PLC v1 tx.length
  · by_cases hv : SET v2
    · obtain ⟨p, rfl, hp⟩ := hp
      obtain ⟨a, rfl, h1, ha⟩ := hv
      refine PR_ok hS (KR_rfl b S) hO hM ?_ (fun B n w => ⟨_, _, _, _, m_next (b + 8) I A E B n w hR.2.2.1 hW.1 hR.2.2.2.1 hp h1 ha, by simp [va_up], RM_0 hR 0⟩) hW h8 h2 (by omega)
      unfold f_Law_next
      rw [Option.bind_some, if_pos (sc_is hS), c_next hS hW.1 hp h1 ha, zt_l, Option.bind_some]; rfl
    · refine PR_bad (k := 2) hS hM hO hR hW h8 h2 (by omega) (by decide) ?_ (fun B n w => ⟨_, _, m_next2 (b + 8) I A E B n w hR.2.2.1 hW.1 hp hv⟩)
      unfold f_Law_next
      rw [Option.bind_some, if_pos (sc_is hS), c_next2 hS hW.1 hp hv, zt_r]; rfl
  · refine PR_bad (k := 1) hS hM hO hR hW h8 h2 (by omega) (by decide) ?_ (fun B n w => ⟨_, _, m_next1 (b + 8) I A E B n w hR.2.2.1 hW.1 hp⟩)
    unfold f_Law_next
    rw [Option.bind_some, if_pos (sc_is hS), c_next1 hS hW.1 hp, zt_r]; rfl
end BQ
