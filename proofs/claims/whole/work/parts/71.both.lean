/-! each call of the law: class and reference answer alike -/
section BO
variable {b : Nat} {S S' : zq_S} {I : Nat → Int32} {A : Nat → Nat → Int64} {E : Nat → Nat → Int32} {au tr op : Nat} {tx nw : List Int64} {sn : Nat → List Int64} {ge gw : Nat → Nat} {d u oe ow K : Nat}
theorem sc_is (h : SC b S au tr op tx sn ge gw d u oe ow) : zs_is S b 3 = true := by obtain ⟨q, h⟩ := h; exact sd_is h
theorem RM_au (h : RM I A E au tr op tx sn ge gw d u oe ow) (a : Nat) : RM (va_up I 1 (nI a)) A E a tr op tx sn ge gw d u oe ow := by
  obtain ⟨r1, r2, r3, r4, r17, r18, r12, r13, rE, rC, r7, rB, r9, r9'⟩ := h
  exact ⟨by simp [va_up], by simp [va_up, r2], by simp [va_up, r3], r4, by simp [va_up, r17], fun h => by simp [va_up, r18 h], by simp [va_up, r12], by simp [va_up, r13], rE, rC, by simp [va_up, r7], rB, fun h => by simp [va_up, r9 h], fun h h' => by simpa [va_up] using r9' h h'⟩
theorem RM_tr (h : RM I A E au tr op tx sn ge gw d u oe ow) (a : Nat) : RM (va_up I 2 (nI a)) A E au a op tx sn ge gw d u oe ow := by
  obtain ⟨r1, r2, r3, r4, r17, r18, r12, r13, rE, rC, r7, rB, r9, r9'⟩ := h
  exact ⟨by simp [va_up, r1], by simp [va_up], by simp [va_up, r3], r4, by simp [va_up, r17], fun h => by simp [va_up, r18 h], by simp [va_up, r12], by simp [va_up, r13], rE, rC, by simp [va_up, r7], rB, fun h => by simp [va_up, r9 h], fun h h' => by simpa [va_up] using r9' h h'⟩
theorem RM_op (h : RM I A E au tr 0 tx sn ge gw d u 0 0) : RM (va_up (va_up (va_up I 17 1) 18 0) 19 0) A E au tr 1 tx sn ge gw d u 0 0 := by
  obtain ⟨r1, r2, r3, r4, r17, r18, r12, r13, rE, rC, r7, rB, r9, r9'⟩ := h
  exact ⟨by simp [va_up, r1], by simp [va_up, r2], by simp [va_up, r3], r4, by simp [va_up]; rfl, fun h => ⟨by simp [va_up]; rfl, by simp [va_up]; rfl⟩, by simp [va_up, r12], by simp [va_up, r13], rE, rC, by simp [va_up, r7], rB, fun h => by simp [va_up, r9 h], fun h h' => absurd h (Nat.lt_irrefl 0)⟩
theorem PR_edit (hS : EDC b S' au tr op tx sn ge gw d u oe ow nw) (hkr : KR b S S') (hO : OUT b S) (hM : MC b S I A E) {x : Int32} {W : Option (zq_S × Int32)} {M : zq_S → Option (zq_S × Int32)} (hWr : W = (zs_las S' (b + 17) 0 (0 : Int32) x.toInt64).bind fun S11 => some (S11, (0 : Int32))) {o : Nat} (ho : o = fgt (d + 1) (va_up gw d (wt nw tx))) (hR : ∀ (B : Nat → Option zq_E) (n w : Nat), ∃ (I' : Nat → Int32) (A' : Nat → Nat → Int64) (E' : Nat → Nat → Int32) (w' : Nat), M (mo (b + 8) I A E B n w) = some (mo (b + 8) I' A' E' B n w', x) ∧ I' 0 = 0 ∧ (wt nw tx = 0 → RM I' A' E' au tr op tx sn ge gw d u oe ow) ∧ (wt nw tx ≠ 0 → op = 1 → RM I' A' E' au tr 1 nw sn ge gw d 0 (oe + 1) (ow + wt nw tx)) ∧ (wt nw tx ≠ 0 → op = 0 → RM I' A' E' au tr 0 nw (sh o (va_up sn (d + 1) nw)) (sh o (va_up ge d 1)) (sh o (va_up gw d (wt nw tx))) (d + 1 - o) 0 0 0)) (hW : WF op tx sn ge gw d u oe ow) (hn : nw.length ≤ 600) (hV : ∀ x ∈ nw, V x) (h8 : au < 8) (h2 : tr < 2) (hK : ow ≤ 1200 * K) : PR b (K + 1) W M := by
  subst ho
  by_cases h0 : wt nw tx = 0
  · refine PR_ok (hS.1 h0) hkr hO hM hWr (fun B n w => ?_) hW h8 h2 (by omega)
    obtain ⟨I', A', E', w', e, i0, r, _⟩ := hR B n w
    exact ⟨I', A', E', w', e, i0, r h0⟩
  · have hle := wt_le hn hW.1
    by_cases ho : op = 1
    · refine PR_ok (hS.2.1 h0 ho) hkr hO hM hWr (fun B n w => ?_) (WF_open hW hn hV (by omega) ho) h8 h2 (by omega)
      obtain ⟨I', A', E', w', e, i0, _, r, _⟩ := hR B n w
      exact ⟨I', A', E', w', e, i0, r h0 ho⟩
    · have ho : op = 0 := by have := hW.2.2.2.2.2.2.2.2.2; omega
      refine PR_ok (hS.2.2 h0 ho) hkr hO hM hWr (fun B n w => ?_) (WF_end hW hn hV (Nat.le_refl 1) (by omega) rfl) h8 h2 (by omega)
      obtain ⟨I', A', E', w', e, i0, _, _, r⟩ := hR B n w
      exact ⟨I', A', E', w', e, i0, r h0 ho⟩
theorem p_author (h : SM b S K) (v : Int32) : PR b (K + 1) (f_Law_author (some b) v (some (b + 17)) S) (fun S => f_Mo_author (b + 8) v S) := by
  obtain ⟨I, A, E, au, tr, op, tx, sn, ge, gw, d, u, oe, ow, hS, hM, hO, hR, hW, h8, h2, hK⟩ := h
  by_cases hv : ∃ a, a < 8 ∧ v = nI a
  · obtain ⟨a, ha, rfl⟩ := hv
    obtain ⟨S', e, hk, hS'⟩ := c_author hS ha S
    refine PR_ok (x := nI au) hS' hk hO hM ?_ (fun B n w => ⟨_, _, _, _, (m_author_good (b + 8) I A E B n w ha).trans (by rw [hR.1]), by simp [va_up], RM_au (RM_0 hR 0) a⟩) hW ha h2 (by omega)
    unfold f_Law_author
    rw [Option.bind_some, if_pos (sc_is hS), e, zt_l, Option.bind_some]
  · have hv' : ∀ a, a < 8 → v ≠ nI a := fun a ha e => hv ⟨a, ha, e⟩
    refine PR_bad (k := 1) hS hM hO hR hW h8 h2 (by omega) (by decide) ?_ (fun B n w => ⟨_, _, m_author_bad (b + 8) I A E B n w hv'⟩)
    unfold f_Law_author
    rw [Option.bind_some, if_pos (sc_is hS), c_authorb hv', zt_r, if_pos rfl]
theorem p_insert (h : SM b S K) (hK5 : K ≤ 512) (v1 : Int32) (s : Int64) (v4 : Int32) : PR b (K + 1) (f_Law_insert (some b) v1 s v4 (some (b + 17)) S) (fun S => f_Mo_insert (b + 8) v1 s v4 S) := by
  obtain ⟨I, A, E, au, tr, op, tx, sn, ge, gw, d, u, oe, ow, hS, hM, hO, hR, hW, h8, h2, hK⟩ := h
  by_cases hp : PLC v1 tx.length
  · by_cases hf : BYT v4 ∧ nc s ≠ 0
    · obtain ⟨⟨f, rfl, hf⟩, hn⟩ := hf
      obtain ⟨pl, rfl, hp⟩ := hp
      by_cases h600 : tx.length + nc s ≤ 600
      · obtain ⟨S', e, hk, hE⟩ := c_insert hS hW h8 h2 (by omega) hf hp hn h600
        have hP : PK 0 au tr f pl (nc s) s tx := ⟨by decide, h8, h2, hf, by omega, hp, fun _ => ⟨by omega, h600⟩, hW.1, hW.2.1, fun h => absurd rfl h⟩
        refine PR_edit (x := nI (an 0 au tr f pl (nc s) s tx)) hE hk hO hM ?_ rfl (fun B n w => ?_) hW (ed_len hP) (ed_V hP) h8 h2 hK
        · unfold f_Law_insert
          rw [Option.bind_some, if_pos (sc_is hS), e, zt_l, Option.bind_some]; rfl
        · show ∃ I' A' E' w', f_Mo_insert _ _ _ _ _ = _ ∧ _
          rw [m_ins (b + 8) I A E B n w hR.2.2.1 hW.1 hp hf hn, if_pos h600]
          exact m_edit (b + 8) B n (RM_0 hR 0) hW hP (by omega) rfl rfl (w + 1)
      · refine PR_bad (k := 3) hS hM hO hR hW h8 h2 (by omega) (by decide) ?_ (fun B n w => ⟨_, _, (m_ins (b + 8) I A E B n w hR.2.2.1 hW.1 hp hf hn).trans (if_neg h600)⟩)
        unfold f_Law_insert
        rw [Option.bind_some, if_pos (sc_is hS), c_ins3 hS hW.1 hf hp hn h600, zt_r]; rfl
    · have h3 : ¬ BYT v4 ∨ nc s = 0 := by
        by_cases hb : BYT v4
        · exact Or.inr (Decidable.byContradiction fun h => hf ⟨hb, h⟩)
        · exact Or.inl hb
      refine PR_bad (k := 2) hS hM hO hR hW h8 h2 (by omega) (by decide) ?_ (fun B n w => ⟨_, _, m_ins2 (b + 8) I A E B n w hR.2.2.1 hW.1 hp h3⟩)
      unfold f_Law_insert
      rw [Option.bind_some, if_pos (sc_is hS), c_ins2 hS hW.1 hp h3, zt_r]; rfl
  · refine PR_bad (k := 1) hS hM hO hR hW h8 h2 (by omega) (by decide) ?_ (fun B n w => ⟨_, _, m_ins1 (b + 8) I A E B n w hR.2.2.1 hW.1 hp⟩)
    unfold f_Law_insert
    rw [Option.bind_some, if_pos (sc_is hS), c_ins1 hS hW.1 hp, zt_r]; rfl
theorem p_erase (h : SM b S K) (hK5 : K ≤ 512) (v1 v2 : Int32) : PR b (K + 1) (f_Law_erase (some b) v1 v2 (some (b + 17)) S) (fun S => f_Mo_erase (b + 8) v1 v2 S) := by
  obtain ⟨I, A, E, au, tr, op, tx, sn, ge, gw, d, u, oe, ow, hS, hM, hO, hR, hW, h8, h2, hK⟩ := h
  have h6 := hW.1
  by_cases hr : RNG v1 v2 tx.length
  · have hr0 := hr
    obtain ⟨pl, m, rfl, rfl, hpm⟩ := hr
    obtain ⟨S', e, hk, hE⟩ := c_erase hS hW h8 h2 (by omega) hpm
    have hP : PK 1 au tr 0 pl m 0 tx := ⟨by decide, h8, h2, by decide, by omega, by omega, fun h => absurd h (by decide), hW.1, hW.2.1, fun _ => hpm⟩
    refine PR_edit (x := nI (an 1 au tr 0 pl m 0 tx)) hE hk hO hM ?_ rfl (fun B n w => ?_) hW (ed_len hP) (ed_V hP) h8 h2 hK
    · unfold f_Law_erase
      rw [Option.bind_some, if_pos (sc_is hS), e, zt_l, Option.bind_some]; rfl
    · show ∃ I' A' E' w', f_Mo_erase _ _ _ _ = _ ∧ _
      rw [m_ers (b + 8) I A E B n w hR.2.2.1 hW.1 hr0]
      exact m_edit (b + 8) B n hR hW hP (by omega) rfl rfl w
  · refine PR_bad (k := 1) hS hM hO hR hW h8 h2 (by omega) (by decide) ?_ (fun B n w => ⟨_, _, m_ers1 (b + 8) I A E B n w hR.2.2.1 hW.1 hr⟩)
    unfold f_Law_erase
    rw [Option.bind_some, if_pos (sc_is hS), c_ers1 hS hW.1 hr, zt_r]; rfl
theorem p_format (h : SM b S K) (hK5 : K ≤ 512) (v1 v2 v3 : Int32) : PR b (K + 1) (f_Law_format (some b) v1 v2 v3 (some (b + 17)) S) (fun S => f_Mo_format (b + 8) v1 v2 v3 S) := by
  obtain ⟨I, A, E, au, tr, op, tx, sn, ge, gw, d, u, oe, ow, hS, hM, hO, hR, hW, h8, h2, hK⟩ := h
  have h6 := hW.1
  by_cases hr : RNG v1 v2 tx.length
  · by_cases h3 : BYT v3
    · have hr0 := hr
      have h30 := h3
      obtain ⟨pl, m, rfl, rfl, hpm⟩ := hr
      obtain ⟨f, rfl, hf⟩ := h3
      obtain ⟨S', e, hk, hE⟩ := c_format hS hW h8 h2 (by omega) hf hpm
      have hP : PK 2 au tr f pl m 0 tx := ⟨by decide, h8, h2, hf, by omega, by omega, fun h => absurd h (by decide), hW.1, hW.2.1, fun _ => hpm⟩
      refine PR_edit (x := nI (an 2 au tr f pl m 0 tx)) hE hk hO hM ?_ rfl (fun B n w => ?_) hW (ed_len hP) (ed_V hP) h8 h2 hK
      · unfold f_Law_format
        rw [Option.bind_some, if_pos (sc_is hS), e, zt_l, Option.bind_some]
      · show ∃ I' A' E' w', f_Mo_format _ _ _ _ _ = _ ∧ _
        rw [m_fmt (b + 8) I A E B n w hR.2.2.1 hW.1 hr0 h30]
        exact m_edit (b + 8) B n (RM_0 hR 0) hW hP (by omega) rfl rfl (w + 1)
    · refine PR_bad (k := 2) hS hM hO hR hW h8 h2 (by omega) (by decide) ?_ (fun B n w => ⟨_, _, m_fmt2 (b + 8) I A E B n w hR.2.2.1 hW.1 hr h3⟩)
      unfold f_Law_format
      rw [Option.bind_some, if_pos (sc_is hS), c_fmt2 hS hW.1 hr h3, zt_r]; rfl
  · refine PR_bad (k := 1) hS hM hO hR hW h8 h2 (by omega) (by decide) ?_ (fun B n w => ⟨_, _, m_fmt1 (b + 8) I A E B n w hR.2.2.1 hW.1 hr⟩)
    unfold f_Law_format
    rw [Option.bind_some, if_pos (sc_is hS), c_fmt1 hS hW.1 hr, zt_r]; rfl
theorem p_accept (h : SM b S K) (hK5 : K ≤ 512) (v1 v2 v3 : Int32) : PR b (K + 1) (f_Law_accept (some b) v1 v2 v3 (some (b + 17)) S) (fun S => f_Mo_accept (b + 8) v1 v2 v3 S) := by
  obtain ⟨I, A, E, au, tr, op, tx, sn, ge, gw, d, u, oe, ow, hS, hM, hO, hR, hW, h8, h2, hK⟩ := h
  have h6 := hW.1
  by_cases hr : RNG v1 v2 tx.length
  · by_cases h3 : SET v3
    · have hr0 := hr
      have h30 := h3
      obtain ⟨pl, m, rfl, rfl, hpm⟩ := hr
      obtain ⟨f, rfl, hf1, hf⟩ := h3
      obtain ⟨S', e, hk, hE⟩ := c_accept hS hW h8 (by omega) hf1 hf hpm
      have hP : PK 3 au tr f pl m 0 tx := ⟨by decide, h8, h2, hf, by omega, by omega, fun h => absurd h (by decide), hW.1, hW.2.1, fun _ => hpm⟩
      refine PR_edit (x := nI (an 3 au tr f pl m 0 tx)) hE hk hO hM ?_ rfl (fun B n w => ?_) hW (ed_len hP) (ed_V hP) h8 h2 hK
      · unfold f_Law_accept
        rw [Option.bind_some, if_pos (sc_is hS), e, zt_l, Option.bind_some]
      · show ∃ I' A' E' w', f_Mo_accept _ _ _ _ _ = _ ∧ _
        rw [m_acc (b + 8) I A E B n w hR.2.2.1 hW.1 hr0 h30]
        exact m_edit (b + 8) B n (RM_0 hR 0) hW hP (by omega) rfl rfl (w + 1)
    · refine PR_bad (k := 2) hS hM hO hR hW h8 h2 (by omega) (by decide) ?_ (fun B n w => ⟨_, _, m_acc2 (b + 8) I A E B n w hR.2.2.1 hW.1 hr h3⟩)
      unfold f_Law_accept
      rw [Option.bind_some, if_pos (sc_is hS), c_acc2 hS hW.1 hr h3, zt_r]; rfl
  · refine PR_bad (k := 1) hS hM hO hR hW h8 h2 (by omega) (by decide) ?_ (fun B n w => ⟨_, _, m_acc1 (b + 8) I A E B n w hR.2.2.1 hW.1 hr⟩)
    unfold f_Law_accept
    rw [Option.bind_some, if_pos (sc_is hS), c_acc1 hS hW.1 hr, zt_r]; rfl
theorem p_reject (h : SM b S K) (hK5 : K ≤ 512) (v1 v2 v3 : Int32) : PR b (K + 1) (f_Law_reject (some b) v1 v2 v3 (some (b + 17)) S) (fun S => f_Mo_reject (b + 8) v1 v2 v3 S) := by
  obtain ⟨I, A, E, au, tr, op, tx, sn, ge, gw, d, u, oe, ow, hS, hM, hO, hR, hW, h8, h2, hK⟩ := h
  have h6 := hW.1
  by_cases hr : RNG v1 v2 tx.length
  · by_cases h3 : SET v3
    · have hr0 := hr
      have h30 := h3
      obtain ⟨pl, m, rfl, rfl, hpm⟩ := hr
      obtain ⟨f, rfl, hf1, hf⟩ := h3
      obtain ⟨S', e, hk, hE⟩ := c_reject hS hW h8 (by omega) hf1 hf hpm
      have hP : PK 4 au tr f pl m 0 tx := ⟨by decide, h8, h2, hf, by omega, by omega, fun h => absurd h (by decide), hW.1, hW.2.1, fun _ => hpm⟩
      refine PR_edit (x := nI (an 4 au tr f pl m 0 tx)) hE hk hO hM ?_ rfl (fun B n w => ?_) hW (ed_len hP) (ed_V hP) h8 h2 hK
      · unfold f_Law_reject
        rw [Option.bind_some, if_pos (sc_is hS), e, zt_l, Option.bind_some]
      · show ∃ I' A' E' w', f_Mo_reject _ _ _ _ _ = _ ∧ _
        rw [m_rej (b + 8) I A E B n w hR.2.2.1 hW.1 hr0 h30]
        exact m_edit (b + 8) B n (RM_0 hR 0) hW hP (by omega) rfl rfl (w + 1)
    · refine PR_bad (k := 2) hS hM hO hR hW h8 h2 (by omega) (by decide) ?_ (fun B n w => ⟨_, _, m_rej2 (b + 8) I A E B n w hR.2.2.1 hW.1 hr h3⟩)
      unfold f_Law_reject
      rw [Option.bind_some, if_pos (sc_is hS), c_rej2 hS hW.1 hr h3, zt_r]; rfl
  · refine PR_bad (k := 1) hS hM hO hR hW h8 h2 (by omega) (by decide) ?_ (fun B n w => ⟨_, _, m_rej1 (b + 8) I A E B n w hR.2.2.1 hW.1 hr⟩)
    unfold f_Law_reject
    rw [Option.bind_some, if_pos (sc_is hS), c_rej1 hS hW.1 hr, zt_r]; rfl
end BO
