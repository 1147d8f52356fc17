/-! the reference forgets groups and ends one -/
def sh {α : Type} (o : Nat) (f : Nat → α) : Nat → α := fun j => f (j + o)
theorem sh_0 {α : Type} (f : Nat → α) : sh 0 f = f := rfl
theorem sh_1 {α : Type} (o : Nat) (f : Nat → α) : sh o (sh 1 f) = sh (o + 1) f := by
  funext j; show f (j + o + 1) = f (j + (o + 1)); rw [Nat.add_assoc]
def RG (I : Nat → Int32) (A : Nat → Nat → Int64) (E : Nat → Nat → Int32) (ge gw : Nat → Nat) (sn : Nat → List Int64) (d : Nat) : Prop :=
  I 12 = nI d ∧ (∀ j, j < d → E 0 j = nI (sm ge 0 (j + 1)) ∧ E 1 j = nI (ge j) ∧ E 2 j = nI (gw j)) ∧ (∀ j, j < d → CH (A 3) (A 4) (sm ge 0 j) (ge j) (sn j) (sn (j + 1))) ∧ I 7 = nI (sn 0).length ∧ rp (A 2) (sn 0) ∧ (sn 0).length ≤ 600
def KP (I I' : Nat → Int32) : Prop := I' 0 = I 0 ∧ I' 1 = I 1 ∧ I' 2 = I 2 ∧ I' 17 = I 17 ∧ I' 18 = I 18 ∧ I' 19 = I 19
theorem KP_r (I : Nat → Int32) : KP I I := ⟨rfl, rfl, rfl, rfl, rfl, rfl⟩
theorem KP_t {I J K : Nat → Int32} (h : KP I J) (h' : KP J K) : KP I K := by
  obtain ⟨a, b, c, d, e, f⟩ := h
  obtain ⟨a', b', c', d', e', f'⟩ := h'
  exact ⟨a'.trans a, b'.trans b, c'.trans c, d'.trans d, e'.trans e, f'.trans f⟩
theorem sm_mono (f : Nat → Nat) {j d : Nat} (h : j ≤ d) : sm f 0 j ≤ sm f 0 d := by
  have := sm_add f j 0 (d - j)
  rw [show j + (d - j) = d by omega] at this; omega
theorem sm_sh1 (f : Nat → Nat) (k : Nat) : sm f 0 (k + 1) = f 0 + sm (sh 1 f) 0 k := by
  show f 0 + sm f 1 k = _
  rw [← sm_sh f k 0]; rfl
section FF
variable (c : Nat) (B : Nat → Option zq_E) (n : Nat)
theorem m_ff {I : Nat → Int32} {A : Nat → Nat → Int64} {E : Nat → Nat → Int32} {ge gw : Nat → Nat} {sn : Nat → List Int64} {d : Nat} {l : List Int64} (h : RG I A E ge gw sn (d + 1)) (h9 : I 9 = nI (sm ge 0 (d + 1))) (hd : d + 1 ≤ 42) (hs : sm ge 0 (d + 1) ≤ 6000) (hl : I 3 = nI l.length) (hr : rp (A 0) l) (h6 : l.length ≤ 600) (w : Nat) : ∃ (I' : Nat → Int32) (A' : Nat → Nat → Int64) (E' : Nat → Nat → Int32) (w' : Nat), f_Mo_forgetFirst c (mo c I A E B n w) = some (mo c I' A' E' B n w', ()) ∧ RG I' A' E' (sh 1 ge) (sh 1 gw) (sh 1 sn) d ∧ I' 9 = nI (sm (sh 1 ge) 0 d) ∧ I' 3 = nI l.length ∧ rp (A' 0) l ∧ I' 13 = nI d ∧ KP I I' := by
  obtain ⟨h12, hE, hC, h7, hB, hb6⟩ := h
  have hN : E 0 0 = nI (ge 0) := by rw [(hE 0 (by omega)).1]; rfl
  have hsd : sm ge 0 (d + 1) = ge 0 + sm (sh 1 ge) 0 d := sm_sh1 ge d
  obtain ⟨W1, w1, e1, k1⟩ := m_keepWas c I E B n hl h6 A w
  obtain ⟨W2, w2, e2, k2⟩ := m_fromBase c (va_up I 5 (nI l.length)) E B n (len := (sn 0).length) (by simp [va_up, h7]) hb6 (va_up A 1 W1) w1
  have hc0 := hC 0 (by omega)
  have hr2 : rp W2 (sn 0) := rp_len hB (fun i hi => by rw [k2 i hi]; simp [va_up])
  have hlen1 : (sn 1).length ≤ 600 := CH_len _ _ _ hc0 hb6
  obtain ⟨g3, w3, e3, hg3⟩ := l_ff19 c E B n (N := ge 0) (by omega) (l' := sn 1) (ge 0) zq_F 0 (sn 0) (va_up (va_up I 5 (nI l.length)) 3 (nI (sn 0).length)) (va_up (va_up A 1 W1) 0 W2) w2 (by omega) (zF_lt (by omega)) (va_up_self _ _ _) (by rw [va_up_self]; exact hr2) (by simpa [va_up, sm] using hc0)
  obtain ⟨W4, w4, e4, k4⟩ := m_toBase c (va_up (va_up (va_up I 5 (nI l.length)) 3 (nI (sn 0).length)) 3 (nI (sn 1).length)) E B n (len := (sn 1).length) (va_up_self _ _ _) hlen1 (va_up (va_up (va_up A 1 W1) 0 W2) 0 g3) w3
  obtain ⟨W5, w5, e5, k5, k5'⟩ := l_ff61 c E B n (va_up (va_up (va_up (va_up (va_up I 5 (nI l.length)) 3 (nI (sn 0).length)) 3 (nI (sn 1).length)) 7 (nI (sn 1).length)) 3 (nI l.length)) (len := l.length) (N := ge 0) (va_up_self _ _ _) h6 l.length zq_F 0 (va_up (va_up (va_up (va_up A 1 W1) 0 W2) 0 g3) 2 W4) (w4 + 1) (by omega) (zF_lt (by omega))
  obtain ⟨C, D, w6, e6, k6, k6'⟩ := l_ff89 c E B n (va_up (va_up (va_up (va_up (va_up I 5 (nI l.length)) 3 (nI (sn 0).length)) 3 (nI (sn 1).length)) 7 (nI (sn 1).length)) 3 (nI l.length)) (dn := sm ge 0 (d + 1)) (N := ge 0) (by simp [va_up, h9]) hs (sm ge 0 (d + 1) - ge 0) zq_F (ge 0) (va_up (va_up (va_up (va_up (va_up A 1 W1) 0 W2) 0 g3) 2 W4) 0 W5) w5 (by omega) (by omega) (zF_lt (by omega))
  obtain ⟨E7, w7, e7, k7, k7'⟩ := l_ff143 c B n (va_up (va_up (va_up (va_up (va_up (va_up I 5 (nI l.length)) 3 (nI (sn 0).length)) 3 (nI (sn 1).length)) 7 (nI (sn 1).length)) 3 (nI l.length)) 9 (nI (sm ge 0 (d + 1) - ge 0))) (va_up (va_up (va_up (va_up (va_up (va_up (va_up A 1 W1) 0 W2) 0 g3) 2 W4) 0 W5) 3 C) 4 D) (d := d + 1) (N := ge 0) (by simp [va_up, h12]) (by omega) (by omega) d zq_F 1 E w6 (by omega) (by omega) (zF_lt (by omega))
  refine ⟨_, _, E7, w7, Eq.trans ?_ e7, ⟨?_, fun j hj => ?_, fun j hj => ?_, ?_, ?_, ?_⟩, ?_, ?_, ?_, ?_, ?_⟩
  · unfold f_Mo_forgetFirst
    simp only [mo_is, if_true, e1, zb_S, e2, mo_r14, Option.bind_some]
    rw [← nI_0, mo_i0 (hi := by decide), Option.bind_some, hN, e3]
    unfold ff2 f_Mo_forgetFirst_19
    rw [if_pos (nI_le (Nat.le_refl _) (by omega))]
    simp only [mo_is, if_true, e4, zb_S, mo_g5, Option.bind_some, mo_p3]
    have q5 : va_up (va_up (va_up (va_up I 5 (nI l.length)) 3 (nI (sn 0).length)) 3 (nI (sn 1).length)) 7 (nI (sn 1).length) 5 = nI l.length := by simp [va_up]
    rw [q5, ← nI_0, e5, e6]
    rfl
  · simp [va_up]
  · have := k7' j (by omega) (by omega)
    rw [this.1, this.2.1, this.2.2, (hE (j + 1) (by omega)).1, (hE (j + 1) (by omega)).2.1, (hE (j + 1) (by omega)).2.2]
    refine ⟨?_, rfl, rfl⟩
    have := sm_sh1 ge (j + 1)
    rw [nI_sub (by omega)]
    congr 1; omega
  · have h1 := hC (j + 1) (by omega)
    have h2 := sm_sh1 ge j
    have h3 : sm (sh 1 ge) 0 (j + 1) ≤ sm (sh 1 ge) 0 d := sm_mono _ (by omega)
    have h4 := sm_r (sh 1 ge) j 0
    have h5 : sh 1 ge (0 + j) = ge (j + 1) := by rw [Nat.zero_add]; rfl
    refine CH_sh (o := ge 0) _ _ _ (fun x hx hx2 => ?_) (show CH (A 3) (A 4) (sm (sh 1 ge) 0 j + ge 0) (sh 1 ge j) (sh 1 sn j) (sh 1 sn (j + 1)) from ?_)
    · have h6 : sh 1 ge j = ge (j + 1) := rfl
      have := k6' x (by omega) (by omega)
      simp [va_up] at this
      simp [va_up]
      exact this
    · rw [show sm (sh 1 ge) 0 j + ge 0 = sm ge 0 (j + 1) by omega]
      exact h1
  · simp [va_up]; rfl
  · have : rp W4 (sn 1) := rp_len hg3 (fun i hi => by rw [k4 i hi]; simp [va_up])
    simpa [va_up, sh] using this
  · exact hlen1
  · simp [va_up]; congr 1; omega
  · simp [va_up]
  · have : rp W5 l := rp_len hr (fun i hi => by rw [k5' i (by omega) hi]; simp [va_up]; exact k1 i hi)
    simpa [va_up] using this
  · simp [va_up]
  · unfold KP; simp [va_up]
/-- how many groups are forgotten -/
def fgt : Nat → (Nat → Nat) → Nat
  | 0, _ => 0
  | d + 1, gw => if 40 < d + 1 ∨ 3000 < sm gw 0 (d + 1) then fgt d (sh 1 gw) + 1 else 0
theorem fgt_le : ∀ d gw, fgt d gw ≤ d := by
  intro d
  induction d with
  | zero => intro gw; exact Nat.le_refl _
  | succ d ih => intro gw; unfold fgt; split; have := ih (sh 1 gw); omega; omega
theorem l_eg {l : List Int64} (h6 : l.length ≤ 600) : ∀ (d fuel : Nat) (I : Nat → Int32) (A : Nat → Nat → Int64) (E : Nat → Nat → Int32) (ge gw : Nat → Nat) (sn : Nat → List Int64) (w : Nat), d < fuel → RG I A E ge gw sn d → I 9 = nI (sm ge 0 d) → d ≤ 42 → sm ge 0 d ≤ 6000 → sm gw 0 d < 2 ^ 31 → I 3 = nI l.length → rp (A 0) l → I 13 = nI d → ∃ (I' : Nat → Int32) (A' : Nat → Nat → Int64) (E' : Nat → Nat → Int32) (w' : Nat), g_Mo_endGroup_80 fuel c (mo c I A E B n w) = some (mo c I' A' E' B n w', ()) ∧ RG I' A' E' (sh (fgt d gw) ge) (sh (fgt d gw) gw) (sh (fgt d gw) sn) (d - fgt d gw) ∧ I' 9 = nI (sm (sh (fgt d gw) ge) 0 (d - fgt d gw)) ∧ I' 3 = nI l.length ∧ rp (A' 0) l ∧ I' 13 = nI (d - fgt d gw) ∧ KP I I' := by
  intro d
  induction d with
  | zero =>
    intro fuel I A E ge gw sn w hf h h9 hd hs hg hl hr h13
    obtain ⟨fuel, rfl⟩ : ∃ m, fuel = m + 1 := ⟨fuel - 1, by omega⟩
    refine ⟨I, A, E, w, ?_, h, h9, hl, hr, h13, KP_r I⟩
    show f_Mo_endGroup_80 _ _ _ = _
    unfold f_Mo_endGroup_80
    simp only [mo_is, mo_g0, mo_g1, mo_g2, mo_g3, mo_g5, mo_g7, mo_g9, mo_g12, mo_g13, mo_g17, mo_g18, mo_g19, mo_r4, mo_r6, mo_r8, mo_r10, mo_r11, mo_r14, mo_r15, mo_r16, mo_p0, mo_p1, mo_p2, mo_p3, mo_p5, mo_p7, mo_p9, mo_p12, mo_p13, mo_p17, mo_p18, mo_p19, Option.bind_some, zb_S, h.1, if_true]
    rw [← nI_0, m_wOf c I A E B n w (gw := gw) (Nat.le_refl 0) (by decide) (fun j hj => absurd hj (by omega)), zb_S, if_neg (by decide), if_pos (show nI (sm gw 0 (0 - 0)) ≤ (3000 : Int32) from nI_le (a := 0) (b := 3000) (by decide) (by decide))]
  | succ d ih =>
    intro fuel I A E ge gw sn w hf h h9 hd hs hg hl hr h13
    obtain ⟨fuel, rfl⟩ : ∃ m, fuel = m + 1 := ⟨fuel - 1, by omega⟩
    show ∃ (I' : Nat → Int32) (A' : Nat → Nat → Int64) (E' : Nat → Nat → Int32) (w' : Nat), f_Mo_endGroup_80 _ _ _ = _ ∧ _
    have hop : f_Mo_endGroup_80 (g_Mo_endGroup_80 fuel) c (mo c I A E B n w) = if 40 < d + 1 ∨ 3000 < sm gw 0 (d + 1) then f_Mo_endGroup_104 (g_Mo_endGroup_80 fuel) c (mo c I A E B n w) else some (mo c I A E B n w, ()) := by
      unfold f_Mo_endGroup_80
      simp only [mo_is, mo_g0, mo_g1, mo_g2, mo_g3, mo_g5, mo_g7, mo_g9, mo_g12, mo_g13, mo_g17, mo_g18, mo_g19, mo_r4, mo_r6, mo_r8, mo_r10, mo_r11, mo_r14, mo_r15, mo_r16, mo_p0, mo_p1, mo_p2, mo_p3, mo_p5, mo_p7, mo_p9, mo_p12, mo_p13, mo_p17, mo_p18, mo_p19, Option.bind_some, zb_S, h.1, if_true]
      rw [← nI_0, m_wOf c I A E B n w (gw := gw) (Nat.zero_le _) (by omega) (fun j hj => (h.2.1 j hj).2.2), zb_S]
      by_cases h40 : 40 < d + 1
      · rw [if_pos (show (40 : Int32) < nI (d + 1) from nI_lt (a := 40) h40 (by omega)), if_pos (Or.inl h40)]
      · rw [if_neg (show ¬ (40 : Int32) < nI (d + 1) from nI_nlt (b := d + 1) (a := 40) (by omega) (by decide))]
        by_cases h30 : 3000 < sm gw 0 (d + 1)
        · rw [if_neg (show ¬ nI (sm gw 0 (d + 1 - 0)) ≤ (3000 : Int32) from nI_ge (a := 3000) h30 hg), if_pos (Or.inr h30)]
        · rw [if_pos (show nI (sm gw 0 (d + 1 - 0)) ≤ (3000 : Int32) from nI_le (b := 3000) (Nat.not_lt.mp h30) (by decide)), if_neg (by rintro (h | h) <;> omega)]
    rw [hop]
    by_cases ht : 40 < d + 1 ∨ 3000 < sm gw 0 (d + 1)
    · have hfg : fgt (d + 1) gw = fgt d (sh 1 gw) + 1 := by conv => lhs; unfold fgt; rw [if_pos ht]
      rw [if_pos ht, hfg]
      obtain ⟨I1, A1, E1, w1, e1, h1, h91, hl1, hr1, h131, hk1⟩ := m_ff c B n h h9 hd hs hl hr h6 w
      have hss := sm_sh1 ge d
      have hsg := sm_sh1 gw d
      obtain ⟨I2, A2, E2, w2, e2, h2, h92, hl2, hr2, h132, hk2⟩ := ih fuel I1 A1 E1 (sh 1 ge) (sh 1 gw) (sh 1 sn) w1 (by omega) h1 h91 (by omega) (by omega) (by omega) hl1 hr1 h131
      refine ⟨I2, A2, E2, w2, ?_, ?_, ?_, hl2, hr2, ?_, KP_t hk1 hk2⟩
      · unfold f_Mo_endGroup_104
        simp only [mo_is, if_true, e1, zb_S]
        exact e2
      · rw [sh_1, sh_1, sh_1] at h2
        rw [show d + 1 - (fgt d (sh 1 gw) + 1) = d - fgt d (sh 1 gw) by omega]; exact h2
      · rw [sh_1] at h92
        rw [show d + 1 - (fgt d (sh 1 gw) + 1) = d - fgt d (sh 1 gw) by omega]; exact h92
      · rw [show d + 1 - (fgt d (sh 1 gw) + 1) = d - fgt d (sh 1 gw) by omega]; exact h132
    · have hfg : fgt (d + 1) gw = 0 := by unfold fgt; rw [if_neg ht]
      rw [if_neg ht, hfg]
      exact ⟨I, A, E, w, rfl, h, h9, hl, hr, h13, KP_r I⟩
theorem fgt_all : ∀ d gw, 3000 < gw d → fgt (d + 1) gw = d + 1 := by
  intro d
  induction d with
  | zero =>
    intro gw h
    unfold fgt
    rw [if_pos (Or.inr (by simp [sm]; omega))]; rfl
  | succ d ih =>
    intro gw h
    have h1 := ih (sh 1 gw) h
    have h2 : gw (d + 1) ≤ sm gw 0 (d + 1 + 1) := sm_mem gw _ 0 (by omega) (by omega)
    unfold fgt
    rw [if_pos (Or.inr (by omega)), h1]
theorem m_endGroup {I : Nat → Int32} {A : Nat → Nat → Int64} {E : Nat → Nat → Int32} {ge gw : Nat → Nat} {sn : Nat → List Int64} {d oe ow : Nat} {l : List Int64} (h : RG I A E ge gw sn d) (hoe : 0 < oe) (hoe2 : oe < 2 ^ 31) (h18 : I 18 = nI oe) (h19 : I 19 = nI ow) (how : ow < 2 ^ 30) (hd : d ≤ 40) (hgw : sm gw 0 d ≤ 3000) (hl : I 3 = nI l.length) (hr : rp (A 0) l) (h6 : l.length ≤ 600) (h9 : ow ≤ 3000 → I 9 = nI (sm ge 0 d + oe) ∧ CH (A 3) (A 4) (sm ge 0 d) oe (sn d) l ∧ sm ge 0 d + oe ≤ 6000) {o : Nat} (ho : o = fgt (d + 1) (va_up gw d ow)) (w : Nat) : ∃ (I' : Nat → Int32) (A' : Nat → Nat → Int64) (E' : Nat → Nat → Int32) (w' : Nat), f_Mo_endGroup c (mo c I A E B n w) = some (mo c I' A' E' B n w', ()) ∧ RG I' A' E' (sh o (va_up ge d oe)) (sh o (va_up gw d ow)) (sh o (va_up sn (d + 1) l)) (d + 1 - o) ∧ I' 9 = nI (sm (sh o (va_up ge d oe)) 0 (d + 1 - o)) ∧ I' 3 = nI l.length ∧ rp (A' 0) l ∧ I' 13 = nI (d + 1 - o) ∧ KP I I' := by
  have hne : ¬ (I 18 = 0) := by rw [h18]; exact nI_ne0 hoe hoe2
  have hgc : ∀ (f : Nat → Nat) (v k : Nat), k ≤ d → sm (va_up f d v) 0 k = sm f 0 k := fun f v k hk => sm_congr k 0 (fun j _ hj => va_up_ne f v (by omega))
  by_cases hw : ow ≤ 3000
  · obtain ⟨h9, hch, h60⟩ := h9 hw
    obtain ⟨h12, hE, hC, h7, hB, hb6⟩ := h
    have hge1 : sm (va_up ge d oe) 0 (d + 1) = sm ge 0 d + oe := by
      rw [sm_r, hgc ge oe d (Nat.le_refl d), Nat.zero_add, va_up_self]
    have hgw1 : sm (va_up gw d ow) 0 (d + 1) = sm gw 0 d + ow := by
      rw [sm_r, hgc gw ow d (Nat.le_refl d), Nat.zero_add, va_up_self]
    have hRG : RG (va_up (va_up I 12 (nI (d + 1))) 13 (nI (d + 1))) A (va_up (va_up (va_up E 0 (upd (E 0) d (nI (sm ge 0 d + oe)))) 1 (upd (E 1) d (nI oe))) 2 (upd (E 2) d (nI ow))) (va_up ge d oe) (va_up gw d ow) (va_up sn (d + 1) l) (d + 1) := by
      refine ⟨by simp [va_up], fun j hj => ?_, fun j hj => ?_, ?_, ?_, ?_⟩
      · by_cases hjd : j = d
        · subst hjd
          rw [hge1]
          simp [va_up, upd]
        · have := hE j (by omega)
          rw [hgc ge oe (j + 1) (by omega)]
          simp [va_up, upd, hjd, this]
      · by_cases hjd : j = d
        · subst hjd
          rw [hgc ge oe j (Nat.le_refl j), va_up_self, va_up_self, va_up_ne _ _ (by omega)]
          exact hch
        · rw [hgc ge oe j (by omega), va_up_ne _ _ hjd, va_up_ne _ _ (show j + 1 ≠ d + 1 by omega), va_up_ne _ _ (show j ≠ d + 1 by omega)]
          exact hC j (by omega)
      · rw [va_up_ne sn _ (by omega)]; simp [va_up, h7]
      · rw [va_up_ne sn _ (by omega)]; exact hB
      · rw [va_up_ne sn _ (by omega)]; exact hb6
    obtain ⟨I2, A2, E2, w2, e2, h2, h92, hl2, hr2, h132, hk2⟩ := l_eg c B n h6 (d + 1) zq_F _ A _ _ _ _ (w + 1 + 1 + 1 + 1 + 1) (zF_lt (by omega)) hRG (by rw [hge1]; simp [va_up, h9]) (by omega) (by omega) (by omega) (by simp [va_up, hl]) hr (by simp [va_up])
    rw [← ho] at h2 h92 h132
    refine ⟨I2, A2, E2, w2, ?_, h2, h92, hl2, hr2, h132, KP_t (by unfold KP; simp [va_up]) hk2⟩
    unfold f_Mo_endGroup
    simp only [mo_is, mo_g0, mo_g1, mo_g2, mo_g3, mo_g5, mo_g7, mo_g9, mo_g12, mo_g13, mo_g17, mo_g18, mo_g19, mo_r4, mo_r6, mo_r8, mo_r10, mo_r11, mo_r14, mo_r15, mo_r16, mo_p0, mo_p1, mo_p2, mo_p3, mo_p5, mo_p7, mo_p9, mo_p12, mo_p13, mo_p17, mo_p18, mo_p19, Option.bind_some, zb_S]
    rw [if_neg hne, h19, if_pos (show nI ow ≤ (3000 : Int32) from nI_le (b := 3000) hw (by decide)), h12, h9]
    simp only [mo_is, mo_g0, mo_g1, mo_g2, mo_g3, mo_g5, mo_g7, mo_g9, mo_g12, mo_g13, mo_g17, mo_g18, mo_g19, mo_r4, mo_r6, mo_r8, mo_r10, mo_r11, mo_r14, mo_r15, mo_r16, mo_p0, mo_p1, mo_p2, mo_p3, mo_p5, mo_p7, mo_p9, mo_p12, mo_p13, mo_p17, mo_p18, mo_p19, Option.bind_some, zb_S, mo_t0 (hi := show d < 42 by omega), mo_t1 (hi := show d < 42 by omega), mo_t2 (hi := show d < 42 by omega), h12, h18, h19, nI_1, va_up_self, va_up_ne E _ (show 1 ≠ 0 by decide), va_up_ne E _ (show 2 ≠ 0 by decide), va_up_ne (va_up E 0 _) _ (show 2 ≠ 1 by decide)]
    exact e2
  · have ho' : o = d + 1 := by rw [ho]; exact fgt_all d _ (by rw [va_up_self]; omega)
    obtain ⟨W1, w1, e1, k1⟩ := m_toBase c (va_up (va_up (va_up I 12 (nI 0)) 13 (nI 0)) 9 (nI 0)) E B n (len := l.length) (by simp [va_up, hl]) h6 A (w + 1 + 1 + 1)
    refine ⟨va_up (va_up (va_up (va_up I 12 (nI 0)) 13 (nI 0)) 9 (nI 0)) 7 (nI l.length), va_up A 2 W1, E, w1, ?_, ⟨?_, fun j hj => absurd hj (by omega), fun j hj => absurd hj (by omega), ?_, ?_, ?_⟩, ?_, ?_, ?_, ?_, ?_⟩
    · unfold f_Mo_endGroup f_Mo_forgetAll
      simp only [mo_is, mo_g0, mo_g1, mo_g2, mo_g3, mo_g5, mo_g7, mo_g9, mo_g12, mo_g13, mo_g17, mo_g18, mo_g19, mo_r4, mo_r6, mo_r8, mo_r10, mo_r11, mo_r14, mo_r15, mo_r16, mo_p0, mo_p1, mo_p2, mo_p3, mo_p5, mo_p7, mo_p9, mo_p12, mo_p13, mo_p17, mo_p18, mo_p19, Option.bind_some, zb_S, if_true]
      rw [if_neg hne, h19, if_neg (show ¬ nI ow ≤ (3000 : Int32) from nI_ge (a := 3000) (by omega) (by omega)), ← nI_0, e1]
      rfl
    · rw [ho']; simp [va_up]
    · rw [ho']; simp [va_up, sh]
    · rw [ho']; simp [va_up, sh]; exact rp_len hr k1
    · rw [ho']; simp [va_up, sh]; exact h6
    · rw [ho']; simp [va_up, sm]
    · simp [va_up, hl]
    · simpa [va_up] using hr
    · rw [ho']; simp [va_up]
    · unfold KP; simp [va_up]
end FF
