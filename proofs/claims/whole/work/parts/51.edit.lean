/-! the state that both sides stand for; the reference's edit -/
def WF (op : Nat) (tx : List Int64) (sn : Nat → List Int64) (ge gw : Nat → Nat) (d u oe ow : Nat) : Prop :=
  tx.length ≤ 600 ∧ (∀ x ∈ tx, V x) ∧ (∀ j, j ≤ d + u → (sn j).length ≤ 600 ∧ ∀ x ∈ sn j, V x) ∧ d + u ≤ 40 ∧ sm gw 0 (d + u) ≤ 3000 ∧ (∀ j, j < d + u → 1 ≤ ge j ∧ ge j ≤ gw j) ∧ oe ≤ ow ∧ (oe = 0 → ow = 0 ∧ tx = sn d) ∧ (0 < oe → op = 1 ∧ u = 0) ∧ op < 2
def RM (I : Nat → Int32) (A : Nat → Nat → Int64) (E : Nat → Nat → Int32) (au tr op : Nat) (tx : List Int64) (sn : Nat → List Int64) (ge gw : Nat → Nat) (d u oe ow : Nat) : Prop :=
  I 1 = nI au ∧ I 2 = nI tr ∧ I 3 = nI tx.length ∧ rp (A 0) tx ∧ I 17 = nI op ∧ (op = 1 → I 18 = nI oe ∧ I 19 = nI ow) ∧ I 12 = nI d ∧ I 13 = nI (d + u) ∧ (∀ j, j < d + u → E 0 j = nI (sm ge 0 (j + 1)) ∧ E 1 j = nI (ge j) ∧ E 2 j = nI (gw j)) ∧ (∀ j, j < d + u → CH (A 3) (A 4) (sm ge 0 j) (ge j) (sn j) (sn (j + 1))) ∧ I 7 = nI (sn 0).length ∧ rp (A 2) (sn 0) ∧ (oe = 0 → I 9 = nI (sm ge 0 d)) ∧ (0 < oe → ow ≤ 3000 → I 9 = nI (sm ge 0 d + oe) ∧ CH (A 3) (A 4) (sm ge 0 d) oe (sn d) tx)
theorem RM_RG {I : Nat → Int32} {A : Nat → Nat → Int64} {E : Nat → Nat → Int32} {au tr op : Nat} {tx : List Int64} {sn : Nat → List Int64} {ge gw : Nat → Nat} {d u oe ow : Nat} (h : RM I A E au tr op tx sn ge gw d u oe ow) (hw : WF op tx sn ge gw d u oe ow) : RG I A E ge gw sn d := by
  obtain ⟨_, _, _, _, _, _, h12, _, hE, hC, h7, hB, _⟩ := h
  exact ⟨h12, fun j hj => hE j (by omega), fun j hj => hC j (by omega), h7, hB, (hw.2.2.1 0 (by omega)).1⟩
theorem WF_ge {op : Nat} {tx : List Int64} {sn : Nat → List Int64} {ge gw : Nat → Nat} {d u oe ow : Nat} (hw : WF op tx sn ge gw d u oe ow) {j : Nat} (hj : j ≤ d + u) : sm ge 0 j ≤ 3000 := by
  obtain ⟨_, _, _, _, h5, h6, _⟩ := hw
  have h1 : sm ge 0 j ≤ sm gw 0 j := sm_le j 0 (fun i _ hi => (h6 i (by omega)).2)
  have h2 := sm_mono gw hj
  omega
theorem fgt_ok : ∀ d gw, d - fgt d gw ≤ 40 ∧ sm (sh (fgt d gw) gw) 0 (d - fgt d gw) ≤ 3000 := by
  intro d
  induction d with
  | zero => intro gw; exact ⟨Nat.zero_le _, Nat.zero_le _⟩
  | succ d ih =>
    intro gw
    unfold fgt
    split
    · have := ih (sh 1 gw)
      rw [sh_1] at this
      rw [show d + 1 - (fgt d (sh 1 gw) + 1) = d - fgt d (sh 1 gw) by omega]
      exact this
    · rename_i h
      rw [sh_0]
      constructor
      · exact Nat.not_lt.mp (fun h1 => h (Or.inl (by omega)))
      · exact Nat.not_lt.mp (fun h1 => h (Or.inr (by simpa using h1)))
theorem WF_open {op : Nat} {tx nw : List Int64} {sn : Nat → List Int64} {ge gw : Nat → Nat} {d u oe ow w : Nat} (hw : WF op tx sn ge gw d u oe ow) (hn : nw.length ≤ 600) (hV : ∀ x ∈ nw, V x) (h1 : 1 ≤ w) (hop : op = 1) : WF 1 nw sn ge gw d 0 (oe + 1) (ow + w) := by
  obtain ⟨a1, a2, a3, a4, a5, a6, a7, a8, a9, a10⟩ := hw
  have := sm_mono gw (show d ≤ d + u by omega)
  exact ⟨hn, hV, fun j hj => a3 j (by omega), by omega, by rw [Nat.add_zero]; omega, fun j hj => a6 j (by omega), by omega, fun h => absurd h (by omega), fun _ => ⟨rfl, rfl⟩, by decide⟩
theorem WF_end {op : Nat} {tx nw : List Int64} {sn : Nat → List Int64} {ge gw : Nat → Nat} {d u oe ow e w : Nat} (hw : WF op tx sn ge gw d u oe ow) (hn : nw.length ≤ 600) (hV : ∀ x ∈ nw, V x) (h1 : 1 ≤ e) (h2 : e ≤ w) {o : Nat} (ho : o = fgt (d + 1) (va_up gw d w)) : WF 0 nw (sh o (va_up sn (d + 1) nw)) (sh o (va_up ge d e)) (sh o (va_up gw d w)) (d + 1 - o) 0 0 0 := by
  obtain ⟨a1, a2, a3, a4, a5, a6, a7, a8, a9, a10⟩ := hw
  have hol := fgt_le (d + 1) (va_up gw d w)
  have hok := fgt_ok (d + 1) (va_up gw d w)
  rw [← ho] at hol hok
  refine ⟨hn, hV, fun j hj => ?_, by omega, by rw [Nat.add_zero]; exact hok.2, fun j hj => ?_, Nat.le_refl 0, fun _ => ⟨rfl, ?_⟩, fun h => absurd h (by omega), by decide⟩
  · show ((va_up sn (d + 1) nw) (j + o)).length ≤ 600 ∧ ∀ x ∈ (va_up sn (d + 1) nw) (j + o), V x
    by_cases h : j + o = d + 1
    · rw [h, va_up_self]; exact ⟨hn, hV⟩
    · rw [va_up_ne _ _ h]; exact a3 _ (by omega)
  · show 1 ≤ (va_up ge d e) (j + o) ∧ (va_up ge d e) (j + o) ≤ (va_up gw d w) (j + o)
    by_cases h : j + o = d
    · rw [h, va_up_self, va_up_self]; exact ⟨h1, h2⟩
    · rw [va_up_ne _ _ h, va_up_ne _ _ h]; exact a6 _ (by omega)
  · show nw = (va_up sn (d + 1) nw) (d + 1 - o + o)
    rw [show d + 1 - o + o = d + 1 by omega, va_up_self]
section ED
variable (c : Nat) (B : Nat → Option zq_E) (n : Nat)
/-- endGroup's end state is a state of the reference -/
theorem RG_RM {I I' : Nat → Int32} {A' : Nat → Nat → Int64} {E' : Nat → Nat → Int32} {au tr : Nat} {nw : List Int64} {sn : Nat → List Int64} {ge gw : Nat → Nat} {d : Nat} (h : RG I' A' E' ge gw sn d) (h9 : I' 9 = nI (sm ge 0 d)) (hl : I' 3 = nI nw.length) (hr : rp (A' 0) nw) (h13 : I' 13 = nI d) (hk : KP I I') (h1 : I 1 = nI au) (h2 : I 2 = nI tr) (h17 : I 17 = nI 0) : RM I' A' E' au tr 0 nw sn ge gw d 0 0 0 := by
  obtain ⟨h12, hE, hC, h7, hB, hb6⟩ := h
  obtain ⟨k0, k1, k2, k17, _⟩ := hk
  exact ⟨k1.trans h1, k2.trans h2, hl, hr, k17.trans h17, fun h => absurd h (by decide), h12, h13, hE, hC, h7, hB, fun _ => h9, fun h => absurd h (by decide)⟩
theorem m_rec {I : Nat → Int32} {A : Nat → Nat → Int64} {E : Nat → Nat → Int32} {ge gw : Nat → Nat} {sn : Nat → List Int64} {d oe ow w1 : Nat} {tx nw : List Int64} {x s : Int64} (hRG : RG I A E ge gw sn d) (hd : d ≤ 40) (h18 : I 18 = nI oe) (h19 : I 19 = nI ow) (hb : ow + w1 < 2 ^ 30) (hoe : oe ≤ ow) (hw1 : 1 ≤ w1) (hS : ST x s tx nw) (hg : sm ge 0 d ≤ 3000) (h0 : oe = 0 → tx = sn d) (h9 : 0 < oe → ow ≤ 3000 → I 9 = nI (sm ge 0 d + oe) ∧ CH (A 3) (A 4) (sm ge 0 d) oe (sn d) tx) (an : Int32) (w : Nat) : ∃ (I' : Nat → Int32) (A' : Nat → Nat → Int64) (w' : Nat), f_Mo_edit_68 c s x an (nI w1) (mo c I A E B n w) = f_Mo_edit_158 c an (mo c I' A' E B n w') ∧ RG I' A' E ge gw sn d ∧ A' 0 = A 0 ∧ I' 0 = I 0 ∧ I' 1 = I 1 ∧ I' 2 = I 2 ∧ I' 3 = I 3 ∧ I' 17 = I 17 ∧ I' 13 = nI d ∧ I' 18 = nI (oe + 1) ∧ I' 19 = nI (ow + w1) ∧ (ow + w1 ≤ 3000 → I' 9 = nI (sm ge 0 d + (oe + 1)) ∧ CH (A' 3) (A' 4) (sm ge 0 d) (oe + 1) (sn d) nw) := by
  obtain ⟨h12, hE, hC, h7, hB, hb6⟩ := hRG
  obtain ⟨J, w2, e1, j9, jk, jn⟩ : ∃ (J : Nat → Int32) (w2 : Nat), f_Mo_edit_68 c s x an (nI w1) (mo c I A E B n w) = f_Mo_edit_87 c s x an (nI w1) (mo c J A E B n w2) ∧ (oe = 0 → J 9 = nI (sm ge 0 d)) ∧ (∀ k, k ≠ 9 → J k = I k) ∧ (0 < oe → J = I) := by
    by_cases ho : oe = 0
    · refine ⟨va_up I 9 (nI (sm ge 0 d)), w + 1, ?_, fun _ => va_up_self _ _ _, fun k hk => va_up_ne _ _ hk, fun h => absurd h (by omega)⟩
      unfold f_Mo_edit_68
      simp only [mo_is, mo_g0, mo_g1, mo_g2, mo_g3, mo_g5, mo_g7, mo_g9, mo_g12, mo_g13, mo_g17, mo_g18, mo_g19, mo_r4, mo_r6, mo_r8, mo_r10, mo_r11, mo_r14, mo_r15, mo_r16, mo_p0, mo_p1, mo_p2, mo_p3, mo_p5, mo_p7, mo_p9, mo_p12, mo_p13, mo_p17, mo_p18, mo_p19, Option.bind_some, zb_S, h12, if_true]
      rw [if_pos (by rw [h18, ho]; exact nI_0), m_startOf c I A E B n w (ge := ge) (by omega) (fun j hj => (hE j hj).1)]
      simp only [mo_is, mo_g0, mo_g1, mo_g2, mo_g3, mo_g5, mo_g7, mo_g9, mo_g12, mo_g13, mo_g17, mo_g18, mo_g19, mo_r4, mo_r6, mo_r8, mo_r10, mo_r11, mo_r14, mo_r15, mo_r16, mo_p0, mo_p1, mo_p2, mo_p3, mo_p5, mo_p7, mo_p9, mo_p12, mo_p13, mo_p17, mo_p18, mo_p19, Option.bind_some, zb_S]
    · refine ⟨I, w, ?_, fun h => absurd h ho, fun k _ => rfl, fun _ => rfl⟩
      unfold f_Mo_edit_68
      simp only [mo_is, mo_g0, mo_g1, mo_g2, mo_g3, mo_g5, mo_g7, mo_g9, mo_g12, mo_g13, mo_g17, mo_g18, mo_g19, mo_r4, mo_r6, mo_r8, mo_r10, mo_r11, mo_r14, mo_r15, mo_r16, mo_p0, mo_p1, mo_p2, mo_p3, mo_p5, mo_p7, mo_p9, mo_p12, mo_p13, mo_p17, mo_p18, mo_p19, Option.bind_some, zb_S]
      rw [if_neg (by rw [h18]; exact nI_ne0 (by omega) (by omega))]
  rw [e1]
  have p12 : J 12 = nI d := (jk 12 (by decide)).trans h12
  have p18 : J 18 = nI oe := (jk 18 (by decide)).trans h18
  have p19 : J 19 = nI ow := (jk 19 (by decide)).trans h19
  have hop : f_Mo_edit_87 c s x an (nI w1) (mo c J A E B n w2) = if (3000 : Int32) < nI (ow + w1) then f_Mo_edit_158 c an (mo c (va_up (va_up (va_up J 13 (nI d)) 18 (nI (oe + 1))) 19 (nI (ow + w1))) A E B n (w2 + 1 + 1 + 1)) else (zs_las (mo c (va_up (va_up (va_up J 13 (nI d)) 18 (nI (oe + 1))) 19 (nI (ow + w1))) A E B n (w2 + 1 + 1 + 1)) (c + 4) 0 (J 9) x).bind fun S21 => (zs_gr S21 c 4 11).bind fun x23 => (zs_gi S21 c 4 9).bind fun x25 => (x23).bind fun a27 => (zs_las S21 a27 0 x25 s).bind fun S29 => (zs_gi S29 c 4 9).bind fun x31 => (zs_p S29 c 4 9 (.int (x31 + (1 : Int32)))).bind fun S33 => f_Mo_edit_158 c an S33 := by
    unfold f_Mo_edit_87
    simp only [mo_is, mo_g0, mo_g1, mo_g2, mo_g3, mo_g5, mo_g7, mo_g9, mo_g12, mo_g13, mo_g17, mo_g18, mo_g19, mo_r4, mo_r6, mo_r8, mo_r10, mo_r11, mo_r14, mo_r15, mo_r16, mo_p0, mo_p1, mo_p2, mo_p3, mo_p5, mo_p7, mo_p9, mo_p12, mo_p13, mo_p17, mo_p18, mo_p19, Option.bind_some, zb_S, p12, va_up_ne J _ (show 18 ≠ 13 by decide), p18, nI_1, va_up_ne (va_up J 13 _) _ (show 19 ≠ 18 by decide), va_up_ne J _ (show 19 ≠ 13 by decide), p19, nI_add, va_up_self]
    have : va_up (va_up (va_up J 13 (nI d)) 18 (nI (oe + 1))) 19 (nI (ow + w1)) 9 = J 9 := by simp [va_up]
    rw [this]
  rw [hop]
  by_cases hw : 3000 < ow + w1
  · rw [if_pos (show (3000 : Int32) < nI (ow + w1) from nI_lt (a := 3000) hw (by omega))]
    refine ⟨_, A, _, rfl, ⟨by simp [va_up, p12], hE, hC, ?_, hB, hb6⟩, rfl, ?_, ?_, ?_, ?_, ?_, ?_, ?_, ?_, fun h => absurd h (by omega)⟩
    · simp [va_up, jk 7, h7]
    · simp [va_up, jk 0]
    · simp [va_up, jk 1]
    · simp [va_up, jk 2]
    · simp [va_up, jk 3]
    · simp [va_up, jk 17]
    · simp [va_up]
    · simp [va_up]
    · simp [va_up]
  · have hdn : J 9 = nI (sm ge 0 d + oe) ∧ CH (A 3) (A 4) (sm ge 0 d) oe (sn d) tx := by
      by_cases ho : oe = 0
      · subst ho
        exact ⟨j9 rfl, (h0 rfl).symm⟩
      · rw [jn (by omega)]; exact h9 (by omega) (by omega)
    obtain ⟨hd9, hch⟩ := hdn
    rw [if_neg (show ¬ (3000 : Int32) < nI (ow + w1) from nI_nlt (a := 3000) (b := ow + w1) (by omega) (by decide)), hd9]
    refine ⟨va_up (va_up (va_up (va_up J 13 (nI d)) 18 (nI (oe + 1))) 19 (nI (ow + w1))) 9 (nI (sm ge 0 d + oe + 1)), va_up (va_up A 3 (vp_updL (A 3) (sm ge 0 d + oe) x)) 4 (vp_updL (A 4) (sm ge 0 d + oe) s), w2 + 1 + 1 + 1 + 1 + 1 + 1, ?_, ⟨by simp [va_up, p12], hE, fun j hj => ?_, ?_, by simpa [va_up] using hB, hb6⟩, by simp [va_up], ?_, ?_, ?_, ?_, ?_, ?_, ?_, ?_, fun _ => ⟨?_, ?_⟩⟩
    · rw [mo_s3 (hi := show sm ge 0 d + oe < 6000 by omega)]
      simp only [mo_is, mo_g0, mo_g1, mo_g2, mo_g3, mo_g5, mo_g7, mo_g9, mo_g12, mo_g13, mo_g17, mo_g18, mo_g19, mo_r4, mo_r6, mo_r8, mo_r10, mo_r11, mo_r14, mo_r15, mo_r16, mo_p0, mo_p1, mo_p2, mo_p3, mo_p5, mo_p7, mo_p9, mo_p12, mo_p13, mo_p17, mo_p18, mo_p19, Option.bind_some, zb_S]
      have : va_up (va_up (va_up J 13 (nI d)) 18 (nI (oe + 1))) 19 (nI (ow + w1)) 9 = nI (sm ge 0 d + oe) := by simp [va_up, hd9]
      rw [this, mo_s4 (hi := show sm ge 0 d + oe < 6000 by omega)]
      simp only [mo_is, mo_g0, mo_g1, mo_g2, mo_g3, mo_g5, mo_g7, mo_g9, mo_g12, mo_g13, mo_g17, mo_g18, mo_g19, mo_r4, mo_r6, mo_r8, mo_r10, mo_r11, mo_r14, mo_r15, mo_r16, mo_p0, mo_p1, mo_p2, mo_p3, mo_p5, mo_p7, mo_p9, mo_p12, mo_p13, mo_p17, mo_p18, mo_p19, Option.bind_some, zb_S, this, nI_1, va_up_ne A _ (show 4 ≠ 3 by decide)]
    · refine CH_sh (o := 0) _ _ _ (fun q hq hq2 => ?_) (hC j hj)
      have h1 := sm_r ge j 0
      have h2 := sm_mono ge (show j + 1 ≤ d by omega)
      rw [Nat.zero_add] at h1
      simp only [va_up_self, va_up_ne (va_up A 3 _) _ (show 3 ≠ 4 by decide), Nat.add_zero]
      exact ⟨updL_ne _ _ (by omega), updL_ne _ _ (by omega)⟩
    · simp [va_up, jk 7, h7]
    · simp [va_up, jk 0]
    · simp [va_up, jk 1]
    · simp [va_up, jk 2]
    · simp [va_up, jk 3]
    · simp [va_up, jk 17]
    · simp [va_up]
    · simp [va_up]
    · simp [va_up]
    · simp [va_up, Nat.add_assoc]
    · refine CH_app oe _ _ (CH_sh (o := 0) _ _ _ (fun q hq hq2 => ?_) hch) ⟨nw, ?_, rfl⟩
      · simp only [va_up_self, va_up_ne (va_up A 3 _) _ (show 3 ≠ 4 by decide), Nat.add_zero]
        exact ⟨updL_ne _ _ (by omega), updL_ne _ _ (by omega)⟩
      · simp only [va_up_self, va_up_ne (va_up A 3 _) _ (show 3 ≠ 4 by decide), updL_at]
        exact hS
theorem m_edit {I : Nat → Int32} {A : Nat → Nat → Int64} {E : Nat → Nat → Int32} {au tr op : Nat} {tx : List Int64} {sn : Nat → List Int64} {ge gw : Nat → Nat} {d u oe ow : Nat} (hR : RM I A E au tr op tx sn ge gw d u oe ow) (hW : WF op tx sn ge gw d u oe ow) {kind num pl m : Nat} {s : Int64} (hP : PK kind au tr num pl m s tx) (hb : ow < 2 ^ 29) {nw : List Int64} (hnw : nw = ed kind au tr num pl m s tx) {o : Nat} (ho : o = fgt (d + 1) (va_up gw d (wt nw tx))) (w : Nat) : ∃ (I' : Nat → Int32) (A' : Nat → Nat → Int64) (E' : Nat → Nat → Int32) (w' : Nat), f_Mo_edit c (nI kind) (nI num) (nI pl) (nI m) s (mo c I A E B n w) = some (mo c I' A' E' B n w', nI (an kind au tr num pl m s tx)) ∧ I' 0 = 0 ∧ (wt nw tx = 0 → RM I' A' E' au tr op tx sn ge gw d u oe ow) ∧ (wt nw tx ≠ 0 → op = 1 → RM I' A' E' au tr 1 nw sn ge gw d 0 (oe + 1) (ow + wt nw tx)) ∧ (wt nw tx ≠ 0 → op = 0 → RM I' A' E' au tr 0 nw (sh o (va_up sn (d + 1) nw)) (sh o (va_up ge d 1)) (sh o (va_up gw d (wt nw tx))) (d + 1 - o) 0 0 0) := by
  have hRG := RM_RG hR hW
  obtain ⟨r1, r2, r3, r4, r17, r18, r12, r13, rE, rC, r7, rB, r9, r9'⟩ := hR
  have hge := WF_ge hW (j := d) (by omega)
  obtain ⟨w1, w2, w3, w4, w5, w6, w7, w8, w9, w10⟩ := hW
  obtain ⟨K1, v1, e1, k1⟩ := m_keepWas c (va_up I 0 (0 : Int32)) E B n (len := tx.length) (by simp [va_up, r3]) w1 A (w + 1)
  obtain ⟨g2, v2, e2, k2⟩ := m_play c (va_up (va_up I 0 (0 : Int32)) 5 (nI tx.length)) E B n hP (by simp [va_up, r3]) (va_up A 1 K1) (by simpa [va_up] using r4) v1
  have hST : ST (cmd kind au tr num pl m) s tx nw := ⟨kind, au, tr, num, pl, m, rfl, hP, hnw⟩
  rw [← hnw] at e2 k2
  have hn6 : nw.length ≤ 600 := by rw [hnw]; exact ed_len hP
  have hK1 : rp K1 tx := rp_len r4 k1
  obtain ⟨q1, q2, q3, q4, q5, q6, q7, q8, q9, q10⟩ := hP
  have e3 := m_weight c (va_up (va_up (va_up I 0 (0 : Int32)) 5 (nI tx.length)) 3 (nI nw.length)) (va_up (va_up A 1 K1) 0 g2) E B n v2 (l := nw) (l' := tx) (by simp [va_up]) (by simp [va_up]) (by simpa [va_up] using k2) (by simpa [va_up] using hK1) hn6 w1
  have hwt := wt_le hn6 w1
  have hRG2 : RG (va_up (va_up (va_up I 0 (0 : Int32)) 5 (nI tx.length)) 3 (nI nw.length)) (va_up (va_up A 1 K1) 0 g2) E ge gw sn d := by
    obtain ⟨a1, a2, a3, a4, a5, a6⟩ := hRG
    exact ⟨by simp [va_up, a1], a2, by simpa [va_up] using a3, by simp [va_up, a4], by simpa [va_up] using a5, a6⟩
  have hop : f_Mo_edit c (nI kind) (nI num) (nI pl) (nI m) s (mo c I A E B n w) = if nI (wt nw tx) = 0 then some (mo c (va_up (va_up (va_up I 0 (0 : Int32)) 5 (nI tx.length)) 3 (nI nw.length)) (va_up (va_up A 1 K1) 0 g2) E B n v2, nI (an kind au tr num pl m s tx)) else if nI op = 0 then f_Mo_edit_68 c s (cmd kind au tr num pl m) (nI (an kind au tr num pl m s tx)) (nI (wt nw tx)) (mo c (va_up (va_up (va_up (va_up (va_up I 0 (0 : Int32)) 5 (nI tx.length)) 3 (nI nw.length)) 18 (0 : Int32)) 19 (0 : Int32)) (va_up (va_up A 1 K1) 0 g2) E B n (v2 + 1 + 1)) else f_Mo_edit_68 c s (cmd kind au tr num pl m) (nI (an kind au tr num pl m s tx)) (nI (wt nw tx)) (mo c (va_up (va_up (va_up I 0 (0 : Int32)) 5 (nI tx.length)) 3 (nI nw.length)) (va_up (va_up A 1 K1) 0 g2) E B n v2) := by
    unfold f_Mo_edit
    simp only [mo_is, mo_g0, mo_g1, mo_g2, mo_g3, mo_g5, mo_g7, mo_g9, mo_g12, mo_g13, mo_g17, mo_g18, mo_g19, mo_r4, mo_r6, mo_r8, mo_r10, mo_r11, mo_r14, mo_r15, mo_r16, mo_p0, mo_p1, mo_p2, mo_p3, mo_p5, mo_p7, mo_p9, mo_p12, mo_p13, mo_p17, mo_p18, mo_p19, Option.bind_some, zb_S, if_true, e1]
    have p1 : va_up (va_up I 0 (0 : Int32)) 5 (nI tx.length) 1 = nI au := by simp [va_up, r1]
    have p2 : va_up (va_up I 0 (0 : Int32)) 5 (nI tx.length) 2 = nI tr := by simp [va_up, r2]
    rw [p1, p2, m_cmd (by omega) q2 q3 q4 (by omega) (by omega)]
    simp only [mo_is, mo_g0, mo_g1, mo_g2, mo_g3, mo_g5, mo_g7, mo_g9, mo_g12, mo_g13, mo_g17, mo_g18, mo_g19, mo_r4, mo_r6, mo_r8, mo_r10, mo_r11, mo_r14, mo_r15, mo_r16, mo_p0, mo_p1, mo_p2, mo_p3, mo_p5, mo_p7, mo_p9, mo_p12, mo_p13, mo_p17, mo_p18, mo_p19, Option.bind_some, zb_S, if_true, e2, e3]
    have p17 : va_up (va_up (va_up I 0 (0 : Int32)) 5 (nI tx.length)) 3 (nI nw.length) 17 = nI op := by simp [va_up, r17]
    rw [p17]
  rw [hop]
  by_cases hz : wt nw tx = 0
  · rw [if_pos (by rw [hz]; exact nI_0)]
    have hnt := wt_0 hz
    refine ⟨_, _, E, v2, rfl, by simp [va_up], fun _ => ?_, fun h => absurd hz h, fun h => absurd hz h⟩
    refine ⟨by simp [va_up, r1], by simp [va_up, r2], by simp [va_up, hnt], by rw [va_up_self, ← hnt]; exact k2, by simp [va_up, r17], fun h => by simp [va_up, r18 h], by simp [va_up, r12], by simp [va_up, r13], rE, by simpa [va_up] using rC, by simp [va_up, r7], by simpa [va_up] using rB, fun h => by simp [va_up, r9 h], fun h h' => by simpa [va_up] using r9' h h'⟩
  · rw [if_neg (nI_ne0 (by omega) (by omega))]
    by_cases hop0 : op = 0
    · have hoe : oe = 0 := by
        by_cases h : oe = 0
        · exact h
        · have := (w9 (by omega)).1; omega
      rw [if_pos (by rw [hop0]; exact nI_0)]
      obtain ⟨I3, A3, v3, e4, g1, g0, i0, i1, i2, i3, i17, i13, i18, i19, i9⟩ := m_rec c B n (I := va_up (va_up (va_up (va_up (va_up I 0 (0 : Int32)) 5 (nI tx.length)) 3 (nI nw.length)) 18 (0 : Int32)) 19 (0 : Int32)) (A := va_up (va_up A 1 K1) 0 g2) (E := E) (ge := ge) (gw := gw) (sn := sn) (d := d) (oe := 0) (ow := 0) (w1 := wt nw tx) (tx := tx) (nw := nw) (x := cmd kind au tr num pl m) (s := s) (by
        obtain ⟨a1, a2, a3, a4, a5, a6⟩ := hRG2
        exact ⟨by simp [va_up] at a1 ⊢; exact a1, a2, a3, by simp [va_up] at a4 ⊢; exact a4, a5, a6⟩) (by omega) (by simp [va_up, nI_0]) (by simp [va_up, nI_0]) (by omega) (Nat.le_refl 0) (by omega) hST hge (fun _ => (w8 hoe).2) (fun h => absurd h (by decide)) (nI (an kind au tr num pl m s tx)) (v2 + 1 + 1)
      rw [e4]
      have i17' : I3 17 = nI op := by rw [i17]; simp [va_up, r17]
      obtain ⟨I4, A4, E4, v4, e5, f1, f9, f3, fr, f13, fk⟩ := m_endGroup c B n (I := I3) (A := A3) (E := E) (ge := ge) (gw := gw) (sn := sn) (d := d) (oe := 1) (ow := wt nw tx) (l := nw) g1 (by decide) (by decide) i18 (by rw [i19, Nat.zero_add]) (by omega) (by omega) (by have := sm_mono gw (show d ≤ d + u by omega); omega) (by rw [i3]; simp [va_up]) (by rw [g0]; simpa [va_up] using k2) hn6 (fun h => ⟨(i9 (by omega)).1, (i9 (by omega)).2, by omega⟩) ho v3
      refine ⟨I4, A4, E4, v4, ?_, ?_, fun h => absurd h hz, fun _ h => absurd h (by omega), fun _ _ => RG_RM f1 f9 f3 fr f13 fk (by rw [i1]; simp [va_up, r1]) (by rw [i2]; simp [va_up, r2]) (by rw [i17', hop0])⟩
      · unfold f_Mo_edit_158 f_Mo_edit_169
        simp only [mo_is, mo_g0, mo_g1, mo_g2, mo_g3, mo_g5, mo_g7, mo_g9, mo_g12, mo_g13, mo_g17, mo_g18, mo_g19, mo_r4, mo_r6, mo_r8, mo_r10, mo_r11, mo_r14, mo_r15, mo_r16, mo_p0, mo_p1, mo_p2, mo_p3, mo_p5, mo_p7, mo_p9, mo_p12, mo_p13, mo_p17, mo_p18, mo_p19, Option.bind_some, zb_S, i17', hop0, nI_0, if_true, e5]
      · rw [fk.1, i0]; simp [va_up]
    · have hop1 : op = 1 := by omega
      rw [if_neg (nI_ne0 (by omega) (by omega))]
      obtain ⟨I3, A3, v3, e4, g1, g0, i0, i1, i2, i3, i17, i13, i18, i19, i9⟩ := m_rec c B n (I := va_up (va_up (va_up I 0 (0 : Int32)) 5 (nI tx.length)) 3 (nI nw.length)) (A := va_up (va_up A 1 K1) 0 g2) (E := E) (ge := ge) (gw := gw) (sn := sn) (d := d) (oe := oe) (ow := ow) (w1 := wt nw tx) (tx := tx) (nw := nw) (x := cmd kind au tr num pl m) (s := s) hRG2 (by omega) (by simp [va_up, (r18 hop1).1]) (by simp [va_up, (r18 hop1).2]) (by omega) w7 (by omega) hST hge (fun h => (w8 h).2) (fun h h' => by simpa [va_up] using r9' h h') (nI (an kind au tr num pl m s tx)) v2
      rw [e4]
      have i17' : I3 17 = nI op := by rw [i17]; simp [va_up, r17]
      obtain ⟨a1, a2, a3, a4, a5, a6⟩ := g1
      refine ⟨I3, A3, E, v3, ?_, ?_, fun h => absurd h hz, fun _ _ => ?_, fun _ h => absurd h hop0⟩
      · unfold f_Mo_edit_158 f_Mo_edit_169
        simp only [mo_is, mo_g0, mo_g1, mo_g2, mo_g3, mo_g5, mo_g7, mo_g9, mo_g12, mo_g13, mo_g17, mo_g18, mo_g19, mo_r4, mo_r6, mo_r8, mo_r10, mo_r11, mo_r14, mo_r15, mo_r16, mo_p0, mo_p1, mo_p2, mo_p3, mo_p5, mo_p7, mo_p9, mo_p12, mo_p13, mo_p17, mo_p18, mo_p19, Option.bind_some, zb_S, i17']
        rw [if_neg (nI_ne0 (by omega) (by omega))]
      · rw [i0]; simp [va_up]
      · exact ⟨by rw [i1]; simp [va_up, r1], by rw [i2]; simp [va_up, r2], by rw [i3]; simp [va_up], by rw [g0]; simpa [va_up] using k2, by rw [i17', hop1], fun _ => ⟨i18, i19⟩, a1, by rw [i13]; rfl, a2, a3, a4, a5, fun h => absurd h (by omega), fun _ h => i9 h⟩
end ED
