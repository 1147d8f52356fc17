/-! class and reference side by side -/
def MC (b : Nat) (S : zq_S) (I : Nat → Int32) (A : Nat → Nat → Int64) (E : Nat → Nat → Int32) : Prop := ∀ q, b + 8 ≤ q → q ≤ b + 8 + 8 → S.1 q = moc (b + 8) I A E (fun _ => none) q
def OUT (b : Nat) (S : zq_S) : Prop := ∃ f : Nat → Int64, S.1 (b + 17) = some (.inl (0, 1, .inr (.inl f)))
def SM (b : Nat) (S : zq_S) (K : Nat) : Prop := ∃ (I : Nat → Int32) (A : Nat → Nat → Int64) (E : Nat → Nat → Int32) (au tr op : Nat) (tx : List Int64) (sn : Nat → List Int64) (ge gw : Nat → Nat) (d u oe ow : Nat), SC b S au tr op tx sn ge gw d u oe ow ∧ MC b S I A E ∧ OUT b S ∧ RM I A E au tr op tx sn ge gw d u oe ow ∧ WF op tx sn ge gw d u oe ow ∧ au < 8 ∧ tr < 2 ∧ ow ≤ 1200 * K
theorem SC_mid {b : Nat} {S S' : zq_S} {au tr op : Nat} {tx : List Int64} {sn : Nat → List Int64} {ge gw : Nat → Nat} {d u oe ow : Nat} (h : SC b S au tr op tx sn ge gw d u oe ow) (hq : ∀ q, q < b + 8 ∨ b + 17 < q → S'.1 q = S.1 q) (hn : S'.2.1 = S.2.1) : SC b S' au tr op tx sn ge gw d u oe ow := by
  obtain ⟨q, bg, G, X, LX, ge1, gw1, ⟨r1, ⟨a1, a2, a3, a4⟩, r3⟩, rest⟩ := h
  refine ⟨q, bg, G, X, LX, ge1, gw1, ⟨FX_hi r1 (fun q h1 => hq q (by omega)), ⟨fun k hk => ?_, a2, fun i g hi hg => ?_, a4⟩, ⟨fun q h1 => ?_, by rw [hn]; exact r3.2⟩⟩, rest⟩
  · obtain ⟨t, c⟩ := a1 k hk
    have c' : (b + 4 ≤ X k ∧ X k + 1 < b + 8) ∨ b + 17 < X k := c
    exact ⟨TX_eq t (hq _ (by omega)) (hq _ (by omega)), c⟩
  · obtain ⟨c, hb⟩ := a3 i g hi hg
    exact ⟨(hq g (Or.inr hb)).trans c, hb⟩
  · have h2 := r3.2
    rw [hn] at h1
    rw [hq q (by omega)]
    exact r3.1 q h1
theorem MC_kr {b : Nat} {S S' : zq_S} {I : Nat → Int32} {A : Nat → Nat → Int64} {E : Nat → Nat → Int32} (h : MC b S I A E) (hk : ∀ q, b + 8 ≤ q → q ≤ b + 8 + 8 → S'.1 q = S.1 q) : MC b S' I A E := fun q h1 h2 => (hk q h1 h2).trans (h q h1 h2)
def PR (b K : Nat) (W : Option (zq_S × Int32)) (M : zq_S → Option (zq_S × Int32)) : Prop := ∃ (S1 : zq_S) (k : Int32) (S2 : zq_S) (r : Int32), W = some (S1, k) ∧ zs_is S1 (b + 8) 4 = true ∧ M S1 = some (S2, r) ∧ zs_is S2 (b + 8) 4 = true ∧ f_Mo_thrown (b + 8) S2 = some (S2, k) ∧ (k = 0 → zs_lal S2 (b + 17) 0 (0 : Int32) = some r.toInt64) ∧ SM b S2 K
section SI
variable {b : Nat} {S S' : zq_S} {I I' : Nat → Int32} {A A' : Nat → Nat → Int64} {E E' : Nat → Nat → Int32} {au tr op : Nat} {tx : List Int64} {sn : Nat → List Int64} {ge gw : Nat → Nat} {d u oe ow K : Nat}
theorem thr (c : Nat) (I : Nat → Int32) (A : Nat → Nat → Int64) (E : Nat → Nat → Int32) (B : Nat → Option zq_E) (n w : Nat) : f_Mo_thrown c (mo c I A E B n w) = some (mo c I A E B n w, I 0) := by
  unfold f_Mo_thrown
  rw [mo_g0, Option.bind_some]
/-- the reference's end over the class's -/
theorem SM_mk (hS : SC b S' au tr op tx sn ge gw d u oe ow) (hO : OUT b S') (hR : RM I' A' E' au tr op tx sn ge gw d u oe ow) (hW : WF op tx sn ge gw d u oe ow) (h8 : au < 8) (h2 : tr < 2) (hK : ow ≤ 1200 * K) (w : Nat) : SM b (mo (b + 8) I' A' E' S'.1 S'.2.1 w) K := by
  refine ⟨I', A', E', au, tr, op, tx, sn, ge, gw, d, u, oe, ow, SC_mid hS (fun q hq => mo_out _ _ _ _ _ _ _ (by omega)) rfl, fun q h1 h3 => mo_in _ _ _ _ _ _ _ h1 h3, ?_, hR, hW, h8, h2, hK⟩
  obtain ⟨f, hf⟩ := hO
  exact ⟨f, (mo_out _ _ _ _ _ _ _ (by omega)).trans hf⟩
theorem PR_ok (hS : SC b S' au tr op tx sn ge gw d u oe ow) (hkr : KR b S S') (hO : OUT b S) (hM : MC b S I A E) {x : Int32} {W : Option (zq_S × Int32)} {M : zq_S → Option (zq_S × Int32)} (hWr : W = (zs_las S' (b + 17) 0 (0 : Int32) x.toInt64).bind fun S11 => some (S11, (0 : Int32))) (hR : ∀ (B : Nat → Option zq_E) (n w : Nat), ∃ (I' : Nat → Int32) (A' : Nat → Nat → Int64) (E' : Nat → Nat → Int32) (w' : Nat), M (mo (b + 8) I A E B n w) = some (mo (b + 8) I' A' E' B n w', x) ∧ I' 0 = 0 ∧ RM I' A' E' au tr op tx sn ge gw d u oe ow) (hW : WF op tx sn ge gw d u oe ow) (h8 : au < 8) (h2 : tr < 2) (hK : ow ≤ 1200 * K) : PR b K W M := by
  obtain ⟨f, hf⟩ := hO
  have hf' : S'.1 (b + 17) = some (.inl (0, 1, .inr (.inl f))) := (hkr _ (by omega) (by omega)).trans hf
  have e1 := z_las hf' (show 0 < 1 by decide) (by decide) x.toInt64
  rw [nI_0] at e1
  have hS1 : SC b (zq_u S' (b + 17) (.inl (0, 1, .inr (.inl (vp_updL f 0 x.toInt64))))) au tr op tx sn ge gw d u oe ow := SC_mid hS (fun q hq => u_ne _ _ (by omega)) rfl
  have hM1 : MC b (zq_u S' (b + 17) (.inl (0, 1, .inr (.inl (vp_updL f 0 x.toInt64))))) I A E := MC_kr hM (fun q h1 h2 => (u_ne _ _ (by omega)).trans (hkr q h1 (by omega)))
  have hov := mo_over (b + 8) I A E hM1
  obtain ⟨I', A', E', w', e2, i0, hRM⟩ := hR (zq_u S' (b + 17) (.inl (0, 1, .inr (.inl (vp_updL f 0 x.toInt64))))).1 (zq_u S' (b + 17) (.inl (0, 1, .inr (.inl (vp_updL f 0 x.toInt64))))).2.1 (zq_u S' (b + 17) (.inl (0, 1, .inr (.inl (vp_updL f 0 x.toInt64))))).2.2
  refine ⟨zq_u S' (b + 17) (.inl (0, 1, .inr (.inl (vp_updL f 0 x.toInt64)))), 0, _, x, ?_, ?_, ?_, mo_is _ _ _ _ _ _ _, ?_, fun _ => ?_, SM_mk hS1 ⟨_, u_at _ _ _⟩ hRM hW h8 h2 hK w'⟩
  · rw [hWr, e1]; rfl
  · rw [hov]; exact mo_is _ _ _ _ _ _ _
  · rw [← hov] at e2; exact e2
  · rw [thr, i0]
  · have h17 : (mo (b + 8) I' A' E' (zq_u S' (b + 17) (.inl (0, 1, .inr (.inl (vp_updL f 0 x.toInt64))))).1 (zq_u S' (b + 17) (.inl (0, 1, .inr (.inl (vp_updL f 0 x.toInt64))))).2.1 w').1 (b + 17) = some (.inl (0, 1, .inr (.inl (vp_updL f 0 x.toInt64)))) := (mo_out _ _ _ _ _ _ _ (by omega)).trans (u_at _ _ _)
    have := z_lal h17 (show 0 < 1 by decide) (by decide)
    rw [nI_0] at this
    rw [this, updL_at]
theorem PR_bad (hS : SC b S au tr op tx sn ge gw d u oe ow) (hM : MC b S I A E) (hO : OUT b S) (hRM : RM I A E au tr op tx sn ge gw d u oe ow) (hW : WF op tx sn ge gw d u oe ow) (h8 : au < 8) (h2 : tr < 2) (hK : ow ≤ 1200 * K) {k : Int32} (hk : k ≠ 0) {W : Option (zq_S × Int32)} {M : zq_S → Option (zq_S × Int32)} (hWr : W = some (bump S, k)) (hR : ∀ (B : Nat → Option zq_E) (n w : Nat), ∃ (w' : Nat) (r : Int32), M (mo (b + 8) I A E B n w) = some (mo (b + 8) (va_up I 0 k) A E B n w', r)) : PR b K W M := by
  have hM1 : MC b (bump S) I A E := hM
  have hov := mo_over (b + 8) I A E hM1
  obtain ⟨w', r, e2⟩ := hR (bump S).1 (bump S).2.1 (bump S).2.2
  refine ⟨bump S, k, _, r, hWr, ?_, ?_, mo_is _ _ _ _ _ _ _, ?_, fun h => absurd h hk, SM_mk (SC_bump hS) hO (RM_0 hRM k) hW h8 h2 hK w'⟩
  · rw [hov]; exact mo_is _ _ _ _ _ _ _
  · rw [← hov] at e2; exact e2
  · rw [thr, va_up_self]
end SI
