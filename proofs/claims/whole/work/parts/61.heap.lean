/-! the class's objects: tracker, history, groups, texts -/
def act (G : Nat → Option Nat) (k : Nat) : Prop := k = 0 ∨ k = 1 ∨ ∃ i, i < 41 ∧ k = i + 2 ∧ G i ≠ none
def CR (b q : Nat) : Prop := (b + 4 ≤ q ∧ q + 1 < b + 8) ∨ b + 17 < q
def HP (b : Nat) (S : zq_S) (G : Nat → Option Nat) (X : Nat → Nat) (LX : Nat → List Int64) (ge gw : Nat → Nat) : Prop :=
  (∀ k, act G k → TX S (X k) (LX k) ∧ CR b (X k)) ∧ (∀ k k', act G k → act G k' → X k = X k' → k = k') ∧ (∀ i g, i < 41 → G i = some g → S.1 g = some (.inr (1, [.ref (X (i + 2)), .int (nI (ge i)), .int (nI (gw i))])) ∧ b + 17 < g) ∧ (∀ i j g, i < 41 → j < 41 → G i = some g → G j = some g → i = j)
def FX (b : Nat) (S : zq_S) (au tr op bg d u tt td : Nat) (G : Nat → Option Nat) : Prop :=
  S.1 b = some (.inr (3, [.ref (b + 1), .ref (b + 3), .ref tt, .ref td, .int (nI au), .int (nI tr)])) ∧ S.1 (b + 1) = some (.inr (2, [.ref (b + 2), .int (nI d), .int (nI u), .int (nI op), .int (nI bg)])) ∧ S.1 (b + 2) = some (.inl (1, 41, .inr (.inr (.inr (.inr G))))) ∧ ∃ mf, S.1 (b + 3) = some (.inl (0, 600, .inr (.inl mf)))
def FRE (b : Nat) (S : zq_S) : Prop := (∀ q, S.2.1 ≤ q → S.1 q = none) ∧ b + 18 ≤ S.2.1
def RC (b : Nat) (S : zq_S) (au tr op bg d u : Nat) (G : Nat → Option Nat) (X : Nat → Nat) (LX : Nat → List Int64) (ge gw : Nat → Nat) : Prop := FX b S au tr op bg d u (X 0) (X 1) G ∧ HP b S G X LX ge gw ∧ FRE b S
/-- the reference's cells and the law's row stay -/
def KR (b : Nat) (S S' : zq_S) : Prop := ∀ q, b + 8 ≤ q → q ≤ b + 17 → S'.1 q = S.1 q
theorem KR_r (b : Nat) (S : zq_S) : KR b S S := fun _ _ _ => rfl
theorem KR_t {b : Nat} {S S' S'' : zq_S} (h : KR b S S') (h' : KR b S' S'') : KR b S S'' := fun q a c => (h' q a c).trans (h q a c)
theorem act0 (G : Nat → Option Nat) : act G 0 := Or.inl rfl
theorem act1 (G : Nat → Option Nat) : act G 1 := Or.inr (Or.inl rfl)
theorem actg {G : Nat → Option Nat} {i : Nat} (hi : i < 41) (h : G i ≠ none) : act G (i + 2) := Or.inr (Or.inr ⟨i, hi, rfl, h⟩)
theorem FRE_lt {b : Nat} {S : zq_S} (h : FRE b S) {q : Nat} {e : zq_E} (he : S.1 q = some e) : q < S.2.1 := by
  by_cases hq : q < S.2.1
  · exact hq
  · rw [h.1 q (by omega)] at he; cases he
theorem FRE_eq {b : Nat} {S S' : zq_S} (h : FRE b S) (hs : S'.2.1 = S.2.1) (hq : ∀ q, S.1 q = none → S'.1 q = none) : FRE b S' := ⟨fun q hq' => hq q (h.1 q (by omega)), by rw [hs]; exact h.2⟩
theorem FRE_u {b : Nat} {S : zq_S} (h : FRE b S) {p : Nat} {e e' : zq_E} (hp : S.1 p = some e) : FRE b (zq_u S p e') := FRE_eq h rfl (fun q hq => by
  have : q ≠ p := fun e => by rw [e, hp] at hq; cases hq
  rw [u_ne _ _ this]; exact hq)
theorem FRE_fr {b : Nat} {S S' : zq_S} {t : Nat} {l : List Int64} (h : FRE b S) (hf : FR S S' t) (ht : TX S t l) : FRE b S' := FRE_eq h hf.2 (fun q hq => by
  obtain ⟨f, h1, h2, _⟩ := ht
  have n1 : q ≠ t := fun e => by rw [e, h1] at hq; cases hq
  have n2 : q ≠ t + 1 := fun e => by rw [e, h2] at hq; cases hq
  rw [hf.1 q n1 n2]; exact hq)
theorem TX_eq {S S' : zq_S} {t : Nat} {l : List Int64} (h : TX S t l) (h1 : S'.1 t = S.1 t) (h2 : S'.1 (t + 1) = S.1 (t + 1)) : TX S' t l := by
  obtain ⟨f, a, b, c, d⟩ := h
  exact ⟨f, h1.trans a, h2.trans b, c, d⟩
theorem HP_lo {b : Nat} {S S' : zq_S} {G : Nat → Option Nat} {X : Nat → Nat} {LX : Nat → List Int64} {ge gw : Nat → Nat} (h : HP b S G X LX ge gw) (hq : ∀ q, b + 4 ≤ q → S'.1 q = S.1 q) : HP b S' G X LX ge gw := by
  obtain ⟨h1, h2, h3, h4⟩ := h
  refine ⟨fun k hk => ?_, h2, fun i g hi hg => ?_, h4⟩
  · obtain ⟨a, c⟩ := h1 k hk
    have hc : b + 4 ≤ X k := by unfold CR at c; omega
    exact ⟨TX_eq a (hq _ hc) (hq _ (by omega)), c⟩
  · obtain ⟨a, c⟩ := h3 i g hi hg
    exact ⟨(hq g (by omega)).trans a, c⟩
theorem HP_fr {b : Nat} {S S' : zq_S} {G : Nat → Option Nat} {X : Nat → Nat} {LX : Nat → List Int64} {ge gw : Nat → Nat} (h : HP b S G X LX ge gw) {k : Nat} (hk : act G k) (hf : FR S S' (X k)) {l' : List Int64} (ht : TX S' (X k) l') : HP b S' G X (va_up LX k l') ge gw := by
  obtain ⟨h1, h2, h3, h4⟩ := h
  have hTk := (h1 k hk).1
  refine ⟨fun k' hk' => ?_, h2, fun i g hi hg => ?_, h4⟩
  · by_cases e : k' = k
    · subst e; rw [va_up_self]; exact ⟨ht, (h1 k' hk').2⟩
    · rw [va_up_ne _ _ e]
      exact ⟨TX_fr hf (h1 k' hk').1 hTk (fun e' => e (h2 k' k hk' hk e')), (h1 k' hk').2⟩
  · obtain ⟨a, c⟩ := h3 i g hi hg
    obtain ⟨f, t1, t2, _⟩ := hTk
    exact ⟨(hf.1 g (cell_ne a t1 (by simp)) (cell_ne a t2 (by simp))).trans a, c⟩
theorem FX_hi {b : Nat} {S S' : zq_S} {au tr op bg d u tt td : Nat} {G : Nat → Option Nat} (h : FX b S au tr op bg d u tt td G) (hq : ∀ q, q < b + 4 → S'.1 q = S.1 q) : FX b S' au tr op bg d u tt td G := by
  obtain ⟨h0, h1, h2, mf, h3⟩ := h
  exact ⟨(hq b (by omega)).trans h0, (hq _ (by omega)).trans h1, (hq _ (by omega)).trans h2, mf, (hq _ (by omega)).trans h3⟩
theorem CR_ne {b t : Nat} (h : CR b t) : b + 4 ≤ t ∧ (∀ q, b + 8 ≤ q → q ≤ b + 17 → q ≠ t ∧ q ≠ t + 1) := by
  unfold CR at h
  refine ⟨by omega, fun q h1 h2 => by omega⟩
section RCS
variable {b : Nat} {S S' : zq_S} {au tr op bg d u : Nat} {G : Nat → Option Nat} {X : Nat → Nat} {LX : Nat → List Int64} {ge gw : Nat → Nat}
theorem RC_fr (h : RC b S au tr op bg d u G X LX ge gw) {k : Nat} (hk : act G k) (hf : FR S S' (X k)) {l' : List Int64} (ht : TX S' (X k) l') : RC b S' au tr op bg d u G X (va_up LX k l') ge gw ∧ KR b S S' := by
  obtain ⟨h1, h2, h3⟩ := h
  obtain ⟨c1, c2⟩ := CR_ne (h2.1 k hk).2
  exact ⟨⟨FX_hi h1 (fun q hq => hf.1 q (by omega) (by omega)), HP_fr h2 hk hf ht, FRE_fr h3 hf (h2.1 k hk).1⟩, fun q a c => hf.1 q (c2 q a c).1 (c2 q a c).2⟩
theorem KR_u {b : Nat} {S : zq_S} {p : Nat} {e : zq_E} (h : p < b + 8 ∨ b + 17 < p) : KR b S (zq_u S p e) := fun q h1 h2 => u_ne _ _ (by omega)
theorem RC_hist (h : RC b S au tr op bg d u G X LX ge gw) (d' u' op' bg' : Nat) : RC b (zq_u S (b + 1) (.inr (2, [.ref (b + 2), .int (nI d'), .int (nI u'), .int (nI op'), .int (nI bg')]))) au tr op' bg' d' u' G X LX ge gw := by
  obtain ⟨⟨f0, f1, f2, mf, f3⟩, h2, h3⟩ := h
  exact ⟨⟨(u_ne _ _ (by omega)).trans f0, u_at _ _ _, (u_ne _ _ (by omega)).trans f2, mf, (u_ne _ _ (by omega)).trans f3⟩, HP_lo h2 (fun q hq => u_ne _ _ (by omega)), FRE_u h3 f1⟩
theorem RC_mf (h : RC b S au tr op bg d u G X LX ge gw) (mf' : Nat → Int64) : RC b (zq_u S (b + 3) (.inl (0, 600, .inr (.inl mf')))) au tr op bg d u G X LX ge gw := by
  obtain ⟨⟨f0, f1, f2, mf, f3⟩, h2, h3⟩ := h
  exact ⟨⟨(u_ne _ _ (by omega)).trans f0, (u_ne _ _ (by omega)).trans f1, (u_ne _ _ (by omega)).trans f2, mf', u_at _ _ _⟩, HP_lo h2 (fun q hq => u_ne _ _ (by omega)), FRE_u h3 f3⟩
theorem RC_ct (h : RC b S au tr op bg d u G X LX ge gw) (au' tr' : Nat) : RC b (zq_u S b (.inr (3, [.ref (b + 1), .ref (b + 3), .ref (X 0), .ref (X 1), .int (nI au'), .int (nI tr')]))) au' tr' op bg d u G X LX ge gw := by
  obtain ⟨⟨f0, f1, f2, mf, f3⟩, h2, h3⟩ := h
  exact ⟨⟨u_at _ _ _, (u_ne _ _ (by omega)).trans f1, (u_ne _ _ (by omega)).trans f2, mf, (u_ne _ _ (by omega)).trans f3⟩, HP_lo h2 (fun q hq => u_ne _ _ (by omega)), FRE_u h3 f0⟩
theorem RC_grp (h : RC b S au tr op bg d u G X LX ge gw) {i g : Nat} (hi : i < 41) (hg : G i = some g) (e' w' : Nat) : RC b (zq_u S g (.inr (1, [.ref (X (i + 2)), .int (nI e'), .int (nI w')]))) au tr op bg d u G X LX (va_up ge i e') (va_up gw i w') ∧ KR b S (zq_u S g (.inr (1, [.ref (X (i + 2)), .int (nI e'), .int (nI w')]))) := by
  obtain ⟨h1, ⟨a1, a2, a3, a4⟩, h3⟩ := h
  obtain ⟨cg, bg'⟩ := a3 i g hi hg
  refine ⟨⟨FX_hi h1 (fun q hq => u_ne _ _ (by omega)), ⟨fun k hk => ?_, a2, fun j g' hj hg' => ?_, a4⟩, FRE_u h3 cg⟩, KR_u (Or.inr bg')⟩
  · obtain ⟨t, c⟩ := a1 k hk
    have t' := t
    obtain ⟨f, t1, t2, _⟩ := t
    exact ⟨TX_eq t' (u_ne _ _ (cell_ne t1 cg (by simp))) (u_ne _ _ (cell_ne t2 cg (by simp))), c⟩
  · by_cases e : j = i
    · subst e
      rw [hg] at hg'
      cases hg'
      rw [va_up_self, va_up_self]
      exact ⟨u_at _ _ _, bg'⟩
    · rw [va_up_ne _ _ e, va_up_ne _ _ e]
      have : g' ≠ g := fun e' => e (a4 j i g hj hi (by rw [hg', e']) hg)
      exact ⟨(u_ne _ _ this).trans (a3 j g' hj hg').1, (a3 j g' hj hg').2⟩
/-- the order of the groups and of their texts is another -/
theorem HP_perm (h : HP b S G X LX ge gw) (p : Nat → Nat) (hp : ∀ i j, p i = p j → i = j) (h41 : ∀ i, i < 41 → p i < 41) : HP b S (fun i => G (p i)) (fun k => if k < 2 then X k else X (p (k - 2) + 2)) (fun k => if k < 2 then LX k else LX (p (k - 2) + 2)) (fun i => ge (p i)) (fun i => gw (p i)) := by
  obtain ⟨a1, a2, a3, a4⟩ := h
  have hact : ∀ k, act (fun i => G (p i)) k → act G (if k < 2 then k else p (k - 2) + 2) := by
    intro k hk
    rcases hk with hk | hk | ⟨i, hi, hk, hg⟩
    · subst hk; exact act0 G
    · subst hk; exact act1 G
    · subst hk
      rw [if_neg (by omega), show i + 2 - 2 = i by omega]
      exact actg (h41 i hi) hg
  have hX : ∀ (α : Type) (f : Nat → α) (k : Nat), (if k < 2 then f k else f (p (k - 2) + 2)) = f (if k < 2 then k else p (k - 2) + 2) := by
    intro α f k; split <;> rfl
  refine ⟨fun k hk => ?_, fun k k' hk hk' e => ?_, fun i g hi hg => ?_, fun i j g hi hj hg hg' => hp i j (a4 _ _ g (h41 i hi) (h41 j hj) hg hg')⟩
  · simp only [hX Nat X, hX (List Int64) LX]
    exact a1 _ (hact k hk)
  · simp only [hX Nat X] at e
    have := a2 _ _ (hact k hk) (hact k' hk') e
    by_cases h1 : k < 2
    · by_cases h2 : k' < 2
      · rw [if_pos h1, if_pos h2] at this; exact this
      · rw [if_pos h1, if_neg h2] at this; omega
    · by_cases h2 : k' < 2
      · rw [if_neg h1, if_pos h2] at this; omega
      · rw [if_neg h1, if_neg h2] at this
        have := hp (k - 2) (k' - 2) (by omega)
        omega
  · obtain ⟨c, d⟩ := a3 (p i) g (h41 i hi) hg
    refine ⟨?_, d⟩
    show S.1 g = some (.inr (1, [.ref (if i + 2 < 2 then X (i + 2) else X (p (i + 2 - 2) + 2)), .int (nI (ge (p i))), .int (nI (gw (p i)))]))
    rw [if_neg (by omega), show i + 2 - 2 = i by omega]
    exact c
def sw {α : Type} (a c : Nat) (f : Nat → α) : Nat → α := fun k => if k = a then f c else if k = c then f a else f k
theorem sw_inj {a c k k' : Nat} (h : (if k = a then c else if k = c then a else k) = (if k' = a then c else if k' = c then a else k')) : k = k' := by
  split at h
  · split at h
    · omega
    · split at h <;> omega
  · split at h
    · split at h
      · omega
      · split at h <;> omega
    · split at h
      · omega
      · split at h <;> omega
theorem sw_at {α : Type} (a c : Nat) (f : Nat → α) (k : Nat) : sw a c f k = f (if k = a then c else if k = c then a else k) := by
  unfold sw; split
  · rfl
  · split <;> rfl
/-- the tracker's text and its draft change places -/
theorem RC_sw (h : RC b S au tr op bg d u G X LX ge gw) : RC b (zq_u S b (.inr (3, [.ref (b + 1), .ref (b + 3), .ref (X 1), .ref (X 0), .int (nI au), .int (nI tr)]))) au tr op bg d u G (sw 0 1 X) (sw 0 1 LX) ge gw := by
  obtain ⟨⟨f0, f1, f2, mf, f3⟩, h2, h3⟩ := h
  obtain ⟨a1, a2, a3, a4⟩ := HP_lo (S' := zq_u S b (.inr (3, [.ref (b + 1), .ref (b + 3), .ref (X 1), .ref (X 0), .int (nI au), .int (nI tr)]))) h2 (fun q hq => u_ne _ _ (by omega))
  refine ⟨⟨u_at _ _ _, (u_ne _ _ (by omega)).trans f1, (u_ne _ _ (by omega)).trans f2, mf, (u_ne _ _ (by omega)).trans f3⟩, ⟨fun k hk => ?_, fun k k' hk hk' e => ?_, fun i g hi hg => ?_, a4⟩, FRE_u h3 f0⟩
  · rw [sw_at, sw_at]
    refine a1 _ ?_
    split
    · exact act1 G
    · split
      · exact act0 G
      · exact hk
  · rw [sw_at, sw_at] at e
    have hh : ∀ k, act G k → act G (if k = 0 then 1 else if k = 1 then 0 else k) := by
      intro k hk
      split
      · exact act1 G
      · split
        · exact act0 G
        · exact hk
    exact sw_inj (a2 _ _ (hh k hk) (hh k' hk') e)
  · have := a3 i g hi hg
    rwa [sw_at, if_neg (by omega), if_neg (by omega)]
/-- the tracker's text and a group's change places -/
theorem RC_cross (h : RC b S au tr op bg d u G X LX ge gw) {i g : Nat} (hi : i < 41) (hg : G i = some g) : RC b (zq_u (zq_u S g (.inr (1, [.ref (X 0), .int (nI (ge i)), .int (nI (gw i))]))) b (.inr (3, [.ref (b + 1), .ref (b + 3), .ref (X (i + 2)), .ref (X 1), .int (nI au), .int (nI tr)]))) au tr op bg d u G (sw 0 (i + 2) X) (sw 0 (i + 2) LX) ge gw ∧ KR b S (zq_u (zq_u S g (.inr (1, [.ref (X 0), .int (nI (ge i)), .int (nI (gw i))]))) b (.inr (3, [.ref (b + 1), .ref (b + 3), .ref (X (i + 2)), .ref (X 1), .int (nI au), .int (nI tr)]))) := by
  obtain ⟨⟨f0, f1, f2, mf, f3⟩, ⟨a1, a2, a3, a4⟩, h3⟩ := h
  obtain ⟨cg, bg'⟩ := a3 i g hi hg
  have hgn : G i ≠ none := by rw [hg]; simp
  refine ⟨⟨⟨?_, ?_, ?_, mf, ?_⟩, ⟨fun k hk => ?_, fun k k' hk hk' e => ?_, fun j g' hj hg' => ?_, a4⟩, ?_⟩, ?_⟩
  · rw [u_at, sw_at, sw_at]; simp
  · exact (u_ne _ _ (by omega)).trans ((u_ne _ _ (by omega)).trans f1)
  · exact (u_ne _ _ (by omega)).trans ((u_ne _ _ (by omega)).trans f2)
  · exact (u_ne _ _ (by omega)).trans ((u_ne _ _ (by omega)).trans f3)
  · have hk' : act G (if k = 0 then i + 2 else if k = i + 2 then 0 else k) := by
      split
      · exact actg hi hgn
      · split
        · exact act0 G
        · exact hk
    rw [sw_at, sw_at]
    obtain ⟨t, c⟩ := a1 _ hk'
    have t' := t
    have hc := (CR_ne c).1
    obtain ⟨f, t1, t2, _⟩ := t
    exact ⟨TX_eq t' ((u_ne _ _ (by omega)).trans (u_ne _ _ (cell_ne t1 cg (by simp)))) ((u_ne _ _ (by omega)).trans (u_ne _ _ (cell_ne t2 cg (by simp)))), c⟩
  · rw [sw_at, sw_at] at e
    have hh : ∀ k, act G k → act G (if k = 0 then i + 2 else if k = i + 2 then 0 else k) := by
      intro k hk
      split
      · exact actg hi hgn
      · split
        · exact act0 G
        · exact hk
    exact sw_inj (a2 _ _ (hh k hk) (hh k' hk') e)
  · by_cases e : j = i
    · subst e
      rw [hg] at hg'
      cases hg'
      refine ⟨?_, bg'⟩
      rw [sw_at, if_neg (by omega), if_pos rfl]
      exact (u_ne _ _ (by omega)).trans (u_at _ _ _)
    · have hne : g' ≠ g := fun e' => e (a4 j i g hj hi (by rw [hg', e']) hg)
      have hb := (a3 j g' hj hg').2
      refine ⟨?_, hb⟩
      rw [sw_at, if_neg (by omega), if_neg (by omega)]
      exact (u_ne _ _ (by omega)).trans ((u_ne _ _ hne).trans (a3 j g' hj hg').1)
  · exact FRE_u (e := .inr (3, [.ref (b + 1), .ref (b + 3), .ref (X 0), .ref (X 1), .int (nI au), .int (nI tr)])) (FRE_u h3 cg) ((u_ne _ _ (by omega)).trans f0)
  · exact KR_t (KR_u (Or.inr bg')) (KR_u (Or.inl (by omega)))
theorem n_at (S : zq_S) (e : zq_E) : (zq_n S e).1 S.2.1 = some e := by simp [zq_n]
theorem n_ne (S : zq_S) {q : Nat} (e : zq_E) (h : q ≠ S.2.1) : (zq_n S e).1 q = S.1 q := by simp [zq_n, h]
theorem T_new (S : zq_S) : ∃ S', f_Text_init S.2.1 (zq_n S (.inr (0, [.null, .int 0]))) = some (S', ()) ∧ TX S' S.2.1 [] ∧ (∀ q, q ≠ S.2.1 → q ≠ S.2.1 + 1 → S'.1 q = S.1 q) ∧ S'.2.1 = S.2.1 + 2 := by
  have k0 : (zq_n (zq_n S (.inr (0, [.null, .int 0]))) (.inl (0, 600, .inr (.inl (fun _ => 0))))).1 S.2.1 = some (.inr (0, [.null, .int 0])) := by
    rw [n_ne _ _ (show S.2.1 ≠ (zq_n S (.inr (0, [.null, .int 0]))).2.1 from Nat.ne_of_lt (Nat.lt_succ_self _)), n_at]
  refine ⟨zq_u (zq_u (zq_n (zq_n S (.inr (0, [.null, .int 0]))) (.inl (0, 600, .inr (.inl (fun _ => 0))))) S.2.1 (.inr (0, [.ref (S.2.1 + 1), .int 0]))) S.2.1 (.inr (0, [.ref (S.2.1 + 1), .int (nI 0)])), ?_, ⟨fun _ => 0, u_at _ _ _, ?_, by simp, fun i hi => absurd hi (by simp)⟩, fun q h1 h2 => ?_, rfl⟩
  · unfold f_Text_init
    rw [z_p k0 (by simp), Option.bind_some, z_p (u_at _ _ _) (by simp), Option.bind_some]; rfl
  · rw [u_ne _ _ (by omega), u_ne _ _ (by omega)]
    exact n_at (zq_n S (.inr (0, [.null, .int 0]))) _
  · rw [u_ne _ _ h1, u_ne _ _ h1, n_ne _ _ (show q ≠ (zq_n S (.inr (0, [.null, .int 0]))).2.1 from h2), n_ne _ _ h1]
theorem G_new (S : zq_S) : ∃ S', f_Group_init S.2.1 (zq_n S (.inr (1, [.null, .int 0, .int 0]))) = some (S', ()) ∧ S'.1 S.2.1 = some (.inr (1, [.ref (S.2.1 + 1), .int (nI 0), .int (nI 0)])) ∧ TX S' (S.2.1 + 1) [] ∧ (∀ q, q ≠ S.2.1 → q ≠ S.2.1 + 1 → q ≠ S.2.1 + 2 → S'.1 q = S.1 q) ∧ S'.2.1 = S.2.1 + 3 := by
  obtain ⟨S1, e1, t1, q1, s1⟩ := T_new (zq_n S (.inr (1, [.null, .int 0, .int 0])))
  have hs : (zq_n S (.inr (1, [.null, .int 0, .int 0]))).2.1 = S.2.1 + 1 := rfl
  rw [hs] at e1 t1 q1 s1
  have k0 : S1.1 S.2.1 = some (.inr (1, [.null, .int 0, .int 0])) := (q1 _ (by omega) (by omega)).trans (n_at _ _)
  refine ⟨zq_u (zq_u (zq_u S1 S.2.1 (.inr (1, [.ref (S.2.1 + 1), .int 0, .int 0]))) S.2.1 (.inr (1, [.ref (S.2.1 + 1), .int 0, .int 0]))) S.2.1 (.inr (1, [.ref (S.2.1 + 1), .int (nI 0), .int (nI 0)])), ?_, u_at _ _ _, ?_, fun q h1 h2 h3 => ?_, s1⟩
  · unfold f_Group_init
    rw [hs, e1, zb_S, z_p k0 (by simp), Option.bind_some, z_p (u_at _ _ _) (by simp), Option.bind_some, z_p (u_at _ _ _) (by simp), Option.bind_some]; rfl
  · exact TX_eq t1 (by rw [u_ne _ _ (by omega), u_ne _ _ (by omega), u_ne _ _ (by omega)]) (by rw [u_ne _ _ (by omega), u_ne _ _ (by omega), u_ne _ _ (by omega)])
  · rw [u_ne _ _ h1, u_ne _ _ h1, u_ne _ _ h1, q1 q h2 (by omega), n_ne _ _ h1]
end RCS
