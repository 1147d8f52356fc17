/-! the beginning -/
theorem ap {S : zq_S} {a ci k : Nat} {fs : List Value} (h : S.1 a = some (.inr (ci, fs))) (hk : k < fs.length) (ha : a < S.2.1) (e : zq_E) : ∃ S', zs_p (zq_n S e) a ci k (va_rf (some S.2.1)) = some S' ∧ S'.1 a = some (.inr (ci, fs.set k (.ref S.2.1))) ∧ S'.1 S.2.1 = some e ∧ (∀ q, q ≠ a → q ≠ S.2.1 → S'.1 q = S.1 q) ∧ S'.2.1 = S.2.1 + 1 := by
  have h0 : (zq_n S e).1 a = some (.inr (ci, fs)) := (n_ne S e (by omega)).trans h
  exact ⟨_, z_p h0 hk _, u_at _ _ _, (u_ne _ _ (by omega)).trans (n_at S e), fun q h1 h2 => (u_ne _ _ h1).trans (n_ne S e h2), rfl⟩
theorem M_new (S : zq_S) : ∃ S', f_Mo_init S.2.1 (zq_n S (.inr (4, [.int 0, .int 0, .int 0, .int 0, .null, .int 0, .null, .int 0, .null, .int 0, .null, .null, .int 0, .int 0, .null, .null, .null, .int 0, .int 0, .int 0]))) = some (S', ()) ∧ (∀ q, S.2.1 ≤ q → q ≤ S.2.1 + 8 → S'.1 q = moc S.2.1 (fun _ => 0) (fun _ _ => 0) (fun _ _ => 0) (fun _ => none) q) ∧ (∀ q, ¬ (S.2.1 ≤ q ∧ q ≤ S.2.1 + 8) → S'.1 q = S.1 q) ∧ S'.2.1 = S.2.1 + 9 := by
  have k0 := n_at S (.inr (4, [.int 0, .int 0, .int 0, .int 0, .null, .int 0, .null, .int 0, .null, .int 0, .null, .null, .int 0, .int 0, .null, .null, .null, .int 0, .int 0, .int 0]))
  have q0 : ∀ q, q ≠ S.2.1 → (zq_n S (.inr (4, [.int 0, .int 0, .int 0, .int 0, .null, .int 0, .null, .int 0, .null, .int 0, .null, .null, .int 0, .int 0, .null, .null, .null, .int 0, .int 0, .int 0]))).1 q = S.1 q := fun q h => n_ne S _ h
  have z0 : (zq_n S (.inr (4, [.int 0, .int 0, .int 0, .int 0, .null, .int 0, .null, .int 0, .null, .int 0, .null, .null, .int 0, .int 0, .null, .null, .null, .int 0, .int 0, .int 0]))).2.1 = S.2.1 + 1 := rfl
  unfold f_Mo_init
  generalize (zq_n S (.inr (4, [.int 0, .int 0, .int 0, .int 0, .null, .int 0, .null, .int 0, .null, .int 0, .null, .null, .int 0, .int 0, .null, .null, .null, .int 0, .int 0, .int 0]))) = S0 at k0 q0 z0 ⊢
  generalize S.2.1 = c at k0 q0 z0 ⊢
  obtain ⟨S1, e1, k1, r1, q1, z1⟩ := ap (k := 4) k0 (by simp) (by omega) (.inl (0, 600, .inr (.inl (fun _ => 0))))
  obtain ⟨S2, e2, k2, r2, q2, z2⟩ := ap (k := 6) k1 (by simp) (by omega) (.inl (0, 600, .inr (.inl (fun _ => 0))))
  obtain ⟨S3, e3, k3, r3, q3, z3⟩ := ap (k := 8) k2 (by simp) (by omega) (.inl (0, 600, .inr (.inl (fun _ => 0))))
  obtain ⟨S4, e4, k4, r4, q4, z4⟩ := ap (k := 10) k3 (by simp) (by omega) (.inl (0, 6000, .inr (.inl (fun _ => 0))))
  obtain ⟨S5, e5, k5, r5, q5, z5⟩ := ap (k := 11) k4 (by simp) (by omega) (.inl (0, 6000, .inr (.inl (fun _ => 0))))
  obtain ⟨S6, e6, k6, r6, q6, z6⟩ := ap (k := 14) k5 (by simp) (by omega) (.inl (2, 42, .inl (fun _ => 0)))
  obtain ⟨S7, e7, k7, r7, q7, z7⟩ := ap (k := 15) k6 (by simp) (by omega) (.inl (2, 42, .inl (fun _ => 0)))
  obtain ⟨S8, e8, k8, r8, q8, z8⟩ := ap (k := 16) k7 (by simp) (by omega) (.inl (2, 42, .inl (fun _ => 0)))
  have s1 : S1.2.1 = c + 2 := by omega
  have s2 : S2.2.1 = c + 3 := by omega
  have s3 : S3.2.1 = c + 4 := by omega
  have s4 : S4.2.1 = c + 5 := by omega
  have s5 : S5.2.1 = c + 6 := by omega
  have s6 : S6.2.1 = c + 7 := by omega
  have s7 : S7.2.1 = c + 8 := by omega
  have s8 : S8.2.1 = c + 9 := by omega
  refine ⟨S8, ?_, fun q h1 h2 => ?_, fun q h => ?_, s8⟩
  · rw [e1, Option.bind_some, e2, Option.bind_some, e3, Option.bind_some, e4, Option.bind_some, e5, Option.bind_some, e6, Option.bind_some, e7, Option.bind_some, e8, Option.bind_some]
  · simp only [z0, s1, s2, s3, s4, s5, s6, s7] at r1 r2 r3 r4 r5 r6 r7 r8 k8 q1 q2 q3 q4 q5 q6 q7 q8
    have h3 : q = c ∨ q = c + 1 ∨ q = c + 2 ∨ q = c + 3 ∨ q = c + 4 ∨ q = c + 5 ∨ q = c + 6 ∨ q = c + 7 ∨ q = c + 8 := by omega
    rcases h3 with h3 | h3 | h3 | h3 | h3 | h3 | h3 | h3 | h3 <;> subst h3
    · rw [k8]; simp [moc, mof]
    · rw [q8 _ (by omega) (by omega), q7 _ (by omega) (by omega), q6 _ (by omega) (by omega), q5 _ (by omega) (by omega), q4 _ (by omega) (by omega), q3 _ (by omega) (by omega), q2 _ (by omega) (by omega), r1]; simp [moc]
    · rw [q8 _ (by omega) (by omega), q7 _ (by omega) (by omega), q6 _ (by omega) (by omega), q5 _ (by omega) (by omega), q4 _ (by omega) (by omega), q3 _ (by omega) (by omega), r2]; simp [moc]
    · rw [q8 _ (by omega) (by omega), q7 _ (by omega) (by omega), q6 _ (by omega) (by omega), q5 _ (by omega) (by omega), q4 _ (by omega) (by omega), r3]; simp [moc]
    · rw [q8 _ (by omega) (by omega), q7 _ (by omega) (by omega), q6 _ (by omega) (by omega), q5 _ (by omega) (by omega), r4]; simp [moc]
    · rw [q8 _ (by omega) (by omega), q7 _ (by omega) (by omega), q6 _ (by omega) (by omega), r5]; simp [moc]
    · rw [q8 _ (by omega) (by omega), q7 _ (by omega) (by omega), r6]; simp [moc]
    · rw [q8 _ (by omega) (by omega), r7]; simp [moc]
    · rw [r8]; simp [moc]
  · rw [q8 _ (by omega) (by omega), q7 _ (by omega) (by omega), q6 _ (by omega) (by omega), q5 _ (by omega) (by omega), q4 _ (by omega) (by omega), q3 _ (by omega) (by omega), q2 _ (by omega) (by omega), q1 _ (by omega) (by omega), q0 _ (by omega)]
theorem H_new (S : zq_S) : ∃ S', f_Hist_init S.2.1 (zq_n S (.inr (2, [.null, .int 0, .int 0, .int 0, .int 0]))) = some (S', ()) ∧ S'.1 S.2.1 = some (.inr (2, [.ref (S.2.1 + 1), .int (nI 0), .int (nI 0), .int (nI 0), .int (nI 0)])) ∧ S'.1 (S.2.1 + 1) = some (.inl (1, 41, .inr (.inr (.inr (.inr (fun _ => none)))))) ∧ (∀ q, q ≠ S.2.1 → q ≠ S.2.1 + 1 → S'.1 q = S.1 q) ∧ S'.2.1 = S.2.1 + 2 := by
  have k0 := n_at S (.inr (2, [.null, .int 0, .int 0, .int 0, .int 0]))
  have q0 : ∀ q, q ≠ S.2.1 → (zq_n S (.inr (2, [.null, .int 0, .int 0, .int 0, .int 0]))).1 q = S.1 q := fun q h => n_ne S _ h
  have z0 : (zq_n S (.inr (2, [.null, .int 0, .int 0, .int 0, .int 0]))).2.1 = S.2.1 + 1 := rfl
  unfold f_Hist_init
  generalize (zq_n S (.inr (2, [.null, .int 0, .int 0, .int 0, .int 0]))) = S0 at k0 q0 z0 ⊢
  generalize S.2.1 = c at k0 q0 z0 ⊢
  obtain ⟨S1, e1, k1, r1, q1, z1⟩ := ap (k := 0) k0 (by simp) (by omega) (.inl (1, 41, .inr (.inr (.inr (.inr (fun _ => none))))))
  have e2 := z_p (k := 1) k1 (by simp) (.int 0)
  have e3 := z_p (k := 2) (u_at S1 c (.inr (2, ([Value.null, .int 0, .int 0, .int 0, .int 0].set 0 (.ref S0.2.1)).set 1 (.int 0)))) (by simp) (.int 0)
  refine ⟨_, by rw [e1, Option.bind_some, e2, Option.bind_some, e3, Option.bind_some, z_pz (u_at _ _ _) (by simp) (Or.inl rfl), Option.bind_some, z_pz (u_at _ _ _) (by simp) (Or.inl rfl), Option.bind_some], ?_, ?_, fun q h1 h2 => ?_, ?_⟩
  · rw [u_at, z0]; rfl
  · rw [u_ne _ _ (by omega), u_ne _ _ (by omega), u_ne _ _ (by omega), u_ne _ _ (by omega), ← z0, r1]
  · rw [u_ne _ _ h1, u_ne _ _ h1, u_ne _ _ h1, u_ne _ _ h1, q1 _ h1 (by omega), q0 _ h1]
  · show S1.2.1 = _
    omega
theorem C_new (S : zq_S) : ∃ S', f_CT_init S.2.1 (zq_n S (.inr (3, [.null, .null, .null, .null, .int 0, .int 0]))) = some (S', ()) ∧ S'.1 S.2.1 = some (.inr (3, [.ref (S.2.1 + 1), .ref (S.2.1 + 3), .ref (S.2.1 + 4), .ref (S.2.1 + 6), .int (nI 0), .int (nI 0)])) ∧ S'.1 (S.2.1 + 1) = some (.inr (2, [.ref (S.2.1 + 2), .int (nI 0), .int (nI 0), .int (nI 0), .int (nI 0)])) ∧ S'.1 (S.2.1 + 2) = some (.inl (1, 41, .inr (.inr (.inr (.inr (fun _ => none)))))) ∧ S'.1 (S.2.1 + 3) = some (.inl (0, 600, .inr (.inl (fun _ => 0)))) ∧ TX S' (S.2.1 + 4) [] ∧ TX S' (S.2.1 + 6) [] ∧ (∀ q, S.2.1 + 8 ≤ q → S'.1 q = S.1 q) ∧ S'.2.1 = S.2.1 + 8 := by
  have k0 := n_at S (.inr (3, [.null, .null, .null, .null, .int 0, .int 0]))
  have q0 : ∀ q, q ≠ S.2.1 → (zq_n S (.inr (3, [.null, .null, .null, .null, .int 0, .int 0]))).1 q = S.1 q := fun q h => n_ne S _ h
  have z0 : (zq_n S (.inr (3, [.null, .null, .null, .null, .int 0, .int 0]))).2.1 = S.2.1 + 1 := rfl
  unfold f_CT_init
  generalize (zq_n S (.inr (3, [.null, .null, .null, .null, .int 0, .int 0]))) = S0 at k0 q0 z0 ⊢
  generalize S.2.1 = c at k0 q0 z0 ⊢
  obtain ⟨S1, e1, h1, g1, q1, z1⟩ := H_new S0
  have k1 : S1.1 c = _ := (q1 c (by omega) (by omega)).trans k0
  have e2 := z_p (k := 0) k1 (by simp) (va_rf (some S0.2.1))
  have k2 := u_at S1 c (.inr (3, [Value.null, .null, .null, .null, .int 0, .int 0].set 0 (va_rf (some S0.2.1))))
  have q2 : ∀ q, q ≠ c → _ := fun q h => u_ne S1 (.inr (3, [Value.null, .null, .null, .null, .int 0, .int 0].set 0 (va_rf (some S0.2.1)))) h
  have z2 : (zq_u S1 c (.inr (3, [Value.null, .null, .null, .null, .int 0, .int 0].set 0 (va_rf (some S0.2.1))))).2.1 = S1.2.1 := rfl
  generalize zq_u S1 c (.inr (3, [Value.null, .null, .null, .null, .int 0, .int 0].set 0 (va_rf (some S0.2.1)))) = S2 at e2 k2 q2 z2
  obtain ⟨S3, e3, k3, m3, q3, z3⟩ := ap (k := 1) k2 (by simp) (by omega) (.inl (0, 600, .inr (.inl (fun _ => 0))))
  obtain ⟨S4, e4, t4, q4, z4⟩ := T_new S3
  have k4 : S4.1 c = _ := (q4 c (by omega) (by omega)).trans k3
  have e5 := z_p (k := 2) k4 (by simp) (va_rf (some S3.2.1))
  have k5 := u_at S4 c (.inr (3, (([Value.null, .null, .null, .null, .int 0, .int 0].set 0 (va_rf (some S0.2.1))).set 1 (.ref S2.2.1)).set 2 (va_rf (some S3.2.1))))
  have q5 : ∀ q, q ≠ c → _ := fun q h => u_ne S4 (.inr (3, (([Value.null, .null, .null, .null, .int 0, .int 0].set 0 (va_rf (some S0.2.1))).set 1 (.ref S2.2.1)).set 2 (va_rf (some S3.2.1)))) h
  have z5 : (zq_u S4 c (.inr (3, (([Value.null, .null, .null, .null, .int 0, .int 0].set 0 (va_rf (some S0.2.1))).set 1 (.ref S2.2.1)).set 2 (va_rf (some S3.2.1))))).2.1 = S4.2.1 := rfl
  generalize zq_u S4 c (.inr (3, (([Value.null, .null, .null, .null, .int 0, .int 0].set 0 (va_rf (some S0.2.1))).set 1 (.ref S2.2.1)).set 2 (va_rf (some S3.2.1)))) = S5 at e5 k5 q5 z5
  obtain ⟨S6, e6, t6, q6, z6⟩ := T_new S5
  have k6 : S6.1 c = _ := (q6 c (by omega) (by omega)).trans k5
  have e7 := z_p (k := 3) k6 (by simp) (va_rf (some S5.2.1))
  have s1 : S0.2.1 = c + 1 := z0
  have s2 : S2.2.1 = c + 3 := by omega
  have s3 : S3.2.1 = c + 4 := by omega
  have s5 : S5.2.1 = c + 6 := by omega
  have s6 : S6.2.1 = c + 8 := by omega
  refine ⟨_, by rw [e1, zb_S, e2, Option.bind_some, e3, Option.bind_some, e4, zb_S, e5, Option.bind_some, e6, zb_S, e7, Option.bind_some, z_p (u_at _ _ _) (by simp), Option.bind_some, z_pz (u_at _ _ _) (by simp) (Or.inl rfl), Option.bind_some], ?_, ?_, ?_, ?_, ?_, ?_, fun q h => ?_, ?_⟩
  · rw [u_at, s1, s2, s3, s5]; rfl
  · rw [u_ne _ _ (by omega), u_ne _ _ (by omega), u_ne _ _ (by omega), q6 _ (by omega) (by omega), q5 _ (by omega), q4 _ (by omega) (by omega), q3 _ (by omega) (by omega), q2 _ (by omega), ← s1, h1, s1]
  · rw [u_ne _ _ (by omega), u_ne _ _ (by omega), u_ne _ _ (by omega), q6 _ (by omega) (by omega), q5 _ (by omega), q4 _ (by omega) (by omega), q3 _ (by omega) (by omega), q2 _ (by omega), show c + 2 = S0.2.1 + 1 by omega, g1]
  · rw [u_ne _ _ (by omega), u_ne _ _ (by omega), u_ne _ _ (by omega), q6 _ (by omega) (by omega), q5 _ (by omega), q4 _ (by omega) (by omega), ← s2, m3]
  · rw [s3] at t4
    refine TX_eq t4 ?_ ?_
    · rw [u_ne _ _ (by omega), u_ne _ _ (by omega), u_ne _ _ (by omega), q6 _ (by omega) (by omega), q5 _ (by omega)]
    · rw [u_ne _ _ (by omega), u_ne _ _ (by omega), u_ne _ _ (by omega), q6 _ (by omega) (by omega), q5 _ (by omega)]
  · rw [s5] at t6
    refine TX_eq t6 ?_ ?_
    · rw [u_ne _ _ (by omega), u_ne _ _ (by omega), u_ne _ _ (by omega)]
    · rw [u_ne _ _ (by omega), u_ne _ _ (by omega), u_ne _ _ (by omega)]
  · rw [u_ne _ _ (by omega), u_ne _ _ (by omega), u_ne _ _ (by omega), q6 _ (by omega) (by omega), q5 _ (by omega), q4 _ (by omega) (by omega), q3 _ (by omega) (by omega), q2 _ (by omega), q1 _ (by omega) (by omega), q0 _ (by omega)]
  · show S6.2.1 = _
    omega
theorem SM_start {n : Nat} {S : zq_S} (c0 : S.1 n = some (.inr (3, [.ref (n + 1), .ref (n + 3), .ref (n + 4), .ref (n + 6), .int (nI 0), .int (nI 0)]))) (c1 : S.1 (n + 1) = some (.inr (2, [.ref (n + 2), .int (nI 0), .int (nI 0), .int (nI 0), .int (nI 0)]))) (c2 : S.1 (n + 2) = some (.inl (1, 41, .inr (.inr (.inr (.inr (fun _ => none))))))) (c3 : S.1 (n + 3) = some (.inl (0, 600, .inr (.inl (fun _ => 0))))) (t4 : TX S (n + 4) []) (t6 : TX S (n + 6) []) (hM : MC n S (fun _ => 0) (fun _ _ => 0) (fun _ _ => 0)) (hO : OUT n S) (hF : FRE n S) : SM n S 0 := by
  refine ⟨fun _ => 0, fun _ _ => 0, fun _ _ => 0, 0, 0, 0, [], fun _ => [], fun _ => 0, fun _ => 0, 0, 0, 0, 0, ⟨[], 0, fun _ => none, fun k => if k = 0 then n + 4 else n + 6, fun _ => [], fun _ => 0, fun _ => 0, ⟨⟨c0, c1, c2, _, c3⟩, ⟨fun k hk => ?_, fun k k' hk hk' e => ?_, fun i g hi hg => (by cases hg), fun i j g hi hj hg => (by cases hg)⟩, hF⟩, rfl, rfl, fun i hi => by omega, fun i h1 h2 => by omega, fun i hi => by omega, fun _ => rfl, fun h => absurd h (Nat.lt_irrefl 0)⟩, hM, hO, ?_, ?_, by decide, by decide, by decide⟩
  · rcases hk with hk | hk | ⟨i, _, _, hk⟩
    · subst hk; exact ⟨t4, Or.inl ⟨by simp, by simp⟩⟩
    · subst hk; exact ⟨t6, Or.inl ⟨by simp, by simp⟩⟩
    · exact absurd rfl hk
  · rcases hk with hk | hk | ⟨i, _, _, hk⟩
    · rcases hk' with hk' | hk' | ⟨i, _, _, hk'⟩
      · rw [hk, hk']
      · subst hk hk'; simp at e
      · exact absurd rfl hk'
    · rcases hk' with hk' | hk' | ⟨i, _, _, hk'⟩
      · subst hk hk'; simp at e
      · rw [hk, hk']
      · exact absurd rfl hk'
    · exact absurd rfl hk
  · exact ⟨rfl, rfl, rfl, fun i hi => absurd hi (by simp), rfl, fun h => (by cases h), rfl, rfl, fun j hj => by omega, fun j hj => by omega, rfl, fun i hi => absurd hi (by simp), fun _ => rfl, fun h => absurd h (Nat.lt_irrefl 0)⟩
  · exact ⟨by simp, fun x hx => (by cases hx), fun j _ => ⟨by simp, fun x hx => (by cases hx)⟩, by decide, by decide, fun j hj => by omega, Nat.le_refl 0, fun _ => ⟨rfl, rfl⟩, fun h => absurd h (Nat.lt_irrefl 0), by decide⟩
