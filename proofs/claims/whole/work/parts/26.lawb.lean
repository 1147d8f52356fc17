theorem d_Law_next_0 : decode b_Law_next 0 = .ok (.aload_n 3, 1) := by decide +kernel
theorem d_Law_next_1 : decode b_Law_next 1 = .ok (.iconst 0, 1) := by decide +kernel
theorem d_Law_next_2 : decode b_Law_next 2 = .ok (.aload_n 0, 1) := by decide +kernel
theorem d_Law_next_3 : decode b_Law_next 3 = .ok (.iload_n 1, 1) := by decide +kernel
theorem d_Law_next_4 : decode b_Law_next 4 = .ok (.iload_n 2, 1) := by decide +kernel
theorem d_Law_next_5 : decode b_Law_next 5 = .ok (.invokevirtual 56, 3) := by decide +kernel
theorem d_Law_next_8 : decode b_Law_next 8 = .ok (.i2l, 1) := by decide +kernel
theorem d_Law_next_9 : decode b_Law_next 9 = .ok (.lastore, 1) := by decide +kernel
theorem d_Law_next_10 : decode b_Law_next 10 = .ok (.goto 11, 3) := by decide +kernel
theorem d_Law_next_13 : decode b_Law_next 13 = .ok (.astore 4, 2) := by decide +kernel
theorem d_Law_next_15 : decode b_Law_next 15 = .ok (.iconst 1, 1) := by decide +kernel
theorem d_Law_next_16 : decode b_Law_next 16 = .ok (.ireturn, 1) := by decide +kernel
theorem d_Law_next_17 : decode b_Law_next 17 = .ok (.astore 4, 2) := by decide +kernel
theorem d_Law_next_19 : decode b_Law_next 19 = .ok (.iconst 2, 1) := by decide +kernel
theorem d_Law_next_20 : decode b_Law_next 20 = .ok (.ireturn, 1) := by decide +kernel
theorem d_Law_next_21 : decode b_Law_next 21 = .ok (.iconst 0, 1) := by decide +kernel
theorem d_Law_next_22 : decode b_Law_next 22 = .ok (.ireturn, 1) := by decide +kernel
def f_Law_next (v0 : Option Nat) (v1 : Int32) (v2 : Int32) (v3 : Option Nat) (S : zq_S) : Option (zq_S × Int32) :=
  (v0).bind fun a1 =>
  if zs_is S a1 3 = true then
  zs_t (f_CT_next a1 v1 v2 S) (fun S4 x5 =>
    (v3).bind fun a9 =>
    (zs_las S4 a9 0 (0 : Int32) x5.toInt64).bind fun S11 =>
    some (S11, (0 : Int32))
    ) (fun S4 j =>
    if j = 0 then
      some (S4, (1 : Int32))
    else
    if j = 1 then
      some (S4, (2 : Int32))
    else
    none)
  else none
set_option maxHeartbeats 4000000 in
set_option maxRecDepth 100000 in
theorem c_Law_next {l : Launch} (hl : l.stackTraces = false) {G : zq_G} {v0 : Option Nat} {v1 : Int32} {v2 : Int32} {v3 : Option Nat} {S0 T : zq_S} {v : Int32} (hf : f_Law_next v0 v1 v2 v3 S0 = some (T, v)) : zq_M l y_Law_next (.codeWith y_Law_next b_Law_next 5 (some (.int)) [(0, 10, 13, 19), (0, 10, 17, 13)]) rm_Law_next G [va_rf v0, .int v1, .int v2, va_rf v3] S0 ((.inl (some (.int v)) : zq_R)) T := by
  refine zq_MofW (lo := [(0, va_rf v0), (1, .int v1), (2, .int v2), (3, va_rf v3)]) hl (by decide) (by cases v0 <;> cases v3 <;> exact (Nat.le_of_ble_eq_true rfl)) (by cases v0 <;> cases v3 <;> rfl) (fun X Z => ?_)
  have Z : Z_Law_next l G S0 T v X := Z
  show zq_W (Y_Law_next l G S0 T v) X 0 [(0, va_rf v0), (1, .int v1), (2, .int v2), (3, va_rf v3)] [] S0 0 0
  unfold f_Law_next at hf
  refine zq_aload_nQ Z d_Law_next_0 3 rfl ?_
  refine zq_iconst Z (0 : Int32) d_Law_next_1 (by decide) ?_
  refine zq_aload_nQ Z d_Law_next_2 0 rfl ?_
  refine zq_iload_n Z d_Law_next_3 1 rfl ?_
  refine zq_iload_n Z d_Law_next_4 2 rfl ?_
  have hq := Option.bind_eq_some_iff.mp hf
  clear hf
  obtain ⟨a1, h2, hf⟩ := hq
  subst h2
  have hq := zs_C hf
  clear hf
  obtain ⟨h6, hf⟩ := hq
  obtain ⟨fs7, e8⟩ := zs_isS h6
  have hq := zs_tS hf
  clear hf
  rcases hq with ⟨S4, x5, h3, hf⟩ | ⟨S4, j, h3, hf⟩
  · refine zq_contR (zq_stepV Z zq_cf1 (c_CT_next hl h3) 3 rfl e8 d_Law_next_5 m_443 m_445 m_446 m_444 m_108 p_CT_next ⟨(Nat.le_of_ble_eq_true rfl), (Nat.le_of_ble_eq_true rfl), (Nat.le_of_ble_eq_true rfl), (Nat.le_of_ble_eq_true rfl)⟩ rfl (by cases v3 <;> exact (Nat.le_of_ble_eq_true rfl))) Z.p ?_
    refine zq_i2l Z d_Law_next_8 ?_
    have hq := Option.bind_eq_some_iff.mp hf
    clear hf
    obtain ⟨a9, h10, hf⟩ := hq
    subst h10
    have hq := Option.bind_eq_some_iff.mp hf
    clear hf
    obtain ⟨S11, h12, hf⟩ := hq
    refine zr_lastore Z 0 (fun _ => rfl) d_Law_next_9 h12 ?_
    refine zq_goto Z 21 d_Law_next_10 (by decide) ?_
    refine zq_iconst Z (0 : Int32) d_Law_next_21 (by decide) ?_
    exact zq_iret Z d_Law_next_22 (zs_1 hf) (zs_2 (fun z => (.inl (some (.int z)) : zq_R)) hf) ⟨(Nat.le_of_ble_eq_true rfl), (Nat.le_of_ble_eq_true rfl)⟩
  · by_cases q13 : j = 0
    · replace hf := zs_T q13 hf
      subst q13
      refine zq_contC Z (zq_stepV Z zq_cf1 (c_CT_next hl h3) 3 rfl e8 d_Law_next_5 m_443 m_445 m_446 m_444 m_108 p_CT_next ⟨(Nat.le_of_ble_eq_true rfl), (Nat.le_of_ble_eq_true rfl), (Nat.le_of_ble_eq_true rfl), (Nat.le_of_ble_eq_true rfl)⟩ rfl (by cases v3 <;> exact (Nat.le_of_ble_eq_true rfl))) 13 ⟨[], (0, 10, 13, 19), [(0, 10, 17, 13)], _, rfl, (fun _ h => absurd h List.not_mem_nil), by decide, by decide, by decide, rfl, m_399, m_400⟩ (fun x => ?_)
      refine zq_astore Z [(4, .ref x), (0, .ref a1), (1, .int v1), (2, .int v2), (3, va_rf v3)] d_Law_next_13 (by decide) (by cases v3 <;> rfl) ?_
      refine zq_iconst Z (1 : Int32) d_Law_next_15 (by decide) ?_
      exact zq_iret Z d_Law_next_16 (zs_1 hf) (zs_2 (fun z => (.inl (some (.int z)) : zq_R)) hf) ⟨(Nat.le_of_ble_eq_true rfl), (Nat.le_of_ble_eq_true rfl)⟩
    · replace hf := zs_N q13 hf
      have hq := zs_C hf
      clear hf
      obtain ⟨q14, hf⟩ := hq
      subst q14
      refine zq_contC Z (zq_stepV Z zq_cf1 (c_CT_next hl h3) 3 rfl e8 d_Law_next_5 m_443 m_445 m_446 m_444 m_108 p_CT_next ⟨(Nat.le_of_ble_eq_true rfl), (Nat.le_of_ble_eq_true rfl), (Nat.le_of_ble_eq_true rfl), (Nat.le_of_ble_eq_true rfl)⟩ rfl (by cases v3 <;> exact (Nat.le_of_ble_eq_true rfl))) 17 ⟨[(0, 10, 13, 19)], (0, 10, 17, 13), [], _, rfl, (List.forall_mem_cons.mpr ⟨⟨by decide, _, m_399, by decide⟩, (fun _ h => absurd h List.not_mem_nil)⟩), by decide, by decide, by decide, rfl, m_393, m_394⟩ (fun x => ?_)
      refine zq_astore Z [(4, .ref x), (0, .ref a1), (1, .int v1), (2, .int v2), (3, va_rf v3)] d_Law_next_17 (by decide) (by cases v3 <;> rfl) ?_
      refine zq_iconst Z (2 : Int32) d_Law_next_19 (by decide) ?_
      exact zq_iret Z d_Law_next_20 (zs_1 hf) (zs_2 (fun z => (.inl (some (.int z)) : zq_R)) hf) ⟨(Nat.le_of_ble_eq_true rfl), (Nat.le_of_ble_eq_true rfl)⟩
