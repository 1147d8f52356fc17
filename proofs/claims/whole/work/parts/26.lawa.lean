theorem d_Law_author_0 : decode b_Law_author 0 = .ok (.aload_n 2, 1) := by decide +kernel
theorem d_Law_author_1 : decode b_Law_author 1 = .ok (.iconst 0, 1) := by decide +kernel
theorem d_Law_author_2 : decode b_Law_author 2 = .ok (.aload_n 0, 1) := by decide +kernel
theorem d_Law_author_3 : decode b_Law_author 3 = .ok (.iload_n 1, 1) := by decide +kernel
theorem d_Law_author_4 : decode b_Law_author 4 = .ok (.invokevirtual 7, 3) := by decide +kernel
theorem d_Law_author_7 : decode b_Law_author 7 = .ok (.i2l, 1) := by decide +kernel
theorem d_Law_author_8 : decode b_Law_author 8 = .ok (.lastore, 1) := by decide +kernel
theorem d_Law_author_9 : decode b_Law_author 9 = .ok (.goto 6, 3) := by decide +kernel
theorem d_Law_author_12 : decode b_Law_author 12 = .ok (.astore_n 3, 1) := by decide +kernel
theorem d_Law_author_13 : decode b_Law_author 13 = .ok (.iconst 1, 1) := by decide +kernel
theorem d_Law_author_14 : decode b_Law_author 14 = .ok (.ireturn, 1) := by decide +kernel
theorem d_Law_author_15 : decode b_Law_author 15 = .ok (.iconst 0, 1) := by decide +kernel
theorem d_Law_author_16 : decode b_Law_author 16 = .ok (.ireturn, 1) := by decide +kernel
def f_Law_author (v0 : Option Nat) (v1 : Int32) (v2 : Option Nat) (S : zq_S) : Option (zq_S × Int32) :=
  (v0).bind fun a1 =>
  if zs_is S a1 3 = true then
  zs_t (f_CT_author S a1 v1 S) (fun S4 x5 =>
    (v2).bind fun a9 =>
    (zs_las S4 a9 0 (0 : Int32) x5.toInt64).bind fun S11 =>
    some (S11, (0 : Int32))
    ) (fun S4 j =>
    if j = 1 then
      some (S4, (1 : Int32))
    else
    none)
  else none
set_option maxHeartbeats 4000000 in
set_option maxRecDepth 100000 in
theorem c_Law_author {l : Launch} (hl : l.stackTraces = false) {G : zq_G} {v0 : Option Nat} {v1 : Int32} {v2 : Option Nat} {S0 T : zq_S} {v : Int32} (hf : f_Law_author v0 v1 v2 S0 = some (T, v)) : zq_M l y_Law_author (.codeWith y_Law_author b_Law_author 4 (some (.int)) [(0, 9, 12, 13)]) rm_Law_author G [va_rf v0, .int v1, va_rf v2] S0 ((.inl (some (.int v)) : zq_R)) T := by
  refine zq_MofW (lo := [(0, va_rf v0), (1, .int v1), (2, va_rf v2)]) hl (by decide) (by cases v0 <;> cases v2 <;> exact (Nat.le_of_ble_eq_true rfl)) (by cases v0 <;> cases v2 <;> rfl) (fun X Z => ?_)
  have Z : Z_Law_author l G S0 T v X := Z
  show zq_W (Y_Law_author l G S0 T v) X 0 [(0, va_rf v0), (1, .int v1), (2, va_rf v2)] [] S0 0 0
  unfold f_Law_author at hf
  refine zq_aload_nQ Z d_Law_author_0 2 rfl ?_
  refine zq_iconst Z (0 : Int32) d_Law_author_1 (by decide) ?_
  refine zq_aload_nQ Z d_Law_author_2 0 rfl ?_
  refine zq_iload_n Z d_Law_author_3 1 rfl ?_
  have hq := Option.bind_eq_some_iff.mp hf
  clear hf
  obtain ⟨a1, h2, hf⟩ := hq
  subst h2
  have hq := zs_C hf
  clear hf
  obtain ⟨h6, hf⟩ := hq
  obtain ⟨fs7, e8⟩ := zs_isS h6
  have hq := zs_tS hf
  clear hf
  rcases hq with ⟨S4, x5, h3, hf⟩ | ⟨S4, j, h3, hf⟩
  · refine zq_contR (zq_stepV Z zq_cf1 (c_CT_author hl h3) 3 rfl e8 d_Law_author_4 m_389 m_391 m_392 m_390 m_108 p_CT_author ⟨(Nat.le_of_ble_eq_true rfl), (Nat.le_of_ble_eq_true rfl), (Nat.le_of_ble_eq_true rfl), (Nat.le_of_ble_eq_true rfl)⟩ rfl (by cases v2 <;> exact (Nat.le_of_ble_eq_true rfl))) Z.p ?_
    refine zq_i2l Z d_Law_author_7 ?_
    have hq := Option.bind_eq_some_iff.mp hf
    clear hf
    obtain ⟨a9, h10, hf⟩ := hq
    subst h10
    have hq := Option.bind_eq_some_iff.mp hf
    clear hf
    obtain ⟨S11, h12, hf⟩ := hq
    refine zr_lastore Z 0 (fun _ => rfl) d_Law_author_8 h12 ?_
    refine zq_goto Z 15 d_Law_author_9 (by decide) ?_
    refine zq_iconst Z (0 : Int32) d_Law_author_15 (by decide) ?_
    exact zq_iret Z d_Law_author_16 (zs_1 hf) (zs_2 (fun z => (.inl (some (.int z)) : zq_R)) hf) ⟨(Nat.le_of_ble_eq_true rfl), (Nat.le_of_ble_eq_true rfl)⟩
  · have hq := zs_C hf
    clear hf
    obtain ⟨q13, hf⟩ := hq
    subst q13
    refine zq_contC Z (zq_stepV Z zq_cf1 (c_CT_author hl h3) 3 rfl e8 d_Law_author_4 m_389 m_391 m_392 m_390 m_108 p_CT_author ⟨(Nat.le_of_ble_eq_true rfl), (Nat.le_of_ble_eq_true rfl), (Nat.le_of_ble_eq_true rfl), (Nat.le_of_ble_eq_true rfl)⟩ rfl (by cases v2 <;> exact (Nat.le_of_ble_eq_true rfl))) 12 ⟨[], (0, 9, 12, 13), [], _, rfl, (fun _ h => absurd h List.not_mem_nil), by decide, by decide, by decide, rfl, m_393, m_394⟩ (fun x => ?_)
    refine zq_astore_n Z rfl [(3, .ref x), (0, .ref a1), (1, .int v1), (2, va_rf v2)] d_Law_author_12 (by decide) (by cases v2 <;> rfl) ?_
    refine zq_iconst Z (1 : Int32) d_Law_author_13 (by decide) ?_
    exact zq_iret Z d_Law_author_14 (zs_1 hf) (zs_2 (fun z => (.inl (some (.int z)) : zq_R)) hf) ⟨(Nat.le_of_ble_eq_true rfl), (Nat.le_of_ble_eq_true rfl)⟩
theorem d_Law_insert_0 : decode b_Law_insert 0 = .ok (.aload 5, 2) := by decide +kernel
theorem d_Law_insert_2 : decode b_Law_insert 2 = .ok (.iconst 0, 1) := by decide +kernel
theorem d_Law_insert_3 : decode b_Law_insert 3 = .ok (.aload_n 0, 1) := by decide +kernel
theorem d_Law_insert_4 : decode b_Law_insert 4 = .ok (.iload_n 1, 1) := by decide +kernel
theorem d_Law_insert_5 : decode b_Law_insert 5 = .ok (.lload_n 2, 1) := by decide +kernel
theorem d_Law_insert_6 : decode b_Law_insert 6 = .ok (.iload 4, 2) := by decide +kernel
theorem d_Law_insert_8 : decode b_Law_insert 8 = .ok (.invokevirtual 15, 3) := by decide +kernel
theorem d_Law_insert_11 : decode b_Law_insert 11 = .ok (.i2l, 1) := by decide +kernel
theorem d_Law_insert_12 : decode b_Law_insert 12 = .ok (.lastore, 1) := by decide +kernel
theorem d_Law_insert_13 : decode b_Law_insert 13 = .ok (.goto 15, 3) := by decide +kernel
theorem d_Law_insert_16 : decode b_Law_insert 16 = .ok (.astore 6, 2) := by decide +kernel
theorem d_Law_insert_18 : decode b_Law_insert 18 = .ok (.iconst 1, 1) := by decide +kernel
theorem d_Law_insert_19 : decode b_Law_insert 19 = .ok (.ireturn, 1) := by decide +kernel
theorem d_Law_insert_20 : decode b_Law_insert 20 = .ok (.astore 6, 2) := by decide +kernel
theorem d_Law_insert_22 : decode b_Law_insert 22 = .ok (.iconst 2, 1) := by decide +kernel
theorem d_Law_insert_23 : decode b_Law_insert 23 = .ok (.ireturn, 1) := by decide +kernel
theorem d_Law_insert_24 : decode b_Law_insert 24 = .ok (.astore 6, 2) := by decide +kernel
theorem d_Law_insert_26 : decode b_Law_insert 26 = .ok (.iconst 3, 1) := by decide +kernel
theorem d_Law_insert_27 : decode b_Law_insert 27 = .ok (.ireturn, 1) := by decide +kernel
theorem d_Law_insert_28 : decode b_Law_insert 28 = .ok (.iconst 0, 1) := by decide +kernel
theorem d_Law_insert_29 : decode b_Law_insert 29 = .ok (.ireturn, 1) := by decide +kernel
def f_Law_insert (v0 : Option Nat) (v1 : Int32) (v2 : Int64) (v4 : Int32) (v5 : Option Nat) (S : zq_S) : Option (zq_S × Int32) :=
  (v0).bind fun a1 =>
  if zs_is S a1 3 = true then
  zs_t (f_CT_insert S a1 v1 v2 v4 S) (fun S4 x5 =>
    (v5).bind fun a9 =>
    (zs_las S4 a9 0 (0 : Int32) x5.toInt64).bind fun S11 =>
    some (S11, (0 : Int32))
    ) (fun S4 j =>
    if j = 0 then
      some (S4, (1 : Int32))
    else
    if j = 1 then
      some (S4, (2 : Int32))
    else
    if j = 2 then
      some (S4, (3 : Int32))
    else
    none)
  else none
set_option maxHeartbeats 4000000 in
set_option maxRecDepth 100000 in
theorem c_Law_insert {l : Launch} (hl : l.stackTraces = false) {G : zq_G} {v0 : Option Nat} {v1 : Int32} {v2 : Int64} {v4 : Int32} {v5 : Option Nat} {S0 T : zq_S} {v : Int32} (hf : f_Law_insert v0 v1 v2 v4 v5 S0 = some (T, v)) : zq_M l y_Law_insert (.codeWith y_Law_insert b_Law_insert 7 (some (.int)) [(0, 13, 16, 19), (0, 13, 20, 13), (0, 13, 24, 21)]) rm_Law_insert G [va_rf v0, .int v1, .long v2, .int v4, va_rf v5] S0 ((.inl (some (.int v)) : zq_R)) T := by
  refine zq_MofW (lo := [(0, va_rf v0), (1, .int v1), (2, .long v2), (4, .int v4), (5, va_rf v5)]) hl (by decide) (by cases v0 <;> cases v5 <;> exact (Nat.le_of_ble_eq_true rfl)) (by cases v0 <;> cases v5 <;> rfl) (fun X Z => ?_)
  have Z : Z_Law_insert l G S0 T v X := Z
  show zq_W (Y_Law_insert l G S0 T v) X 0 [(0, va_rf v0), (1, .int v1), (2, .long v2), (4, .int v4), (5, va_rf v5)] [] S0 0 0
  unfold f_Law_insert at hf
  refine zq_aloadQ Z d_Law_insert_0 4 rfl ?_
  refine zq_iconst Z (0 : Int32) d_Law_insert_2 (by decide) ?_
  refine zq_aload_nQ Z d_Law_insert_3 0 rfl ?_
  refine zq_iload_n Z d_Law_insert_4 1 rfl ?_
  refine zq_lload_n Z d_Law_insert_5 2 rfl ?_
  refine zq_iload Z d_Law_insert_6 3 rfl ?_
  have hq := Option.bind_eq_some_iff.mp hf
  clear hf
  obtain ⟨a1, h2, hf⟩ := hq
  subst h2
  have hq := zs_C hf
  clear hf
  obtain ⟨h6, hf⟩ := hq
  obtain ⟨fs7, e8⟩ := zs_isS h6
  have hq := zs_tS hf
  clear hf
  rcases hq with ⟨S4, x5, h3, hf⟩ | ⟨S4, j, h3, hf⟩
  · refine zq_contR (zq_stepV Z zq_cf1 (c_CT_insert hl h3) 3 rfl e8 d_Law_insert_8 m_395 m_397 m_398 m_396 m_108 p_CT_insert ⟨(Nat.le_of_ble_eq_true rfl), (Nat.le_of_ble_eq_true rfl), (Nat.le_of_ble_eq_true rfl), (Nat.le_of_ble_eq_true rfl)⟩ rfl (by cases v5 <;> exact (Nat.le_of_ble_eq_true rfl))) Z.p ?_
    refine zq_i2l Z d_Law_insert_11 ?_
    have hq := Option.bind_eq_some_iff.mp hf
    clear hf
    obtain ⟨a9, h10, hf⟩ := hq
    subst h10
    have hq := Option.bind_eq_some_iff.mp hf
    clear hf
    obtain ⟨S11, h12, hf⟩ := hq
    refine zr_lastore Z 0 (fun _ => rfl) d_Law_insert_12 h12 ?_
    refine zq_goto Z 28 d_Law_insert_13 (by decide) ?_
    refine zq_iconst Z (0 : Int32) d_Law_insert_28 (by decide) ?_
    exact zq_iret Z d_Law_insert_29 (zs_1 hf) (zs_2 (fun z => (.inl (some (.int z)) : zq_R)) hf) ⟨(Nat.le_of_ble_eq_true rfl), (Nat.le_of_ble_eq_true rfl)⟩
  · by_cases q13 : j = 0
    · replace hf := zs_T q13 hf
      subst q13
      refine zq_contC Z (zq_stepV Z zq_cf1 (c_CT_insert hl h3) 3 rfl e8 d_Law_insert_8 m_395 m_397 m_398 m_396 m_108 p_CT_insert ⟨(Nat.le_of_ble_eq_true rfl), (Nat.le_of_ble_eq_true rfl), (Nat.le_of_ble_eq_true rfl), (Nat.le_of_ble_eq_true rfl)⟩ rfl (by cases v5 <;> exact (Nat.le_of_ble_eq_true rfl))) 16 ⟨[], (0, 13, 16, 19), [(0, 13, 20, 13), (0, 13, 24, 21)], _, rfl, (fun _ h => absurd h List.not_mem_nil), by decide, by decide, by decide, rfl, m_399, m_400⟩ (fun x => ?_)
      refine zq_astore Z [(6, .ref x), (0, .ref a1), (1, .int v1), (2, .long v2), (4, .int v4), (5, va_rf v5)] d_Law_insert_16 (by decide) (by cases v5 <;> rfl) ?_
      refine zq_iconst Z (1 : Int32) d_Law_insert_18 (by decide) ?_
      exact zq_iret Z d_Law_insert_19 (zs_1 hf) (zs_2 (fun z => (.inl (some (.int z)) : zq_R)) hf) ⟨(Nat.le_of_ble_eq_true rfl), (Nat.le_of_ble_eq_true rfl)⟩
    · replace hf := zs_N q13 hf
      by_cases q14 : j = 1
      · replace hf := zs_T q14 hf
        subst q14
        refine zq_contC Z (zq_stepV Z zq_cf1 (c_CT_insert hl h3) 3 rfl e8 d_Law_insert_8 m_395 m_397 m_398 m_396 m_108 p_CT_insert ⟨(Nat.le_of_ble_eq_true rfl), (Nat.le_of_ble_eq_true rfl), (Nat.le_of_ble_eq_true rfl), (Nat.le_of_ble_eq_true rfl)⟩ rfl (by cases v5 <;> exact (Nat.le_of_ble_eq_true rfl))) 20 ⟨[(0, 13, 16, 19)], (0, 13, 20, 13), [(0, 13, 24, 21)], _, rfl, (List.forall_mem_cons.mpr ⟨⟨by decide, _, m_399, by decide⟩, (fun _ h => absurd h List.not_mem_nil)⟩), by decide, by decide, by decide, rfl, m_393, m_394⟩ (fun x => ?_)
        refine zq_astore Z [(6, .ref x), (0, .ref a1), (1, .int v1), (2, .long v2), (4, .int v4), (5, va_rf v5)] d_Law_insert_20 (by decide) (by cases v5 <;> rfl) ?_
        refine zq_iconst Z (2 : Int32) d_Law_insert_22 (by decide) ?_
        exact zq_iret Z d_Law_insert_23 (zs_1 hf) (zs_2 (fun z => (.inl (some (.int z)) : zq_R)) hf) ⟨(Nat.le_of_ble_eq_true rfl), (Nat.le_of_ble_eq_true rfl)⟩
      · replace hf := zs_N q14 hf
        have hq := zs_C hf
        clear hf
        obtain ⟨q15, hf⟩ := hq
        subst q15
        refine zq_contC Z (zq_stepV Z zq_cf1 (c_CT_insert hl h3) 3 rfl e8 d_Law_insert_8 m_395 m_397 m_398 m_396 m_108 p_CT_insert ⟨(Nat.le_of_ble_eq_true rfl), (Nat.le_of_ble_eq_true rfl), (Nat.le_of_ble_eq_true rfl), (Nat.le_of_ble_eq_true rfl)⟩ rfl (by cases v5 <;> exact (Nat.le_of_ble_eq_true rfl))) 24 ⟨[(0, 13, 16, 19), (0, 13, 20, 13)], (0, 13, 24, 21), [], _, rfl, (List.forall_mem_cons.mpr ⟨⟨by decide, _, m_399, by decide⟩, (List.forall_mem_cons.mpr ⟨⟨by decide, _, m_393, by decide⟩, (fun _ h => absurd h List.not_mem_nil)⟩)⟩), by decide, by decide, by decide, rfl, m_401, m_402⟩ (fun x => ?_)
        refine zq_astore Z [(6, .ref x), (0, .ref a1), (1, .int v1), (2, .long v2), (4, .int v4), (5, va_rf v5)] d_Law_insert_24 (by decide) (by cases v5 <;> rfl) ?_
        refine zq_iconst Z (3 : Int32) d_Law_insert_26 (by decide) ?_
        exact zq_iret Z d_Law_insert_27 (zs_1 hf) (zs_2 (fun z => (.inl (some (.int z)) : zq_R)) hf) ⟨(Nat.le_of_ble_eq_true rfl), (Nat.le_of_ble_eq_true rfl)⟩
theorem d_Law_erase_0 : decode b_Law_erase 0 = .ok (.aload_n 3, 1) := by decide +kernel
theorem d_Law_erase_1 : decode b_Law_erase 1 = .ok (.iconst 0, 1) := by decide +kernel
theorem d_Law_erase_2 : decode b_Law_erase 2 = .ok (.aload_n 0, 1) := by decide +kernel
theorem d_Law_erase_3 : decode b_Law_erase 3 = .ok (.iload_n 1, 1) := by decide +kernel
theorem d_Law_erase_4 : decode b_Law_erase 4 = .ok (.iload_n 2, 1) := by decide +kernel
theorem d_Law_erase_5 : decode b_Law_erase 5 = .ok (.invokevirtual 23, 3) := by decide +kernel
theorem d_Law_erase_8 : decode b_Law_erase 8 = .ok (.i2l, 1) := by decide +kernel
theorem d_Law_erase_9 : decode b_Law_erase 9 = .ok (.lastore, 1) := by decide +kernel
theorem d_Law_erase_10 : decode b_Law_erase 10 = .ok (.goto 7, 3) := by decide +kernel
theorem d_Law_erase_13 : decode b_Law_erase 13 = .ok (.astore 4, 2) := by decide +kernel
theorem d_Law_erase_15 : decode b_Law_erase 15 = .ok (.iconst 1, 1) := by decide +kernel
theorem d_Law_erase_16 : decode b_Law_erase 16 = .ok (.ireturn, 1) := by decide +kernel
theorem d_Law_erase_17 : decode b_Law_erase 17 = .ok (.iconst 0, 1) := by decide +kernel
theorem d_Law_erase_18 : decode b_Law_erase 18 = .ok (.ireturn, 1) := by decide +kernel
def f_Law_erase (v0 : Option Nat) (v1 : Int32) (v2 : Int32) (v3 : Option Nat) (S : zq_S) : Option (zq_S × Int32) :=
  (v0).bind fun a1 =>
  if zs_is S a1 3 = true then
  zs_t (f_CT_erase a1 v1 v2 S) (fun S4 x5 =>
    (v3).bind fun a9 =>
    (zs_las S4 a9 0 (0 : Int32) x5.toInt64).bind fun S11 =>
    some (S11, (0 : Int32))
    ) (fun S4 j =>
    if j = 0 then
      some (S4, (1 : Int32))
    else
    none)
  else none
set_option maxHeartbeats 4000000 in
set_option maxRecDepth 100000 in
theorem c_Law_erase {l : Launch} (hl : l.stackTraces = false) {G : zq_G} {v0 : Option Nat} {v1 : Int32} {v2 : Int32} {v3 : Option Nat} {S0 T : zq_S} {v : Int32} (hf : f_Law_erase v0 v1 v2 v3 S0 = some (T, v)) : zq_M l y_Law_erase (.codeWith y_Law_erase b_Law_erase 5 (some (.int)) [(0, 10, 13, 19)]) rm_Law_erase G [va_rf v0, .int v1, .int v2, va_rf v3] S0 ((.inl (some (.int v)) : zq_R)) T := by
  refine zq_MofW (lo := [(0, va_rf v0), (1, .int v1), (2, .int v2), (3, va_rf v3)]) hl (by decide) (by cases v0 <;> cases v3 <;> exact (Nat.le_of_ble_eq_true rfl)) (by cases v0 <;> cases v3 <;> rfl) (fun X Z => ?_)
  have Z : Z_Law_erase l G S0 T v X := Z
  show zq_W (Y_Law_erase l G S0 T v) X 0 [(0, va_rf v0), (1, .int v1), (2, .int v2), (3, va_rf v3)] [] S0 0 0
  unfold f_Law_erase at hf
  refine zq_aload_nQ Z d_Law_erase_0 3 rfl ?_
  refine zq_iconst Z (0 : Int32) d_Law_erase_1 (by decide) ?_
  refine zq_aload_nQ Z d_Law_erase_2 0 rfl ?_
  refine zq_iload_n Z d_Law_erase_3 1 rfl ?_
  refine zq_iload_n Z d_Law_erase_4 2 rfl ?_
  have hq := Option.bind_eq_some_iff.mp hf
  clear hf
  obtain ⟨a1, h2, hf⟩ := hq
  subst h2
  have hq := zs_C hf
  clear hf
  obtain ⟨h6, hf⟩ := hq
  obtain ⟨fs7, e8⟩ := zs_isS h6
  have hq := zs_tS hf
  clear hf
  rcases hq with ⟨S4, x5, h3, hf⟩ | ⟨S4, j, h3, hf⟩
  · refine zq_contR (zq_stepV Z zq_cf1 (c_CT_erase hl h3) 3 rfl e8 d_Law_erase_5 m_403 m_405 m_406 m_404 m_108 p_CT_erase ⟨(Nat.le_of_ble_eq_true rfl), (Nat.le_of_ble_eq_true rfl), (Nat.le_of_ble_eq_true rfl), (Nat.le_of_ble_eq_true rfl)⟩ rfl (by cases v3 <;> exact (Nat.le_of_ble_eq_true rfl))) Z.p ?_
    refine zq_i2l Z d_Law_erase_8 ?_
    have hq := Option.bind_eq_some_iff.mp hf
    clear hf
    obtain ⟨a9, h10, hf⟩ := hq
    subst h10
    have hq := Option.bind_eq_some_iff.mp hf
    clear hf
    obtain ⟨S11, h12, hf⟩ := hq
    refine zr_lastore Z 0 (fun _ => rfl) d_Law_erase_9 h12 ?_
    refine zq_goto Z 17 d_Law_erase_10 (by decide) ?_
    refine zq_iconst Z (0 : Int32) d_Law_erase_17 (by decide) ?_
    exact zq_iret Z d_Law_erase_18 (zs_1 hf) (zs_2 (fun z => (.inl (some (.int z)) : zq_R)) hf) ⟨(Nat.le_of_ble_eq_true rfl), (Nat.le_of_ble_eq_true rfl)⟩
  · have hq := zs_C hf
    clear hf
    obtain ⟨q13, hf⟩ := hq
    subst q13
    refine zq_contC Z (zq_stepV Z zq_cf1 (c_CT_erase hl h3) 3 rfl e8 d_Law_erase_5 m_403 m_405 m_406 m_404 m_108 p_CT_erase ⟨(Nat.le_of_ble_eq_true rfl), (Nat.le_of_ble_eq_true rfl), (Nat.le_of_ble_eq_true rfl), (Nat.le_of_ble_eq_true rfl)⟩ rfl (by cases v3 <;> exact (Nat.le_of_ble_eq_true rfl))) 13 ⟨[], (0, 10, 13, 19), [], _, rfl, (fun _ h => absurd h List.not_mem_nil), by decide, by decide, by decide, rfl, m_399, m_400⟩ (fun x => ?_)
    refine zq_astore Z [(4, .ref x), (0, .ref a1), (1, .int v1), (2, .int v2), (3, va_rf v3)] d_Law_erase_13 (by decide) (by cases v3 <;> rfl) ?_
    refine zq_iconst Z (1 : Int32) d_Law_erase_15 (by decide) ?_
    exact zq_iret Z d_Law_erase_16 (zs_1 hf) (zs_2 (fun z => (.inl (some (.int z)) : zq_R)) hf) ⟨(Nat.le_of_ble_eq_true rfl), (Nat.le_of_ble_eq_true rfl)⟩
theorem d_Law_format_0 : decode b_Law_format 0 = .ok (.aload 4, 2) := by decide +kernel
theorem d_Law_format_2 : decode b_Law_format 2 = .ok (.iconst 0, 1) := by decide +kernel
theorem d_Law_format_3 : decode b_Law_format 3 = .ok (.aload_n 0, 1) := by decide +kernel
theorem d_Law_format_4 : decode b_Law_format 4 = .ok (.iload_n 1, 1) := by decide +kernel
theorem d_Law_format_5 : decode b_Law_format 5 = .ok (.iload_n 2, 1) := by decide +kernel
theorem d_Law_format_6 : decode b_Law_format 6 = .ok (.iload_n 3, 1) := by decide +kernel
theorem d_Law_format_7 : decode b_Law_format 7 = .ok (.invokevirtual 27, 3) := by decide +kernel
theorem d_Law_format_10 : decode b_Law_format 10 = .ok (.i2l, 1) := by decide +kernel
theorem d_Law_format_11 : decode b_Law_format 11 = .ok (.lastore, 1) := by decide +kernel
theorem d_Law_format_12 : decode b_Law_format 12 = .ok (.goto 11, 3) := by decide +kernel
theorem d_Law_format_15 : decode b_Law_format 15 = .ok (.astore 5, 2) := by decide +kernel
theorem d_Law_format_17 : decode b_Law_format 17 = .ok (.iconst 1, 1) := by decide +kernel
theorem d_Law_format_18 : decode b_Law_format 18 = .ok (.ireturn, 1) := by decide +kernel
theorem d_Law_format_19 : decode b_Law_format 19 = .ok (.astore 5, 2) := by decide +kernel
theorem d_Law_format_21 : decode b_Law_format 21 = .ok (.iconst 2, 1) := by decide +kernel
theorem d_Law_format_22 : decode b_Law_format 22 = .ok (.ireturn, 1) := by decide +kernel
theorem d_Law_format_23 : decode b_Law_format 23 = .ok (.iconst 0, 1) := by decide +kernel
theorem d_Law_format_24 : decode b_Law_format 24 = .ok (.ireturn, 1) := by decide +kernel
def f_Law_format (v0 : Option Nat) (v1 : Int32) (v2 : Int32) (v3 : Int32) (v4 : Option Nat) (S : zq_S) : Option (zq_S × Int32) :=
  (v0).bind fun a1 =>
  if zs_is S a1 3 = true then
  zs_t (f_CT_format a1 v1 v2 v3 S) (fun S4 x5 =>
    (v4).bind fun a9 =>
    (zs_las S4 a9 0 (0 : Int32) x5.toInt64).bind fun S11 =>
    some (S11, (0 : Int32))
    ) (fun S4 j =>
    if j = 0 then
      some (S4, (1 : Int32))
    else
    if j = 1 then
      some (S4, (2 : Int32))
    else
    none)
  else none
set_option maxHeartbeats 4000000 in
set_option maxRecDepth 100000 in
theorem c_Law_format {l : Launch} (hl : l.stackTraces = false) {G : zq_G} {v0 : Option Nat} {v1 : Int32} {v2 : Int32} {v3 : Int32} {v4 : Option Nat} {S0 T : zq_S} {v : Int32} (hf : f_Law_format v0 v1 v2 v3 v4 S0 = some (T, v)) : zq_M l y_Law_format (.codeWith y_Law_format b_Law_format 6 (some (.int)) [(0, 12, 15, 19), (0, 12, 19, 13)]) rm_Law_format G [va_rf v0, .int v1, .int v2, .int v3, va_rf v4] S0 ((.inl (some (.int v)) : zq_R)) T := by
  refine zq_MofW (lo := [(0, va_rf v0), (1, .int v1), (2, .int v2), (3, .int v3), (4, va_rf v4)]) hl (by decide) (by cases v0 <;> cases v4 <;> exact (Nat.le_of_ble_eq_true rfl)) (by cases v0 <;> cases v4 <;> rfl) (fun X Z => ?_)
  have Z : Z_Law_format l G S0 T v X := Z
  show zq_W (Y_Law_format l G S0 T v) X 0 [(0, va_rf v0), (1, .int v1), (2, .int v2), (3, .int v3), (4, va_rf v4)] [] S0 0 0
  unfold f_Law_format at hf
  refine zq_aloadQ Z d_Law_format_0 4 rfl ?_
  refine zq_iconst Z (0 : Int32) d_Law_format_2 (by decide) ?_
  refine zq_aload_nQ Z d_Law_format_3 0 rfl ?_
  refine zq_iload_n Z d_Law_format_4 1 rfl ?_
  refine zq_iload_n Z d_Law_format_5 2 rfl ?_
  refine zq_iload_n Z d_Law_format_6 3 rfl ?_
  have hq := Option.bind_eq_some_iff.mp hf
  clear hf
  obtain ⟨a1, h2, hf⟩ := hq
  subst h2
  have hq := zs_C hf
  clear hf
  obtain ⟨h6, hf⟩ := hq
  obtain ⟨fs7, e8⟩ := zs_isS h6
  have hq := zs_tS hf
  clear hf
  rcases hq with ⟨S4, x5, h3, hf⟩ | ⟨S4, j, h3, hf⟩
  · refine zq_contR (zq_stepV Z zq_cf1 (c_CT_format hl h3) 3 rfl e8 d_Law_format_7 m_407 m_409 m_410 m_408 m_108 p_CT_format ⟨(Nat.le_of_ble_eq_true rfl), (Nat.le_of_ble_eq_true rfl), (Nat.le_of_ble_eq_true rfl), (Nat.le_of_ble_eq_true rfl)⟩ rfl (by cases v4 <;> exact (Nat.le_of_ble_eq_true rfl))) Z.p ?_
    refine zq_i2l Z d_Law_format_10 ?_
    have hq := Option.bind_eq_some_iff.mp hf
    clear hf
    obtain ⟨a9, h10, hf⟩ := hq
    subst h10
    have hq := Option.bind_eq_some_iff.mp hf
    clear hf
    obtain ⟨S11, h12, hf⟩ := hq
    refine zr_lastore Z 0 (fun _ => rfl) d_Law_format_11 h12 ?_
    refine zq_goto Z 23 d_Law_format_12 (by decide) ?_
    refine zq_iconst Z (0 : Int32) d_Law_format_23 (by decide) ?_
    exact zq_iret Z d_Law_format_24 (zs_1 hf) (zs_2 (fun z => (.inl (some (.int z)) : zq_R)) hf) ⟨(Nat.le_of_ble_eq_true rfl), (Nat.le_of_ble_eq_true rfl)⟩
  · by_cases q13 : j = 0
    · replace hf := zs_T q13 hf
      subst q13
      refine zq_contC Z (zq_stepV Z zq_cf1 (c_CT_format hl h3) 3 rfl e8 d_Law_format_7 m_407 m_409 m_410 m_408 m_108 p_CT_format ⟨(Nat.le_of_ble_eq_true rfl), (Nat.le_of_ble_eq_true rfl), (Nat.le_of_ble_eq_true rfl), (Nat.le_of_ble_eq_true rfl)⟩ rfl (by cases v4 <;> exact (Nat.le_of_ble_eq_true rfl))) 15 ⟨[], (0, 12, 15, 19), [(0, 12, 19, 13)], _, rfl, (fun _ h => absurd h List.not_mem_nil), by decide, by decide, by decide, rfl, m_399, m_400⟩ (fun x => ?_)
      refine zq_astore Z [(5, .ref x), (0, .ref a1), (1, .int v1), (2, .int v2), (3, .int v3), (4, va_rf v4)] d_Law_format_15 (by decide) (by cases v4 <;> rfl) ?_
      refine zq_iconst Z (1 : Int32) d_Law_format_17 (by decide) ?_
      exact zq_iret Z d_Law_format_18 (zs_1 hf) (zs_2 (fun z => (.inl (some (.int z)) : zq_R)) hf) ⟨(Nat.le_of_ble_eq_true rfl), (Nat.le_of_ble_eq_true rfl)⟩
    · replace hf := zs_N q13 hf
      have hq := zs_C hf
      clear hf
      obtain ⟨q14, hf⟩ := hq
      subst q14
      refine zq_contC Z (zq_stepV Z zq_cf1 (c_CT_format hl h3) 3 rfl e8 d_Law_format_7 m_407 m_409 m_410 m_408 m_108 p_CT_format ⟨(Nat.le_of_ble_eq_true rfl), (Nat.le_of_ble_eq_true rfl), (Nat.le_of_ble_eq_true rfl), (Nat.le_of_ble_eq_true rfl)⟩ rfl (by cases v4 <;> exact (Nat.le_of_ble_eq_true rfl))) 19 ⟨[(0, 12, 15, 19)], (0, 12, 19, 13), [], _, rfl, (List.forall_mem_cons.mpr ⟨⟨by decide, _, m_399, by decide⟩, (fun _ h => absurd h List.not_mem_nil)⟩), by decide, by decide, by decide, rfl, m_393, m_394⟩ (fun x => ?_)
      refine zq_astore Z [(5, .ref x), (0, .ref a1), (1, .int v1), (2, .int v2), (3, .int v3), (4, va_rf v4)] d_Law_format_19 (by decide) (by cases v4 <;> rfl) ?_
      refine zq_iconst Z (2 : Int32) d_Law_format_21 (by decide) ?_
      exact zq_iret Z d_Law_format_22 (zs_1 hf) (zs_2 (fun z => (.inl (some (.int z)) : zq_R)) hf) ⟨(Nat.le_of_ble_eq_true rfl), (Nat.le_of_ble_eq_true rfl)⟩
theorem d_Law_accept_0 : decode b_Law_accept 0 = .ok (.aload 4, 2) := by decide +kernel
theorem d_Law_accept_2 : decode b_Law_accept 2 = .ok (.iconst 0, 1) := by decide +kernel
theorem d_Law_accept_3 : decode b_Law_accept 3 = .ok (.aload_n 0, 1) := by decide +kernel
theorem d_Law_accept_4 : decode b_Law_accept 4 = .ok (.iload_n 1, 1) := by decide +kernel
theorem d_Law_accept_5 : decode b_Law_accept 5 = .ok (.iload_n 2, 1) := by decide +kernel
theorem d_Law_accept_6 : decode b_Law_accept 6 = .ok (.iload_n 3, 1) := by decide +kernel
theorem d_Law_accept_7 : decode b_Law_accept 7 = .ok (.invokevirtual 31, 3) := by decide +kernel
theorem d_Law_accept_10 : decode b_Law_accept 10 = .ok (.i2l, 1) := by decide +kernel
theorem d_Law_accept_11 : decode b_Law_accept 11 = .ok (.lastore, 1) := by decide +kernel
theorem d_Law_accept_12 : decode b_Law_accept 12 = .ok (.goto 11, 3) := by decide +kernel
theorem d_Law_accept_15 : decode b_Law_accept 15 = .ok (.astore 5, 2) := by decide +kernel
theorem d_Law_accept_17 : decode b_Law_accept 17 = .ok (.iconst 1, 1) := by decide +kernel
theorem d_Law_accept_18 : decode b_Law_accept 18 = .ok (.ireturn, 1) := by decide +kernel
theorem d_Law_accept_19 : decode b_Law_accept 19 = .ok (.astore 5, 2) := by decide +kernel
theorem d_Law_accept_21 : decode b_Law_accept 21 = .ok (.iconst 2, 1) := by decide +kernel
theorem d_Law_accept_22 : decode b_Law_accept 22 = .ok (.ireturn, 1) := by decide +kernel
theorem d_Law_accept_23 : decode b_Law_accept 23 = .ok (.iconst 0, 1) := by decide +kernel
theorem d_Law_accept_24 : decode b_Law_accept 24 = .ok (.ireturn, 1) := by decide +kernel
def f_Law_accept (v0 : Option Nat) (v1 : Int32) (v2 : Int32) (v3 : Int32) (v4 : Option Nat) (S : zq_S) : Option (zq_S × Int32) :=
  (v0).bind fun a1 =>
  if zs_is S a1 3 = true then
  zs_t (f_CT_accept a1 v1 v2 v3 S) (fun S4 x5 =>
    (v4).bind fun a9 =>
    (zs_las S4 a9 0 (0 : Int32) x5.toInt64).bind fun S11 =>
    some (S11, (0 : Int32))
    ) (fun S4 j =>
    if j = 0 then
      some (S4, (1 : Int32))
    else
    if j = 1 then
      some (S4, (2 : Int32))
    else
    none)
  else none
set_option maxHeartbeats 4000000 in
set_option maxRecDepth 100000 in
theorem c_Law_accept {l : Launch} (hl : l.stackTraces = false) {G : zq_G} {v0 : Option Nat} {v1 : Int32} {v2 : Int32} {v3 : Int32} {v4 : Option Nat} {S0 T : zq_S} {v : Int32} (hf : f_Law_accept v0 v1 v2 v3 v4 S0 = some (T, v)) : zq_M l y_Law_accept (.codeWith y_Law_accept b_Law_accept 6 (some (.int)) [(0, 12, 15, 19), (0, 12, 19, 13)]) rm_Law_accept G [va_rf v0, .int v1, .int v2, .int v3, va_rf v4] S0 ((.inl (some (.int v)) : zq_R)) T := by
  refine zq_MofW (lo := [(0, va_rf v0), (1, .int v1), (2, .int v2), (3, .int v3), (4, va_rf v4)]) hl (by decide) (by cases v0 <;> cases v4 <;> exact (Nat.le_of_ble_eq_true rfl)) (by cases v0 <;> cases v4 <;> rfl) (fun X Z => ?_)
  have Z : Z_Law_accept l G S0 T v X := Z
  show zq_W (Y_Law_accept l G S0 T v) X 0 [(0, va_rf v0), (1, .int v1), (2, .int v2), (3, .int v3), (4, va_rf v4)] [] S0 0 0
  unfold f_Law_accept at hf
  refine zq_aloadQ Z d_Law_accept_0 4 rfl ?_
  refine zq_iconst Z (0 : Int32) d_Law_accept_2 (by decide) ?_
  refine zq_aload_nQ Z d_Law_accept_3 0 rfl ?_
  refine zq_iload_n Z d_Law_accept_4 1 rfl ?_
  refine zq_iload_n Z d_Law_accept_5 2 rfl ?_
  refine zq_iload_n Z d_Law_accept_6 3 rfl ?_
  have hq := Option.bind_eq_some_iff.mp hf
  clear hf
  obtain ⟨a1, h2, hf⟩ := hq
  subst h2
  have hq := zs_C hf
  clear hf
  obtain ⟨h6, hf⟩ := hq
  obtain ⟨fs7, e8⟩ := zs_isS h6
  have hq := zs_tS hf
  clear hf
  rcases hq with ⟨S4, x5, h3, hf⟩ | ⟨S4, j, h3, hf⟩
  · refine zq_contR (zq_stepV Z zq_cf1 (c_CT_accept hl h3) 3 rfl e8 d_Law_accept_7 m_411 m_413 m_414 m_412 m_108 p_CT_accept ⟨(Nat.le_of_ble_eq_true rfl), (Nat.le_of_ble_eq_true rfl), (Nat.le_of_ble_eq_true rfl), (Nat.le_of_ble_eq_true rfl)⟩ rfl (by cases v4 <;> exact (Nat.le_of_ble_eq_true rfl))) Z.p ?_
    refine zq_i2l Z d_Law_accept_10 ?_
    have hq := Option.bind_eq_some_iff.mp hf
    clear hf
    obtain ⟨a9, h10, hf⟩ := hq
    subst h10
    have hq := Option.bind_eq_some_iff.mp hf
    clear hf
    obtain ⟨S11, h12, hf⟩ := hq
    refine zr_lastore Z 0 (fun _ => rfl) d_Law_accept_11 h12 ?_
    refine zq_goto Z 23 d_Law_accept_12 (by decide) ?_
    refine zq_iconst Z (0 : Int32) d_Law_accept_23 (by decide) ?_
    exact zq_iret Z d_Law_accept_24 (zs_1 hf) (zs_2 (fun z => (.inl (some (.int z)) : zq_R)) hf) ⟨(Nat.le_of_ble_eq_true rfl), (Nat.le_of_ble_eq_true rfl)⟩
  · by_cases q13 : j = 0
    · replace hf := zs_T q13 hf
      subst q13
      refine zq_contC Z (zq_stepV Z zq_cf1 (c_CT_accept hl h3) 3 rfl e8 d_Law_accept_7 m_411 m_413 m_414 m_412 m_108 p_CT_accept ⟨(Nat.le_of_ble_eq_true rfl), (Nat.le_of_ble_eq_true rfl), (Nat.le_of_ble_eq_true rfl), (Nat.le_of_ble_eq_true rfl)⟩ rfl (by cases v4 <;> exact (Nat.le_of_ble_eq_true rfl))) 15 ⟨[], (0, 12, 15, 19), [(0, 12, 19, 13)], _, rfl, (fun _ h => absurd h List.not_mem_nil), by decide, by decide, by decide, rfl, m_399, m_400⟩ (fun x => ?_)
      refine zq_astore Z [(5, .ref x), (0, .ref a1), (1, .int v1), (2, .int v2), (3, .int v3), (4, va_rf v4)] d_Law_accept_15 (by decide) (by cases v4 <;> rfl) ?_
      refine zq_iconst Z (1 : Int32) d_Law_accept_17 (by decide) ?_
      exact zq_iret Z d_Law_accept_18 (zs_1 hf) (zs_2 (fun z => (.inl (some (.int z)) : zq_R)) hf) ⟨(Nat.le_of_ble_eq_true rfl), (Nat.le_of_ble_eq_true rfl)⟩
    · replace hf := zs_N q13 hf
      have hq := zs_C hf
      clear hf
      obtain ⟨q14, hf⟩ := hq
      subst q14
      refine zq_contC Z (zq_stepV Z zq_cf1 (c_CT_accept hl h3) 3 rfl e8 d_Law_accept_7 m_411 m_413 m_414 m_412 m_108 p_CT_accept ⟨(Nat.le_of_ble_eq_true rfl), (Nat.le_of_ble_eq_true rfl), (Nat.le_of_ble_eq_true rfl), (Nat.le_of_ble_eq_true rfl)⟩ rfl (by cases v4 <;> exact (Nat.le_of_ble_eq_true rfl))) 19 ⟨[(0, 12, 15, 19)], (0, 12, 19, 13), [], _, rfl, (List.forall_mem_cons.mpr ⟨⟨by decide, _, m_399, by decide⟩, (fun _ h => absurd h List.not_mem_nil)⟩), by decide, by decide, by decide, rfl, m_393, m_394⟩ (fun x => ?_)
      refine zq_astore Z [(5, .ref x), (0, .ref a1), (1, .int v1), (2, .int v2), (3, .int v3), (4, va_rf v4)] d_Law_accept_19 (by decide) (by cases v4 <;> rfl) ?_
      refine zq_iconst Z (2 : Int32) d_Law_accept_21 (by decide) ?_
      exact zq_iret Z d_Law_accept_22 (zs_1 hf) (zs_2 (fun z => (.inl (some (.int z)) : zq_R)) hf) ⟨(Nat.le_of_ble_eq_true rfl), (Nat.le_of_ble_eq_true rfl)⟩
theorem d_Law_reject_0 : decode b_Law_reject 0 = .ok (.aload 4, 2) := by decide +kernel
theorem d_Law_reject_2 : decode b_Law_reject 2 = .ok (.iconst 0, 1) := by decide +kernel
theorem d_Law_reject_3 : decode b_Law_reject 3 = .ok (.aload_n 0, 1) := by decide +kernel
theorem d_Law_reject_4 : decode b_Law_reject 4 = .ok (.iload_n 1, 1) := by decide +kernel
theorem d_Law_reject_5 : decode b_Law_reject 5 = .ok (.iload_n 2, 1) := by decide +kernel
theorem d_Law_reject_6 : decode b_Law_reject 6 = .ok (.iload_n 3, 1) := by decide +kernel
theorem d_Law_reject_7 : decode b_Law_reject 7 = .ok (.invokevirtual 34, 3) := by decide +kernel
theorem d_Law_reject_10 : decode b_Law_reject 10 = .ok (.i2l, 1) := by decide +kernel
theorem d_Law_reject_11 : decode b_Law_reject 11 = .ok (.lastore, 1) := by decide +kernel
theorem d_Law_reject_12 : decode b_Law_reject 12 = .ok (.goto 11, 3) := by decide +kernel
theorem d_Law_reject_15 : decode b_Law_reject 15 = .ok (.astore 5, 2) := by decide +kernel
theorem d_Law_reject_17 : decode b_Law_reject 17 = .ok (.iconst 1, 1) := by decide +kernel
theorem d_Law_reject_18 : decode b_Law_reject 18 = .ok (.ireturn, 1) := by decide +kernel
theorem d_Law_reject_19 : decode b_Law_reject 19 = .ok (.astore 5, 2) := by decide +kernel
theorem d_Law_reject_21 : decode b_Law_reject 21 = .ok (.iconst 2, 1) := by decide +kernel
theorem d_Law_reject_22 : decode b_Law_reject 22 = .ok (.ireturn, 1) := by decide +kernel
theorem d_Law_reject_23 : decode b_Law_reject 23 = .ok (.iconst 0, 1) := by decide +kernel
theorem d_Law_reject_24 : decode b_Law_reject 24 = .ok (.ireturn, 1) := by decide +kernel
def f_Law_reject (v0 : Option Nat) (v1 : Int32) (v2 : Int32) (v3 : Int32) (v4 : Option Nat) (S : zq_S) : Option (zq_S × Int32) :=
  (v0).bind fun a1 =>
  if zs_is S a1 3 = true then
  zs_t (f_CT_reject a1 v1 v2 v3 S) (fun S4 x5 =>
    (v4).bind fun a9 =>
    (zs_las S4 a9 0 (0 : Int32) x5.toInt64).bind fun S11 =>
    some (S11, (0 : Int32))
    ) (fun S4 j =>
    if j = 0 then
      some (S4, (1 : Int32))
    else
    if j = 1 then
      some (S4, (2 : Int32))
    else
    none)
  else none
set_option maxHeartbeats 4000000 in
set_option maxRecDepth 100000 in
theorem c_Law_reject {l : Launch} (hl : l.stackTraces = false) {G : zq_G} {v0 : Option Nat} {v1 : Int32} {v2 : Int32} {v3 : Int32} {v4 : Option Nat} {S0 T : zq_S} {v : Int32} (hf : f_Law_reject v0 v1 v2 v3 v4 S0 = some (T, v)) : zq_M l y_Law_reject (.codeWith y_Law_reject b_Law_reject 6 (some (.int)) [(0, 12, 15, 19), (0, 12, 19, 13)]) rm_Law_reject G [va_rf v0, .int v1, .int v2, .int v3, va_rf v4] S0 ((.inl (some (.int v)) : zq_R)) T := by
  refine zq_MofW (lo := [(0, va_rf v0), (1, .int v1), (2, .int v2), (3, .int v3), (4, va_rf v4)]) hl (by decide) (by cases v0 <;> cases v4 <;> exact (Nat.le_of_ble_eq_true rfl)) (by cases v0 <;> cases v4 <;> rfl) (fun X Z => ?_)
  have Z : Z_Law_reject l G S0 T v X := Z
  show zq_W (Y_Law_reject l G S0 T v) X 0 [(0, va_rf v0), (1, .int v1), (2, .int v2), (3, .int v3), (4, va_rf v4)] [] S0 0 0
  unfold f_Law_reject at hf
  refine zq_aloadQ Z d_Law_reject_0 4 rfl ?_
  refine zq_iconst Z (0 : Int32) d_Law_reject_2 (by decide) ?_
  refine zq_aload_nQ Z d_Law_reject_3 0 rfl ?_
  refine zq_iload_n Z d_Law_reject_4 1 rfl ?_
  refine zq_iload_n Z d_Law_reject_5 2 rfl ?_
  refine zq_iload_n Z d_Law_reject_6 3 rfl ?_
  have hq := Option.bind_eq_some_iff.mp hf
  clear hf
  obtain ⟨a1, h2, hf⟩ := hq
  subst h2
  have hq := zs_C hf
  clear hf
  obtain ⟨h6, hf⟩ := hq
  obtain ⟨fs7, e8⟩ := zs_isS h6
  have hq := zs_tS hf
  clear hf
  rcases hq with ⟨S4, x5, h3, hf⟩ | ⟨S4, j, h3, hf⟩
  · refine zq_contR (zq_stepV Z zq_cf1 (c_CT_reject hl h3) 3 rfl e8 d_Law_reject_7 m_415 m_417 m_418 m_416 m_108 p_CT_reject ⟨(Nat.le_of_ble_eq_true rfl), (Nat.le_of_ble_eq_true rfl), (Nat.le_of_ble_eq_true rfl), (Nat.le_of_ble_eq_true rfl)⟩ rfl (by cases v4 <;> exact (Nat.le_of_ble_eq_true rfl))) Z.p ?_
    refine zq_i2l Z d_Law_reject_10 ?_
    have hq := Option.bind_eq_some_iff.mp hf
    clear hf
    obtain ⟨a9, h10, hf⟩ := hq
    subst h10
    have hq := Option.bind_eq_some_iff.mp hf
    clear hf
    obtain ⟨S11, h12, hf⟩ := hq
    refine zr_lastore Z 0 (fun _ => rfl) d_Law_reject_11 h12 ?_
    refine zq_goto Z 23 d_Law_reject_12 (by decide) ?_
    refine zq_iconst Z (0 : Int32) d_Law_reject_23 (by decide) ?_
    exact zq_iret Z d_Law_reject_24 (zs_1 hf) (zs_2 (fun z => (.inl (some (.int z)) : zq_R)) hf) ⟨(Nat.le_of_ble_eq_true rfl), (Nat.le_of_ble_eq_true rfl)⟩
  · by_cases q13 : j = 0
    · replace hf := zs_T q13 hf
      subst q13
      refine zq_contC Z (zq_stepV Z zq_cf1 (c_CT_reject hl h3) 3 rfl e8 d_Law_reject_7 m_415 m_417 m_418 m_416 m_108 p_CT_reject ⟨(Nat.le_of_ble_eq_true rfl), (Nat.le_of_ble_eq_true rfl), (Nat.le_of_ble_eq_true rfl), (Nat.le_of_ble_eq_true rfl)⟩ rfl (by cases v4 <;> exact (Nat.le_of_ble_eq_true rfl))) 15 ⟨[], (0, 12, 15, 19), [(0, 12, 19, 13)], _, rfl, (fun _ h => absurd h List.not_mem_nil), by decide, by decide, by decide, rfl, m_399, m_400⟩ (fun x => ?_)
      refine zq_astore Z [(5, .ref x), (0, .ref a1), (1, .int v1), (2, .int v2), (3, .int v3), (4, va_rf v4)] d_Law_reject_15 (by decide) (by cases v4 <;> rfl) ?_
      refine zq_iconst Z (1 : Int32) d_Law_reject_17 (by decide) ?_
      exact zq_iret Z d_Law_reject_18 (zs_1 hf) (zs_2 (fun z => (.inl (some (.int z)) : zq_R)) hf) ⟨(Nat.le_of_ble_eq_true rfl), (Nat.le_of_ble_eq_true rfl)⟩
    · replace hf := zs_N q13 hf
      have hq := zs_C hf
      clear hf
      obtain ⟨q14, hf⟩ := hq
      subst q14
      refine zq_contC Z (zq_stepV Z zq_cf1 (c_CT_reject hl h3) 3 rfl e8 d_Law_reject_7 m_415 m_417 m_418 m_416 m_108 p_CT_reject ⟨(Nat.le_of_ble_eq_true rfl), (Nat.le_of_ble_eq_true rfl), (Nat.le_of_ble_eq_true rfl), (Nat.le_of_ble_eq_true rfl)⟩ rfl (by cases v4 <;> exact (Nat.le_of_ble_eq_true rfl))) 19 ⟨[(0, 12, 15, 19)], (0, 12, 19, 13), [], _, rfl, (List.forall_mem_cons.mpr ⟨⟨by decide, _, m_399, by decide⟩, (fun _ h => absurd h List.not_mem_nil)⟩), by decide, by decide, by decide, rfl, m_393, m_394⟩ (fun x => ?_)
      refine zq_astore Z [(5, .ref x), (0, .ref a1), (1, .int v1), (2, .int v2), (3, .int v3), (4, va_rf v4)] d_Law_reject_19 (by decide) (by cases v4 <;> rfl) ?_
      refine zq_iconst Z (2 : Int32) d_Law_reject_21 (by decide) ?_
      exact zq_iret Z d_Law_reject_22 (zs_1 hf) (zs_2 (fun z => (.inl (some (.int z)) : zq_R)) hf) ⟨(Nat.le_of_ble_eq_true rfl), (Nat.le_of_ble_eq_true rfl)⟩
theorem d_Law_open_0 : decode b_Law_open 0 = .ok (.aload_n 0, 1) := by decide +kernel
theorem d_Law_open_1 : decode b_Law_open 1 = .ok (.invokevirtual 37, 3) := by decide +kernel
theorem d_Law_open_4 : decode b_Law_open 4 = .ok (.goto 6, 3) := by decide +kernel
theorem d_Law_open_7 : decode b_Law_open 7 = .ok (.astore_n 1, 1) := by decide +kernel
theorem d_Law_open_8 : decode b_Law_open 8 = .ok (.iconst 1, 1) := by decide +kernel
theorem d_Law_open_9 : decode b_Law_open 9 = .ok (.ireturn, 1) := by decide +kernel
theorem d_Law_open_10 : decode b_Law_open 10 = .ok (.iconst 0, 1) := by decide +kernel
theorem d_Law_open_11 : decode b_Law_open 11 = .ok (.ireturn, 1) := by decide +kernel
def f_Law_open (v0 : Option Nat) (S : zq_S) : Option (zq_S × Int32) :=
  (v0).bind fun a1 =>
  if zs_is S a1 3 = true then
  zs_t (f_CT_open S a1 S) (fun S4 _ =>
    some (S4, (0 : Int32))
    ) (fun S4 j =>
    if j = 2 then
      some (S4, (1 : Int32))
    else
    none)
  else none
set_option maxHeartbeats 4000000 in
set_option maxRecDepth 100000 in
theorem c_Law_open {l : Launch} (hl : l.stackTraces = false) {G : zq_G} {v0 : Option Nat} {S0 T : zq_S} {v : Int32} (hf : f_Law_open v0 S0 = some (T, v)) : zq_M l y_Law_open (.codeWith y_Law_open b_Law_open 2 (some (.int)) [(0, 4, 7, 21)]) rm_Law_open G [va_rf v0] S0 ((.inl (some (.int v)) : zq_R)) T := by
  refine zq_MofW (lo := [(0, va_rf v0)]) hl (by decide) (by cases v0 <;> exact (Nat.le_of_ble_eq_true rfl)) (by cases v0 <;> rfl) (fun X Z => ?_)
  have Z : Z_Law_open l G S0 T v X := Z
  show zq_W (Y_Law_open l G S0 T v) X 0 [(0, va_rf v0)] [] S0 0 0
  unfold f_Law_open at hf
  refine zq_aload_nQ Z d_Law_open_0 0 rfl ?_
  have hq := Option.bind_eq_some_iff.mp hf
  clear hf
  obtain ⟨a1, h2, hf⟩ := hq
  subst h2
  have hq := zs_C hf
  clear hf
  obtain ⟨h6, hf⟩ := hq
  obtain ⟨fs7, e8⟩ := zs_isS h6
  have hq := zs_tS hf
  clear hf
  rcases hq with ⟨S4, x5, h3, hf⟩ | ⟨S4, j, h3, hf⟩
  · refine zq_contR (zq_stepV Z zq_cf1 (c_CT_open hl h3) 3 rfl e8 d_Law_open_1 m_419 m_421 m_422 m_420 m_108 p_CT_open ⟨(Nat.le_of_ble_eq_true rfl), (Nat.le_of_ble_eq_true rfl), (Nat.le_of_ble_eq_true rfl), (Nat.le_of_ble_eq_true rfl)⟩ rfl (Nat.le_of_ble_eq_true rfl)) Z.p ?_
    refine zq_goto Z 10 d_Law_open_4 (by decide) ?_
    refine zq_iconst Z (0 : Int32) d_Law_open_10 (by decide) ?_
    exact zq_iret Z d_Law_open_11 (zs_1 hf) (zs_2 (fun z => (.inl (some (.int z)) : zq_R)) hf) ⟨(Nat.le_of_ble_eq_true rfl), (Nat.le_of_ble_eq_true rfl)⟩
  · have hq := zs_C hf
    clear hf
    obtain ⟨q9, hf⟩ := hq
    subst q9
    refine zq_contC Z (zq_stepV Z zq_cf1 (c_CT_open hl h3) 3 rfl e8 d_Law_open_1 m_419 m_421 m_422 m_420 m_108 p_CT_open ⟨(Nat.le_of_ble_eq_true rfl), (Nat.le_of_ble_eq_true rfl), (Nat.le_of_ble_eq_true rfl), (Nat.le_of_ble_eq_true rfl)⟩ rfl (Nat.le_of_ble_eq_true rfl)) 7 ⟨[], (0, 4, 7, 21), [], _, rfl, (fun _ h => absurd h List.not_mem_nil), by decide, by decide, by decide, rfl, m_401, m_402⟩ (fun x => ?_)
    refine zq_astore_n Z rfl [(1, .ref x), (0, .ref a1)] d_Law_open_7 (by decide) rfl ?_
    refine zq_iconst Z (1 : Int32) d_Law_open_8 (by decide) ?_
    exact zq_iret Z d_Law_open_9 (zs_1 hf) (zs_2 (fun z => (.inl (some (.int z)) : zq_R)) hf) ⟨(Nat.le_of_ble_eq_true rfl), (Nat.le_of_ble_eq_true rfl)⟩
theorem d_Law_close_0 : decode b_Law_close 0 = .ok (.aload_n 1, 1) := by decide +kernel
theorem d_Law_close_1 : decode b_Law_close 1 = .ok (.iconst 0, 1) := by decide +kernel
theorem d_Law_close_2 : decode b_Law_close 2 = .ok (.aload_n 0, 1) := by decide +kernel
theorem d_Law_close_3 : decode b_Law_close 3 = .ok (.invokevirtual 40, 3) := by decide +kernel
theorem d_Law_close_6 : decode b_Law_close 6 = .ok (.i2l, 1) := by decide +kernel
theorem d_Law_close_7 : decode b_Law_close 7 = .ok (.lastore, 1) := by decide +kernel
theorem d_Law_close_8 : decode b_Law_close 8 = .ok (.goto 6, 3) := by decide +kernel
theorem d_Law_close_11 : decode b_Law_close 11 = .ok (.astore_n 2, 1) := by decide +kernel
theorem d_Law_close_12 : decode b_Law_close 12 = .ok (.iconst 1, 1) := by decide +kernel
theorem d_Law_close_13 : decode b_Law_close 13 = .ok (.ireturn, 1) := by decide +kernel
theorem d_Law_close_14 : decode b_Law_close 14 = .ok (.iconst 0, 1) := by decide +kernel
theorem d_Law_close_15 : decode b_Law_close 15 = .ok (.ireturn, 1) := by decide +kernel
def f_Law_close (v0 : Option Nat) (v1 : Option Nat) (S : zq_S) : Option (zq_S × Int32) :=
  (v0).bind fun a1 =>
  if zs_is S a1 3 = true then
  zs_t (f_CT_close S a1 S) (fun S4 x5 =>
    (v1).bind fun a9 =>
    (zs_las S4 a9 0 (0 : Int32) x5.toInt64).bind fun S11 =>
    some (S11, (0 : Int32))
    ) (fun S4 j =>
    if j = 2 then
      some (S4, (1 : Int32))
    else
    none)
  else none
set_option maxHeartbeats 4000000 in
set_option maxRecDepth 100000 in
theorem c_Law_close {l : Launch} (hl : l.stackTraces = false) {G : zq_G} {v0 : Option Nat} {v1 : Option Nat} {S0 T : zq_S} {v : Int32} (hf : f_Law_close v0 v1 S0 = some (T, v)) : zq_M l y_Law_close (.codeWith y_Law_close b_Law_close 3 (some (.int)) [(0, 8, 11, 21)]) rm_Law_close G [va_rf v0, va_rf v1] S0 ((.inl (some (.int v)) : zq_R)) T := by
  refine zq_MofW (lo := [(0, va_rf v0), (1, va_rf v1)]) hl (by decide) (by cases v0 <;> cases v1 <;> exact (Nat.le_of_ble_eq_true rfl)) (by cases v0 <;> cases v1 <;> rfl) (fun X Z => ?_)
  have Z : Z_Law_close l G S0 T v X := Z
  show zq_W (Y_Law_close l G S0 T v) X 0 [(0, va_rf v0), (1, va_rf v1)] [] S0 0 0
  unfold f_Law_close at hf
  refine zq_aload_nQ Z d_Law_close_0 1 rfl ?_
  refine zq_iconst Z (0 : Int32) d_Law_close_1 (by decide) ?_
  refine zq_aload_nQ Z d_Law_close_2 0 rfl ?_
  have hq := Option.bind_eq_some_iff.mp hf
  clear hf
  obtain ⟨a1, h2, hf⟩ := hq
  subst h2
  have hq := zs_C hf
  clear hf
  obtain ⟨h6, hf⟩ := hq
  obtain ⟨fs7, e8⟩ := zs_isS h6
  have hq := zs_tS hf
  clear hf
  rcases hq with ⟨S4, x5, h3, hf⟩ | ⟨S4, j, h3, hf⟩
  · refine zq_contR (zq_stepV Z zq_cf1 (c_CT_close hl h3) 3 rfl e8 d_Law_close_3 m_423 m_425 m_426 m_424 m_108 p_CT_close ⟨(Nat.le_of_ble_eq_true rfl), (Nat.le_of_ble_eq_true rfl), (Nat.le_of_ble_eq_true rfl), (Nat.le_of_ble_eq_true rfl)⟩ rfl (by cases v1 <;> exact (Nat.le_of_ble_eq_true rfl))) Z.p ?_
    refine zq_i2l Z d_Law_close_6 ?_
    have hq := Option.bind_eq_some_iff.mp hf
    clear hf
    obtain ⟨a9, h10, hf⟩ := hq
    subst h10
    have hq := Option.bind_eq_some_iff.mp hf
    clear hf
    obtain ⟨S11, h12, hf⟩ := hq
    refine zr_lastore Z 0 (fun _ => rfl) d_Law_close_7 h12 ?_
    refine zq_goto Z 14 d_Law_close_8 (by decide) ?_
    refine zq_iconst Z (0 : Int32) d_Law_close_14 (by decide) ?_
    exact zq_iret Z d_Law_close_15 (zs_1 hf) (zs_2 (fun z => (.inl (some (.int z)) : zq_R)) hf) ⟨(Nat.le_of_ble_eq_true rfl), (Nat.le_of_ble_eq_true rfl)⟩
  · have hq := zs_C hf
    clear hf
    obtain ⟨q13, hf⟩ := hq
    subst q13
    refine zq_contC Z (zq_stepV Z zq_cf1 (c_CT_close hl h3) 3 rfl e8 d_Law_close_3 m_423 m_425 m_426 m_424 m_108 p_CT_close ⟨(Nat.le_of_ble_eq_true rfl), (Nat.le_of_ble_eq_true rfl), (Nat.le_of_ble_eq_true rfl), (Nat.le_of_ble_eq_true rfl)⟩ rfl (by cases v1 <;> exact (Nat.le_of_ble_eq_true rfl))) 11 ⟨[], (0, 8, 11, 21), [], _, rfl, (fun _ h => absurd h List.not_mem_nil), by decide, by decide, by decide, rfl, m_401, m_402⟩ (fun x => ?_)
    refine zq_astore_n Z rfl [(2, .ref x), (0, .ref a1), (1, va_rf v1)] d_Law_close_11 (by decide) (by cases v1 <;> rfl) ?_
    refine zq_iconst Z (1 : Int32) d_Law_close_12 (by decide) ?_
    exact zq_iret Z d_Law_close_13 (zs_1 hf) (zs_2 (fun z => (.inl (some (.int z)) : zq_R)) hf) ⟨(Nat.le_of_ble_eq_true rfl), (Nat.le_of_ble_eq_true rfl)⟩
theorem d_Law_undo_0 : decode b_Law_undo 0 = .ok (.aload_n 1, 1) := by decide +kernel
theorem d_Law_undo_1 : decode b_Law_undo 1 = .ok (.iconst 0, 1) := by decide +kernel
theorem d_Law_undo_2 : decode b_Law_undo 2 = .ok (.aload_n 0, 1) := by decide +kernel
theorem d_Law_undo_3 : decode b_Law_undo 3 = .ok (.invokevirtual 44, 3) := by decide +kernel
theorem d_Law_undo_6 : decode b_Law_undo 6 = .ok (.i2l, 1) := by decide +kernel
theorem d_Law_undo_7 : decode b_Law_undo 7 = .ok (.lastore, 1) := by decide +kernel
theorem d_Law_undo_8 : decode b_Law_undo 8 = .ok (.goto 6, 3) := by decide +kernel
theorem d_Law_undo_11 : decode b_Law_undo 11 = .ok (.astore_n 2, 1) := by decide +kernel
theorem d_Law_undo_12 : decode b_Law_undo 12 = .ok (.iconst 1, 1) := by decide +kernel
theorem d_Law_undo_13 : decode b_Law_undo 13 = .ok (.ireturn, 1) := by decide +kernel
theorem d_Law_undo_14 : decode b_Law_undo 14 = .ok (.iconst 0, 1) := by decide +kernel
theorem d_Law_undo_15 : decode b_Law_undo 15 = .ok (.ireturn, 1) := by decide +kernel
def f_Law_undo (v0 : Option Nat) (v1 : Option Nat) (S : zq_S) : Option (zq_S × Int32) :=
  (v0).bind fun a1 =>
  if zs_is S a1 3 = true then
  zs_t (f_CT_undo S a1 S) (fun S4 x5 =>
    (v1).bind fun a9 =>
    (zs_las S4 a9 0 (0 : Int32) x5.toInt64).bind fun S11 =>
    some (S11, (0 : Int32))
    ) (fun S4 j =>
    if j = 2 then
      some (S4, (1 : Int32))
    else
    none)
  else none
set_option maxHeartbeats 4000000 in
set_option maxRecDepth 100000 in
theorem c_Law_undo {l : Launch} (hl : l.stackTraces = false) {G : zq_G} {v0 : Option Nat} {v1 : Option Nat} {S0 T : zq_S} {v : Int32} (hf : f_Law_undo v0 v1 S0 = some (T, v)) : zq_M l y_Law_undo (.codeWith y_Law_undo b_Law_undo 3 (some (.int)) [(0, 8, 11, 21)]) rm_Law_undo G [va_rf v0, va_rf v1] S0 ((.inl (some (.int v)) : zq_R)) T := by
  refine zq_MofW (lo := [(0, va_rf v0), (1, va_rf v1)]) hl (by decide) (by cases v0 <;> cases v1 <;> exact (Nat.le_of_ble_eq_true rfl)) (by cases v0 <;> cases v1 <;> rfl) (fun X Z => ?_)
  have Z : Z_Law_undo l G S0 T v X := Z
  show zq_W (Y_Law_undo l G S0 T v) X 0 [(0, va_rf v0), (1, va_rf v1)] [] S0 0 0
  unfold f_Law_undo at hf
  refine zq_aload_nQ Z d_Law_undo_0 1 rfl ?_
  refine zq_iconst Z (0 : Int32) d_Law_undo_1 (by decide) ?_
  refine zq_aload_nQ Z d_Law_undo_2 0 rfl ?_
  have hq := Option.bind_eq_some_iff.mp hf
  clear hf
  obtain ⟨a1, h2, hf⟩ := hq
  subst h2
  have hq := zs_C hf
  clear hf
  obtain ⟨h6, hf⟩ := hq
  obtain ⟨fs7, e8⟩ := zs_isS h6
  have hq := zs_tS hf
  clear hf
  rcases hq with ⟨S4, x5, h3, hf⟩ | ⟨S4, j, h3, hf⟩
  · refine zq_contR (zq_stepV Z zq_cf1 (c_CT_undo hl h3) 3 rfl e8 d_Law_undo_3 m_427 m_429 m_430 m_428 m_108 p_CT_undo ⟨(Nat.le_of_ble_eq_true rfl), (Nat.le_of_ble_eq_true rfl), (Nat.le_of_ble_eq_true rfl), (Nat.le_of_ble_eq_true rfl)⟩ rfl (by cases v1 <;> exact (Nat.le_of_ble_eq_true rfl))) Z.p ?_
    refine zq_i2l Z d_Law_undo_6 ?_
    have hq := Option.bind_eq_some_iff.mp hf
    clear hf
    obtain ⟨a9, h10, hf⟩ := hq
    subst h10
    have hq := Option.bind_eq_some_iff.mp hf
    clear hf
    obtain ⟨S11, h12, hf⟩ := hq
    refine zr_lastore Z 0 (fun _ => rfl) d_Law_undo_7 h12 ?_
    refine zq_goto Z 14 d_Law_undo_8 (by decide) ?_
    refine zq_iconst Z (0 : Int32) d_Law_undo_14 (by decide) ?_
    exact zq_iret Z d_Law_undo_15 (zs_1 hf) (zs_2 (fun z => (.inl (some (.int z)) : zq_R)) hf) ⟨(Nat.le_of_ble_eq_true rfl), (Nat.le_of_ble_eq_true rfl)⟩
  · have hq := zs_C hf
    clear hf
    obtain ⟨q13, hf⟩ := hq
    subst q13
    refine zq_contC Z (zq_stepV Z zq_cf1 (c_CT_undo hl h3) 3 rfl e8 d_Law_undo_3 m_427 m_429 m_430 m_428 m_108 p_CT_undo ⟨(Nat.le_of_ble_eq_true rfl), (Nat.le_of_ble_eq_true rfl), (Nat.le_of_ble_eq_true rfl), (Nat.le_of_ble_eq_true rfl)⟩ rfl (by cases v1 <;> exact (Nat.le_of_ble_eq_true rfl))) 11 ⟨[], (0, 8, 11, 21), [], _, rfl, (fun _ h => absurd h List.not_mem_nil), by decide, by decide, by decide, rfl, m_401, m_402⟩ (fun x => ?_)
    refine zq_astore_n Z rfl [(2, .ref x), (0, .ref a1), (1, va_rf v1)] d_Law_undo_11 (by decide) (by cases v1 <;> rfl) ?_
    refine zq_iconst Z (1 : Int32) d_Law_undo_12 (by decide) ?_
    exact zq_iret Z d_Law_undo_13 (zs_1 hf) (zs_2 (fun z => (.inl (some (.int z)) : zq_R)) hf) ⟨(Nat.le_of_ble_eq_true rfl), (Nat.le_of_ble_eq_true rfl)⟩
theorem d_Law_redo_0 : decode b_Law_redo 0 = .ok (.aload_n 1, 1) := by decide +kernel
theorem d_Law_redo_1 : decode b_Law_redo 1 = .ok (.iconst 0, 1) := by decide +kernel
theorem d_Law_redo_2 : decode b_Law_redo 2 = .ok (.aload_n 0, 1) := by decide +kernel
theorem d_Law_redo_3 : decode b_Law_redo 3 = .ok (.invokevirtual 47, 3) := by decide +kernel
theorem d_Law_redo_6 : decode b_Law_redo 6 = .ok (.i2l, 1) := by decide +kernel
theorem d_Law_redo_7 : decode b_Law_redo 7 = .ok (.lastore, 1) := by decide +kernel
theorem d_Law_redo_8 : decode b_Law_redo 8 = .ok (.goto 6, 3) := by decide +kernel
theorem d_Law_redo_11 : decode b_Law_redo 11 = .ok (.astore_n 2, 1) := by decide +kernel
theorem d_Law_redo_12 : decode b_Law_redo 12 = .ok (.iconst 1, 1) := by decide +kernel
theorem d_Law_redo_13 : decode b_Law_redo 13 = .ok (.ireturn, 1) := by decide +kernel
theorem d_Law_redo_14 : decode b_Law_redo 14 = .ok (.iconst 0, 1) := by decide +kernel
theorem d_Law_redo_15 : decode b_Law_redo 15 = .ok (.ireturn, 1) := by decide +kernel
def f_Law_redo (v0 : Option Nat) (v1 : Option Nat) (S : zq_S) : Option (zq_S × Int32) :=
  (v0).bind fun a1 =>
  if zs_is S a1 3 = true then
  zs_t (f_CT_redo S a1 S) (fun S4 x5 =>
    (v1).bind fun a9 =>
    (zs_las S4 a9 0 (0 : Int32) x5.toInt64).bind fun S11 =>
    some (S11, (0 : Int32))
    ) (fun S4 j =>
    if j = 2 then
      some (S4, (1 : Int32))
    else
    none)
  else none
set_option maxHeartbeats 4000000 in
set_option maxRecDepth 100000 in
theorem c_Law_redo {l : Launch} (hl : l.stackTraces = false) {G : zq_G} {v0 : Option Nat} {v1 : Option Nat} {S0 T : zq_S} {v : Int32} (hf : f_Law_redo v0 v1 S0 = some (T, v)) : zq_M l y_Law_redo (.codeWith y_Law_redo b_Law_redo 3 (some (.int)) [(0, 8, 11, 21)]) rm_Law_redo G [va_rf v0, va_rf v1] S0 ((.inl (some (.int v)) : zq_R)) T := by
  refine zq_MofW (lo := [(0, va_rf v0), (1, va_rf v1)]) hl (by decide) (by cases v0 <;> cases v1 <;> exact (Nat.le_of_ble_eq_true rfl)) (by cases v0 <;> cases v1 <;> rfl) (fun X Z => ?_)
  have Z : Z_Law_redo l G S0 T v X := Z
  show zq_W (Y_Law_redo l G S0 T v) X 0 [(0, va_rf v0), (1, va_rf v1)] [] S0 0 0
  unfold f_Law_redo at hf
  refine zq_aload_nQ Z d_Law_redo_0 1 rfl ?_
  refine zq_iconst Z (0 : Int32) d_Law_redo_1 (by decide) ?_
  refine zq_aload_nQ Z d_Law_redo_2 0 rfl ?_
  have hq := Option.bind_eq_some_iff.mp hf
  clear hf
  obtain ⟨a1, h2, hf⟩ := hq
  subst h2
  have hq := zs_C hf
  clear hf
  obtain ⟨h6, hf⟩ := hq
  obtain ⟨fs7, e8⟩ := zs_isS h6
  have hq := zs_tS hf
  clear hf
  rcases hq with ⟨S4, x5, h3, hf⟩ | ⟨S4, j, h3, hf⟩
  · refine zq_contR (zq_stepV Z zq_cf1 (c_CT_redo hl h3) 3 rfl e8 d_Law_redo_3 m_431 m_433 m_434 m_432 m_108 p_CT_redo ⟨(Nat.le_of_ble_eq_true rfl), (Nat.le_of_ble_eq_true rfl), (Nat.le_of_ble_eq_true rfl), (Nat.le_of_ble_eq_true rfl)⟩ rfl (by cases v1 <;> exact (Nat.le_of_ble_eq_true rfl))) Z.p ?_
    refine zq_i2l Z d_Law_redo_6 ?_
    have hq := Option.bind_eq_some_iff.mp hf
    clear hf
    obtain ⟨a9, h10, hf⟩ := hq
    subst h10
    have hq := Option.bind_eq_some_iff.mp hf
    clear hf
    obtain ⟨S11, h12, hf⟩ := hq
    refine zr_lastore Z 0 (fun _ => rfl) d_Law_redo_7 h12 ?_
    refine zq_goto Z 14 d_Law_redo_8 (by decide) ?_
    refine zq_iconst Z (0 : Int32) d_Law_redo_14 (by decide) ?_
    exact zq_iret Z d_Law_redo_15 (zs_1 hf) (zs_2 (fun z => (.inl (some (.int z)) : zq_R)) hf) ⟨(Nat.le_of_ble_eq_true rfl), (Nat.le_of_ble_eq_true rfl)⟩
  · have hq := zs_C hf
    clear hf
    obtain ⟨q13, hf⟩ := hq
    subst q13
    refine zq_contC Z (zq_stepV Z zq_cf1 (c_CT_redo hl h3) 3 rfl e8 d_Law_redo_3 m_431 m_433 m_434 m_432 m_108 p_CT_redo ⟨(Nat.le_of_ble_eq_true rfl), (Nat.le_of_ble_eq_true rfl), (Nat.le_of_ble_eq_true rfl), (Nat.le_of_ble_eq_true rfl)⟩ rfl (by cases v1 <;> exact (Nat.le_of_ble_eq_true rfl))) 11 ⟨[], (0, 8, 11, 21), [], _, rfl, (fun _ h => absurd h List.not_mem_nil), by decide, by decide, by decide, rfl, m_401, m_402⟩ (fun x => ?_)
    refine zq_astore_n Z rfl [(2, .ref x), (0, .ref a1), (1, va_rf v1)] d_Law_redo_11 (by decide) (by cases v1 <;> rfl) ?_
    refine zq_iconst Z (1 : Int32) d_Law_redo_12 (by decide) ?_
    exact zq_iret Z d_Law_redo_13 (zs_1 hf) (zs_2 (fun z => (.inl (some (.int z)) : zq_R)) hf) ⟨(Nat.le_of_ble_eq_true rfl), (Nat.le_of_ble_eq_true rfl)⟩
theorem d_Law_seen_0 : decode b_Law_seen 0 = .ok (.aload 4, 2) := by decide +kernel
theorem d_Law_seen_2 : decode b_Law_seen 2 = .ok (.iconst 0, 1) := by decide +kernel
theorem d_Law_seen_3 : decode b_Law_seen 3 = .ok (.aload_n 0, 1) := by decide +kernel
theorem d_Law_seen_4 : decode b_Law_seen 4 = .ok (.iload_n 1, 1) := by decide +kernel
theorem d_Law_seen_5 : decode b_Law_seen 5 = .ok (.iload_n 2, 1) := by decide +kernel
theorem d_Law_seen_6 : decode b_Law_seen 6 = .ok (.iload_n 3, 1) := by decide +kernel
theorem d_Law_seen_7 : decode b_Law_seen 7 = .ok (.invokevirtual 50, 3) := by decide +kernel
theorem d_Law_seen_10 : decode b_Law_seen 10 = .ok (.i2l, 1) := by decide +kernel
theorem d_Law_seen_11 : decode b_Law_seen 11 = .ok (.lastore, 1) := by decide +kernel
theorem d_Law_seen_12 : decode b_Law_seen 12 = .ok (.goto 11, 3) := by decide +kernel
theorem d_Law_seen_15 : decode b_Law_seen 15 = .ok (.astore 5, 2) := by decide +kernel
theorem d_Law_seen_17 : decode b_Law_seen 17 = .ok (.iconst 1, 1) := by decide +kernel
theorem d_Law_seen_18 : decode b_Law_seen 18 = .ok (.ireturn, 1) := by decide +kernel
theorem d_Law_seen_19 : decode b_Law_seen 19 = .ok (.astore 5, 2) := by decide +kernel
theorem d_Law_seen_21 : decode b_Law_seen 21 = .ok (.iconst 2, 1) := by decide +kernel
theorem d_Law_seen_22 : decode b_Law_seen 22 = .ok (.ireturn, 1) := by decide +kernel
theorem d_Law_seen_23 : decode b_Law_seen 23 = .ok (.iconst 0, 1) := by decide +kernel
theorem d_Law_seen_24 : decode b_Law_seen 24 = .ok (.ireturn, 1) := by decide +kernel
def f_Law_seen (v0 : Option Nat) (v1 : Int32) (v2 : Int32) (v3 : Int32) (v4 : Option Nat) (S : zq_S) : Option (zq_S × Int32) :=
  (v0).bind fun a1 =>
  if zs_is S a1 3 = true then
  zs_t (f_CT_seen S a1 v1 v2 v3 S) (fun S4 x5 =>
    (v4).bind fun a9 =>
    (zs_las S4 a9 0 (0 : Int32) x5.toInt64).bind fun S11 =>
    some (S11, (0 : Int32))
    ) (fun S4 j =>
    if j = 1 then
      some (S4, (1 : Int32))
    else
    if j = 0 then
      some (S4, (2 : Int32))
    else
    none)
  else none
set_option maxHeartbeats 4000000 in
set_option maxRecDepth 100000 in
theorem c_Law_seen {l : Launch} (hl : l.stackTraces = false) {G : zq_G} {v0 : Option Nat} {v1 : Int32} {v2 : Int32} {v3 : Int32} {v4 : Option Nat} {S0 T : zq_S} {v : Int32} (hf : f_Law_seen v0 v1 v2 v3 v4 S0 = some (T, v)) : zq_M l y_Law_seen (.codeWith y_Law_seen b_Law_seen 6 (some (.int)) [(0, 12, 15, 13), (0, 12, 19, 19)]) rm_Law_seen G [va_rf v0, .int v1, .int v2, .int v3, va_rf v4] S0 ((.inl (some (.int v)) : zq_R)) T := by
  refine zq_MofW (lo := [(0, va_rf v0), (1, .int v1), (2, .int v2), (3, .int v3), (4, va_rf v4)]) hl (by decide) (by cases v0 <;> cases v4 <;> exact (Nat.le_of_ble_eq_true rfl)) (by cases v0 <;> cases v4 <;> rfl) (fun X Z => ?_)
  have Z : Z_Law_seen l G S0 T v X := Z
  show zq_W (Y_Law_seen l G S0 T v) X 0 [(0, va_rf v0), (1, .int v1), (2, .int v2), (3, .int v3), (4, va_rf v4)] [] S0 0 0
  unfold f_Law_seen at hf
  refine zq_aloadQ Z d_Law_seen_0 4 rfl ?_
  refine zq_iconst Z (0 : Int32) d_Law_seen_2 (by decide) ?_
  refine zq_aload_nQ Z d_Law_seen_3 0 rfl ?_
  refine zq_iload_n Z d_Law_seen_4 1 rfl ?_
  refine zq_iload_n Z d_Law_seen_5 2 rfl ?_
  refine zq_iload_n Z d_Law_seen_6 3 rfl ?_
  have hq := Option.bind_eq_some_iff.mp hf
  clear hf
  obtain ⟨a1, h2, hf⟩ := hq
  subst h2
  have hq := zs_C hf
  clear hf
  obtain ⟨h6, hf⟩ := hq
  obtain ⟨fs7, e8⟩ := zs_isS h6
  have hq := zs_tS hf
  clear hf
  rcases hq with ⟨S4, x5, h3, hf⟩ | ⟨S4, j, h3, hf⟩
  · refine zq_contR (zq_stepV Z zq_cf1 (c_CT_seen hl h3) 3 rfl e8 d_Law_seen_7 m_435 m_437 m_438 m_436 m_108 p_CT_seen ⟨(Nat.le_of_ble_eq_true rfl), (Nat.le_of_ble_eq_true rfl), (Nat.le_of_ble_eq_true rfl), (Nat.le_of_ble_eq_true rfl)⟩ rfl (by cases v4 <;> exact (Nat.le_of_ble_eq_true rfl))) Z.p ?_
    refine zq_i2l Z d_Law_seen_10 ?_
    have hq := Option.bind_eq_some_iff.mp hf
    clear hf
    obtain ⟨a9, h10, hf⟩ := hq
    subst h10
    have hq := Option.bind_eq_some_iff.mp hf
    clear hf
    obtain ⟨S11, h12, hf⟩ := hq
    refine zr_lastore Z 0 (fun _ => rfl) d_Law_seen_11 h12 ?_
    refine zq_goto Z 23 d_Law_seen_12 (by decide) ?_
    refine zq_iconst Z (0 : Int32) d_Law_seen_23 (by decide) ?_
    exact zq_iret Z d_Law_seen_24 (zs_1 hf) (zs_2 (fun z => (.inl (some (.int z)) : zq_R)) hf) ⟨(Nat.le_of_ble_eq_true rfl), (Nat.le_of_ble_eq_true rfl)⟩
  · by_cases q13 : j = 1
    · replace hf := zs_T q13 hf
      subst q13
      refine zq_contC Z (zq_stepV Z zq_cf1 (c_CT_seen hl h3) 3 rfl e8 d_Law_seen_7 m_435 m_437 m_438 m_436 m_108 p_CT_seen ⟨(Nat.le_of_ble_eq_true rfl), (Nat.le_of_ble_eq_true rfl), (Nat.le_of_ble_eq_true rfl), (Nat.le_of_ble_eq_true rfl)⟩ rfl (by cases v4 <;> exact (Nat.le_of_ble_eq_true rfl))) 15 ⟨[], (0, 12, 15, 13), [(0, 12, 19, 19)], _, rfl, (fun _ h => absurd h List.not_mem_nil), by decide, by decide, by decide, rfl, m_393, m_394⟩ (fun x => ?_)
      refine zq_astore Z [(5, .ref x), (0, .ref a1), (1, .int v1), (2, .int v2), (3, .int v3), (4, va_rf v4)] d_Law_seen_15 (by decide) (by cases v4 <;> rfl) ?_
      refine zq_iconst Z (1 : Int32) d_Law_seen_17 (by decide) ?_
      exact zq_iret Z d_Law_seen_18 (zs_1 hf) (zs_2 (fun z => (.inl (some (.int z)) : zq_R)) hf) ⟨(Nat.le_of_ble_eq_true rfl), (Nat.le_of_ble_eq_true rfl)⟩
    · replace hf := zs_N q13 hf
      have hq := zs_C hf
      clear hf
      obtain ⟨q14, hf⟩ := hq
      subst q14
      refine zq_contC Z (zq_stepV Z zq_cf1 (c_CT_seen hl h3) 3 rfl e8 d_Law_seen_7 m_435 m_437 m_438 m_436 m_108 p_CT_seen ⟨(Nat.le_of_ble_eq_true rfl), (Nat.le_of_ble_eq_true rfl), (Nat.le_of_ble_eq_true rfl), (Nat.le_of_ble_eq_true rfl)⟩ rfl (by cases v4 <;> exact (Nat.le_of_ble_eq_true rfl))) 19 ⟨[(0, 12, 15, 13)], (0, 12, 19, 19), [], _, rfl, (List.forall_mem_cons.mpr ⟨⟨by decide, _, m_393, by decide⟩, (fun _ h => absurd h List.not_mem_nil)⟩), by decide, by decide, by decide, rfl, m_399, m_400⟩ (fun x => ?_)
      refine zq_astore Z [(5, .ref x), (0, .ref a1), (1, .int v1), (2, .int v2), (3, .int v3), (4, va_rf v4)] d_Law_seen_19 (by decide) (by cases v4 <;> rfl) ?_
      refine zq_iconst Z (2 : Int32) d_Law_seen_21 (by decide) ?_
      exact zq_iret Z d_Law_seen_22 (zs_1 hf) (zs_2 (fun z => (.inl (some (.int z)) : zq_R)) hf) ⟨(Nat.le_of_ble_eq_true rfl), (Nat.le_of_ble_eq_true rfl)⟩
theorem d_Law_mark_0 : decode b_Law_mark 0 = .ok (.aload_n 3, 1) := by decide +kernel
theorem d_Law_mark_1 : decode b_Law_mark 1 = .ok (.iconst 0, 1) := by decide +kernel
theorem d_Law_mark_2 : decode b_Law_mark 2 = .ok (.aload_n 0, 1) := by decide +kernel
theorem d_Law_mark_3 : decode b_Law_mark 3 = .ok (.iload_n 1, 1) := by decide +kernel
theorem d_Law_mark_4 : decode b_Law_mark 4 = .ok (.iload_n 2, 1) := by decide +kernel
theorem d_Law_mark_5 : decode b_Law_mark 5 = .ok (.invokevirtual 53, 3) := by decide +kernel
theorem d_Law_mark_8 : decode b_Law_mark 8 = .ok (.i2l, 1) := by decide +kernel
theorem d_Law_mark_9 : decode b_Law_mark 9 = .ok (.lastore, 1) := by decide +kernel
theorem d_Law_mark_10 : decode b_Law_mark 10 = .ok (.goto 11, 3) := by decide +kernel
theorem d_Law_mark_13 : decode b_Law_mark 13 = .ok (.astore 4, 2) := by decide +kernel
theorem d_Law_mark_15 : decode b_Law_mark 15 = .ok (.iconst 1, 1) := by decide +kernel
theorem d_Law_mark_16 : decode b_Law_mark 16 = .ok (.ireturn, 1) := by decide +kernel
theorem d_Law_mark_17 : decode b_Law_mark 17 = .ok (.astore 4, 2) := by decide +kernel
theorem d_Law_mark_19 : decode b_Law_mark 19 = .ok (.iconst 2, 1) := by decide +kernel
theorem d_Law_mark_20 : decode b_Law_mark 20 = .ok (.ireturn, 1) := by decide +kernel
theorem d_Law_mark_21 : decode b_Law_mark 21 = .ok (.iconst 0, 1) := by decide +kernel
theorem d_Law_mark_22 : decode b_Law_mark 22 = .ok (.ireturn, 1) := by decide +kernel
def f_Law_mark (v0 : Option Nat) (v1 : Int32) (v2 : Int32) (v3 : Option Nat) (S : zq_S) : Option (zq_S × Int32) :=
  (v0).bind fun a1 =>
  if zs_is S a1 3 = true then
  zs_t (f_CT_mark S a1 v1 v2 S) (fun S4 x5 =>
    (v3).bind fun a9 =>
    (zs_las S4 a9 0 (0 : Int32) x5.toInt64).bind fun S11 =>
    some (S11, (0 : Int32))
    ) (fun S4 j =>
    if j = 0 then
      some (S4, (1 : Int32))
    else
    if j = 1 then
      some (S4, (2 : Int32))
    else
    none)
  else none
set_option maxHeartbeats 4000000 in
set_option maxRecDepth 100000 in
theorem c_Law_mark {l : Launch} (hl : l.stackTraces = false) {G : zq_G} {v0 : Option Nat} {v1 : Int32} {v2 : Int32} {v3 : Option Nat} {S0 T : zq_S} {v : Int32} (hf : f_Law_mark v0 v1 v2 v3 S0 = some (T, v)) : zq_M l y_Law_mark (.codeWith y_Law_mark b_Law_mark 5 (some (.int)) [(0, 10, 13, 19), (0, 10, 17, 13)]) rm_Law_mark G [va_rf v0, .int v1, .int v2, va_rf v3] S0 ((.inl (some (.int v)) : zq_R)) T := by
  refine zq_MofW (lo := [(0, va_rf v0), (1, .int v1), (2, .int v2), (3, va_rf v3)]) hl (by decide) (by cases v0 <;> cases v3 <;> exact (Nat.le_of_ble_eq_true rfl)) (by cases v0 <;> cases v3 <;> rfl) (fun X Z => ?_)
  have Z : Z_Law_mark l G S0 T v X := Z
  show zq_W (Y_Law_mark l G S0 T v) X 0 [(0, va_rf v0), (1, .int v1), (2, .int v2), (3, va_rf v3)] [] S0 0 0
  unfold f_Law_mark at hf
  refine zq_aload_nQ Z d_Law_mark_0 3 rfl ?_
  refine zq_iconst Z (0 : Int32) d_Law_mark_1 (by decide) ?_
  refine zq_aload_nQ Z d_Law_mark_2 0 rfl ?_
  refine zq_iload_n Z d_Law_mark_3 1 rfl ?_
  refine zq_iload_n Z d_Law_mark_4 2 rfl ?_
  have hq := Option.bind_eq_some_iff.mp hf
  clear hf
  obtain ⟨a1, h2, hf⟩ := hq
  subst h2
  have hq := zs_C hf
  clear hf
  obtain ⟨h6, hf⟩ := hq
  obtain ⟨fs7, e8⟩ := zs_isS h6
  have hq := zs_tS hf
  clear hf
  rcases hq with ⟨S4, x5, h3, hf⟩ | ⟨S4, j, h3, hf⟩
  · refine zq_contR (zq_stepV Z zq_cf1 (c_CT_mark hl h3) 3 rfl e8 d_Law_mark_5 m_439 m_441 m_442 m_440 m_108 p_CT_mark ⟨(Nat.le_of_ble_eq_true rfl), (Nat.le_of_ble_eq_true rfl), (Nat.le_of_ble_eq_true rfl), (Nat.le_of_ble_eq_true rfl)⟩ rfl (by cases v3 <;> exact (Nat.le_of_ble_eq_true rfl))) Z.p ?_
    refine zq_i2l Z d_Law_mark_8 ?_
    have hq := Option.bind_eq_some_iff.mp hf
    clear hf
    obtain ⟨a9, h10, hf⟩ := hq
    subst h10
    have hq := Option.bind_eq_some_iff.mp hf
    clear hf
    obtain ⟨S11, h12, hf⟩ := hq
    refine zr_lastore Z 0 (fun _ => rfl) d_Law_mark_9 h12 ?_
    refine zq_goto Z 21 d_Law_mark_10 (by decide) ?_
    refine zq_iconst Z (0 : Int32) d_Law_mark_21 (by decide) ?_
    exact zq_iret Z d_Law_mark_22 (zs_1 hf) (zs_2 (fun z => (.inl (some (.int z)) : zq_R)) hf) ⟨(Nat.le_of_ble_eq_true rfl), (Nat.le_of_ble_eq_true rfl)⟩
  · by_cases q13 : j = 0
    · replace hf := zs_T q13 hf
      subst q13
      refine zq_contC Z (zq_stepV Z zq_cf1 (c_CT_mark hl h3) 3 rfl e8 d_Law_mark_5 m_439 m_441 m_442 m_440 m_108 p_CT_mark ⟨(Nat.le_of_ble_eq_true rfl), (Nat.le_of_ble_eq_true rfl), (Nat.le_of_ble_eq_true rfl), (Nat.le_of_ble_eq_true rfl)⟩ rfl (by cases v3 <;> exact (Nat.le_of_ble_eq_true rfl))) 13 ⟨[], (0, 10, 13, 19), [(0, 10, 17, 13)], _, rfl, (fun _ h => absurd h List.not_mem_nil), by decide, by decide, by decide, rfl, m_399, m_400⟩ (fun x => ?_)
      refine zq_astore Z [(4, .ref x), (0, .ref a1), (1, .int v1), (2, .int v2), (3, va_rf v3)] d_Law_mark_13 (by decide) (by cases v3 <;> rfl) ?_
      refine zq_iconst Z (1 : Int32) d_Law_mark_15 (by decide) ?_
      exact zq_iret Z d_Law_mark_16 (zs_1 hf) (zs_2 (fun z => (.inl (some (.int z)) : zq_R)) hf) ⟨(Nat.le_of_ble_eq_true rfl), (Nat.le_of_ble_eq_true rfl)⟩
    · replace hf := zs_N q13 hf
      have hq := zs_C hf
      clear hf
      obtain ⟨q14, hf⟩ := hq
      subst q14
      refine zq_contC Z (zq_stepV Z zq_cf1 (c_CT_mark hl h3) 3 rfl e8 d_Law_mark_5 m_439 m_441 m_442 m_440 m_108 p_CT_mark ⟨(Nat.le_of_ble_eq_true rfl), (Nat.le_of_ble_eq_true rfl), (Nat.le_of_ble_eq_true rfl), (Nat.le_of_ble_eq_true rfl)⟩ rfl (by cases v3 <;> exact (Nat.le_of_ble_eq_true rfl))) 17 ⟨[(0, 10, 13, 19)], (0, 10, 17, 13), [], _, rfl, (List.forall_mem_cons.mpr ⟨⟨by decide, _, m_399, by decide⟩, (fun _ h => absurd h List.not_mem_nil)⟩), by decide, by decide, by decide, rfl, m_393, m_394⟩ (fun x => ?_)
      refine zq_astore Z [(4, .ref x), (0, .ref a1), (1, .int v1), (2, .int v2), (3, va_rf v3)] d_Law_mark_17 (by decide) (by cases v3 <;> rfl) ?_
      refine zq_iconst Z (2 : Int32) d_Law_mark_19 (by decide) ?_
      exact zq_iret Z d_Law_mark_20 (zs_1 hf) (zs_2 (fun z => (.inl (some (.int z)) : zq_R)) hf) ⟨(Nat.le_of_ble_eq_true rfl), (Nat.le_of_ble_eq_true rfl)⟩
