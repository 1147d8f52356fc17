theorem d_Mo_erase_0 : decode b_Mo_erase 0 = .ok (.aload_n 0, 1) := by decide +kernel
theorem d_Mo_erase_1 : decode b_Mo_erase 1 = .ok (.iload_n 1, 1) := by decide +kernel
theorem d_Mo_erase_2 : decode b_Mo_erase 2 = .ok (.iload_n 2, 1) := by decide +kernel
theorem d_Mo_erase_3 : decode b_Mo_erase 3 = .ok (.invokevirtual 151, 3) := by decide +kernel
theorem d_Mo_erase_6 : decode b_Mo_erase 6 = .ok (.ifCond .eq 15, 3) := by decide +kernel
theorem d_Mo_erase_9 : decode b_Mo_erase 9 = .ok (.aload_n 0, 1) := by decide +kernel
theorem d_Mo_erase_10 : decode b_Mo_erase 10 = .ok (.iconst 1, 1) := by decide +kernel
theorem d_Mo_erase_11 : decode b_Mo_erase 11 = .ok (.iconst 0, 1) := by decide +kernel
theorem d_Mo_erase_12 : decode b_Mo_erase 12 = .ok (.iload_n 1, 1) := by decide +kernel
theorem d_Mo_erase_13 : decode b_Mo_erase 13 = .ok (.iload_n 2, 1) := by decide +kernel
theorem d_Mo_erase_14 : decode b_Mo_erase 14 = .ok (.lconst 0, 1) := by decide +kernel
theorem d_Mo_erase_15 : decode b_Mo_erase 15 = .ok (.invokevirtual 147, 3) := by decide +kernel
theorem d_Mo_erase_18 : decode b_Mo_erase 18 = .ok (.goto 8, 3) := by decide +kernel
theorem d_Mo_erase_21 : decode b_Mo_erase 21 = .ok (.aload_n 0, 1) := by decide +kernel
theorem d_Mo_erase_22 : decode b_Mo_erase 22 = .ok (.iconst 1, 1) := by decide +kernel
theorem d_Mo_erase_23 : decode b_Mo_erase 23 = .ok (.invokevirtual 144, 3) := by decide +kernel
theorem d_Mo_erase_26 : decode b_Mo_erase 26 = .ok (.ireturn, 1) := by decide +kernel
def f_Mo_erase_26  (s0 : Int32) (S : zq_S) : Option (zq_S × Int32) :=
  some (S, s0)
def f_Mo_erase (a0 : Nat) (v1 : Int32) (v2 : Int32) (S : zq_S) : Option (zq_S × Int32) :=
  if zs_is S a0 4 = true then
  zs_b (f_Mo_isRange a0 v1 v2 S) fun S2 x3 =>
  if x3 = 0 then
    if zs_is S2 a0 4 = true then
    zs_b (f_Mo_raise a0 (1 : Int32) S2) fun S8 x9 =>
    f_Mo_erase_26  x9 S8
    else none
  else
    if zs_is S2 a0 4 = true then
    zs_b (f_Mo_edit a0 (1 : Int32) (0 : Int32) v1 v2 (0 : Int64) S2) fun S14 x15 =>
    f_Mo_erase_26  x15 S14
    else none
  else none
set_option maxHeartbeats 4000000 in
set_option maxRecDepth 100000 in
theorem r_Mo_erase_26 {l : Launch} (hl : l.stackTraces = false) {G : zq_G} {S0 T : zq_S} {v : Int32} {X : zq_X} (Z : Z_Mo_erase l G S0 T v X) {s0 : Int32} {S : zq_S} (hf : f_Mo_erase_26  s0 S = some (T, v)) : zq_W (Y_Mo_erase l G S0 T v) X 26 [] [.int s0] S 0 0 := by
  unfold f_Mo_erase_26 at hf
  exact zq_iret Z d_Mo_erase_26 (zs_1 hf) (zs_2 (fun z => (.inl (some (.int z)) : zq_R)) hf) ⟨(Nat.le_of_ble_eq_true rfl), (Nat.le_of_ble_eq_true rfl)⟩
set_option maxHeartbeats 4000000 in
set_option maxRecDepth 100000 in
theorem c_Mo_erase {l : Launch} (hl : l.stackTraces = false) {G : zq_G} {a0 : Nat} {v1 : Int32} {v2 : Int32} {S0 T : zq_S} {v : Int32} (hf : f_Mo_erase a0 v1 v2 S0 = some (T, v)) : zq_M l y_Mo_erase (.code y_Mo_erase b_Mo_erase 3 (some (.int))) rm_Mo_erase G [.ref a0, .int v1, .int v2] S0 ((.inl (some (.int v)) : zq_R)) T := by
  refine zq_Mof (lo := [(0, .ref a0), (1, .int v1), (2, .int v2)]) hl (by decide) (Nat.le_of_ble_eq_true rfl) rfl (fun X Z => ?_)
  have Z : Z_Mo_erase l G S0 T v X := Z
  show zq_W (Y_Mo_erase l G S0 T v) X 0 [(0, .ref a0), (1, .int v1), (2, .int v2)] [] S0 0 0
  unfold f_Mo_erase at hf
  refine zq_aload_n Z d_Mo_erase_0 0 rfl ?_
  refine zq_iload_n Z d_Mo_erase_1 1 rfl ?_
  refine zq_iload_n Z d_Mo_erase_2 2 rfl ?_
  have hq := zs_C hf
  clear hf
  obtain ⟨h4, hf⟩ := hq
  obtain ⟨fs5, e6⟩ := zs_isS h4
  have hq := zs_bS hf
  clear hf
  obtain ⟨S2, x3, h1, hf⟩ := hq
  refine zq_contR (zq_stepV Z zq_cf1 (c_Mo_isRange hl h1) 4 rfl e6 d_Mo_erase_3 m_369 m_371 m_372 m_370 m_286 p_Mo_isRange ⟨(Nat.le_of_ble_eq_true rfl), (Nat.le_of_ble_eq_true rfl), (Nat.le_of_ble_eq_true rfl), (Nat.le_of_ble_eq_true rfl)⟩ rfl (Nat.le_of_ble_eq_true rfl)) Z.p ?_
  refine zq_if_eq Z 21 d_Mo_erase_6 (by decide) (fun q => ?_) (fun q => ?_)
  · replace hf := zs_T q hf
    refine zq_aload_n Z d_Mo_erase_21 0 rfl ?_
    refine zq_iconst Z (1 : Int32) d_Mo_erase_22 (by decide) ?_
    have hq := zs_C hf
    clear hf
    obtain ⟨h10, hf⟩ := hq
    obtain ⟨fs11, e12⟩ := zs_isS h10
    have hq := zs_bS hf
    clear hf
    obtain ⟨S8, x9, h7, hf⟩ := hq
    refine zq_contR (zq_stepV Z zq_cf1 (c_Mo_raise hl h7) 4 rfl e12 d_Mo_erase_23 m_365 m_367 m_368 m_366 m_286 p_Mo_raise ⟨(Nat.le_of_ble_eq_true rfl), (Nat.le_of_ble_eq_true rfl), (Nat.le_of_ble_eq_true rfl), (Nat.le_of_ble_eq_true rfl)⟩ rfl (Nat.le_of_ble_eq_true rfl)) Z.p ?_
    refine zq_sub (lo' := []) [] rfl ?_
    exact r_Mo_erase_26 hl Z  hf
  · replace hf := zs_N q hf
    refine zq_aload_n Z d_Mo_erase_9 0 rfl ?_
    refine zq_iconst Z (1 : Int32) d_Mo_erase_10 (by decide) ?_
    refine zq_iconst Z (0 : Int32) d_Mo_erase_11 (by decide) ?_
    refine zq_iload_n Z d_Mo_erase_12 1 rfl ?_
    refine zq_iload_n Z d_Mo_erase_13 2 rfl ?_
    refine zq_lconst Z (0 : Int64) d_Mo_erase_14 (by decide) ?_
    have hq := zs_C hf
    clear hf
    obtain ⟨h16, hf⟩ := hq
    obtain ⟨fs17, e18⟩ := zs_isS h16
    have hq := zs_bS hf
    clear hf
    obtain ⟨S14, x15, h13, hf⟩ := hq
    refine zq_contR (zq_stepV Z zq_cf1 (c_Mo_edit hl h13) 4 rfl e18 d_Mo_erase_15 m_361 m_363 m_364 m_362 m_286 p_Mo_edit ⟨(Nat.le_of_ble_eq_true rfl), (Nat.le_of_ble_eq_true rfl), (Nat.le_of_ble_eq_true rfl), (Nat.le_of_ble_eq_true rfl)⟩ rfl (Nat.le_of_ble_eq_true rfl)) Z.p ?_
    refine zq_goto Z 26 d_Mo_erase_18 (by decide) ?_
    refine zq_sub (lo' := []) [] rfl ?_
    exact r_Mo_erase_26 hl Z  hf
theorem d_Mo_format_0 : decode b_Mo_format 0 = .ok (.aload_n 0, 1) := by decide +kernel
theorem d_Mo_format_1 : decode b_Mo_format 1 = .ok (.aload_n 0, 1) := by decide +kernel
theorem d_Mo_format_2 : decode b_Mo_format 2 = .ok (.iload_n 1, 1) := by decide +kernel
theorem d_Mo_format_3 : decode b_Mo_format 3 = .ok (.iload_n 2, 1) := by decide +kernel
theorem d_Mo_format_4 : decode b_Mo_format 4 = .ok (.invokevirtual 151, 3) := by decide +kernel
theorem d_Mo_format_7 : decode b_Mo_format 7 = .ok (.ifCond .ne 7, 3) := by decide +kernel
theorem d_Mo_format_10 : decode b_Mo_format 10 = .ok (.iconst 1, 1) := by decide +kernel
theorem d_Mo_format_11 : decode b_Mo_format 11 = .ok (.goto 19, 3) := by decide +kernel
theorem d_Mo_format_14 : decode b_Mo_format 14 = .ok (.iload_n 3, 1) := by decide +kernel
theorem d_Mo_format_15 : decode b_Mo_format 15 = .ok (.iconst 0, 1) := by decide +kernel
theorem d_Mo_format_16 : decode b_Mo_format 16 = .ok (.sipush 255, 3) := by decide +kernel
theorem d_Mo_format_19 : decode b_Mo_format 19 = .ok (.invokestatic 43, 3) := by decide +kernel
theorem d_Mo_format_22 : decode b_Mo_format 22 = .ok (.ifCond .ne 7, 3) := by decide +kernel
theorem d_Mo_format_25 : decode b_Mo_format 25 = .ok (.iconst 2, 1) := by decide +kernel
theorem d_Mo_format_26 : decode b_Mo_format 26 = .ok (.goto 4, 3) := by decide +kernel
theorem d_Mo_format_29 : decode b_Mo_format 29 = .ok (.iconst 0, 1) := by decide +kernel
theorem d_Mo_format_30 : decode b_Mo_format 30 = .ok (.putfield 35, 3) := by decide +kernel
theorem d_Mo_format_33 : decode b_Mo_format 33 = .ok (.aload_n 0, 1) := by decide +kernel
theorem d_Mo_format_34 : decode b_Mo_format 34 = .ok (.getfield 35, 3) := by decide +kernel
theorem d_Mo_format_37 : decode b_Mo_format 37 = .ok (.ifCond .le 7, 3) := by decide +kernel
theorem d_Mo_format_40 : decode b_Mo_format 40 = .ok (.iconst 0, 1) := by decide +kernel
theorem d_Mo_format_41 : decode b_Mo_format 41 = .ok (.goto 12, 3) := by decide +kernel
theorem d_Mo_format_44 : decode b_Mo_format 44 = .ok (.aload_n 0, 1) := by decide +kernel
theorem d_Mo_format_45 : decode b_Mo_format 45 = .ok (.iconst 2, 1) := by decide +kernel
theorem d_Mo_format_46 : decode b_Mo_format 46 = .ok (.iload_n 3, 1) := by decide +kernel
theorem d_Mo_format_47 : decode b_Mo_format 47 = .ok (.iload_n 1, 1) := by decide +kernel
theorem d_Mo_format_48 : decode b_Mo_format 48 = .ok (.iload_n 2, 1) := by decide +kernel
theorem d_Mo_format_49 : decode b_Mo_format 49 = .ok (.lconst 0, 1) := by decide +kernel
theorem d_Mo_format_50 : decode b_Mo_format 50 = .ok (.invokevirtual 147, 3) := by decide +kernel
theorem d_Mo_format_53 : decode b_Mo_format 53 = .ok (.ireturn, 1) := by decide +kernel
def f_Mo_format_53  (s0 : Int32) (S : zq_S) : Option (zq_S × Int32) :=
  some (S, s0)
def f_Mo_format_30  (a0 : Nat) (v1 : Int32) (v2 : Int32) (v3 : Int32) (s0 : Option Nat) (s1 : Int32) (S : zq_S) : Option (zq_S × Int32) :=
  (s0).bind fun a1 =>
  (zs_p S a1 4 0 (.int s1)).bind fun S3 =>
  (zs_gi S3 a0 4 0).bind fun x5 =>
  if x5 ≤ 0 then
    if zs_is S3 a0 4 = true then
    zs_b (f_Mo_edit a0 (2 : Int32) v3 v1 v2 (0 : Int64) S3) fun S8 x9 =>
    f_Mo_format_53  x9 S8
    else none
  else
    f_Mo_format_53  (0 : Int32) S3
def f_Mo_format (a0 : Nat) (v1 : Int32) (v2 : Int32) (v3 : Int32) (S : zq_S) : Option (zq_S × Int32) :=
  if zs_is S a0 4 = true then
  zs_b (f_Mo_isRange a0 v1 v2 S) fun S2 x3 =>
  if x3 = 0 then
    f_Mo_format_30  a0 v1 v2 v3 (some a0) (1 : Int32) S2
  else
    zs_b (f_Mo_in v3 (0 : Int32) (255 : Int32) S2) fun S8 x9 =>
    if x9 = 0 then
      f_Mo_format_30  a0 v1 v2 v3 (some a0) (2 : Int32) S8
    else
      f_Mo_format_30  a0 v1 v2 v3 (some a0) (0 : Int32) S8
  else none
set_option maxHeartbeats 4000000 in
set_option maxRecDepth 100000 in
theorem r_Mo_format_53 {l : Launch} (hl : l.stackTraces = false) {G : zq_G} {S0 T : zq_S} {v : Int32} {X : zq_X} (Z : Z_Mo_format l G S0 T v X) {s0 : Int32} {S : zq_S} (hf : f_Mo_format_53  s0 S = some (T, v)) : zq_W (Y_Mo_format l G S0 T v) X 53 [] [.int s0] S 0 0 := by
  unfold f_Mo_format_53 at hf
  exact zq_iret Z d_Mo_format_53 (zs_1 hf) (zs_2 (fun z => (.inl (some (.int z)) : zq_R)) hf) ⟨(Nat.le_of_ble_eq_true rfl), (Nat.le_of_ble_eq_true rfl)⟩
set_option maxHeartbeats 4000000 in
set_option maxRecDepth 100000 in
theorem r_Mo_format_30 {l : Launch} (hl : l.stackTraces = false) {G : zq_G} {S0 T : zq_S} {v : Int32} {X : zq_X} (Z : Z_Mo_format l G S0 T v X) {a0 : Nat} {v1 : Int32} {v2 : Int32} {v3 : Int32} {s0 : Option Nat} {s1 : Int32} {S : zq_S} (hf : f_Mo_format_30  a0 v1 v2 v3 s0 s1 S = some (T, v)) : zq_W (Y_Mo_format l G S0 T v) X 30 [(0, .ref a0), (1, .int v1), (2, .int v2), (3, .int v3)] [.int s1, va_rf s0] S 0 0 := by
  unfold f_Mo_format_30 at hf
  have hq := Option.bind_eq_some_iff.mp hf
  clear hf
  obtain ⟨a1, h2, hf⟩ := hq
  subst h2
  have hq := Option.bind_eq_some_iff.mp hf
  clear hf
  obtain ⟨S3, h4, hf⟩ := hq
  refine zr_puti Z cd_Mo 0 d_Mo_format_30 (by decide) m_279 rfl (by decide +kernel) h4 ?_
  refine zq_aload_n Z d_Mo_format_33 0 rfl ?_
  have hq := Option.bind_eq_some_iff.mp hf
  clear hf
  obtain ⟨x5, h6, hf⟩ := hq
  refine zr_geti Z cd_Mo 0 d_Mo_format_34 (by decide) m_279 h6 ?_
  refine zq_if_le Z 44 d_Mo_format_37 (by decide) (fun q => ?_) (fun q => ?_)
  · replace hf := zs_T q hf
    refine zq_aload_n Z d_Mo_format_44 0 rfl ?_
    refine zq_iconst Z (2 : Int32) d_Mo_format_45 (by decide) ?_
    refine zq_iload_n Z d_Mo_format_46 3 rfl ?_
    refine zq_iload_n Z d_Mo_format_47 1 rfl ?_
    refine zq_iload_n Z d_Mo_format_48 2 rfl ?_
    refine zq_lconst Z (0 : Int64) d_Mo_format_49 (by decide) ?_
    have hq := zs_C hf
    clear hf
    obtain ⟨h10, hf⟩ := hq
    obtain ⟨fs11, e12⟩ := zs_isS h10
    have hq := zs_bS hf
    clear hf
    obtain ⟨S8, x9, h7, hf⟩ := hq
    refine zq_contR (zq_stepV Z zq_cf1 (c_Mo_edit hl h7) 4 rfl e12 d_Mo_format_50 m_361 m_363 m_364 m_362 m_286 p_Mo_edit ⟨(Nat.le_of_ble_eq_true rfl), (Nat.le_of_ble_eq_true rfl), (Nat.le_of_ble_eq_true rfl), (Nat.le_of_ble_eq_true rfl)⟩ rfl (Nat.le_of_ble_eq_true rfl)) Z.p ?_
    refine zq_sub (lo' := []) [] rfl ?_
    exact r_Mo_format_53 hl Z  hf
  · replace hf := zs_N q hf
    refine zq_iconst Z (0 : Int32) d_Mo_format_40 (by decide) ?_
    refine zq_goto Z 53 d_Mo_format_41 (by decide) ?_
    refine zq_sub (lo' := []) [] rfl ?_
    exact r_Mo_format_53 hl Z  hf
set_option maxHeartbeats 4000000 in
set_option maxRecDepth 100000 in
theorem c_Mo_format {l : Launch} (hl : l.stackTraces = false) {G : zq_G} {a0 : Nat} {v1 : Int32} {v2 : Int32} {v3 : Int32} {S0 T : zq_S} {v : Int32} (hf : f_Mo_format a0 v1 v2 v3 S0 = some (T, v)) : zq_M l y_Mo_format (.code y_Mo_format b_Mo_format 4 (some (.int))) rm_Mo_format G [.ref a0, .int v1, .int v2, .int v3] S0 ((.inl (some (.int v)) : zq_R)) T := by
  refine zq_Mof (lo := [(0, .ref a0), (1, .int v1), (2, .int v2), (3, .int v3)]) hl (by decide) (Nat.le_of_ble_eq_true rfl) rfl (fun X Z => ?_)
  have Z : Z_Mo_format l G S0 T v X := Z
  show zq_W (Y_Mo_format l G S0 T v) X 0 [(0, .ref a0), (1, .int v1), (2, .int v2), (3, .int v3)] [] S0 0 0
  unfold f_Mo_format at hf
  refine zq_aload_n Z d_Mo_format_0 0 rfl ?_
  refine zq_aload_n Z d_Mo_format_1 0 rfl ?_
  refine zq_iload_n Z d_Mo_format_2 1 rfl ?_
  refine zq_iload_n Z d_Mo_format_3 2 rfl ?_
  have hq := zs_C hf
  clear hf
  obtain ⟨h4, hf⟩ := hq
  obtain ⟨fs5, e6⟩ := zs_isS h4
  have hq := zs_bS hf
  clear hf
  obtain ⟨S2, x3, h1, hf⟩ := hq
  refine zq_contR (zq_stepV Z zq_cf1 (c_Mo_isRange hl h1) 4 rfl e6 d_Mo_format_4 m_369 m_371 m_372 m_370 m_286 p_Mo_isRange ⟨(Nat.le_of_ble_eq_true rfl), (Nat.le_of_ble_eq_true rfl), (Nat.le_of_ble_eq_true rfl), (Nat.le_of_ble_eq_true rfl)⟩ rfl (Nat.le_of_ble_eq_true rfl)) Z.p ?_
  refine zq_if_ne Z 14 d_Mo_format_7 (by decide) (fun q => ?_) (fun q => ?_)
  · replace hf := zs_N q hf
    refine zq_iload_n Z d_Mo_format_14 3 rfl ?_
    refine zq_iconst Z (0 : Int32) d_Mo_format_15 (by decide) ?_
    refine zq_sipush Z (255 : Int32) d_Mo_format_16 (by decide) ?_
    have hq := zs_bS hf
    clear hf
    obtain ⟨S8, x9, h7, hf⟩ := hq
    refine zq_contR (zq_stepS Z zq_cf1 (c_Mo_in hl h7) d_Mo_format_19 m_283 m_284 m_285 m_286 p_Mo_in ⟨(Nat.le_of_ble_eq_true rfl), (Nat.le_of_ble_eq_true rfl), (Nat.le_of_ble_eq_true rfl), (Nat.le_of_ble_eq_true rfl)⟩ rfl (Nat.le_of_ble_eq_true rfl)) Z.p ?_
    refine zq_if_ne Z 29 d_Mo_format_22 (by decide) (fun q => ?_) (fun q => ?_)
    · replace hf := zs_N q hf
      refine zq_iconst Z (0 : Int32) d_Mo_format_29 (by decide) ?_
      refine zq_sub (lo' := [(0, .ref a0), (1, .int v1), (2, .int v2), (3, .int v3)]) [0, 1, 2, 3] rfl ?_
      show zq_W _ _ 30 _ [.int (0 : Int32), va_rf (some a0)] _ _ _
      exact r_Mo_format_30 hl Z  hf
    · replace hf := zs_T q hf
      refine zq_iconst Z (2 : Int32) d_Mo_format_25 (by decide) ?_
      refine zq_goto Z 30 d_Mo_format_26 (by decide) ?_
      refine zq_sub (lo' := [(0, .ref a0), (1, .int v1), (2, .int v2), (3, .int v3)]) [0, 1, 2, 3] rfl ?_
      show zq_W _ _ 30 _ [.int (2 : Int32), va_rf (some a0)] _ _ _
      exact r_Mo_format_30 hl Z  hf
  · replace hf := zs_T q hf
    refine zq_iconst Z (1 : Int32) d_Mo_format_10 (by decide) ?_
    refine zq_goto Z 30 d_Mo_format_11 (by decide) ?_
    refine zq_sub (lo' := [(0, .ref a0), (1, .int v1), (2, .int v2), (3, .int v3)]) [0, 1, 2, 3] rfl ?_
    show zq_W _ _ 30 _ [.int (1 : Int32), va_rf (some a0)] _ _ _
    exact r_Mo_format_30 hl Z  hf
theorem d_Mo_accept_0 : decode b_Mo_accept 0 = .ok (.aload_n 0, 1) := by decide +kernel
theorem d_Mo_accept_1 : decode b_Mo_accept 1 = .ok (.aload_n 0, 1) := by decide +kernel
theorem d_Mo_accept_2 : decode b_Mo_accept 2 = .ok (.iload_n 1, 1) := by decide +kernel
theorem d_Mo_accept_3 : decode b_Mo_accept 3 = .ok (.iload_n 2, 1) := by decide +kernel
theorem d_Mo_accept_4 : decode b_Mo_accept 4 = .ok (.invokevirtual 151, 3) := by decide +kernel
theorem d_Mo_accept_7 : decode b_Mo_accept 7 = .ok (.ifCond .ne 7, 3) := by decide +kernel
theorem d_Mo_accept_10 : decode b_Mo_accept 10 = .ok (.iconst 1, 1) := by decide +kernel
theorem d_Mo_accept_11 : decode b_Mo_accept 11 = .ok (.goto 19, 3) := by decide +kernel
theorem d_Mo_accept_14 : decode b_Mo_accept 14 = .ok (.iload_n 3, 1) := by decide +kernel
theorem d_Mo_accept_15 : decode b_Mo_accept 15 = .ok (.iconst 1, 1) := by decide +kernel
theorem d_Mo_accept_16 : decode b_Mo_accept 16 = .ok (.sipush 255, 3) := by decide +kernel
theorem d_Mo_accept_19 : decode b_Mo_accept 19 = .ok (.invokestatic 43, 3) := by decide +kernel
theorem d_Mo_accept_22 : decode b_Mo_accept 22 = .ok (.ifCond .ne 7, 3) := by decide +kernel
theorem d_Mo_accept_25 : decode b_Mo_accept 25 = .ok (.iconst 2, 1) := by decide +kernel
theorem d_Mo_accept_26 : decode b_Mo_accept 26 = .ok (.goto 4, 3) := by decide +kernel
theorem d_Mo_accept_29 : decode b_Mo_accept 29 = .ok (.iconst 0, 1) := by decide +kernel
theorem d_Mo_accept_30 : decode b_Mo_accept 30 = .ok (.putfield 35, 3) := by decide +kernel
theorem d_Mo_accept_33 : decode b_Mo_accept 33 = .ok (.aload_n 0, 1) := by decide +kernel
theorem d_Mo_accept_34 : decode b_Mo_accept 34 = .ok (.getfield 35, 3) := by decide +kernel
theorem d_Mo_accept_37 : decode b_Mo_accept 37 = .ok (.ifCond .le 7, 3) := by decide +kernel
theorem d_Mo_accept_40 : decode b_Mo_accept 40 = .ok (.iconst 0, 1) := by decide +kernel
theorem d_Mo_accept_41 : decode b_Mo_accept 41 = .ok (.goto 12, 3) := by decide +kernel
theorem d_Mo_accept_44 : decode b_Mo_accept 44 = .ok (.aload_n 0, 1) := by decide +kernel
theorem d_Mo_accept_45 : decode b_Mo_accept 45 = .ok (.iconst 3, 1) := by decide +kernel
theorem d_Mo_accept_46 : decode b_Mo_accept 46 = .ok (.iload_n 3, 1) := by decide +kernel
theorem d_Mo_accept_47 : decode b_Mo_accept 47 = .ok (.iload_n 1, 1) := by decide +kernel
theorem d_Mo_accept_48 : decode b_Mo_accept 48 = .ok (.iload_n 2, 1) := by decide +kernel
theorem d_Mo_accept_49 : decode b_Mo_accept 49 = .ok (.lconst 0, 1) := by decide +kernel
theorem d_Mo_accept_50 : decode b_Mo_accept 50 = .ok (.invokevirtual 147, 3) := by decide +kernel
theorem d_Mo_accept_53 : decode b_Mo_accept 53 = .ok (.ireturn, 1) := by decide +kernel
def f_Mo_accept_53  (s0 : Int32) (S : zq_S) : Option (zq_S × Int32) :=
  some (S, s0)
def f_Mo_accept_30  (a0 : Nat) (v1 : Int32) (v2 : Int32) (v3 : Int32) (s0 : Option Nat) (s1 : Int32) (S : zq_S) : Option (zq_S × Int32) :=
  (s0).bind fun a1 =>
  (zs_p S a1 4 0 (.int s1)).bind fun S3 =>
  (zs_gi S3 a0 4 0).bind fun x5 =>
  if x5 ≤ 0 then
    if zs_is S3 a0 4 = true then
    zs_b (f_Mo_edit a0 (3 : Int32) v3 v1 v2 (0 : Int64) S3) fun S8 x9 =>
    f_Mo_accept_53  x9 S8
    else none
  else
    f_Mo_accept_53  (0 : Int32) S3
def f_Mo_accept (a0 : Nat) (v1 : Int32) (v2 : Int32) (v3 : Int32) (S : zq_S) : Option (zq_S × Int32) :=
  if zs_is S a0 4 = true then
  zs_b (f_Mo_isRange a0 v1 v2 S) fun S2 x3 =>
  if x3 = 0 then
    f_Mo_accept_30  a0 v1 v2 v3 (some a0) (1 : Int32) S2
  else
    zs_b (f_Mo_in v3 (1 : Int32) (255 : Int32) S2) fun S8 x9 =>
    if x9 = 0 then
      f_Mo_accept_30  a0 v1 v2 v3 (some a0) (2 : Int32) S8
    else
      f_Mo_accept_30  a0 v1 v2 v3 (some a0) (0 : Int32) S8
  else none
set_option maxHeartbeats 4000000 in
set_option maxRecDepth 100000 in
theorem r_Mo_accept_53 {l : Launch} (hl : l.stackTraces = false) {G : zq_G} {S0 T : zq_S} {v : Int32} {X : zq_X} (Z : Z_Mo_accept l G S0 T v X) {s0 : Int32} {S : zq_S} (hf : f_Mo_accept_53  s0 S = some (T, v)) : zq_W (Y_Mo_accept l G S0 T v) X 53 [] [.int s0] S 0 0 := by
  unfold f_Mo_accept_53 at hf
  exact zq_iret Z d_Mo_accept_53 (zs_1 hf) (zs_2 (fun z => (.inl (some (.int z)) : zq_R)) hf) ⟨(Nat.le_of_ble_eq_true rfl), (Nat.le_of_ble_eq_true rfl)⟩
set_option maxHeartbeats 4000000 in
set_option maxRecDepth 100000 in
theorem r_Mo_accept_30 {l : Launch} (hl : l.stackTraces = false) {G : zq_G} {S0 T : zq_S} {v : Int32} {X : zq_X} (Z : Z_Mo_accept l G S0 T v X) {a0 : Nat} {v1 : Int32} {v2 : Int32} {v3 : Int32} {s0 : Option Nat} {s1 : Int32} {S : zq_S} (hf : f_Mo_accept_30  a0 v1 v2 v3 s0 s1 S = some (T, v)) : zq_W (Y_Mo_accept l G S0 T v) X 30 [(0, .ref a0), (1, .int v1), (2, .int v2), (3, .int v3)] [.int s1, va_rf s0] S 0 0 := by
  unfold f_Mo_accept_30 at hf
  have hq := Option.bind_eq_some_iff.mp hf
  clear hf
  obtain ⟨a1, h2, hf⟩ := hq
  subst h2
  have hq := Option.bind_eq_some_iff.mp hf
  clear hf
  obtain ⟨S3, h4, hf⟩ := hq
  refine zr_puti Z cd_Mo 0 d_Mo_accept_30 (by decide) m_279 rfl (by decide +kernel) h4 ?_
  refine zq_aload_n Z d_Mo_accept_33 0 rfl ?_
  have hq := Option.bind_eq_some_iff.mp hf
  clear hf
  obtain ⟨x5, h6, hf⟩ := hq
  refine zr_geti Z cd_Mo 0 d_Mo_accept_34 (by decide) m_279 h6 ?_
  refine zq_if_le Z 44 d_Mo_accept_37 (by decide) (fun q => ?_) (fun q => ?_)
  · replace hf := zs_T q hf
    refine zq_aload_n Z d_Mo_accept_44 0 rfl ?_
    refine zq_iconst Z (3 : Int32) d_Mo_accept_45 (by decide) ?_
    refine zq_iload_n Z d_Mo_accept_46 3 rfl ?_
    refine zq_iload_n Z d_Mo_accept_47 1 rfl ?_
    refine zq_iload_n Z d_Mo_accept_48 2 rfl ?_
    refine zq_lconst Z (0 : Int64) d_Mo_accept_49 (by decide) ?_
    have hq := zs_C hf
    clear hf
    obtain ⟨h10, hf⟩ := hq
    obtain ⟨fs11, e12⟩ := zs_isS h10
    have hq := zs_bS hf
    clear hf
    obtain ⟨S8, x9, h7, hf⟩ := hq
    refine zq_contR (zq_stepV Z zq_cf1 (c_Mo_edit hl h7) 4 rfl e12 d_Mo_accept_50 m_361 m_363 m_364 m_362 m_286 p_Mo_edit ⟨(Nat.le_of_ble_eq_true rfl), (Nat.le_of_ble_eq_true rfl), (Nat.le_of_ble_eq_true rfl), (Nat.le_of_ble_eq_true rfl)⟩ rfl (Nat.le_of_ble_eq_true rfl)) Z.p ?_
    refine zq_sub (lo' := []) [] rfl ?_
    exact r_Mo_accept_53 hl Z  hf
  · replace hf := zs_N q hf
    refine zq_iconst Z (0 : Int32) d_Mo_accept_40 (by decide) ?_
    refine zq_goto Z 53 d_Mo_accept_41 (by decide) ?_
    refine zq_sub (lo' := []) [] rfl ?_
    exact r_Mo_accept_53 hl Z  hf
set_option maxHeartbeats 4000000 in
set_option maxRecDepth 100000 in
theorem c_Mo_accept {l : Launch} (hl : l.stackTraces = false) {G : zq_G} {a0 : Nat} {v1 : Int32} {v2 : Int32} {v3 : Int32} {S0 T : zq_S} {v : Int32} (hf : f_Mo_accept a0 v1 v2 v3 S0 = some (T, v)) : zq_M l y_Mo_accept (.code y_Mo_accept b_Mo_accept 4 (some (.int))) rm_Mo_accept G [.ref a0, .int v1, .int v2, .int v3] S0 ((.inl (some (.int v)) : zq_R)) T := by
  refine zq_Mof (lo := [(0, .ref a0), (1, .int v1), (2, .int v2), (3, .int v3)]) hl (by decide) (Nat.le_of_ble_eq_true rfl) rfl (fun X Z => ?_)
  have Z : Z_Mo_accept l G S0 T v X := Z
  show zq_W (Y_Mo_accept l G S0 T v) X 0 [(0, .ref a0), (1, .int v1), (2, .int v2), (3, .int v3)] [] S0 0 0
  unfold f_Mo_accept at hf
  refine zq_aload_n Z d_Mo_accept_0 0 rfl ?_
  refine zq_aload_n Z d_Mo_accept_1 0 rfl ?_
  refine zq_iload_n Z d_Mo_accept_2 1 rfl ?_
  refine zq_iload_n Z d_Mo_accept_3 2 rfl ?_
  have hq := zs_C hf
  clear hf
  obtain ⟨h4, hf⟩ := hq
  obtain ⟨fs5, e6⟩ := zs_isS h4
  have hq := zs_bS hf
  clear hf
  obtain ⟨S2, x3, h1, hf⟩ := hq
  refine zq_contR (zq_stepV Z zq_cf1 (c_Mo_isRange hl h1) 4 rfl e6 d_Mo_accept_4 m_369 m_371 m_372 m_370 m_286 p_Mo_isRange ⟨(Nat.le_of_ble_eq_true rfl), (Nat.le_of_ble_eq_true rfl), (Nat.le_of_ble_eq_true rfl), (Nat.le_of_ble_eq_true rfl)⟩ rfl (Nat.le_of_ble_eq_true rfl)) Z.p ?_
  refine zq_if_ne Z 14 d_Mo_accept_7 (by decide) (fun q => ?_) (fun q => ?_)
  · replace hf := zs_N q hf
    refine zq_iload_n Z d_Mo_accept_14 3 rfl ?_
    refine zq_iconst Z (1 : Int32) d_Mo_accept_15 (by decide) ?_
    refine zq_sipush Z (255 : Int32) d_Mo_accept_16 (by decide) ?_
    have hq := zs_bS hf
    clear hf
    obtain ⟨S8, x9, h7, hf⟩ := hq
    refine zq_contR (zq_stepS Z zq_cf1 (c_Mo_in hl h7) d_Mo_accept_19 m_283 m_284 m_285 m_286 p_Mo_in ⟨(Nat.le_of_ble_eq_true rfl), (Nat.le_of_ble_eq_true rfl), (Nat.le_of_ble_eq_true rfl), (Nat.le_of_ble_eq_true rfl)⟩ rfl (Nat.le_of_ble_eq_true rfl)) Z.p ?_
    refine zq_if_ne Z 29 d_Mo_accept_22 (by decide) (fun q => ?_) (fun q => ?_)
    · replace hf := zs_N q hf
      refine zq_iconst Z (0 : Int32) d_Mo_accept_29 (by decide) ?_
      refine zq_sub (lo' := [(0, .ref a0), (1, .int v1), (2, .int v2), (3, .int v3)]) [0, 1, 2, 3] rfl ?_
      show zq_W _ _ 30 _ [.int (0 : Int32), va_rf (some a0)] _ _ _
      exact r_Mo_accept_30 hl Z  hf
    · replace hf := zs_T q hf
      refine zq_iconst Z (2 : Int32) d_Mo_accept_25 (by decide) ?_
      refine zq_goto Z 30 d_Mo_accept_26 (by decide) ?_
      refine zq_sub (lo' := [(0, .ref a0), (1, .int v1), (2, .int v2), (3, .int v3)]) [0, 1, 2, 3] rfl ?_
      show zq_W _ _ 30 _ [.int (2 : Int32), va_rf (some a0)] _ _ _
      exact r_Mo_accept_30 hl Z  hf
  · replace hf := zs_T q hf
    refine zq_iconst Z (1 : Int32) d_Mo_accept_10 (by decide) ?_
    refine zq_goto Z 30 d_Mo_accept_11 (by decide) ?_
    refine zq_sub (lo' := [(0, .ref a0), (1, .int v1), (2, .int v2), (3, .int v3)]) [0, 1, 2, 3] rfl ?_
    show zq_W _ _ 30 _ [.int (1 : Int32), va_rf (some a0)] _ _ _
    exact r_Mo_accept_30 hl Z  hf
theorem d_Mo_reject_0 : decode b_Mo_reject 0 = .ok (.aload_n 0, 1) := by decide +kernel
theorem d_Mo_reject_1 : decode b_Mo_reject 1 = .ok (.aload_n 0, 1) := by decide +kernel
theorem d_Mo_reject_2 : decode b_Mo_reject 2 = .ok (.iload_n 1, 1) := by decide +kernel
theorem d_Mo_reject_3 : decode b_Mo_reject 3 = .ok (.iload_n 2, 1) := by decide +kernel
theorem d_Mo_reject_4 : decode b_Mo_reject 4 = .ok (.invokevirtual 151, 3) := by decide +kernel
theorem d_Mo_reject_7 : decode b_Mo_reject 7 = .ok (.ifCond .ne 7, 3) := by decide +kernel
theorem d_Mo_reject_10 : decode b_Mo_reject 10 = .ok (.iconst 1, 1) := by decide +kernel
theorem d_Mo_reject_11 : decode b_Mo_reject 11 = .ok (.goto 19, 3) := by decide +kernel
theorem d_Mo_reject_14 : decode b_Mo_reject 14 = .ok (.iload_n 3, 1) := by decide +kernel
theorem d_Mo_reject_15 : decode b_Mo_reject 15 = .ok (.iconst 1, 1) := by decide +kernel
theorem d_Mo_reject_16 : decode b_Mo_reject 16 = .ok (.sipush 255, 3) := by decide +kernel
theorem d_Mo_reject_19 : decode b_Mo_reject 19 = .ok (.invokestatic 43, 3) := by decide +kernel
theorem d_Mo_reject_22 : decode b_Mo_reject 22 = .ok (.ifCond .ne 7, 3) := by decide +kernel
theorem d_Mo_reject_25 : decode b_Mo_reject 25 = .ok (.iconst 2, 1) := by decide +kernel
theorem d_Mo_reject_26 : decode b_Mo_reject 26 = .ok (.goto 4, 3) := by decide +kernel
theorem d_Mo_reject_29 : decode b_Mo_reject 29 = .ok (.iconst 0, 1) := by decide +kernel
theorem d_Mo_reject_30 : decode b_Mo_reject 30 = .ok (.putfield 35, 3) := by decide +kernel
theorem d_Mo_reject_33 : decode b_Mo_reject 33 = .ok (.aload_n 0, 1) := by decide +kernel
theorem d_Mo_reject_34 : decode b_Mo_reject 34 = .ok (.getfield 35, 3) := by decide +kernel
theorem d_Mo_reject_37 : decode b_Mo_reject 37 = .ok (.ifCond .le 7, 3) := by decide +kernel
theorem d_Mo_reject_40 : decode b_Mo_reject 40 = .ok (.iconst 0, 1) := by decide +kernel
theorem d_Mo_reject_41 : decode b_Mo_reject 41 = .ok (.goto 12, 3) := by decide +kernel
theorem d_Mo_reject_44 : decode b_Mo_reject 44 = .ok (.aload_n 0, 1) := by decide +kernel
theorem d_Mo_reject_45 : decode b_Mo_reject 45 = .ok (.iconst 4, 1) := by decide +kernel
theorem d_Mo_reject_46 : decode b_Mo_reject 46 = .ok (.iload_n 3, 1) := by decide +kernel
theorem d_Mo_reject_47 : decode b_Mo_reject 47 = .ok (.iload_n 1, 1) := by decide +kernel
theorem d_Mo_reject_48 : decode b_Mo_reject 48 = .ok (.iload_n 2, 1) := by decide +kernel
theorem d_Mo_reject_49 : decode b_Mo_reject 49 = .ok (.lconst 0, 1) := by decide +kernel
theorem d_Mo_reject_50 : decode b_Mo_reject 50 = .ok (.invokevirtual 147, 3) := by decide +kernel
theorem d_Mo_reject_53 : decode b_Mo_reject 53 = .ok (.ireturn, 1) := by decide +kernel
def f_Mo_reject_53  (s0 : Int32) (S : zq_S) : Option (zq_S × Int32) :=
  some (S, s0)
def f_Mo_reject_30  (a0 : Nat) (v1 : Int32) (v2 : Int32) (v3 : Int32) (s0 : Option Nat) (s1 : Int32) (S : zq_S) : Option (zq_S × Int32) :=
  (s0).bind fun a1 =>
  (zs_p S a1 4 0 (.int s1)).bind fun S3 =>
  (zs_gi S3 a0 4 0).bind fun x5 =>
  if x5 ≤ 0 then
    if zs_is S3 a0 4 = true then
    zs_b (f_Mo_edit a0 (4 : Int32) v3 v1 v2 (0 : Int64) S3) fun S8 x9 =>
    f_Mo_reject_53  x9 S8
    else none
  else
    f_Mo_reject_53  (0 : Int32) S3
def f_Mo_reject (a0 : Nat) (v1 : Int32) (v2 : Int32) (v3 : Int32) (S : zq_S) : Option (zq_S × Int32) :=
  if zs_is S a0 4 = true then
  zs_b (f_Mo_isRange a0 v1 v2 S) fun S2 x3 =>
  if x3 = 0 then
    f_Mo_reject_30  a0 v1 v2 v3 (some a0) (1 : Int32) S2
  else
    zs_b (f_Mo_in v3 (1 : Int32) (255 : Int32) S2) fun S8 x9 =>
    if x9 = 0 then
      f_Mo_reject_30  a0 v1 v2 v3 (some a0) (2 : Int32) S8
    else
      f_Mo_reject_30  a0 v1 v2 v3 (some a0) (0 : Int32) S8
  else none
set_option maxHeartbeats 4000000 in
set_option maxRecDepth 100000 in
theorem r_Mo_reject_53 {l : Launch} (hl : l.stackTraces = false) {G : zq_G} {S0 T : zq_S} {v : Int32} {X : zq_X} (Z : Z_Mo_reject l G S0 T v X) {s0 : Int32} {S : zq_S} (hf : f_Mo_reject_53  s0 S = some (T, v)) : zq_W (Y_Mo_reject l G S0 T v) X 53 [] [.int s0] S 0 0 := by
  unfold f_Mo_reject_53 at hf
  exact zq_iret Z d_Mo_reject_53 (zs_1 hf) (zs_2 (fun z => (.inl (some (.int z)) : zq_R)) hf) ⟨(Nat.le_of_ble_eq_true rfl), (Nat.le_of_ble_eq_true rfl)⟩
set_option maxHeartbeats 4000000 in
set_option maxRecDepth 100000 in
theorem r_Mo_reject_30 {l : Launch} (hl : l.stackTraces = false) {G : zq_G} {S0 T : zq_S} {v : Int32} {X : zq_X} (Z : Z_Mo_reject l G S0 T v X) {a0 : Nat} {v1 : Int32} {v2 : Int32} {v3 : Int32} {s0 : Option Nat} {s1 : Int32} {S : zq_S} (hf : f_Mo_reject_30  a0 v1 v2 v3 s0 s1 S = some (T, v)) : zq_W (Y_Mo_reject l G S0 T v) X 30 [(0, .ref a0), (1, .int v1), (2, .int v2), (3, .int v3)] [.int s1, va_rf s0] S 0 0 := by
  unfold f_Mo_reject_30 at hf
  have hq := Option.bind_eq_some_iff.mp hf
  clear hf
  obtain ⟨a1, h2, hf⟩ := hq
  subst h2
  have hq := Option.bind_eq_some_iff.mp hf
  clear hf
  obtain ⟨S3, h4, hf⟩ := hq
  refine zr_puti Z cd_Mo 0 d_Mo_reject_30 (by decide) m_279 rfl (by decide +kernel) h4 ?_
  refine zq_aload_n Z d_Mo_reject_33 0 rfl ?_
  have hq := Option.bind_eq_some_iff.mp hf
  clear hf
  obtain ⟨x5, h6, hf⟩ := hq
  refine zr_geti Z cd_Mo 0 d_Mo_reject_34 (by decide) m_279 h6 ?_
  refine zq_if_le Z 44 d_Mo_reject_37 (by decide) (fun q => ?_) (fun q => ?_)
  · replace hf := zs_T q hf
    refine zq_aload_n Z d_Mo_reject_44 0 rfl ?_
    refine zq_iconst Z (4 : Int32) d_Mo_reject_45 (by decide) ?_
    refine zq_iload_n Z d_Mo_reject_46 3 rfl ?_
    refine zq_iload_n Z d_Mo_reject_47 1 rfl ?_
    refine zq_iload_n Z d_Mo_reject_48 2 rfl ?_
    refine zq_lconst Z (0 : Int64) d_Mo_reject_49 (by decide) ?_
    have hq := zs_C hf
    clear hf
    obtain ⟨h10, hf⟩ := hq
    obtain ⟨fs11, e12⟩ := zs_isS h10
    have hq := zs_bS hf
    clear hf
    obtain ⟨S8, x9, h7, hf⟩ := hq
    refine zq_contR (zq_stepV Z zq_cf1 (c_Mo_edit hl h7) 4 rfl e12 d_Mo_reject_50 m_361 m_363 m_364 m_362 m_286 p_Mo_edit ⟨(Nat.le_of_ble_eq_true rfl), (Nat.le_of_ble_eq_true rfl), (Nat.le_of_ble_eq_true rfl), (Nat.le_of_ble_eq_true rfl)⟩ rfl (Nat.le_of_ble_eq_true rfl)) Z.p ?_
    refine zq_sub (lo' := []) [] rfl ?_
    exact r_Mo_reject_53 hl Z  hf
  · replace hf := zs_N q hf
    refine zq_iconst Z (0 : Int32) d_Mo_reject_40 (by decide) ?_
    refine zq_goto Z 53 d_Mo_reject_41 (by decide) ?_
    refine zq_sub (lo' := []) [] rfl ?_
    exact r_Mo_reject_53 hl Z  hf
set_option maxHeartbeats 4000000 in
set_option maxRecDepth 100000 in
theorem c_Mo_reject {l : Launch} (hl : l.stackTraces = false) {G : zq_G} {a0 : Nat} {v1 : Int32} {v2 : Int32} {v3 : Int32} {S0 T : zq_S} {v : Int32} (hf : f_Mo_reject a0 v1 v2 v3 S0 = some (T, v)) : zq_M l y_Mo_reject (.code y_Mo_reject b_Mo_reject 4 (some (.int))) rm_Mo_reject G [.ref a0, .int v1, .int v2, .int v3] S0 ((.inl (some (.int v)) : zq_R)) T := by
  refine zq_Mof (lo := [(0, .ref a0), (1, .int v1), (2, .int v2), (3, .int v3)]) hl (by decide) (Nat.le_of_ble_eq_true rfl) rfl (fun X Z => ?_)
  have Z : Z_Mo_reject l G S0 T v X := Z
  show zq_W (Y_Mo_reject l G S0 T v) X 0 [(0, .ref a0), (1, .int v1), (2, .int v2), (3, .int v3)] [] S0 0 0
  unfold f_Mo_reject at hf
  refine zq_aload_n Z d_Mo_reject_0 0 rfl ?_
  refine zq_aload_n Z d_Mo_reject_1 0 rfl ?_
  refine zq_iload_n Z d_Mo_reject_2 1 rfl ?_
  refine zq_iload_n Z d_Mo_reject_3 2 rfl ?_
  have hq := zs_C hf
  clear hf
  obtain ⟨h4, hf⟩ := hq
  obtain ⟨fs5, e6⟩ := zs_isS h4
  have hq := zs_bS hf
  clear hf
  obtain ⟨S2, x3, h1, hf⟩ := hq
  refine zq_contR (zq_stepV Z zq_cf1 (c_Mo_isRange hl h1) 4 rfl e6 d_Mo_reject_4 m_369 m_371 m_372 m_370 m_286 p_Mo_isRange ⟨(Nat.le_of_ble_eq_true rfl), (Nat.le_of_ble_eq_true rfl), (Nat.le_of_ble_eq_true rfl), (Nat.le_of_ble_eq_true rfl)⟩ rfl (Nat.le_of_ble_eq_true rfl)) Z.p ?_
  refine zq_if_ne Z 14 d_Mo_reject_7 (by decide) (fun q => ?_) (fun q => ?_)
  · replace hf := zs_N q hf
    refine zq_iload_n Z d_Mo_reject_14 3 rfl ?_
    refine zq_iconst Z (1 : Int32) d_Mo_reject_15 (by decide) ?_
    refine zq_sipush Z (255 : Int32) d_Mo_reject_16 (by decide) ?_
    have hq := zs_bS hf
    clear hf
    obtain ⟨S8, x9, h7, hf⟩ := hq
    refine zq_contR (zq_stepS Z zq_cf1 (c_Mo_in hl h7) d_Mo_reject_19 m_283 m_284 m_285 m_286 p_Mo_in ⟨(Nat.le_of_ble_eq_true rfl), (Nat.le_of_ble_eq_true rfl), (Nat.le_of_ble_eq_true rfl), (Nat.le_of_ble_eq_true rfl)⟩ rfl (Nat.le_of_ble_eq_true rfl)) Z.p ?_
    refine zq_if_ne Z 29 d_Mo_reject_22 (by decide) (fun q => ?_) (fun q => ?_)
    · replace hf := zs_N q hf
      refine zq_iconst Z (0 : Int32) d_Mo_reject_29 (by decide) ?_
      refine zq_sub (lo' := [(0, .ref a0), (1, .int v1), (2, .int v2), (3, .int v3)]) [0, 1, 2, 3] rfl ?_
      show zq_W _ _ 30 _ [.int (0 : Int32), va_rf (some a0)] _ _ _
      exact r_Mo_reject_30 hl Z  hf
    · replace hf := zs_T q hf
      refine zq_iconst Z (2 : Int32) d_Mo_reject_25 (by decide) ?_
      refine zq_goto Z 30 d_Mo_reject_26 (by decide) ?_
      refine zq_sub (lo' := [(0, .ref a0), (1, .int v1), (2, .int v2), (3, .int v3)]) [0, 1, 2, 3] rfl ?_
      show zq_W _ _ 30 _ [.int (2 : Int32), va_rf (some a0)] _ _ _
      exact r_Mo_reject_30 hl Z  hf
  · replace hf := zs_T q hf
    refine zq_iconst Z (1 : Int32) d_Mo_reject_10 (by decide) ?_
    refine zq_goto Z 30 d_Mo_reject_11 (by decide) ?_
    refine zq_sub (lo' := [(0, .ref a0), (1, .int v1), (2, .int v2), (3, .int v3)]) [0, 1, 2, 3] rfl ?_
    show zq_W _ _ 30 _ [.int (1 : Int32), va_rf (some a0)] _ _ _
    exact r_Mo_reject_30 hl Z  hf
theorem d_Mo_open_0 : decode b_Mo_open 0 = .ok (.aload_n 0, 1) := by decide +kernel
theorem d_Mo_open_1 : decode b_Mo_open 1 = .ok (.aload_n 0, 1) := by decide +kernel
theorem d_Mo_open_2 : decode b_Mo_open 2 = .ok (.getfield 130, 3) := by decide +kernel
theorem d_Mo_open_5 : decode b_Mo_open 5 = .ok (.ifCond .eq 7, 3) := by decide +kernel
theorem d_Mo_open_8 : decode b_Mo_open 8 = .ok (.iconst 1, 1) := by decide +kernel
theorem d_Mo_open_9 : decode b_Mo_open 9 = .ok (.goto 4, 3) := by decide +kernel
theorem d_Mo_open_12 : decode b_Mo_open 12 = .ok (.iconst 0, 1) := by decide +kernel
theorem d_Mo_open_13 : decode b_Mo_open 13 = .ok (.putfield 35, 3) := by decide +kernel
theorem d_Mo_open_16 : decode b_Mo_open 16 = .ok (.aload_n 0, 1) := by decide +kernel
theorem d_Mo_open_17 : decode b_Mo_open 17 = .ok (.getfield 35, 3) := by decide +kernel
theorem d_Mo_open_20 : decode b_Mo_open 20 = .ok (.ifCond .le 4, 3) := by decide +kernel
theorem d_Mo_open_23 : decode b_Mo_open 23 = .ok (.return_, 1) := by decide +kernel
theorem d_Mo_open_24 : decode b_Mo_open 24 = .ok (.aload_n 0, 1) := by decide +kernel
theorem d_Mo_open_25 : decode b_Mo_open 25 = .ok (.iconst 1, 1) := by decide +kernel
theorem d_Mo_open_26 : decode b_Mo_open 26 = .ok (.putfield 130, 3) := by decide +kernel
theorem d_Mo_open_29 : decode b_Mo_open 29 = .ok (.aload_n 0, 1) := by decide +kernel
theorem d_Mo_open_30 : decode b_Mo_open 30 = .ok (.iconst 0, 1) := by decide +kernel
theorem d_Mo_open_31 : decode b_Mo_open 31 = .ok (.putfield 106, 3) := by decide +kernel
theorem d_Mo_open_34 : decode b_Mo_open 34 = .ok (.aload_n 0, 1) := by decide +kernel
theorem d_Mo_open_35 : decode b_Mo_open 35 = .ok (.iconst 0, 1) := by decide +kernel
theorem d_Mo_open_36 : decode b_Mo_open 36 = .ok (.putfield 109, 3) := by decide +kernel
theorem d_Mo_open_39 : decode b_Mo_open 39 = .ok (.return_, 1) := by decide +kernel
def f_Mo_open_13  (a0 : Nat) (s0 : Option Nat) (s1 : Int32) (S : zq_S) : Option (zq_S × Unit) :=
  (s0).bind fun a1 =>
  (zs_p S a1 4 0 (.int s1)).bind fun S3 =>
  (zs_gi S3 a0 4 0).bind fun x5 =>
  if x5 ≤ 0 then
    (zs_pz S3 a0 4 17 (1 : Int32)).bind fun S7 =>
    (zs_p S7 a0 4 18 (.int (0 : Int32))).bind fun S9 =>
    (zs_p S9 a0 4 19 (.int (0 : Int32))).bind fun S11 =>
    some (S11, ())
  else
    some (S3, ())
def f_Mo_open (a0 : Nat) (S : zq_S) : Option (zq_S × Unit) :=
  (zs_gi S a0 4 17).bind fun x1 =>
  if x1 = 0 then
    f_Mo_open_13  a0 (some a0) (0 : Int32) S
  else
    f_Mo_open_13  a0 (some a0) (1 : Int32) S
set_option maxHeartbeats 4000000 in
set_option maxRecDepth 100000 in
theorem r_Mo_open_13 {l : Launch} (hl : l.stackTraces = false) {G : zq_G} {S0 T : zq_S} {v : Unit} {X : zq_X} (Z : Z_Mo_open l G S0 T v X) {a0 : Nat} {s0 : Option Nat} {s1 : Int32} {S : zq_S} (hf : f_Mo_open_13  a0 s0 s1 S = some (T, v)) : zq_W (Y_Mo_open l G S0 T v) X 13 [(0, .ref a0)] [.int s1, va_rf s0] S 0 0 := by
  unfold f_Mo_open_13 at hf
  have hq := Option.bind_eq_some_iff.mp hf
  clear hf
  obtain ⟨a1, h2, hf⟩ := hq
  subst h2
  have hq := Option.bind_eq_some_iff.mp hf
  clear hf
  obtain ⟨S3, h4, hf⟩ := hq
  refine zr_puti Z cd_Mo 0 d_Mo_open_13 (by decide) m_279 rfl (by decide +kernel) h4 ?_
  refine zq_aload_n Z d_Mo_open_16 0 rfl ?_
  have hq := Option.bind_eq_some_iff.mp hf
  clear hf
  obtain ⟨x5, h6, hf⟩ := hq
  refine zr_geti Z cd_Mo 0 d_Mo_open_17 (by decide) m_279 h6 ?_
  refine zq_if_le Z 24 d_Mo_open_20 (by decide) (fun q => ?_) (fun q => ?_)
  · replace hf := zs_T q hf
    refine zq_aload_n Z d_Mo_open_24 0 rfl ?_
    refine zq_iconst Z (1 : Int32) d_Mo_open_25 (by decide) ?_
    have hq := Option.bind_eq_some_iff.mp hf
    clear hf
    obtain ⟨S7, h8, hf⟩ := hq
    refine zr_putz Z cd_Mo 17 d_Mo_open_26 (by decide) m_341 rfl (by decide +kernel) h8 ?_
    refine zq_aload_n Z d_Mo_open_29 0 rfl ?_
    refine zq_iconst Z (0 : Int32) d_Mo_open_30 (by decide) ?_
    have hq := Option.bind_eq_some_iff.mp hf
    clear hf
    obtain ⟨S9, h10, hf⟩ := hq
    refine zr_puti Z cd_Mo 18 d_Mo_open_31 (by decide) m_335 rfl (by decide +kernel) h10 ?_
    refine zq_aload_n Z d_Mo_open_34 0 rfl ?_
    refine zq_iconst Z (0 : Int32) d_Mo_open_35 (by decide) ?_
    have hq := Option.bind_eq_some_iff.mp hf
    clear hf
    obtain ⟨S11, h12, hf⟩ := hq
    refine zr_puti Z cd_Mo 19 d_Mo_open_36 (by decide) m_336 rfl (by decide +kernel) h12 ?_
    exact zq_vret Z d_Mo_open_39 (zs_1 hf) (zs_2 (fun _ => (.inl none : zq_R)) hf) ⟨(Nat.le_of_ble_eq_true rfl), (Nat.le_of_ble_eq_true rfl)⟩
  · replace hf := zs_N q hf
    exact zq_vret Z d_Mo_open_23 (zs_1 hf) (zs_2 (fun _ => (.inl none : zq_R)) hf) ⟨(Nat.le_of_ble_eq_true rfl), (Nat.le_of_ble_eq_true rfl)⟩
set_option maxHeartbeats 4000000 in
set_option maxRecDepth 100000 in
theorem c_Mo_open {l : Launch} (hl : l.stackTraces = false) {G : zq_G} {a0 : Nat} {S0 T : zq_S} {v : Unit} (hf : f_Mo_open a0 S0 = some (T, v)) : zq_M l y_Mo_open (.code y_Mo_open b_Mo_open 1 none) rm_Mo_open G [.ref a0] S0 ((.inl none : zq_R)) T := by
  refine zq_Mof (lo := [(0, .ref a0)]) hl (by decide) (Nat.le_of_ble_eq_true rfl) rfl (fun X Z => ?_)
  have Z : Z_Mo_open l G S0 T v X := Z
  show zq_W (Y_Mo_open l G S0 T v) X 0 [(0, .ref a0)] [] S0 0 0
  unfold f_Mo_open at hf
  refine zq_aload_n Z d_Mo_open_0 0 rfl ?_
  refine zq_aload_n Z d_Mo_open_1 0 rfl ?_
  have hq := Option.bind_eq_some_iff.mp hf
  clear hf
  obtain ⟨x1, h2, hf⟩ := hq
  refine zr_geti Z cd_Mo 17 d_Mo_open_2 (by decide) m_341 h2 ?_
  refine zq_if_eq Z 12 d_Mo_open_5 (by decide) (fun q => ?_) (fun q => ?_)
  · replace hf := zs_T q hf
    refine zq_iconst Z (0 : Int32) d_Mo_open_12 (by decide) ?_
    refine zq_sub (lo' := [(0, .ref a0)]) [0] rfl ?_
    show zq_W _ _ 13 _ [.int (0 : Int32), va_rf (some a0)] _ _ _
    exact r_Mo_open_13 hl Z  hf
  · replace hf := zs_N q hf
    refine zq_iconst Z (1 : Int32) d_Mo_open_8 (by decide) ?_
    refine zq_goto Z 13 d_Mo_open_9 (by decide) ?_
    refine zq_sub (lo' := [(0, .ref a0)]) [0] rfl ?_
    show zq_W _ _ 13 _ [.int (1 : Int32), va_rf (some a0)] _ _ _
    exact r_Mo_open_13 hl Z  hf
theorem d_Mo_close_0 : decode b_Mo_close 0 = .ok (.aload_n 0, 1) := by decide +kernel
theorem d_Mo_close_1 : decode b_Mo_close 1 = .ok (.aload_n 0, 1) := by decide +kernel
theorem d_Mo_close_2 : decode b_Mo_close 2 = .ok (.getfield 130, 3) := by decide +kernel
theorem d_Mo_close_5 : decode b_Mo_close 5 = .ok (.ifCond .eq 7, 3) := by decide +kernel
theorem d_Mo_close_8 : decode b_Mo_close 8 = .ok (.iconst 0, 1) := by decide +kernel
theorem d_Mo_close_9 : decode b_Mo_close 9 = .ok (.goto 4, 3) := by decide +kernel
theorem d_Mo_close_12 : decode b_Mo_close 12 = .ok (.iconst 1, 1) := by decide +kernel
theorem d_Mo_close_13 : decode b_Mo_close 13 = .ok (.putfield 35, 3) := by decide +kernel
theorem d_Mo_close_16 : decode b_Mo_close 16 = .ok (.aload_n 0, 1) := by decide +kernel
theorem d_Mo_close_17 : decode b_Mo_close 17 = .ok (.getfield 35, 3) := by decide +kernel
theorem d_Mo_close_20 : decode b_Mo_close 20 = .ok (.ifCond .le 5, 3) := by decide +kernel
theorem d_Mo_close_23 : decode b_Mo_close 23 = .ok (.iconst 0, 1) := by decide +kernel
theorem d_Mo_close_24 : decode b_Mo_close 24 = .ok (.ireturn, 1) := by decide +kernel
theorem d_Mo_close_25 : decode b_Mo_close 25 = .ok (.aload_n 0, 1) := by decide +kernel
theorem d_Mo_close_26 : decode b_Mo_close 26 = .ok (.iconst 0, 1) := by decide +kernel
theorem d_Mo_close_27 : decode b_Mo_close 27 = .ok (.putfield 130, 3) := by decide +kernel
theorem d_Mo_close_30 : decode b_Mo_close 30 = .ok (.aload_n 0, 1) := by decide +kernel
theorem d_Mo_close_31 : decode b_Mo_close 31 = .ok (.invokevirtual 137, 3) := by decide +kernel
theorem d_Mo_close_34 : decode b_Mo_close 34 = .ok (.aload_n 0, 1) := by decide +kernel
theorem d_Mo_close_35 : decode b_Mo_close 35 = .ok (.getfield 106, 3) := by decide +kernel
theorem d_Mo_close_38 : decode b_Mo_close 38 = .ok (.ireturn, 1) := by decide +kernel
def f_Mo_close_13  (a0 : Nat) (s0 : Option Nat) (s1 : Int32) (S : zq_S) : Option (zq_S × Int32) :=
  (s0).bind fun a1 =>
  (zs_p S a1 4 0 (.int s1)).bind fun S3 =>
  (zs_gi S3 a0 4 0).bind fun x5 =>
  if x5 ≤ 0 then
    (zs_pz S3 a0 4 17 (0 : Int32)).bind fun S7 =>
    if zs_is S7 a0 4 = true then
    zs_b (f_Mo_endGroup a0 S7) fun S10 _ =>
    (zs_gi S10 a0 4 18).bind fun x15 =>
    some (S10, x15)
    else none
  else
    some (S3, (0 : Int32))
def f_Mo_close (a0 : Nat) (S : zq_S) : Option (zq_S × Int32) :=
  (zs_gi S a0 4 17).bind fun x1 =>
  if x1 = 0 then
    f_Mo_close_13  a0 (some a0) (1 : Int32) S
  else
    f_Mo_close_13  a0 (some a0) (0 : Int32) S
set_option maxHeartbeats 4000000 in
set_option maxRecDepth 100000 in
theorem r_Mo_close_13 {l : Launch} (hl : l.stackTraces = false) {G : zq_G} {S0 T : zq_S} {v : Int32} {X : zq_X} (Z : Z_Mo_close l G S0 T v X) {a0 : Nat} {s0 : Option Nat} {s1 : Int32} {S : zq_S} (hf : f_Mo_close_13  a0 s0 s1 S = some (T, v)) : zq_W (Y_Mo_close l G S0 T v) X 13 [(0, .ref a0)] [.int s1, va_rf s0] S 0 0 := by
  unfold f_Mo_close_13 at hf
  have hq := Option.bind_eq_some_iff.mp hf
  clear hf
  obtain ⟨a1, h2, hf⟩ := hq
  subst h2
  have hq := Option.bind_eq_some_iff.mp hf
  clear hf
  obtain ⟨S3, h4, hf⟩ := hq
  refine zr_puti Z cd_Mo 0 d_Mo_close_13 (by decide) m_279 rfl (by decide +kernel) h4 ?_
  refine zq_aload_n Z d_Mo_close_16 0 rfl ?_
  have hq := Option.bind_eq_some_iff.mp hf
  clear hf
  obtain ⟨x5, h6, hf⟩ := hq
  refine zr_geti Z cd_Mo 0 d_Mo_close_17 (by decide) m_279 h6 ?_
  refine zq_if_le Z 25 d_Mo_close_20 (by decide) (fun q => ?_) (fun q => ?_)
  · replace hf := zs_T q hf
    refine zq_aload_n Z d_Mo_close_25 0 rfl ?_
    refine zq_iconst Z (0 : Int32) d_Mo_close_26 (by decide) ?_
    have hq := Option.bind_eq_some_iff.mp hf
    clear hf
    obtain ⟨S7, h8, hf⟩ := hq
    refine zr_putz Z cd_Mo 17 d_Mo_close_27 (by decide) m_341 rfl (by decide +kernel) h8 ?_
    refine zq_aload_n Z d_Mo_close_30 0 rfl ?_
    have hq := zs_C hf
    clear hf
    obtain ⟨h12, hf⟩ := hq
    obtain ⟨fs13, e14⟩ := zs_isS h12
    have hq := zs_bS hf
    clear hf
    obtain ⟨S10, x11, h9, hf⟩ := hq
    refine zq_contR (zq_stepV Z zq_cf1 (c_Mo_endGroup hl h9) 4 rfl e14 d_Mo_close_31 m_342 m_344 m_345 m_343 m_286 p_Mo_endGroup ⟨(Nat.le_of_ble_eq_true rfl), (Nat.le_of_ble_eq_true rfl), (Nat.le_of_ble_eq_true rfl), (Nat.le_of_ble_eq_true rfl)⟩ rfl (Nat.le_of_ble_eq_true rfl)) Z.p ?_
    refine zq_aload_n Z d_Mo_close_34 0 rfl ?_
    have hq := Option.bind_eq_some_iff.mp hf
    clear hf
    obtain ⟨x15, h16, hf⟩ := hq
    refine zr_geti Z cd_Mo 18 d_Mo_close_35 (by decide) m_335 h16 ?_
    exact zq_iret Z d_Mo_close_38 (zs_1 hf) (zs_2 (fun z => (.inl (some (.int z)) : zq_R)) hf) ⟨(Nat.le_of_ble_eq_true rfl), (Nat.le_of_ble_eq_true rfl)⟩
  · replace hf := zs_N q hf
    refine zq_iconst Z (0 : Int32) d_Mo_close_23 (by decide) ?_
    exact zq_iret Z d_Mo_close_24 (zs_1 hf) (zs_2 (fun z => (.inl (some (.int z)) : zq_R)) hf) ⟨(Nat.le_of_ble_eq_true rfl), (Nat.le_of_ble_eq_true rfl)⟩
set_option maxHeartbeats 4000000 in
set_option maxRecDepth 100000 in
theorem c_Mo_close {l : Launch} (hl : l.stackTraces = false) {G : zq_G} {a0 : Nat} {S0 T : zq_S} {v : Int32} (hf : f_Mo_close a0 S0 = some (T, v)) : zq_M l y_Mo_close (.code y_Mo_close b_Mo_close 1 (some (.int))) rm_Mo_close G [.ref a0] S0 ((.inl (some (.int v)) : zq_R)) T := by
  refine zq_Mof (lo := [(0, .ref a0)]) hl (by decide) (Nat.le_of_ble_eq_true rfl) rfl (fun X Z => ?_)
  have Z : Z_Mo_close l G S0 T v X := Z
  show zq_W (Y_Mo_close l G S0 T v) X 0 [(0, .ref a0)] [] S0 0 0
  unfold f_Mo_close at hf
  refine zq_aload_n Z d_Mo_close_0 0 rfl ?_
  refine zq_aload_n Z d_Mo_close_1 0 rfl ?_
  have hq := Option.bind_eq_some_iff.mp hf
  clear hf
  obtain ⟨x1, h2, hf⟩ := hq
  refine zr_geti Z cd_Mo 17 d_Mo_close_2 (by decide) m_341 h2 ?_
  refine zq_if_eq Z 12 d_Mo_close_5 (by decide) (fun q => ?_) (fun q => ?_)
  · replace hf := zs_T q hf
    refine zq_iconst Z (1 : Int32) d_Mo_close_12 (by decide) ?_
    refine zq_sub (lo' := [(0, .ref a0)]) [0] rfl ?_
    show zq_W _ _ 13 _ [.int (1 : Int32), va_rf (some a0)] _ _ _
    exact r_Mo_close_13 hl Z  hf
  · replace hf := zs_N q hf
    refine zq_iconst Z (0 : Int32) d_Mo_close_8 (by decide) ?_
    refine zq_goto Z 13 d_Mo_close_9 (by decide) ?_
    refine zq_sub (lo' := [(0, .ref a0)]) [0] rfl ?_
    show zq_W _ _ 13 _ [.int (0 : Int32), va_rf (some a0)] _ _ _
    exact r_Mo_close_13 hl Z  hf
theorem d_Mo_undo_0 : decode b_Mo_undo 0 = .ok (.aload_n 0, 1) := by decide +kernel
theorem d_Mo_undo_1 : decode b_Mo_undo 1 = .ok (.aload_n 0, 1) := by decide +kernel
theorem d_Mo_undo_2 : decode b_Mo_undo 2 = .ok (.getfield 130, 3) := by decide +kernel
theorem d_Mo_undo_5 : decode b_Mo_undo 5 = .ok (.ifCond .ne 10, 3) := by decide +kernel
theorem d_Mo_undo_8 : decode b_Mo_undo 8 = .ok (.aload_n 0, 1) := by decide +kernel
theorem d_Mo_undo_9 : decode b_Mo_undo 9 = .ok (.getfield 84, 3) := by decide +kernel
theorem d_Mo_undo_12 : decode b_Mo_undo 12 = .ok (.ifCond .ne 7, 3) := by decide +kernel
theorem d_Mo_undo_15 : decode b_Mo_undo 15 = .ok (.iconst 1, 1) := by decide +kernel
theorem d_Mo_undo_16 : decode b_Mo_undo 16 = .ok (.goto 4, 3) := by decide +kernel
theorem d_Mo_undo_19 : decode b_Mo_undo 19 = .ok (.iconst 0, 1) := by decide +kernel
theorem d_Mo_undo_20 : decode b_Mo_undo 20 = .ok (.putfield 35, 3) := by decide +kernel
theorem d_Mo_undo_23 : decode b_Mo_undo 23 = .ok (.aload_n 0, 1) := by decide +kernel
theorem d_Mo_undo_24 : decode b_Mo_undo 24 = .ok (.getfield 35, 3) := by decide +kernel
theorem d_Mo_undo_27 : decode b_Mo_undo 27 = .ok (.ifCond .le 5, 3) := by decide +kernel
theorem d_Mo_undo_30 : decode b_Mo_undo 30 = .ok (.iconst 0, 1) := by decide +kernel
theorem d_Mo_undo_31 : decode b_Mo_undo 31 = .ok (.ireturn, 1) := by decide +kernel
theorem d_Mo_undo_32 : decode b_Mo_undo 32 = .ok (.aload_n 0, 1) := by decide +kernel
theorem d_Mo_undo_33 : decode b_Mo_undo 33 = .ok (.dup, 1) := by decide +kernel
theorem d_Mo_undo_34 : decode b_Mo_undo 34 = .ok (.getfield 84, 3) := by decide +kernel
theorem d_Mo_undo_37 : decode b_Mo_undo 37 = .ok (.iconst 1, 1) := by decide +kernel
theorem d_Mo_undo_38 : decode b_Mo_undo 38 = .ok (.isub, 1) := by decide +kernel
theorem d_Mo_undo_39 : decode b_Mo_undo 39 = .ok (.putfield 84, 3) := by decide +kernel
theorem d_Mo_undo_42 : decode b_Mo_undo 42 = .ok (.aload_n 0, 1) := by decide +kernel
theorem d_Mo_undo_43 : decode b_Mo_undo 43 = .ok (.invokevirtual 99, 3) := by decide +kernel
theorem d_Mo_undo_46 : decode b_Mo_undo 46 = .ok (.aload_n 0, 1) := by decide +kernel
theorem d_Mo_undo_47 : decode b_Mo_undo 47 = .ok (.aload_n 0, 1) := by decide +kernel
theorem d_Mo_undo_48 : decode b_Mo_undo 48 = .ok (.aload_n 0, 1) := by decide +kernel
theorem d_Mo_undo_49 : decode b_Mo_undo 49 = .ok (.getfield 84, 3) := by decide +kernel
theorem d_Mo_undo_52 : decode b_Mo_undo 52 = .ok (.invokevirtual 133, 3) := by decide +kernel
theorem d_Mo_undo_55 : decode b_Mo_undo 55 = .ok (.putfield 90, 3) := by decide +kernel
theorem d_Mo_undo_58 : decode b_Mo_undo 58 = .ok (.iconst 0, 1) := by decide +kernel
theorem d_Mo_undo_59 : decode b_Mo_undo 59 = .ok (.istore_n 1, 1) := by decide +kernel
theorem d_Mo_undo_60 : decode b_Mo_undo 60 = .ok (.iconst 0, 1) := by decide +kernel
theorem d_Mo_undo_61 : decode b_Mo_undo 61 = .ok (.istore_n 2, 1) := by decide +kernel
theorem d_Mo_undo_62 : decode b_Mo_undo 62 = .ok (.iload_n 2, 1) := by decide +kernel
theorem d_Mo_undo_63 : decode b_Mo_undo 63 = .ok (.aload_n 0, 1) := by decide +kernel
theorem d_Mo_undo_64 : decode b_Mo_undo 64 = .ok (.getfield 90, 3) := by decide +kernel
theorem d_Mo_undo_67 : decode b_Mo_undo 67 = .ok (.if_icmp .ge 26, 3) := by decide +kernel
theorem d_Mo_undo_70 : decode b_Mo_undo 70 = .ok (.aload_n 0, 1) := by decide +kernel
theorem d_Mo_undo_71 : decode b_Mo_undo 71 = .ok (.aload_n 0, 1) := by decide +kernel
theorem d_Mo_undo_72 : decode b_Mo_undo 72 = .ok (.getfield 19, 3) := by decide +kernel
theorem d_Mo_undo_75 : decode b_Mo_undo 75 = .ok (.iload_n 2, 1) := by decide +kernel
theorem d_Mo_undo_76 : decode b_Mo_undo 76 = .ok (.laload, 1) := by decide +kernel
theorem d_Mo_undo_77 : decode b_Mo_undo 77 = .ok (.aload_n 0, 1) := by decide +kernel
theorem d_Mo_undo_78 : decode b_Mo_undo 78 = .ok (.getfield 22, 3) := by decide +kernel
theorem d_Mo_undo_81 : decode b_Mo_undo 81 = .ok (.iload_n 2, 1) := by decide +kernel
theorem d_Mo_undo_82 : decode b_Mo_undo 82 = .ok (.laload, 1) := by decide +kernel
theorem d_Mo_undo_83 : decode b_Mo_undo 83 = .ok (.invokevirtual 102, 3) := by decide +kernel
theorem d_Mo_undo_86 : decode b_Mo_undo 86 = .ok (.istore_n 1, 1) := by decide +kernel
theorem d_Mo_undo_87 : decode b_Mo_undo 87 = .ok (.iinc 2 1, 3) := by decide +kernel
theorem d_Mo_undo_90 : decode b_Mo_undo 90 = .ok (.goto (-28), 3) := by decide +kernel
theorem d_Mo_undo_93 : decode b_Mo_undo 93 = .ok (.aload_n 0, 1) := by decide +kernel
theorem d_Mo_undo_94 : decode b_Mo_undo 94 = .ok (.getfield 29, 3) := by decide +kernel
theorem d_Mo_undo_97 : decode b_Mo_undo 97 = .ok (.aload_n 0, 1) := by decide +kernel
theorem d_Mo_undo_98 : decode b_Mo_undo 98 = .ok (.getfield 84, 3) := by decide +kernel
theorem d_Mo_undo_101 : decode b_Mo_undo 101 = .ok (.iaload, 1) := by decide +kernel
theorem d_Mo_undo_102 : decode b_Mo_undo 102 = .ok (.ireturn, 1) := by decide +kernel
def f_Mo_undo_62 (k62 : Nat → Int32 → zq_S → Option (zq_S × Int32)) (a0 : Nat) (v2 : Int32) (S : zq_S) : Option (zq_S × Int32) :=
  (zs_gi S a0 4 9).bind fun x1 =>
  if x1 ≤ v2 then
    (zs_gr S a0 4 15).bind fun x3 =>
    (zs_gi S a0 4 12).bind fun x5 =>
    (x3).bind fun a7 =>
    (zs_ial S a7 2 x5).bind fun x9 =>
    some (S, x9)
  else
    (zs_gr S a0 4 10).bind fun x11 =>
    (x11).bind fun a13 =>
    (zs_lal S a13 0 v2).bind fun x15 =>
    (zs_gr S a0 4 11).bind fun x17 =>
    (x17).bind fun a19 =>
    (zs_lal S a19 0 v2).bind fun x21 =>
    if zs_is S a0 4 = true then
    zs_b (f_Mo_play a0 x15 x21 S) fun S24 x25 =>
    k62 a0 (v2 + (1 : Int32)) S24
    else none
def g_Mo_undo_62  : Nat → Nat → Int32 → zq_S → Option (zq_S × Int32)
  | 0 => fun _ _ _ => none
  | n + 1 => fun a0 v2 S => f_Mo_undo_62  (g_Mo_undo_62  n) a0 v2 S
def f_Mo_undo_20  (a0 : Nat) (s0 : Option Nat) (s1 : Int32) (S : zq_S) : Option (zq_S × Int32) :=
  (s0).bind fun a1 =>
  (zs_p S a1 4 0 (.int s1)).bind fun S3 =>
  (zs_gi S3 a0 4 0).bind fun x5 =>
  if x5 ≤ 0 then
    (zs_gi S3 a0 4 12).bind fun x7 =>
    (zs_p S3 a0 4 12 (.int (x7 - (1 : Int32)))).bind fun S9 =>
    if zs_is S9 a0 4 = true then
    zs_b (f_Mo_fromBase a0 S9) fun S12 _ =>
    (zs_gi S12 a0 4 12).bind fun x17 =>
    if zs_is S12 a0 4 = true then
    zs_b (f_Mo_startOf a0 x17 S12) fun S20 x21 =>
    (zs_p S20 a0 4 9 (.int x21)).bind fun S25 =>
    g_Mo_undo_62  zq_F a0 (0 : Int32) S25
    else none
    else none
  else
    some (S3, (0 : Int32))
def f_Mo_undo_15  (a0 : Nat) (s0 : Option Nat) (S : zq_S) : Option (zq_S × Int32) :=
  f_Mo_undo_20  a0 s0 (1 : Int32) S
def f_Mo_undo (a0 : Nat) (S : zq_S) : Option (zq_S × Int32) :=
  (zs_gi S a0 4 17).bind fun x1 =>
  if x1 = 0 then
    (zs_gi S a0 4 12).bind fun x3 =>
    if x3 = 0 then
      f_Mo_undo_15  a0 (some a0) S
    else
      f_Mo_undo_20  a0 (some a0) (0 : Int32) S
  else
    f_Mo_undo_15  a0 (some a0) S
set_option maxHeartbeats 4000000 in
set_option maxRecDepth 100000 in
theorem r_Mo_undo_62 {l : Launch} (hl : l.stackTraces = false) {G : zq_G} {S0 T : zq_S} {v : Int32} {X : zq_X} (Z : Z_Mo_undo l G S0 T v X) {k62 : Nat → Int32 → zq_S → Option (zq_S × Int32)} (hk62 : ∀ (a0 : Nat) (v2 : Int32) (S : zq_S), k62 a0 v2 S = some (T, v) → zq_W (Y_Mo_undo l G S0 T v) X 62 [(0, .ref a0), (2, .int v2)] [] S 0 0) {a0 : Nat} {v2 : Int32} {S : zq_S} (hf : f_Mo_undo_62 k62 a0 v2 S = some (T, v)) : zq_W (Y_Mo_undo l G S0 T v) X 62 [(0, .ref a0), (2, .int v2)] [] S 0 0 := by
  unfold f_Mo_undo_62 at hf
  refine zq_iload_n Z d_Mo_undo_62 1 rfl ?_
  refine zq_aload_n Z d_Mo_undo_63 0 rfl ?_
  have hq := Option.bind_eq_some_iff.mp hf
  clear hf
  obtain ⟨x1, h2, hf⟩ := hq
  refine zr_geti Z cd_Mo 9 d_Mo_undo_64 (by decide) m_310 h2 ?_
  refine zq_icmp_ge Z 93 d_Mo_undo_67 (by decide) (fun q => ?_) (fun q => ?_)
  · replace hf := zs_T q hf
    refine zq_aload_n Z d_Mo_undo_93 0 rfl ?_
    have hq := Option.bind_eq_some_iff.mp hf
    clear hf
    obtain ⟨x3, h4, hf⟩ := hq
    refine zr_getr Z cd_Mo 15 d_Mo_undo_94 (by decide) m_277 h4 ?_
    refine zq_aload_n Z d_Mo_undo_97 0 rfl ?_
    have hq := Option.bind_eq_some_iff.mp hf
    clear hf
    obtain ⟨x5, h6, hf⟩ := hq
    refine zr_geti Z cd_Mo 12 d_Mo_undo_98 (by decide) m_308 h6 ?_
    have hq := Option.bind_eq_some_iff.mp hf
    clear hf
    obtain ⟨a7, h8, hf⟩ := hq
    subst h8
    have hq := Option.bind_eq_some_iff.mp hf
    clear hf
    obtain ⟨x9, h10, hf⟩ := hq
    refine zr_iaload Z 2 (fun _ => rfl) d_Mo_undo_101 h10 ?_
    exact zq_iret Z d_Mo_undo_102 (zs_1 hf) (zs_2 (fun z => (.inl (some (.int z)) : zq_R)) hf) ⟨(Nat.le_of_ble_eq_true rfl), (Nat.le_of_ble_eq_true rfl)⟩
  · replace hf := zs_N q hf
    refine zq_aload_n Z d_Mo_undo_70 0 rfl ?_
    refine zq_aload_n Z d_Mo_undo_71 0 rfl ?_
    have hq := Option.bind_eq_some_iff.mp hf
    clear hf
    obtain ⟨x11, h12, hf⟩ := hq
    refine zr_getr Z cd_Mo 10 d_Mo_undo_72 (by decide) m_273 h12 ?_
    refine zq_iload_n Z d_Mo_undo_75 1 rfl ?_
    have hq := Option.bind_eq_some_iff.mp hf
    clear hf
    obtain ⟨a13, h14, hf⟩ := hq
    subst h14
    have hq := Option.bind_eq_some_iff.mp hf
    clear hf
    obtain ⟨x15, h16, hf⟩ := hq
    refine zr_laload Z 0 (fun _ => rfl) d_Mo_undo_76 h16 ?_
    refine zq_aload_n Z d_Mo_undo_77 0 rfl ?_
    have hq := Option.bind_eq_some_iff.mp hf
    clear hf
    obtain ⟨x17, h18, hf⟩ := hq
    refine zr_getr Z cd_Mo 11 d_Mo_undo_78 (by decide) m_274 h18 ?_
    refine zq_iload_n Z d_Mo_undo_81 1 rfl ?_
    have hq := Option.bind_eq_some_iff.mp hf
    clear hf
    obtain ⟨a19, h20, hf⟩ := hq
    subst h20
    have hq := Option.bind_eq_some_iff.mp hf
    clear hf
    obtain ⟨x21, h22, hf⟩ := hq
    refine zr_laload Z 0 (fun _ => rfl) d_Mo_undo_82 h22 ?_
    have hq := zs_C hf
    clear hf
    obtain ⟨h26, hf⟩ := hq
    obtain ⟨fs27, e28⟩ := zs_isS h26
    have hq := zs_bS hf
    clear hf
    obtain ⟨S24, x25, h23, hf⟩ := hq
    refine zq_contR (zq_stepV Z zq_cf1 (c_Mo_play hl h23) 4 rfl e28 d_Mo_undo_83 m_315 m_317 m_318 m_316 m_286 p_Mo_play ⟨(Nat.le_of_ble_eq_true rfl), (Nat.le_of_ble_eq_true rfl), (Nat.le_of_ble_eq_true rfl), (Nat.le_of_ble_eq_true rfl)⟩ rfl (Nat.le_of_ble_eq_true rfl)) Z.p ?_
    refine zq_istore_n Z rfl [(1, .int x25), (0, .ref a0), (2, .int v2)] d_Mo_undo_86 (by decide) rfl ?_
    refine zq_iinc Z (v2 + (1 : Int32)) [(2, .int (v2 + (1 : Int32))), (1, .int x25), (0, .ref a0)] d_Mo_undo_87 2 rfl rfl (by decide) rfl ?_
    refine zq_goto Z 62 d_Mo_undo_90 (by decide) ?_
    refine zq_sub (lo' := [(0, .ref a0), (2, .int (v2 + (1 : Int32)))]) [2, 0] rfl ?_
    exact hk62 _ _ _ hf
theorem w_Mo_undo_62 {l : Launch} (hl : l.stackTraces = false) {G : zq_G} {S0 T : zq_S} {v : Int32} {X : zq_X} (Z : Z_Mo_undo l G S0 T v X) : ∀ (n : Nat) (a0 : Nat) (v2 : Int32) (S : zq_S), g_Mo_undo_62  n a0 v2 S = some (T, v) → zq_W (Y_Mo_undo l G S0 T v) X 62 [(0, .ref a0), (2, .int v2)] [] S 0 0 := by
  intro n
  induction n with
  | zero => intro a0 v2 S hf; cases hf
  | succ n ih =>
    intro a0 v2 S hf
    have hf : f_Mo_undo_62  (g_Mo_undo_62  n) a0 v2 S = some (T, v) := hf
    exact r_Mo_undo_62 hl Z  ih hf
set_option maxHeartbeats 4000000 in
set_option maxRecDepth 100000 in
theorem r_Mo_undo_20 {l : Launch} (hl : l.stackTraces = false) {G : zq_G} {S0 T : zq_S} {v : Int32} {X : zq_X} (Z : Z_Mo_undo l G S0 T v X) {a0 : Nat} {s0 : Option Nat} {s1 : Int32} {S : zq_S} (hf : f_Mo_undo_20  a0 s0 s1 S = some (T, v)) : zq_W (Y_Mo_undo l G S0 T v) X 20 [(0, .ref a0)] [.int s1, va_rf s0] S 0 0 := by
  unfold f_Mo_undo_20 at hf
  have hq := Option.bind_eq_some_iff.mp hf
  clear hf
  obtain ⟨a1, h2, hf⟩ := hq
  subst h2
  have hq := Option.bind_eq_some_iff.mp hf
  clear hf
  obtain ⟨S3, h4, hf⟩ := hq
  refine zr_puti Z cd_Mo 0 d_Mo_undo_20 (by decide) m_279 rfl (by decide +kernel) h4 ?_
  refine zq_aload_n Z d_Mo_undo_23 0 rfl ?_
  have hq := Option.bind_eq_some_iff.mp hf
  clear hf
  obtain ⟨x5, h6, hf⟩ := hq
  refine zr_geti Z cd_Mo 0 d_Mo_undo_24 (by decide) m_279 h6 ?_
  refine zq_if_le Z 32 d_Mo_undo_27 (by decide) (fun q => ?_) (fun q => ?_)
  · replace hf := zs_T q hf
    refine zq_aload_n Z d_Mo_undo_32 0 rfl ?_
    refine zq_dup Z d_Mo_undo_33 rfl ?_
    have hq := Option.bind_eq_some_iff.mp hf
    clear hf
    obtain ⟨x7, h8, hf⟩ := hq
    refine zr_geti Z cd_Mo 12 d_Mo_undo_34 (by decide) m_308 h8 ?_
    refine zq_iconst Z (1 : Int32) d_Mo_undo_37 (by decide) ?_
    refine zq_isub Z d_Mo_undo_38 ?_
    have hq := Option.bind_eq_some_iff.mp hf
    clear hf
    obtain ⟨S9, h10, hf⟩ := hq
    refine zr_puti Z cd_Mo 12 d_Mo_undo_39 (by decide) m_308 rfl (by decide +kernel) h10 ?_
    refine zq_aload_n Z d_Mo_undo_42 0 rfl ?_
    have hq := zs_C hf
    clear hf
    obtain ⟨h14, hf⟩ := hq
    obtain ⟨fs15, e16⟩ := zs_isS h14
    have hq := zs_bS hf
    clear hf
    obtain ⟨S12, x13, h11, hf⟩ := hq
    refine zq_contR (zq_stepV Z zq_cf1 (c_Mo_fromBase hl h11) 4 rfl e16 d_Mo_undo_43 m_323 m_325 m_326 m_324 m_286 p_Mo_fromBase ⟨(Nat.le_of_ble_eq_true rfl), (Nat.le_of_ble_eq_true rfl), (Nat.le_of_ble_eq_true rfl), (Nat.le_of_ble_eq_true rfl)⟩ rfl (Nat.le_of_ble_eq_true rfl)) Z.p ?_
    refine zq_aload_n Z d_Mo_undo_46 0 rfl ?_
    refine zq_aload_n Z d_Mo_undo_47 0 rfl ?_
    refine zq_aload_n Z d_Mo_undo_48 0 rfl ?_
    have hq := Option.bind_eq_some_iff.mp hf
    clear hf
    obtain ⟨x17, h18, hf⟩ := hq
    refine zr_geti Z cd_Mo 12 d_Mo_undo_49 (by decide) m_308 h18 ?_
    have hq := zs_C hf
    clear hf
    obtain ⟨h22, hf⟩ := hq
    obtain ⟨fs23, e24⟩ := zs_isS h22
    have hq := zs_bS hf
    clear hf
    obtain ⟨S20, x21, h19, hf⟩ := hq
    refine zq_contR (zq_stepV Z zq_cf1 (c_Mo_startOf hl h19) 4 rfl e24 d_Mo_undo_52 m_346 m_348 m_349 m_347 m_286 p_Mo_startOf ⟨(Nat.le_of_ble_eq_true rfl), (Nat.le_of_ble_eq_true rfl), (Nat.le_of_ble_eq_true rfl), (Nat.le_of_ble_eq_true rfl)⟩ rfl (Nat.le_of_ble_eq_true rfl)) Z.p ?_
    have hq := Option.bind_eq_some_iff.mp hf
    clear hf
    obtain ⟨S25, h26, hf⟩ := hq
    refine zr_puti Z cd_Mo 9 d_Mo_undo_55 (by decide) m_310 rfl (by decide +kernel) h26 ?_
    refine zq_iconst Z (0 : Int32) d_Mo_undo_58 (by decide) ?_
    refine zq_istore_n Z rfl [(1, .int (0 : Int32)), (0, .ref a0)] d_Mo_undo_59 (by decide) rfl ?_
    refine zq_iconst Z (0 : Int32) d_Mo_undo_60 (by decide) ?_
    refine zq_istore_n Z rfl [(2, .int (0 : Int32)), (1, .int (0 : Int32)), (0, .ref a0)] d_Mo_undo_61 (by decide) rfl ?_
    refine zq_sub (lo' := [(0, .ref a0), (2, .int (0 : Int32))]) [2, 0] rfl ?_
    exact w_Mo_undo_62 hl Z  _ _ _ _ hf
  · replace hf := zs_N q hf
    refine zq_iconst Z (0 : Int32) d_Mo_undo_30 (by decide) ?_
    exact zq_iret Z d_Mo_undo_31 (zs_1 hf) (zs_2 (fun z => (.inl (some (.int z)) : zq_R)) hf) ⟨(Nat.le_of_ble_eq_true rfl), (Nat.le_of_ble_eq_true rfl)⟩
set_option maxHeartbeats 4000000 in
set_option maxRecDepth 100000 in
theorem r_Mo_undo_15 {l : Launch} (hl : l.stackTraces = false) {G : zq_G} {S0 T : zq_S} {v : Int32} {X : zq_X} (Z : Z_Mo_undo l G S0 T v X) {a0 : Nat} {s0 : Option Nat} {S : zq_S} (hf : f_Mo_undo_15  a0 s0 S = some (T, v)) : zq_W (Y_Mo_undo l G S0 T v) X 15 [(0, .ref a0)] [va_rf s0] S 0 0 := by
  unfold f_Mo_undo_15 at hf
  refine zq_iconst Z (1 : Int32) d_Mo_undo_15 (by decide) ?_
  refine zq_goto Z 20 d_Mo_undo_16 (by decide) ?_
  refine zq_sub (lo' := [(0, .ref a0)]) [0] rfl ?_
  exact r_Mo_undo_20 hl Z  hf
set_option maxHeartbeats 4000000 in
set_option maxRecDepth 100000 in
theorem c_Mo_undo {l : Launch} (hl : l.stackTraces = false) {G : zq_G} {a0 : Nat} {S0 T : zq_S} {v : Int32} (hf : f_Mo_undo a0 S0 = some (T, v)) : zq_M l y_Mo_undo (.code y_Mo_undo b_Mo_undo 3 (some (.int))) rm_Mo_undo G [.ref a0] S0 ((.inl (some (.int v)) : zq_R)) T := by
  refine zq_Mof (lo := [(0, .ref a0)]) hl (by decide) (Nat.le_of_ble_eq_true rfl) rfl (fun X Z => ?_)
  have Z : Z_Mo_undo l G S0 T v X := Z
  show zq_W (Y_Mo_undo l G S0 T v) X 0 [(0, .ref a0)] [] S0 0 0
  unfold f_Mo_undo at hf
  refine zq_aload_n Z d_Mo_undo_0 0 rfl ?_
  refine zq_aload_n Z d_Mo_undo_1 0 rfl ?_
  have hq := Option.bind_eq_some_iff.mp hf
  clear hf
  obtain ⟨x1, h2, hf⟩ := hq
  refine zr_geti Z cd_Mo 17 d_Mo_undo_2 (by decide) m_341 h2 ?_
  refine zq_if_ne Z 15 d_Mo_undo_5 (by decide) (fun q => ?_) (fun q => ?_)
  · replace hf := zs_N q hf
    refine zq_sub (lo' := [(0, .ref a0)]) [0] rfl ?_
    show zq_W _ _ 15 _ [va_rf (some a0)] _ _ _
    exact r_Mo_undo_15 hl Z  hf
  · replace hf := zs_T q hf
    refine zq_aload_n Z d_Mo_undo_8 0 rfl ?_
    have hq := Option.bind_eq_some_iff.mp hf
    clear hf
    obtain ⟨x3, h4, hf⟩ := hq
    refine zr_geti Z cd_Mo 12 d_Mo_undo_9 (by decide) m_308 h4 ?_
    refine zq_if_ne Z 19 d_Mo_undo_12 (by decide) (fun q => ?_) (fun q => ?_)
    · replace hf := zs_N q hf
      refine zq_iconst Z (0 : Int32) d_Mo_undo_19 (by decide) ?_
      refine zq_sub (lo' := [(0, .ref a0)]) [0] rfl ?_
      show zq_W _ _ 20 _ [.int (0 : Int32), va_rf (some a0)] _ _ _
      exact r_Mo_undo_20 hl Z  hf
    · replace hf := zs_T q hf
      refine zq_sub (lo' := [(0, .ref a0)]) [0] rfl ?_
      show zq_W _ _ 15 _ [va_rf (some a0)] _ _ _
      exact r_Mo_undo_15 hl Z  hf
