theorem d_CT_accept_0 : decode b_CT_accept 0 = .ok (.aload_n 0, 1) := by decide +kernel
theorem d_CT_accept_1 : decode b_CT_accept 1 = .ok (.iload_n 1, 1) := by decide +kernel
theorem d_CT_accept_2 : decode b_CT_accept 2 = .ok (.iload_n 2, 1) := by decide +kernel
theorem d_CT_accept_3 : decode b_CT_accept 3 = .ok (.invokevirtual 45, 3) := by decide +kernel
theorem d_CT_accept_6 : decode b_CT_accept 6 = .ok (.iload_n 3, 1) := by decide +kernel
theorem d_CT_accept_7 : decode b_CT_accept 7 = .ok (.invokestatic 106, 3) := by decide +kernel
theorem d_CT_accept_10 : decode b_CT_accept 10 = .ok (.aload_n 0, 1) := by decide +kernel
theorem d_CT_accept_11 : decode b_CT_accept 11 = .ok (.iload_n 1, 1) := by decide +kernel
theorem d_CT_accept_12 : decode b_CT_accept 12 = .ok (.iload_n 2, 1) := by decide +kernel
theorem d_CT_accept_13 : decode b_CT_accept 13 = .ok (.iload_n 3, 1) := by decide +kernel
theorem d_CT_accept_14 : decode b_CT_accept 14 = .ok (.iconst 1, 1) := by decide +kernel
theorem d_CT_accept_15 : decode b_CT_accept 15 = .ok (.invokevirtual 109, 3) := by decide +kernel
theorem d_CT_accept_18 : decode b_CT_accept 18 = .ok (.ireturn, 1) := by decide +kernel
def f_CT_accept (a0 : Nat) (v1 : Int32) (v2 : Int32) (v3 : Int32) (S : zq_S) : Option (zq_S × (Int32 ⊕ Nat)) :=
  if zs_is S a0 3 = true then
  zs_t (f_CT_requireRange S a0 v1 v2 S) (fun S2 _ =>
    zs_t (f_CT_requireSet S2 v3 S2) (fun S8 _ =>
      if zs_is S8 a0 3 = true then
      zs_b (f_CT_settleMarks a0 v1 v2 v3 (1 : Int32) S8) fun S11 x12 =>
      some (S11, .inl x12)
      else none
      ) (fun S8 j => some (S8, .inr j))
    ) (fun S2 j => some (S2, .inr j))
  else none
set_option maxHeartbeats 4000000 in
set_option maxRecDepth 100000 in
theorem c_CT_accept {l : Launch} (hl : l.stackTraces = false) {G : zq_G} {a0 : Nat} {v1 : Int32} {v2 : Int32} {v3 : Int32} {S0 T : zq_S} {v : (Int32 ⊕ Nat)} (hf : f_CT_accept a0 v1 v2 v3 S0 = some (T, v)) : zq_M l y_CT_accept (.code y_CT_accept b_CT_accept 4 (some (.int))) rm_CT_accept G [.ref a0, .int v1, .int v2, .int v3] S0 (zq_ei v) T := by
  refine zq_Mof (lo := [(0, .ref a0), (1, .int v1), (2, .int v2), (3, .int v3)]) hl (by decide) (Nat.le_of_ble_eq_true rfl) rfl (fun X Z => ?_)
  have Z : Z_CT_accept l G S0 T v X := Z
  show zq_W (Y_CT_accept l G S0 T v) X 0 [(0, .ref a0), (1, .int v1), (2, .int v2), (3, .int v3)] [] S0 0 0
  unfold f_CT_accept at hf
  refine zq_aload_n Z d_CT_accept_0 0 rfl ?_
  refine zq_iload_n Z d_CT_accept_1 1 rfl ?_
  refine zq_iload_n Z d_CT_accept_2 2 rfl ?_
  have hq := zs_C hf
  clear hf
  obtain ⟨h4, hf⟩ := hq
  obtain ⟨fs5, e6⟩ := zs_isS h4
  have hq := zs_tS hf
  clear hf
  rcases hq with ⟨S2, x3, h1, hf⟩ | ⟨S2, j, h1, hf⟩
  · refine zq_contR (zq_stepV Z zq_cf1 (c_CT_requireRange hl h1) 3 rfl e6 d_CT_accept_3 m_145 m_162 m_163 m_161 m_108 p_CT_requireRange ⟨(Nat.le_of_ble_eq_true rfl), (Nat.le_of_ble_eq_true rfl), (Nat.le_of_ble_eq_true rfl), (Nat.le_of_ble_eq_true rfl)⟩ rfl (Nat.le_of_ble_eq_true rfl)) Z.p ?_
    refine zq_iload_n Z d_CT_accept_6 3 rfl ?_
    have hq := zs_tS hf
    clear hf
    rcases hq with ⟨S8, x9, h7, hf⟩ | ⟨S8, j, h7, hf⟩
    · refine zq_contR (zq_stepS Z zq_cf1 (c_CT_requireSet hl h7) d_CT_accept_7 m_205 m_210 m_211 m_108 p_CT_requireSet ⟨(Nat.le_of_ble_eq_true rfl), (Nat.le_of_ble_eq_true rfl), (Nat.le_of_ble_eq_true rfl), (Nat.le_of_ble_eq_true rfl)⟩ rfl (Nat.le_of_ble_eq_true rfl)) Z.p ?_
      refine zq_aload_n Z d_CT_accept_10 0 rfl ?_
      refine zq_iload_n Z d_CT_accept_11 1 rfl ?_
      refine zq_iload_n Z d_CT_accept_12 2 rfl ?_
      refine zq_iload_n Z d_CT_accept_13 3 rfl ?_
      refine zq_iconst Z (1 : Int32) d_CT_accept_14 (by decide) ?_
      have hq := zs_C hf
      clear hf
      obtain ⟨h13, hf⟩ := hq
      obtain ⟨fs14, e15⟩ := zs_isS h13
      have hq := zs_bS hf
      clear hf
      obtain ⟨S11, x12, h10, hf⟩ := hq
      refine zq_contR (zq_stepV Z zq_cf1 (c_CT_settleMarks hl h10) 3 rfl e15 d_CT_accept_15 m_206 m_208 m_209 m_207 m_108 p_CT_settleMarks ⟨(Nat.le_of_ble_eq_true rfl), (Nat.le_of_ble_eq_true rfl), (Nat.le_of_ble_eq_true rfl), (Nat.le_of_ble_eq_true rfl)⟩ rfl (Nat.le_of_ble_eq_true rfl)) Z.p ?_
      exact zq_iret Z d_CT_accept_18 (zs_1 hf) (zs_2 zq_ei hf) ⟨(Nat.le_of_ble_eq_true rfl), (Nat.le_of_ble_eq_true rfl)⟩
    · exact zq_contT Z (zq_stepS Z zq_cf1 (c_CT_requireSet hl h7) d_CT_accept_7 m_205 m_210 m_211 m_108 p_CT_requireSet ⟨(Nat.le_of_ble_eq_true rfl), (Nat.le_of_ble_eq_true rfl), (Nat.le_of_ble_eq_true rfl), (Nat.le_of_ble_eq_true rfl)⟩ rfl (Nat.le_of_ble_eq_true rfl)) (zs_1 hf) (zs_2 zq_ei hf) ⟨(Nat.le_of_ble_eq_true rfl), (Nat.le_of_ble_eq_true rfl)⟩
  · exact zq_contT Z (zq_stepV Z zq_cf1 (c_CT_requireRange hl h1) 3 rfl e6 d_CT_accept_3 m_145 m_162 m_163 m_161 m_108 p_CT_requireRange ⟨(Nat.le_of_ble_eq_true rfl), (Nat.le_of_ble_eq_true rfl), (Nat.le_of_ble_eq_true rfl), (Nat.le_of_ble_eq_true rfl)⟩ rfl (Nat.le_of_ble_eq_true rfl)) (zs_1 hf) (zs_2 zq_ei hf) ⟨(Nat.le_of_ble_eq_true rfl), (Nat.le_of_ble_eq_true rfl)⟩
theorem d_CT_reject_0 : decode b_CT_reject 0 = .ok (.aload_n 0, 1) := by decide +kernel
theorem d_CT_reject_1 : decode b_CT_reject 1 = .ok (.iload_n 1, 1) := by decide +kernel
theorem d_CT_reject_2 : decode b_CT_reject 2 = .ok (.iload_n 2, 1) := by decide +kernel
theorem d_CT_reject_3 : decode b_CT_reject 3 = .ok (.invokevirtual 45, 3) := by decide +kernel
theorem d_CT_reject_6 : decode b_CT_reject 6 = .ok (.iload_n 3, 1) := by decide +kernel
theorem d_CT_reject_7 : decode b_CT_reject 7 = .ok (.invokestatic 106, 3) := by decide +kernel
theorem d_CT_reject_10 : decode b_CT_reject 10 = .ok (.aload_n 0, 1) := by decide +kernel
theorem d_CT_reject_11 : decode b_CT_reject 11 = .ok (.iload_n 1, 1) := by decide +kernel
theorem d_CT_reject_12 : decode b_CT_reject 12 = .ok (.iload_n 2, 1) := by decide +kernel
theorem d_CT_reject_13 : decode b_CT_reject 13 = .ok (.iload_n 3, 1) := by decide +kernel
theorem d_CT_reject_14 : decode b_CT_reject 14 = .ok (.iconst 0, 1) := by decide +kernel
theorem d_CT_reject_15 : decode b_CT_reject 15 = .ok (.invokevirtual 109, 3) := by decide +kernel
theorem d_CT_reject_18 : decode b_CT_reject 18 = .ok (.ireturn, 1) := by decide +kernel
def f_CT_reject (a0 : Nat) (v1 : Int32) (v2 : Int32) (v3 : Int32) (S : zq_S) : Option (zq_S × (Int32 ⊕ Nat)) :=
  if zs_is S a0 3 = true then
  zs_t (f_CT_requireRange S a0 v1 v2 S) (fun S2 _ =>
    zs_t (f_CT_requireSet S2 v3 S2) (fun S8 _ =>
      if zs_is S8 a0 3 = true then
      zs_b (f_CT_settleMarks a0 v1 v2 v3 (0 : Int32) S8) fun S11 x12 =>
      some (S11, .inl x12)
      else none
      ) (fun S8 j => some (S8, .inr j))
    ) (fun S2 j => some (S2, .inr j))
  else none
set_option maxHeartbeats 4000000 in
set_option maxRecDepth 100000 in
theorem c_CT_reject {l : Launch} (hl : l.stackTraces = false) {G : zq_G} {a0 : Nat} {v1 : Int32} {v2 : Int32} {v3 : Int32} {S0 T : zq_S} {v : (Int32 ⊕ Nat)} (hf : f_CT_reject a0 v1 v2 v3 S0 = some (T, v)) : zq_M l y_CT_reject (.code y_CT_reject b_CT_reject 4 (some (.int))) rm_CT_reject G [.ref a0, .int v1, .int v2, .int v3] S0 (zq_ei v) T := by
  refine zq_Mof (lo := [(0, .ref a0), (1, .int v1), (2, .int v2), (3, .int v3)]) hl (by decide) (Nat.le_of_ble_eq_true rfl) rfl (fun X Z => ?_)
  have Z : Z_CT_reject l G S0 T v X := Z
  show zq_W (Y_CT_reject l G S0 T v) X 0 [(0, .ref a0), (1, .int v1), (2, .int v2), (3, .int v3)] [] S0 0 0
  unfold f_CT_reject at hf
  refine zq_aload_n Z d_CT_reject_0 0 rfl ?_
  refine zq_iload_n Z d_CT_reject_1 1 rfl ?_
  refine zq_iload_n Z d_CT_reject_2 2 rfl ?_
  have hq := zs_C hf
  clear hf
  obtain ⟨h4, hf⟩ := hq
  obtain ⟨fs5, e6⟩ := zs_isS h4
  have hq := zs_tS hf
  clear hf
  rcases hq with ⟨S2, x3, h1, hf⟩ | ⟨S2, j, h1, hf⟩
  · refine zq_contR (zq_stepV Z zq_cf1 (c_CT_requireRange hl h1) 3 rfl e6 d_CT_reject_3 m_145 m_162 m_163 m_161 m_108 p_CT_requireRange ⟨(Nat.le_of_ble_eq_true rfl), (Nat.le_of_ble_eq_true rfl), (Nat.le_of_ble_eq_true rfl), (Nat.le_of_ble_eq_true rfl)⟩ rfl (Nat.le_of_ble_eq_true rfl)) Z.p ?_
    refine zq_iload_n Z d_CT_reject_6 3 rfl ?_
    have hq := zs_tS hf
    clear hf
    rcases hq with ⟨S8, x9, h7, hf⟩ | ⟨S8, j, h7, hf⟩
    · refine zq_contR (zq_stepS Z zq_cf1 (c_CT_requireSet hl h7) d_CT_reject_7 m_205 m_210 m_211 m_108 p_CT_requireSet ⟨(Nat.le_of_ble_eq_true rfl), (Nat.le_of_ble_eq_true rfl), (Nat.le_of_ble_eq_true rfl), (Nat.le_of_ble_eq_true rfl)⟩ rfl (Nat.le_of_ble_eq_true rfl)) Z.p ?_
      refine zq_aload_n Z d_CT_reject_10 0 rfl ?_
      refine zq_iload_n Z d_CT_reject_11 1 rfl ?_
      refine zq_iload_n Z d_CT_reject_12 2 rfl ?_
      refine zq_iload_n Z d_CT_reject_13 3 rfl ?_
      refine zq_iconst Z (0 : Int32) d_CT_reject_14 (by decide) ?_
      have hq := zs_C hf
      clear hf
      obtain ⟨h13, hf⟩ := hq
      obtain ⟨fs14, e15⟩ := zs_isS h13
      have hq := zs_bS hf
      clear hf
      obtain ⟨S11, x12, h10, hf⟩ := hq
      refine zq_contR (zq_stepV Z zq_cf1 (c_CT_settleMarks hl h10) 3 rfl e15 d_CT_reject_15 m_206 m_208 m_209 m_207 m_108 p_CT_settleMarks ⟨(Nat.le_of_ble_eq_true rfl), (Nat.le_of_ble_eq_true rfl), (Nat.le_of_ble_eq_true rfl), (Nat.le_of_ble_eq_true rfl)⟩ rfl (Nat.le_of_ble_eq_true rfl)) Z.p ?_
      exact zq_iret Z d_CT_reject_18 (zs_1 hf) (zs_2 zq_ei hf) ⟨(Nat.le_of_ble_eq_true rfl), (Nat.le_of_ble_eq_true rfl)⟩
    · exact zq_contT Z (zq_stepS Z zq_cf1 (c_CT_requireSet hl h7) d_CT_reject_7 m_205 m_210 m_211 m_108 p_CT_requireSet ⟨(Nat.le_of_ble_eq_true rfl), (Nat.le_of_ble_eq_true rfl), (Nat.le_of_ble_eq_true rfl), (Nat.le_of_ble_eq_true rfl)⟩ rfl (Nat.le_of_ble_eq_true rfl)) (zs_1 hf) (zs_2 zq_ei hf) ⟨(Nat.le_of_ble_eq_true rfl), (Nat.le_of_ble_eq_true rfl)⟩
  · exact zq_contT Z (zq_stepV Z zq_cf1 (c_CT_requireRange hl h1) 3 rfl e6 d_CT_reject_3 m_145 m_162 m_163 m_161 m_108 p_CT_requireRange ⟨(Nat.le_of_ble_eq_true rfl), (Nat.le_of_ble_eq_true rfl), (Nat.le_of_ble_eq_true rfl), (Nat.le_of_ble_eq_true rfl)⟩ rfl (Nat.le_of_ble_eq_true rfl)) (zs_1 hf) (zs_2 zq_ei hf) ⟨(Nat.le_of_ble_eq_true rfl), (Nat.le_of_ble_eq_true rfl)⟩
theorem d_CT_open_0 : decode b_CT_open 0 = .ok (.aload_n 0, 1) := by decide +kernel
theorem d_CT_open_1 : decode b_CT_open 1 = .ok (.getfield 10, 3) := by decide +kernel
theorem d_CT_open_4 : decode b_CT_open 4 = .ok (.getfield 113, 3) := by decide +kernel
theorem d_CT_open_7 : decode b_CT_open 7 = .ok (.ifCond .eq 13, 3) := by decide +kernel
theorem d_CT_open_10 : decode b_CT_open 10 = .ok (.new 62, 3) := by decide +kernel
theorem d_CT_open_13 : decode b_CT_open 13 = .ok (.dup, 1) := by decide +kernel
theorem d_CT_open_14 : decode b_CT_open 14 = .ok (.ldc 116, 2) := by decide +kernel
theorem d_CT_open_16 : decode b_CT_open 16 = .ok (.invokespecial 66, 3) := by decide +kernel
theorem d_CT_open_19 : decode b_CT_open 19 = .ok (.athrow, 1) := by decide +kernel
theorem d_CT_open_20 : decode b_CT_open 20 = .ok (.aload_n 0, 1) := by decide +kernel
theorem d_CT_open_21 : decode b_CT_open 21 = .ok (.getfield 10, 3) := by decide +kernel
theorem d_CT_open_24 : decode b_CT_open 24 = .ok (.iconst 1, 1) := by decide +kernel
theorem d_CT_open_25 : decode b_CT_open 25 = .ok (.putfield 113, 3) := by decide +kernel
theorem d_CT_open_28 : decode b_CT_open 28 = .ok (.return_, 1) := by decide +kernel
def f_CT_open (E : zq_S) (a0 : Nat) (S : zq_S) : Option (zq_S × (Unit ⊕ Nat)) :=
  (zs_gr S a0 3 0).bind fun x1 =>
  (x1).bind fun a3 =>
  (zs_gi S a3 2 3).bind fun x5 =>
  if x5 = 0 then
    (zs_gr S a0 3 0).bind fun x7 =>
    (x7).bind fun a9 =>
    (zs_pz S a9 2 3 (1 : Int32)).bind fun S11 =>
    some (S11, .inl ())
  else
    if S.2.1 = E.2.1 ∧ S.2.2 = E.2.2 then some ((S.1, S.2.1 + 1, S.2.2), .inr 2) else none
set_option maxHeartbeats 4000000 in
set_option maxRecDepth 100000 in
theorem c_CT_open {l : Launch} (hl : l.stackTraces = false) {G : zq_G} {a0 : Nat} {S0 T : zq_S} {v : (Unit ⊕ Nat)} (hf : f_CT_open S0 a0 S0 = some (T, v)) : zq_M l y_CT_open (.code y_CT_open b_CT_open 1 none) rm_CT_open G [.ref a0] S0 (zq_ev v) T := by
  refine zq_Mof (lo := [(0, .ref a0)]) hl (by decide) (Nat.le_of_ble_eq_true rfl) rfl (fun X Z => ?_)
  have Z : Z_CT_open l G S0 T v X := Z
  show zq_W (Y_CT_open l G S0 T v) X 0 [(0, .ref a0)] [] S0 0 0
  unfold f_CT_open at hf
  refine zq_aload_n Z d_CT_open_0 0 rfl ?_
  have hq := Option.bind_eq_some_iff.mp hf
  clear hf
  obtain ⟨x1, h2, hf⟩ := hq
  refine zr_getr Z cd_CT 0 d_CT_open_1 (by decide) m_87 h2 ?_
  have hq := Option.bind_eq_some_iff.mp hf
  clear hf
  obtain ⟨a3, h4, hf⟩ := hq
  subst h4
  have hq := Option.bind_eq_some_iff.mp hf
  clear hf
  obtain ⟨x5, h6, hf⟩ := hq
  refine zr_geti Z cd_Hist 3 d_CT_open_4 (by decide) m_125 h6 ?_
  refine zq_if_eq Z 20 d_CT_open_7 (by decide) (fun q => ?_) (fun q => ?_)
  · replace hf := zs_T q hf
    refine zq_aload_n Z d_CT_open_20 0 rfl ?_
    have hq := Option.bind_eq_some_iff.mp hf
    clear hf
    obtain ⟨x7, h8, hf⟩ := hq
    refine zr_getr Z cd_CT 0 d_CT_open_21 (by decide) m_87 h8 ?_
    refine zq_iconst Z (1 : Int32) d_CT_open_24 (by decide) ?_
    have hq := Option.bind_eq_some_iff.mp hf
    clear hf
    obtain ⟨a9, h10, hf⟩ := hq
    subst h10
    have hq := Option.bind_eq_some_iff.mp hf
    clear hf
    obtain ⟨S11, h12, hf⟩ := hq
    refine zr_putz Z cd_Hist 3 d_CT_open_25 (by decide) m_125 rfl (by decide +kernel) h12 ?_
    exact zq_vret Z d_CT_open_28 (zs_1 hf) (zs_2 zq_ev hf) ⟨(Nat.le_of_ble_eq_true rfl), (Nat.le_of_ble_eq_true rfl)⟩
  · replace hf := zs_N q hf
    have hq := zs_C hf
    clear hf
    obtain ⟨h13, hf⟩ := hq
    exact zq_throw Z 2 d_CT_open_10 d_CT_open_13 d_CT_open_14 d_CT_open_16 d_CT_open_19 m_154 m_155 m_156 m_212 ow_CT_66 (zs_1 hf) (zs_2 zq_ev hf) h13 ⟨⟨(Nat.le_of_ble_eq_true rfl), (Nat.le_of_ble_eq_true rfl)⟩, (Nat.le_of_ble_eq_true rfl), (Nat.le_of_ble_eq_true rfl)⟩
theorem d_CT_close_0 : decode b_CT_close 0 = .ok (.aload_n 0, 1) := by decide +kernel
theorem d_CT_close_1 : decode b_CT_close 1 = .ok (.getfield 10, 3) := by decide +kernel
theorem d_CT_close_4 : decode b_CT_close 4 = .ok (.getfield 113, 3) := by decide +kernel
theorem d_CT_close_7 : decode b_CT_close 7 = .ok (.ifCond .ne 13, 3) := by decide +kernel
theorem d_CT_close_10 : decode b_CT_close 10 = .ok (.new 62, 3) := by decide +kernel
theorem d_CT_close_13 : decode b_CT_close 13 = .ok (.dup, 1) := by decide +kernel
theorem d_CT_close_14 : decode b_CT_close 14 = .ok (.ldc 118, 2) := by decide +kernel
theorem d_CT_close_16 : decode b_CT_close 16 = .ok (.invokespecial 66, 3) := by decide +kernel
theorem d_CT_close_19 : decode b_CT_close 19 = .ok (.athrow, 1) := by decide +kernel
theorem d_CT_close_20 : decode b_CT_close 20 = .ok (.aload_n 0, 1) := by decide +kernel
theorem d_CT_close_21 : decode b_CT_close 21 = .ok (.getfield 10, 3) := by decide +kernel
theorem d_CT_close_24 : decode b_CT_close 24 = .ok (.iconst 0, 1) := by decide +kernel
theorem d_CT_close_25 : decode b_CT_close 25 = .ok (.putfield 113, 3) := by decide +kernel
theorem d_CT_close_28 : decode b_CT_close 28 = .ok (.aload_n 0, 1) := by decide +kernel
theorem d_CT_close_29 : decode b_CT_close 29 = .ok (.getfield 10, 3) := by decide +kernel
theorem d_CT_close_32 : decode b_CT_close 32 = .ok (.invokevirtual 120, 3) := by decide +kernel
theorem d_CT_close_35 : decode b_CT_close 35 = .ok (.ireturn, 1) := by decide +kernel
def f_CT_close (E : zq_S) (a0 : Nat) (S : zq_S) : Option (zq_S × (Int32 ⊕ Nat)) :=
  (zs_gr S a0 3 0).bind fun x1 =>
  (x1).bind fun a3 =>
  (zs_gi S a3 2 3).bind fun x5 =>
  if x5 = 0 then
    if S.2.1 = E.2.1 ∧ S.2.2 = E.2.2 then some ((S.1, S.2.1 + 1, S.2.2), .inr 2) else none
  else
    (zs_gr S a0 3 0).bind fun x7 =>
    (x7).bind fun a9 =>
    (zs_pz S a9 2 3 (0 : Int32)).bind fun S11 =>
    (zs_gr S11 a0 3 0).bind fun x13 =>
    (x13).bind fun a15 =>
    if zs_is S11 a15 2 = true then
    zs_b (f_Hist_endGroup a15 S11) fun S18 x19 =>
    some (S18, .inl x19)
    else none
set_option maxHeartbeats 4000000 in
set_option maxRecDepth 100000 in
theorem c_CT_close {l : Launch} (hl : l.stackTraces = false) {G : zq_G} {a0 : Nat} {S0 T : zq_S} {v : (Int32 ⊕ Nat)} (hf : f_CT_close S0 a0 S0 = some (T, v)) : zq_M l y_CT_close (.code y_CT_close b_CT_close 1 (some (.int))) rm_CT_close G [.ref a0] S0 (zq_ei v) T := by
  refine zq_Mof (lo := [(0, .ref a0)]) hl (by decide) (Nat.le_of_ble_eq_true rfl) rfl (fun X Z => ?_)
  have Z : Z_CT_close l G S0 T v X := Z
  show zq_W (Y_CT_close l G S0 T v) X 0 [(0, .ref a0)] [] S0 0 0
  unfold f_CT_close at hf
  refine zq_aload_n Z d_CT_close_0 0 rfl ?_
  have hq := Option.bind_eq_some_iff.mp hf
  clear hf
  obtain ⟨x1, h2, hf⟩ := hq
  refine zr_getr Z cd_CT 0 d_CT_close_1 (by decide) m_87 h2 ?_
  have hq := Option.bind_eq_some_iff.mp hf
  clear hf
  obtain ⟨a3, h4, hf⟩ := hq
  subst h4
  have hq := Option.bind_eq_some_iff.mp hf
  clear hf
  obtain ⟨x5, h6, hf⟩ := hq
  refine zr_geti Z cd_Hist 3 d_CT_close_4 (by decide) m_125 h6 ?_
  refine zq_if_ne Z 20 d_CT_close_7 (by decide) (fun q => ?_) (fun q => ?_)
  · replace hf := zs_N q hf
    refine zq_aload_n Z d_CT_close_20 0 rfl ?_
    have hq := Option.bind_eq_some_iff.mp hf
    clear hf
    obtain ⟨x7, h8, hf⟩ := hq
    refine zr_getr Z cd_CT 0 d_CT_close_21 (by decide) m_87 h8 ?_
    refine zq_iconst Z (0 : Int32) d_CT_close_24 (by decide) ?_
    have hq := Option.bind_eq_some_iff.mp hf
    clear hf
    obtain ⟨a9, h10, hf⟩ := hq
    subst h10
    have hq := Option.bind_eq_some_iff.mp hf
    clear hf
    obtain ⟨S11, h12, hf⟩ := hq
    refine zr_putz Z cd_Hist 3 d_CT_close_25 (by decide) m_125 rfl (by decide +kernel) h12 ?_
    refine zq_aload_n Z d_CT_close_28 0 rfl ?_
    have hq := Option.bind_eq_some_iff.mp hf
    clear hf
    obtain ⟨x13, h14, hf⟩ := hq
    refine zr_getr Z cd_CT 0 d_CT_close_29 (by decide) m_87 h14 ?_
    have hq := Option.bind_eq_some_iff.mp hf
    clear hf
    obtain ⟨a15, h16, hf⟩ := hq
    subst h16
    have hq := zs_C hf
    clear hf
    obtain ⟨h20, hf⟩ := hq
    obtain ⟨fs21, e22⟩ := zs_isS h20
    have hq := zs_bS hf
    clear hf
    obtain ⟨S18, x19, h17, hf⟩ := hq
    refine zq_contR (zq_stepV Z zq_cf1 (c_Hist_endGroup hl h17) 2 rfl e22 d_CT_close_32 m_126 m_128 m_129 m_127 m_60 p_Hist_endGroup ⟨(Nat.le_of_ble_eq_true rfl), (Nat.le_of_ble_eq_true rfl), (Nat.le_of_ble_eq_true rfl), (Nat.le_of_ble_eq_true rfl)⟩ rfl (Nat.le_of_ble_eq_true rfl)) Z.p ?_
    exact zq_iret Z d_CT_close_35 (zs_1 hf) (zs_2 zq_ei hf) ⟨(Nat.le_of_ble_eq_true rfl), (Nat.le_of_ble_eq_true rfl)⟩
  · replace hf := zs_T q hf
    have hq := zs_C hf
    clear hf
    obtain ⟨h23, hf⟩ := hq
    exact zq_throw Z 2 d_CT_close_10 d_CT_close_13 d_CT_close_14 d_CT_close_16 d_CT_close_19 m_154 m_155 m_156 m_213 ow_CT_66 (zs_1 hf) (zs_2 zq_ei hf) h23 ⟨⟨(Nat.le_of_ble_eq_true rfl), (Nat.le_of_ble_eq_true rfl)⟩, (Nat.le_of_ble_eq_true rfl), (Nat.le_of_ble_eq_true rfl)⟩
theorem d_CT_crossOver_0 : decode b_CT_crossOver 0 = .ok (.aload_n 1, 1) := by decide +kernel
theorem d_CT_crossOver_1 : decode b_CT_crossOver 1 = .ok (.getfield 230, 3) := by decide +kernel
theorem d_CT_crossOver_4 : decode b_CT_crossOver 4 = .ok (.astore_n 2, 1) := by decide +kernel
theorem d_CT_crossOver_5 : decode b_CT_crossOver 5 = .ok (.aload_n 1, 1) := by decide +kernel
theorem d_CT_crossOver_6 : decode b_CT_crossOver 6 = .ok (.aload_n 0, 1) := by decide +kernel
theorem d_CT_crossOver_7 : decode b_CT_crossOver 7 = .ok (.getfield 23, 3) := by decide +kernel
theorem d_CT_crossOver_10 : decode b_CT_crossOver 10 = .ok (.putfield 230, 3) := by decide +kernel
theorem d_CT_crossOver_13 : decode b_CT_crossOver 13 = .ok (.aload_n 0, 1) := by decide +kernel
theorem d_CT_crossOver_14 : decode b_CT_crossOver 14 = .ok (.aload_n 2, 1) := by decide +kernel
theorem d_CT_crossOver_15 : decode b_CT_crossOver 15 = .ok (.putfield 23, 3) := by decide +kernel
theorem d_CT_crossOver_18 : decode b_CT_crossOver 18 = .ok (.aload_n 1, 1) := by decide +kernel
theorem d_CT_crossOver_19 : decode b_CT_crossOver 19 = .ok (.getfield 235, 3) := by decide +kernel
theorem d_CT_crossOver_22 : decode b_CT_crossOver 22 = .ok (.ireturn, 1) := by decide +kernel
def f_CT_crossOver (a0 : Nat) (v1 : Option Nat) (S : zq_S) : Option (zq_S × Int32) :=
  (v1).bind fun a1 =>
  (zs_gr S a1 1 0).bind fun x3 =>
  (zs_gr S a0 3 2).bind fun x5 =>
  (zs_p S a1 1 0 (va_rf x5)).bind fun S7 =>
  (zs_p S7 a0 3 2 (va_rf x3)).bind fun S9 =>
  (zs_gi S9 a1 1 1).bind fun x11 =>
  some (S9, x11)
set_option maxHeartbeats 4000000 in
set_option maxRecDepth 100000 in
theorem c_CT_crossOver {l : Launch} (hl : l.stackTraces = false) {G : zq_G} {a0 : Nat} {v1 : Option Nat} {S0 T : zq_S} {v : Int32} (hf : f_CT_crossOver a0 v1 S0 = some (T, v)) : zq_M l y_CT_crossOver (.code y_CT_crossOver b_CT_crossOver 3 (some (.int))) rm_CT_crossOver G [.ref a0, va_rf v1] S0 ((.inl (some (.int v)) : zq_R)) T := by
  refine zq_Mof (lo := [(0, .ref a0), (1, va_rf v1)]) hl (by decide) (by cases v1 <;> exact (Nat.le_of_ble_eq_true rfl)) (by cases v1 <;> rfl) (fun X Z => ?_)
  have Z : Z_CT_crossOver l G S0 T v X := Z
  show zq_W (Y_CT_crossOver l G S0 T v) X 0 [(0, .ref a0), (1, va_rf v1)] [] S0 0 0
  unfold f_CT_crossOver at hf
  refine zq_aload_nQ Z d_CT_crossOver_0 1 rfl ?_
  have hq := Option.bind_eq_some_iff.mp hf
  clear hf
  obtain ⟨a1, h2, hf⟩ := hq
  subst h2
  have hq := Option.bind_eq_some_iff.mp hf
  clear hf
  obtain ⟨x3, h4, hf⟩ := hq
  refine zr_getr Z cd_Group 0 d_CT_crossOver_1 (by decide) m_214 h4 ?_
  refine zq_astore_nQ (x := x3) Z rfl [(2, va_rf x3), (0, .ref a0), (1, .ref a1)] d_CT_crossOver_4 (by decide) rfl ?_
  refine zq_aload_n Z d_CT_crossOver_5 2 rfl ?_
  refine zq_aload_n Z d_CT_crossOver_6 1 rfl ?_
  have hq := Option.bind_eq_some_iff.mp hf
  clear hf
  obtain ⟨x5, h6, hf⟩ := hq
  refine zr_getr Z cd_CT 2 d_CT_crossOver_7 (by decide) m_91 h6 ?_
  have hq := Option.bind_eq_some_iff.mp hf
  clear hf
  obtain ⟨S7, h8, hf⟩ := hq
  refine zr_putr (x := x5) (ty := .object "ChangeTracker$Text") Z cd_Group 0 d_CT_crossOver_10 (by decide) m_214 rfl (Or.inl ⟨_, rfl⟩) (by decide +kernel) h8 ?_
  refine zq_aload_n Z d_CT_crossOver_13 1 rfl ?_
  refine zq_aload_nQ Z d_CT_crossOver_14 0 rfl ?_
  have hq := Option.bind_eq_some_iff.mp hf
  clear hf
  obtain ⟨S9, h10, hf⟩ := hq
  refine zr_putr (x := x3) (ty := .object "ChangeTracker$Text") Z cd_CT 2 d_CT_crossOver_15 (by decide) m_91 rfl (Or.inl ⟨_, rfl⟩) (by decide +kernel) h10 ?_
  refine zq_aload_n Z d_CT_crossOver_18 2 rfl ?_
  have hq := Option.bind_eq_some_iff.mp hf
  clear hf
  obtain ⟨x11, h12, hf⟩ := hq
  refine zr_geti Z cd_Group 1 d_CT_crossOver_19 (by decide) m_215 h12 ?_
  exact zq_iret Z d_CT_crossOver_22 (zs_1 hf) (zs_2 (fun z => (.inl (some (.int z)) : zq_R)) hf) ⟨(Nat.le_of_ble_eq_true rfl), (Nat.le_of_ble_eq_true rfl)⟩
theorem d_CT_undo_0 : decode b_CT_undo 0 = .ok (.aload_n 0, 1) := by decide +kernel
theorem d_CT_undo_1 : decode b_CT_undo 1 = .ok (.getfield 10, 3) := by decide +kernel
theorem d_CT_undo_4 : decode b_CT_undo 4 = .ok (.invokevirtual 123, 3) := by decide +kernel
theorem d_CT_undo_7 : decode b_CT_undo 7 = .ok (.astore_n 1, 1) := by decide +kernel
theorem d_CT_undo_8 : decode b_CT_undo 8 = .ok (.aload_n 1, 1) := by decide +kernel
theorem d_CT_undo_9 : decode b_CT_undo 9 = .ok (.ifnonnull 13, 3) := by decide +kernel
theorem d_CT_undo_12 : decode b_CT_undo 12 = .ok (.new 62, 3) := by decide +kernel
theorem d_CT_undo_15 : decode b_CT_undo 15 = .ok (.dup, 1) := by decide +kernel
theorem d_CT_undo_16 : decode b_CT_undo 16 = .ok (.ldc 127, 2) := by decide +kernel
theorem d_CT_undo_18 : decode b_CT_undo 18 = .ok (.invokespecial 66, 3) := by decide +kernel
theorem d_CT_undo_21 : decode b_CT_undo 21 = .ok (.athrow, 1) := by decide +kernel
theorem d_CT_undo_22 : decode b_CT_undo 22 = .ok (.aload_n 0, 1) := by decide +kernel
theorem d_CT_undo_23 : decode b_CT_undo 23 = .ok (.aload_n 1, 1) := by decide +kernel
theorem d_CT_undo_24 : decode b_CT_undo 24 = .ok (.invokevirtual 129, 3) := by decide +kernel
theorem d_CT_undo_27 : decode b_CT_undo 27 = .ok (.ireturn, 1) := by decide +kernel
def f_CT_undo (E : zq_S) (a0 : Nat) (S : zq_S) : Option (zq_S × (Int32 ⊕ Nat)) :=
  (zs_gr S a0 3 0).bind fun x1 =>
  (x1).bind fun a3 =>
  if zs_is S a3 2 = true then
  zs_b (f_Hist_stepBack a3 S) fun S6 x7 =>
  if x7 = none then
    if S6.2.1 = E.2.1 ∧ S6.2.2 = E.2.2 then some ((S6.1, S6.2.1 + 1, S6.2.2), .inr 2) else none
  else
    if zs_is S6 a0 3 = true then
    zs_b (f_CT_crossOver a0 x7 S6) fun S12 x13 =>
    some (S12, .inl x13)
    else none
  else none
set_option maxHeartbeats 4000000 in
set_option maxRecDepth 100000 in
theorem c_CT_undo {l : Launch} (hl : l.stackTraces = false) {G : zq_G} {a0 : Nat} {S0 T : zq_S} {v : (Int32 ⊕ Nat)} (hf : f_CT_undo S0 a0 S0 = some (T, v)) : zq_M l y_CT_undo (.code y_CT_undo b_CT_undo 2 (some (.int))) rm_CT_undo G [.ref a0] S0 (zq_ei v) T := by
  refine zq_Mof (lo := [(0, .ref a0)]) hl (by decide) (Nat.le_of_ble_eq_true rfl) rfl (fun X Z => ?_)
  have Z : Z_CT_undo l G S0 T v X := Z
  show zq_W (Y_CT_undo l G S0 T v) X 0 [(0, .ref a0)] [] S0 0 0
  unfold f_CT_undo at hf
  refine zq_aload_n Z d_CT_undo_0 0 rfl ?_
  have hq := Option.bind_eq_some_iff.mp hf
  clear hf
  obtain ⟨x1, h2, hf⟩ := hq
  refine zr_getr Z cd_CT 0 d_CT_undo_1 (by decide) m_87 h2 ?_
  have hq := Option.bind_eq_some_iff.mp hf
  clear hf
  obtain ⟨a3, h4, hf⟩ := hq
  subst h4
  have hq := zs_C hf
  clear hf
  obtain ⟨h8, hf⟩ := hq
  obtain ⟨fs9, e10⟩ := zs_isS h8
  have hq := zs_bS hf
  clear hf
  obtain ⟨S6, x7, h5, hf⟩ := hq
  refine zq_contR (zq_stepV Z zq_cf1 (c_Hist_stepBack hl h5) 2 rfl e10 d_CT_undo_4 m_216 m_218 m_219 m_217 m_60 p_Hist_stepBack ⟨(Nat.le_of_ble_eq_true rfl), (Nat.le_of_ble_eq_true rfl), (Nat.le_of_ble_eq_true rfl), (Nat.le_of_ble_eq_true rfl)⟩ rfl (Nat.le_of_ble_eq_true rfl)) Z.p ?_
  refine zq_astore_nQ (x := x7) Z rfl [(1, va_rf x7), (0, .ref a0)] d_CT_undo_7 (by decide) rfl ?_
  refine zq_aload_nQ Z d_CT_undo_8 0 rfl ?_
  refine zq_ifnonnull (x := x7) Z 22 d_CT_undo_9 (by decide) (fun q => ?_) (fun q => ?_)
  · replace hf := zs_N q hf
    refine zq_aload_n Z d_CT_undo_22 1 rfl ?_
    refine zq_aload_nQ Z d_CT_undo_23 0 rfl ?_
    have hq := zs_C hf
    clear hf
    obtain ⟨h14, hf⟩ := hq
    obtain ⟨fs15, e16⟩ := zs_isS h14
    have hq := zs_bS hf
    clear hf
    obtain ⟨S12, x13, h11, hf⟩ := hq
    refine zq_contR (zq_stepV Z zq_cf1 (c_CT_crossOver hl h11) 3 rfl e16 d_CT_undo_24 m_220 m_222 m_223 m_221 m_108 p_CT_crossOver ⟨(Nat.le_of_ble_eq_true rfl), (Nat.le_of_ble_eq_true rfl), (Nat.le_of_ble_eq_true rfl), (Nat.le_of_ble_eq_true rfl)⟩ rfl (Nat.le_of_ble_eq_true rfl)) Z.p ?_
    exact zq_iret Z d_CT_undo_27 (zs_1 hf) (zs_2 zq_ei hf) ⟨(Nat.le_of_ble_eq_true rfl), (Nat.le_of_ble_eq_true rfl)⟩
  · replace hf := zs_T q hf
    have hq := zs_C hf
    clear hf
    obtain ⟨h17, hf⟩ := hq
    exact zq_throw Z 2 d_CT_undo_12 d_CT_undo_15 d_CT_undo_16 d_CT_undo_18 d_CT_undo_21 m_154 m_155 m_156 m_224 ow_CT_66 (zs_1 hf) (zs_2 zq_ei hf) h17 ⟨⟨(Nat.le_of_ble_eq_true rfl), (Nat.le_of_ble_eq_true rfl)⟩, (Nat.le_of_ble_eq_true rfl), (Nat.le_of_ble_eq_true rfl)⟩
theorem d_CT_redo_0 : decode b_CT_redo 0 = .ok (.aload_n 0, 1) := by decide +kernel
theorem d_CT_redo_1 : decode b_CT_redo 1 = .ok (.getfield 10, 3) := by decide +kernel
theorem d_CT_redo_4 : decode b_CT_redo 4 = .ok (.invokevirtual 133, 3) := by decide +kernel
theorem d_CT_redo_7 : decode b_CT_redo 7 = .ok (.astore_n 1, 1) := by decide +kernel
theorem d_CT_redo_8 : decode b_CT_redo 8 = .ok (.aload_n 1, 1) := by decide +kernel
theorem d_CT_redo_9 : decode b_CT_redo 9 = .ok (.ifnonnull 13, 3) := by decide +kernel
theorem d_CT_redo_12 : decode b_CT_redo 12 = .ok (.new 62, 3) := by decide +kernel
theorem d_CT_redo_15 : decode b_CT_redo 15 = .ok (.dup, 1) := by decide +kernel
theorem d_CT_redo_16 : decode b_CT_redo 16 = .ok (.ldc 136, 2) := by decide +kernel
theorem d_CT_redo_18 : decode b_CT_redo 18 = .ok (.invokespecial 66, 3) := by decide +kernel
theorem d_CT_redo_21 : decode b_CT_redo 21 = .ok (.athrow, 1) := by decide +kernel
theorem d_CT_redo_22 : decode b_CT_redo 22 = .ok (.aload_n 0, 1) := by decide +kernel
theorem d_CT_redo_23 : decode b_CT_redo 23 = .ok (.aload_n 1, 1) := by decide +kernel
theorem d_CT_redo_24 : decode b_CT_redo 24 = .ok (.invokevirtual 129, 3) := by decide +kernel
theorem d_CT_redo_27 : decode b_CT_redo 27 = .ok (.ireturn, 1) := by decide +kernel
def f_CT_redo (E : zq_S) (a0 : Nat) (S : zq_S) : Option (zq_S × (Int32 ⊕ Nat)) :=
  (zs_gr S a0 3 0).bind fun x1 =>
  (x1).bind fun a3 =>
  if zs_is S a3 2 = true then
  zs_b (f_Hist_stepForward a3 S) fun S6 x7 =>
  if x7 = none then
    if S6.2.1 = E.2.1 ∧ S6.2.2 = E.2.2 then some ((S6.1, S6.2.1 + 1, S6.2.2), .inr 2) else none
  else
    if zs_is S6 a0 3 = true then
    zs_b (f_CT_crossOver a0 x7 S6) fun S12 x13 =>
    some (S12, .inl x13)
    else none
  else none
set_option maxHeartbeats 4000000 in
set_option maxRecDepth 100000 in
theorem c_CT_redo {l : Launch} (hl : l.stackTraces = false) {G : zq_G} {a0 : Nat} {S0 T : zq_S} {v : (Int32 ⊕ Nat)} (hf : f_CT_redo S0 a0 S0 = some (T, v)) : zq_M l y_CT_redo (.code y_CT_redo b_CT_redo 2 (some (.int))) rm_CT_redo G [.ref a0] S0 (zq_ei v) T := by
  refine zq_Mof (lo := [(0, .ref a0)]) hl (by decide) (Nat.le_of_ble_eq_true rfl) rfl (fun X Z => ?_)
  have Z : Z_CT_redo l G S0 T v X := Z
  show zq_W (Y_CT_redo l G S0 T v) X 0 [(0, .ref a0)] [] S0 0 0
  unfold f_CT_redo at hf
  refine zq_aload_n Z d_CT_redo_0 0 rfl ?_
  have hq := Option.bind_eq_some_iff.mp hf
  clear hf
  obtain ⟨x1, h2, hf⟩ := hq
  refine zr_getr Z cd_CT 0 d_CT_redo_1 (by decide) m_87 h2 ?_
  have hq := Option.bind_eq_some_iff.mp hf
  clear hf
  obtain ⟨a3, h4, hf⟩ := hq
  subst h4
  have hq := zs_C hf
  clear hf
  obtain ⟨h8, hf⟩ := hq
  obtain ⟨fs9, e10⟩ := zs_isS h8
  have hq := zs_bS hf
  clear hf
  obtain ⟨S6, x7, h5, hf⟩ := hq
  refine zq_contR (zq_stepV Z zq_cf1 (c_Hist_stepForward hl h5) 2 rfl e10 d_CT_redo_4 m_225 m_227 m_228 m_226 m_60 p_Hist_stepForward ⟨(Nat.le_of_ble_eq_true rfl), (Nat.le_of_ble_eq_true rfl), (Nat.le_of_ble_eq_true rfl), (Nat.le_of_ble_eq_true rfl)⟩ rfl (Nat.le_of_ble_eq_true rfl)) Z.p ?_
  refine zq_astore_nQ (x := x7) Z rfl [(1, va_rf x7), (0, .ref a0)] d_CT_redo_7 (by decide) rfl ?_
  refine zq_aload_nQ Z d_CT_redo_8 0 rfl ?_
  refine zq_ifnonnull (x := x7) Z 22 d_CT_redo_9 (by decide) (fun q => ?_) (fun q => ?_)
  · replace hf := zs_N q hf
    refine zq_aload_n Z d_CT_redo_22 1 rfl ?_
    refine zq_aload_nQ Z d_CT_redo_23 0 rfl ?_
    have hq := zs_C hf
    clear hf
    obtain ⟨h14, hf⟩ := hq
    obtain ⟨fs15, e16⟩ := zs_isS h14
    have hq := zs_bS hf
    clear hf
    obtain ⟨S12, x13, h11, hf⟩ := hq
    refine zq_contR (zq_stepV Z zq_cf1 (c_CT_crossOver hl h11) 3 rfl e16 d_CT_redo_24 m_220 m_222 m_223 m_221 m_108 p_CT_crossOver ⟨(Nat.le_of_ble_eq_true rfl), (Nat.le_of_ble_eq_true rfl), (Nat.le_of_ble_eq_true rfl), (Nat.le_of_ble_eq_true rfl)⟩ rfl (Nat.le_of_ble_eq_true rfl)) Z.p ?_
    exact zq_iret Z d_CT_redo_27 (zs_1 hf) (zs_2 zq_ei hf) ⟨(Nat.le_of_ble_eq_true rfl), (Nat.le_of_ble_eq_true rfl)⟩
  · replace hf := zs_T q hf
    have hq := zs_C hf
    clear hf
    obtain ⟨h17, hf⟩ := hq
    exact zq_throw Z 2 d_CT_redo_12 d_CT_redo_15 d_CT_redo_16 d_CT_redo_18 d_CT_redo_21 m_154 m_155 m_156 m_229 ow_CT_66 (zs_1 hf) (zs_2 zq_ei hf) h17 ⟨⟨(Nat.le_of_ble_eq_true rfl), (Nat.le_of_ble_eq_true rfl)⟩, (Nat.le_of_ble_eq_true rfl), (Nat.le_of_ble_eq_true rfl)⟩
theorem d_CT_isView_0 : decode b_CT_isView 0 = .ok (.iload_n 0, 1) := by decide +kernel
theorem d_CT_isView_1 : decode b_CT_isView 1 = .ok (.ifCond .lt 12, 3) := by decide +kernel
theorem d_CT_isView_4 : decode b_CT_isView 4 = .ok (.iload_n 0, 1) := by decide +kernel
theorem d_CT_isView_5 : decode b_CT_isView 5 = .ok (.iconst 2, 1) := by decide +kernel
theorem d_CT_isView_6 : decode b_CT_isView 6 = .ok (.if_icmp .gt 7, 3) := by decide +kernel
theorem d_CT_isView_9 : decode b_CT_isView 9 = .ok (.iconst 1, 1) := by decide +kernel
theorem d_CT_isView_10 : decode b_CT_isView 10 = .ok (.goto 4, 3) := by decide +kernel
theorem d_CT_isView_13 : decode b_CT_isView 13 = .ok (.iconst 0, 1) := by decide +kernel
theorem d_CT_isView_14 : decode b_CT_isView 14 = .ok (.ireturn, 1) := by decide +kernel
def f_CT_isView_14  (s0 : Int32) (S : zq_S) : Option (zq_S × Int32) :=
  if s0 = 0 ∨ s0 = 1 then some (S, s0) else none
def f_CT_isView_13   (S : zq_S) : Option (zq_S × Int32) :=
  f_CT_isView_14  (0 : Int32) S
def f_CT_isView (v0 : Int32) (S : zq_S) : Option (zq_S × Int32) :=
  if v0 < 0 then
    f_CT_isView_13   S
  else
    if (2 : Int32) < v0 then
      f_CT_isView_13   S
    else
      f_CT_isView_14  (1 : Int32) S
set_option maxHeartbeats 4000000 in
set_option maxRecDepth 100000 in
theorem r_CT_isView_14 {l : Launch} (hl : l.stackTraces = false) {G : zq_G} {S0 T : zq_S} {v : Int32} {X : zq_X} (Z : Z_CT_isView l G S0 T v X) {s0 : Int32} {S : zq_S} (hf : f_CT_isView_14  s0 S = some (T, v)) : zq_W (Y_CT_isView l G S0 T v) X 14 [] [.int s0] S 0 0 := by
  unfold f_CT_isView_14 at hf
  have hq := zs_C hf
  clear hf
  obtain ⟨h1, hf⟩ := hq
  exact zq_zret Z d_CT_isView_14 h1 (zs_1 hf) (zs_2 (fun z => (.inl (some (.int z)) : zq_R)) hf) ⟨(Nat.le_of_ble_eq_true rfl), (Nat.le_of_ble_eq_true rfl)⟩
set_option maxHeartbeats 4000000 in
set_option maxRecDepth 100000 in
theorem r_CT_isView_13 {l : Launch} (hl : l.stackTraces = false) {G : zq_G} {S0 T : zq_S} {v : Int32} {X : zq_X} (Z : Z_CT_isView l G S0 T v X)  {S : zq_S} (hf : f_CT_isView_13   S = some (T, v)) : zq_W (Y_CT_isView l G S0 T v) X 13 [] [] S 0 0 := by
  unfold f_CT_isView_13 at hf
  refine zq_iconst Z (0 : Int32) d_CT_isView_13 (by decide) ?_
  refine zq_sub (lo' := []) [] rfl ?_
  exact r_CT_isView_14 hl Z  hf
set_option maxHeartbeats 4000000 in
set_option maxRecDepth 100000 in
theorem c_CT_isView {l : Launch} (hl : l.stackTraces = false) {G : zq_G} {v0 : Int32} {S0 T : zq_S} {v : Int32} (hf : f_CT_isView v0 S0 = some (T, v)) : zq_M l y_CT_isView (.code y_CT_isView b_CT_isView 1 (some (.boolean))) rm_CT_isView G [.int v0] S0 ((.inl (some (.int v)) : zq_R)) T := by
  refine zq_Mof (lo := [(0, .int v0)]) hl (by decide) (Nat.le_of_ble_eq_true rfl) rfl (fun X Z => ?_)
  have Z : Z_CT_isView l G S0 T v X := Z
  show zq_W (Y_CT_isView l G S0 T v) X 0 [(0, .int v0)] [] S0 0 0
  unfold f_CT_isView at hf
  refine zq_iload_n Z d_CT_isView_0 0 rfl ?_
  refine zq_if_lt Z 13 d_CT_isView_1 (by decide) (fun q => ?_) (fun q => ?_)
  · replace hf := zs_T q hf
    refine zq_sub (lo' := []) [] rfl ?_
    exact r_CT_isView_13 hl Z  hf
  · replace hf := zs_N q hf
    refine zq_iload_n Z d_CT_isView_4 0 rfl ?_
    refine zq_iconst Z (2 : Int32) d_CT_isView_5 (by decide) ?_
    refine zq_icmp_gt Z 13 d_CT_isView_6 (by decide) (fun q => ?_) (fun q => ?_)
    · replace hf := zs_T q hf
      refine zq_sub (lo' := []) [] rfl ?_
      exact r_CT_isView_13 hl Z  hf
    · replace hf := zs_N q hf
      refine zq_iconst Z (1 : Int32) d_CT_isView_9 (by decide) ?_
      refine zq_goto Z 14 d_CT_isView_10 (by decide) ?_
      refine zq_sub (lo' := []) [] rfl ?_
      exact r_CT_isView_14 hl Z  hf
theorem d_CT_isInView_0 : decode b_CT_isInView 0 = .ok (.iload_n 2, 1) := by decide +kernel
theorem d_CT_isInView_1 : decode b_CT_isInView 1 = .ok (.iconst 1, 1) := by decide +kernel
theorem d_CT_isInView_2 : decode b_CT_isInView 2 = .ok (.if_icmp .ne 18, 3) := by decide +kernel
theorem d_CT_isInView_5 : decode b_CT_isInView 5 = .ok (.lload_n 0, 1) := by decide +kernel
theorem d_CT_isInView_6 : decode b_CT_isInView 6 = .ok (.bipush 24, 2) := by decide +kernel
theorem d_CT_isInView_8 : decode b_CT_isInView 8 = .ok (.invokestatic 99, 3) := by decide +kernel
theorem d_CT_isInView_11 : decode b_CT_isInView 11 = .ok (.ifCond .ne 7, 3) := by decide +kernel
theorem d_CT_isInView_14 : decode b_CT_isInView 14 = .ok (.iconst 1, 1) := by decide +kernel
theorem d_CT_isInView_15 : decode b_CT_isInView 15 = .ok (.goto 4, 3) := by decide +kernel
theorem d_CT_isInView_18 : decode b_CT_isInView 18 = .ok (.iconst 0, 1) := by decide +kernel
theorem d_CT_isInView_19 : decode b_CT_isInView 19 = .ok (.ireturn, 1) := by decide +kernel
theorem d_CT_isInView_20 : decode b_CT_isInView 20 = .ok (.iload_n 2, 1) := by decide +kernel
theorem d_CT_isInView_21 : decode b_CT_isInView 21 = .ok (.ifCond .eq 12, 3) := by decide +kernel
theorem d_CT_isInView_24 : decode b_CT_isInView 24 = .ok (.lload_n 0, 1) := by decide +kernel
theorem d_CT_isInView_25 : decode b_CT_isInView 25 = .ok (.bipush 16, 2) := by decide +kernel
theorem d_CT_isInView_27 : decode b_CT_isInView 27 = .ok (.invokestatic 99, 3) := by decide +kernel
theorem d_CT_isInView_30 : decode b_CT_isInView 30 = .ok (.ifCond .ne 7, 3) := by decide +kernel
theorem d_CT_isInView_33 : decode b_CT_isInView 33 = .ok (.iconst 1, 1) := by decide +kernel
theorem d_CT_isInView_34 : decode b_CT_isInView 34 = .ok (.goto 4, 3) := by decide +kernel
theorem d_CT_isInView_37 : decode b_CT_isInView 37 = .ok (.iconst 0, 1) := by decide +kernel
theorem d_CT_isInView_38 : decode b_CT_isInView 38 = .ok (.ireturn, 1) := by decide +kernel
def f_CT_isInView_38  (s0 : Int32) (S : zq_S) : Option (zq_S × Int32) :=
  if s0 = 0 ∨ s0 = 1 then some (S, s0) else none
def f_CT_isInView_33   (S : zq_S) : Option (zq_S × Int32) :=
  f_CT_isInView_38  (1 : Int32) S
def f_CT_isInView_19  (s0 : Int32) (S : zq_S) : Option (zq_S × Int32) :=
  if s0 = 0 ∨ s0 = 1 then some (S, s0) else none
def f_CT_isInView (v0 : Int64) (v2 : Int32) (S : zq_S) : Option (zq_S × Int32) :=
  if v2 = (1 : Int32) then
    zs_b (f_Let_get v0 (24 : Int32) S) fun S5 x6 =>
    if x6 = 0 then
      f_CT_isInView_19  (1 : Int32) S5
    else
      f_CT_isInView_19  (0 : Int32) S5
  else
    if v2 = 0 then
      f_CT_isInView_33   S
    else
      zs_b (f_Let_get v0 (16 : Int32) S) fun S2 x3 =>
      if x3 = 0 then
        f_CT_isInView_33   S2
      else
        f_CT_isInView_38  (0 : Int32) S2
set_option maxHeartbeats 4000000 in
set_option maxRecDepth 100000 in
theorem r_CT_isInView_38 {l : Launch} (hl : l.stackTraces = false) {G : zq_G} {S0 T : zq_S} {v : Int32} {X : zq_X} (Z : Z_CT_isInView l G S0 T v X) {s0 : Int32} {S : zq_S} (hf : f_CT_isInView_38  s0 S = some (T, v)) : zq_W (Y_CT_isInView l G S0 T v) X 38 [] [.int s0] S 0 0 := by
  unfold f_CT_isInView_38 at hf
  have hq := zs_C hf
  clear hf
  obtain ⟨h1, hf⟩ := hq
  exact zq_zret Z d_CT_isInView_38 h1 (zs_1 hf) (zs_2 (fun z => (.inl (some (.int z)) : zq_R)) hf) ⟨(Nat.le_of_ble_eq_true rfl), (Nat.le_of_ble_eq_true rfl)⟩
set_option maxHeartbeats 4000000 in
set_option maxRecDepth 100000 in
theorem r_CT_isInView_33 {l : Launch} (hl : l.stackTraces = false) {G : zq_G} {S0 T : zq_S} {v : Int32} {X : zq_X} (Z : Z_CT_isInView l G S0 T v X)  {S : zq_S} (hf : f_CT_isInView_33   S = some (T, v)) : zq_W (Y_CT_isInView l G S0 T v) X 33 [] [] S 0 0 := by
  unfold f_CT_isInView_33 at hf
  refine zq_iconst Z (1 : Int32) d_CT_isInView_33 (by decide) ?_
  refine zq_goto Z 38 d_CT_isInView_34 (by decide) ?_
  refine zq_sub (lo' := []) [] rfl ?_
  exact r_CT_isInView_38 hl Z  hf
set_option maxHeartbeats 4000000 in
set_option maxRecDepth 100000 in
theorem r_CT_isInView_19 {l : Launch} (hl : l.stackTraces = false) {G : zq_G} {S0 T : zq_S} {v : Int32} {X : zq_X} (Z : Z_CT_isInView l G S0 T v X) {s0 : Int32} {S : zq_S} (hf : f_CT_isInView_19  s0 S = some (T, v)) : zq_W (Y_CT_isInView l G S0 T v) X 19 [] [.int s0] S 0 0 := by
  unfold f_CT_isInView_19 at hf
  have hq := zs_C hf
  clear hf
  obtain ⟨h1, hf⟩ := hq
  exact zq_zret Z d_CT_isInView_19 h1 (zs_1 hf) (zs_2 (fun z => (.inl (some (.int z)) : zq_R)) hf) ⟨(Nat.le_of_ble_eq_true rfl), (Nat.le_of_ble_eq_true rfl)⟩
set_option maxHeartbeats 4000000 in
set_option maxRecDepth 100000 in
theorem c_CT_isInView {l : Launch} (hl : l.stackTraces = false) {G : zq_G} {v0 : Int64} {v2 : Int32} {S0 T : zq_S} {v : Int32} (hf : f_CT_isInView v0 v2 S0 = some (T, v)) : zq_M l y_CT_isInView (.code y_CT_isInView b_CT_isInView 3 (some (.boolean))) rm_CT_isInView G [.long v0, .int v2] S0 ((.inl (some (.int v)) : zq_R)) T := by
  refine zq_Mof (lo := [(0, .long v0), (2, .int v2)]) hl (by decide) (Nat.le_of_ble_eq_true rfl) rfl (fun X Z => ?_)
  have Z : Z_CT_isInView l G S0 T v X := Z
  show zq_W (Y_CT_isInView l G S0 T v) X 0 [(0, .long v0), (2, .int v2)] [] S0 0 0
  unfold f_CT_isInView at hf
  refine zq_iload_n Z d_CT_isInView_0 1 rfl ?_
  refine zq_iconst Z (1 : Int32) d_CT_isInView_1 (by decide) ?_
  refine zq_icmp_ne Z 20 d_CT_isInView_2 (by decide) (fun q => ?_) (fun q => ?_)
  · replace hf := zs_N q hf
    refine zq_iload_n Z d_CT_isInView_20 1 rfl ?_
    refine zq_if_eq Z 33 d_CT_isInView_21 (by decide) (fun q => ?_) (fun q => ?_)
    · replace hf := zs_T q hf
      refine zq_sub (lo' := []) [] rfl ?_
      exact r_CT_isInView_33 hl Z  hf
    · replace hf := zs_N q hf
      refine zq_lload_n Z d_CT_isInView_24 0 rfl ?_
      refine zq_bipush Z (16 : Int32) d_CT_isInView_25 (by decide) ?_
      have hq := zs_bS hf
      clear hf
      obtain ⟨S2, x3, h1, hf⟩ := hq
      refine zq_contR (zq_stepS Z zq_cf1 (c_Let_get hl h1) d_CT_isInView_27 m_164 m_165 m_166 m_116 p_Let_get ⟨(Nat.le_of_ble_eq_true rfl), (Nat.le_of_ble_eq_true rfl), (Nat.le_of_ble_eq_true rfl), (Nat.le_of_ble_eq_true rfl)⟩ rfl (Nat.le_of_ble_eq_true rfl)) Z.p ?_
      refine zq_if_ne Z 37 d_CT_isInView_30 (by decide) (fun q => ?_) (fun q => ?_)
      · replace hf := zs_N q hf
        refine zq_iconst Z (0 : Int32) d_CT_isInView_37 (by decide) ?_
        refine zq_sub (lo' := []) [] rfl ?_
        exact r_CT_isInView_38 hl Z  hf
      · replace hf := zs_T q hf
        refine zq_sub (lo' := []) [] rfl ?_
        exact r_CT_isInView_33 hl Z  hf
  · replace hf := zs_T q hf
    refine zq_lload_n Z d_CT_isInView_5 0 rfl ?_
    refine zq_bipush Z (24 : Int32) d_CT_isInView_6 (by decide) ?_
    have hq := zs_bS hf
    clear hf
    obtain ⟨S5, x6, h4, hf⟩ := hq
    refine zq_contR (zq_stepS Z zq_cf1 (c_Let_get hl h4) d_CT_isInView_8 m_164 m_165 m_166 m_116 p_Let_get ⟨(Nat.le_of_ble_eq_true rfl), (Nat.le_of_ble_eq_true rfl), (Nat.le_of_ble_eq_true rfl), (Nat.le_of_ble_eq_true rfl)⟩ rfl (Nat.le_of_ble_eq_true rfl)) Z.p ?_
    refine zq_if_ne Z 18 d_CT_isInView_11 (by decide) (fun q => ?_) (fun q => ?_)
    · replace hf := zs_N q hf
      refine zq_iconst Z (0 : Int32) d_CT_isInView_18 (by decide) ?_
      refine zq_sub (lo' := []) [] rfl ?_
      exact r_CT_isInView_19 hl Z  hf
    · replace hf := zs_T q hf
      refine zq_iconst Z (1 : Int32) d_CT_isInView_14 (by decide) ?_
      refine zq_goto Z 19 d_CT_isInView_15 (by decide) ?_
      refine zq_sub (lo' := []) [] rfl ?_
      exact r_CT_isInView_19 hl Z  hf
theorem d_CT_length_0 : decode b_CT_length 0 = .ok (.iload_n 1, 1) := by decide +kernel
theorem d_CT_length_1 : decode b_CT_length 1 = .ok (.invokestatic 138, 3) := by decide +kernel
theorem d_CT_length_4 : decode b_CT_length 4 = .ok (.ifCond .ne 5, 3) := by decide +kernel
theorem d_CT_length_7 : decode b_CT_length 7 = .ok (.iconst (-1), 1) := by decide +kernel
theorem d_CT_length_8 : decode b_CT_length 8 = .ok (.ireturn, 1) := by decide +kernel
theorem d_CT_length_9 : decode b_CT_length 9 = .ok (.iconst 0, 1) := by decide +kernel
theorem d_CT_length_10 : decode b_CT_length 10 = .ok (.istore_n 2, 1) := by decide +kernel
theorem d_CT_length_11 : decode b_CT_length 11 = .ok (.iconst 0, 1) := by decide +kernel
theorem d_CT_length_12 : decode b_CT_length 12 = .ok (.istore_n 3, 1) := by decide +kernel
theorem d_CT_length_13 : decode b_CT_length 13 = .ok (.iload_n 3, 1) := by decide +kernel
theorem d_CT_length_14 : decode b_CT_length 14 = .ok (.aload_n 0, 1) := by decide +kernel
theorem d_CT_length_15 : decode b_CT_length 15 = .ok (.getfield 23, 3) := by decide +kernel
theorem d_CT_length_18 : decode b_CT_length 18 = .ok (.getfield 59, 3) := by decide +kernel
theorem d_CT_length_21 : decode b_CT_length 21 = .ok (.if_icmp .ge 27, 3) := by decide +kernel
theorem d_CT_length_24 : decode b_CT_length 24 = .ok (.aload_n 0, 1) := by decide +kernel
theorem d_CT_length_25 : decode b_CT_length 25 = .ok (.getfield 23, 3) := by decide +kernel
theorem d_CT_length_28 : decode b_CT_length 28 = .ok (.iload_n 3, 1) := by decide +kernel
theorem d_CT_length_29 : decode b_CT_length 29 = .ok (.invokevirtual 91, 3) := by decide +kernel
theorem d_CT_length_32 : decode b_CT_length 32 = .ok (.iload_n 1, 1) := by decide +kernel
theorem d_CT_length_33 : decode b_CT_length 33 = .ok (.invokestatic 142, 3) := by decide +kernel
theorem d_CT_length_36 : decode b_CT_length 36 = .ok (.ifCond .eq 6, 3) := by decide +kernel
theorem d_CT_length_39 : decode b_CT_length 39 = .ok (.iinc 2 1, 3) := by decide +kernel
theorem d_CT_length_42 : decode b_CT_length 42 = .ok (.iinc 3 1, 3) := by decide +kernel
theorem d_CT_length_45 : decode b_CT_length 45 = .ok (.goto (-32), 3) := by decide +kernel
theorem d_CT_length_48 : decode b_CT_length 48 = .ok (.iload_n 2, 1) := by decide +kernel
theorem d_CT_length_49 : decode b_CT_length 49 = .ok (.ireturn, 1) := by decide +kernel
def f_CT_length_42 (k13 : Nat → Int32 → Int32 → Int32 → zq_S → Option (zq_S × Int32)) (a0 : Nat) (v1 : Int32) (v2 : Int32) (v3 : Int32) (S : zq_S) : Option (zq_S × Int32) :=
  k13 a0 v1 v2 (v3 + (1 : Int32)) S
def f_CT_length_13 (k13 : Nat → Int32 → Int32 → Int32 → zq_S → Option (zq_S × Int32)) (a0 : Nat) (v1 : Int32) (v2 : Int32) (v3 : Int32) (S : zq_S) : Option (zq_S × Int32) :=
  (zs_gr S a0 3 2).bind fun x1 =>
  (x1).bind fun a3 =>
  (zs_gi S a3 0 1).bind fun x5 =>
  if x5 ≤ v3 then
    some (S, v2)
  else
    (zs_gr S a0 3 2).bind fun x7 =>
    (x7).bind fun a9 =>
    if zs_is S a9 0 = true then
    zs_b (f_Text_at a9 v3 S) fun S12 x13 =>
    zs_b (f_CT_isInView x13 v1 S12) fun S18 x19 =>
    if x19 = 0 then
      f_CT_length_42 k13 a0 v1 v2 v3 S18
    else
      f_CT_length_42 k13 a0 v1 (v2 + (1 : Int32)) v3 S18
    else none
def g_CT_length_13  : Nat → Nat → Int32 → Int32 → Int32 → zq_S → Option (zq_S × Int32)
  | 0 => fun _ _ _ _ _ => none
  | n + 1 => fun a0 v1 v2 v3 S => f_CT_length_13  (g_CT_length_13  n) a0 v1 v2 v3 S
def f_CT_length (a0 : Nat) (v1 : Int32) (S : zq_S) : Option (zq_S × Int32) :=
  zs_b (f_CT_isView v1 S) fun S2 x3 =>
  if x3 = 0 then
    some (S2, (-1 : Int32))
  else
    g_CT_length_13  zq_F a0 v1 (0 : Int32) (0 : Int32) S2
set_option maxHeartbeats 4000000 in
set_option maxRecDepth 100000 in
theorem r_CT_length_42 {l : Launch} (hl : l.stackTraces = false) {G : zq_G} {S0 T : zq_S} {v : Int32} {X : zq_X} (Z : Z_CT_length l G S0 T v X) {k13 : Nat → Int32 → Int32 → Int32 → zq_S → Option (zq_S × Int32)} (hk13 : ∀ (a0 : Nat) (v1 : Int32) (v2 : Int32) (v3 : Int32) (S : zq_S), k13 a0 v1 v2 v3 S = some (T, v) → zq_W (Y_CT_length l G S0 T v) X 13 [(0, .ref a0), (1, .int v1), (2, .int v2), (3, .int v3)] [] S 0 0) {a0 : Nat} {v1 : Int32} {v2 : Int32} {v3 : Int32} {S : zq_S} (hf : f_CT_length_42 k13 a0 v1 v2 v3 S = some (T, v)) : zq_W (Y_CT_length l G S0 T v) X 42 [(0, .ref a0), (1, .int v1), (2, .int v2), (3, .int v3)] [] S 0 0 := by
  unfold f_CT_length_42 at hf
  refine zq_iinc Z (v3 + (1 : Int32)) [(3, .int (v3 + (1 : Int32))), (0, .ref a0), (1, .int v1), (2, .int v2)] d_CT_length_42 3 rfl rfl (by decide) rfl ?_
  refine zq_goto Z 13 d_CT_length_45 (by decide) ?_
  refine zq_sub (lo' := [(0, .ref a0), (1, .int v1), (2, .int v2), (3, .int (v3 + (1 : Int32)))]) [1, 2, 3, 0] rfl ?_
  exact hk13 _ _ _ _ _ hf
set_option maxHeartbeats 4000000 in
set_option maxRecDepth 100000 in
theorem r_CT_length_13 {l : Launch} (hl : l.stackTraces = false) {G : zq_G} {S0 T : zq_S} {v : Int32} {X : zq_X} (Z : Z_CT_length l G S0 T v X) {k13 : Nat → Int32 → Int32 → Int32 → zq_S → Option (zq_S × Int32)} (hk13 : ∀ (a0 : Nat) (v1 : Int32) (v2 : Int32) (v3 : Int32) (S : zq_S), k13 a0 v1 v2 v3 S = some (T, v) → zq_W (Y_CT_length l G S0 T v) X 13 [(0, .ref a0), (1, .int v1), (2, .int v2), (3, .int v3)] [] S 0 0) {a0 : Nat} {v1 : Int32} {v2 : Int32} {v3 : Int32} {S : zq_S} (hf : f_CT_length_13 k13 a0 v1 v2 v3 S = some (T, v)) : zq_W (Y_CT_length l G S0 T v) X 13 [(0, .ref a0), (1, .int v1), (2, .int v2), (3, .int v3)] [] S 0 0 := by
  unfold f_CT_length_13 at hf
  refine zq_iload_n Z d_CT_length_13 3 rfl ?_
  refine zq_aload_n Z d_CT_length_14 0 rfl ?_
  have hq := Option.bind_eq_some_iff.mp hf
  clear hf
  obtain ⟨x1, h2, hf⟩ := hq
  refine zr_getr Z cd_CT 2 d_CT_length_15 (by decide) m_91 h2 ?_
  have hq := Option.bind_eq_some_iff.mp hf
  clear hf
  obtain ⟨a3, h4, hf⟩ := hq
  subst h4
  have hq := Option.bind_eq_some_iff.mp hf
  clear hf
  obtain ⟨x5, h6, hf⟩ := hq
  refine zr_geti Z cd_Text 1 d_CT_length_18 (by decide) m_103 h6 ?_
  refine zq_icmp_ge Z 48 d_CT_length_21 (by decide) (fun q => ?_) (fun q => ?_)
  · replace hf := zs_T q hf
    refine zq_iload_n Z d_CT_length_48 2 rfl ?_
    exact zq_iret Z d_CT_length_49 (zs_1 hf) (zs_2 (fun z => (.inl (some (.int z)) : zq_R)) hf) ⟨(Nat.le_of_ble_eq_true rfl), (Nat.le_of_ble_eq_true rfl)⟩
  · replace hf := zs_N q hf
    refine zq_aload_n Z d_CT_length_24 0 rfl ?_
    have hq := Option.bind_eq_some_iff.mp hf
    clear hf
    obtain ⟨x7, h8, hf⟩ := hq
    refine zr_getr Z cd_CT 2 d_CT_length_25 (by decide) m_91 h8 ?_
    refine zq_iload_n Z d_CT_length_28 3 rfl ?_
    have hq := Option.bind_eq_some_iff.mp hf
    clear hf
    obtain ⟨a9, h10, hf⟩ := hq
    subst h10
    have hq := zs_C hf
    clear hf
    obtain ⟨h14, hf⟩ := hq
    obtain ⟨fs15, e16⟩ := zs_isS h14
    have hq := zs_bS hf
    clear hf
    obtain ⟨S12, x13, h11, hf⟩ := hq
    refine zq_contR (zq_stepV Z zq_cf1 (c_Text_at hl h11) 0 rfl e16 d_CT_length_29 m_14 m_172 m_17 m_15 m_18 p_Text_at ⟨(Nat.le_of_ble_eq_true rfl), (Nat.le_of_ble_eq_true rfl), (Nat.le_of_ble_eq_true rfl), (Nat.le_of_ble_eq_true rfl)⟩ rfl (Nat.le_of_ble_eq_true rfl)) Z.p ?_
    refine zq_iload_n Z d_CT_length_32 1 rfl ?_
    have hq := zs_bS hf
    clear hf
    obtain ⟨S18, x19, h17, hf⟩ := hq
    refine zq_contR (zq_stepS Z zq_cf1 (c_CT_isInView hl h17) d_CT_length_33 m_230 m_231 m_232 m_108 p_CT_isInView ⟨(Nat.le_of_ble_eq_true rfl), (Nat.le_of_ble_eq_true rfl), (Nat.le_of_ble_eq_true rfl), (Nat.le_of_ble_eq_true rfl)⟩ rfl (Nat.le_of_ble_eq_true rfl)) Z.p ?_
    refine zq_if_eq Z 42 d_CT_length_36 (by decide) (fun q => ?_) (fun q => ?_)
    · replace hf := zs_T q hf
      refine zq_sub (lo' := [(0, .ref a0), (1, .int v1), (2, .int v2), (3, .int v3)]) [0, 1, 2, 3] rfl ?_
      exact r_CT_length_42 hl Z hk13 hf
    · replace hf := zs_N q hf
      refine zq_iinc Z (v2 + (1 : Int32)) [(2, .int (v2 + (1 : Int32))), (0, .ref a0), (1, .int v1), (3, .int v3)] d_CT_length_39 2 rfl rfl (by decide) rfl ?_
      refine zq_sub (lo' := [(0, .ref a0), (1, .int v1), (2, .int (v2 + (1 : Int32))), (3, .int v3)]) [1, 2, 0, 3] rfl ?_
      exact r_CT_length_42 hl Z hk13 hf
theorem w_CT_length_13 {l : Launch} (hl : l.stackTraces = false) {G : zq_G} {S0 T : zq_S} {v : Int32} {X : zq_X} (Z : Z_CT_length l G S0 T v X) : ∀ (n : Nat) (a0 : Nat) (v1 : Int32) (v2 : Int32) (v3 : Int32) (S : zq_S), g_CT_length_13  n a0 v1 v2 v3 S = some (T, v) → zq_W (Y_CT_length l G S0 T v) X 13 [(0, .ref a0), (1, .int v1), (2, .int v2), (3, .int v3)] [] S 0 0 := by
  intro n
  induction n with
  | zero => intro a0 v1 v2 v3 S hf; cases hf
  | succ n ih =>
    intro a0 v1 v2 v3 S hf
    have hf : f_CT_length_13  (g_CT_length_13  n) a0 v1 v2 v3 S = some (T, v) := hf
    exact r_CT_length_13 hl Z  ih hf
set_option maxHeartbeats 4000000 in
set_option maxRecDepth 100000 in
theorem c_CT_length {l : Launch} (hl : l.stackTraces = false) {G : zq_G} {a0 : Nat} {v1 : Int32} {S0 T : zq_S} {v : Int32} (hf : f_CT_length a0 v1 S0 = some (T, v)) : zq_M l y_CT_length (.code y_CT_length b_CT_length 4 (some (.int))) rm_CT_length G [.ref a0, .int v1] S0 ((.inl (some (.int v)) : zq_R)) T := by
  refine zq_Mof (lo := [(0, .ref a0), (1, .int v1)]) hl (by decide) (Nat.le_of_ble_eq_true rfl) rfl (fun X Z => ?_)
  have Z : Z_CT_length l G S0 T v X := Z
  show zq_W (Y_CT_length l G S0 T v) X 0 [(0, .ref a0), (1, .int v1)] [] S0 0 0
  unfold f_CT_length at hf
  refine zq_iload_n Z d_CT_length_0 1 rfl ?_
  have hq := zs_bS hf
  clear hf
  obtain ⟨S2, x3, h1, hf⟩ := hq
  refine zq_contR (zq_stepS Z zq_cf1 (c_CT_isView hl h1) d_CT_length_1 m_233 m_234 m_235 m_108 p_CT_isView ⟨(Nat.le_of_ble_eq_true rfl), (Nat.le_of_ble_eq_true rfl), (Nat.le_of_ble_eq_true rfl), (Nat.le_of_ble_eq_true rfl)⟩ rfl (Nat.le_of_ble_eq_true rfl)) Z.p ?_
  refine zq_if_ne Z 9 d_CT_length_4 (by decide) (fun q => ?_) (fun q => ?_)
  · replace hf := zs_N q hf
    refine zq_iconst Z (0 : Int32) d_CT_length_9 (by decide) ?_
    refine zq_istore_n Z rfl [(2, .int (0 : Int32)), (0, .ref a0), (1, .int v1)] d_CT_length_10 (by decide) rfl ?_
    refine zq_iconst Z (0 : Int32) d_CT_length_11 (by decide) ?_
    refine zq_istore_n Z rfl [(3, .int (0 : Int32)), (2, .int (0 : Int32)), (0, .ref a0), (1, .int v1)] d_CT_length_12 (by decide) rfl ?_
    refine zq_sub (lo' := [(0, .ref a0), (1, .int v1), (2, .int (0 : Int32)), (3, .int (0 : Int32))]) [2, 3, 1, 0] rfl ?_
    exact w_CT_length_13 hl Z  _ _ _ _ _ _ hf
  · replace hf := zs_T q hf
    refine zq_iconst Z (-1 : Int32) d_CT_length_7 (by decide) ?_
    exact zq_iret Z d_CT_length_8 (zs_1 hf) (zs_2 (fun z => (.inl (some (.int z)) : zq_R)) hf) ⟨(Nat.le_of_ble_eq_true rfl), (Nat.le_of_ble_eq_true rfl)⟩
theorem d_CT_placeOfSeen_0 : decode b_CT_placeOfSeen 0 = .ok (.iconst 0, 1) := by decide +kernel
theorem d_CT_placeOfSeen_1 : decode b_CT_placeOfSeen 1 = .ok (.istore_n 3, 1) := by decide +kernel
theorem d_CT_placeOfSeen_2 : decode b_CT_placeOfSeen 2 = .ok (.iconst 0, 1) := by decide +kernel
theorem d_CT_placeOfSeen_3 : decode b_CT_placeOfSeen 3 = .ok (.istore 4, 2) := by decide +kernel
theorem d_CT_placeOfSeen_5 : decode b_CT_placeOfSeen 5 = .ok (.iload 4, 2) := by decide +kernel
theorem d_CT_placeOfSeen_7 : decode b_CT_placeOfSeen 7 = .ok (.aload_n 0, 1) := by decide +kernel
theorem d_CT_placeOfSeen_8 : decode b_CT_placeOfSeen 8 = .ok (.getfield 23, 3) := by decide +kernel
theorem d_CT_placeOfSeen_11 : decode b_CT_placeOfSeen 11 = .ok (.getfield 59, 3) := by decide +kernel
theorem d_CT_placeOfSeen_14 : decode b_CT_placeOfSeen 14 = .ok (.if_icmp .ge 36, 3) := by decide +kernel
theorem d_CT_placeOfSeen_17 : decode b_CT_placeOfSeen 17 = .ok (.aload_n 0, 1) := by decide +kernel
theorem d_CT_placeOfSeen_18 : decode b_CT_placeOfSeen 18 = .ok (.getfield 23, 3) := by decide +kernel
theorem d_CT_placeOfSeen_21 : decode b_CT_placeOfSeen 21 = .ok (.iload 4, 2) := by decide +kernel
theorem d_CT_placeOfSeen_23 : decode b_CT_placeOfSeen 23 = .ok (.invokevirtual 91, 3) := by decide +kernel
theorem d_CT_placeOfSeen_26 : decode b_CT_placeOfSeen 26 = .ok (.iload_n 1, 1) := by decide +kernel
theorem d_CT_placeOfSeen_27 : decode b_CT_placeOfSeen 27 = .ok (.invokestatic 142, 3) := by decide +kernel
theorem d_CT_placeOfSeen_30 : decode b_CT_placeOfSeen 30 = .ok (.ifCond .eq 14, 3) := by decide +kernel
theorem d_CT_placeOfSeen_33 : decode b_CT_placeOfSeen 33 = .ok (.iload_n 3, 1) := by decide +kernel
theorem d_CT_placeOfSeen_34 : decode b_CT_placeOfSeen 34 = .ok (.iload_n 2, 1) := by decide +kernel
theorem d_CT_placeOfSeen_35 : decode b_CT_placeOfSeen 35 = .ok (.if_icmp .ne 6, 3) := by decide +kernel
theorem d_CT_placeOfSeen_38 : decode b_CT_placeOfSeen 38 = .ok (.iload 4, 2) := by decide +kernel
theorem d_CT_placeOfSeen_40 : decode b_CT_placeOfSeen 40 = .ok (.ireturn, 1) := by decide +kernel
theorem d_CT_placeOfSeen_41 : decode b_CT_placeOfSeen 41 = .ok (.iinc 3 1, 3) := by decide +kernel
theorem d_CT_placeOfSeen_44 : decode b_CT_placeOfSeen 44 = .ok (.iinc 4 1, 3) := by decide +kernel
theorem d_CT_placeOfSeen_47 : decode b_CT_placeOfSeen 47 = .ok (.goto (-42), 3) := by decide +kernel
theorem d_CT_placeOfSeen_50 : decode b_CT_placeOfSeen 50 = .ok (.iconst (-1), 1) := by decide +kernel
theorem d_CT_placeOfSeen_51 : decode b_CT_placeOfSeen 51 = .ok (.ireturn, 1) := by decide +kernel
def f_CT_placeOfSeen_44 (k5 : Nat → Int32 → Int32 → Int32 → Int32 → zq_S → Option (zq_S × Int32)) (a0 : Nat) (v1 : Int32) (v2 : Int32) (v3 : Int32) (v4 : Int32) (S : zq_S) : Option (zq_S × Int32) :=
  k5 a0 v1 v2 v3 (v4 + (1 : Int32)) S
def f_CT_placeOfSeen_5 (k5 : Nat → Int32 → Int32 → Int32 → Int32 → zq_S → Option (zq_S × Int32)) (a0 : Nat) (v1 : Int32) (v2 : Int32) (v3 : Int32) (v4 : Int32) (S : zq_S) : Option (zq_S × Int32) :=
  (zs_gr S a0 3 2).bind fun x1 =>
  (x1).bind fun a3 =>
  (zs_gi S a3 0 1).bind fun x5 =>
  if x5 ≤ v4 then
    some (S, (-1 : Int32))
  else
    (zs_gr S a0 3 2).bind fun x7 =>
    (x7).bind fun a9 =>
    if zs_is S a9 0 = true then
    zs_b (f_Text_at a9 v4 S) fun S12 x13 =>
    zs_b (f_CT_isInView x13 v1 S12) fun S18 x19 =>
    if x19 = 0 then
      f_CT_placeOfSeen_44 k5 a0 v1 v2 v3 v4 S18
    else
      if v3 = v2 then
        some (S18, v4)
      else
        f_CT_placeOfSeen_44 k5 a0 v1 v2 (v3 + (1 : Int32)) v4 S18
    else none
def g_CT_placeOfSeen_5  : Nat → Nat → Int32 → Int32 → Int32 → Int32 → zq_S → Option (zq_S × Int32)
  | 0 => fun _ _ _ _ _ _ => none
  | n + 1 => fun a0 v1 v2 v3 v4 S => f_CT_placeOfSeen_5  (g_CT_placeOfSeen_5  n) a0 v1 v2 v3 v4 S
def f_CT_placeOfSeen (a0 : Nat) (v1 : Int32) (v2 : Int32) (S : zq_S) : Option (zq_S × Int32) :=
  g_CT_placeOfSeen_5  zq_F a0 v1 v2 (0 : Int32) (0 : Int32) S
set_option maxHeartbeats 4000000 in
set_option maxRecDepth 100000 in
theorem r_CT_placeOfSeen_44 {l : Launch} (hl : l.stackTraces = false) {G : zq_G} {S0 T : zq_S} {v : Int32} {X : zq_X} (Z : Z_CT_placeOfSeen l G S0 T v X) {k5 : Nat → Int32 → Int32 → Int32 → Int32 → zq_S → Option (zq_S × Int32)} (hk5 : ∀ (a0 : Nat) (v1 : Int32) (v2 : Int32) (v3 : Int32) (v4 : Int32) (S : zq_S), k5 a0 v1 v2 v3 v4 S = some (T, v) → zq_W (Y_CT_placeOfSeen l G S0 T v) X 5 [(0, .ref a0), (1, .int v1), (2, .int v2), (3, .int v3), (4, .int v4)] [] S 0 0) {a0 : Nat} {v1 : Int32} {v2 : Int32} {v3 : Int32} {v4 : Int32} {S : zq_S} (hf : f_CT_placeOfSeen_44 k5 a0 v1 v2 v3 v4 S = some (T, v)) : zq_W (Y_CT_placeOfSeen l G S0 T v) X 44 [(0, .ref a0), (1, .int v1), (2, .int v2), (3, .int v3), (4, .int v4)] [] S 0 0 := by
  unfold f_CT_placeOfSeen_44 at hf
  refine zq_iinc Z (v4 + (1 : Int32)) [(4, .int (v4 + (1 : Int32))), (0, .ref a0), (1, .int v1), (2, .int v2), (3, .int v3)] d_CT_placeOfSeen_44 4 rfl rfl (by decide) rfl ?_
  refine zq_goto Z 5 d_CT_placeOfSeen_47 (by decide) ?_
  refine zq_sub (lo' := [(0, .ref a0), (1, .int v1), (2, .int v2), (3, .int v3), (4, .int (v4 + (1 : Int32)))]) [1, 2, 3, 4, 0] rfl ?_
  exact hk5 _ _ _ _ _ _ hf
set_option maxHeartbeats 4000000 in
set_option maxRecDepth 100000 in
theorem r_CT_placeOfSeen_5 {l : Launch} (hl : l.stackTraces = false) {G : zq_G} {S0 T : zq_S} {v : Int32} {X : zq_X} (Z : Z_CT_placeOfSeen l G S0 T v X) {k5 : Nat → Int32 → Int32 → Int32 → Int32 → zq_S → Option (zq_S × Int32)} (hk5 : ∀ (a0 : Nat) (v1 : Int32) (v2 : Int32) (v3 : Int32) (v4 : Int32) (S : zq_S), k5 a0 v1 v2 v3 v4 S = some (T, v) → zq_W (Y_CT_placeOfSeen l G S0 T v) X 5 [(0, .ref a0), (1, .int v1), (2, .int v2), (3, .int v3), (4, .int v4)] [] S 0 0) {a0 : Nat} {v1 : Int32} {v2 : Int32} {v3 : Int32} {v4 : Int32} {S : zq_S} (hf : f_CT_placeOfSeen_5 k5 a0 v1 v2 v3 v4 S = some (T, v)) : zq_W (Y_CT_placeOfSeen l G S0 T v) X 5 [(0, .ref a0), (1, .int v1), (2, .int v2), (3, .int v3), (4, .int v4)] [] S 0 0 := by
  unfold f_CT_placeOfSeen_5 at hf
  refine zq_iload Z d_CT_placeOfSeen_5 4 rfl ?_
  refine zq_aload_n Z d_CT_placeOfSeen_7 0 rfl ?_
  have hq := Option.bind_eq_some_iff.mp hf
  clear hf
  obtain ⟨x1, h2, hf⟩ := hq
  refine zr_getr Z cd_CT 2 d_CT_placeOfSeen_8 (by decide) m_91 h2 ?_
  have hq := Option.bind_eq_some_iff.mp hf
  clear hf
  obtain ⟨a3, h4, hf⟩ := hq
  subst h4
  have hq := Option.bind_eq_some_iff.mp hf
  clear hf
  obtain ⟨x5, h6, hf⟩ := hq
  refine zr_geti Z cd_Text 1 d_CT_placeOfSeen_11 (by decide) m_103 h6 ?_
  refine zq_icmp_ge Z 50 d_CT_placeOfSeen_14 (by decide) (fun q => ?_) (fun q => ?_)
  · replace hf := zs_T q hf
    refine zq_iconst Z (-1 : Int32) d_CT_placeOfSeen_50 (by decide) ?_
    exact zq_iret Z d_CT_placeOfSeen_51 (zs_1 hf) (zs_2 (fun z => (.inl (some (.int z)) : zq_R)) hf) ⟨(Nat.le_of_ble_eq_true rfl), (Nat.le_of_ble_eq_true rfl)⟩
  · replace hf := zs_N q hf
    refine zq_aload_n Z d_CT_placeOfSeen_17 0 rfl ?_
    have hq := Option.bind_eq_some_iff.mp hf
    clear hf
    obtain ⟨x7, h8, hf⟩ := hq
    refine zr_getr Z cd_CT 2 d_CT_placeOfSeen_18 (by decide) m_91 h8 ?_
    refine zq_iload Z d_CT_placeOfSeen_21 4 rfl ?_
    have hq := Option.bind_eq_some_iff.mp hf
    clear hf
    obtain ⟨a9, h10, hf⟩ := hq
    subst h10
    have hq := zs_C hf
    clear hf
    obtain ⟨h14, hf⟩ := hq
    obtain ⟨fs15, e16⟩ := zs_isS h14
    have hq := zs_bS hf
    clear hf
    obtain ⟨S12, x13, h11, hf⟩ := hq
    refine zq_contR (zq_stepV Z zq_cf1 (c_Text_at hl h11) 0 rfl e16 d_CT_placeOfSeen_23 m_14 m_172 m_17 m_15 m_18 p_Text_at ⟨(Nat.le_of_ble_eq_true rfl), (Nat.le_of_ble_eq_true rfl), (Nat.le_of_ble_eq_true rfl), (Nat.le_of_ble_eq_true rfl)⟩ rfl (Nat.le_of_ble_eq_true rfl)) Z.p ?_
    refine zq_iload_n Z d_CT_placeOfSeen_26 1 rfl ?_
    have hq := zs_bS hf
    clear hf
    obtain ⟨S18, x19, h17, hf⟩ := hq
    refine zq_contR (zq_stepS Z zq_cf1 (c_CT_isInView hl h17) d_CT_placeOfSeen_27 m_230 m_231 m_232 m_108 p_CT_isInView ⟨(Nat.le_of_ble_eq_true rfl), (Nat.le_of_ble_eq_true rfl), (Nat.le_of_ble_eq_true rfl), (Nat.le_of_ble_eq_true rfl)⟩ rfl (Nat.le_of_ble_eq_true rfl)) Z.p ?_
    refine zq_if_eq Z 44 d_CT_placeOfSeen_30 (by decide) (fun q => ?_) (fun q => ?_)
    · replace hf := zs_T q hf
      refine zq_sub (lo' := [(0, .ref a0), (1, .int v1), (2, .int v2), (3, .int v3), (4, .int v4)]) [0, 1, 2, 3, 4] rfl ?_
      exact r_CT_placeOfSeen_44 hl Z hk5 hf
    · replace hf := zs_N q hf
      refine zq_iload_n Z d_CT_placeOfSeen_33 3 rfl ?_
      refine zq_iload_n Z d_CT_placeOfSeen_34 2 rfl ?_
      refine zq_icmp_ne Z 41 d_CT_placeOfSeen_35 (by decide) (fun q => ?_) (fun q => ?_)
      · replace hf := zs_N q hf
        refine zq_iinc Z (v3 + (1 : Int32)) [(3, .int (v3 + (1 : Int32))), (0, .ref a0), (1, .int v1), (2, .int v2), (4, .int v4)] d_CT_placeOfSeen_41 3 rfl rfl (by decide) rfl ?_
        refine zq_sub (lo' := [(0, .ref a0), (1, .int v1), (2, .int v2), (3, .int (v3 + (1 : Int32))), (4, .int v4)]) [1, 2, 3, 0, 4] rfl ?_
        exact r_CT_placeOfSeen_44 hl Z hk5 hf
      · replace hf := zs_T q hf
        refine zq_iload Z d_CT_placeOfSeen_38 4 rfl ?_
        exact zq_iret Z d_CT_placeOfSeen_40 (zs_1 hf) (zs_2 (fun z => (.inl (some (.int z)) : zq_R)) hf) ⟨(Nat.le_of_ble_eq_true rfl), (Nat.le_of_ble_eq_true rfl)⟩
theorem w_CT_placeOfSeen_5 {l : Launch} (hl : l.stackTraces = false) {G : zq_G} {S0 T : zq_S} {v : Int32} {X : zq_X} (Z : Z_CT_placeOfSeen l G S0 T v X) : ∀ (n : Nat) (a0 : Nat) (v1 : Int32) (v2 : Int32) (v3 : Int32) (v4 : Int32) (S : zq_S), g_CT_placeOfSeen_5  n a0 v1 v2 v3 v4 S = some (T, v) → zq_W (Y_CT_placeOfSeen l G S0 T v) X 5 [(0, .ref a0), (1, .int v1), (2, .int v2), (3, .int v3), (4, .int v4)] [] S 0 0 := by
  intro n
  induction n with
  | zero => intro a0 v1 v2 v3 v4 S hf; cases hf
  | succ n ih =>
    intro a0 v1 v2 v3 v4 S hf
    have hf : f_CT_placeOfSeen_5  (g_CT_placeOfSeen_5  n) a0 v1 v2 v3 v4 S = some (T, v) := hf
    exact r_CT_placeOfSeen_5 hl Z  ih hf
set_option maxHeartbeats 4000000 in
set_option maxRecDepth 100000 in
theorem c_CT_placeOfSeen {l : Launch} (hl : l.stackTraces = false) {G : zq_G} {a0 : Nat} {v1 : Int32} {v2 : Int32} {S0 T : zq_S} {v : Int32} (hf : f_CT_placeOfSeen a0 v1 v2 S0 = some (T, v)) : zq_M l y_CT_placeOfSeen (.code y_CT_placeOfSeen b_CT_placeOfSeen 5 (some (.int))) rm_CT_placeOfSeen G [.ref a0, .int v1, .int v2] S0 ((.inl (some (.int v)) : zq_R)) T := by
  refine zq_Mof (lo := [(0, .ref a0), (1, .int v1), (2, .int v2)]) hl (by decide) (Nat.le_of_ble_eq_true rfl) rfl (fun X Z => ?_)
  have Z : Z_CT_placeOfSeen l G S0 T v X := Z
  show zq_W (Y_CT_placeOfSeen l G S0 T v) X 0 [(0, .ref a0), (1, .int v1), (2, .int v2)] [] S0 0 0
  unfold f_CT_placeOfSeen at hf
  refine zq_iconst Z (0 : Int32) d_CT_placeOfSeen_0 (by decide) ?_
  refine zq_istore_n Z rfl [(3, .int (0 : Int32)), (0, .ref a0), (1, .int v1), (2, .int v2)] d_CT_placeOfSeen_1 (by decide) rfl ?_
  refine zq_iconst Z (0 : Int32) d_CT_placeOfSeen_2 (by decide) ?_
  refine zq_istore Z [(4, .int (0 : Int32)), (3, .int (0 : Int32)), (0, .ref a0), (1, .int v1), (2, .int v2)] d_CT_placeOfSeen_3 (by decide) rfl ?_
  refine zq_sub (lo' := [(0, .ref a0), (1, .int v1), (2, .int v2), (3, .int (0 : Int32)), (4, .int (0 : Int32))]) [2, 3, 4, 1, 0] rfl ?_
  exact w_CT_placeOfSeen_5 hl Z  _ _ _ _ _ _ _ hf
