theorem d_Group_init_0 : decode b_Group_init 0 = .ok (.aload_n 0, 1) := by decide +kernel
theorem d_Group_init_1 : decode b_Group_init 1 = .ok (.invokespecial 1, 3) := by decide +kernel
theorem d_Group_init_4 : decode b_Group_init 4 = .ok (.aload_n 0, 1) := by decide +kernel
theorem d_Group_init_5 : decode b_Group_init 5 = .ok (.new 7, 3) := by decide +kernel
theorem d_Group_init_8 : decode b_Group_init 8 = .ok (.dup, 1) := by decide +kernel
theorem d_Group_init_9 : decode b_Group_init 9 = .ok (.invokespecial 9, 3) := by decide +kernel
theorem d_Group_init_12 : decode b_Group_init 12 = .ok (.putfield 10, 3) := by decide +kernel
theorem d_Group_init_15 : decode b_Group_init 15 = .ok (.aload_n 0, 1) := by decide +kernel
theorem d_Group_init_16 : decode b_Group_init 16 = .ok (.iconst 0, 1) := by decide +kernel
theorem d_Group_init_17 : decode b_Group_init 17 = .ok (.putfield 16, 3) := by decide +kernel
theorem d_Group_init_20 : decode b_Group_init 20 = .ok (.aload_n 0, 1) := by decide +kernel
theorem d_Group_init_21 : decode b_Group_init 21 = .ok (.iconst 0, 1) := by decide +kernel
theorem d_Group_init_22 : decode b_Group_init 22 = .ok (.putfield 20, 3) := by decide +kernel
theorem d_Group_init_25 : decode b_Group_init 25 = .ok (.return_, 1) := by decide +kernel
def f_Group_init (a0 : Nat) (S : zq_S) : Option (zq_S × Unit) :=
  zs_b (f_Text_init (S.2.1) (zq_n S (.inr (0, [.null, .int 0])))) fun S6 _ =>
  (zs_p S6 a0 1 0 (va_rf (some (S.2.1)))).bind fun S8 =>
  (zs_p S8 a0 1 1 (.int (0 : Int32))).bind fun S10 =>
  (zs_p S10 a0 1 2 (.int (0 : Int32))).bind fun S12 =>
  some (S12, ())
set_option maxHeartbeats 4000000 in
set_option maxRecDepth 100000 in
theorem c_Group_init {l : Launch} (hl : l.stackTraces = false) {G : zq_G} {a0 : Nat} {S0 T : zq_S} {v : Unit} (hf : f_Group_init a0 S0 = some (T, v)) : zq_M l y_Group_init (.code y_Group_init b_Group_init 1 none) rm_Group_init G [.ref a0] S0 ((.inl none : zq_R)) T := by
  refine zq_Mof (lo := [(0, .ref a0)]) hl (by decide) (Nat.le_of_ble_eq_true rfl) rfl (fun X Z => ?_)
  have Z : Z_Group_init l G S0 T v X := Z
  show zq_W (Y_Group_init l G S0 T v) X 0 [(0, .ref a0)] [] S0 0 0
  unfold f_Group_init at hf
  refine zq_aload_n Z d_Group_init_0 0 rfl ?_
  refine zq_objInit Z d_Group_init_1 m_19 m_1 m_2 (Nat.le_of_ble_eq_true rfl) (Nat.le_of_ble_eq_true rfl) ?_
  refine zq_aload_n Z d_Group_init_4 0 rfl ?_
  refine zq_new Z cd_Text d_Group_init_5 m_20 m_21 m_18 [.null, .int 0] (by decide) ⟨(Nat.le_of_ble_eq_true rfl), (Nat.le_of_ble_eq_true rfl)⟩ ?_
  refine zq_dup Z d_Group_init_8 rfl ?_
  have hq := zs_bS hf
  clear hf
  obtain ⟨S6, x7, h5, hf⟩ := hq
  refine zq_contR (zq_stepIN Z (c_Text_init hl h5) d_Group_init_9 rfl m_22 m_23 m_24 m_18 p_Text_init ⟨(Nat.le_of_ble_eq_true rfl), (Nat.le_of_ble_eq_true rfl), (Nat.le_of_ble_eq_true rfl), (Nat.le_of_ble_eq_true rfl)⟩ rfl (Nat.le_of_ble_eq_true rfl)) Z.p ?_
  have hq := Option.bind_eq_some_iff.mp hf
  clear hf
  obtain ⟨S8, h9, hf⟩ := hq
  refine zr_putr (x := (some (S0.2.1))) (ty := .object "ChangeTracker$Text") Z cd_Group 0 d_Group_init_12 (by decide) m_25 rfl (Or.inl ⟨_, rfl⟩) (by decide +kernel) h9 ?_
  refine zq_aload_n Z d_Group_init_15 0 rfl ?_
  refine zq_iconst Z (0 : Int32) d_Group_init_16 (by decide) ?_
  have hq := Option.bind_eq_some_iff.mp hf
  clear hf
  obtain ⟨S10, h11, hf⟩ := hq
  refine zr_puti Z cd_Group 1 d_Group_init_17 (by decide) m_26 rfl (by decide +kernel) h11 ?_
  refine zq_aload_n Z d_Group_init_20 0 rfl ?_
  refine zq_iconst Z (0 : Int32) d_Group_init_21 (by decide) ?_
  have hq := Option.bind_eq_some_iff.mp hf
  clear hf
  obtain ⟨S12, h13, hf⟩ := hq
  refine zr_puti Z cd_Group 2 d_Group_init_22 (by decide) m_27 rfl (by decide +kernel) h13 ?_
  exact zq_vret Z d_Group_init_25 (zs_1 hf) (zs_2 (fun _ => (.inl none : zq_R)) hf) ⟨(Nat.le_of_ble_eq_true rfl), (Nat.le_of_ble_eq_true rfl)⟩
theorem d_Group_restart_0 : decode b_Group_restart 0 = .ok (.aload_n 0, 1) := by decide +kernel
theorem d_Group_restart_1 : decode b_Group_restart 1 = .ok (.getfield 10, 3) := by decide +kernel
theorem d_Group_restart_4 : decode b_Group_restart 4 = .ok (.invokevirtual 23, 3) := by decide +kernel
theorem d_Group_restart_7 : decode b_Group_restart 7 = .ok (.aload_n 0, 1) := by decide +kernel
theorem d_Group_restart_8 : decode b_Group_restart 8 = .ok (.getfield 10, 3) := by decide +kernel
theorem d_Group_restart_11 : decode b_Group_restart 11 = .ok (.aload_n 1, 1) := by decide +kernel
theorem d_Group_restart_12 : decode b_Group_restart 12 = .ok (.iconst 0, 1) := by decide +kernel
theorem d_Group_restart_13 : decode b_Group_restart 13 = .ok (.aload_n 1, 1) := by decide +kernel
theorem d_Group_restart_14 : decode b_Group_restart 14 = .ok (.getfield 26, 3) := by decide +kernel
theorem d_Group_restart_17 : decode b_Group_restart 17 = .ok (.invokevirtual 29, 3) := by decide +kernel
theorem d_Group_restart_20 : decode b_Group_restart 20 = .ok (.aload_n 0, 1) := by decide +kernel
theorem d_Group_restart_21 : decode b_Group_restart 21 = .ok (.iconst 0, 1) := by decide +kernel
theorem d_Group_restart_22 : decode b_Group_restart 22 = .ok (.putfield 16, 3) := by decide +kernel
theorem d_Group_restart_25 : decode b_Group_restart 25 = .ok (.aload_n 0, 1) := by decide +kernel
theorem d_Group_restart_26 : decode b_Group_restart 26 = .ok (.iconst 0, 1) := by decide +kernel
theorem d_Group_restart_27 : decode b_Group_restart 27 = .ok (.putfield 20, 3) := by decide +kernel
theorem d_Group_restart_30 : decode b_Group_restart 30 = .ok (.return_, 1) := by decide +kernel
def f_Group_restart (a0 : Nat) (v1 : Option Nat) (S : zq_S) : Option (zq_S × Unit) :=
  (zs_gr S a0 1 0).bind fun x1 =>
  (x1).bind fun a3 =>
  if zs_is S a3 0 = true then
  zs_b (f_Text_clear a3 S) fun S6 _ =>
  (zs_gr S6 a0 1 0).bind fun x11 =>
  (v1).bind fun a13 =>
  (zs_gi S6 a13 0 1).bind fun x15 =>
  (x11).bind fun a17 =>
  if zs_is S6 a17 0 = true then
  zs_b (f_Text_addPart a17 (some a13) (0 : Int32) x15 S6) fun S20 _ =>
  (zs_p S20 a0 1 1 (.int (0 : Int32))).bind fun S25 =>
  (zs_p S25 a0 1 2 (.int (0 : Int32))).bind fun S27 =>
  some (S27, ())
  else none
  else none
set_option maxHeartbeats 4000000 in
set_option maxRecDepth 100000 in
theorem c_Group_restart {l : Launch} (hl : l.stackTraces = false) {G : zq_G} {a0 : Nat} {v1 : Option Nat} {S0 T : zq_S} {v : Unit} (hf : f_Group_restart a0 v1 S0 = some (T, v)) : zq_M l y_Group_restart (.code y_Group_restart b_Group_restart 2 none) rm_Group_restart G [.ref a0, va_rf v1] S0 ((.inl none : zq_R)) T := by
  refine zq_Mof (lo := [(0, .ref a0), (1, va_rf v1)]) hl (by decide) (by cases v1 <;> exact (Nat.le_of_ble_eq_true rfl)) (by cases v1 <;> rfl) (fun X Z => ?_)
  have Z : Z_Group_restart l G S0 T v X := Z
  show zq_W (Y_Group_restart l G S0 T v) X 0 [(0, .ref a0), (1, va_rf v1)] [] S0 0 0
  unfold f_Group_restart at hf
  refine zq_aload_n Z d_Group_restart_0 0 rfl ?_
  have hq := Option.bind_eq_some_iff.mp hf
  clear hf
  obtain ⟨x1, h2, hf⟩ := hq
  refine zr_getr Z cd_Group 0 d_Group_restart_1 (by decide) m_25 h2 ?_
  have hq := Option.bind_eq_some_iff.mp hf
  clear hf
  obtain ⟨a3, h4, hf⟩ := hq
  subst h4
  have hq := zs_C hf
  clear hf
  obtain ⟨h8, hf⟩ := hq
  obtain ⟨fs9, e10⟩ := zs_isS h8
  have hq := zs_bS hf
  clear hf
  obtain ⟨S6, x7, h5, hf⟩ := hq
  refine zq_contR (zq_stepV Z zq_cf1 (c_Text_clear hl h5) 0 rfl e10 d_Group_restart_4 m_28 m_30 m_31 m_29 m_18 p_Text_clear ⟨(Nat.le_of_ble_eq_true rfl), (Nat.le_of_ble_eq_true rfl), (Nat.le_of_ble_eq_true rfl), (Nat.le_of_ble_eq_true rfl)⟩ rfl (Nat.le_of_ble_eq_true rfl)) Z.p ?_
  refine zq_aload_n Z d_Group_restart_7 0 rfl ?_
  have hq := Option.bind_eq_some_iff.mp hf
  clear hf
  obtain ⟨x11, h12, hf⟩ := hq
  refine zr_getr Z cd_Group 0 d_Group_restart_8 (by decide) m_25 h12 ?_
  refine zq_aload_nQ Z d_Group_restart_11 1 rfl ?_
  refine zq_iconst Z (0 : Int32) d_Group_restart_12 (by decide) ?_
  refine zq_aload_nQ Z d_Group_restart_13 1 rfl ?_
  have hq := Option.bind_eq_some_iff.mp hf
  clear hf
  obtain ⟨a13, h14, hf⟩ := hq
  subst h14
  have hq := Option.bind_eq_some_iff.mp hf
  clear hf
  obtain ⟨x15, h16, hf⟩ := hq
  refine zr_geti Z cd_Text 1 d_Group_restart_14 (by decide) m_32 h16 ?_
  have hq := Option.bind_eq_some_iff.mp hf
  clear hf
  obtain ⟨a17, h18, hf⟩ := hq
  subst h18
  have hq := zs_C hf
  clear hf
  obtain ⟨h22, hf⟩ := hq
  obtain ⟨fs23, e24⟩ := zs_isS h22
  have hq := zs_bS hf
  clear hf
  obtain ⟨S20, x21, h19, hf⟩ := hq
  refine zq_contR (zq_stepV Z zq_cf1 (c_Text_addPart hl h19) 0 rfl e24 d_Group_restart_17 m_33 m_35 m_36 m_34 m_18 p_Text_addPart ⟨(Nat.le_of_ble_eq_true rfl), (Nat.le_of_ble_eq_true rfl), (Nat.le_of_ble_eq_true rfl), (Nat.le_of_ble_eq_true rfl)⟩ rfl (Nat.le_of_ble_eq_true rfl)) Z.p ?_
  refine zq_aload_n Z d_Group_restart_20 0 rfl ?_
  refine zq_iconst Z (0 : Int32) d_Group_restart_21 (by decide) ?_
  have hq := Option.bind_eq_some_iff.mp hf
  clear hf
  obtain ⟨S25, h26, hf⟩ := hq
  refine zr_puti Z cd_Group 1 d_Group_restart_22 (by decide) m_26 rfl (by decide +kernel) h26 ?_
  refine zq_aload_n Z d_Group_restart_25 0 rfl ?_
  refine zq_iconst Z (0 : Int32) d_Group_restart_26 (by decide) ?_
  have hq := Option.bind_eq_some_iff.mp hf
  clear hf
  obtain ⟨S27, h28, hf⟩ := hq
  refine zr_puti Z cd_Group 2 d_Group_restart_27 (by decide) m_27 rfl (by decide +kernel) h28 ?_
  exact zq_vret Z d_Group_restart_30 (zs_1 hf) (zs_2 (fun _ => (.inl none : zq_R)) hf) ⟨(Nat.le_of_ble_eq_true rfl), (Nat.le_of_ble_eq_true rfl)⟩
