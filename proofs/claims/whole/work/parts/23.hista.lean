theorem d_Hist_init_0 : decode b_Hist_init 0 = .ok (.aload_n 0, 1) := by decide +kernel
theorem d_Hist_init_1 : decode b_Hist_init 1 = .ok (.invokespecial 3, 3) := by decide +kernel
theorem d_Hist_init_4 : decode b_Hist_init 4 = .ok (.aload_n 0, 1) := by decide +kernel
theorem d_Hist_init_5 : decode b_Hist_init 5 = .ok (.bipush 41, 2) := by decide +kernel
theorem d_Hist_init_7 : decode b_Hist_init 7 = .ok (.anewarray 9, 3) := by decide +kernel
theorem d_Hist_init_10 : decode b_Hist_init 10 = .ok (.putfield 11, 3) := by decide +kernel
theorem d_Hist_init_13 : decode b_Hist_init 13 = .ok (.aload_n 0, 1) := by decide +kernel
theorem d_Hist_init_14 : decode b_Hist_init 14 = .ok (.iconst 0, 1) := by decide +kernel
theorem d_Hist_init_15 : decode b_Hist_init 15 = .ok (.putfield 17, 3) := by decide +kernel
theorem d_Hist_init_18 : decode b_Hist_init 18 = .ok (.aload_n 0, 1) := by decide +kernel
theorem d_Hist_init_19 : decode b_Hist_init 19 = .ok (.iconst 0, 1) := by decide +kernel
theorem d_Hist_init_20 : decode b_Hist_init 20 = .ok (.putfield 21, 3) := by decide +kernel
theorem d_Hist_init_23 : decode b_Hist_init 23 = .ok (.aload_n 0, 1) := by decide +kernel
theorem d_Hist_init_24 : decode b_Hist_init 24 = .ok (.iconst 0, 1) := by decide +kernel
theorem d_Hist_init_25 : decode b_Hist_init 25 = .ok (.putfield 24, 3) := by decide +kernel
theorem d_Hist_init_28 : decode b_Hist_init 28 = .ok (.aload_n 0, 1) := by decide +kernel
theorem d_Hist_init_29 : decode b_Hist_init 29 = .ok (.iconst 0, 1) := by decide +kernel
theorem d_Hist_init_30 : decode b_Hist_init 30 = .ok (.putfield 28, 3) := by decide +kernel
theorem d_Hist_init_33 : decode b_Hist_init 33 = .ok (.return_, 1) := by decide +kernel
def f_Hist_init (a0 : Nat) (S : zq_S) : Option (zq_S × Unit) :=
  (zs_p (zq_n S (.inl (1, 41, .inr (.inr (.inr (.inr (fun _ => none))))))) a0 2 0 (va_rf (some (S.2.1)))).bind fun S1 =>
  (zs_p S1 a0 2 1 (.int (0 : Int32))).bind fun S3 =>
  (zs_p S3 a0 2 2 (.int (0 : Int32))).bind fun S5 =>
  (zs_pz S5 a0 2 3 (0 : Int32)).bind fun S7 =>
  (zs_pz S7 a0 2 4 (0 : Int32)).bind fun S9 =>
  some (S9, ())
set_option maxHeartbeats 4000000 in
set_option maxRecDepth 100000 in
theorem c_Hist_init {l : Launch} (hl : l.stackTraces = false) {G : zq_G} {a0 : Nat} {S0 T : zq_S} {v : Unit} (hf : f_Hist_init a0 S0 = some (T, v)) : zq_M l y_Hist_init (.code y_Hist_init b_Hist_init 1 none) rm_Hist_init G [.ref a0] S0 ((.inl none : zq_R)) T := by
  refine zq_Mof (lo := [(0, .ref a0)]) hl (by decide) (Nat.le_of_ble_eq_true rfl) rfl (fun X Z => ?_)
  have Z : Z_Hist_init l G S0 T v X := Z
  show zq_W (Y_Hist_init l G S0 T v) X 0 [(0, .ref a0)] [] S0 0 0
  unfold f_Hist_init at hf
  refine zq_aload_n Z d_Hist_init_0 0 rfl ?_
  refine zq_objInit Z d_Hist_init_1 m_37 m_1 m_2 (Nat.le_of_ble_eq_true rfl) (Nat.le_of_ble_eq_true rfl) ?_
  refine zq_aload_n Z d_Hist_init_4 0 rfl ?_
  refine zq_bipush Z (41 : Int32) d_Hist_init_5 (by decide) ?_
  refine zq_anew (N := 41) Z 1 (fun _ => rfl) d_Hist_init_7 m_38 m_39 (by decide) (by decide) (by decide) ⟨(Nat.le_of_ble_eq_true rfl), (Nat.le_of_ble_eq_true rfl)⟩ ?_
  have hq := Option.bind_eq_some_iff.mp hf
  clear hf
  obtain ⟨S1, h2, hf⟩ := hq
  refine zr_putrF (x := (some (S0.2.1))) (ty := .array (.object "ChangeTracker$Group")) Z cd_Hist 0 d_Hist_init_10 (by decide) m_40 rfl rfl rfl (Or.inr ⟨_, rfl⟩) (by decide +kernel) h2 ?_
  refine zq_aload_n Z d_Hist_init_13 0 rfl ?_
  refine zq_iconst Z (0 : Int32) d_Hist_init_14 (by decide) ?_
  have hq := Option.bind_eq_some_iff.mp hf
  clear hf
  obtain ⟨S3, h4, hf⟩ := hq
  refine zr_puti Z cd_Hist 1 d_Hist_init_15 (by decide) m_41 rfl (by decide +kernel) h4 ?_
  refine zq_aload_n Z d_Hist_init_18 0 rfl ?_
  refine zq_iconst Z (0 : Int32) d_Hist_init_19 (by decide) ?_
  have hq := Option.bind_eq_some_iff.mp hf
  clear hf
  obtain ⟨S5, h6, hf⟩ := hq
  refine zr_puti Z cd_Hist 2 d_Hist_init_20 (by decide) m_42 rfl (by decide +kernel) h6 ?_
  refine zq_aload_n Z d_Hist_init_23 0 rfl ?_
  refine zq_iconst Z (0 : Int32) d_Hist_init_24 (by decide) ?_
  have hq := Option.bind_eq_some_iff.mp hf
  clear hf
  obtain ⟨S7, h8, hf⟩ := hq
  refine zr_putz Z cd_Hist 3 d_Hist_init_25 (by decide) m_43 rfl (by decide +kernel) h8 ?_
  refine zq_aload_n Z d_Hist_init_28 0 rfl ?_
  refine zq_iconst Z (0 : Int32) d_Hist_init_29 (by decide) ?_
  have hq := Option.bind_eq_some_iff.mp hf
  clear hf
  obtain ⟨S9, h10, hf⟩ := hq
  refine zr_putz Z cd_Hist 4 d_Hist_init_30 (by decide) m_44 rfl (by decide +kernel) h10 ?_
  exact zq_vret Z d_Hist_init_33 (zs_1 hf) (zs_2 (fun _ => (.inl none : zq_R)) hf) ⟨(Nat.le_of_ble_eq_true rfl), (Nat.le_of_ble_eq_true rfl)⟩
theorem d_Hist_groupBeingMade_0 : decode b_Hist_groupBeingMade 0 = .ok (.aload_n 0, 1) := by decide +kernel
theorem d_Hist_groupBeingMade_1 : decode b_Hist_groupBeingMade 1 = .ok (.getfield 17, 3) := by decide +kernel
theorem d_Hist_groupBeingMade_4 : decode b_Hist_groupBeingMade 4 = .ok (.iconst 0, 1) := by decide +kernel
theorem d_Hist_groupBeingMade_5 : decode b_Hist_groupBeingMade 5 = .ok (.invokestatic 56, 3) := by decide +kernel
theorem d_Hist_groupBeingMade_8 : decode b_Hist_groupBeingMade 8 = .ok (.aload_n 0, 1) := by decide +kernel
theorem d_Hist_groupBeingMade_9 : decode b_Hist_groupBeingMade 9 = .ok (.getfield 11, 3) := by decide +kernel
theorem d_Hist_groupBeingMade_12 : decode b_Hist_groupBeingMade 12 = .ok (.arraylength, 1) := by decide +kernel
theorem d_Hist_groupBeingMade_13 : decode b_Hist_groupBeingMade 13 = .ok (.iconst 1, 1) := by decide +kernel
theorem d_Hist_groupBeingMade_14 : decode b_Hist_groupBeingMade 14 = .ok (.isub, 1) := by decide +kernel
theorem d_Hist_groupBeingMade_15 : decode b_Hist_groupBeingMade 15 = .ok (.invokestatic 65, 3) := by decide +kernel
theorem d_Hist_groupBeingMade_18 : decode b_Hist_groupBeingMade 18 = .ok (.istore_n 1, 1) := by decide +kernel
theorem d_Hist_groupBeingMade_19 : decode b_Hist_groupBeingMade 19 = .ok (.aload_n 0, 1) := by decide +kernel
theorem d_Hist_groupBeingMade_20 : decode b_Hist_groupBeingMade 20 = .ok (.getfield 11, 3) := by decide +kernel
theorem d_Hist_groupBeingMade_23 : decode b_Hist_groupBeingMade 23 = .ok (.iload_n 1, 1) := by decide +kernel
theorem d_Hist_groupBeingMade_24 : decode b_Hist_groupBeingMade 24 = .ok (.aaload, 1) := by decide +kernel
theorem d_Hist_groupBeingMade_25 : decode b_Hist_groupBeingMade 25 = .ok (.ifnonnull 16, 3) := by decide +kernel
theorem d_Hist_groupBeingMade_28 : decode b_Hist_groupBeingMade 28 = .ok (.aload_n 0, 1) := by decide +kernel
theorem d_Hist_groupBeingMade_29 : decode b_Hist_groupBeingMade 29 = .ok (.getfield 11, 3) := by decide +kernel
theorem d_Hist_groupBeingMade_32 : decode b_Hist_groupBeingMade 32 = .ok (.iload_n 1, 1) := by decide +kernel
theorem d_Hist_groupBeingMade_33 : decode b_Hist_groupBeingMade 33 = .ok (.new 9, 3) := by decide +kernel
theorem d_Hist_groupBeingMade_36 : decode b_Hist_groupBeingMade 36 = .ok (.dup, 1) := by decide +kernel
theorem d_Hist_groupBeingMade_37 : decode b_Hist_groupBeingMade 37 = .ok (.invokespecial 68, 3) := by decide +kernel
theorem d_Hist_groupBeingMade_40 : decode b_Hist_groupBeingMade 40 = .ok (.aastore, 1) := by decide +kernel
theorem d_Hist_groupBeingMade_41 : decode b_Hist_groupBeingMade 41 = .ok (.aload_n 0, 1) := by decide +kernel
theorem d_Hist_groupBeingMade_42 : decode b_Hist_groupBeingMade 42 = .ok (.getfield 11, 3) := by decide +kernel
theorem d_Hist_groupBeingMade_45 : decode b_Hist_groupBeingMade 45 = .ok (.iload_n 1, 1) := by decide +kernel
theorem d_Hist_groupBeingMade_46 : decode b_Hist_groupBeingMade 46 = .ok (.aaload, 1) := by decide +kernel
theorem d_Hist_groupBeingMade_47 : decode b_Hist_groupBeingMade 47 = .ok (.areturn, 1) := by decide +kernel
def f_Hist_groupBeingMade_41  (a0 : Nat) (v1 : Int32) (S : zq_S) : Option (zq_S × Option Nat) :=
  (zs_gr S a0 2 0).bind fun x1 =>
  (x1).bind fun a3 =>
  (zs_aal S a3 1 v1).bind fun x5 =>
  some (S, x5)
def f_Hist_groupBeingMade (a0 : Nat) (S : zq_S) : Option (zq_S × Option Nat) :=
  (zs_gi S a0 2 1).bind fun x1 =>
  (zs_gr S a0 2 0).bind fun x3 =>
  (x3).bind fun a5 =>
  (zs_len S a5 1).bind fun x7 =>
  (zs_gr S a0 2 0).bind fun x9 =>
  (x9).bind fun a11 =>
  (zs_aal S a11 1 (if (x7 - (1 : Int32)) < (if x1 < (0 : Int32) then (0 : Int32) else x1) then (x7 - (1 : Int32)) else (if x1 < (0 : Int32) then (0 : Int32) else x1))).bind fun x13 =>
  if x13 = none then
    (zs_gr S a0 2 0).bind fun x15 =>
    zs_b (f_Group_init (S.2.1) (zq_n S (.inr (1, [.null, .int 0, .int 0])))) fun S22 _ =>
    (x15).bind fun a24 =>
    (zs_aas S22 a24 1 1 (if (x7 - (1 : Int32)) < (if x1 < (0 : Int32) then (0 : Int32) else x1) then (x7 - (1 : Int32)) else (if x1 < (0 : Int32) then (0 : Int32) else x1)) (some (S.2.1))).bind fun S26 =>
    f_Hist_groupBeingMade_41  a0 (if (x7 - (1 : Int32)) < (if x1 < (0 : Int32) then (0 : Int32) else x1) then (x7 - (1 : Int32)) else (if x1 < (0 : Int32) then (0 : Int32) else x1)) S26
  else
    f_Hist_groupBeingMade_41  a0 (if (x7 - (1 : Int32)) < (if x1 < (0 : Int32) then (0 : Int32) else x1) then (x7 - (1 : Int32)) else (if x1 < (0 : Int32) then (0 : Int32) else x1)) S
set_option maxHeartbeats 4000000 in
set_option maxRecDepth 100000 in
theorem r_Hist_groupBeingMade_41 {l : Launch} (hl : l.stackTraces = false) {G : zq_G} {S0 T : zq_S} {v : Option Nat} {X : zq_X} (Z : Z_Hist_groupBeingMade l G S0 T v X) {a0 : Nat} {v1 : Int32} {S : zq_S} (hf : f_Hist_groupBeingMade_41  a0 v1 S = some (T, v)) : zq_W (Y_Hist_groupBeingMade l G S0 T v) X 41 [(0, .ref a0), (1, .int v1)] [] S 3 605 := by
  unfold f_Hist_groupBeingMade_41 at hf
  refine zq_aload_n Z d_Hist_groupBeingMade_41 0 rfl ?_
  have hq := Option.bind_eq_some_iff.mp hf
  clear hf
  obtain ⟨x1, h2, hf⟩ := hq
  refine zr_getr Z cd_Hist 0 d_Hist_groupBeingMade_42 (by decide) m_40 h2 ?_
  refine zq_iload_n Z d_Hist_groupBeingMade_45 1 rfl ?_
  have hq := Option.bind_eq_some_iff.mp hf
  clear hf
  obtain ⟨a3, h4, hf⟩ := hq
  subst h4
  have hq := Option.bind_eq_some_iff.mp hf
  clear hf
  obtain ⟨x5, h6, hf⟩ := hq
  refine zr_aaload Z 1 (fun _ => rfl) d_Hist_groupBeingMade_46 h6 ?_
  exact zq_aret (x := x5) Z d_Hist_groupBeingMade_47 (zs_1 hf) (zs_2 (fun z => (.inl (some (va_rf z)) : zq_R)) hf) ⟨(Nat.le_of_ble_eq_true rfl), (Nat.le_of_ble_eq_true rfl)⟩
set_option maxHeartbeats 4000000 in
set_option maxRecDepth 100000 in
theorem c_Hist_groupBeingMade {l : Launch} (hl : l.stackTraces = false) {G : zq_G} {a0 : Nat} {S0 T : zq_S} {v : Option Nat} (hf : f_Hist_groupBeingMade a0 S0 = some (T, v)) : zq_M l y_Hist_groupBeingMade (.code y_Hist_groupBeingMade b_Hist_groupBeingMade 2 (some (.object "ChangeTracker$Group"))) rm_Hist_groupBeingMade G [.ref a0] S0 ((.inl (some (va_rf v)) : zq_R)) T := by
  refine zq_Mof (lo := [(0, .ref a0)]) hl (by decide) (Nat.le_of_ble_eq_true rfl) rfl (fun X Z => ?_)
  have Z : Z_Hist_groupBeingMade l G S0 T v X := Z
  show zq_W (Y_Hist_groupBeingMade l G S0 T v) X 0 [(0, .ref a0)] [] S0 0 0
  unfold f_Hist_groupBeingMade at hf
  refine zq_aload_n Z d_Hist_groupBeingMade_0 0 rfl ?_
  have hq := Option.bind_eq_some_iff.mp hf
  clear hf
  obtain ⟨x1, h2, hf⟩ := hq
  refine zr_geti Z cd_Hist 1 d_Hist_groupBeingMade_1 (by decide) m_41 h2 ?_
  refine zq_iconst Z (0 : Int32) d_Hist_groupBeingMade_4 (by decide) ?_
  refine zq_mmax Z d_Hist_groupBeingMade_5 m_45 m_46 m_8 m_47 (Nat.le_of_ble_eq_true rfl) (Nat.le_of_ble_eq_true rfl) ⟨(Nat.le_of_ble_eq_true rfl), (Nat.le_of_ble_eq_true rfl)⟩ ?_
  refine zq_aload_n Z d_Hist_groupBeingMade_8 0 rfl ?_
  have hq := Option.bind_eq_some_iff.mp hf
  clear hf
  obtain ⟨x3, h4, hf⟩ := hq
  refine zr_getr Z cd_Hist 0 d_Hist_groupBeingMade_9 (by decide) m_40 h4 ?_
  have hq := Option.bind_eq_some_iff.mp hf
  clear hf
  obtain ⟨a5, h6, hf⟩ := hq
  subst h6
  have hq := Option.bind_eq_some_iff.mp hf
  clear hf
  obtain ⟨x7, h8, hf⟩ := hq
  refine zr_len Z 1 (fun _ => rfl) d_Hist_groupBeingMade_12 h8 ?_
  refine zq_iconst Z (1 : Int32) d_Hist_groupBeingMade_13 (by decide) ?_
  refine zq_isub Z d_Hist_groupBeingMade_14 ?_
  refine zq_mmin Z d_Hist_groupBeingMade_15 m_48 m_7 m_8 m_9 (Nat.le_of_ble_eq_true rfl) (Nat.le_of_ble_eq_true rfl) ⟨(Nat.le_of_ble_eq_true rfl), (Nat.le_of_ble_eq_true rfl)⟩ ?_
  refine zq_istore_n Z rfl [(1, .int (if (x7 - (1 : Int32)) < (if x1 < (0 : Int32) then (0 : Int32) else x1) then (x7 - (1 : Int32)) else (if x1 < (0 : Int32) then (0 : Int32) else x1))), (0, .ref a0)] d_Hist_groupBeingMade_18 (by decide) rfl ?_
  refine zq_aload_n Z d_Hist_groupBeingMade_19 1 rfl ?_
  have hq := Option.bind_eq_some_iff.mp hf
  clear hf
  obtain ⟨x9, h10, hf⟩ := hq
  refine zr_getr Z cd_Hist 0 d_Hist_groupBeingMade_20 (by decide) m_40 h10 ?_
  refine zq_iload_n Z d_Hist_groupBeingMade_23 0 rfl ?_
  have hq := Option.bind_eq_some_iff.mp hf
  clear hf
  obtain ⟨a11, h12, hf⟩ := hq
  subst h12
  have hq := Option.bind_eq_some_iff.mp hf
  clear hf
  obtain ⟨x13, h14, hf⟩ := hq
  refine zr_aaload Z 1 (fun _ => rfl) d_Hist_groupBeingMade_24 h14 ?_
  refine zq_ifnonnull (x := x13) Z 41 d_Hist_groupBeingMade_25 (by decide) (fun q => ?_) (fun q => ?_)
  · replace hf := zs_N q hf
    refine zq_sub (lo' := [(0, .ref a0), (1, .int (if (x7 - (1 : Int32)) < (if x1 < (0 : Int32) then (0 : Int32) else x1) then (x7 - (1 : Int32)) else (if x1 < (0 : Int32) then (0 : Int32) else x1)))]) [1, 0] rfl ?_
    refine zq_wid (kc' := 3) (ks' := 605) (Nat.le_of_ble_eq_true rfl) (Nat.le_of_ble_eq_true rfl) ?_
    exact r_Hist_groupBeingMade_41 hl Z  hf
  · replace hf := zs_T q hf
    refine zq_aload_n Z d_Hist_groupBeingMade_28 1 rfl ?_
    have hq := Option.bind_eq_some_iff.mp hf
    clear hf
    obtain ⟨x15, h16, hf⟩ := hq
    refine zr_getr Z cd_Hist 0 d_Hist_groupBeingMade_29 (by decide) m_40 h16 ?_
    refine zq_iload_n Z d_Hist_groupBeingMade_32 0 rfl ?_
    refine zq_new Z cd_Group d_Hist_groupBeingMade_33 m_38 m_49 m_50 [.null, .int 0, .int 0] (by decide) ⟨(Nat.le_of_ble_eq_true rfl), (Nat.le_of_ble_eq_true rfl)⟩ ?_
    refine zq_dup Z d_Hist_groupBeingMade_36 rfl ?_
    have hq := zs_bS hf
    clear hf
    obtain ⟨S22, x23, h21, hf⟩ := hq
    refine zq_contR (zq_stepIN Z (c_Group_init hl h21) d_Hist_groupBeingMade_37 rfl m_51 m_52 m_53 m_50 p_Group_init ⟨(Nat.le_of_ble_eq_true rfl), (Nat.le_of_ble_eq_true rfl), (Nat.le_of_ble_eq_true rfl), (Nat.le_of_ble_eq_true rfl)⟩ rfl (by cases x15 <;> exact (Nat.le_of_ble_eq_true rfl))) Z.p ?_
    have hq := Option.bind_eq_some_iff.mp hf
    clear hf
    obtain ⟨a24, h25, hf⟩ := hq
    subst h25
    have hq := Option.bind_eq_some_iff.mp hf
    clear hf
    obtain ⟨S26, h27, hf⟩ := hq
    refine zr_aastore (v := (some (S0.2.1))) Z 1 1 rfl (fun _ => rfl) d_Hist_groupBeingMade_40 h27 ?_
    refine zq_sub (lo' := [(0, .ref a0), (1, .int (if (x7 - (1 : Int32)) < (if x1 < (0 : Int32) then (0 : Int32) else x1) then (x7 - (1 : Int32)) else (if x1 < (0 : Int32) then (0 : Int32) else x1)))]) [1, 0] rfl ?_
    exact r_Hist_groupBeingMade_41 hl Z  hf
theorem d_Hist_recordEdit_0 : decode b_Hist_recordEdit 0 = .ok (.aload_n 0, 1) := by decide +kernel
theorem d_Hist_recordEdit_1 : decode b_Hist_recordEdit 1 = .ok (.iconst 0, 1) := by decide +kernel
theorem d_Hist_recordEdit_2 : decode b_Hist_recordEdit 2 = .ok (.putfield 21, 3) := by decide +kernel
theorem d_Hist_recordEdit_5 : decode b_Hist_recordEdit 5 = .ok (.aload_n 0, 1) := by decide +kernel
theorem d_Hist_recordEdit_6 : decode b_Hist_recordEdit 6 = .ok (.invokevirtual 31, 3) := by decide +kernel
theorem d_Hist_recordEdit_9 : decode b_Hist_recordEdit 9 = .ok (.astore_n 3, 1) := by decide +kernel
theorem d_Hist_recordEdit_10 : decode b_Hist_recordEdit 10 = .ok (.aload_n 0, 1) := by decide +kernel
theorem d_Hist_recordEdit_11 : decode b_Hist_recordEdit 11 = .ok (.getfield 28, 3) := by decide +kernel
theorem d_Hist_recordEdit_14 : decode b_Hist_recordEdit 14 = .ok (.ifCond .ne 13, 3) := by decide +kernel
theorem d_Hist_recordEdit_17 : decode b_Hist_recordEdit 17 = .ok (.aload_n 3, 1) := by decide +kernel
theorem d_Hist_recordEdit_18 : decode b_Hist_recordEdit 18 = .ok (.aload_n 1, 1) := by decide +kernel
theorem d_Hist_recordEdit_19 : decode b_Hist_recordEdit 19 = .ok (.invokevirtual 35, 3) := by decide +kernel
theorem d_Hist_recordEdit_22 : decode b_Hist_recordEdit 22 = .ok (.aload_n 0, 1) := by decide +kernel
theorem d_Hist_recordEdit_23 : decode b_Hist_recordEdit 23 = .ok (.iconst 1, 1) := by decide +kernel
theorem d_Hist_recordEdit_24 : decode b_Hist_recordEdit 24 = .ok (.putfield 28, 3) := by decide +kernel
theorem d_Hist_recordEdit_27 : decode b_Hist_recordEdit 27 = .ok (.aload_n 3, 1) := by decide +kernel
theorem d_Hist_recordEdit_28 : decode b_Hist_recordEdit 28 = .ok (.dup, 1) := by decide +kernel
theorem d_Hist_recordEdit_29 : decode b_Hist_recordEdit 29 = .ok (.getfield 39, 3) := by decide +kernel
theorem d_Hist_recordEdit_32 : decode b_Hist_recordEdit 32 = .ok (.iconst 1, 1) := by decide +kernel
theorem d_Hist_recordEdit_33 : decode b_Hist_recordEdit 33 = .ok (.iadd, 1) := by decide +kernel
theorem d_Hist_recordEdit_34 : decode b_Hist_recordEdit 34 = .ok (.putfield 39, 3) := by decide +kernel
theorem d_Hist_recordEdit_37 : decode b_Hist_recordEdit 37 = .ok (.aload_n 3, 1) := by decide +kernel
theorem d_Hist_recordEdit_38 : decode b_Hist_recordEdit 38 = .ok (.dup, 1) := by decide +kernel
theorem d_Hist_recordEdit_39 : decode b_Hist_recordEdit 39 = .ok (.getfield 42, 3) := by decide +kernel
theorem d_Hist_recordEdit_42 : decode b_Hist_recordEdit 42 = .ok (.iload_n 2, 1) := by decide +kernel
theorem d_Hist_recordEdit_43 : decode b_Hist_recordEdit 43 = .ok (.iadd, 1) := by decide +kernel
theorem d_Hist_recordEdit_44 : decode b_Hist_recordEdit 44 = .ok (.putfield 42, 3) := by decide +kernel
theorem d_Hist_recordEdit_47 : decode b_Hist_recordEdit 47 = .ok (.return_, 1) := by decide +kernel
def f_Hist_recordEdit_27  (v2 : Int32) (v3 : Option Nat) (S : zq_S) : Option (zq_S × Unit) :=
  (v3).bind fun a1 =>
  (zs_gi S a1 1 1).bind fun x3 =>
  (zs_p S a1 1 1 (.int (x3 + (1 : Int32)))).bind fun S5 =>
  (zs_gi S5 a1 1 2).bind fun x7 =>
  (zs_p S5 a1 1 2 (.int (x7 + v2))).bind fun S9 =>
  some (S9, ())
def f_Hist_recordEdit (a0 : Nat) (v1 : Option Nat) (v2 : Int32) (S : zq_S) : Option (zq_S × Unit) :=
  (zs_p S a0 2 2 (.int (0 : Int32))).bind fun S1 =>
  if zs_is S1 a0 2 = true then
  zs_b (f_Hist_groupBeingMade a0 S1) fun S4 x5 =>
  (zs_gi S4 a0 2 4).bind fun x9 =>
  if x9 = 0 then
    (x5).bind fun a11 =>
    if zs_is S4 a11 1 = true then
    zs_b (f_Group_restart a11 v1 S4) fun S14 _ =>
    (zs_pz S14 a0 2 4 (1 : Int32)).bind fun S19 =>
    f_Hist_recordEdit_27  v2 (some a11) S19
    else none
  else
    f_Hist_recordEdit_27  v2 x5 S4
  else none
set_option maxHeartbeats 4000000 in
set_option maxRecDepth 100000 in
theorem r_Hist_recordEdit_27 {l : Launch} (hl : l.stackTraces = false) {G : zq_G} {S0 T : zq_S} {v : Unit} {X : zq_X} (Z : Z_Hist_recordEdit l G S0 T v X) {v2 : Int32} {v3 : Option Nat} {S : zq_S} (hf : f_Hist_recordEdit_27  v2 v3 S = some (T, v)) : zq_W (Y_Hist_recordEdit l G S0 T v) X 27 [(2, .int v2), (3, va_rf v3)] [] S 3 605 := by
  unfold f_Hist_recordEdit_27 at hf
  refine zq_aload_nQ Z d_Hist_recordEdit_27 1 rfl ?_
  refine zq_dup Z d_Hist_recordEdit_28 (zq_crf _) ?_
  have hq := Option.bind_eq_some_iff.mp hf
  clear hf
  obtain ⟨a1, h2, hf⟩ := hq
  subst h2
  have hq := Option.bind_eq_some_iff.mp hf
  clear hf
  obtain ⟨x3, h4, hf⟩ := hq
  refine zr_geti Z cd_Group 1 d_Hist_recordEdit_29 (by decide) m_54 h4 ?_
  refine zq_iconst Z (1 : Int32) d_Hist_recordEdit_32 (by decide) ?_
  refine zq_iadd Z d_Hist_recordEdit_33 ?_
  have hq := Option.bind_eq_some_iff.mp hf
  clear hf
  obtain ⟨S5, h6, hf⟩ := hq
  refine zr_puti Z cd_Group 1 d_Hist_recordEdit_34 (by decide) m_54 rfl (by decide +kernel) h6 ?_
  refine zq_aload_n Z d_Hist_recordEdit_37 1 rfl ?_
  refine zq_dup Z d_Hist_recordEdit_38 rfl ?_
  have hq := Option.bind_eq_some_iff.mp hf
  clear hf
  obtain ⟨x7, h8, hf⟩ := hq
  refine zr_geti Z cd_Group 2 d_Hist_recordEdit_39 (by decide) m_55 h8 ?_
  refine zq_iload_n Z d_Hist_recordEdit_42 0 rfl ?_
  refine zq_iadd Z d_Hist_recordEdit_43 ?_
  have hq := Option.bind_eq_some_iff.mp hf
  clear hf
  obtain ⟨S9, h10, hf⟩ := hq
  refine zr_puti Z cd_Group 2 d_Hist_recordEdit_44 (by decide) m_55 rfl (by decide +kernel) h10 ?_
  exact zq_vret Z d_Hist_recordEdit_47 (zs_1 hf) (zs_2 (fun _ => (.inl none : zq_R)) hf) ⟨(Nat.le_of_ble_eq_true rfl), (Nat.le_of_ble_eq_true rfl)⟩
set_option maxHeartbeats 4000000 in
set_option maxRecDepth 100000 in
theorem c_Hist_recordEdit {l : Launch} (hl : l.stackTraces = false) {G : zq_G} {a0 : Nat} {v1 : Option Nat} {v2 : Int32} {S0 T : zq_S} {v : Unit} (hf : f_Hist_recordEdit a0 v1 v2 S0 = some (T, v)) : zq_M l y_Hist_recordEdit (.code y_Hist_recordEdit b_Hist_recordEdit 4 none) rm_Hist_recordEdit G [.ref a0, va_rf v1, .int v2] S0 ((.inl none : zq_R)) T := by
  refine zq_Mof (lo := [(0, .ref a0), (1, va_rf v1), (2, .int v2)]) hl (by decide) (by cases v1 <;> exact (Nat.le_of_ble_eq_true rfl)) (by cases v1 <;> rfl) (fun X Z => ?_)
  have Z : Z_Hist_recordEdit l G S0 T v X := Z
  show zq_W (Y_Hist_recordEdit l G S0 T v) X 0 [(0, .ref a0), (1, va_rf v1), (2, .int v2)] [] S0 0 0
  unfold f_Hist_recordEdit at hf
  refine zq_aload_n Z d_Hist_recordEdit_0 0 rfl ?_
  refine zq_iconst Z (0 : Int32) d_Hist_recordEdit_1 (by decide) ?_
  have hq := Option.bind_eq_some_iff.mp hf
  clear hf
  obtain ⟨S1, h2, hf⟩ := hq
  refine zr_puti Z cd_Hist 2 d_Hist_recordEdit_2 (by decide) m_42 rfl (by decide +kernel) h2 ?_
  refine zq_aload_n Z d_Hist_recordEdit_5 0 rfl ?_
  have hq := zs_C hf
  clear hf
  obtain ⟨h6, hf⟩ := hq
  obtain ⟨fs7, e8⟩ := zs_isS h6
  have hq := zs_bS hf
  clear hf
  obtain ⟨S4, x5, h3, hf⟩ := hq
  refine zq_contR (zq_stepV Z zq_cf1 (c_Hist_groupBeingMade hl h3) 2 rfl e8 d_Hist_recordEdit_6 m_56 m_58 m_59 m_57 m_60 p_Hist_groupBeingMade ⟨(Nat.le_of_ble_eq_true rfl), (Nat.le_of_ble_eq_true rfl), (Nat.le_of_ble_eq_true rfl), (Nat.le_of_ble_eq_true rfl)⟩ rfl (Nat.le_of_ble_eq_true rfl)) Z.p ?_
  refine zq_astore_nQ (x := x5) Z rfl [(3, va_rf x5), (0, .ref a0), (1, va_rf v1), (2, .int v2)] d_Hist_recordEdit_9 (by decide) rfl ?_
  refine zq_aload_n Z d_Hist_recordEdit_10 1 rfl ?_
  have hq := Option.bind_eq_some_iff.mp hf
  clear hf
  obtain ⟨x9, h10, hf⟩ := hq
  refine zr_geti Z cd_Hist 4 d_Hist_recordEdit_11 (by decide) m_44 h10 ?_
  refine zq_if_ne Z 27 d_Hist_recordEdit_14 (by decide) (fun q => ?_) (fun q => ?_)
  · replace hf := zs_N q hf
    refine zq_sub (lo' := [(2, .int v2), (3, va_rf x5)]) [3, 0] rfl ?_
    exact r_Hist_recordEdit_27 hl Z  hf
  · replace hf := zs_T q hf
    refine zq_aload_nQ Z d_Hist_recordEdit_17 0 rfl ?_
    refine zq_aload_nQ Z d_Hist_recordEdit_18 2 rfl ?_
    have hq := Option.bind_eq_some_iff.mp hf
    clear hf
    obtain ⟨a11, h12, hf⟩ := hq
    subst h12
    have hq := zs_C hf
    clear hf
    obtain ⟨h16, hf⟩ := hq
    obtain ⟨fs17, e18⟩ := zs_isS h16
    have hq := zs_bS hf
    clear hf
    obtain ⟨S14, x15, h13, hf⟩ := hq
    refine zq_contR (zq_stepV Z zq_cf1 (c_Group_restart hl h13) 1 rfl e18 d_Hist_recordEdit_19 m_61 m_63 m_64 m_62 m_50 p_Group_restart ⟨(Nat.le_of_ble_eq_true rfl), (Nat.le_of_ble_eq_true rfl), (Nat.le_of_ble_eq_true rfl), (Nat.le_of_ble_eq_true rfl)⟩ rfl (Nat.le_of_ble_eq_true rfl)) Z.p ?_
    refine zq_aload_n Z d_Hist_recordEdit_22 1 rfl ?_
    refine zq_iconst Z (1 : Int32) d_Hist_recordEdit_23 (by decide) ?_
    have hq := Option.bind_eq_some_iff.mp hf
    clear hf
    obtain ⟨S19, h20, hf⟩ := hq
    refine zr_putz Z cd_Hist 4 d_Hist_recordEdit_24 (by decide) m_44 rfl (by decide +kernel) h20 ?_
    refine zq_sub (lo' := [(2, .int v2), (3, va_rf (some a11))]) [3, 0] rfl ?_
    exact r_Hist_recordEdit_27 hl Z  hf
theorem d_Hist_weightBetween_0 : decode b_Hist_weightBetween 0 = .ok (.iconst 0, 1) := by decide +kernel
theorem d_Hist_weightBetween_1 : decode b_Hist_weightBetween 1 = .ok (.istore_n 3, 1) := by decide +kernel
theorem d_Hist_weightBetween_2 : decode b_Hist_weightBetween 2 = .ok (.iload_n 1, 1) := by decide +kernel
theorem d_Hist_weightBetween_3 : decode b_Hist_weightBetween 3 = .ok (.iconst 0, 1) := by decide +kernel
theorem d_Hist_weightBetween_4 : decode b_Hist_weightBetween 4 = .ok (.invokestatic 56, 3) := by decide +kernel
theorem d_Hist_weightBetween_7 : decode b_Hist_weightBetween 7 = .ok (.istore 4, 2) := by decide +kernel
theorem d_Hist_weightBetween_9 : decode b_Hist_weightBetween 9 = .ok (.iload 4, 2) := by decide +kernel
theorem d_Hist_weightBetween_11 : decode b_Hist_weightBetween 11 = .ok (.iload_n 2, 1) := by decide +kernel
theorem d_Hist_weightBetween_12 : decode b_Hist_weightBetween 12 = .ok (.if_icmp .ge 42, 3) := by decide +kernel
theorem d_Hist_weightBetween_15 : decode b_Hist_weightBetween 15 = .ok (.iload 4, 2) := by decide +kernel
theorem d_Hist_weightBetween_17 : decode b_Hist_weightBetween 17 = .ok (.aload_n 0, 1) := by decide +kernel
theorem d_Hist_weightBetween_18 : decode b_Hist_weightBetween 18 = .ok (.getfield 11, 3) := by decide +kernel
theorem d_Hist_weightBetween_21 : decode b_Hist_weightBetween 21 = .ok (.arraylength, 1) := by decide +kernel
theorem d_Hist_weightBetween_22 : decode b_Hist_weightBetween 22 = .ok (.if_icmp .ge 32, 3) := by decide +kernel
theorem d_Hist_weightBetween_25 : decode b_Hist_weightBetween 25 = .ok (.aload_n 0, 1) := by decide +kernel
theorem d_Hist_weightBetween_26 : decode b_Hist_weightBetween 26 = .ok (.getfield 11, 3) := by decide +kernel
theorem d_Hist_weightBetween_29 : decode b_Hist_weightBetween 29 = .ok (.iload 4, 2) := by decide +kernel
theorem d_Hist_weightBetween_31 : decode b_Hist_weightBetween 31 = .ok (.aaload, 1) := by decide +kernel
theorem d_Hist_weightBetween_32 : decode b_Hist_weightBetween 32 = .ok (.ifnull 16, 3) := by decide +kernel
theorem d_Hist_weightBetween_35 : decode b_Hist_weightBetween 35 = .ok (.iload_n 3, 1) := by decide +kernel
theorem d_Hist_weightBetween_36 : decode b_Hist_weightBetween 36 = .ok (.aload_n 0, 1) := by decide +kernel
theorem d_Hist_weightBetween_37 : decode b_Hist_weightBetween 37 = .ok (.getfield 11, 3) := by decide +kernel
theorem d_Hist_weightBetween_40 : decode b_Hist_weightBetween 40 = .ok (.iload 4, 2) := by decide +kernel
theorem d_Hist_weightBetween_42 : decode b_Hist_weightBetween 42 = .ok (.aaload, 1) := by decide +kernel
theorem d_Hist_weightBetween_43 : decode b_Hist_weightBetween 43 = .ok (.getfield 42, 3) := by decide +kernel
theorem d_Hist_weightBetween_46 : decode b_Hist_weightBetween 46 = .ok (.iadd, 1) := by decide +kernel
theorem d_Hist_weightBetween_47 : decode b_Hist_weightBetween 47 = .ok (.istore_n 3, 1) := by decide +kernel
theorem d_Hist_weightBetween_48 : decode b_Hist_weightBetween 48 = .ok (.iinc 4 1, 3) := by decide +kernel
theorem d_Hist_weightBetween_51 : decode b_Hist_weightBetween 51 = .ok (.goto (-42), 3) := by decide +kernel
theorem d_Hist_weightBetween_54 : decode b_Hist_weightBetween 54 = .ok (.iload_n 3, 1) := by decide +kernel
theorem d_Hist_weightBetween_55 : decode b_Hist_weightBetween 55 = .ok (.ireturn, 1) := by decide +kernel
def f_Hist_weightBetween_54  (v3 : Int32) (S : zq_S) : Option (zq_S × Int32) :=
  some (S, v3)
def f_Hist_weightBetween_48 (k9 : Nat → Int32 → Int32 → Int32 → zq_S → Option (zq_S × Int32)) (a0 : Nat) (v2 : Int32) (v3 : Int32) (v4 : Int32) (S : zq_S) : Option (zq_S × Int32) :=
  k9 a0 v2 v3 (v4 + (1 : Int32)) S
def f_Hist_weightBetween_9 (k9 : Nat → Int32 → Int32 → Int32 → zq_S → Option (zq_S × Int32)) (a0 : Nat) (v2 : Int32) (v3 : Int32) (v4 : Int32) (S : zq_S) : Option (zq_S × Int32) :=
  if v2 ≤ v4 then
    f_Hist_weightBetween_54  v3 S
  else
    (zs_gr S a0 2 0).bind fun x1 =>
    (x1).bind fun a3 =>
    (zs_len S a3 1).bind fun x5 =>
    if x5 ≤ v4 then
      f_Hist_weightBetween_54  v3 S
    else
      (zs_gr S a0 2 0).bind fun x7 =>
      (x7).bind fun a9 =>
      (zs_aal S a9 1 v4).bind fun x11 =>
      if x11 = none then
        f_Hist_weightBetween_48 k9 a0 v2 v3 v4 S
      else
        (zs_gr S a0 2 0).bind fun x13 =>
        (x13).bind fun a15 =>
        (zs_aal S a15 1 v4).bind fun x17 =>
        (x17).bind fun a19 =>
        (zs_gi S a19 1 2).bind fun x21 =>
        f_Hist_weightBetween_48 k9 a0 v2 (v3 + x21) v4 S
def g_Hist_weightBetween_9  : Nat → Nat → Int32 → Int32 → Int32 → zq_S → Option (zq_S × Int32)
  | 0 => fun _ _ _ _ _ => none
  | n + 1 => fun a0 v2 v3 v4 S => f_Hist_weightBetween_9  (g_Hist_weightBetween_9  n) a0 v2 v3 v4 S
def f_Hist_weightBetween (a0 : Nat) (v1 : Int32) (v2 : Int32) (S : zq_S) : Option (zq_S × Int32) :=
  g_Hist_weightBetween_9  zq_F a0 v2 (0 : Int32) (if v1 < (0 : Int32) then (0 : Int32) else v1) S
set_option maxHeartbeats 4000000 in
set_option maxRecDepth 100000 in
theorem r_Hist_weightBetween_54 {l : Launch} (hl : l.stackTraces = false) {G : zq_G} {S0 T : zq_S} {v : Int32} {X : zq_X} (Z : Z_Hist_weightBetween l G S0 T v X) {v3 : Int32} {S : zq_S} (hf : f_Hist_weightBetween_54  v3 S = some (T, v)) : zq_W (Y_Hist_weightBetween l G S0 T v) X 54 [(3, .int v3)] [] S 0 0 := by
  unfold f_Hist_weightBetween_54 at hf
  refine zq_iload_n Z d_Hist_weightBetween_54 0 rfl ?_
  exact zq_iret Z d_Hist_weightBetween_55 (zs_1 hf) (zs_2 (fun z => (.inl (some (.int z)) : zq_R)) hf) ⟨(Nat.le_of_ble_eq_true rfl), (Nat.le_of_ble_eq_true rfl)⟩
set_option maxHeartbeats 4000000 in
set_option maxRecDepth 100000 in
theorem r_Hist_weightBetween_48 {l : Launch} (hl : l.stackTraces = false) {G : zq_G} {S0 T : zq_S} {v : Int32} {X : zq_X} (Z : Z_Hist_weightBetween l G S0 T v X) {k9 : Nat → Int32 → Int32 → Int32 → zq_S → Option (zq_S × Int32)} (hk9 : ∀ (a0 : Nat) (v2 : Int32) (v3 : Int32) (v4 : Int32) (S : zq_S), k9 a0 v2 v3 v4 S = some (T, v) → zq_W (Y_Hist_weightBetween l G S0 T v) X 9 [(0, .ref a0), (2, .int v2), (3, .int v3), (4, .int v4)] [] S 0 0) {a0 : Nat} {v2 : Int32} {v3 : Int32} {v4 : Int32} {S : zq_S} (hf : f_Hist_weightBetween_48 k9 a0 v2 v3 v4 S = some (T, v)) : zq_W (Y_Hist_weightBetween l G S0 T v) X 48 [(0, .ref a0), (2, .int v2), (3, .int v3), (4, .int v4)] [] S 0 0 := by
  unfold f_Hist_weightBetween_48 at hf
  refine zq_iinc Z (v4 + (1 : Int32)) [(4, .int (v4 + (1 : Int32))), (0, .ref a0), (2, .int v2), (3, .int v3)] d_Hist_weightBetween_48 3 rfl rfl (by decide) rfl ?_
  refine zq_goto Z 9 d_Hist_weightBetween_51 (by decide) ?_
  refine zq_sub (lo' := [(0, .ref a0), (2, .int v2), (3, .int v3), (4, .int (v4 + (1 : Int32)))]) [1, 2, 3, 0] rfl ?_
  exact hk9 _ _ _ _ _ hf
set_option maxHeartbeats 4000000 in
set_option maxRecDepth 100000 in
theorem r_Hist_weightBetween_9 {l : Launch} (hl : l.stackTraces = false) {G : zq_G} {S0 T : zq_S} {v : Int32} {X : zq_X} (Z : Z_Hist_weightBetween l G S0 T v X) {k9 : Nat → Int32 → Int32 → Int32 → zq_S → Option (zq_S × Int32)} (hk9 : ∀ (a0 : Nat) (v2 : Int32) (v3 : Int32) (v4 : Int32) (S : zq_S), k9 a0 v2 v3 v4 S = some (T, v) → zq_W (Y_Hist_weightBetween l G S0 T v) X 9 [(0, .ref a0), (2, .int v2), (3, .int v3), (4, .int v4)] [] S 0 0) {a0 : Nat} {v2 : Int32} {v3 : Int32} {v4 : Int32} {S : zq_S} (hf : f_Hist_weightBetween_9 k9 a0 v2 v3 v4 S = some (T, v)) : zq_W (Y_Hist_weightBetween l G S0 T v) X 9 [(0, .ref a0), (2, .int v2), (3, .int v3), (4, .int v4)] [] S 0 0 := by
  unfold f_Hist_weightBetween_9 at hf
  refine zq_iload Z d_Hist_weightBetween_9 3 rfl ?_
  refine zq_iload_n Z d_Hist_weightBetween_11 1 rfl ?_
  refine zq_icmp_ge Z 54 d_Hist_weightBetween_12 (by decide) (fun q => ?_) (fun q => ?_)
  · replace hf := zs_T q hf
    refine zq_sub (lo' := [(3, .int v3)]) [2] rfl ?_
    exact r_Hist_weightBetween_54 hl Z  hf
  · replace hf := zs_N q hf
    refine zq_iload Z d_Hist_weightBetween_15 3 rfl ?_
    refine zq_aload_n Z d_Hist_weightBetween_17 0 rfl ?_
    have hq := Option.bind_eq_some_iff.mp hf
    clear hf
    obtain ⟨x1, h2, hf⟩ := hq
    refine zr_getr Z cd_Hist 0 d_Hist_weightBetween_18 (by decide) m_40 h2 ?_
    have hq := Option.bind_eq_some_iff.mp hf
    clear hf
    obtain ⟨a3, h4, hf⟩ := hq
    subst h4
    have hq := Option.bind_eq_some_iff.mp hf
    clear hf
    obtain ⟨x5, h6, hf⟩ := hq
    refine zr_len Z 1 (fun _ => rfl) d_Hist_weightBetween_21 h6 ?_
    refine zq_icmp_ge Z 54 d_Hist_weightBetween_22 (by decide) (fun q => ?_) (fun q => ?_)
    · replace hf := zs_T q hf
      refine zq_sub (lo' := [(3, .int v3)]) [2] rfl ?_
      exact r_Hist_weightBetween_54 hl Z  hf
    · replace hf := zs_N q hf
      refine zq_aload_n Z d_Hist_weightBetween_25 0 rfl ?_
      have hq := Option.bind_eq_some_iff.mp hf
      clear hf
      obtain ⟨x7, h8, hf⟩ := hq
      refine zr_getr Z cd_Hist 0 d_Hist_weightBetween_26 (by decide) m_40 h8 ?_
      refine zq_iload Z d_Hist_weightBetween_29 3 rfl ?_
      have hq := Option.bind_eq_some_iff.mp hf
      clear hf
      obtain ⟨a9, h10, hf⟩ := hq
      subst h10
      have hq := Option.bind_eq_some_iff.mp hf
      clear hf
      obtain ⟨x11, h12, hf⟩ := hq
      refine zr_aaload Z 1 (fun _ => rfl) d_Hist_weightBetween_31 h12 ?_
      refine zq_ifnull (x := x11) Z 48 d_Hist_weightBetween_32 (by decide) (fun q => ?_) (fun q => ?_)
      · replace hf := zs_T q hf
        refine zq_sub (lo' := [(0, .ref a0), (2, .int v2), (3, .int v3), (4, .int v4)]) [0, 1, 2, 3] rfl ?_
        exact r_Hist_weightBetween_48 hl Z hk9 hf
      · replace hf := zs_N q hf
        refine zq_iload_n Z d_Hist_weightBetween_35 2 rfl ?_
        refine zq_aload_n Z d_Hist_weightBetween_36 0 rfl ?_
        have hq := Option.bind_eq_some_iff.mp hf
        clear hf
        obtain ⟨x13, h14, hf⟩ := hq
        refine zr_getr Z cd_Hist 0 d_Hist_weightBetween_37 (by decide) m_40 h14 ?_
        refine zq_iload Z d_Hist_weightBetween_40 3 rfl ?_
        have hq := Option.bind_eq_some_iff.mp hf
        clear hf
        obtain ⟨a15, h16, hf⟩ := hq
        subst h16
        have hq := Option.bind_eq_some_iff.mp hf
        clear hf
        obtain ⟨x17, h18, hf⟩ := hq
        refine zr_aaload Z 1 (fun _ => rfl) d_Hist_weightBetween_42 h18 ?_
        have hq := Option.bind_eq_some_iff.mp hf
        clear hf
        obtain ⟨a19, h20, hf⟩ := hq
        subst h20
        have hq := Option.bind_eq_some_iff.mp hf
        clear hf
        obtain ⟨x21, h22, hf⟩ := hq
        refine zr_geti Z cd_Group 2 d_Hist_weightBetween_43 (by decide) m_55 h22 ?_
        refine zq_iadd Z d_Hist_weightBetween_46 ?_
        refine zq_istore_n Z rfl [(3, .int (v3 + x21)), (0, .ref a0), (2, .int v2), (4, .int v4)] d_Hist_weightBetween_47 (by decide) rfl ?_
        refine zq_sub (lo' := [(0, .ref a0), (2, .int v2), (3, .int (v3 + x21)), (4, .int v4)]) [1, 2, 0, 3] rfl ?_
        exact r_Hist_weightBetween_48 hl Z hk9 hf
theorem w_Hist_weightBetween_9 {l : Launch} (hl : l.stackTraces = false) {G : zq_G} {S0 T : zq_S} {v : Int32} {X : zq_X} (Z : Z_Hist_weightBetween l G S0 T v X) : ∀ (n : Nat) (a0 : Nat) (v2 : Int32) (v3 : Int32) (v4 : Int32) (S : zq_S), g_Hist_weightBetween_9  n a0 v2 v3 v4 S = some (T, v) → zq_W (Y_Hist_weightBetween l G S0 T v) X 9 [(0, .ref a0), (2, .int v2), (3, .int v3), (4, .int v4)] [] S 0 0 := by
  intro n
  induction n with
  | zero => intro a0 v2 v3 v4 S hf; cases hf
  | succ n ih =>
    intro a0 v2 v3 v4 S hf
    have hf : f_Hist_weightBetween_9  (g_Hist_weightBetween_9  n) a0 v2 v3 v4 S = some (T, v) := hf
    exact r_Hist_weightBetween_9 hl Z  ih hf
set_option maxHeartbeats 4000000 in
set_option maxRecDepth 100000 in
theorem c_Hist_weightBetween {l : Launch} (hl : l.stackTraces = false) {G : zq_G} {a0 : Nat} {v1 : Int32} {v2 : Int32} {S0 T : zq_S} {v : Int32} (hf : f_Hist_weightBetween a0 v1 v2 S0 = some (T, v)) : zq_M l y_Hist_weightBetween (.code y_Hist_weightBetween b_Hist_weightBetween 5 (some (.int))) rm_Hist_weightBetween G [.ref a0, .int v1, .int v2] S0 ((.inl (some (.int v)) : zq_R)) T := by
  refine zq_Mof (lo := [(0, .ref a0), (1, .int v1), (2, .int v2)]) hl (by decide) (Nat.le_of_ble_eq_true rfl) rfl (fun X Z => ?_)
  have Z : Z_Hist_weightBetween l G S0 T v X := Z
  show zq_W (Y_Hist_weightBetween l G S0 T v) X 0 [(0, .ref a0), (1, .int v1), (2, .int v2)] [] S0 0 0
  unfold f_Hist_weightBetween at hf
  refine zq_iconst Z (0 : Int32) d_Hist_weightBetween_0 (by decide) ?_
  refine zq_istore_n Z rfl [(3, .int (0 : Int32)), (0, .ref a0), (1, .int v1), (2, .int v2)] d_Hist_weightBetween_1 (by decide) rfl ?_
  refine zq_iload_n Z d_Hist_weightBetween_2 2 rfl ?_
  refine zq_iconst Z (0 : Int32) d_Hist_weightBetween_3 (by decide) ?_
  refine zq_mmax Z d_Hist_weightBetween_4 m_45 m_46 m_8 m_47 (Nat.le_of_ble_eq_true rfl) (Nat.le_of_ble_eq_true rfl) ⟨(Nat.le_of_ble_eq_true rfl), (Nat.le_of_ble_eq_true rfl)⟩ ?_
  refine zq_istore Z [(4, .int (if v1 < (0 : Int32) then (0 : Int32) else v1)), (3, .int (0 : Int32)), (0, .ref a0), (1, .int v1), (2, .int v2)] d_Hist_weightBetween_7 (by decide) rfl ?_
  refine zq_sub (lo' := [(0, .ref a0), (2, .int v2), (3, .int (0 : Int32)), (4, .int (if v1 < (0 : Int32) then (0 : Int32) else v1))]) [2, 4, 1, 0] rfl ?_
  exact w_Hist_weightBetween_9 hl Z  _ _ _ _ _ _ hf
theorem d_Hist_weightOfDone_0 : decode b_Hist_weightOfDone 0 = .ok (.aload_n 0, 1) := by decide +kernel
theorem d_Hist_weightOfDone_1 : decode b_Hist_weightOfDone 1 = .ok (.iconst 0, 1) := by decide +kernel
theorem d_Hist_weightOfDone_2 : decode b_Hist_weightOfDone 2 = .ok (.aload_n 0, 1) := by decide +kernel
theorem d_Hist_weightOfDone_3 : decode b_Hist_weightOfDone 3 = .ok (.getfield 17, 3) := by decide +kernel
theorem d_Hist_weightOfDone_6 : decode b_Hist_weightOfDone 6 = .ok (.invokevirtual 52, 3) := by decide +kernel
theorem d_Hist_weightOfDone_9 : decode b_Hist_weightOfDone 9 = .ok (.ireturn, 1) := by decide +kernel
def f_Hist_weightOfDone (a0 : Nat) (S : zq_S) : Option (zq_S × Int32) :=
  (zs_gi S a0 2 1).bind fun x1 =>
  if zs_is S a0 2 = true then
  zs_b (f_Hist_weightBetween a0 (0 : Int32) x1 S) fun S4 x5 =>
  some (S4, x5)
  else none
set_option maxHeartbeats 4000000 in
set_option maxRecDepth 100000 in
theorem c_Hist_weightOfDone {l : Launch} (hl : l.stackTraces = false) {G : zq_G} {a0 : Nat} {S0 T : zq_S} {v : Int32} (hf : f_Hist_weightOfDone a0 S0 = some (T, v)) : zq_M l y_Hist_weightOfDone (.code y_Hist_weightOfDone b_Hist_weightOfDone 1 (some (.int))) rm_Hist_weightOfDone G [.ref a0] S0 ((.inl (some (.int v)) : zq_R)) T := by
  refine zq_Mof (lo := [(0, .ref a0)]) hl (by decide) (Nat.le_of_ble_eq_true rfl) rfl (fun X Z => ?_)
  have Z : Z_Hist_weightOfDone l G S0 T v X := Z
  show zq_W (Y_Hist_weightOfDone l G S0 T v) X 0 [(0, .ref a0)] [] S0 0 0
  unfold f_Hist_weightOfDone at hf
  refine zq_aload_n Z d_Hist_weightOfDone_0 0 rfl ?_
  refine zq_iconst Z (0 : Int32) d_Hist_weightOfDone_1 (by decide) ?_
  refine zq_aload_n Z d_Hist_weightOfDone_2 0 rfl ?_
  have hq := Option.bind_eq_some_iff.mp hf
  clear hf
  obtain ⟨x1, h2, hf⟩ := hq
  refine zr_geti Z cd_Hist 1 d_Hist_weightOfDone_3 (by decide) m_41 h2 ?_
  have hq := zs_C hf
  clear hf
  obtain ⟨h6, hf⟩ := hq
  obtain ⟨fs7, e8⟩ := zs_isS h6
  have hq := zs_bS hf
  clear hf
  obtain ⟨S4, x5, h3, hf⟩ := hq
  refine zq_contR (zq_stepV Z zq_cf1 (c_Hist_weightBetween hl h3) 2 rfl e8 d_Hist_weightOfDone_6 m_65 m_67 m_68 m_66 m_60 p_Hist_weightBetween ⟨(Nat.le_of_ble_eq_true rfl), (Nat.le_of_ble_eq_true rfl), (Nat.le_of_ble_eq_true rfl), (Nat.le_of_ble_eq_true rfl)⟩ rfl (Nat.le_of_ble_eq_true rfl)) Z.p ?_
  exact zq_iret Z d_Hist_weightOfDone_9 (zs_1 hf) (zs_2 (fun z => (.inl (some (.int z)) : zq_R)) hf) ⟨(Nat.le_of_ble_eq_true rfl), (Nat.le_of_ble_eq_true rfl)⟩
theorem d_Hist_isTooMuch_0 : decode b_Hist_isTooMuch 0 = .ok (.aload_n 0, 1) := by decide +kernel
theorem d_Hist_isTooMuch_1 : decode b_Hist_isTooMuch 1 = .ok (.getfield 17, 3) := by decide +kernel
theorem d_Hist_isTooMuch_4 : decode b_Hist_isTooMuch 4 = .ok (.bipush 40, 2) := by decide +kernel
theorem d_Hist_isTooMuch_6 : decode b_Hist_isTooMuch 6 = .ok (.if_icmp .gt 13, 3) := by decide +kernel
theorem d_Hist_isTooMuch_9 : decode b_Hist_isTooMuch 9 = .ok (.aload_n 0, 1) := by decide +kernel
theorem d_Hist_isTooMuch_10 : decode b_Hist_isTooMuch 10 = .ok (.invokevirtual 61, 3) := by decide +kernel
theorem d_Hist_isTooMuch_13 : decode b_Hist_isTooMuch 13 = .ok (.sipush 3000, 3) := by decide +kernel
theorem d_Hist_isTooMuch_16 : decode b_Hist_isTooMuch 16 = .ok (.if_icmp .le 7, 3) := by decide +kernel
theorem d_Hist_isTooMuch_19 : decode b_Hist_isTooMuch 19 = .ok (.iconst 1, 1) := by decide +kernel
theorem d_Hist_isTooMuch_20 : decode b_Hist_isTooMuch 20 = .ok (.goto 4, 3) := by decide +kernel
theorem d_Hist_isTooMuch_23 : decode b_Hist_isTooMuch 23 = .ok (.iconst 0, 1) := by decide +kernel
theorem d_Hist_isTooMuch_24 : decode b_Hist_isTooMuch 24 = .ok (.ireturn, 1) := by decide +kernel
def f_Hist_isTooMuch_24  (s0 : Int32) (S : zq_S) : Option (zq_S × Int32) :=
  if s0 = 0 ∨ s0 = 1 then some (S, s0) else none
def f_Hist_isTooMuch_19   (S : zq_S) : Option (zq_S × Int32) :=
  f_Hist_isTooMuch_24  (1 : Int32) S
def f_Hist_isTooMuch (a0 : Nat) (S : zq_S) : Option (zq_S × Int32) :=
  (zs_gi S a0 2 1).bind fun x1 =>
  if (40 : Int32) < x1 then
    f_Hist_isTooMuch_19   S
  else
    if zs_is S a0 2 = true then
    zs_b (f_Hist_weightOfDone a0 S) fun S4 x5 =>
    if x5 ≤ (3000 : Int32) then
      f_Hist_isTooMuch_24  (0 : Int32) S4
    else
      f_Hist_isTooMuch_19   S4
    else none
set_option maxHeartbeats 4000000 in
set_option maxRecDepth 100000 in
theorem r_Hist_isTooMuch_24 {l : Launch} (hl : l.stackTraces = false) {G : zq_G} {S0 T : zq_S} {v : Int32} {X : zq_X} (Z : Z_Hist_isTooMuch l G S0 T v X) {s0 : Int32} {S : zq_S} (hf : f_Hist_isTooMuch_24  s0 S = some (T, v)) : zq_W (Y_Hist_isTooMuch l G S0 T v) X 24 [] [.int s0] S 0 0 := by
  unfold f_Hist_isTooMuch_24 at hf
  have hq := zs_C hf
  clear hf
  obtain ⟨h1, hf⟩ := hq
  exact zq_zret Z d_Hist_isTooMuch_24 h1 (zs_1 hf) (zs_2 (fun z => (.inl (some (.int z)) : zq_R)) hf) ⟨(Nat.le_of_ble_eq_true rfl), (Nat.le_of_ble_eq_true rfl)⟩
set_option maxHeartbeats 4000000 in
set_option maxRecDepth 100000 in
theorem r_Hist_isTooMuch_19 {l : Launch} (hl : l.stackTraces = false) {G : zq_G} {S0 T : zq_S} {v : Int32} {X : zq_X} (Z : Z_Hist_isTooMuch l G S0 T v X)  {S : zq_S} (hf : f_Hist_isTooMuch_19   S = some (T, v)) : zq_W (Y_Hist_isTooMuch l G S0 T v) X 19 [] [] S 0 0 := by
  unfold f_Hist_isTooMuch_19 at hf
  refine zq_iconst Z (1 : Int32) d_Hist_isTooMuch_19 (by decide) ?_
  refine zq_goto Z 24 d_Hist_isTooMuch_20 (by decide) ?_
  refine zq_sub (lo' := []) [] rfl ?_
  exact r_Hist_isTooMuch_24 hl Z  hf
set_option maxHeartbeats 4000000 in
set_option maxRecDepth 100000 in
theorem c_Hist_isTooMuch {l : Launch} (hl : l.stackTraces = false) {G : zq_G} {a0 : Nat} {S0 T : zq_S} {v : Int32} (hf : f_Hist_isTooMuch a0 S0 = some (T, v)) : zq_M l y_Hist_isTooMuch (.code y_Hist_isTooMuch b_Hist_isTooMuch 1 (some (.boolean))) rm_Hist_isTooMuch G [.ref a0] S0 ((.inl (some (.int v)) : zq_R)) T := by
  refine zq_Mof (lo := [(0, .ref a0)]) hl (by decide) (Nat.le_of_ble_eq_true rfl) rfl (fun X Z => ?_)
  have Z : Z_Hist_isTooMuch l G S0 T v X := Z
  show zq_W (Y_Hist_isTooMuch l G S0 T v) X 0 [(0, .ref a0)] [] S0 0 0
  unfold f_Hist_isTooMuch at hf
  refine zq_aload_n Z d_Hist_isTooMuch_0 0 rfl ?_
  have hq := Option.bind_eq_some_iff.mp hf
  clear hf
  obtain ⟨x1, h2, hf⟩ := hq
  refine zr_geti Z cd_Hist 1 d_Hist_isTooMuch_1 (by decide) m_41 h2 ?_
  refine zq_bipush Z (40 : Int32) d_Hist_isTooMuch_4 (by decide) ?_
  refine zq_icmp_gt Z 19 d_Hist_isTooMuch_6 (by decide) (fun q => ?_) (fun q => ?_)
  · replace hf := zs_T q hf
    refine zq_sub (lo' := []) [] rfl ?_
    exact r_Hist_isTooMuch_19 hl Z  hf
  · replace hf := zs_N q hf
    refine zq_aload_n Z d_Hist_isTooMuch_9 0 rfl ?_
    have hq := zs_C hf
    clear hf
    obtain ⟨h6, hf⟩ := hq
    obtain ⟨fs7, e8⟩ := zs_isS h6
    have hq := zs_bS hf
    clear hf
    obtain ⟨S4, x5, h3, hf⟩ := hq
    refine zq_contR (zq_stepV Z zq_cf1 (c_Hist_weightOfDone hl h3) 2 rfl e8 d_Hist_isTooMuch_10 m_69 m_71 m_72 m_70 m_60 p_Hist_weightOfDone ⟨(Nat.le_of_ble_eq_true rfl), (Nat.le_of_ble_eq_true rfl), (Nat.le_of_ble_eq_true rfl), (Nat.le_of_ble_eq_true rfl)⟩ rfl (Nat.le_of_ble_eq_true rfl)) Z.p ?_
    refine zq_sipush Z (3000 : Int32) d_Hist_isTooMuch_13 (by decide) ?_
    refine zq_icmp_le Z 23 d_Hist_isTooMuch_16 (by decide) (fun q => ?_) (fun q => ?_)
    · replace hf := zs_T q hf
      refine zq_iconst Z (0 : Int32) d_Hist_isTooMuch_23 (by decide) ?_
      refine zq_sub (lo' := []) [] rfl ?_
      exact r_Hist_isTooMuch_24 hl Z  hf
    · replace hf := zs_N q hf
      refine zq_sub (lo' := []) [] rfl ?_
      exact r_Hist_isTooMuch_19 hl Z  hf
theorem d_Hist_forgetEarliest_0 : decode b_Hist_forgetEarliest 0 = .ok (.aload_n 0, 1) := by decide +kernel
theorem d_Hist_forgetEarliest_1 : decode b_Hist_forgetEarliest 1 = .ok (.getfield 11, 3) := by decide +kernel
theorem d_Hist_forgetEarliest_4 : decode b_Hist_forgetEarliest 4 = .ok (.iconst 0, 1) := by decide +kernel
theorem d_Hist_forgetEarliest_5 : decode b_Hist_forgetEarliest 5 = .ok (.aaload, 1) := by decide +kernel
theorem d_Hist_forgetEarliest_6 : decode b_Hist_forgetEarliest 6 = .ok (.astore_n 1, 1) := by decide +kernel
theorem d_Hist_forgetEarliest_7 : decode b_Hist_forgetEarliest 7 = .ok (.iconst 1, 1) := by decide +kernel
theorem d_Hist_forgetEarliest_8 : decode b_Hist_forgetEarliest 8 = .ok (.istore_n 2, 1) := by decide +kernel
theorem d_Hist_forgetEarliest_9 : decode b_Hist_forgetEarliest 9 = .ok (.iload_n 2, 1) := by decide +kernel
theorem d_Hist_forgetEarliest_10 : decode b_Hist_forgetEarliest 10 = .ok (.aload_n 0, 1) := by decide +kernel
theorem d_Hist_forgetEarliest_11 : decode b_Hist_forgetEarliest 11 = .ok (.getfield 17, 3) := by decide +kernel
theorem d_Hist_forgetEarliest_14 : decode b_Hist_forgetEarliest 14 = .ok (.if_icmp .ge 32, 3) := by decide +kernel
theorem d_Hist_forgetEarliest_17 : decode b_Hist_forgetEarliest 17 = .ok (.iload_n 2, 1) := by decide +kernel
theorem d_Hist_forgetEarliest_18 : decode b_Hist_forgetEarliest 18 = .ok (.aload_n 0, 1) := by decide +kernel
theorem d_Hist_forgetEarliest_19 : decode b_Hist_forgetEarliest 19 = .ok (.getfield 11, 3) := by decide +kernel
theorem d_Hist_forgetEarliest_22 : decode b_Hist_forgetEarliest 22 = .ok (.arraylength, 1) := by decide +kernel
theorem d_Hist_forgetEarliest_23 : decode b_Hist_forgetEarliest 23 = .ok (.if_icmp .ge 23, 3) := by decide +kernel
theorem d_Hist_forgetEarliest_26 : decode b_Hist_forgetEarliest 26 = .ok (.aload_n 0, 1) := by decide +kernel
theorem d_Hist_forgetEarliest_27 : decode b_Hist_forgetEarliest 27 = .ok (.getfield 11, 3) := by decide +kernel
theorem d_Hist_forgetEarliest_30 : decode b_Hist_forgetEarliest 30 = .ok (.iload_n 2, 1) := by decide +kernel
theorem d_Hist_forgetEarliest_31 : decode b_Hist_forgetEarliest 31 = .ok (.iconst 1, 1) := by decide +kernel
theorem d_Hist_forgetEarliest_32 : decode b_Hist_forgetEarliest 32 = .ok (.isub, 1) := by decide +kernel
theorem d_Hist_forgetEarliest_33 : decode b_Hist_forgetEarliest 33 = .ok (.aload_n 0, 1) := by decide +kernel
theorem d_Hist_forgetEarliest_34 : decode b_Hist_forgetEarliest 34 = .ok (.getfield 11, 3) := by decide +kernel
theorem d_Hist_forgetEarliest_37 : decode b_Hist_forgetEarliest 37 = .ok (.iload_n 2, 1) := by decide +kernel
theorem d_Hist_forgetEarliest_38 : decode b_Hist_forgetEarliest 38 = .ok (.aaload, 1) := by decide +kernel
theorem d_Hist_forgetEarliest_39 : decode b_Hist_forgetEarliest 39 = .ok (.aastore, 1) := by decide +kernel
theorem d_Hist_forgetEarliest_40 : decode b_Hist_forgetEarliest 40 = .ok (.iinc 2 1, 3) := by decide +kernel
theorem d_Hist_forgetEarliest_43 : decode b_Hist_forgetEarliest 43 = .ok (.goto (-34), 3) := by decide +kernel
theorem d_Hist_forgetEarliest_46 : decode b_Hist_forgetEarliest 46 = .ok (.aload_n 0, 1) := by decide +kernel
theorem d_Hist_forgetEarliest_47 : decode b_Hist_forgetEarliest 47 = .ok (.dup, 1) := by decide +kernel
theorem d_Hist_forgetEarliest_48 : decode b_Hist_forgetEarliest 48 = .ok (.getfield 17, 3) := by decide +kernel
theorem d_Hist_forgetEarliest_51 : decode b_Hist_forgetEarliest 51 = .ok (.iconst 1, 1) := by decide +kernel
theorem d_Hist_forgetEarliest_52 : decode b_Hist_forgetEarliest 52 = .ok (.isub, 1) := by decide +kernel
theorem d_Hist_forgetEarliest_53 : decode b_Hist_forgetEarliest 53 = .ok (.putfield 17, 3) := by decide +kernel
theorem d_Hist_forgetEarliest_56 : decode b_Hist_forgetEarliest 56 = .ok (.aload_n 0, 1) := by decide +kernel
theorem d_Hist_forgetEarliest_57 : decode b_Hist_forgetEarliest 57 = .ok (.getfield 17, 3) := by decide +kernel
theorem d_Hist_forgetEarliest_60 : decode b_Hist_forgetEarliest 60 = .ok (.ifCond .lt 25, 3) := by decide +kernel
theorem d_Hist_forgetEarliest_63 : decode b_Hist_forgetEarliest 63 = .ok (.aload_n 0, 1) := by decide +kernel
theorem d_Hist_forgetEarliest_64 : decode b_Hist_forgetEarliest 64 = .ok (.getfield 17, 3) := by decide +kernel
theorem d_Hist_forgetEarliest_67 : decode b_Hist_forgetEarliest 67 = .ok (.aload_n 0, 1) := by decide +kernel
theorem d_Hist_forgetEarliest_68 : decode b_Hist_forgetEarliest 68 = .ok (.getfield 11, 3) := by decide +kernel
theorem d_Hist_forgetEarliest_71 : decode b_Hist_forgetEarliest 71 = .ok (.arraylength, 1) := by decide +kernel
theorem d_Hist_forgetEarliest_72 : decode b_Hist_forgetEarliest 72 = .ok (.if_icmp .ge 13, 3) := by decide +kernel
theorem d_Hist_forgetEarliest_75 : decode b_Hist_forgetEarliest 75 = .ok (.aload_n 0, 1) := by decide +kernel
theorem d_Hist_forgetEarliest_76 : decode b_Hist_forgetEarliest 76 = .ok (.getfield 11, 3) := by decide +kernel
theorem d_Hist_forgetEarliest_79 : decode b_Hist_forgetEarliest 79 = .ok (.aload_n 0, 1) := by decide +kernel
theorem d_Hist_forgetEarliest_80 : decode b_Hist_forgetEarliest 80 = .ok (.getfield 17, 3) := by decide +kernel
theorem d_Hist_forgetEarliest_83 : decode b_Hist_forgetEarliest 83 = .ok (.aload_n 1, 1) := by decide +kernel
theorem d_Hist_forgetEarliest_84 : decode b_Hist_forgetEarliest 84 = .ok (.aastore, 1) := by decide +kernel
theorem d_Hist_forgetEarliest_85 : decode b_Hist_forgetEarliest 85 = .ok (.return_, 1) := by decide +kernel
def f_Hist_forgetEarliest_85   (S : zq_S) : Option (zq_S × Unit) :=
  some (S, ())
def f_Hist_forgetEarliest_46  (a0 : Nat) (v1 : Option Nat) (S : zq_S) : Option (zq_S × Unit) :=
  (zs_gi S a0 2 1).bind fun x1 =>
  (zs_p S a0 2 1 (.int (x1 - (1 : Int32)))).bind fun S3 =>
  (zs_gi S3 a0 2 1).bind fun x5 =>
  if x5 < 0 then
    f_Hist_forgetEarliest_85   S3
  else
    (zs_gi S3 a0 2 1).bind fun x7 =>
    (zs_gr S3 a0 2 0).bind fun x9 =>
    (x9).bind fun a11 =>
    (zs_len S3 a11 1).bind fun x13 =>
    if x13 ≤ x7 then
      f_Hist_forgetEarliest_85   S3
    else
      (zs_gr S3 a0 2 0).bind fun x15 =>
      (zs_gi S3 a0 2 1).bind fun x17 =>
      (x15).bind fun a19 =>
      (zs_aas S3 a19 1 1 x17 v1).bind fun S21 =>
      f_Hist_forgetEarliest_85   S21
def f_Hist_forgetEarliest_9 (k9 : Nat → Option Nat → Int32 → zq_S → Option (zq_S × Unit)) (a0 : Nat) (v1 : Option Nat) (v2 : Int32) (S : zq_S) : Option (zq_S × Unit) :=
  (zs_gi S a0 2 1).bind fun x1 =>
  if x1 ≤ v2 then
    f_Hist_forgetEarliest_46  a0 v1 S
  else
    (zs_gr S a0 2 0).bind fun x3 =>
    (x3).bind fun a5 =>
    (zs_len S a5 1).bind fun x7 =>
    if x7 ≤ v2 then
      f_Hist_forgetEarliest_46  a0 v1 S
    else
      (zs_gr S a0 2 0).bind fun x9 =>
      (zs_gr S a0 2 0).bind fun x11 =>
      (x11).bind fun a13 =>
      (zs_aal S a13 1 v2).bind fun x15 =>
      (x9).bind fun a17 =>
      (zs_aas S a17 1 1 (v2 - (1 : Int32)) x15).bind fun S19 =>
      k9 a0 v1 (v2 + (1 : Int32)) S19
def g_Hist_forgetEarliest_9  : Nat → Nat → Option Nat → Int32 → zq_S → Option (zq_S × Unit)
  | 0 => fun _ _ _ _ => none
  | n + 1 => fun a0 v1 v2 S => f_Hist_forgetEarliest_9  (g_Hist_forgetEarliest_9  n) a0 v1 v2 S
def f_Hist_forgetEarliest (a0 : Nat) (S : zq_S) : Option (zq_S × Unit) :=
  (zs_gr S a0 2 0).bind fun x1 =>
  (x1).bind fun a3 =>
  (zs_aal S a3 1 (0 : Int32)).bind fun x5 =>
  g_Hist_forgetEarliest_9  zq_F a0 x5 (1 : Int32) S
set_option maxHeartbeats 4000000 in
set_option maxRecDepth 100000 in
theorem r_Hist_forgetEarliest_85 {l : Launch} (hl : l.stackTraces = false) {G : zq_G} {S0 T : zq_S} {v : Unit} {X : zq_X} (Z : Z_Hist_forgetEarliest l G S0 T v X)  {S : zq_S} (hf : f_Hist_forgetEarliest_85   S = some (T, v)) : zq_W (Y_Hist_forgetEarliest l G S0 T v) X 85 [] [] S 0 0 := by
  unfold f_Hist_forgetEarliest_85 at hf
  exact zq_vret Z d_Hist_forgetEarliest_85 (zs_1 hf) (zs_2 (fun _ => (.inl none : zq_R)) hf) ⟨(Nat.le_of_ble_eq_true rfl), (Nat.le_of_ble_eq_true rfl)⟩
set_option maxHeartbeats 4000000 in
set_option maxRecDepth 100000 in
theorem r_Hist_forgetEarliest_46 {l : Launch} (hl : l.stackTraces = false) {G : zq_G} {S0 T : zq_S} {v : Unit} {X : zq_X} (Z : Z_Hist_forgetEarliest l G S0 T v X) {a0 : Nat} {v1 : Option Nat} {S : zq_S} (hf : f_Hist_forgetEarliest_46  a0 v1 S = some (T, v)) : zq_W (Y_Hist_forgetEarliest l G S0 T v) X 46 [(0, .ref a0), (1, va_rf v1)] [] S 0 0 := by
  unfold f_Hist_forgetEarliest_46 at hf
  refine zq_aload_n Z d_Hist_forgetEarliest_46 0 rfl ?_
  refine zq_dup Z d_Hist_forgetEarliest_47 rfl ?_
  have hq := Option.bind_eq_some_iff.mp hf
  clear hf
  obtain ⟨x1, h2, hf⟩ := hq
  refine zr_geti Z cd_Hist 1 d_Hist_forgetEarliest_48 (by decide) m_41 h2 ?_
  refine zq_iconst Z (1 : Int32) d_Hist_forgetEarliest_51 (by decide) ?_
  refine zq_isub Z d_Hist_forgetEarliest_52 ?_
  have hq := Option.bind_eq_some_iff.mp hf
  clear hf
  obtain ⟨S3, h4, hf⟩ := hq
  refine zr_puti Z cd_Hist 1 d_Hist_forgetEarliest_53 (by decide) m_41 rfl (by decide +kernel) h4 ?_
  refine zq_aload_n Z d_Hist_forgetEarliest_56 0 rfl ?_
  have hq := Option.bind_eq_some_iff.mp hf
  clear hf
  obtain ⟨x5, h6, hf⟩ := hq
  refine zr_geti Z cd_Hist 1 d_Hist_forgetEarliest_57 (by decide) m_41 h6 ?_
  refine zq_if_lt Z 85 d_Hist_forgetEarliest_60 (by decide) (fun q => ?_) (fun q => ?_)
  · replace hf := zs_T q hf
    refine zq_sub (lo' := []) [] rfl ?_
    exact r_Hist_forgetEarliest_85 hl Z  hf
  · replace hf := zs_N q hf
    refine zq_aload_n Z d_Hist_forgetEarliest_63 0 rfl ?_
    have hq := Option.bind_eq_some_iff.mp hf
    clear hf
    obtain ⟨x7, h8, hf⟩ := hq
    refine zr_geti Z cd_Hist 1 d_Hist_forgetEarliest_64 (by decide) m_41 h8 ?_
    refine zq_aload_n Z d_Hist_forgetEarliest_67 0 rfl ?_
    have hq := Option.bind_eq_some_iff.mp hf
    clear hf
    obtain ⟨x9, h10, hf⟩ := hq
    refine zr_getr Z cd_Hist 0 d_Hist_forgetEarliest_68 (by decide) m_40 h10 ?_
    have hq := Option.bind_eq_some_iff.mp hf
    clear hf
    obtain ⟨a11, h12, hf⟩ := hq
    subst h12
    have hq := Option.bind_eq_some_iff.mp hf
    clear hf
    obtain ⟨x13, h14, hf⟩ := hq
    refine zr_len Z 1 (fun _ => rfl) d_Hist_forgetEarliest_71 h14 ?_
    refine zq_icmp_ge Z 85 d_Hist_forgetEarliest_72 (by decide) (fun q => ?_) (fun q => ?_)
    · replace hf := zs_T q hf
      refine zq_sub (lo' := []) [] rfl ?_
      exact r_Hist_forgetEarliest_85 hl Z  hf
    · replace hf := zs_N q hf
      refine zq_aload_n Z d_Hist_forgetEarliest_75 0 rfl ?_
      have hq := Option.bind_eq_some_iff.mp hf
      clear hf
      obtain ⟨x15, h16, hf⟩ := hq
      refine zr_getr Z cd_Hist 0 d_Hist_forgetEarliest_76 (by decide) m_40 h16 ?_
      refine zq_aload_n Z d_Hist_forgetEarliest_79 0 rfl ?_
      have hq := Option.bind_eq_some_iff.mp hf
      clear hf
      obtain ⟨x17, h18, hf⟩ := hq
      refine zr_geti Z cd_Hist 1 d_Hist_forgetEarliest_80 (by decide) m_41 h18 ?_
      refine zq_aload_nQ Z d_Hist_forgetEarliest_83 1 rfl ?_
      have hq := Option.bind_eq_some_iff.mp hf
      clear hf
      obtain ⟨a19, h20, hf⟩ := hq
      subst h20
      have hq := Option.bind_eq_some_iff.mp hf
      clear hf
      obtain ⟨S21, h22, hf⟩ := hq
      refine zr_aastore (v := v1) Z 1 1 rfl (fun _ => rfl) d_Hist_forgetEarliest_84 h22 ?_
      refine zq_sub (lo' := []) [] rfl ?_
      exact r_Hist_forgetEarliest_85 hl Z  hf
set_option maxHeartbeats 4000000 in
set_option maxRecDepth 100000 in
theorem r_Hist_forgetEarliest_9 {l : Launch} (hl : l.stackTraces = false) {G : zq_G} {S0 T : zq_S} {v : Unit} {X : zq_X} (Z : Z_Hist_forgetEarliest l G S0 T v X) {k9 : Nat → Option Nat → Int32 → zq_S → Option (zq_S × Unit)} (hk9 : ∀ (a0 : Nat) (v1 : Option Nat) (v2 : Int32) (S : zq_S), k9 a0 v1 v2 S = some (T, v) → zq_W (Y_Hist_forgetEarliest l G S0 T v) X 9 [(0, .ref a0), (1, va_rf v1), (2, .int v2)] [] S 0 0) {a0 : Nat} {v1 : Option Nat} {v2 : Int32} {S : zq_S} (hf : f_Hist_forgetEarliest_9 k9 a0 v1 v2 S = some (T, v)) : zq_W (Y_Hist_forgetEarliest l G S0 T v) X 9 [(0, .ref a0), (1, va_rf v1), (2, .int v2)] [] S 0 0 := by
  unfold f_Hist_forgetEarliest_9 at hf
  refine zq_iload_n Z d_Hist_forgetEarliest_9 2 rfl ?_
  refine zq_aload_n Z d_Hist_forgetEarliest_10 0 rfl ?_
  have hq := Option.bind_eq_some_iff.mp hf
  clear hf
  obtain ⟨x1, h2, hf⟩ := hq
  refine zr_geti Z cd_Hist 1 d_Hist_forgetEarliest_11 (by decide) m_41 h2 ?_
  refine zq_icmp_ge Z 46 d_Hist_forgetEarliest_14 (by decide) (fun q => ?_) (fun q => ?_)
  · replace hf := zs_T q hf
    refine zq_sub (lo' := [(0, .ref a0), (1, va_rf v1)]) [0, 1] rfl ?_
    exact r_Hist_forgetEarliest_46 hl Z  hf
  · replace hf := zs_N q hf
    refine zq_iload_n Z d_Hist_forgetEarliest_17 2 rfl ?_
    refine zq_aload_n Z d_Hist_forgetEarliest_18 0 rfl ?_
    have hq := Option.bind_eq_some_iff.mp hf
    clear hf
    obtain ⟨x3, h4, hf⟩ := hq
    refine zr_getr Z cd_Hist 0 d_Hist_forgetEarliest_19 (by decide) m_40 h4 ?_
    have hq := Option.bind_eq_some_iff.mp hf
    clear hf
    obtain ⟨a5, h6, hf⟩ := hq
    subst h6
    have hq := Option.bind_eq_some_iff.mp hf
    clear hf
    obtain ⟨x7, h8, hf⟩ := hq
    refine zr_len Z 1 (fun _ => rfl) d_Hist_forgetEarliest_22 h8 ?_
    refine zq_icmp_ge Z 46 d_Hist_forgetEarliest_23 (by decide) (fun q => ?_) (fun q => ?_)
    · replace hf := zs_T q hf
      refine zq_sub (lo' := [(0, .ref a0), (1, va_rf v1)]) [0, 1] rfl ?_
      exact r_Hist_forgetEarliest_46 hl Z  hf
    · replace hf := zs_N q hf
      refine zq_aload_n Z d_Hist_forgetEarliest_26 0 rfl ?_
      have hq := Option.bind_eq_some_iff.mp hf
      clear hf
      obtain ⟨x9, h10, hf⟩ := hq
      refine zr_getr Z cd_Hist 0 d_Hist_forgetEarliest_27 (by decide) m_40 h10 ?_
      refine zq_iload_n Z d_Hist_forgetEarliest_30 2 rfl ?_
      refine zq_iconst Z (1 : Int32) d_Hist_forgetEarliest_31 (by decide) ?_
      refine zq_isub Z d_Hist_forgetEarliest_32 ?_
      refine zq_aload_n Z d_Hist_forgetEarliest_33 0 rfl ?_
      have hq := Option.bind_eq_some_iff.mp hf
      clear hf
      obtain ⟨x11, h12, hf⟩ := hq
      refine zr_getr Z cd_Hist 0 d_Hist_forgetEarliest_34 (by decide) m_40 h12 ?_
      refine zq_iload_n Z d_Hist_forgetEarliest_37 2 rfl ?_
      have hq := Option.bind_eq_some_iff.mp hf
      clear hf
      obtain ⟨a13, h14, hf⟩ := hq
      subst h14
      have hq := Option.bind_eq_some_iff.mp hf
      clear hf
      obtain ⟨x15, h16, hf⟩ := hq
      refine zr_aaload Z 1 (fun _ => rfl) d_Hist_forgetEarliest_38 h16 ?_
      have hq := Option.bind_eq_some_iff.mp hf
      clear hf
      obtain ⟨a17, h18, hf⟩ := hq
      subst h18
      have hq := Option.bind_eq_some_iff.mp hf
      clear hf
      obtain ⟨S19, h20, hf⟩ := hq
      refine zr_aastore (v := x15) Z 1 1 rfl (fun _ => rfl) d_Hist_forgetEarliest_39 h20 ?_
      refine zq_iinc Z (v2 + (1 : Int32)) [(2, .int (v2 + (1 : Int32))), (0, .ref a0), (1, va_rf v1)] d_Hist_forgetEarliest_40 2 rfl rfl (by decide) (by cases v1 <;> rfl) ?_
      refine zq_goto Z 9 d_Hist_forgetEarliest_43 (by decide) ?_
      refine zq_sub (lo' := [(0, .ref a0), (1, va_rf v1), (2, .int (v2 + (1 : Int32)))]) [1, 2, 0] rfl ?_
      exact hk9 _ _ _ _ hf
theorem w_Hist_forgetEarliest_9 {l : Launch} (hl : l.stackTraces = false) {G : zq_G} {S0 T : zq_S} {v : Unit} {X : zq_X} (Z : Z_Hist_forgetEarliest l G S0 T v X) : ∀ (n : Nat) (a0 : Nat) (v1 : Option Nat) (v2 : Int32) (S : zq_S), g_Hist_forgetEarliest_9  n a0 v1 v2 S = some (T, v) → zq_W (Y_Hist_forgetEarliest l G S0 T v) X 9 [(0, .ref a0), (1, va_rf v1), (2, .int v2)] [] S 0 0 := by
  intro n
  induction n with
  | zero => intro a0 v1 v2 S hf; cases hf
  | succ n ih =>
    intro a0 v1 v2 S hf
    have hf : f_Hist_forgetEarliest_9  (g_Hist_forgetEarliest_9  n) a0 v1 v2 S = some (T, v) := hf
    exact r_Hist_forgetEarliest_9 hl Z  ih hf
set_option maxHeartbeats 4000000 in
set_option maxRecDepth 100000 in
theorem c_Hist_forgetEarliest {l : Launch} (hl : l.stackTraces = false) {G : zq_G} {a0 : Nat} {S0 T : zq_S} {v : Unit} (hf : f_Hist_forgetEarliest a0 S0 = some (T, v)) : zq_M l y_Hist_forgetEarliest (.code y_Hist_forgetEarliest b_Hist_forgetEarliest 3 none) rm_Hist_forgetEarliest G [.ref a0] S0 ((.inl none : zq_R)) T := by
  refine zq_Mof (lo := [(0, .ref a0)]) hl (by decide) (Nat.le_of_ble_eq_true rfl) rfl (fun X Z => ?_)
  have Z : Z_Hist_forgetEarliest l G S0 T v X := Z
  show zq_W (Y_Hist_forgetEarliest l G S0 T v) X 0 [(0, .ref a0)] [] S0 0 0
  unfold f_Hist_forgetEarliest at hf
  refine zq_aload_n Z d_Hist_forgetEarliest_0 0 rfl ?_
  have hq := Option.bind_eq_some_iff.mp hf
  clear hf
  obtain ⟨x1, h2, hf⟩ := hq
  refine zr_getr Z cd_Hist 0 d_Hist_forgetEarliest_1 (by decide) m_40 h2 ?_
  refine zq_iconst Z (0 : Int32) d_Hist_forgetEarliest_4 (by decide) ?_
  have hq := Option.bind_eq_some_iff.mp hf
  clear hf
  obtain ⟨a3, h4, hf⟩ := hq
  subst h4
  have hq := Option.bind_eq_some_iff.mp hf
  clear hf
  obtain ⟨x5, h6, hf⟩ := hq
  refine zr_aaload Z 1 (fun _ => rfl) d_Hist_forgetEarliest_5 h6 ?_
  refine zq_astore_nQ (x := x5) Z rfl [(1, va_rf x5), (0, .ref a0)] d_Hist_forgetEarliest_6 (by decide) rfl ?_
  refine zq_iconst Z (1 : Int32) d_Hist_forgetEarliest_7 (by decide) ?_
  refine zq_istore_n Z rfl [(2, .int (1 : Int32)), (1, va_rf x5), (0, .ref a0)] d_Hist_forgetEarliest_8 (by decide) (by cases x5 <;> rfl) ?_
  refine zq_sub (lo' := [(0, .ref a0), (1, va_rf x5), (2, .int (1 : Int32))]) [2, 1, 0] rfl ?_
  exact w_Hist_forgetEarliest_9 hl Z  _ _ _ _ _ hf
