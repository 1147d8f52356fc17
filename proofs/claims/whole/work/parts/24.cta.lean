theorem d_CT_init_0 : decode b_CT_init 0 = .ok (.aload_n 0, 1) := by decide +kernel
theorem d_CT_init_1 : decode b_CT_init 1 = .ok (.invokespecial 1, 3) := by decide +kernel
theorem d_CT_init_4 : decode b_CT_init 4 = .ok (.aload_n 0, 1) := by decide +kernel
theorem d_CT_init_5 : decode b_CT_init 5 = .ok (.new 7, 3) := by decide +kernel
theorem d_CT_init_8 : decode b_CT_init 8 = .ok (.dup, 1) := by decide +kernel
theorem d_CT_init_9 : decode b_CT_init 9 = .ok (.invokespecial 9, 3) := by decide +kernel
theorem d_CT_init_12 : decode b_CT_init 12 = .ok (.putfield 10, 3) := by decide +kernel
theorem d_CT_init_15 : decode b_CT_init 15 = .ok (.aload_n 0, 1) := by decide +kernel
theorem d_CT_init_16 : decode b_CT_init 16 = .ok (.sipush 600, 3) := by decide +kernel
theorem d_CT_init_19 : decode b_CT_init 19 = .ok (.newarray .long, 2) := by decide +kernel
theorem d_CT_init_21 : decode b_CT_init 21 = .ok (.putfield 16, 3) := by decide +kernel
theorem d_CT_init_24 : decode b_CT_init 24 = .ok (.aload_n 0, 1) := by decide +kernel
theorem d_CT_init_25 : decode b_CT_init 25 = .ok (.new 20, 3) := by decide +kernel
theorem d_CT_init_28 : decode b_CT_init 28 = .ok (.dup, 1) := by decide +kernel
theorem d_CT_init_29 : decode b_CT_init 29 = .ok (.invokespecial 22, 3) := by decide +kernel
theorem d_CT_init_32 : decode b_CT_init 32 = .ok (.putfield 23, 3) := by decide +kernel
theorem d_CT_init_35 : decode b_CT_init 35 = .ok (.aload_n 0, 1) := by decide +kernel
theorem d_CT_init_36 : decode b_CT_init 36 = .ok (.new 20, 3) := by decide +kernel
theorem d_CT_init_39 : decode b_CT_init 39 = .ok (.dup, 1) := by decide +kernel
theorem d_CT_init_40 : decode b_CT_init 40 = .ok (.invokespecial 22, 3) := by decide +kernel
theorem d_CT_init_43 : decode b_CT_init 43 = .ok (.putfield 27, 3) := by decide +kernel
theorem d_CT_init_46 : decode b_CT_init 46 = .ok (.aload_n 0, 1) := by decide +kernel
theorem d_CT_init_47 : decode b_CT_init 47 = .ok (.iconst 0, 1) := by decide +kernel
theorem d_CT_init_48 : decode b_CT_init 48 = .ok (.putfield 30, 3) := by decide +kernel
theorem d_CT_init_51 : decode b_CT_init 51 = .ok (.aload_n 0, 1) := by decide +kernel
theorem d_CT_init_52 : decode b_CT_init 52 = .ok (.iconst 0, 1) := by decide +kernel
theorem d_CT_init_53 : decode b_CT_init 53 = .ok (.putfield 34, 3) := by decide +kernel
theorem d_CT_init_56 : decode b_CT_init 56 = .ok (.return_, 1) := by decide +kernel
def f_CT_init (a0 : Nat) (S : zq_S) : Option (zq_S × Unit) :=
  zs_b (f_Hist_init (S.2.1) (zq_n S (.inr (2, [.null, .int 0, .int 0, .int 0, .int 0])))) fun S6 _ =>
  (zs_p S6 a0 3 0 (va_rf (some (S.2.1)))).bind fun S8 =>
  (zs_p (zq_n S8 (.inl (0, 600, .inr (.inl (fun _ => 0))))) a0 3 1 (va_rf (some (S8.2.1)))).bind fun S10 =>
  zs_b (f_Text_init (S10.2.1) (zq_n S10 (.inr (0, [.null, .int 0])))) fun S17 _ =>
  (zs_p S17 a0 3 2 (va_rf (some (S10.2.1)))).bind fun S19 =>
  zs_b (f_Text_init (S19.2.1) (zq_n S19 (.inr (0, [.null, .int 0])))) fun S26 _ =>
  (zs_p S26 a0 3 3 (va_rf (some (S19.2.1)))).bind fun S28 =>
  (zs_p S28 a0 3 4 (.int (0 : Int32))).bind fun S30 =>
  (zs_pz S30 a0 3 5 (0 : Int32)).bind fun S32 =>
  some (S32, ())
set_option maxHeartbeats 4000000 in
set_option maxRecDepth 100000 in
theorem c_CT_init {l : Launch} (hl : l.stackTraces = false) {G : zq_G} {a0 : Nat} {S0 T : zq_S} {v : Unit} (hf : f_CT_init a0 S0 = some (T, v)) : zq_M l y_CT_init (.code y_CT_init b_CT_init 1 none) rm_CT_init G [.ref a0] S0 ((.inl none : zq_R)) T := by
  refine zq_Mof (lo := [(0, .ref a0)]) hl (by decide) (Nat.le_of_ble_eq_true rfl) rfl (fun X Z => ?_)
  have Z : Z_CT_init l G S0 T v X := Z
  show zq_W (Y_CT_init l G S0 T v) X 0 [(0, .ref a0)] [] S0 0 0
  unfold f_CT_init at hf
  refine zq_aload_n Z d_CT_init_0 0 rfl ?_
  refine zq_objInit Z d_CT_init_1 m_81 m_1 m_2 (Nat.le_of_ble_eq_true rfl) (Nat.le_of_ble_eq_true rfl) ?_
  refine zq_aload_n Z d_CT_init_4 0 rfl ?_
  refine zq_new Z cd_Hist d_CT_init_5 m_82 m_83 m_60 [.null, .int 0, .int 0, .int 0, .int 0] (by decide) ⟨(Nat.le_of_ble_eq_true rfl), (Nat.le_of_ble_eq_true rfl)⟩ ?_
  refine zq_dup Z d_CT_init_8 rfl ?_
  have hq := zs_bS hf
  clear hf
  obtain ⟨S6, x7, h5, hf⟩ := hq
  refine zq_contR (zq_stepIN Z (c_Hist_init hl h5) d_CT_init_9 rfl m_84 m_85 m_86 m_60 p_Hist_init ⟨(Nat.le_of_ble_eq_true rfl), (Nat.le_of_ble_eq_true rfl), (Nat.le_of_ble_eq_true rfl), (Nat.le_of_ble_eq_true rfl)⟩ rfl (Nat.le_of_ble_eq_true rfl)) Z.p ?_
  have hq := Option.bind_eq_some_iff.mp hf
  clear hf
  obtain ⟨S8, h9, hf⟩ := hq
  refine zr_putrF (x := (some (S0.2.1))) (ty := .object "ChangeTracker$History") Z cd_CT 0 d_CT_init_12 (by decide) m_87 rfl rfl rfl (Or.inl ⟨_, rfl⟩) (by decide +kernel) h9 ?_
  refine zq_aload_n Z d_CT_init_15 0 rfl ?_
  refine zq_sipush Z (600 : Int32) d_CT_init_16 (by decide) ?_
  refine zq_newa (N := 600) (atype := .long) (ty := .long) Z rfl 0 (fun _ => rfl) (fun _ _ h => h) d_CT_init_19 m_3 (600, .inr (.inl (fun _ => 0))) (fun _ => rfl) (by decide) (by decide) (by decide) ⟨(Nat.le_of_ble_eq_true rfl), (Nat.le_of_ble_eq_true rfl)⟩ ?_
  have hq := Option.bind_eq_some_iff.mp hf
  clear hf
  obtain ⟨S10, h11, hf⟩ := hq
  refine zr_putrF (x := (some (S8.2.1))) (ty := .array (.long)) Z cd_CT 1 d_CT_init_21 (by decide) m_88 rfl rfl rfl (Or.inr ⟨_, rfl⟩) (by decide +kernel) h11 ?_
  refine zq_aload_n Z d_CT_init_24 0 rfl ?_
  refine zq_new Z cd_Text d_CT_init_25 m_89 m_21 m_18 [.null, .int 0] (by decide) ⟨(Nat.le_of_ble_eq_true rfl), (Nat.le_of_ble_eq_true rfl)⟩ ?_
  refine zq_dup Z d_CT_init_28 rfl ?_
  have hq := zs_bS hf
  clear hf
  obtain ⟨S17, x18, h16, hf⟩ := hq
  refine zq_contR (zq_stepIN Z (c_Text_init hl h16) d_CT_init_29 rfl m_22 m_90 m_24 m_18 p_Text_init ⟨(Nat.le_of_ble_eq_true rfl), (Nat.le_of_ble_eq_true rfl), (Nat.le_of_ble_eq_true rfl), (Nat.le_of_ble_eq_true rfl)⟩ rfl (Nat.le_of_ble_eq_true rfl)) Z.p ?_
  have hq := Option.bind_eq_some_iff.mp hf
  clear hf
  obtain ⟨S19, h20, hf⟩ := hq
  refine zr_putr (x := (some (S10.2.1))) (ty := .object "ChangeTracker$Text") Z cd_CT 2 d_CT_init_32 (by decide) m_91 rfl (Or.inl ⟨_, rfl⟩) (by decide +kernel) h20 ?_
  refine zq_aload_n Z d_CT_init_35 0 rfl ?_
  refine zq_new Z cd_Text d_CT_init_36 m_89 m_21 m_18 [.null, .int 0] (by decide) ⟨(Nat.le_of_ble_eq_true rfl), (Nat.le_of_ble_eq_true rfl)⟩ ?_
  refine zq_dup Z d_CT_init_39 rfl ?_
  have hq := zs_bS hf
  clear hf
  obtain ⟨S26, x27, h25, hf⟩ := hq
  refine zq_contR (zq_stepIN Z (c_Text_init hl h25) d_CT_init_40 rfl m_22 m_90 m_24 m_18 p_Text_init ⟨(Nat.le_of_ble_eq_true rfl), (Nat.le_of_ble_eq_true rfl), (Nat.le_of_ble_eq_true rfl), (Nat.le_of_ble_eq_true rfl)⟩ rfl (Nat.le_of_ble_eq_true rfl)) Z.p ?_
  have hq := Option.bind_eq_some_iff.mp hf
  clear hf
  obtain ⟨S28, h29, hf⟩ := hq
  refine zr_putr (x := (some (S19.2.1))) (ty := .object "ChangeTracker$Text") Z cd_CT 3 d_CT_init_43 (by decide) m_92 rfl (Or.inl ⟨_, rfl⟩) (by decide +kernel) h29 ?_
  refine zq_aload_n Z d_CT_init_46 0 rfl ?_
  refine zq_iconst Z (0 : Int32) d_CT_init_47 (by decide) ?_
  have hq := Option.bind_eq_some_iff.mp hf
  clear hf
  obtain ⟨S30, h31, hf⟩ := hq
  refine zr_puti Z cd_CT 4 d_CT_init_48 (by decide) m_93 rfl (by decide +kernel) h31 ?_
  refine zq_aload_n Z d_CT_init_51 0 rfl ?_
  refine zq_iconst Z (0 : Int32) d_CT_init_52 (by decide) ?_
  have hq := Option.bind_eq_some_iff.mp hf
  clear hf
  obtain ⟨S32, h33, hf⟩ := hq
  refine zr_putz Z cd_CT 5 d_CT_init_53 (by decide) m_94 rfl (by decide +kernel) h33 ?_
  exact zq_vret Z d_CT_init_56 (zs_1 hf) (zs_2 (fun _ => (.inl none : zq_R)) hf) ⟨(Nat.le_of_ble_eq_true rfl), (Nat.le_of_ble_eq_true rfl)⟩
theorem d_CT_author_0 : decode b_CT_author 0 = .ok (.iload_n 1, 1) := by decide +kernel
theorem d_CT_author_1 : decode b_CT_author 1 = .ok (.ifCond .lt 9, 3) := by decide +kernel
theorem d_CT_author_4 : decode b_CT_author 4 = .ok (.iload_n 1, 1) := by decide +kernel
theorem d_CT_author_5 : decode b_CT_author 5 = .ok (.bipush 8, 2) := by decide +kernel
theorem d_CT_author_7 : decode b_CT_author 7 = .ok (.if_icmp .lt 13, 3) := by decide +kernel
theorem d_CT_author_10 : decode b_CT_author 10 = .ok (.new 38, 3) := by decide +kernel
theorem d_CT_author_13 : decode b_CT_author 13 = .ok (.dup, 1) := by decide +kernel
theorem d_CT_author_14 : decode b_CT_author 14 = .ok (.ldc 40, 2) := by decide +kernel
theorem d_CT_author_16 : decode b_CT_author 16 = .ok (.invokespecial 42, 3) := by decide +kernel
theorem d_CT_author_19 : decode b_CT_author 19 = .ok (.athrow, 1) := by decide +kernel
theorem d_CT_author_20 : decode b_CT_author 20 = .ok (.aload_n 0, 1) := by decide +kernel
theorem d_CT_author_21 : decode b_CT_author 21 = .ok (.getfield 30, 3) := by decide +kernel
theorem d_CT_author_24 : decode b_CT_author 24 = .ok (.istore_n 2, 1) := by decide +kernel
theorem d_CT_author_25 : decode b_CT_author 25 = .ok (.aload_n 0, 1) := by decide +kernel
theorem d_CT_author_26 : decode b_CT_author 26 = .ok (.iload_n 1, 1) := by decide +kernel
theorem d_CT_author_27 : decode b_CT_author 27 = .ok (.putfield 30, 3) := by decide +kernel
theorem d_CT_author_30 : decode b_CT_author 30 = .ok (.iload_n 2, 1) := by decide +kernel
theorem d_CT_author_31 : decode b_CT_author 31 = .ok (.ireturn, 1) := by decide +kernel
def f_CT_author_10 (E : zq_S)   (S : zq_S) : Option (zq_S × (Int32 ⊕ Nat)) :=
  if S.2.1 = E.2.1 ∧ S.2.2 = E.2.2 then some ((S.1, S.2.1 + 1, S.2.2), .inr 1) else none
def f_CT_author (E : zq_S) (a0 : Nat) (v1 : Int32) (S : zq_S) : Option (zq_S × (Int32 ⊕ Nat)) :=
  if v1 < 0 then
    f_CT_author_10 E   S
  else
    if v1 < (8 : Int32) then
      (zs_gi S a0 3 4).bind fun x1 =>
      (zs_p S a0 3 4 (.int v1)).bind fun S3 =>
      some (S3, .inl x1)
    else
      f_CT_author_10 E   S
set_option maxHeartbeats 4000000 in
set_option maxRecDepth 100000 in
theorem r_CT_author_10 {l : Launch} (hl : l.stackTraces = false) {G : zq_G} {S0 T : zq_S} {v : (Int32 ⊕ Nat)} {X : zq_X} (Z : Z_CT_author l G S0 T v X)  {S : zq_S} (hf : f_CT_author_10 S0   S = some (T, v)) : zq_W (Y_CT_author l G S0 T v) X 10 [] [] S 0 0 := by
  unfold f_CT_author_10 at hf
  have hq := zs_C hf
  clear hf
  obtain ⟨h1, hf⟩ := hq
  exact zq_throw Z 1 d_CT_author_10 d_CT_author_13 d_CT_author_14 d_CT_author_16 d_CT_author_19 m_95 m_96 m_97 m_98 ow_CT_42 (zs_1 hf) (zs_2 zq_ei hf) h1 ⟨⟨(Nat.le_of_ble_eq_true rfl), (Nat.le_of_ble_eq_true rfl)⟩, (Nat.le_of_ble_eq_true rfl), (Nat.le_of_ble_eq_true rfl)⟩
set_option maxHeartbeats 4000000 in
set_option maxRecDepth 100000 in
theorem c_CT_author {l : Launch} (hl : l.stackTraces = false) {G : zq_G} {a0 : Nat} {v1 : Int32} {S0 T : zq_S} {v : (Int32 ⊕ Nat)} (hf : f_CT_author S0 a0 v1 S0 = some (T, v)) : zq_M l y_CT_author (.code y_CT_author b_CT_author 3 (some (.int))) rm_CT_author G [.ref a0, .int v1] S0 (zq_ei v) T := by
  refine zq_Mof (lo := [(0, .ref a0), (1, .int v1)]) hl (by decide) (Nat.le_of_ble_eq_true rfl) rfl (fun X Z => ?_)
  have Z : Z_CT_author l G S0 T v X := Z
  show zq_W (Y_CT_author l G S0 T v) X 0 [(0, .ref a0), (1, .int v1)] [] S0 0 0
  unfold f_CT_author at hf
  refine zq_iload_n Z d_CT_author_0 1 rfl ?_
  refine zq_if_lt Z 10 d_CT_author_1 (by decide) (fun q => ?_) (fun q => ?_)
  · replace hf := zs_T q hf
    refine zq_sub (lo' := []) [] rfl ?_
    exact r_CT_author_10 hl Z  hf
  · replace hf := zs_N q hf
    refine zq_iload_n Z d_CT_author_4 1 rfl ?_
    refine zq_bipush Z (8 : Int32) d_CT_author_5 (by decide) ?_
    refine zq_icmp_lt Z 20 d_CT_author_7 (by decide) (fun q => ?_) (fun q => ?_)
    · replace hf := zs_T q hf
      refine zq_aload_n Z d_CT_author_20 0 rfl ?_
      have hq := Option.bind_eq_some_iff.mp hf
      clear hf
      obtain ⟨x1, h2, hf⟩ := hq
      refine zr_geti Z cd_CT 4 d_CT_author_21 (by decide) m_93 h2 ?_
      refine zq_istore_n Z rfl [(2, .int x1), (0, .ref a0), (1, .int v1)] d_CT_author_24 (by decide) rfl ?_
      refine zq_aload_n Z d_CT_author_25 1 rfl ?_
      refine zq_iload_n Z d_CT_author_26 2 rfl ?_
      have hq := Option.bind_eq_some_iff.mp hf
      clear hf
      obtain ⟨S3, h4, hf⟩ := hq
      refine zr_puti Z cd_CT 4 d_CT_author_27 (by decide) m_93 rfl (by decide +kernel) h4 ?_
      refine zq_iload_n Z d_CT_author_30 0 rfl ?_
      exact zq_iret Z d_CT_author_31 (zs_1 hf) (zs_2 zq_ei hf) ⟨(Nat.le_of_ble_eq_true rfl), (Nat.le_of_ble_eq_true rfl)⟩
    · replace hf := zs_N q hf
      refine zq_sub (lo' := []) [] rfl ?_
      exact r_CT_author_10 hl Z  hf
theorem d_CT_track_0 : decode b_CT_track 0 = .ok (.aload_n 0, 1) := by decide +kernel
theorem d_CT_track_1 : decode b_CT_track 1 = .ok (.getfield 34, 3) := by decide +kernel
theorem d_CT_track_4 : decode b_CT_track 4 = .ok (.istore_n 2, 1) := by decide +kernel
theorem d_CT_track_5 : decode b_CT_track 5 = .ok (.aload_n 0, 1) := by decide +kernel
theorem d_CT_track_6 : decode b_CT_track 6 = .ok (.iload_n 1, 1) := by decide +kernel
theorem d_CT_track_7 : decode b_CT_track 7 = .ok (.putfield 34, 3) := by decide +kernel
theorem d_CT_track_10 : decode b_CT_track 10 = .ok (.iload_n 2, 1) := by decide +kernel
theorem d_CT_track_11 : decode b_CT_track 11 = .ok (.ireturn, 1) := by decide +kernel
def f_CT_track (a0 : Nat) (v1 : Int32) (S : zq_S) : Option (zq_S × Int32) :=
  (zs_gi S a0 3 5).bind fun x1 =>
  (zs_pz S a0 3 5 v1).bind fun S3 =>
  if x1 = 0 ∨ x1 = 1 then some (S3, x1) else none
set_option maxHeartbeats 4000000 in
set_option maxRecDepth 100000 in
theorem c_CT_track {l : Launch} (hl : l.stackTraces = false) {G : zq_G} {a0 : Nat} {v1 : Int32} {S0 T : zq_S} {v : Int32} (hf : f_CT_track a0 v1 S0 = some (T, v)) : zq_M l y_CT_track (.code y_CT_track b_CT_track 3 (some (.boolean))) rm_CT_track G [.ref a0, .int v1] S0 ((.inl (some (.int v)) : zq_R)) T := by
  refine zq_Mof (lo := [(0, .ref a0), (1, .int v1)]) hl (by decide) (Nat.le_of_ble_eq_true rfl) rfl (fun X Z => ?_)
  have Z : Z_CT_track l G S0 T v X := Z
  show zq_W (Y_CT_track l G S0 T v) X 0 [(0, .ref a0), (1, .int v1)] [] S0 0 0
  unfold f_CT_track at hf
  refine zq_aload_n Z d_CT_track_0 0 rfl ?_
  have hq := Option.bind_eq_some_iff.mp hf
  clear hf
  obtain ⟨x1, h2, hf⟩ := hq
  refine zr_geti Z cd_CT 5 d_CT_track_1 (by decide) m_94 h2 ?_
  refine zq_istore_n Z rfl [(2, .int x1), (0, .ref a0), (1, .int v1)] d_CT_track_4 (by decide) rfl ?_
  refine zq_aload_n Z d_CT_track_5 1 rfl ?_
  refine zq_iload_n Z d_CT_track_6 2 rfl ?_
  have hq := Option.bind_eq_some_iff.mp hf
  clear hf
  obtain ⟨S3, h4, hf⟩ := hq
  refine zr_putz Z cd_CT 5 d_CT_track_7 (by decide) m_94 rfl (by decide +kernel) h4 ?_
  refine zq_iload_n Z d_CT_track_10 0 rfl ?_
  have hq := zs_C hf
  clear hf
  obtain ⟨h5, hf⟩ := hq
  exact zq_zret Z d_CT_track_11 h5 (zs_1 hf) (zs_2 (fun z => (.inl (some (.int z)) : zq_R)) hf) ⟨(Nat.le_of_ble_eq_true rfl), (Nat.le_of_ble_eq_true rfl)⟩
theorem d_CT_requireRange_0 : decode b_CT_requireRange 0 = .ok (.iload_n 2, 1) := by decide +kernel
theorem d_CT_requireRange_1 : decode b_CT_requireRange 1 = .ok (.ifCond .lt 20, 3) := by decide +kernel
theorem d_CT_requireRange_4 : decode b_CT_requireRange 4 = .ok (.iload_n 1, 1) := by decide +kernel
theorem d_CT_requireRange_5 : decode b_CT_requireRange 5 = .ok (.ifCond .lt 16, 3) := by decide +kernel
theorem d_CT_requireRange_8 : decode b_CT_requireRange 8 = .ok (.iload_n 1, 1) := by decide +kernel
theorem d_CT_requireRange_9 : decode b_CT_requireRange 9 = .ok (.aload_n 0, 1) := by decide +kernel
theorem d_CT_requireRange_10 : decode b_CT_requireRange 10 = .ok (.getfield 23, 3) := by decide +kernel
theorem d_CT_requireRange_13 : decode b_CT_requireRange 13 = .ok (.getfield 59, 3) := by decide +kernel
theorem d_CT_requireRange_16 : decode b_CT_requireRange 16 = .ok (.iload_n 2, 1) := by decide +kernel
theorem d_CT_requireRange_17 : decode b_CT_requireRange 17 = .ok (.isub, 1) := by decide +kernel
theorem d_CT_requireRange_18 : decode b_CT_requireRange 18 = .ok (.if_icmp .le 13, 3) := by decide +kernel
theorem d_CT_requireRange_21 : decode b_CT_requireRange 21 = .ok (.new 152, 3) := by decide +kernel
theorem d_CT_requireRange_24 : decode b_CT_requireRange 24 = .ok (.dup, 1) := by decide +kernel
theorem d_CT_requireRange_25 : decode b_CT_requireRange 25 = .ok (.ldc 187, 2) := by decide +kernel
theorem d_CT_requireRange_27 : decode b_CT_requireRange 27 = .ok (.invokespecial 156, 3) := by decide +kernel
theorem d_CT_requireRange_30 : decode b_CT_requireRange 30 = .ok (.athrow, 1) := by decide +kernel
theorem d_CT_requireRange_31 : decode b_CT_requireRange 31 = .ok (.return_, 1) := by decide +kernel
def f_CT_requireRange_21 (E : zq_S)   (S : zq_S) : Option (zq_S × (Unit ⊕ Nat)) :=
  if S.2.1 = E.2.1 ∧ S.2.2 = E.2.2 then some ((S.1, S.2.1 + 1, S.2.2), .inr 0) else none
def f_CT_requireRange (E : zq_S) (a0 : Nat) (v1 : Int32) (v2 : Int32) (S : zq_S) : Option (zq_S × (Unit ⊕ Nat)) :=
  if v2 < 0 then
    f_CT_requireRange_21 E   S
  else
    if v1 < 0 then
      f_CT_requireRange_21 E   S
    else
      (zs_gr S a0 3 2).bind fun x1 =>
      (x1).bind fun a3 =>
      (zs_gi S a3 0 1).bind fun x5 =>
      if v1 ≤ (x5 - v2) then
        some (S, .inl ())
      else
        f_CT_requireRange_21 E   S
set_option maxHeartbeats 4000000 in
set_option maxRecDepth 100000 in
theorem r_CT_requireRange_21 {l : Launch} (hl : l.stackTraces = false) {G : zq_G} {S0 T : zq_S} {v : (Unit ⊕ Nat)} {X : zq_X} (Z : Z_CT_requireRange l G S0 T v X)  {S : zq_S} (hf : f_CT_requireRange_21 S0   S = some (T, v)) : zq_W (Y_CT_requireRange l G S0 T v) X 21 [] [] S 0 0 := by
  unfold f_CT_requireRange_21 at hf
  have hq := zs_C hf
  clear hf
  obtain ⟨h1, hf⟩ := hq
  exact zq_throw Z 0 d_CT_requireRange_21 d_CT_requireRange_24 d_CT_requireRange_25 d_CT_requireRange_27 d_CT_requireRange_30 m_99 m_100 m_101 m_102 ow_CT_156 (zs_1 hf) (zs_2 zq_ev hf) h1 ⟨⟨(Nat.le_of_ble_eq_true rfl), (Nat.le_of_ble_eq_true rfl)⟩, (Nat.le_of_ble_eq_true rfl), (Nat.le_of_ble_eq_true rfl)⟩
set_option maxHeartbeats 4000000 in
set_option maxRecDepth 100000 in
theorem c_CT_requireRange {l : Launch} (hl : l.stackTraces = false) {G : zq_G} {a0 : Nat} {v1 : Int32} {v2 : Int32} {S0 T : zq_S} {v : (Unit ⊕ Nat)} (hf : f_CT_requireRange S0 a0 v1 v2 S0 = some (T, v)) : zq_M l y_CT_requireRange (.code y_CT_requireRange b_CT_requireRange 3 none) rm_CT_requireRange G [.ref a0, .int v1, .int v2] S0 (zq_ev v) T := by
  refine zq_Mof (lo := [(0, .ref a0), (1, .int v1), (2, .int v2)]) hl (by decide) (Nat.le_of_ble_eq_true rfl) rfl (fun X Z => ?_)
  have Z : Z_CT_requireRange l G S0 T v X := Z
  show zq_W (Y_CT_requireRange l G S0 T v) X 0 [(0, .ref a0), (1, .int v1), (2, .int v2)] [] S0 0 0
  unfold f_CT_requireRange at hf
  refine zq_iload_n Z d_CT_requireRange_0 2 rfl ?_
  refine zq_if_lt Z 21 d_CT_requireRange_1 (by decide) (fun q => ?_) (fun q => ?_)
  · replace hf := zs_T q hf
    refine zq_sub (lo' := []) [] rfl ?_
    exact r_CT_requireRange_21 hl Z  hf
  · replace hf := zs_N q hf
    refine zq_iload_n Z d_CT_requireRange_4 1 rfl ?_
    refine zq_if_lt Z 21 d_CT_requireRange_5 (by decide) (fun q => ?_) (fun q => ?_)
    · replace hf := zs_T q hf
      refine zq_sub (lo' := []) [] rfl ?_
      exact r_CT_requireRange_21 hl Z  hf
    · replace hf := zs_N q hf
      refine zq_iload_n Z d_CT_requireRange_8 1 rfl ?_
      refine zq_aload_n Z d_CT_requireRange_9 0 rfl ?_
      have hq := Option.bind_eq_some_iff.mp hf
      clear hf
      obtain ⟨x1, h2, hf⟩ := hq
      refine zr_getr Z cd_CT 2 d_CT_requireRange_10 (by decide) m_91 h2 ?_
      have hq := Option.bind_eq_some_iff.mp hf
      clear hf
      obtain ⟨a3, h4, hf⟩ := hq
      subst h4
      have hq := Option.bind_eq_some_iff.mp hf
      clear hf
      obtain ⟨x5, h6, hf⟩ := hq
      refine zr_geti Z cd_Text 1 d_CT_requireRange_13 (by decide) m_103 h6 ?_
      refine zq_iload_n Z d_CT_requireRange_16 2 rfl ?_
      refine zq_isub Z d_CT_requireRange_17 ?_
      refine zq_icmp_le Z 31 d_CT_requireRange_18 (by decide) (fun q => ?_) (fun q => ?_)
      · replace hf := zs_T q hf
        exact zq_vret Z d_CT_requireRange_31 (zs_1 hf) (zs_2 zq_ev hf) ⟨(Nat.le_of_ble_eq_true rfl), (Nat.le_of_ble_eq_true rfl)⟩
      · replace hf := zs_N q hf
        refine zq_sub (lo' := []) [] rfl ?_
        exact r_CT_requireRange_21 hl Z  hf
theorem d_CT_requireFormat_0 : decode b_CT_requireFormat 0 = .ok (.iload_n 0, 1) := by decide +kernel
theorem d_CT_requireFormat_1 : decode b_CT_requireFormat 1 = .ok (.ifCond .lt 10, 3) := by decide +kernel
theorem d_CT_requireFormat_4 : decode b_CT_requireFormat 4 = .ok (.iload_n 0, 1) := by decide +kernel
theorem d_CT_requireFormat_5 : decode b_CT_requireFormat 5 = .ok (.sipush 255, 3) := by decide +kernel
theorem d_CT_requireFormat_8 : decode b_CT_requireFormat 8 = .ok (.if_icmp .le 13, 3) := by decide +kernel
theorem d_CT_requireFormat_11 : decode b_CT_requireFormat 11 = .ok (.new 38, 3) := by decide +kernel
theorem d_CT_requireFormat_14 : decode b_CT_requireFormat 14 = .ok (.dup, 1) := by decide +kernel
theorem d_CT_requireFormat_15 : decode b_CT_requireFormat 15 = .ok (.ldc 189, 2) := by decide +kernel
theorem d_CT_requireFormat_17 : decode b_CT_requireFormat 17 = .ok (.invokespecial 42, 3) := by decide +kernel
theorem d_CT_requireFormat_20 : decode b_CT_requireFormat 20 = .ok (.athrow, 1) := by decide +kernel
theorem d_CT_requireFormat_21 : decode b_CT_requireFormat 21 = .ok (.return_, 1) := by decide +kernel
def f_CT_requireFormat_11 (E : zq_S)   (S : zq_S) : Option (zq_S × (Unit ⊕ Nat)) :=
  if S.2.1 = E.2.1 ∧ S.2.2 = E.2.2 then some ((S.1, S.2.1 + 1, S.2.2), .inr 1) else none
def f_CT_requireFormat (E : zq_S) (v0 : Int32) (S : zq_S) : Option (zq_S × (Unit ⊕ Nat)) :=
  if v0 < 0 then
    f_CT_requireFormat_11 E   S
  else
    if v0 ≤ (255 : Int32) then
      some (S, .inl ())
    else
      f_CT_requireFormat_11 E   S
set_option maxHeartbeats 4000000 in
set_option maxRecDepth 100000 in
theorem r_CT_requireFormat_11 {l : Launch} (hl : l.stackTraces = false) {G : zq_G} {S0 T : zq_S} {v : (Unit ⊕ Nat)} {X : zq_X} (Z : Z_CT_requireFormat l G S0 T v X)  {S : zq_S} (hf : f_CT_requireFormat_11 S0   S = some (T, v)) : zq_W (Y_CT_requireFormat l G S0 T v) X 11 [] [] S 0 0 := by
  unfold f_CT_requireFormat_11 at hf
  have hq := zs_C hf
  clear hf
  obtain ⟨h1, hf⟩ := hq
  exact zq_throw Z 1 d_CT_requireFormat_11 d_CT_requireFormat_14 d_CT_requireFormat_15 d_CT_requireFormat_17 d_CT_requireFormat_20 m_95 m_96 m_97 m_104 ow_CT_42 (zs_1 hf) (zs_2 zq_ev hf) h1 ⟨⟨(Nat.le_of_ble_eq_true rfl), (Nat.le_of_ble_eq_true rfl)⟩, (Nat.le_of_ble_eq_true rfl), (Nat.le_of_ble_eq_true rfl)⟩
set_option maxHeartbeats 4000000 in
set_option maxRecDepth 100000 in
theorem c_CT_requireFormat {l : Launch} (hl : l.stackTraces = false) {G : zq_G} {v0 : Int32} {S0 T : zq_S} {v : (Unit ⊕ Nat)} (hf : f_CT_requireFormat S0 v0 S0 = some (T, v)) : zq_M l y_CT_requireFormat (.code y_CT_requireFormat b_CT_requireFormat 1 none) rm_CT_requireFormat G [.int v0] S0 (zq_ev v) T := by
  refine zq_Mof (lo := [(0, .int v0)]) hl (by decide) (Nat.le_of_ble_eq_true rfl) rfl (fun X Z => ?_)
  have Z : Z_CT_requireFormat l G S0 T v X := Z
  show zq_W (Y_CT_requireFormat l G S0 T v) X 0 [(0, .int v0)] [] S0 0 0
  unfold f_CT_requireFormat at hf
  refine zq_iload_n Z d_CT_requireFormat_0 0 rfl ?_
  refine zq_if_lt Z 11 d_CT_requireFormat_1 (by decide) (fun q => ?_) (fun q => ?_)
  · replace hf := zs_T q hf
    refine zq_sub (lo' := []) [] rfl ?_
    exact r_CT_requireFormat_11 hl Z  hf
  · replace hf := zs_N q hf
    refine zq_iload_n Z d_CT_requireFormat_4 0 rfl ?_
    refine zq_sipush Z (255 : Int32) d_CT_requireFormat_5 (by decide) ?_
    refine zq_icmp_le Z 21 d_CT_requireFormat_8 (by decide) (fun q => ?_) (fun q => ?_)
    · replace hf := zs_T q hf
      exact zq_vret Z d_CT_requireFormat_21 (zs_1 hf) (zs_2 zq_ev hf) ⟨(Nat.le_of_ble_eq_true rfl), (Nat.le_of_ble_eq_true rfl)⟩
    · replace hf := zs_N q hf
      refine zq_sub (lo' := []) [] rfl ?_
      exact r_CT_requireFormat_11 hl Z  hf
theorem d_CT_codeAt_0 : decode b_CT_codeAt 0 = .ok (.lload_n 0, 1) := by decide +kernel
theorem d_CT_codeAt_1 : decode b_CT_codeAt 1 = .ok (.iload_n 2, 1) := by decide +kernel
theorem d_CT_codeAt_2 : decode b_CT_codeAt 2 = .ok (.bipush 8, 2) := by decide +kernel
theorem d_CT_codeAt_4 : decode b_CT_codeAt 4 = .ok (.imul, 1) := by decide +kernel
theorem d_CT_codeAt_5 : decode b_CT_codeAt 5 = .ok (.lushr, 1) := by decide +kernel
theorem d_CT_codeAt_6 : decode b_CT_codeAt 6 = .ok (.l2i, 1) := by decide +kernel
theorem d_CT_codeAt_7 : decode b_CT_codeAt 7 = .ok (.sipush 255, 3) := by decide +kernel
theorem d_CT_codeAt_10 : decode b_CT_codeAt 10 = .ok (.iand, 1) := by decide +kernel
theorem d_CT_codeAt_11 : decode b_CT_codeAt 11 = .ok (.ireturn, 1) := by decide +kernel
def f_CT_codeAt (v0 : Int64) (v2 : Int32) (S : zq_S) : Option (zq_S × Int32) :=
  some (S, ((zf_lushr v0 (v2 * (8 : Int32))).toInt32 &&& (255 : Int32)))
set_option maxHeartbeats 4000000 in
set_option maxRecDepth 100000 in
theorem c_CT_codeAt {l : Launch} (hl : l.stackTraces = false) {G : zq_G} {v0 : Int64} {v2 : Int32} {S0 T : zq_S} {v : Int32} (hf : f_CT_codeAt v0 v2 S0 = some (T, v)) : zq_M l y_CT_codeAt (.code y_CT_codeAt b_CT_codeAt 3 (some (.int))) rm_CT_codeAt G [.long v0, .int v2] S0 ((.inl (some (.int v)) : zq_R)) T := by
  refine zq_Mof (lo := [(0, .long v0), (2, .int v2)]) hl (by decide) (Nat.le_of_ble_eq_true rfl) rfl (fun X Z => ?_)
  have Z : Z_CT_codeAt l G S0 T v X := Z
  show zq_W (Y_CT_codeAt l G S0 T v) X 0 [(0, .long v0), (2, .int v2)] [] S0 0 0
  unfold f_CT_codeAt at hf
  refine zq_lload_n Z d_CT_codeAt_0 0 rfl ?_
  refine zq_iload_n Z d_CT_codeAt_1 1 rfl ?_
  refine zq_bipush Z (8 : Int32) d_CT_codeAt_2 (by decide) ?_
  refine zq_imul Z d_CT_codeAt_4 ?_
  refine zq_lushr Z d_CT_codeAt_5 ?_
  refine zq_l2i Z d_CT_codeAt_6 ?_
  refine zq_sipush Z (255 : Int32) d_CT_codeAt_7 (by decide) ?_
  refine zq_iand Z d_CT_codeAt_10 ?_
  exact zq_iret Z d_CT_codeAt_11 (zs_1 hf) (zs_2 (fun z => (.inl (some (.int z)) : zq_R)) hf) ⟨(Nat.le_of_ble_eq_true rfl), (Nat.le_of_ble_eq_true rfl)⟩
theorem d_CT_howManyCodes_0 : decode b_CT_howManyCodes 0 = .ok (.iconst 0, 1) := by decide +kernel
theorem d_CT_howManyCodes_1 : decode b_CT_howManyCodes 1 = .ok (.istore_n 2, 1) := by decide +kernel
theorem d_CT_howManyCodes_2 : decode b_CT_howManyCodes 2 = .ok (.iload_n 2, 1) := by decide +kernel
theorem d_CT_howManyCodes_3 : decode b_CT_howManyCodes 3 = .ok (.bipush 8, 2) := by decide +kernel
theorem d_CT_howManyCodes_5 : decode b_CT_howManyCodes 5 = .ok (.if_icmp .ge 17, 3) := by decide +kernel
theorem d_CT_howManyCodes_8 : decode b_CT_howManyCodes 8 = .ok (.lload_n 0, 1) := by decide +kernel
theorem d_CT_howManyCodes_9 : decode b_CT_howManyCodes 9 = .ok (.iload_n 2, 1) := by decide +kernel
theorem d_CT_howManyCodes_10 : decode b_CT_howManyCodes 10 = .ok (.invokestatic 74, 3) := by decide +kernel
theorem d_CT_howManyCodes_13 : decode b_CT_howManyCodes 13 = .ok (.ifCond .eq 9, 3) := by decide +kernel
theorem d_CT_howManyCodes_16 : decode b_CT_howManyCodes 16 = .ok (.iinc 2 1, 3) := by decide +kernel
theorem d_CT_howManyCodes_19 : decode b_CT_howManyCodes 19 = .ok (.goto (-17), 3) := by decide +kernel
theorem d_CT_howManyCodes_22 : decode b_CT_howManyCodes 22 = .ok (.iload_n 2, 1) := by decide +kernel
theorem d_CT_howManyCodes_23 : decode b_CT_howManyCodes 23 = .ok (.ireturn, 1) := by decide +kernel
def f_CT_howManyCodes_22  (v2 : Int32) (S : zq_S) : Option (zq_S × Int32) :=
  some (S, v2)
def f_CT_howManyCodes_2 (k2 : Int64 → Int32 → zq_S → Option (zq_S × Int32)) (v0 : Int64) (v2 : Int32) (S : zq_S) : Option (zq_S × Int32) :=
  if (8 : Int32) ≤ v2 then
    f_CT_howManyCodes_22  v2 S
  else
    zs_b (f_CT_codeAt v0 v2 S) fun S2 x3 =>
    if x3 = 0 then
      f_CT_howManyCodes_22  v2 S2
    else
      k2 v0 (v2 + (1 : Int32)) S2
def g_CT_howManyCodes_2  : Nat → Int64 → Int32 → zq_S → Option (zq_S × Int32)
  | 0 => fun _ _ _ => none
  | n + 1 => fun v0 v2 S => f_CT_howManyCodes_2  (g_CT_howManyCodes_2  n) v0 v2 S
def f_CT_howManyCodes (v0 : Int64) (S : zq_S) : Option (zq_S × Int32) :=
  g_CT_howManyCodes_2  zq_F v0 (0 : Int32) S
set_option maxHeartbeats 4000000 in
set_option maxRecDepth 100000 in
theorem r_CT_howManyCodes_22 {l : Launch} (hl : l.stackTraces = false) {G : zq_G} {S0 T : zq_S} {v : Int32} {X : zq_X} (Z : Z_CT_howManyCodes l G S0 T v X) {v2 : Int32} {S : zq_S} (hf : f_CT_howManyCodes_22  v2 S = some (T, v)) : zq_W (Y_CT_howManyCodes l G S0 T v) X 22 [(2, .int v2)] [] S 0 0 := by
  unfold f_CT_howManyCodes_22 at hf
  refine zq_iload_n Z d_CT_howManyCodes_22 0 rfl ?_
  exact zq_iret Z d_CT_howManyCodes_23 (zs_1 hf) (zs_2 (fun z => (.inl (some (.int z)) : zq_R)) hf) ⟨(Nat.le_of_ble_eq_true rfl), (Nat.le_of_ble_eq_true rfl)⟩
set_option maxHeartbeats 4000000 in
set_option maxRecDepth 100000 in
theorem r_CT_howManyCodes_2 {l : Launch} (hl : l.stackTraces = false) {G : zq_G} {S0 T : zq_S} {v : Int32} {X : zq_X} (Z : Z_CT_howManyCodes l G S0 T v X) {k2 : Int64 → Int32 → zq_S → Option (zq_S × Int32)} (hk2 : ∀ (v0 : Int64) (v2 : Int32) (S : zq_S), k2 v0 v2 S = some (T, v) → zq_W (Y_CT_howManyCodes l G S0 T v) X 2 [(0, .long v0), (2, .int v2)] [] S 0 0) {v0 : Int64} {v2 : Int32} {S : zq_S} (hf : f_CT_howManyCodes_2 k2 v0 v2 S = some (T, v)) : zq_W (Y_CT_howManyCodes l G S0 T v) X 2 [(0, .long v0), (2, .int v2)] [] S 0 0 := by
  unfold f_CT_howManyCodes_2 at hf
  refine zq_iload_n Z d_CT_howManyCodes_2 1 rfl ?_
  refine zq_bipush Z (8 : Int32) d_CT_howManyCodes_3 (by decide) ?_
  refine zq_icmp_ge Z 22 d_CT_howManyCodes_5 (by decide) (fun q => ?_) (fun q => ?_)
  · replace hf := zs_T q hf
    refine zq_sub (lo' := [(2, .int v2)]) [1] rfl ?_
    exact r_CT_howManyCodes_22 hl Z  hf
  · replace hf := zs_N q hf
    refine zq_lload_n Z d_CT_howManyCodes_8 0 rfl ?_
    refine zq_iload_n Z d_CT_howManyCodes_9 1 rfl ?_
    have hq := zs_bS hf
    clear hf
    obtain ⟨S2, x3, h1, hf⟩ := hq
    refine zq_contR (zq_stepS Z zq_cf1 (c_CT_codeAt hl h1) d_CT_howManyCodes_10 m_105 m_106 m_107 m_108 p_CT_codeAt ⟨(Nat.le_of_ble_eq_true rfl), (Nat.le_of_ble_eq_true rfl), (Nat.le_of_ble_eq_true rfl), (Nat.le_of_ble_eq_true rfl)⟩ rfl (Nat.le_of_ble_eq_true rfl)) Z.p ?_
    refine zq_if_eq Z 22 d_CT_howManyCodes_13 (by decide) (fun q => ?_) (fun q => ?_)
    · replace hf := zs_T q hf
      refine zq_sub (lo' := [(2, .int v2)]) [1] rfl ?_
      exact r_CT_howManyCodes_22 hl Z  hf
    · replace hf := zs_N q hf
      refine zq_iinc Z (v2 + (1 : Int32)) [(2, .int (v2 + (1 : Int32))), (0, .long v0)] d_CT_howManyCodes_16 1 rfl rfl (by decide) rfl ?_
      refine zq_goto Z 2 d_CT_howManyCodes_19 (by decide) ?_
      refine zq_sub (lo' := [(0, .long v0), (2, .int (v2 + (1 : Int32)))]) [1, 0] rfl ?_
      exact hk2 _ _ _ hf
theorem w_CT_howManyCodes_2 {l : Launch} (hl : l.stackTraces = false) {G : zq_G} {S0 T : zq_S} {v : Int32} {X : zq_X} (Z : Z_CT_howManyCodes l G S0 T v X) : ∀ (n : Nat) (v0 : Int64) (v2 : Int32) (S : zq_S), g_CT_howManyCodes_2  n v0 v2 S = some (T, v) → zq_W (Y_CT_howManyCodes l G S0 T v) X 2 [(0, .long v0), (2, .int v2)] [] S 0 0 := by
  intro n
  induction n with
  | zero => intro v0 v2 S hf; cases hf
  | succ n ih =>
    intro v0 v2 S hf
    have hf : f_CT_howManyCodes_2  (g_CT_howManyCodes_2  n) v0 v2 S = some (T, v) := hf
    exact r_CT_howManyCodes_2 hl Z  ih hf
set_option maxHeartbeats 4000000 in
set_option maxRecDepth 100000 in
theorem c_CT_howManyCodes {l : Launch} (hl : l.stackTraces = false) {G : zq_G} {v0 : Int64} {S0 T : zq_S} {v : Int32} (hf : f_CT_howManyCodes v0 S0 = some (T, v)) : zq_M l y_CT_howManyCodes (.code y_CT_howManyCodes b_CT_howManyCodes 3 (some (.int))) rm_CT_howManyCodes G [.long v0] S0 ((.inl (some (.int v)) : zq_R)) T := by
  refine zq_Mof (lo := [(0, .long v0)]) hl (by decide) (Nat.le_of_ble_eq_true rfl) rfl (fun X Z => ?_)
  have Z : Z_CT_howManyCodes l G S0 T v X := Z
  show zq_W (Y_CT_howManyCodes l G S0 T v) X 0 [(0, .long v0)] [] S0 0 0
  unfold f_CT_howManyCodes at hf
  refine zq_iconst Z (0 : Int32) d_CT_howManyCodes_0 (by decide) ?_
  refine zq_istore_n Z rfl [(2, .int (0 : Int32)), (0, .long v0)] d_CT_howManyCodes_1 (by decide) rfl ?_
  refine zq_sub (lo' := [(0, .long v0), (2, .int (0 : Int32))]) [1, 0] rfl ?_
  exact w_CT_howManyCodes_2 hl Z  _ _ _ _ hf
theorem d_CT_workerBit_0 : decode b_CT_workerBit 0 = .ok (.iconst 1, 1) := by decide +kernel
theorem d_CT_workerBit_1 : decode b_CT_workerBit 1 = .ok (.aload_n 0, 1) := by decide +kernel
theorem d_CT_workerBit_2 : decode b_CT_workerBit 2 = .ok (.getfield 30, 3) := by decide +kernel
theorem d_CT_workerBit_5 : decode b_CT_workerBit 5 = .ok (.ishl, 1) := by decide +kernel
theorem d_CT_workerBit_6 : decode b_CT_workerBit 6 = .ok (.ireturn, 1) := by decide +kernel
def f_CT_workerBit (a0 : Nat) (S : zq_S) : Option (zq_S × Int32) :=
  (zs_gi S a0 3 4).bind fun x1 =>
  some (S, ((1 : Int32) <<< (x1 &&& 31)))
set_option maxHeartbeats 4000000 in
set_option maxRecDepth 100000 in
theorem c_CT_workerBit {l : Launch} (hl : l.stackTraces = false) {G : zq_G} {a0 : Nat} {S0 T : zq_S} {v : Int32} (hf : f_CT_workerBit a0 S0 = some (T, v)) : zq_M l y_CT_workerBit (.code y_CT_workerBit b_CT_workerBit 1 (some (.int))) rm_CT_workerBit G [.ref a0] S0 ((.inl (some (.int v)) : zq_R)) T := by
  refine zq_Mof (lo := [(0, .ref a0)]) hl (by decide) (Nat.le_of_ble_eq_true rfl) rfl (fun X Z => ?_)
  have Z : Z_CT_workerBit l G S0 T v X := Z
  show zq_W (Y_CT_workerBit l G S0 T v) X 0 [(0, .ref a0)] [] S0 0 0
  unfold f_CT_workerBit at hf
  refine zq_iconst Z (1 : Int32) d_CT_workerBit_0 (by decide) ?_
  refine zq_aload_n Z d_CT_workerBit_1 0 rfl ?_
  have hq := Option.bind_eq_some_iff.mp hf
  clear hf
  obtain ⟨x1, h2, hf⟩ := hq
  refine zr_geti Z cd_CT 4 d_CT_workerBit_2 (by decide) m_93 h2 ?_
  refine zq_ishl Z d_CT_workerBit_5 ?_
  exact zq_iret Z d_CT_workerBit_6 (zs_1 hf) (zs_2 (fun z => (.inl (some (.int z)) : zq_R)) hf) ⟨(Nat.le_of_ble_eq_true rfl), (Nat.le_of_ble_eq_true rfl)⟩
theorem d_CT_startDraft_0 : decode b_CT_startDraft 0 = .ok (.aload_n 0, 1) := by decide +kernel
theorem d_CT_startDraft_1 : decode b_CT_startDraft 1 = .ok (.getfield 27, 3) := by decide +kernel
theorem d_CT_startDraft_4 : decode b_CT_startDraft 4 = .ok (.invokevirtual 193, 3) := by decide +kernel
theorem d_CT_startDraft_7 : decode b_CT_startDraft 7 = .ok (.aload_n 0, 1) := by decide +kernel
theorem d_CT_startDraft_8 : decode b_CT_startDraft 8 = .ok (.getfield 27, 3) := by decide +kernel
theorem d_CT_startDraft_11 : decode b_CT_startDraft 11 = .ok (.aload_n 0, 1) := by decide +kernel
theorem d_CT_startDraft_12 : decode b_CT_startDraft 12 = .ok (.getfield 23, 3) := by decide +kernel
theorem d_CT_startDraft_15 : decode b_CT_startDraft 15 = .ok (.iconst 0, 1) := by decide +kernel
theorem d_CT_startDraft_16 : decode b_CT_startDraft 16 = .ok (.iload_n 1, 1) := by decide +kernel
theorem d_CT_startDraft_17 : decode b_CT_startDraft 17 = .ok (.invokevirtual 196, 3) := by decide +kernel
theorem d_CT_startDraft_20 : decode b_CT_startDraft 20 = .ok (.return_, 1) := by decide +kernel
def f_CT_startDraft (a0 : Nat) (v1 : Int32) (S : zq_S) : Option (zq_S × Unit) :=
  (zs_gr S a0 3 3).bind fun x1 =>
  (x1).bind fun a3 =>
  if zs_is S a3 0 = true then
  zs_b (f_Text_clear a3 S) fun S6 _ =>
  (zs_gr S6 a0 3 3).bind fun x11 =>
  (zs_gr S6 a0 3 2).bind fun x13 =>
  (x11).bind fun a15 =>
  if zs_is S6 a15 0 = true then
  zs_b (f_Text_addPart a15 x13 (0 : Int32) v1 S6) fun S18 _ =>
  some (S18, ())
  else none
  else none
set_option maxHeartbeats 4000000 in
set_option maxRecDepth 100000 in
theorem c_CT_startDraft {l : Launch} (hl : l.stackTraces = false) {G : zq_G} {a0 : Nat} {v1 : Int32} {S0 T : zq_S} {v : Unit} (hf : f_CT_startDraft a0 v1 S0 = some (T, v)) : zq_M l y_CT_startDraft (.code y_CT_startDraft b_CT_startDraft 2 none) rm_CT_startDraft G [.ref a0, .int v1] S0 ((.inl none : zq_R)) T := by
  refine zq_Mof (lo := [(0, .ref a0), (1, .int v1)]) hl (by decide) (Nat.le_of_ble_eq_true rfl) rfl (fun X Z => ?_)
  have Z : Z_CT_startDraft l G S0 T v X := Z
  show zq_W (Y_CT_startDraft l G S0 T v) X 0 [(0, .ref a0), (1, .int v1)] [] S0 0 0
  unfold f_CT_startDraft at hf
  refine zq_aload_n Z d_CT_startDraft_0 0 rfl ?_
  have hq := Option.bind_eq_some_iff.mp hf
  clear hf
  obtain ⟨x1, h2, hf⟩ := hq
  refine zr_getr Z cd_CT 3 d_CT_startDraft_1 (by decide) m_92 h2 ?_
  have hq := Option.bind_eq_some_iff.mp hf
  clear hf
  obtain ⟨a3, h4, hf⟩ := hq
  subst h4
  have hq := zs_C hf
  clear hf
  obtain ⟨h8, hf⟩ := hq
  obtain ⟨fs9, e10⟩ := zs_isS h8
  have hq := zs_bS hf
  clear hf
  obtain ⟨S6, x7, h5, hf⟩ := hq
  refine zq_contR (zq_stepV Z zq_cf1 (c_Text_clear hl h5) 0 rfl e10 d_CT_startDraft_4 m_28 m_109 m_31 m_29 m_18 p_Text_clear ⟨(Nat.le_of_ble_eq_true rfl), (Nat.le_of_ble_eq_true rfl), (Nat.le_of_ble_eq_true rfl), (Nat.le_of_ble_eq_true rfl)⟩ rfl (Nat.le_of_ble_eq_true rfl)) Z.p ?_
  refine zq_aload_n Z d_CT_startDraft_7 0 rfl ?_
  have hq := Option.bind_eq_some_iff.mp hf
  clear hf
  obtain ⟨x11, h12, hf⟩ := hq
  refine zr_getr Z cd_CT 3 d_CT_startDraft_8 (by decide) m_92 h12 ?_
  refine zq_aload_n Z d_CT_startDraft_11 0 rfl ?_
  have hq := Option.bind_eq_some_iff.mp hf
  clear hf
  obtain ⟨x13, h14, hf⟩ := hq
  refine zr_getr Z cd_CT 2 d_CT_startDraft_12 (by decide) m_91 h14 ?_
  refine zq_iconst Z (0 : Int32) d_CT_startDraft_15 (by decide) ?_
  refine zq_iload_n Z d_CT_startDraft_16 1 rfl ?_
  have hq := Option.bind_eq_some_iff.mp hf
  clear hf
  obtain ⟨a15, h16, hf⟩ := hq
  subst h16
  have hq := zs_C hf
  clear hf
  obtain ⟨h20, hf⟩ := hq
  obtain ⟨fs21, e22⟩ := zs_isS h20
  have hq := zs_bS hf
  clear hf
  obtain ⟨S18, x19, h17, hf⟩ := hq
  refine zq_contR (zq_stepV Z zq_cf1 (c_Text_addPart hl h17) 0 rfl e22 d_CT_startDraft_17 m_33 m_110 m_36 m_34 m_18 p_Text_addPart ⟨(Nat.le_of_ble_eq_true rfl), (Nat.le_of_ble_eq_true rfl), (Nat.le_of_ble_eq_true rfl), (Nat.le_of_ble_eq_true rfl)⟩ rfl (Nat.le_of_ble_eq_true rfl)) Z.p ?_
  exact zq_vret Z d_CT_startDraft_20 (zs_1 hf) (zs_2 (fun _ => (.inl none : zq_R)) hf) ⟨(Nat.le_of_ble_eq_true rfl), (Nat.le_of_ble_eq_true rfl)⟩
theorem d_CT_finishDraft_0 : decode b_CT_finishDraft 0 = .ok (.aload_n 0, 1) := by decide +kernel
theorem d_CT_finishDraft_1 : decode b_CT_finishDraft 1 = .ok (.getfield 27, 3) := by decide +kernel
theorem d_CT_finishDraft_4 : decode b_CT_finishDraft 4 = .ok (.aload_n 0, 1) := by decide +kernel
theorem d_CT_finishDraft_5 : decode b_CT_finishDraft 5 = .ok (.getfield 23, 3) := by decide +kernel
theorem d_CT_finishDraft_8 : decode b_CT_finishDraft 8 = .ok (.iload_n 1, 1) := by decide +kernel
theorem d_CT_finishDraft_9 : decode b_CT_finishDraft 9 = .ok (.aload_n 0, 1) := by decide +kernel
theorem d_CT_finishDraft_10 : decode b_CT_finishDraft 10 = .ok (.getfield 23, 3) := by decide +kernel
theorem d_CT_finishDraft_13 : decode b_CT_finishDraft 13 = .ok (.getfield 59, 3) := by decide +kernel
theorem d_CT_finishDraft_16 : decode b_CT_finishDraft 16 = .ok (.invokevirtual 196, 3) := by decide +kernel
theorem d_CT_finishDraft_19 : decode b_CT_finishDraft 19 = .ok (.aload_n 0, 1) := by decide +kernel
theorem d_CT_finishDraft_20 : decode b_CT_finishDraft 20 = .ok (.getfield 23, 3) := by decide +kernel
theorem d_CT_finishDraft_23 : decode b_CT_finishDraft 23 = .ok (.aload_n 0, 1) := by decide +kernel
theorem d_CT_finishDraft_24 : decode b_CT_finishDraft 24 = .ok (.getfield 27, 3) := by decide +kernel
theorem d_CT_finishDraft_27 : decode b_CT_finishDraft 27 = .ok (.invokevirtual 200, 3) := by decide +kernel
theorem d_CT_finishDraft_30 : decode b_CT_finishDraft 30 = .ok (.istore_n 2, 1) := by decide +kernel
theorem d_CT_finishDraft_31 : decode b_CT_finishDraft 31 = .ok (.iload_n 2, 1) := by decide +kernel
theorem d_CT_finishDraft_32 : decode b_CT_finishDraft 32 = .ok (.ifCond .ne 4, 3) := by decide +kernel
theorem d_CT_finishDraft_35 : decode b_CT_finishDraft 35 = .ok (.return_, 1) := by decide +kernel
theorem d_CT_finishDraft_36 : decode b_CT_finishDraft 36 = .ok (.aload_n 0, 1) := by decide +kernel
theorem d_CT_finishDraft_37 : decode b_CT_finishDraft 37 = .ok (.getfield 10, 3) := by decide +kernel
theorem d_CT_finishDraft_40 : decode b_CT_finishDraft 40 = .ok (.aload_n 0, 1) := by decide +kernel
theorem d_CT_finishDraft_41 : decode b_CT_finishDraft 41 = .ok (.getfield 23, 3) := by decide +kernel
theorem d_CT_finishDraft_44 : decode b_CT_finishDraft 44 = .ok (.iload_n 2, 1) := by decide +kernel
theorem d_CT_finishDraft_45 : decode b_CT_finishDraft 45 = .ok (.invokevirtual 204, 3) := by decide +kernel
theorem d_CT_finishDraft_48 : decode b_CT_finishDraft 48 = .ok (.aload_n 0, 1) := by decide +kernel
theorem d_CT_finishDraft_49 : decode b_CT_finishDraft 49 = .ok (.getfield 23, 3) := by decide +kernel
theorem d_CT_finishDraft_52 : decode b_CT_finishDraft 52 = .ok (.astore_n 3, 1) := by decide +kernel
theorem d_CT_finishDraft_53 : decode b_CT_finishDraft 53 = .ok (.aload_n 0, 1) := by decide +kernel
theorem d_CT_finishDraft_54 : decode b_CT_finishDraft 54 = .ok (.aload_n 0, 1) := by decide +kernel
theorem d_CT_finishDraft_55 : decode b_CT_finishDraft 55 = .ok (.getfield 27, 3) := by decide +kernel
theorem d_CT_finishDraft_58 : decode b_CT_finishDraft 58 = .ok (.putfield 23, 3) := by decide +kernel
theorem d_CT_finishDraft_61 : decode b_CT_finishDraft 61 = .ok (.aload_n 0, 1) := by decide +kernel
theorem d_CT_finishDraft_62 : decode b_CT_finishDraft 62 = .ok (.aload_n 3, 1) := by decide +kernel
theorem d_CT_finishDraft_63 : decode b_CT_finishDraft 63 = .ok (.putfield 27, 3) := by decide +kernel
theorem d_CT_finishDraft_66 : decode b_CT_finishDraft 66 = .ok (.aload_n 0, 1) := by decide +kernel
theorem d_CT_finishDraft_67 : decode b_CT_finishDraft 67 = .ok (.getfield 10, 3) := by decide +kernel
theorem d_CT_finishDraft_70 : decode b_CT_finishDraft 70 = .ok (.getfield 113, 3) := by decide +kernel
theorem d_CT_finishDraft_73 : decode b_CT_finishDraft 73 = .ok (.ifCond .ne 11, 3) := by decide +kernel
theorem d_CT_finishDraft_76 : decode b_CT_finishDraft 76 = .ok (.aload_n 0, 1) := by decide +kernel
theorem d_CT_finishDraft_77 : decode b_CT_finishDraft 77 = .ok (.getfield 10, 3) := by decide +kernel
theorem d_CT_finishDraft_80 : decode b_CT_finishDraft 80 = .ok (.invokevirtual 120, 3) := by decide +kernel
theorem d_CT_finishDraft_83 : decode b_CT_finishDraft 83 = .ok (.pop, 1) := by decide +kernel
theorem d_CT_finishDraft_84 : decode b_CT_finishDraft 84 = .ok (.return_, 1) := by decide +kernel
def f_CT_finishDraft_84   (S : zq_S) : Option (zq_S × Unit) :=
  some (S, ())
def f_CT_finishDraft (a0 : Nat) (v1 : Int32) (S : zq_S) : Option (zq_S × Unit) :=
  (zs_gr S a0 3 3).bind fun x1 =>
  (zs_gr S a0 3 2).bind fun x3 =>
  (zs_gr S a0 3 2).bind fun x5 =>
  (x5).bind fun a7 =>
  (zs_gi S a7 0 1).bind fun x9 =>
  (x1).bind fun a11 =>
  if zs_is S a11 0 = true then
  zs_b (f_Text_addPart a11 x3 v1 x9 S) fun S14 _ =>
  (zs_gr S14 a0 3 2).bind fun x19 =>
  (zs_gr S14 a0 3 3).bind fun x21 =>
  (x19).bind fun a23 =>
  if zs_is S14 a23 0 = true then
  zs_b (f_Text_weightOfChangeTo a23 x21 S14) fun S26 x27 =>
  if x27 = 0 then
    some (S26, ())
  else
    (zs_gr S26 a0 3 0).bind fun x31 =>
    (zs_gr S26 a0 3 2).bind fun x33 =>
    (x31).bind fun a35 =>
    if zs_is S26 a35 2 = true then
    zs_b (f_Hist_recordEdit a35 x33 x27 S26) fun S38 _ =>
    (zs_gr S38 a0 3 2).bind fun x43 =>
    (zs_gr S38 a0 3 3).bind fun x45 =>
    (zs_p S38 a0 3 2 (va_rf x45)).bind fun S47 =>
    (zs_p S47 a0 3 3 (va_rf x43)).bind fun S49 =>
    (zs_gr S49 a0 3 0).bind fun x51 =>
    (x51).bind fun a53 =>
    (zs_gi S49 a53 2 3).bind fun x55 =>
    if x55 = 0 then
      (zs_gr S49 a0 3 0).bind fun x57 =>
      (x57).bind fun a59 =>
      if zs_is S49 a59 2 = true then
      zs_b (f_Hist_endGroup a59 S49) fun S62 x63 =>
      f_CT_finishDraft_84   S62
      else none
    else
      f_CT_finishDraft_84   S49
    else none
  else none
  else none
set_option maxHeartbeats 4000000 in
set_option maxRecDepth 100000 in
theorem r_CT_finishDraft_84 {l : Launch} (hl : l.stackTraces = false) {G : zq_G} {S0 T : zq_S} {v : Unit} {X : zq_X} (Z : Z_CT_finishDraft l G S0 T v X)  {S : zq_S} (hf : f_CT_finishDraft_84   S = some (T, v)) : zq_W (Y_CT_finishDraft l G S0 T v) X 84 [] [] S 6 1210 := by
  unfold f_CT_finishDraft_84 at hf
  exact zq_vret Z d_CT_finishDraft_84 (zs_1 hf) (zs_2 (fun _ => (.inl none : zq_R)) hf) ⟨(Nat.le_of_ble_eq_true rfl), (Nat.le_of_ble_eq_true rfl)⟩
set_option maxHeartbeats 4000000 in
set_option maxRecDepth 100000 in
theorem c_CT_finishDraft {l : Launch} (hl : l.stackTraces = false) {G : zq_G} {a0 : Nat} {v1 : Int32} {S0 T : zq_S} {v : Unit} (hf : f_CT_finishDraft a0 v1 S0 = some (T, v)) : zq_M l y_CT_finishDraft (.code y_CT_finishDraft b_CT_finishDraft 4 none) rm_CT_finishDraft G [.ref a0, .int v1] S0 ((.inl none : zq_R)) T := by
  refine zq_Mof (lo := [(0, .ref a0), (1, .int v1)]) hl (by decide) (Nat.le_of_ble_eq_true rfl) rfl (fun X Z => ?_)
  have Z : Z_CT_finishDraft l G S0 T v X := Z
  show zq_W (Y_CT_finishDraft l G S0 T v) X 0 [(0, .ref a0), (1, .int v1)] [] S0 0 0
  unfold f_CT_finishDraft at hf
  refine zq_aload_n Z d_CT_finishDraft_0 0 rfl ?_
  have hq := Option.bind_eq_some_iff.mp hf
  clear hf
  obtain ⟨x1, h2, hf⟩ := hq
  refine zr_getr Z cd_CT 3 d_CT_finishDraft_1 (by decide) m_92 h2 ?_
  refine zq_aload_n Z d_CT_finishDraft_4 0 rfl ?_
  have hq := Option.bind_eq_some_iff.mp hf
  clear hf
  obtain ⟨x3, h4, hf⟩ := hq
  refine zr_getr Z cd_CT 2 d_CT_finishDraft_5 (by decide) m_91 h4 ?_
  refine zq_iload_n Z d_CT_finishDraft_8 1 rfl ?_
  refine zq_aload_n Z d_CT_finishDraft_9 0 rfl ?_
  have hq := Option.bind_eq_some_iff.mp hf
  clear hf
  obtain ⟨x5, h6, hf⟩ := hq
  refine zr_getr Z cd_CT 2 d_CT_finishDraft_10 (by decide) m_91 h6 ?_
  have hq := Option.bind_eq_some_iff.mp hf
  clear hf
  obtain ⟨a7, h8, hf⟩ := hq
  subst h8
  have hq := Option.bind_eq_some_iff.mp hf
  clear hf
  obtain ⟨x9, h10, hf⟩ := hq
  refine zr_geti Z cd_Text 1 d_CT_finishDraft_13 (by decide) m_103 h10 ?_
  have hq := Option.bind_eq_some_iff.mp hf
  clear hf
  obtain ⟨a11, h12, hf⟩ := hq
  subst h12
  have hq := zs_C hf
  clear hf
  obtain ⟨h16, hf⟩ := hq
  obtain ⟨fs17, e18⟩ := zs_isS h16
  have hq := zs_bS hf
  clear hf
  obtain ⟨S14, x15, h13, hf⟩ := hq
  refine zq_contR (zq_stepV Z zq_cf1 (c_Text_addPart hl h13) 0 rfl e18 d_CT_finishDraft_16 m_33 m_110 m_36 m_34 m_18 p_Text_addPart ⟨(Nat.le_of_ble_eq_true rfl), (Nat.le_of_ble_eq_true rfl), (Nat.le_of_ble_eq_true rfl), (Nat.le_of_ble_eq_true rfl)⟩ rfl (Nat.le_of_ble_eq_true rfl)) Z.p ?_
  refine zq_aload_n Z d_CT_finishDraft_19 0 rfl ?_
  have hq := Option.bind_eq_some_iff.mp hf
  clear hf
  obtain ⟨x19, h20, hf⟩ := hq
  refine zr_getr Z cd_CT 2 d_CT_finishDraft_20 (by decide) m_91 h20 ?_
  refine zq_aload_n Z d_CT_finishDraft_23 0 rfl ?_
  have hq := Option.bind_eq_some_iff.mp hf
  clear hf
  obtain ⟨x21, h22, hf⟩ := hq
  refine zr_getr Z cd_CT 3 d_CT_finishDraft_24 (by decide) m_92 h22 ?_
  have hq := Option.bind_eq_some_iff.mp hf
  clear hf
  obtain ⟨a23, h24, hf⟩ := hq
  subst h24
  have hq := zs_C hf
  clear hf
  obtain ⟨h28, hf⟩ := hq
  obtain ⟨fs29, e30⟩ := zs_isS h28
  have hq := zs_bS hf
  clear hf
  obtain ⟨S26, x27, h25, hf⟩ := hq
  refine zq_contR (zq_stepV Z zq_cf1 (c_Text_weightOfChangeTo hl h25) 0 rfl e30 d_CT_finishDraft_27 m_117 m_119 m_120 m_118 m_18 p_Text_weightOfChangeTo ⟨(Nat.le_of_ble_eq_true rfl), (Nat.le_of_ble_eq_true rfl), (Nat.le_of_ble_eq_true rfl), (Nat.le_of_ble_eq_true rfl)⟩ rfl (Nat.le_of_ble_eq_true rfl)) Z.p ?_
  refine zq_istore_n Z rfl [(2, .int x27), (0, .ref a0), (1, .int v1)] d_CT_finishDraft_30 (by decide) rfl ?_
  refine zq_iload_n Z d_CT_finishDraft_31 0 rfl ?_
  refine zq_if_ne Z 36 d_CT_finishDraft_32 (by decide) (fun q => ?_) (fun q => ?_)
  · replace hf := zs_N q hf
    refine zq_aload_n Z d_CT_finishDraft_36 1 rfl ?_
    have hq := Option.bind_eq_some_iff.mp hf
    clear hf
    obtain ⟨x31, h32, hf⟩ := hq
    refine zr_getr Z cd_CT 0 d_CT_finishDraft_37 (by decide) m_87 h32 ?_
    refine zq_aload_n Z d_CT_finishDraft_40 1 rfl ?_
    have hq := Option.bind_eq_some_iff.mp hf
    clear hf
    obtain ⟨x33, h34, hf⟩ := hq
    refine zr_getr Z cd_CT 2 d_CT_finishDraft_41 (by decide) m_91 h34 ?_
    refine zq_iload_n Z d_CT_finishDraft_44 0 rfl ?_
    have hq := Option.bind_eq_some_iff.mp hf
    clear hf
    obtain ⟨a35, h36, hf⟩ := hq
    subst h36
    have hq := zs_C hf
    clear hf
    obtain ⟨h40, hf⟩ := hq
    obtain ⟨fs41, e42⟩ := zs_isS h40
    have hq := zs_bS hf
    clear hf
    obtain ⟨S38, x39, h37, hf⟩ := hq
    refine zq_contR (zq_stepV Z zq_cf1 (c_Hist_recordEdit hl h37) 2 rfl e42 d_CT_finishDraft_45 m_121 m_123 m_124 m_122 m_60 p_Hist_recordEdit ⟨(Nat.le_of_ble_eq_true rfl), (Nat.le_of_ble_eq_true rfl), (Nat.le_of_ble_eq_true rfl), (Nat.le_of_ble_eq_true rfl)⟩ rfl (Nat.le_of_ble_eq_true rfl)) Z.p ?_
    refine zq_aload_n Z d_CT_finishDraft_48 1 rfl ?_
    have hq := Option.bind_eq_some_iff.mp hf
    clear hf
    obtain ⟨x43, h44, hf⟩ := hq
    refine zr_getr Z cd_CT 2 d_CT_finishDraft_49 (by decide) m_91 h44 ?_
    refine zq_astore_nQ (x := x43) Z rfl [(3, va_rf x43), (2, .int x27), (0, .ref a0), (1, .int v1)] d_CT_finishDraft_52 (by decide) rfl ?_
    refine zq_aload_n Z d_CT_finishDraft_53 2 rfl ?_
    refine zq_aload_n Z d_CT_finishDraft_54 2 rfl ?_
    have hq := Option.bind_eq_some_iff.mp hf
    clear hf
    obtain ⟨x45, h46, hf⟩ := hq
    refine zr_getr Z cd_CT 3 d_CT_finishDraft_55 (by decide) m_92 h46 ?_
    have hq := Option.bind_eq_some_iff.mp hf
    clear hf
    obtain ⟨S47, h48, hf⟩ := hq
    refine zr_putr (x := x45) (ty := .object "ChangeTracker$Text") Z cd_CT 2 d_CT_finishDraft_58 (by decide) m_91 rfl (Or.inl ⟨_, rfl⟩) (by decide +kernel) h48 ?_
    refine zq_aload_n Z d_CT_finishDraft_61 2 rfl ?_
    refine zq_aload_nQ Z d_CT_finishDraft_62 0 rfl ?_
    have hq := Option.bind_eq_some_iff.mp hf
    clear hf
    obtain ⟨S49, h50, hf⟩ := hq
    refine zr_putr (x := x43) (ty := .object "ChangeTracker$Text") Z cd_CT 3 d_CT_finishDraft_63 (by decide) m_92 rfl (Or.inl ⟨_, rfl⟩) (by decide +kernel) h50 ?_
    refine zq_aload_n Z d_CT_finishDraft_66 2 rfl ?_
    have hq := Option.bind_eq_some_iff.mp hf
    clear hf
    obtain ⟨x51, h52, hf⟩ := hq
    refine zr_getr Z cd_CT 0 d_CT_finishDraft_67 (by decide) m_87 h52 ?_
    have hq := Option.bind_eq_some_iff.mp hf
    clear hf
    obtain ⟨a53, h54, hf⟩ := hq
    subst h54
    have hq := Option.bind_eq_some_iff.mp hf
    clear hf
    obtain ⟨x55, h56, hf⟩ := hq
    refine zr_geti Z cd_Hist 3 d_CT_finishDraft_70 (by decide) m_125 h56 ?_
    refine zq_if_ne Z 84 d_CT_finishDraft_73 (by decide) (fun q => ?_) (fun q => ?_)
    · replace hf := zs_N q hf
      refine zq_sub (lo' := []) [] rfl ?_
      refine zq_wid (kc' := 6) (ks' := 1210) (Nat.le_of_ble_eq_true rfl) (Nat.le_of_ble_eq_true rfl) ?_
      exact r_CT_finishDraft_84 hl Z  hf
    · replace hf := zs_T q hf
      refine zq_aload_n Z d_CT_finishDraft_76 2 rfl ?_
      have hq := Option.bind_eq_some_iff.mp hf
      clear hf
      obtain ⟨x57, h58, hf⟩ := hq
      refine zr_getr Z cd_CT 0 d_CT_finishDraft_77 (by decide) m_87 h58 ?_
      have hq := Option.bind_eq_some_iff.mp hf
      clear hf
      obtain ⟨a59, h60, hf⟩ := hq
      subst h60
      have hq := zs_C hf
      clear hf
      obtain ⟨h64, hf⟩ := hq
      obtain ⟨fs65, e66⟩ := zs_isS h64
      have hq := zs_bS hf
      clear hf
      obtain ⟨S62, x63, h61, hf⟩ := hq
      refine zq_contR (zq_stepV Z zq_cf1 (c_Hist_endGroup hl h61) 2 rfl e66 d_CT_finishDraft_80 m_126 m_128 m_129 m_127 m_60 p_Hist_endGroup ⟨(Nat.le_of_ble_eq_true rfl), (Nat.le_of_ble_eq_true rfl), (Nat.le_of_ble_eq_true rfl), (Nat.le_of_ble_eq_true rfl)⟩ rfl (Nat.le_of_ble_eq_true rfl)) Z.p ?_
      refine zq_pop Z d_CT_finishDraft_83 rfl ?_
      refine zq_sub (lo' := []) [] rfl ?_
      exact r_CT_finishDraft_84 hl Z  hf
  · replace hf := zs_T q hf
    exact zq_vret Z d_CT_finishDraft_35 (zs_1 hf) (zs_2 (fun _ => (.inl none : zq_R)) hf) ⟨(Nat.le_of_ble_eq_true rfl), (Nat.le_of_ble_eq_true rfl)⟩
theorem d_CT_insert_0 : decode b_CT_insert 0 = .ok (.aload_n 0, 1) := by decide +kernel
theorem d_CT_insert_1 : decode b_CT_insert 1 = .ok (.iload_n 1, 1) := by decide +kernel
theorem d_CT_insert_2 : decode b_CT_insert 2 = .ok (.iconst 0, 1) := by decide +kernel
theorem d_CT_insert_3 : decode b_CT_insert 3 = .ok (.invokevirtual 45, 3) := by decide +kernel
theorem d_CT_insert_6 : decode b_CT_insert 6 = .ok (.iload 4, 2) := by decide +kernel
theorem d_CT_insert_8 : decode b_CT_insert 8 = .ok (.invokestatic 49, 3) := by decide +kernel
theorem d_CT_insert_11 : decode b_CT_insert 11 = .ok (.lload_n 2, 1) := by decide +kernel
theorem d_CT_insert_12 : decode b_CT_insert 12 = .ok (.invokestatic 53, 3) := by decide +kernel
theorem d_CT_insert_15 : decode b_CT_insert 15 = .ok (.istore 5, 2) := by decide +kernel
theorem d_CT_insert_17 : decode b_CT_insert 17 = .ok (.iload 5, 2) := by decide +kernel
theorem d_CT_insert_19 : decode b_CT_insert 19 = .ok (.ifCond .ne 13, 3) := by decide +kernel
theorem d_CT_insert_22 : decode b_CT_insert 22 = .ok (.new 38, 3) := by decide +kernel
theorem d_CT_insert_25 : decode b_CT_insert 25 = .ok (.dup, 1) := by decide +kernel
theorem d_CT_insert_26 : decode b_CT_insert 26 = .ok (.ldc 57, 2) := by decide +kernel
theorem d_CT_insert_28 : decode b_CT_insert 28 = .ok (.invokespecial 42, 3) := by decide +kernel
theorem d_CT_insert_31 : decode b_CT_insert 31 = .ok (.athrow, 1) := by decide +kernel
theorem d_CT_insert_32 : decode b_CT_insert 32 = .ok (.aload_n 0, 1) := by decide +kernel
theorem d_CT_insert_33 : decode b_CT_insert 33 = .ok (.getfield 23, 3) := by decide +kernel
theorem d_CT_insert_36 : decode b_CT_insert 36 = .ok (.getfield 59, 3) := by decide +kernel
theorem d_CT_insert_39 : decode b_CT_insert 39 = .ok (.iload 5, 2) := by decide +kernel
theorem d_CT_insert_41 : decode b_CT_insert 41 = .ok (.iadd, 1) := by decide +kernel
theorem d_CT_insert_42 : decode b_CT_insert 42 = .ok (.sipush 600, 3) := by decide +kernel
theorem d_CT_insert_45 : decode b_CT_insert 45 = .ok (.if_icmp .le 13, 3) := by decide +kernel
theorem d_CT_insert_48 : decode b_CT_insert 48 = .ok (.new 62, 3) := by decide +kernel
theorem d_CT_insert_51 : decode b_CT_insert 51 = .ok (.dup, 1) := by decide +kernel
theorem d_CT_insert_52 : decode b_CT_insert 52 = .ok (.ldc 64, 2) := by decide +kernel
theorem d_CT_insert_54 : decode b_CT_insert 54 = .ok (.invokespecial 66, 3) := by decide +kernel
theorem d_CT_insert_57 : decode b_CT_insert 57 = .ok (.athrow, 1) := by decide +kernel
theorem d_CT_insert_58 : decode b_CT_insert 58 = .ok (.aload_n 0, 1) := by decide +kernel
theorem d_CT_insert_59 : decode b_CT_insert 59 = .ok (.getfield 34, 3) := by decide +kernel
theorem d_CT_insert_62 : decode b_CT_insert 62 = .ok (.ifCond .eq 10, 3) := by decide +kernel
theorem d_CT_insert_65 : decode b_CT_insert 65 = .ok (.aload_n 0, 1) := by decide +kernel
theorem d_CT_insert_66 : decode b_CT_insert 66 = .ok (.invokevirtual 67, 3) := by decide +kernel
theorem d_CT_insert_69 : decode b_CT_insert 69 = .ok (.goto 4, 3) := by decide +kernel
theorem d_CT_insert_72 : decode b_CT_insert 72 = .ok (.iconst 0, 1) := by decide +kernel
theorem d_CT_insert_73 : decode b_CT_insert 73 = .ok (.istore 6, 2) := by decide +kernel
theorem d_CT_insert_75 : decode b_CT_insert 75 = .ok (.aload_n 0, 1) := by decide +kernel
theorem d_CT_insert_76 : decode b_CT_insert 76 = .ok (.iload_n 1, 1) := by decide +kernel
theorem d_CT_insert_77 : decode b_CT_insert 77 = .ok (.invokevirtual 71, 3) := by decide +kernel
theorem d_CT_insert_80 : decode b_CT_insert 80 = .ok (.iconst 0, 1) := by decide +kernel
theorem d_CT_insert_81 : decode b_CT_insert 81 = .ok (.istore 7, 2) := by decide +kernel
theorem d_CT_insert_83 : decode b_CT_insert 83 = .ok (.iload 7, 2) := by decide +kernel
theorem d_CT_insert_85 : decode b_CT_insert 85 = .ok (.iload 5, 2) := by decide +kernel
theorem d_CT_insert_87 : decode b_CT_insert 87 = .ok (.if_icmp .ge 29, 3) := by decide +kernel
theorem d_CT_insert_90 : decode b_CT_insert 90 = .ok (.aload_n 0, 1) := by decide +kernel
theorem d_CT_insert_91 : decode b_CT_insert 91 = .ok (.getfield 27, 3) := by decide +kernel
theorem d_CT_insert_94 : decode b_CT_insert 94 = .ok (.lload_n 2, 1) := by decide +kernel
theorem d_CT_insert_95 : decode b_CT_insert 95 = .ok (.iload 7, 2) := by decide +kernel
theorem d_CT_insert_97 : decode b_CT_insert 97 = .ok (.invokestatic 74, 3) := by decide +kernel
theorem d_CT_insert_100 : decode b_CT_insert 100 = .ok (.iload 4, 2) := by decide +kernel
theorem d_CT_insert_102 : decode b_CT_insert 102 = .ok (.iload 6, 2) := by decide +kernel
theorem d_CT_insert_104 : decode b_CT_insert 104 = .ok (.invokestatic 78, 3) := by decide +kernel
theorem d_CT_insert_107 : decode b_CT_insert 107 = .ok (.invokevirtual 84, 3) := by decide +kernel
theorem d_CT_insert_110 : decode b_CT_insert 110 = .ok (.iinc 7 1, 3) := by decide +kernel
theorem d_CT_insert_113 : decode b_CT_insert 113 = .ok (.goto (-30), 3) := by decide +kernel
theorem d_CT_insert_116 : decode b_CT_insert 116 = .ok (.aload_n 0, 1) := by decide +kernel
theorem d_CT_insert_117 : decode b_CT_insert 117 = .ok (.iload_n 1, 1) := by decide +kernel
theorem d_CT_insert_118 : decode b_CT_insert 118 = .ok (.invokevirtual 88, 3) := by decide +kernel
theorem d_CT_insert_121 : decode b_CT_insert 121 = .ok (.aload_n 0, 1) := by decide +kernel
theorem d_CT_insert_122 : decode b_CT_insert 122 = .ok (.getfield 23, 3) := by decide +kernel
theorem d_CT_insert_125 : decode b_CT_insert 125 = .ok (.getfield 59, 3) := by decide +kernel
theorem d_CT_insert_128 : decode b_CT_insert 128 = .ok (.ireturn, 1) := by decide +kernel
def f_CT_insert_83 (E : zq_S) (k83 : Nat → Int32 → Int64 → Int32 → Int32 → Int32 → Int32 → zq_S → Option (zq_S × (Int32 ⊕ Nat))) (a0 : Nat) (v1 : Int32) (v2 : Int64) (v4 : Int32) (v5 : Int32) (v6 : Int32) (v7 : Int32) (S : zq_S) : Option (zq_S × (Int32 ⊕ Nat)) :=
  if v5 ≤ v7 then
    if zs_is S a0 3 = true then
    zs_b (f_CT_finishDraft a0 v1 S) fun S2 _ =>
    (zs_gr S2 a0 3 2).bind fun x7 =>
    (x7).bind fun a9 =>
    (zs_gi S2 a9 0 1).bind fun x11 =>
    some (S2, .inl x11)
    else none
  else
    (zs_gr S a0 3 3).bind fun x13 =>
    zs_b (f_CT_codeAt v2 v7 S) fun S16 x17 =>
    zs_b (f_Let_make x17 v4 v6 S16) fun S19 x20 =>
    (x13).bind fun a21 =>
    if zs_is S19 a21 0 = true then
    zs_b (f_Text_add a21 x20 S19) fun S24 _ =>
    k83 a0 v1 v2 v4 v5 v6 (v7 + (1 : Int32)) S24
    else none
def g_CT_insert_83 (E : zq_S)  : Nat → Nat → Int32 → Int64 → Int32 → Int32 → Int32 → Int32 → zq_S → Option (zq_S × (Int32 ⊕ Nat))
  | 0 => fun _ _ _ _ _ _ _ _ => none
  | n + 1 => fun a0 v1 v2 v4 v5 v6 v7 S => f_CT_insert_83 E  (g_CT_insert_83 E  n) a0 v1 v2 v4 v5 v6 v7 S
def f_CT_insert_73 (E : zq_S)  (a0 : Nat) (v1 : Int32) (v2 : Int64) (v4 : Int32) (v5 : Int32) (s0 : Int32) (S : zq_S) : Option (zq_S × (Int32 ⊕ Nat)) :=
  if zs_is S a0 3 = true then
  zs_b (f_CT_startDraft a0 v1 S) fun S2 _ =>
  g_CT_insert_83 E  zq_F a0 v1 v2 v4 v5 s0 (0 : Int32) S2
  else none
def f_CT_insert (E : zq_S) (a0 : Nat) (v1 : Int32) (v2 : Int64) (v4 : Int32) (S : zq_S) : Option (zq_S × (Int32 ⊕ Nat)) :=
  if zs_is S a0 3 = true then
  zs_t (f_CT_requireRange S a0 v1 (0 : Int32) S) (fun S2 _ =>
    zs_t (f_CT_requireFormat S2 v4 S2) (fun S8 _ =>
      zs_b (f_CT_howManyCodes v2 S8) fun S11 x12 =>
      if x12 = 0 then
        if S11.2.1 = E.2.1 ∧ S11.2.2 = E.2.2 then some ((S11.1, S11.2.1 + 1, S11.2.2), .inr 1) else none
      else
        (zs_gr S11 a0 3 2).bind fun x13 =>
        (x13).bind fun a15 =>
        (zs_gi S11 a15 0 1).bind fun x17 =>
        if (x17 + x12) ≤ (600 : Int32) then
          (zs_gi S11 a0 3 5).bind fun x19 =>
          if x19 = 0 then
            f_CT_insert_73 E  a0 v1 v2 v4 x12 (0 : Int32) S11
          else
            if zs_is S11 a0 3 = true then
            zs_b (f_CT_workerBit a0 S11) fun S22 x23 =>
            f_CT_insert_73 E  a0 v1 v2 v4 x12 x23 S22
            else none
        else
          if S11.2.1 = E.2.1 ∧ S11.2.2 = E.2.2 then some ((S11.1, S11.2.1 + 1, S11.2.2), .inr 2) else none
      ) (fun S8 j => some (S8, .inr j))
    ) (fun S2 j => some (S2, .inr j))
  else none
set_option maxHeartbeats 4000000 in
set_option maxRecDepth 100000 in
theorem r_CT_insert_83 {l : Launch} (hl : l.stackTraces = false) {G : zq_G} {S0 T : zq_S} {v : (Int32 ⊕ Nat)} {X : zq_X} (Z : Z_CT_insert l G S0 T v X) {k83 : Nat → Int32 → Int64 → Int32 → Int32 → Int32 → Int32 → zq_S → Option (zq_S × (Int32 ⊕ Nat))} (hk83 : ∀ (a0 : Nat) (v1 : Int32) (v2 : Int64) (v4 : Int32) (v5 : Int32) (v6 : Int32) (v7 : Int32) (S : zq_S), k83 a0 v1 v2 v4 v5 v6 v7 S = some (T, v) → zq_W (Y_CT_insert l G S0 T v) X 83 [(0, .ref a0), (1, .int v1), (2, .long v2), (4, .int v4), (5, .int v5), (6, .int v6), (7, .int v7)] [] S 2 12) {a0 : Nat} {v1 : Int32} {v2 : Int64} {v4 : Int32} {v5 : Int32} {v6 : Int32} {v7 : Int32} {S : zq_S} (hf : f_CT_insert_83 S0 k83 a0 v1 v2 v4 v5 v6 v7 S = some (T, v)) : zq_W (Y_CT_insert l G S0 T v) X 83 [(0, .ref a0), (1, .int v1), (2, .long v2), (4, .int v4), (5, .int v5), (6, .int v6), (7, .int v7)] [] S 2 12 := by
  unfold f_CT_insert_83 at hf
  refine zq_iload Z d_CT_insert_83 6 rfl ?_
  refine zq_iload Z d_CT_insert_85 4 rfl ?_
  refine zq_icmp_ge Z 116 d_CT_insert_87 (by decide) (fun q => ?_) (fun q => ?_)
  · replace hf := zs_T q hf
    refine zq_aload_n Z d_CT_insert_116 0 rfl ?_
    refine zq_iload_n Z d_CT_insert_117 1 rfl ?_
    have hq := zs_C hf
    clear hf
    obtain ⟨h4, hf⟩ := hq
    obtain ⟨fs5, e6⟩ := zs_isS h4
    have hq := zs_bS hf
    clear hf
    obtain ⟨S2, x3, h1, hf⟩ := hq
    refine zq_contR (zq_stepV Z zq_cf1 (c_CT_finishDraft hl h1) 3 rfl e6 d_CT_insert_118 m_130 m_132 m_133 m_131 m_108 p_CT_finishDraft ⟨(Nat.le_of_ble_eq_true rfl), (Nat.le_of_ble_eq_true rfl), (Nat.le_of_ble_eq_true rfl), (Nat.le_of_ble_eq_true rfl)⟩ rfl (Nat.le_of_ble_eq_true rfl)) Z.p ?_
    refine zq_aload_n Z d_CT_insert_121 0 rfl ?_
    have hq := Option.bind_eq_some_iff.mp hf
    clear hf
    obtain ⟨x7, h8, hf⟩ := hq
    refine zr_getr Z cd_CT 2 d_CT_insert_122 (by decide) m_91 h8 ?_
    have hq := Option.bind_eq_some_iff.mp hf
    clear hf
    obtain ⟨a9, h10, hf⟩ := hq
    subst h10
    have hq := Option.bind_eq_some_iff.mp hf
    clear hf
    obtain ⟨x11, h12, hf⟩ := hq
    refine zr_geti Z cd_Text 1 d_CT_insert_125 (by decide) m_103 h12 ?_
    exact zq_iret Z d_CT_insert_128 (zs_1 hf) (zs_2 zq_ei hf) ⟨(Nat.le_of_ble_eq_true rfl), (Nat.le_of_ble_eq_true rfl)⟩
  · replace hf := zs_N q hf
    refine zq_aload_n Z d_CT_insert_90 0 rfl ?_
    have hq := Option.bind_eq_some_iff.mp hf
    clear hf
    obtain ⟨x13, h14, hf⟩ := hq
    refine zr_getr Z cd_CT 3 d_CT_insert_91 (by decide) m_92 h14 ?_
    refine zq_lload_n Z d_CT_insert_94 2 rfl ?_
    refine zq_iload Z d_CT_insert_95 6 rfl ?_
    have hq := zs_bS hf
    clear hf
    obtain ⟨S16, x17, h15, hf⟩ := hq
    refine zq_contR (zq_stepS Z zq_cf1 (c_CT_codeAt hl h15) d_CT_insert_97 m_105 m_106 m_107 m_108 p_CT_codeAt ⟨(Nat.le_of_ble_eq_true rfl), (Nat.le_of_ble_eq_true rfl), (Nat.le_of_ble_eq_true rfl), (Nat.le_of_ble_eq_true rfl)⟩ rfl (by cases x13 <;> exact (Nat.le_of_ble_eq_true rfl))) Z.p ?_
    refine zq_iload Z d_CT_insert_100 3 rfl ?_
    refine zq_iload Z d_CT_insert_102 5 rfl ?_
    have hq := zs_bS hf
    clear hf
    obtain ⟨S19, x20, h18, hf⟩ := hq
    refine zq_contR (zq_stepS Z zq_cf1 (c_Let_make hl h18) d_CT_insert_104 m_134 m_135 m_136 m_116 p_Let_make ⟨(Nat.le_of_ble_eq_true rfl), (Nat.le_of_ble_eq_true rfl), (Nat.le_of_ble_eq_true rfl), (Nat.le_of_ble_eq_true rfl)⟩ rfl (by cases x13 <;> exact (Nat.le_of_ble_eq_true rfl))) Z.p ?_
    have hq := Option.bind_eq_some_iff.mp hf
    clear hf
    obtain ⟨a21, h22, hf⟩ := hq
    subst h22
    have hq := zs_C hf
    clear hf
    obtain ⟨h26, hf⟩ := hq
    obtain ⟨fs27, e28⟩ := zs_isS h26
    have hq := zs_bS hf
    clear hf
    obtain ⟨S24, x25, h23, hf⟩ := hq
    refine zq_contR (zq_stepV Z zq_cf1 (c_Text_add hl h23) 0 rfl e28 d_CT_insert_107 m_137 m_139 m_140 m_138 m_18 p_Text_add ⟨(Nat.le_of_ble_eq_true rfl), (Nat.le_of_ble_eq_true rfl), (Nat.le_of_ble_eq_true rfl), (Nat.le_of_ble_eq_true rfl)⟩ rfl (Nat.le_of_ble_eq_true rfl)) Z.p ?_
    refine zq_iinc Z (v7 + (1 : Int32)) [(7, .int (v7 + (1 : Int32))), (0, .ref a0), (1, .int v1), (2, .long v2), (4, .int v4), (5, .int v5), (6, .int v6)] d_CT_insert_110 6 rfl rfl (by decide) rfl ?_
    refine zq_goto Z 83 d_CT_insert_113 (by decide) ?_
    refine zq_sub (lo' := [(0, .ref a0), (1, .int v1), (2, .long v2), (4, .int v4), (5, .int v5), (6, .int v6), (7, .int (v7 + (1 : Int32)))]) [1, 2, 3, 4, 5, 6, 0] rfl ?_
    exact hk83 _ _ _ _ _ _ _ _ hf
theorem w_CT_insert_83 {l : Launch} (hl : l.stackTraces = false) {G : zq_G} {S0 T : zq_S} {v : (Int32 ⊕ Nat)} {X : zq_X} (Z : Z_CT_insert l G S0 T v X) : ∀ (n : Nat) (a0 : Nat) (v1 : Int32) (v2 : Int64) (v4 : Int32) (v5 : Int32) (v6 : Int32) (v7 : Int32) (S : zq_S), g_CT_insert_83 S0  n a0 v1 v2 v4 v5 v6 v7 S = some (T, v) → zq_W (Y_CT_insert l G S0 T v) X 83 [(0, .ref a0), (1, .int v1), (2, .long v2), (4, .int v4), (5, .int v5), (6, .int v6), (7, .int v7)] [] S 2 12 := by
  intro n
  induction n with
  | zero => intro a0 v1 v2 v4 v5 v6 v7 S hf; cases hf
  | succ n ih =>
    intro a0 v1 v2 v4 v5 v6 v7 S hf
    have hf : f_CT_insert_83 S0  (g_CT_insert_83 S0  n) a0 v1 v2 v4 v5 v6 v7 S = some (T, v) := hf
    exact r_CT_insert_83 hl Z  ih hf
set_option maxHeartbeats 4000000 in
set_option maxRecDepth 100000 in
theorem r_CT_insert_73 {l : Launch} (hl : l.stackTraces = false) {G : zq_G} {S0 T : zq_S} {v : (Int32 ⊕ Nat)} {X : zq_X} (Z : Z_CT_insert l G S0 T v X) {a0 : Nat} {v1 : Int32} {v2 : Int64} {v4 : Int32} {v5 : Int32} {s0 : Int32} {S : zq_S} (hf : f_CT_insert_73 S0  a0 v1 v2 v4 v5 s0 S = some (T, v)) : zq_W (Y_CT_insert l G S0 T v) X 73 [(0, .ref a0), (1, .int v1), (2, .long v2), (4, .int v4), (5, .int v5)] [.int s0] S 2 12 := by
  unfold f_CT_insert_73 at hf
  refine zq_istore Z [(6, .int s0), (0, .ref a0), (1, .int v1), (2, .long v2), (4, .int v4), (5, .int v5)] d_CT_insert_73 (by decide) rfl ?_
  refine zq_aload_n Z d_CT_insert_75 1 rfl ?_
  refine zq_iload_n Z d_CT_insert_76 2 rfl ?_
  have hq := zs_C hf
  clear hf
  obtain ⟨h4, hf⟩ := hq
  obtain ⟨fs5, e6⟩ := zs_isS h4
  have hq := zs_bS hf
  clear hf
  obtain ⟨S2, x3, h1, hf⟩ := hq
  refine zq_contR (zq_stepV Z zq_cf1 (c_CT_startDraft hl h1) 3 rfl e6 d_CT_insert_77 m_141 m_143 m_144 m_142 m_108 p_CT_startDraft ⟨(Nat.le_of_ble_eq_true rfl), (Nat.le_of_ble_eq_true rfl), (Nat.le_of_ble_eq_true rfl), (Nat.le_of_ble_eq_true rfl)⟩ rfl (Nat.le_of_ble_eq_true rfl)) Z.p ?_
  refine zq_iconst Z (0 : Int32) d_CT_insert_80 (by decide) ?_
  refine zq_istore Z [(7, .int (0 : Int32)), (6, .int s0), (0, .ref a0), (1, .int v1), (2, .long v2), (4, .int v4), (5, .int v5)] d_CT_insert_81 (by decide) rfl ?_
  refine zq_sub (lo' := [(0, .ref a0), (1, .int v1), (2, .long v2), (4, .int v4), (5, .int v5), (6, .int s0), (7, .int (0 : Int32))]) [2, 3, 4, 5, 6, 1, 0] rfl ?_
  exact w_CT_insert_83 hl Z  _ _ _ _ _ _ _ _ _ hf
set_option maxHeartbeats 4000000 in
set_option maxRecDepth 100000 in
theorem c_CT_insert {l : Launch} (hl : l.stackTraces = false) {G : zq_G} {a0 : Nat} {v1 : Int32} {v2 : Int64} {v4 : Int32} {S0 T : zq_S} {v : (Int32 ⊕ Nat)} (hf : f_CT_insert S0 a0 v1 v2 v4 S0 = some (T, v)) : zq_M l y_CT_insert (.code y_CT_insert b_CT_insert 8 (some (.int))) rm_CT_insert G [.ref a0, .int v1, .long v2, .int v4] S0 (zq_ei v) T := by
  refine zq_Mof (lo := [(0, .ref a0), (1, .int v1), (2, .long v2), (4, .int v4)]) hl (by decide) (Nat.le_of_ble_eq_true rfl) rfl (fun X Z => ?_)
  have Z : Z_CT_insert l G S0 T v X := Z
  show zq_W (Y_CT_insert l G S0 T v) X 0 [(0, .ref a0), (1, .int v1), (2, .long v2), (4, .int v4)] [] S0 0 0
  unfold f_CT_insert at hf
  refine zq_aload_n Z d_CT_insert_0 0 rfl ?_
  refine zq_iload_n Z d_CT_insert_1 1 rfl ?_
  refine zq_iconst Z (0 : Int32) d_CT_insert_2 (by decide) ?_
  have hq := zs_C hf
  clear hf
  obtain ⟨h4, hf⟩ := hq
  obtain ⟨fs5, e6⟩ := zs_isS h4
  have hq := zs_tS hf
  clear hf
  rcases hq with ⟨S2, x3, h1, hf⟩ | ⟨S2, j, h1, hf⟩
  · refine zq_contR (zq_stepV Z zq_cf1 (c_CT_requireRange hl h1) 3 rfl e6 d_CT_insert_3 m_145 m_162 m_163 m_161 m_108 p_CT_requireRange ⟨(Nat.le_of_ble_eq_true rfl), (Nat.le_of_ble_eq_true rfl), (Nat.le_of_ble_eq_true rfl), (Nat.le_of_ble_eq_true rfl)⟩ rfl (Nat.le_of_ble_eq_true rfl)) Z.p ?_
    refine zq_iload Z d_CT_insert_6 3 rfl ?_
    have hq := zs_tS hf
    clear hf
    rcases hq with ⟨S8, x9, h7, hf⟩ | ⟨S8, j, h7, hf⟩
    · refine zq_contR (zq_stepS Z zq_cf1 (c_CT_requireFormat hl h7) d_CT_insert_8 m_146 m_159 m_160 m_108 p_CT_requireFormat ⟨(Nat.le_of_ble_eq_true rfl), (Nat.le_of_ble_eq_true rfl), (Nat.le_of_ble_eq_true rfl), (Nat.le_of_ble_eq_true rfl)⟩ rfl (Nat.le_of_ble_eq_true rfl)) Z.p ?_
      refine zq_lload_n Z d_CT_insert_11 2 rfl ?_
      have hq := zs_bS hf
      clear hf
      obtain ⟨S11, x12, h10, hf⟩ := hq
      refine zq_contR (zq_stepS Z zq_cf1 (c_CT_howManyCodes hl h10) d_CT_insert_12 m_147 m_148 m_149 m_108 p_CT_howManyCodes ⟨(Nat.le_of_ble_eq_true rfl), (Nat.le_of_ble_eq_true rfl), (Nat.le_of_ble_eq_true rfl), (Nat.le_of_ble_eq_true rfl)⟩ rfl (Nat.le_of_ble_eq_true rfl)) Z.p ?_
      refine zq_istore Z [(5, .int x12), (0, .ref a0), (1, .int v1), (2, .long v2), (4, .int v4)] d_CT_insert_15 (by decide) rfl ?_
      refine zq_iload Z d_CT_insert_17 0 rfl ?_
      refine zq_if_ne Z 32 d_CT_insert_19 (by decide) (fun q => ?_) (fun q => ?_)
      · replace hf := zs_N q hf
        refine zq_aload_n Z d_CT_insert_32 1 rfl ?_
        have hq := Option.bind_eq_some_iff.mp hf
        clear hf
        obtain ⟨x13, h14, hf⟩ := hq
        refine zr_getr Z cd_CT 2 d_CT_insert_33 (by decide) m_91 h14 ?_
        have hq := Option.bind_eq_some_iff.mp hf
        clear hf
        obtain ⟨a15, h16, hf⟩ := hq
        subst h16
        have hq := Option.bind_eq_some_iff.mp hf
        clear hf
        obtain ⟨x17, h18, hf⟩ := hq
        refine zr_geti Z cd_Text 1 d_CT_insert_36 (by decide) m_103 h18 ?_
        refine zq_iload Z d_CT_insert_39 0 rfl ?_
        refine zq_iadd Z d_CT_insert_41 ?_
        refine zq_sipush Z (600 : Int32) d_CT_insert_42 (by decide) ?_
        refine zq_icmp_le Z 58 d_CT_insert_45 (by decide) (fun q => ?_) (fun q => ?_)
        · replace hf := zs_T q hf
          refine zq_aload_n Z d_CT_insert_58 1 rfl ?_
          have hq := Option.bind_eq_some_iff.mp hf
          clear hf
          obtain ⟨x19, h20, hf⟩ := hq
          refine zr_geti Z cd_CT 5 d_CT_insert_59 (by decide) m_94 h20 ?_
          refine zq_if_eq Z 72 d_CT_insert_62 (by decide) (fun q => ?_) (fun q => ?_)
          · replace hf := zs_T q hf
            refine zq_iconst Z (0 : Int32) d_CT_insert_72 (by decide) ?_
            refine zq_sub (lo' := [(0, .ref a0), (1, .int v1), (2, .long v2), (4, .int v4), (5, .int x12)]) [1, 2, 3, 4, 0] rfl ?_
            exact r_CT_insert_73 hl Z  hf
          · replace hf := zs_N q hf
            refine zq_aload_n Z d_CT_insert_65 1 rfl ?_
            have hq := zs_C hf
            clear hf
            obtain ⟨h24, hf⟩ := hq
            obtain ⟨fs25, e26⟩ := zs_isS h24
            have hq := zs_bS hf
            clear hf
            obtain ⟨S22, x23, h21, hf⟩ := hq
            refine zq_contR (zq_stepV Z zq_cf1 (c_CT_workerBit hl h21) 3 rfl e26 d_CT_insert_66 m_150 m_152 m_153 m_151 m_108 p_CT_workerBit ⟨(Nat.le_of_ble_eq_true rfl), (Nat.le_of_ble_eq_true rfl), (Nat.le_of_ble_eq_true rfl), (Nat.le_of_ble_eq_true rfl)⟩ rfl (Nat.le_of_ble_eq_true rfl)) Z.p ?_
            refine zq_goto Z 73 d_CT_insert_69 (by decide) ?_
            refine zq_sub (lo' := [(0, .ref a0), (1, .int v1), (2, .long v2), (4, .int v4), (5, .int x12)]) [1, 2, 3, 4, 0] rfl ?_
            exact r_CT_insert_73 hl Z  hf
        · replace hf := zs_N q hf
          have hq := zs_C hf
          clear hf
          obtain ⟨h27, hf⟩ := hq
          exact zq_throw Z 2 d_CT_insert_48 d_CT_insert_51 d_CT_insert_52 d_CT_insert_54 d_CT_insert_57 m_154 m_155 m_156 m_157 ow_CT_66 (zs_1 hf) (zs_2 zq_ei hf) h27 ⟨⟨(Nat.le_of_ble_eq_true rfl), (Nat.le_of_ble_eq_true rfl)⟩, (Nat.le_of_ble_eq_true rfl), (Nat.le_of_ble_eq_true rfl)⟩
      · replace hf := zs_T q hf
        have hq := zs_C hf
        clear hf
        obtain ⟨h28, hf⟩ := hq
        exact zq_throw Z 1 d_CT_insert_22 d_CT_insert_25 d_CT_insert_26 d_CT_insert_28 d_CT_insert_31 m_95 m_96 m_97 m_158 ow_CT_42 (zs_1 hf) (zs_2 zq_ei hf) h28 ⟨⟨(Nat.le_of_ble_eq_true rfl), (Nat.le_of_ble_eq_true rfl)⟩, (Nat.le_of_ble_eq_true rfl), (Nat.le_of_ble_eq_true rfl)⟩
    · exact zq_contT Z (zq_stepS Z zq_cf1 (c_CT_requireFormat hl h7) d_CT_insert_8 m_146 m_159 m_160 m_108 p_CT_requireFormat ⟨(Nat.le_of_ble_eq_true rfl), (Nat.le_of_ble_eq_true rfl), (Nat.le_of_ble_eq_true rfl), (Nat.le_of_ble_eq_true rfl)⟩ rfl (Nat.le_of_ble_eq_true rfl)) (zs_1 hf) (zs_2 zq_ei hf) ⟨(Nat.le_of_ble_eq_true rfl), (Nat.le_of_ble_eq_true rfl)⟩
  · exact zq_contT Z (zq_stepV Z zq_cf1 (c_CT_requireRange hl h1) 3 rfl e6 d_CT_insert_3 m_145 m_162 m_163 m_161 m_108 p_CT_requireRange ⟨(Nat.le_of_ble_eq_true rfl), (Nat.le_of_ble_eq_true rfl), (Nat.le_of_ble_eq_true rfl), (Nat.le_of_ble_eq_true rfl)⟩ rfl (Nat.le_of_ble_eq_true rfl)) (zs_1 hf) (zs_2 zq_ei hf) ⟨(Nat.le_of_ble_eq_true rfl), (Nat.le_of_ble_eq_true rfl)⟩
