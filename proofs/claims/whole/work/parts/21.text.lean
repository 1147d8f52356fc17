theorem d_Text_init_0 : decode b_Text_init 0 = .ok (.aload_n 0, 1) := by decide +kernel
theorem d_Text_init_1 : decode b_Text_init 1 = .ok (.invokespecial 3, 3) := by decide +kernel
theorem d_Text_init_4 : decode b_Text_init 4 = .ok (.aload_n 0, 1) := by decide +kernel
theorem d_Text_init_5 : decode b_Text_init 5 = .ok (.sipush 600, 3) := by decide +kernel
theorem d_Text_init_8 : decode b_Text_init 8 = .ok (.newarray .long, 2) := by decide +kernel
theorem d_Text_init_10 : decode b_Text_init 10 = .ok (.putfield 9, 3) := by decide +kernel
theorem d_Text_init_13 : decode b_Text_init 13 = .ok (.aload_n 0, 1) := by decide +kernel
theorem d_Text_init_14 : decode b_Text_init 14 = .ok (.iconst 0, 1) := by decide +kernel
theorem d_Text_init_15 : decode b_Text_init 15 = .ok (.putfield 15, 3) := by decide +kernel
theorem d_Text_init_18 : decode b_Text_init 18 = .ok (.return_, 1) := by decide +kernel
def f_Text_init (a0 : Nat) (S : zq_S) : Option (zq_S × Unit) :=
  (zs_p (zq_n S (.inl (0, 600, .inr (.inl (fun _ => 0))))) a0 0 0 (va_rf (some (S.2.1)))).bind fun S1 =>
  (zs_p S1 a0 0 1 (.int (0 : Int32))).bind fun S3 =>
  some (S3, ())
set_option maxHeartbeats 4000000 in
set_option maxRecDepth 100000 in
theorem c_Text_init {l : Launch} (hl : l.stackTraces = false) {G : zq_G} {a0 : Nat} {S0 T : zq_S} {v : Unit} (hf : f_Text_init a0 S0 = some (T, v)) : zq_M l y_Text_init (.code y_Text_init b_Text_init 1 none) rm_Text_init G [.ref a0] S0 ((.inl none : zq_R)) T := by
  refine zq_Mof (lo := [(0, .ref a0)]) hl (by decide) (Nat.le_of_ble_eq_true rfl) rfl (fun X Z => ?_)
  have Z : Z_Text_init l G S0 T v X := Z
  show zq_W (Y_Text_init l G S0 T v) X 0 [(0, .ref a0)] [] S0 0 0
  unfold f_Text_init at hf
  refine zq_aload_n Z d_Text_init_0 0 rfl ?_
  refine zq_objInit Z d_Text_init_1 m_0 m_1 m_2 (Nat.le_of_ble_eq_true rfl) (Nat.le_of_ble_eq_true rfl) ?_
  refine zq_aload_n Z d_Text_init_4 0 rfl ?_
  refine zq_sipush Z (600 : Int32) d_Text_init_5 (by decide) ?_
  refine zq_newa (N := 600) (atype := .long) (ty := .long) Z rfl 0 (fun _ => rfl) (fun _ _ h => h) d_Text_init_8 m_3 (600, .inr (.inl (fun _ => 0))) (fun _ => rfl) (by decide) (by decide) (by decide) ⟨(Nat.le_of_ble_eq_true rfl), (Nat.le_of_ble_eq_true rfl)⟩ ?_
  have hq := Option.bind_eq_some_iff.mp hf
  clear hf
  obtain ⟨S1, h2, hf⟩ := hq
  refine zr_putrF (x := (some (S0.2.1))) (ty := .array (.long)) Z cd_Text 0 d_Text_init_10 (by decide) m_4 rfl rfl rfl (Or.inr ⟨_, rfl⟩) (by decide +kernel) h2 ?_
  refine zq_aload_n Z d_Text_init_13 0 rfl ?_
  refine zq_iconst Z (0 : Int32) d_Text_init_14 (by decide) ?_
  have hq := Option.bind_eq_some_iff.mp hf
  clear hf
  obtain ⟨S3, h4, hf⟩ := hq
  refine zr_puti Z cd_Text 1 d_Text_init_15 (by decide) m_5 rfl (by decide +kernel) h4 ?_
  exact zq_vret Z d_Text_init_18 (zs_1 hf) (zs_2 (fun _ => (.inl none : zq_R)) hf) ⟨(Nat.le_of_ble_eq_true rfl), (Nat.le_of_ble_eq_true rfl)⟩
theorem d_Text_at_0 : decode b_Text_at 0 = .ok (.iload_n 1, 1) := by decide +kernel
theorem d_Text_at_1 : decode b_Text_at 1 = .ok (.ifCond .lt 21, 3) := by decide +kernel
theorem d_Text_at_4 : decode b_Text_at 4 = .ok (.iload_n 1, 1) := by decide +kernel
theorem d_Text_at_5 : decode b_Text_at 5 = .ok (.aload_n 0, 1) := by decide +kernel
theorem d_Text_at_6 : decode b_Text_at 6 = .ok (.getfield 9, 3) := by decide +kernel
theorem d_Text_at_9 : decode b_Text_at 9 = .ok (.arraylength, 1) := by decide +kernel
theorem d_Text_at_10 : decode b_Text_at 10 = .ok (.if_icmp .ge 12, 3) := by decide +kernel
theorem d_Text_at_13 : decode b_Text_at 13 = .ok (.aload_n 0, 1) := by decide +kernel
theorem d_Text_at_14 : decode b_Text_at 14 = .ok (.getfield 9, 3) := by decide +kernel
theorem d_Text_at_17 : decode b_Text_at 17 = .ok (.iload_n 1, 1) := by decide +kernel
theorem d_Text_at_18 : decode b_Text_at 18 = .ok (.laload, 1) := by decide +kernel
theorem d_Text_at_19 : decode b_Text_at 19 = .ok (.goto 4, 3) := by decide +kernel
theorem d_Text_at_22 : decode b_Text_at 22 = .ok (.lconst 0, 1) := by decide +kernel
theorem d_Text_at_23 : decode b_Text_at 23 = .ok (.lreturn, 1) := by decide +kernel
def f_Text_at_23  (s0 : Int64) (S : zq_S) : Option (zq_S × Int64) :=
  some (S, s0)
def f_Text_at_22   (S : zq_S) : Option (zq_S × Int64) :=
  f_Text_at_23  (0 : Int64) S
def f_Text_at (a0 : Nat) (v1 : Int32) (S : zq_S) : Option (zq_S × Int64) :=
  if v1 < 0 then
    f_Text_at_22   S
  else
    (zs_gr S a0 0 0).bind fun x1 =>
    (x1).bind fun a3 =>
    (zs_len S a3 0).bind fun x5 =>
    if x5 ≤ v1 then
      f_Text_at_22   S
    else
      (zs_gr S a0 0 0).bind fun x7 =>
      (x7).bind fun a9 =>
      (zs_lal S a9 0 v1).bind fun x11 =>
      f_Text_at_23  x11 S
set_option maxHeartbeats 4000000 in
set_option maxRecDepth 100000 in
theorem r_Text_at_23 {l : Launch} (hl : l.stackTraces = false) {G : zq_G} {S0 T : zq_S} {v : Int64} {X : zq_X} (Z : Z_Text_at l G S0 T v X) {s0 : Int64} {S : zq_S} (hf : f_Text_at_23  s0 S = some (T, v)) : zq_W (Y_Text_at l G S0 T v) X 23 [] [.long s0] S 0 0 := by
  unfold f_Text_at_23 at hf
  exact zq_lret Z d_Text_at_23 (zs_1 hf) (zs_2 (fun z => (.inl (some (.long z)) : zq_R)) hf) ⟨(Nat.le_of_ble_eq_true rfl), (Nat.le_of_ble_eq_true rfl)⟩
set_option maxHeartbeats 4000000 in
set_option maxRecDepth 100000 in
theorem r_Text_at_22 {l : Launch} (hl : l.stackTraces = false) {G : zq_G} {S0 T : zq_S} {v : Int64} {X : zq_X} (Z : Z_Text_at l G S0 T v X)  {S : zq_S} (hf : f_Text_at_22   S = some (T, v)) : zq_W (Y_Text_at l G S0 T v) X 22 [] [] S 0 0 := by
  unfold f_Text_at_22 at hf
  refine zq_lconst Z (0 : Int64) d_Text_at_22 (by decide) ?_
  refine zq_sub (lo' := []) [] rfl ?_
  exact r_Text_at_23 hl Z  hf
set_option maxHeartbeats 4000000 in
set_option maxRecDepth 100000 in
theorem c_Text_at {l : Launch} (hl : l.stackTraces = false) {G : zq_G} {a0 : Nat} {v1 : Int32} {S0 T : zq_S} {v : Int64} (hf : f_Text_at a0 v1 S0 = some (T, v)) : zq_M l y_Text_at (.code y_Text_at b_Text_at 2 (some (.long))) rm_Text_at G [.ref a0, .int v1] S0 ((.inl (some (.long v)) : zq_R)) T := by
  refine zq_Mof (lo := [(0, .ref a0), (1, .int v1)]) hl (by decide) (Nat.le_of_ble_eq_true rfl) rfl (fun X Z => ?_)
  have Z : Z_Text_at l G S0 T v X := Z
  show zq_W (Y_Text_at l G S0 T v) X 0 [(0, .ref a0), (1, .int v1)] [] S0 0 0
  unfold f_Text_at at hf
  refine zq_iload_n Z d_Text_at_0 1 rfl ?_
  refine zq_if_lt Z 22 d_Text_at_1 (by decide) (fun q => ?_) (fun q => ?_)
  · replace hf := zs_T q hf
    refine zq_sub (lo' := []) [] rfl ?_
    exact r_Text_at_22 hl Z  hf
  · replace hf := zs_N q hf
    refine zq_iload_n Z d_Text_at_4 1 rfl ?_
    refine zq_aload_n Z d_Text_at_5 0 rfl ?_
    have hq := Option.bind_eq_some_iff.mp hf
    clear hf
    obtain ⟨x1, h2, hf⟩ := hq
    refine zr_getr Z cd_Text 0 d_Text_at_6 (by decide) m_4 h2 ?_
    have hq := Option.bind_eq_some_iff.mp hf
    clear hf
    obtain ⟨a3, h4, hf⟩ := hq
    subst h4
    have hq := Option.bind_eq_some_iff.mp hf
    clear hf
    obtain ⟨x5, h6, hf⟩ := hq
    refine zr_len Z 0 (fun _ => rfl) d_Text_at_9 h6 ?_
    refine zq_icmp_ge Z 22 d_Text_at_10 (by decide) (fun q => ?_) (fun q => ?_)
    · replace hf := zs_T q hf
      refine zq_sub (lo' := []) [] rfl ?_
      exact r_Text_at_22 hl Z  hf
    · replace hf := zs_N q hf
      refine zq_aload_n Z d_Text_at_13 0 rfl ?_
      have hq := Option.bind_eq_some_iff.mp hf
      clear hf
      obtain ⟨x7, h8, hf⟩ := hq
      refine zr_getr Z cd_Text 0 d_Text_at_14 (by decide) m_4 h8 ?_
      refine zq_iload_n Z d_Text_at_17 1 rfl ?_
      have hq := Option.bind_eq_some_iff.mp hf
      clear hf
      obtain ⟨a9, h10, hf⟩ := hq
      subst h10
      have hq := Option.bind_eq_some_iff.mp hf
      clear hf
      obtain ⟨x11, h12, hf⟩ := hq
      refine zr_laload Z 0 (fun _ => rfl) d_Text_at_18 h12 ?_
      refine zq_goto Z 23 d_Text_at_19 (by decide) ?_
      refine zq_sub (lo' := []) [] rfl ?_
      exact r_Text_at_23 hl Z  hf
theorem d_Text_clear_0 : decode b_Text_clear 0 = .ok (.aload_n 0, 1) := by decide +kernel
theorem d_Text_clear_1 : decode b_Text_clear 1 = .ok (.iconst 0, 1) := by decide +kernel
theorem d_Text_clear_2 : decode b_Text_clear 2 = .ok (.putfield 15, 3) := by decide +kernel
theorem d_Text_clear_5 : decode b_Text_clear 5 = .ok (.return_, 1) := by decide +kernel
def f_Text_clear (a0 : Nat) (S : zq_S) : Option (zq_S × Unit) :=
  (zs_p S a0 0 1 (.int (0 : Int32))).bind fun S1 =>
  some (S1, ())
set_option maxHeartbeats 4000000 in
set_option maxRecDepth 100000 in
theorem c_Text_clear {l : Launch} (hl : l.stackTraces = false) {G : zq_G} {a0 : Nat} {S0 T : zq_S} {v : Unit} (hf : f_Text_clear a0 S0 = some (T, v)) : zq_M l y_Text_clear (.code y_Text_clear b_Text_clear 1 none) rm_Text_clear G [.ref a0] S0 ((.inl none : zq_R)) T := by
  refine zq_Mof (lo := [(0, .ref a0)]) hl (by decide) (Nat.le_of_ble_eq_true rfl) rfl (fun X Z => ?_)
  have Z : Z_Text_clear l G S0 T v X := Z
  show zq_W (Y_Text_clear l G S0 T v) X 0 [(0, .ref a0)] [] S0 0 0
  unfold f_Text_clear at hf
  refine zq_aload_n Z d_Text_clear_0 0 rfl ?_
  refine zq_iconst Z (0 : Int32) d_Text_clear_1 (by decide) ?_
  have hq := Option.bind_eq_some_iff.mp hf
  clear hf
  obtain ⟨S1, h2, hf⟩ := hq
  refine zr_puti Z cd_Text 1 d_Text_clear_2 (by decide) m_5 rfl (by decide +kernel) h2 ?_
  exact zq_vret Z d_Text_clear_5 (zs_1 hf) (zs_2 (fun _ => (.inl none : zq_R)) hf) ⟨(Nat.le_of_ble_eq_true rfl), (Nat.le_of_ble_eq_true rfl)⟩
theorem d_Text_add_0 : decode b_Text_add 0 = .ok (.lload_n 1, 1) := by decide +kernel
theorem d_Text_add_1 : decode b_Text_add 1 = .ok (.lconst 0, 1) := by decide +kernel
theorem d_Text_add_2 : decode b_Text_add 2 = .ok (.lcmp, 1) := by decide +kernel
theorem d_Text_add_3 : decode b_Text_add 3 = .ok (.ifCond .eq 42, 3) := by decide +kernel
theorem d_Text_add_6 : decode b_Text_add 6 = .ok (.aload_n 0, 1) := by decide +kernel
theorem d_Text_add_7 : decode b_Text_add 7 = .ok (.getfield 15, 3) := by decide +kernel
theorem d_Text_add_10 : decode b_Text_add 10 = .ok (.ifCond .lt 35, 3) := by decide +kernel
theorem d_Text_add_13 : decode b_Text_add 13 = .ok (.aload_n 0, 1) := by decide +kernel
theorem d_Text_add_14 : decode b_Text_add 14 = .ok (.getfield 15, 3) := by decide +kernel
theorem d_Text_add_17 : decode b_Text_add 17 = .ok (.aload_n 0, 1) := by decide +kernel
theorem d_Text_add_18 : decode b_Text_add 18 = .ok (.getfield 9, 3) := by decide +kernel
theorem d_Text_add_21 : decode b_Text_add 21 = .ok (.arraylength, 1) := by decide +kernel
theorem d_Text_add_22 : decode b_Text_add 22 = .ok (.if_icmp .ge 23, 3) := by decide +kernel
theorem d_Text_add_25 : decode b_Text_add 25 = .ok (.aload_n 0, 1) := by decide +kernel
theorem d_Text_add_26 : decode b_Text_add 26 = .ok (.getfield 9, 3) := by decide +kernel
theorem d_Text_add_29 : decode b_Text_add 29 = .ok (.aload_n 0, 1) := by decide +kernel
theorem d_Text_add_30 : decode b_Text_add 30 = .ok (.getfield 15, 3) := by decide +kernel
theorem d_Text_add_33 : decode b_Text_add 33 = .ok (.lload_n 1, 1) := by decide +kernel
theorem d_Text_add_34 : decode b_Text_add 34 = .ok (.lastore, 1) := by decide +kernel
theorem d_Text_add_35 : decode b_Text_add 35 = .ok (.aload_n 0, 1) := by decide +kernel
theorem d_Text_add_36 : decode b_Text_add 36 = .ok (.dup, 1) := by decide +kernel
theorem d_Text_add_37 : decode b_Text_add 37 = .ok (.getfield 15, 3) := by decide +kernel
theorem d_Text_add_40 : decode b_Text_add 40 = .ok (.iconst 1, 1) := by decide +kernel
theorem d_Text_add_41 : decode b_Text_add 41 = .ok (.iadd, 1) := by decide +kernel
theorem d_Text_add_42 : decode b_Text_add 42 = .ok (.putfield 15, 3) := by decide +kernel
theorem d_Text_add_45 : decode b_Text_add 45 = .ok (.return_, 1) := by decide +kernel
def f_Text_add_45   (S : zq_S) : Option (zq_S × Unit) :=
  some (S, ())
def f_Text_add (a0 : Nat) (v1 : Int64) (S : zq_S) : Option (zq_S × Unit) :=
  if (lg_cmp v1 (0 : Int64)) = 0 then
    f_Text_add_45   S
  else
    (zs_gi S a0 0 1).bind fun x1 =>
    if x1 < 0 then
      f_Text_add_45   S
    else
      (zs_gi S a0 0 1).bind fun x3 =>
      (zs_gr S a0 0 0).bind fun x5 =>
      (x5).bind fun a7 =>
      (zs_len S a7 0).bind fun x9 =>
      if x9 ≤ x3 then
        f_Text_add_45   S
      else
        (zs_gr S a0 0 0).bind fun x11 =>
        (zs_gi S a0 0 1).bind fun x13 =>
        (x11).bind fun a15 =>
        (zs_las S a15 0 x13 v1).bind fun S17 =>
        (zs_gi S17 a0 0 1).bind fun x19 =>
        (zs_p S17 a0 0 1 (.int (x19 + (1 : Int32)))).bind fun S21 =>
        f_Text_add_45   S21
set_option maxHeartbeats 4000000 in
set_option maxRecDepth 100000 in
theorem r_Text_add_45 {l : Launch} (hl : l.stackTraces = false) {G : zq_G} {S0 T : zq_S} {v : Unit} {X : zq_X} (Z : Z_Text_add l G S0 T v X)  {S : zq_S} (hf : f_Text_add_45   S = some (T, v)) : zq_W (Y_Text_add l G S0 T v) X 45 [] [] S 0 0 := by
  unfold f_Text_add_45 at hf
  exact zq_vret Z d_Text_add_45 (zs_1 hf) (zs_2 (fun _ => (.inl none : zq_R)) hf) ⟨(Nat.le_of_ble_eq_true rfl), (Nat.le_of_ble_eq_true rfl)⟩
set_option maxHeartbeats 4000000 in
set_option maxRecDepth 100000 in
theorem c_Text_add {l : Launch} (hl : l.stackTraces = false) {G : zq_G} {a0 : Nat} {v1 : Int64} {S0 T : zq_S} {v : Unit} (hf : f_Text_add a0 v1 S0 = some (T, v)) : zq_M l y_Text_add (.code y_Text_add b_Text_add 3 none) rm_Text_add G [.ref a0, .long v1] S0 ((.inl none : zq_R)) T := by
  refine zq_Mof (lo := [(0, .ref a0), (1, .long v1)]) hl (by decide) (Nat.le_of_ble_eq_true rfl) rfl (fun X Z => ?_)
  have Z : Z_Text_add l G S0 T v X := Z
  show zq_W (Y_Text_add l G S0 T v) X 0 [(0, .ref a0), (1, .long v1)] [] S0 0 0
  unfold f_Text_add at hf
  refine zq_lload_n Z d_Text_add_0 1 rfl ?_
  refine zq_lconst Z (0 : Int64) d_Text_add_1 (by decide) ?_
  refine zq_lcmp Z d_Text_add_2 ?_
  refine zq_if_eq Z 45 d_Text_add_3 (by decide) (fun q => ?_) (fun q => ?_)
  · replace hf := zs_T q hf
    refine zq_sub (lo' := []) [] rfl ?_
    exact r_Text_add_45 hl Z  hf
  · replace hf := zs_N q hf
    refine zq_aload_n Z d_Text_add_6 0 rfl ?_
    have hq := Option.bind_eq_some_iff.mp hf
    clear hf
    obtain ⟨x1, h2, hf⟩ := hq
    refine zr_geti Z cd_Text 1 d_Text_add_7 (by decide) m_5 h2 ?_
    refine zq_if_lt Z 45 d_Text_add_10 (by decide) (fun q => ?_) (fun q => ?_)
    · replace hf := zs_T q hf
      refine zq_sub (lo' := []) [] rfl ?_
      exact r_Text_add_45 hl Z  hf
    · replace hf := zs_N q hf
      refine zq_aload_n Z d_Text_add_13 0 rfl ?_
      have hq := Option.bind_eq_some_iff.mp hf
      clear hf
      obtain ⟨x3, h4, hf⟩ := hq
      refine zr_geti Z cd_Text 1 d_Text_add_14 (by decide) m_5 h4 ?_
      refine zq_aload_n Z d_Text_add_17 0 rfl ?_
      have hq := Option.bind_eq_some_iff.mp hf
      clear hf
      obtain ⟨x5, h6, hf⟩ := hq
      refine zr_getr Z cd_Text 0 d_Text_add_18 (by decide) m_4 h6 ?_
      have hq := Option.bind_eq_some_iff.mp hf
      clear hf
      obtain ⟨a7, h8, hf⟩ := hq
      subst h8
      have hq := Option.bind_eq_some_iff.mp hf
      clear hf
      obtain ⟨x9, h10, hf⟩ := hq
      refine zr_len Z 0 (fun _ => rfl) d_Text_add_21 h10 ?_
      refine zq_icmp_ge Z 45 d_Text_add_22 (by decide) (fun q => ?_) (fun q => ?_)
      · replace hf := zs_T q hf
        refine zq_sub (lo' := []) [] rfl ?_
        exact r_Text_add_45 hl Z  hf
      · replace hf := zs_N q hf
        refine zq_aload_n Z d_Text_add_25 0 rfl ?_
        have hq := Option.bind_eq_some_iff.mp hf
        clear hf
        obtain ⟨x11, h12, hf⟩ := hq
        refine zr_getr Z cd_Text 0 d_Text_add_26 (by decide) m_4 h12 ?_
        refine zq_aload_n Z d_Text_add_29 0 rfl ?_
        have hq := Option.bind_eq_some_iff.mp hf
        clear hf
        obtain ⟨x13, h14, hf⟩ := hq
        refine zr_geti Z cd_Text 1 d_Text_add_30 (by decide) m_5 h14 ?_
        refine zq_lload_n Z d_Text_add_33 1 rfl ?_
        have hq := Option.bind_eq_some_iff.mp hf
        clear hf
        obtain ⟨a15, h16, hf⟩ := hq
        subst h16
        have hq := Option.bind_eq_some_iff.mp hf
        clear hf
        obtain ⟨S17, h18, hf⟩ := hq
        refine zr_lastore Z 0 (fun _ => rfl) d_Text_add_34 h18 ?_
        refine zq_aload_n Z d_Text_add_35 0 rfl ?_
        refine zq_dup Z d_Text_add_36 rfl ?_
        have hq := Option.bind_eq_some_iff.mp hf
        clear hf
        obtain ⟨x19, h20, hf⟩ := hq
        refine zr_geti Z cd_Text 1 d_Text_add_37 (by decide) m_5 h20 ?_
        refine zq_iconst Z (1 : Int32) d_Text_add_40 (by decide) ?_
        refine zq_iadd Z d_Text_add_41 ?_
        have hq := Option.bind_eq_some_iff.mp hf
        clear hf
        obtain ⟨S21, h22, hf⟩ := hq
        refine zr_puti Z cd_Text 1 d_Text_add_42 (by decide) m_5 rfl (by decide +kernel) h22 ?_
        refine zq_sub (lo' := []) [] rfl ?_
        exact r_Text_add_45 hl Z  hf
theorem d_Text_addPart_0 : decode b_Text_addPart 0 = .ok (.iload_n 3, 1) := by decide +kernel
theorem d_Text_addPart_1 : decode b_Text_addPart 1 = .ok (.aload_n 1, 1) := by decide +kernel
theorem d_Text_addPart_2 : decode b_Text_addPart 2 = .ok (.getfield 9, 3) := by decide +kernel
theorem d_Text_addPart_5 : decode b_Text_addPart 5 = .ok (.arraylength, 1) := by decide +kernel
theorem d_Text_addPart_6 : decode b_Text_addPart 6 = .ok (.invokestatic 21, 3) := by decide +kernel
theorem d_Text_addPart_9 : decode b_Text_addPart 9 = .ok (.iload_n 2, 1) := by decide +kernel
theorem d_Text_addPart_10 : decode b_Text_addPart 10 = .ok (.isub, 1) := by decide +kernel
theorem d_Text_addPart_11 : decode b_Text_addPart 11 = .ok (.aload_n 0, 1) := by decide +kernel
theorem d_Text_addPart_12 : decode b_Text_addPart 12 = .ok (.getfield 9, 3) := by decide +kernel
theorem d_Text_addPart_15 : decode b_Text_addPart 15 = .ok (.arraylength, 1) := by decide +kernel
theorem d_Text_addPart_16 : decode b_Text_addPart 16 = .ok (.aload_n 0, 1) := by decide +kernel
theorem d_Text_addPart_17 : decode b_Text_addPart 17 = .ok (.getfield 15, 3) := by decide +kernel
theorem d_Text_addPart_20 : decode b_Text_addPart 20 = .ok (.isub, 1) := by decide +kernel
theorem d_Text_addPart_21 : decode b_Text_addPart 21 = .ok (.invokestatic 21, 3) := by decide +kernel
theorem d_Text_addPart_24 : decode b_Text_addPart 24 = .ok (.istore 4, 2) := by decide +kernel
theorem d_Text_addPart_26 : decode b_Text_addPart 26 = .ok (.iload_n 2, 1) := by decide +kernel
theorem d_Text_addPart_27 : decode b_Text_addPart 27 = .ok (.ifCond .lt 44, 3) := by decide +kernel
theorem d_Text_addPart_30 : decode b_Text_addPart 30 = .ok (.aload_n 0, 1) := by decide +kernel
theorem d_Text_addPart_31 : decode b_Text_addPart 31 = .ok (.getfield 15, 3) := by decide +kernel
theorem d_Text_addPart_34 : decode b_Text_addPart 34 = .ok (.ifCond .lt 37, 3) := by decide +kernel
theorem d_Text_addPart_37 : decode b_Text_addPart 37 = .ok (.iload 4, 2) := by decide +kernel
theorem d_Text_addPart_39 : decode b_Text_addPart 39 = .ok (.ifCond .le 32, 3) := by decide +kernel
theorem d_Text_addPart_42 : decode b_Text_addPart 42 = .ok (.aload_n 1, 1) := by decide +kernel
theorem d_Text_addPart_43 : decode b_Text_addPart 43 = .ok (.getfield 9, 3) := by decide +kernel
theorem d_Text_addPart_46 : decode b_Text_addPart 46 = .ok (.iload_n 2, 1) := by decide +kernel
theorem d_Text_addPart_47 : decode b_Text_addPart 47 = .ok (.aload_n 0, 1) := by decide +kernel
theorem d_Text_addPart_48 : decode b_Text_addPart 48 = .ok (.getfield 9, 3) := by decide +kernel
theorem d_Text_addPart_51 : decode b_Text_addPart 51 = .ok (.aload_n 0, 1) := by decide +kernel
theorem d_Text_addPart_52 : decode b_Text_addPart 52 = .ok (.getfield 15, 3) := by decide +kernel
theorem d_Text_addPart_55 : decode b_Text_addPart 55 = .ok (.iload 4, 2) := by decide +kernel
theorem d_Text_addPart_57 : decode b_Text_addPart 57 = .ok (.invokestatic 27, 3) := by decide +kernel
theorem d_Text_addPart_60 : decode b_Text_addPart 60 = .ok (.aload_n 0, 1) := by decide +kernel
theorem d_Text_addPart_61 : decode b_Text_addPart 61 = .ok (.dup, 1) := by decide +kernel
theorem d_Text_addPart_62 : decode b_Text_addPart 62 = .ok (.getfield 15, 3) := by decide +kernel
theorem d_Text_addPart_65 : decode b_Text_addPart 65 = .ok (.iload 4, 2) := by decide +kernel
theorem d_Text_addPart_67 : decode b_Text_addPart 67 = .ok (.iadd, 1) := by decide +kernel
theorem d_Text_addPart_68 : decode b_Text_addPart 68 = .ok (.putfield 15, 3) := by decide +kernel
theorem d_Text_addPart_71 : decode b_Text_addPart 71 = .ok (.return_, 1) := by decide +kernel
def f_Text_addPart_71   (S : zq_S) : Option (zq_S × Unit) :=
  some (S, ())
def f_Text_addPart (a0 : Nat) (v1 : Option Nat) (v2 : Int32) (v3 : Int32) (S : zq_S) : Option (zq_S × Unit) :=
  (v1).bind fun a1 =>
  (zs_gr S a1 0 0).bind fun x3 =>
  (x3).bind fun a5 =>
  (zs_len S a5 0).bind fun x7 =>
  (zs_gr S a0 0 0).bind fun x9 =>
  (x9).bind fun a11 =>
  (zs_len S a11 0).bind fun x13 =>
  (zs_gi S a0 0 1).bind fun x15 =>
  if v2 < 0 then
    f_Text_addPart_71   S
  else
    (zs_gi S a0 0 1).bind fun x17 =>
    if x17 < 0 then
      f_Text_addPart_71   S
    else
      if (if (x13 - x15) < ((if x7 < v3 then x7 else v3) - v2) then (x13 - x15) else ((if x7 < v3 then x7 else v3) - v2)) ≤ 0 then
        f_Text_addPart_71   S
      else
        (zs_gr S a1 0 0).bind fun x19 =>
        (zs_gr S a0 0 0).bind fun x21 =>
        (zs_gi S a0 0 1).bind fun x23 =>
        (x19).bind fun a25 =>
        (x21).bind fun a27 =>
        (zs_cpl S 0 a25 v2 a27 x23 (if (x13 - x15) < ((if x7 < v3 then x7 else v3) - v2) then (x13 - x15) else ((if x7 < v3 then x7 else v3) - v2))).bind fun S29 =>
        (zs_gi S29 a0 0 1).bind fun x31 =>
        (zs_p S29 a0 0 1 (.int (x31 + (if (x13 - x15) < ((if x7 < v3 then x7 else v3) - v2) then (x13 - x15) else ((if x7 < v3 then x7 else v3) - v2))))).bind fun S33 =>
        f_Text_addPart_71   S33
set_option maxHeartbeats 4000000 in
set_option maxRecDepth 100000 in
theorem r_Text_addPart_71 {l : Launch} (hl : l.stackTraces = false) {G : zq_G} {S0 T : zq_S} {v : Unit} {X : zq_X} (Z : Z_Text_addPart l G S0 T v X)  {S : zq_S} (hf : f_Text_addPart_71   S = some (T, v)) : zq_W (Y_Text_addPart l G S0 T v) X 71 [] [] S 0 0 := by
  unfold f_Text_addPart_71 at hf
  exact zq_vret Z d_Text_addPart_71 (zs_1 hf) (zs_2 (fun _ => (.inl none : zq_R)) hf) ⟨(Nat.le_of_ble_eq_true rfl), (Nat.le_of_ble_eq_true rfl)⟩
set_option maxHeartbeats 4000000 in
set_option maxRecDepth 100000 in
theorem c_Text_addPart {l : Launch} (hl : l.stackTraces = false) {G : zq_G} {a0 : Nat} {v1 : Option Nat} {v2 : Int32} {v3 : Int32} {S0 T : zq_S} {v : Unit} (hf : f_Text_addPart a0 v1 v2 v3 S0 = some (T, v)) : zq_M l y_Text_addPart (.code y_Text_addPart b_Text_addPart 5 none) rm_Text_addPart G [.ref a0, va_rf v1, .int v2, .int v3] S0 ((.inl none : zq_R)) T := by
  refine zq_Mof (lo := [(0, .ref a0), (1, va_rf v1), (2, .int v2), (3, .int v3)]) hl (by decide) (by cases v1 <;> exact (Nat.le_of_ble_eq_true rfl)) (by cases v1 <;> rfl) (fun X Z => ?_)
  have Z : Z_Text_addPart l G S0 T v X := Z
  show zq_W (Y_Text_addPart l G S0 T v) X 0 [(0, .ref a0), (1, va_rf v1), (2, .int v2), (3, .int v3)] [] S0 0 0
  unfold f_Text_addPart at hf
  refine zq_iload_n Z d_Text_addPart_0 3 rfl ?_
  refine zq_aload_nQ Z d_Text_addPart_1 1 rfl ?_
  have hq := Option.bind_eq_some_iff.mp hf
  clear hf
  obtain ⟨a1, h2, hf⟩ := hq
  subst h2
  have hq := Option.bind_eq_some_iff.mp hf
  clear hf
  obtain ⟨x3, h4, hf⟩ := hq
  refine zr_getr Z cd_Text 0 d_Text_addPart_2 (by decide) m_4 h4 ?_
  have hq := Option.bind_eq_some_iff.mp hf
  clear hf
  obtain ⟨a5, h6, hf⟩ := hq
  subst h6
  have hq := Option.bind_eq_some_iff.mp hf
  clear hf
  obtain ⟨x7, h8, hf⟩ := hq
  refine zr_len Z 0 (fun _ => rfl) d_Text_addPart_5 h8 ?_
  refine zq_mmin Z d_Text_addPart_6 m_6 m_7 m_8 m_9 (Nat.le_of_ble_eq_true rfl) (Nat.le_of_ble_eq_true rfl) ⟨(Nat.le_of_ble_eq_true rfl), (Nat.le_of_ble_eq_true rfl)⟩ ?_
  refine zq_iload_n Z d_Text_addPart_9 2 rfl ?_
  refine zq_isub Z d_Text_addPart_10 ?_
  refine zq_aload_n Z d_Text_addPart_11 0 rfl ?_
  have hq := Option.bind_eq_some_iff.mp hf
  clear hf
  obtain ⟨x9, h10, hf⟩ := hq
  refine zr_getr Z cd_Text 0 d_Text_addPart_12 (by decide) m_4 h10 ?_
  have hq := Option.bind_eq_some_iff.mp hf
  clear hf
  obtain ⟨a11, h12, hf⟩ := hq
  subst h12
  have hq := Option.bind_eq_some_iff.mp hf
  clear hf
  obtain ⟨x13, h14, hf⟩ := hq
  refine zr_len Z 0 (fun _ => rfl) d_Text_addPart_15 h14 ?_
  refine zq_aload_n Z d_Text_addPart_16 0 rfl ?_
  have hq := Option.bind_eq_some_iff.mp hf
  clear hf
  obtain ⟨x15, h16, hf⟩ := hq
  refine zr_geti Z cd_Text 1 d_Text_addPart_17 (by decide) m_5 h16 ?_
  refine zq_isub Z d_Text_addPart_20 ?_
  refine zq_mmin Z d_Text_addPart_21 m_6 m_7 m_8 m_9 (Nat.le_of_ble_eq_true rfl) (Nat.le_of_ble_eq_true rfl) ⟨(Nat.le_of_ble_eq_true rfl), (Nat.le_of_ble_eq_true rfl)⟩ ?_
  refine zq_istore Z [(4, .int (if (x13 - x15) < ((if x7 < v3 then x7 else v3) - v2) then (x13 - x15) else ((if x7 < v3 then x7 else v3) - v2))), (0, .ref a0), (1, .ref a1), (2, .int v2), (3, .int v3)] d_Text_addPart_24 (by decide) rfl ?_
  refine zq_iload_n Z d_Text_addPart_26 3 rfl ?_
  refine zq_if_lt Z 71 d_Text_addPart_27 (by decide) (fun q => ?_) (fun q => ?_)
  · replace hf := zs_T q hf
    refine zq_sub (lo' := []) [] rfl ?_
    exact r_Text_addPart_71 hl Z  hf
  · replace hf := zs_N q hf
    refine zq_aload_n Z d_Text_addPart_30 1 rfl ?_
    have hq := Option.bind_eq_some_iff.mp hf
    clear hf
    obtain ⟨x17, h18, hf⟩ := hq
    refine zr_geti Z cd_Text 1 d_Text_addPart_31 (by decide) m_5 h18 ?_
    refine zq_if_lt Z 71 d_Text_addPart_34 (by decide) (fun q => ?_) (fun q => ?_)
    · replace hf := zs_T q hf
      refine zq_sub (lo' := []) [] rfl ?_
      exact r_Text_addPart_71 hl Z  hf
    · replace hf := zs_N q hf
      refine zq_iload Z d_Text_addPart_37 0 rfl ?_
      refine zq_if_le Z 71 d_Text_addPart_39 (by decide) (fun q => ?_) (fun q => ?_)
      · replace hf := zs_T q hf
        refine zq_sub (lo' := []) [] rfl ?_
        exact r_Text_addPart_71 hl Z  hf
      · replace hf := zs_N q hf
        refine zq_aload_n Z d_Text_addPart_42 2 rfl ?_
        have hq := Option.bind_eq_some_iff.mp hf
        clear hf
        obtain ⟨x19, h20, hf⟩ := hq
        refine zr_getr Z cd_Text 0 d_Text_addPart_43 (by decide) m_4 h20 ?_
        refine zq_iload_n Z d_Text_addPart_46 3 rfl ?_
        refine zq_aload_n Z d_Text_addPart_47 1 rfl ?_
        have hq := Option.bind_eq_some_iff.mp hf
        clear hf
        obtain ⟨x21, h22, hf⟩ := hq
        refine zr_getr Z cd_Text 0 d_Text_addPart_48 (by decide) m_4 h22 ?_
        refine zq_aload_n Z d_Text_addPart_51 1 rfl ?_
        have hq := Option.bind_eq_some_iff.mp hf
        clear hf
        obtain ⟨x23, h24, hf⟩ := hq
        refine zr_geti Z cd_Text 1 d_Text_addPart_52 (by decide) m_5 h24 ?_
        refine zq_iload Z d_Text_addPart_55 0 rfl ?_
        have hq := Option.bind_eq_some_iff.mp hf
        clear hf
        obtain ⟨a25, h26, hf⟩ := hq
        subst h26
        have hq := Option.bind_eq_some_iff.mp hf
        clear hf
        obtain ⟨a27, h28, hf⟩ := hq
        subst h28
        have hq := Option.bind_eq_some_iff.mp hf
        clear hf
        obtain ⟨S29, h30, hf⟩ := hq
        refine zr_copyl Z 0 (fun _ => rfl) d_Text_addPart_57 m_10 m_11 m_12 m_13 h30 (Nat.le_of_ble_eq_true rfl) (Nat.le_of_ble_eq_true rfl) ?_
        refine zq_aload_n Z d_Text_addPart_60 1 rfl ?_
        refine zq_dup Z d_Text_addPart_61 rfl ?_
        have hq := Option.bind_eq_some_iff.mp hf
        clear hf
        obtain ⟨x31, h32, hf⟩ := hq
        refine zr_geti Z cd_Text 1 d_Text_addPart_62 (by decide) m_5 h32 ?_
        refine zq_iload Z d_Text_addPart_65 0 rfl ?_
        refine zq_iadd Z d_Text_addPart_67 ?_
        have hq := Option.bind_eq_some_iff.mp hf
        clear hf
        obtain ⟨S33, h34, hf⟩ := hq
        refine zr_puti Z cd_Text 1 d_Text_addPart_68 (by decide) m_5 rfl (by decide +kernel) h34 ?_
        refine zq_sub (lo' := []) [] rfl ?_
        exact r_Text_addPart_71 hl Z  hf
theorem d_Text_weightOfChangeTo_0 : decode b_Text_weightOfChangeTo 0 = .ok (.aload_n 0, 1) := by decide +kernel
theorem d_Text_weightOfChangeTo_1 : decode b_Text_weightOfChangeTo 1 = .ok (.getfield 15, 3) := by decide +kernel
theorem d_Text_weightOfChangeTo_4 : decode b_Text_weightOfChangeTo 4 = .ok (.aload_n 1, 1) := by decide +kernel
theorem d_Text_weightOfChangeTo_5 : decode b_Text_weightOfChangeTo 5 = .ok (.getfield 15, 3) := by decide +kernel
theorem d_Text_weightOfChangeTo_8 : decode b_Text_weightOfChangeTo 8 = .ok (.invokestatic 21, 3) := by decide +kernel
theorem d_Text_weightOfChangeTo_11 : decode b_Text_weightOfChangeTo 11 = .ok (.istore_n 2, 1) := by decide +kernel
theorem d_Text_weightOfChangeTo_12 : decode b_Text_weightOfChangeTo 12 = .ok (.iconst 0, 1) := by decide +kernel
theorem d_Text_weightOfChangeTo_13 : decode b_Text_weightOfChangeTo 13 = .ok (.istore_n 3, 1) := by decide +kernel
theorem d_Text_weightOfChangeTo_14 : decode b_Text_weightOfChangeTo 14 = .ok (.iload_n 3, 1) := by decide +kernel
theorem d_Text_weightOfChangeTo_15 : decode b_Text_weightOfChangeTo 15 = .ok (.iload_n 2, 1) := by decide +kernel
theorem d_Text_weightOfChangeTo_16 : decode b_Text_weightOfChangeTo 16 = .ok (.if_icmp .ge 23, 3) := by decide +kernel
theorem d_Text_weightOfChangeTo_19 : decode b_Text_weightOfChangeTo 19 = .ok (.aload_n 0, 1) := by decide +kernel
theorem d_Text_weightOfChangeTo_20 : decode b_Text_weightOfChangeTo 20 = .ok (.iload_n 3, 1) := by decide +kernel
theorem d_Text_weightOfChangeTo_21 : decode b_Text_weightOfChangeTo 21 = .ok (.invokevirtual 33, 3) := by decide +kernel
theorem d_Text_weightOfChangeTo_24 : decode b_Text_weightOfChangeTo 24 = .ok (.aload_n 1, 1) := by decide +kernel
theorem d_Text_weightOfChangeTo_25 : decode b_Text_weightOfChangeTo 25 = .ok (.iload_n 3, 1) := by decide +kernel
theorem d_Text_weightOfChangeTo_26 : decode b_Text_weightOfChangeTo 26 = .ok (.invokevirtual 33, 3) := by decide +kernel
theorem d_Text_weightOfChangeTo_29 : decode b_Text_weightOfChangeTo 29 = .ok (.lcmp, 1) := by decide +kernel
theorem d_Text_weightOfChangeTo_30 : decode b_Text_weightOfChangeTo 30 = .ok (.ifCond .ne 9, 3) := by decide +kernel
theorem d_Text_weightOfChangeTo_33 : decode b_Text_weightOfChangeTo 33 = .ok (.iinc 3 1, 3) := by decide +kernel
theorem d_Text_weightOfChangeTo_36 : decode b_Text_weightOfChangeTo 36 = .ok (.goto (-22), 3) := by decide +kernel
theorem d_Text_weightOfChangeTo_39 : decode b_Text_weightOfChangeTo 39 = .ok (.iconst 0, 1) := by decide +kernel
theorem d_Text_weightOfChangeTo_40 : decode b_Text_weightOfChangeTo 40 = .ok (.istore 4, 2) := by decide +kernel
theorem d_Text_weightOfChangeTo_42 : decode b_Text_weightOfChangeTo 42 = .ok (.iload 4, 2) := by decide +kernel
theorem d_Text_weightOfChangeTo_44 : decode b_Text_weightOfChangeTo 44 = .ok (.iload_n 2, 1) := by decide +kernel
theorem d_Text_weightOfChangeTo_45 : decode b_Text_weightOfChangeTo 45 = .ok (.iload_n 3, 1) := by decide +kernel
theorem d_Text_weightOfChangeTo_46 : decode b_Text_weightOfChangeTo 46 = .ok (.isub, 1) := by decide +kernel
theorem d_Text_weightOfChangeTo_47 : decode b_Text_weightOfChangeTo 47 = .ok (.if_icmp .ge 39, 3) := by decide +kernel
theorem d_Text_weightOfChangeTo_50 : decode b_Text_weightOfChangeTo 50 = .ok (.aload_n 0, 1) := by decide +kernel
theorem d_Text_weightOfChangeTo_51 : decode b_Text_weightOfChangeTo 51 = .ok (.aload_n 0, 1) := by decide +kernel
theorem d_Text_weightOfChangeTo_52 : decode b_Text_weightOfChangeTo 52 = .ok (.getfield 15, 3) := by decide +kernel
theorem d_Text_weightOfChangeTo_55 : decode b_Text_weightOfChangeTo 55 = .ok (.iconst 1, 1) := by decide +kernel
theorem d_Text_weightOfChangeTo_56 : decode b_Text_weightOfChangeTo 56 = .ok (.isub, 1) := by decide +kernel
theorem d_Text_weightOfChangeTo_57 : decode b_Text_weightOfChangeTo 57 = .ok (.iload 4, 2) := by decide +kernel
theorem d_Text_weightOfChangeTo_59 : decode b_Text_weightOfChangeTo 59 = .ok (.isub, 1) := by decide +kernel
theorem d_Text_weightOfChangeTo_60 : decode b_Text_weightOfChangeTo 60 = .ok (.invokevirtual 33, 3) := by decide +kernel
theorem d_Text_weightOfChangeTo_63 : decode b_Text_weightOfChangeTo 63 = .ok (.aload_n 1, 1) := by decide +kernel
theorem d_Text_weightOfChangeTo_64 : decode b_Text_weightOfChangeTo 64 = .ok (.aload_n 1, 1) := by decide +kernel
theorem d_Text_weightOfChangeTo_65 : decode b_Text_weightOfChangeTo 65 = .ok (.getfield 15, 3) := by decide +kernel
theorem d_Text_weightOfChangeTo_68 : decode b_Text_weightOfChangeTo 68 = .ok (.iconst 1, 1) := by decide +kernel
theorem d_Text_weightOfChangeTo_69 : decode b_Text_weightOfChangeTo 69 = .ok (.isub, 1) := by decide +kernel
theorem d_Text_weightOfChangeTo_70 : decode b_Text_weightOfChangeTo 70 = .ok (.iload 4, 2) := by decide +kernel
theorem d_Text_weightOfChangeTo_72 : decode b_Text_weightOfChangeTo 72 = .ok (.isub, 1) := by decide +kernel
theorem d_Text_weightOfChangeTo_73 : decode b_Text_weightOfChangeTo 73 = .ok (.invokevirtual 33, 3) := by decide +kernel
theorem d_Text_weightOfChangeTo_76 : decode b_Text_weightOfChangeTo 76 = .ok (.lcmp, 1) := by decide +kernel
theorem d_Text_weightOfChangeTo_77 : decode b_Text_weightOfChangeTo 77 = .ok (.ifCond .ne 9, 3) := by decide +kernel
theorem d_Text_weightOfChangeTo_80 : decode b_Text_weightOfChangeTo 80 = .ok (.iinc 4 1, 3) := by decide +kernel
theorem d_Text_weightOfChangeTo_83 : decode b_Text_weightOfChangeTo 83 = .ok (.goto (-41), 3) := by decide +kernel
theorem d_Text_weightOfChangeTo_86 : decode b_Text_weightOfChangeTo 86 = .ok (.aload_n 0, 1) := by decide +kernel
theorem d_Text_weightOfChangeTo_87 : decode b_Text_weightOfChangeTo 87 = .ok (.getfield 15, 3) := by decide +kernel
theorem d_Text_weightOfChangeTo_90 : decode b_Text_weightOfChangeTo 90 = .ok (.aload_n 1, 1) := by decide +kernel
theorem d_Text_weightOfChangeTo_91 : decode b_Text_weightOfChangeTo 91 = .ok (.getfield 15, 3) := by decide +kernel
theorem d_Text_weightOfChangeTo_94 : decode b_Text_weightOfChangeTo 94 = .ok (.iadd, 1) := by decide +kernel
theorem d_Text_weightOfChangeTo_95 : decode b_Text_weightOfChangeTo 95 = .ok (.iconst 2, 1) := by decide +kernel
theorem d_Text_weightOfChangeTo_96 : decode b_Text_weightOfChangeTo 96 = .ok (.iload_n 3, 1) := by decide +kernel
theorem d_Text_weightOfChangeTo_97 : decode b_Text_weightOfChangeTo 97 = .ok (.iload 4, 2) := by decide +kernel
theorem d_Text_weightOfChangeTo_99 : decode b_Text_weightOfChangeTo 99 = .ok (.iadd, 1) := by decide +kernel
theorem d_Text_weightOfChangeTo_100 : decode b_Text_weightOfChangeTo 100 = .ok (.imul, 1) := by decide +kernel
theorem d_Text_weightOfChangeTo_101 : decode b_Text_weightOfChangeTo 101 = .ok (.isub, 1) := by decide +kernel
theorem d_Text_weightOfChangeTo_102 : decode b_Text_weightOfChangeTo 102 = .ok (.ireturn, 1) := by decide +kernel
def f_Text_weightOfChangeTo_86  (a0 : Nat) (v1 : Option Nat) (v3 : Int32) (v4 : Int32) (S : zq_S) : Option (zq_S × Int32) :=
  (zs_gi S a0 0 1).bind fun x1 =>
  (v1).bind fun a3 =>
  (zs_gi S a3 0 1).bind fun x5 =>
  some (S, ((x1 + x5) - ((2 : Int32) * (v3 + v4))))
def f_Text_weightOfChangeTo_42 (k42 : Nat → Option Nat → Int32 → Int32 → Int32 → zq_S → Option (zq_S × Int32)) (a0 : Nat) (v1 : Option Nat) (v2 : Int32) (v3 : Int32) (v4 : Int32) (S : zq_S) : Option (zq_S × Int32) :=
  if (v2 - v3) ≤ v4 then
    f_Text_weightOfChangeTo_86  a0 v1 v3 v4 S
  else
    (zs_gi S a0 0 1).bind fun x1 =>
    if zs_is S a0 0 = true then
    zs_b (f_Text_at a0 ((x1 - (1 : Int32)) - v4) S) fun S4 x5 =>
    (v1).bind fun a9 =>
    (zs_gi S4 a9 0 1).bind fun x11 =>
    if zs_is S4 a9 0 = true then
    zs_b (f_Text_at a9 ((x11 - (1 : Int32)) - v4) S4) fun S14 x15 =>
    if (lg_cmp x5 x15) = 0 then
      k42 a0 (some a9) v2 v3 (v4 + (1 : Int32)) S14
    else
      f_Text_weightOfChangeTo_86  a0 (some a9) v3 v4 S14
    else none
    else none
def g_Text_weightOfChangeTo_42  : Nat → Nat → Option Nat → Int32 → Int32 → Int32 → zq_S → Option (zq_S × Int32)
  | 0 => fun _ _ _ _ _ _ => none
  | n + 1 => fun a0 v1 v2 v3 v4 S => f_Text_weightOfChangeTo_42  (g_Text_weightOfChangeTo_42  n) a0 v1 v2 v3 v4 S
def f_Text_weightOfChangeTo_39  (a0 : Nat) (v1 : Option Nat) (v2 : Int32) (v3 : Int32) (S : zq_S) : Option (zq_S × Int32) :=
  g_Text_weightOfChangeTo_42  zq_F a0 v1 v2 v3 (0 : Int32) S
def f_Text_weightOfChangeTo_14 (k14 : Nat → Option Nat → Int32 → Int32 → zq_S → Option (zq_S × Int32)) (a0 : Nat) (v1 : Option Nat) (v2 : Int32) (v3 : Int32) (S : zq_S) : Option (zq_S × Int32) :=
  if v2 ≤ v3 then
    f_Text_weightOfChangeTo_39  a0 v1 v2 v3 S
  else
    if zs_is S a0 0 = true then
    zs_b (f_Text_at a0 v3 S) fun S2 x3 =>
    (v1).bind fun a7 =>
    if zs_is S2 a7 0 = true then
    zs_b (f_Text_at a7 v3 S2) fun S10 x11 =>
    if (lg_cmp x3 x11) = 0 then
      k14 a0 (some a7) v2 (v3 + (1 : Int32)) S10
    else
      f_Text_weightOfChangeTo_39  a0 (some a7) v2 v3 S10
    else none
    else none
def g_Text_weightOfChangeTo_14  : Nat → Nat → Option Nat → Int32 → Int32 → zq_S → Option (zq_S × Int32)
  | 0 => fun _ _ _ _ _ => none
  | n + 1 => fun a0 v1 v2 v3 S => f_Text_weightOfChangeTo_14  (g_Text_weightOfChangeTo_14  n) a0 v1 v2 v3 S
def f_Text_weightOfChangeTo (a0 : Nat) (v1 : Option Nat) (S : zq_S) : Option (zq_S × Int32) :=
  (zs_gi S a0 0 1).bind fun x1 =>
  (v1).bind fun a3 =>
  (zs_gi S a3 0 1).bind fun x5 =>
  g_Text_weightOfChangeTo_14  zq_F a0 (some a3) (if x5 < x1 then x5 else x1) (0 : Int32) S
set_option maxHeartbeats 4000000 in
set_option maxRecDepth 100000 in
theorem r_Text_weightOfChangeTo_86 {l : Launch} (hl : l.stackTraces = false) {G : zq_G} {S0 T : zq_S} {v : Int32} {X : zq_X} (Z : Z_Text_weightOfChangeTo l G S0 T v X) {a0 : Nat} {v1 : Option Nat} {v3 : Int32} {v4 : Int32} {S : zq_S} (hf : f_Text_weightOfChangeTo_86  a0 v1 v3 v4 S = some (T, v)) : zq_W (Y_Text_weightOfChangeTo l G S0 T v) X 86 [(0, .ref a0), (1, va_rf v1), (3, .int v3), (4, .int v4)] [] S 0 0 := by
  unfold f_Text_weightOfChangeTo_86 at hf
  refine zq_aload_n Z d_Text_weightOfChangeTo_86 0 rfl ?_
  have hq := Option.bind_eq_some_iff.mp hf
  clear hf
  obtain ⟨x1, h2, hf⟩ := hq
  refine zr_geti Z cd_Text 1 d_Text_weightOfChangeTo_87 (by decide) m_5 h2 ?_
  refine zq_aload_nQ Z d_Text_weightOfChangeTo_90 1 rfl ?_
  have hq := Option.bind_eq_some_iff.mp hf
  clear hf
  obtain ⟨a3, h4, hf⟩ := hq
  subst h4
  have hq := Option.bind_eq_some_iff.mp hf
  clear hf
  obtain ⟨x5, h6, hf⟩ := hq
  refine zr_geti Z cd_Text 1 d_Text_weightOfChangeTo_91 (by decide) m_5 h6 ?_
  refine zq_iadd Z d_Text_weightOfChangeTo_94 ?_
  refine zq_iconst Z (2 : Int32) d_Text_weightOfChangeTo_95 (by decide) ?_
  refine zq_iload_n Z d_Text_weightOfChangeTo_96 2 rfl ?_
  refine zq_iload Z d_Text_weightOfChangeTo_97 3 rfl ?_
  refine zq_iadd Z d_Text_weightOfChangeTo_99 ?_
  refine zq_imul Z d_Text_weightOfChangeTo_100 ?_
  refine zq_isub Z d_Text_weightOfChangeTo_101 ?_
  exact zq_iret Z d_Text_weightOfChangeTo_102 (zs_1 hf) (zs_2 (fun z => (.inl (some (.int z)) : zq_R)) hf) ⟨(Nat.le_of_ble_eq_true rfl), (Nat.le_of_ble_eq_true rfl)⟩
set_option maxHeartbeats 4000000 in
set_option maxRecDepth 100000 in
theorem r_Text_weightOfChangeTo_42 {l : Launch} (hl : l.stackTraces = false) {G : zq_G} {S0 T : zq_S} {v : Int32} {X : zq_X} (Z : Z_Text_weightOfChangeTo l G S0 T v X) {k42 : Nat → Option Nat → Int32 → Int32 → Int32 → zq_S → Option (zq_S × Int32)} (hk42 : ∀ (a0 : Nat) (v1 : Option Nat) (v2 : Int32) (v3 : Int32) (v4 : Int32) (S : zq_S), k42 a0 v1 v2 v3 v4 S = some (T, v) → zq_W (Y_Text_weightOfChangeTo l G S0 T v) X 42 [(0, .ref a0), (1, va_rf v1), (2, .int v2), (3, .int v3), (4, .int v4)] [] S 0 0) {a0 : Nat} {v1 : Option Nat} {v2 : Int32} {v3 : Int32} {v4 : Int32} {S : zq_S} (hf : f_Text_weightOfChangeTo_42 k42 a0 v1 v2 v3 v4 S = some (T, v)) : zq_W (Y_Text_weightOfChangeTo l G S0 T v) X 42 [(0, .ref a0), (1, va_rf v1), (2, .int v2), (3, .int v3), (4, .int v4)] [] S 0 0 := by
  unfold f_Text_weightOfChangeTo_42 at hf
  refine zq_iload Z d_Text_weightOfChangeTo_42 4 rfl ?_
  refine zq_iload_n Z d_Text_weightOfChangeTo_44 2 rfl ?_
  refine zq_iload_n Z d_Text_weightOfChangeTo_45 3 rfl ?_
  refine zq_isub Z d_Text_weightOfChangeTo_46 ?_
  refine zq_icmp_ge Z 86 d_Text_weightOfChangeTo_47 (by decide) (fun q => ?_) (fun q => ?_)
  · replace hf := zs_T q hf
    refine zq_sub (lo' := [(0, .ref a0), (1, va_rf v1), (3, .int v3), (4, .int v4)]) [0, 1, 3, 4] rfl ?_
    exact r_Text_weightOfChangeTo_86 hl Z  hf
  · replace hf := zs_N q hf
    refine zq_aload_n Z d_Text_weightOfChangeTo_50 0 rfl ?_
    refine zq_aload_n Z d_Text_weightOfChangeTo_51 0 rfl ?_
    have hq := Option.bind_eq_some_iff.mp hf
    clear hf
    obtain ⟨x1, h2, hf⟩ := hq
    refine zr_geti Z cd_Text 1 d_Text_weightOfChangeTo_52 (by decide) m_5 h2 ?_
    refine zq_iconst Z (1 : Int32) d_Text_weightOfChangeTo_55 (by decide) ?_
    refine zq_isub Z d_Text_weightOfChangeTo_56 ?_
    refine zq_iload Z d_Text_weightOfChangeTo_57 4 rfl ?_
    refine zq_isub Z d_Text_weightOfChangeTo_59 ?_
    have hq := zs_C hf
    clear hf
    obtain ⟨h6, hf⟩ := hq
    obtain ⟨fs7, e8⟩ := zs_isS h6
    have hq := zs_bS hf
    clear hf
    obtain ⟨S4, x5, h3, hf⟩ := hq
    refine zq_contR (zq_stepV Z zq_cf1 (c_Text_at hl h3) 0 rfl e8 d_Text_weightOfChangeTo_60 m_14 m_16 m_17 m_15 m_18 p_Text_at ⟨(Nat.le_of_ble_eq_true rfl), (Nat.le_of_ble_eq_true rfl), (Nat.le_of_ble_eq_true rfl), (Nat.le_of_ble_eq_true rfl)⟩ rfl (Nat.le_of_ble_eq_true rfl)) Z.p ?_
    refine zq_aload_nQ Z d_Text_weightOfChangeTo_63 1 rfl ?_
    refine zq_aload_nQ Z d_Text_weightOfChangeTo_64 1 rfl ?_
    have hq := Option.bind_eq_some_iff.mp hf
    clear hf
    obtain ⟨a9, h10, hf⟩ := hq
    subst h10
    have hq := Option.bind_eq_some_iff.mp hf
    clear hf
    obtain ⟨x11, h12, hf⟩ := hq
    refine zr_geti Z cd_Text 1 d_Text_weightOfChangeTo_65 (by decide) m_5 h12 ?_
    refine zq_iconst Z (1 : Int32) d_Text_weightOfChangeTo_68 (by decide) ?_
    refine zq_isub Z d_Text_weightOfChangeTo_69 ?_
    refine zq_iload Z d_Text_weightOfChangeTo_70 4 rfl ?_
    refine zq_isub Z d_Text_weightOfChangeTo_72 ?_
    have hq := zs_C hf
    clear hf
    obtain ⟨h16, hf⟩ := hq
    obtain ⟨fs17, e18⟩ := zs_isS h16
    have hq := zs_bS hf
    clear hf
    obtain ⟨S14, x15, h13, hf⟩ := hq
    refine zq_contR (zq_stepV Z zq_cf1 (c_Text_at hl h13) 0 rfl e18 d_Text_weightOfChangeTo_73 m_14 m_16 m_17 m_15 m_18 p_Text_at ⟨(Nat.le_of_ble_eq_true rfl), (Nat.le_of_ble_eq_true rfl), (Nat.le_of_ble_eq_true rfl), (Nat.le_of_ble_eq_true rfl)⟩ rfl (Nat.le_of_ble_eq_true rfl)) Z.p ?_
    refine zq_lcmp Z d_Text_weightOfChangeTo_76 ?_
    refine zq_if_ne Z 86 d_Text_weightOfChangeTo_77 (by decide) (fun q => ?_) (fun q => ?_)
    · replace hf := zs_N q hf
      refine zq_sub (lo' := [(0, .ref a0), (1, va_rf (some a9)), (3, .int v3), (4, .int v4)]) [0, 1, 3, 4] rfl ?_
      exact r_Text_weightOfChangeTo_86 hl Z  hf
    · replace hf := zs_T q hf
      refine zq_iinc Z (v4 + (1 : Int32)) [(4, .int (v4 + (1 : Int32))), (0, .ref a0), (1, .ref a9), (2, .int v2), (3, .int v3)] d_Text_weightOfChangeTo_80 4 rfl rfl (by decide) rfl ?_
      refine zq_goto Z 42 d_Text_weightOfChangeTo_83 (by decide) ?_
      refine zq_sub (lo' := [(0, .ref a0), (1, va_rf (some a9)), (2, .int v2), (3, .int v3), (4, .int (v4 + (1 : Int32)))]) [1, 2, 3, 4, 0] rfl ?_
      exact hk42 _ _ _ _ _ _ hf
theorem w_Text_weightOfChangeTo_42 {l : Launch} (hl : l.stackTraces = false) {G : zq_G} {S0 T : zq_S} {v : Int32} {X : zq_X} (Z : Z_Text_weightOfChangeTo l G S0 T v X) : ∀ (n : Nat) (a0 : Nat) (v1 : Option Nat) (v2 : Int32) (v3 : Int32) (v4 : Int32) (S : zq_S), g_Text_weightOfChangeTo_42  n a0 v1 v2 v3 v4 S = some (T, v) → zq_W (Y_Text_weightOfChangeTo l G S0 T v) X 42 [(0, .ref a0), (1, va_rf v1), (2, .int v2), (3, .int v3), (4, .int v4)] [] S 0 0 := by
  intro n
  induction n with
  | zero => intro a0 v1 v2 v3 v4 S hf; cases hf
  | succ n ih =>
    intro a0 v1 v2 v3 v4 S hf
    have hf : f_Text_weightOfChangeTo_42  (g_Text_weightOfChangeTo_42  n) a0 v1 v2 v3 v4 S = some (T, v) := hf
    exact r_Text_weightOfChangeTo_42 hl Z  ih hf
set_option maxHeartbeats 4000000 in
set_option maxRecDepth 100000 in
theorem r_Text_weightOfChangeTo_39 {l : Launch} (hl : l.stackTraces = false) {G : zq_G} {S0 T : zq_S} {v : Int32} {X : zq_X} (Z : Z_Text_weightOfChangeTo l G S0 T v X) {a0 : Nat} {v1 : Option Nat} {v2 : Int32} {v3 : Int32} {S : zq_S} (hf : f_Text_weightOfChangeTo_39  a0 v1 v2 v3 S = some (T, v)) : zq_W (Y_Text_weightOfChangeTo l G S0 T v) X 39 [(0, .ref a0), (1, va_rf v1), (2, .int v2), (3, .int v3)] [] S 0 0 := by
  unfold f_Text_weightOfChangeTo_39 at hf
  refine zq_iconst Z (0 : Int32) d_Text_weightOfChangeTo_39 (by decide) ?_
  refine zq_istore Z [(4, .int (0 : Int32)), (0, .ref a0), (1, va_rf v1), (2, .int v2), (3, .int v3)] d_Text_weightOfChangeTo_40 (by decide) rfl ?_
  refine zq_sub (lo' := [(0, .ref a0), (1, va_rf v1), (2, .int v2), (3, .int v3), (4, .int (0 : Int32))]) [1, 2, 3, 4, 0] rfl ?_
  exact w_Text_weightOfChangeTo_42 hl Z  _ _ _ _ _ _ _ hf
set_option maxHeartbeats 4000000 in
set_option maxRecDepth 100000 in
theorem r_Text_weightOfChangeTo_14 {l : Launch} (hl : l.stackTraces = false) {G : zq_G} {S0 T : zq_S} {v : Int32} {X : zq_X} (Z : Z_Text_weightOfChangeTo l G S0 T v X) {k14 : Nat → Option Nat → Int32 → Int32 → zq_S → Option (zq_S × Int32)} (hk14 : ∀ (a0 : Nat) (v1 : Option Nat) (v2 : Int32) (v3 : Int32) (S : zq_S), k14 a0 v1 v2 v3 S = some (T, v) → zq_W (Y_Text_weightOfChangeTo l G S0 T v) X 14 [(0, .ref a0), (1, va_rf v1), (2, .int v2), (3, .int v3)] [] S 0 0) {a0 : Nat} {v1 : Option Nat} {v2 : Int32} {v3 : Int32} {S : zq_S} (hf : f_Text_weightOfChangeTo_14 k14 a0 v1 v2 v3 S = some (T, v)) : zq_W (Y_Text_weightOfChangeTo l G S0 T v) X 14 [(0, .ref a0), (1, va_rf v1), (2, .int v2), (3, .int v3)] [] S 0 0 := by
  unfold f_Text_weightOfChangeTo_14 at hf
  refine zq_iload_n Z d_Text_weightOfChangeTo_14 3 rfl ?_
  refine zq_iload_n Z d_Text_weightOfChangeTo_15 2 rfl ?_
  refine zq_icmp_ge Z 39 d_Text_weightOfChangeTo_16 (by decide) (fun q => ?_) (fun q => ?_)
  · replace hf := zs_T q hf
    refine zq_sub (lo' := [(0, .ref a0), (1, va_rf v1), (2, .int v2), (3, .int v3)]) [0, 1, 2, 3] rfl ?_
    exact r_Text_weightOfChangeTo_39 hl Z  hf
  · replace hf := zs_N q hf
    refine zq_aload_n Z d_Text_weightOfChangeTo_19 0 rfl ?_
    refine zq_iload_n Z d_Text_weightOfChangeTo_20 3 rfl ?_
    have hq := zs_C hf
    clear hf
    obtain ⟨h4, hf⟩ := hq
    obtain ⟨fs5, e6⟩ := zs_isS h4
    have hq := zs_bS hf
    clear hf
    obtain ⟨S2, x3, h1, hf⟩ := hq
    refine zq_contR (zq_stepV Z zq_cf1 (c_Text_at hl h1) 0 rfl e6 d_Text_weightOfChangeTo_21 m_14 m_16 m_17 m_15 m_18 p_Text_at ⟨(Nat.le_of_ble_eq_true rfl), (Nat.le_of_ble_eq_true rfl), (Nat.le_of_ble_eq_true rfl), (Nat.le_of_ble_eq_true rfl)⟩ rfl (Nat.le_of_ble_eq_true rfl)) Z.p ?_
    refine zq_aload_nQ Z d_Text_weightOfChangeTo_24 1 rfl ?_
    refine zq_iload_n Z d_Text_weightOfChangeTo_25 3 rfl ?_
    have hq := Option.bind_eq_some_iff.mp hf
    clear hf
    obtain ⟨a7, h8, hf⟩ := hq
    subst h8
    have hq := zs_C hf
    clear hf
    obtain ⟨h12, hf⟩ := hq
    obtain ⟨fs13, e14⟩ := zs_isS h12
    have hq := zs_bS hf
    clear hf
    obtain ⟨S10, x11, h9, hf⟩ := hq
    refine zq_contR (zq_stepV Z zq_cf1 (c_Text_at hl h9) 0 rfl e14 d_Text_weightOfChangeTo_26 m_14 m_16 m_17 m_15 m_18 p_Text_at ⟨(Nat.le_of_ble_eq_true rfl), (Nat.le_of_ble_eq_true rfl), (Nat.le_of_ble_eq_true rfl), (Nat.le_of_ble_eq_true rfl)⟩ rfl (Nat.le_of_ble_eq_true rfl)) Z.p ?_
    refine zq_lcmp Z d_Text_weightOfChangeTo_29 ?_
    refine zq_if_ne Z 39 d_Text_weightOfChangeTo_30 (by decide) (fun q => ?_) (fun q => ?_)
    · replace hf := zs_N q hf
      refine zq_sub (lo' := [(0, .ref a0), (1, va_rf (some a7)), (2, .int v2), (3, .int v3)]) [0, 1, 2, 3] rfl ?_
      exact r_Text_weightOfChangeTo_39 hl Z  hf
    · replace hf := zs_T q hf
      refine zq_iinc Z (v3 + (1 : Int32)) [(3, .int (v3 + (1 : Int32))), (0, .ref a0), (1, .ref a7), (2, .int v2)] d_Text_weightOfChangeTo_33 3 rfl rfl (by decide) rfl ?_
      refine zq_goto Z 14 d_Text_weightOfChangeTo_36 (by decide) ?_
      refine zq_sub (lo' := [(0, .ref a0), (1, va_rf (some a7)), (2, .int v2), (3, .int (v3 + (1 : Int32)))]) [1, 2, 3, 0] rfl ?_
      exact hk14 _ _ _ _ _ hf
theorem w_Text_weightOfChangeTo_14 {l : Launch} (hl : l.stackTraces = false) {G : zq_G} {S0 T : zq_S} {v : Int32} {X : zq_X} (Z : Z_Text_weightOfChangeTo l G S0 T v X) : ∀ (n : Nat) (a0 : Nat) (v1 : Option Nat) (v2 : Int32) (v3 : Int32) (S : zq_S), g_Text_weightOfChangeTo_14  n a0 v1 v2 v3 S = some (T, v) → zq_W (Y_Text_weightOfChangeTo l G S0 T v) X 14 [(0, .ref a0), (1, va_rf v1), (2, .int v2), (3, .int v3)] [] S 0 0 := by
  intro n
  induction n with
  | zero => intro a0 v1 v2 v3 S hf; cases hf
  | succ n ih =>
    intro a0 v1 v2 v3 S hf
    have hf : f_Text_weightOfChangeTo_14  (g_Text_weightOfChangeTo_14  n) a0 v1 v2 v3 S = some (T, v) := hf
    exact r_Text_weightOfChangeTo_14 hl Z  ih hf
set_option maxHeartbeats 4000000 in
set_option maxRecDepth 100000 in
theorem c_Text_weightOfChangeTo {l : Launch} (hl : l.stackTraces = false) {G : zq_G} {a0 : Nat} {v1 : Option Nat} {S0 T : zq_S} {v : Int32} (hf : f_Text_weightOfChangeTo a0 v1 S0 = some (T, v)) : zq_M l y_Text_weightOfChangeTo (.code y_Text_weightOfChangeTo b_Text_weightOfChangeTo 5 (some (.int))) rm_Text_weightOfChangeTo G [.ref a0, va_rf v1] S0 ((.inl (some (.int v)) : zq_R)) T := by
  refine zq_Mof (lo := [(0, .ref a0), (1, va_rf v1)]) hl (by decide) (by cases v1 <;> exact (Nat.le_of_ble_eq_true rfl)) (by cases v1 <;> rfl) (fun X Z => ?_)
  have Z : Z_Text_weightOfChangeTo l G S0 T v X := Z
  show zq_W (Y_Text_weightOfChangeTo l G S0 T v) X 0 [(0, .ref a0), (1, va_rf v1)] [] S0 0 0
  unfold f_Text_weightOfChangeTo at hf
  refine zq_aload_n Z d_Text_weightOfChangeTo_0 0 rfl ?_
  have hq := Option.bind_eq_some_iff.mp hf
  clear hf
  obtain ⟨x1, h2, hf⟩ := hq
  refine zr_geti Z cd_Text 1 d_Text_weightOfChangeTo_1 (by decide) m_5 h2 ?_
  refine zq_aload_nQ Z d_Text_weightOfChangeTo_4 1 rfl ?_
  have hq := Option.bind_eq_some_iff.mp hf
  clear hf
  obtain ⟨a3, h4, hf⟩ := hq
  subst h4
  have hq := Option.bind_eq_some_iff.mp hf
  clear hf
  obtain ⟨x5, h6, hf⟩ := hq
  refine zr_geti Z cd_Text 1 d_Text_weightOfChangeTo_5 (by decide) m_5 h6 ?_
  refine zq_mmin Z d_Text_weightOfChangeTo_8 m_6 m_7 m_8 m_9 (Nat.le_of_ble_eq_true rfl) (Nat.le_of_ble_eq_true rfl) ⟨(Nat.le_of_ble_eq_true rfl), (Nat.le_of_ble_eq_true rfl)⟩ ?_
  refine zq_istore_n Z rfl [(2, .int (if x5 < x1 then x5 else x1)), (0, .ref a0), (1, .ref a3)] d_Text_weightOfChangeTo_11 (by decide) rfl ?_
  refine zq_iconst Z (0 : Int32) d_Text_weightOfChangeTo_12 (by decide) ?_
  refine zq_istore_n Z rfl [(3, .int (0 : Int32)), (2, .int (if x5 < x1 then x5 else x1)), (0, .ref a0), (1, .ref a3)] d_Text_weightOfChangeTo_13 (by decide) rfl ?_
  refine zq_sub (lo' := [(0, .ref a0), (1, va_rf (some a3)), (2, .int (if x5 < x1 then x5 else x1)), (3, .int (0 : Int32))]) [2, 3, 1, 0] rfl ?_
  exact w_Text_weightOfChangeTo_14 hl Z  _ _ _ _ _ _ hf
