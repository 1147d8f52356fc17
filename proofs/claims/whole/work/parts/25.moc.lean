theorem d_Mo_keepWas_0 : decode b_Mo_keepWas 0 = .ok (.aload_n 0, 1) := by decide +kernel
theorem d_Mo_keepWas_1 : decode b_Mo_keepWas 1 = .ok (.aload_n 0, 1) := by decide +kernel
theorem d_Mo_keepWas_2 : decode b_Mo_keepWas 2 = .ok (.getfield 59, 3) := by decide +kernel
theorem d_Mo_keepWas_5 : decode b_Mo_keepWas 5 = .ok (.putfield 78, 3) := by decide +kernel
theorem d_Mo_keepWas_8 : decode b_Mo_keepWas 8 = .ok (.iconst 0, 1) := by decide +kernel
theorem d_Mo_keepWas_9 : decode b_Mo_keepWas 9 = .ok (.istore_n 1, 1) := by decide +kernel
theorem d_Mo_keepWas_10 : decode b_Mo_keepWas 10 = .ok (.iload_n 1, 1) := by decide +kernel
theorem d_Mo_keepWas_11 : decode b_Mo_keepWas 11 = .ok (.aload_n 0, 1) := by decide +kernel
theorem d_Mo_keepWas_12 : decode b_Mo_keepWas 12 = .ok (.getfield 59, 3) := by decide +kernel
theorem d_Mo_keepWas_15 : decode b_Mo_keepWas 15 = .ok (.if_icmp .ge 21, 3) := by decide +kernel
theorem d_Mo_keepWas_18 : decode b_Mo_keepWas 18 = .ok (.aload_n 0, 1) := by decide +kernel
theorem d_Mo_keepWas_19 : decode b_Mo_keepWas 19 = .ok (.getfield 13, 3) := by decide +kernel
theorem d_Mo_keepWas_22 : decode b_Mo_keepWas 22 = .ok (.iload_n 1, 1) := by decide +kernel
theorem d_Mo_keepWas_23 : decode b_Mo_keepWas 23 = .ok (.aload_n 0, 1) := by decide +kernel
theorem d_Mo_keepWas_24 : decode b_Mo_keepWas 24 = .ok (.getfield 7, 3) := by decide +kernel
theorem d_Mo_keepWas_27 : decode b_Mo_keepWas 27 = .ok (.iload_n 1, 1) := by decide +kernel
theorem d_Mo_keepWas_28 : decode b_Mo_keepWas 28 = .ok (.laload, 1) := by decide +kernel
theorem d_Mo_keepWas_29 : decode b_Mo_keepWas 29 = .ok (.lastore, 1) := by decide +kernel
theorem d_Mo_keepWas_30 : decode b_Mo_keepWas 30 = .ok (.iinc 1 1, 3) := by decide +kernel
theorem d_Mo_keepWas_33 : decode b_Mo_keepWas 33 = .ok (.goto (-23), 3) := by decide +kernel
theorem d_Mo_keepWas_36 : decode b_Mo_keepWas 36 = .ok (.return_, 1) := by decide +kernel
def f_Mo_keepWas_10 (k10 : Nat → Int32 → zq_S → Option (zq_S × Unit)) (a0 : Nat) (v1 : Int32) (S : zq_S) : Option (zq_S × Unit) :=
  (zs_gi S a0 4 3).bind fun x1 =>
  if x1 ≤ v1 then
    some (S, ())
  else
    (zs_gr S a0 4 6).bind fun x3 =>
    (zs_gr S a0 4 4).bind fun x5 =>
    (x5).bind fun a7 =>
    (zs_lal S a7 0 v1).bind fun x9 =>
    (x3).bind fun a11 =>
    (zs_las S a11 0 v1 x9).bind fun S13 =>
    k10 a0 (v1 + (1 : Int32)) S13
def g_Mo_keepWas_10  : Nat → Nat → Int32 → zq_S → Option (zq_S × Unit)
  | 0 => fun _ _ _ => none
  | n + 1 => fun a0 v1 S => f_Mo_keepWas_10  (g_Mo_keepWas_10  n) a0 v1 S
def f_Mo_keepWas (a0 : Nat) (S : zq_S) : Option (zq_S × Unit) :=
  (zs_gi S a0 4 3).bind fun x1 =>
  (zs_p S a0 4 5 (.int x1)).bind fun S3 =>
  g_Mo_keepWas_10  zq_F a0 (0 : Int32) S3
set_option maxHeartbeats 4000000 in
set_option maxRecDepth 100000 in
theorem r_Mo_keepWas_10 {l : Launch} (hl : l.stackTraces = false) {G : zq_G} {S0 T : zq_S} {v : Unit} {X : zq_X} (Z : Z_Mo_keepWas l G S0 T v X) {k10 : Nat → Int32 → zq_S → Option (zq_S × Unit)} (hk10 : ∀ (a0 : Nat) (v1 : Int32) (S : zq_S), k10 a0 v1 S = some (T, v) → zq_W (Y_Mo_keepWas l G S0 T v) X 10 [(0, .ref a0), (1, .int v1)] [] S 0 0) {a0 : Nat} {v1 : Int32} {S : zq_S} (hf : f_Mo_keepWas_10 k10 a0 v1 S = some (T, v)) : zq_W (Y_Mo_keepWas l G S0 T v) X 10 [(0, .ref a0), (1, .int v1)] [] S 0 0 := by
  unfold f_Mo_keepWas_10 at hf
  refine zq_iload_n Z d_Mo_keepWas_10 1 rfl ?_
  refine zq_aload_n Z d_Mo_keepWas_11 0 rfl ?_
  have hq := Option.bind_eq_some_iff.mp hf
  clear hf
  obtain ⟨x1, h2, hf⟩ := hq
  refine zr_geti Z cd_Mo 3 d_Mo_keepWas_12 (by decide) m_288 h2 ?_
  refine zq_icmp_ge Z 36 d_Mo_keepWas_15 (by decide) (fun q => ?_) (fun q => ?_)
  · replace hf := zs_T q hf
    exact zq_vret Z d_Mo_keepWas_36 (zs_1 hf) (zs_2 (fun _ => (.inl none : zq_R)) hf) ⟨(Nat.le_of_ble_eq_true rfl), (Nat.le_of_ble_eq_true rfl)⟩
  · replace hf := zs_N q hf
    refine zq_aload_n Z d_Mo_keepWas_18 0 rfl ?_
    have hq := Option.bind_eq_some_iff.mp hf
    clear hf
    obtain ⟨x3, h4, hf⟩ := hq
    refine zr_getr Z cd_Mo 6 d_Mo_keepWas_19 (by decide) m_271 h4 ?_
    refine zq_iload_n Z d_Mo_keepWas_22 1 rfl ?_
    refine zq_aload_n Z d_Mo_keepWas_23 0 rfl ?_
    have hq := Option.bind_eq_some_iff.mp hf
    clear hf
    obtain ⟨x5, h6, hf⟩ := hq
    refine zr_getr Z cd_Mo 4 d_Mo_keepWas_24 (by decide) m_270 h6 ?_
    refine zq_iload_n Z d_Mo_keepWas_27 1 rfl ?_
    have hq := Option.bind_eq_some_iff.mp hf
    clear hf
    obtain ⟨a7, h8, hf⟩ := hq
    subst h8
    have hq := Option.bind_eq_some_iff.mp hf
    clear hf
    obtain ⟨x9, h10, hf⟩ := hq
    refine zr_laload Z 0 (fun _ => rfl) d_Mo_keepWas_28 h10 ?_
    have hq := Option.bind_eq_some_iff.mp hf
    clear hf
    obtain ⟨a11, h12, hf⟩ := hq
    subst h12
    have hq := Option.bind_eq_some_iff.mp hf
    clear hf
    obtain ⟨S13, h14, hf⟩ := hq
    refine zr_lastore Z 0 (fun _ => rfl) d_Mo_keepWas_29 h14 ?_
    refine zq_iinc Z (v1 + (1 : Int32)) [(1, .int (v1 + (1 : Int32))), (0, .ref a0)] d_Mo_keepWas_30 1 rfl rfl (by decide) rfl ?_
    refine zq_goto Z 10 d_Mo_keepWas_33 (by decide) ?_
    refine zq_sub (lo' := [(0, .ref a0), (1, .int (v1 + (1 : Int32)))]) [1, 0] rfl ?_
    exact hk10 _ _ _ hf
theorem w_Mo_keepWas_10 {l : Launch} (hl : l.stackTraces = false) {G : zq_G} {S0 T : zq_S} {v : Unit} {X : zq_X} (Z : Z_Mo_keepWas l G S0 T v X) : ∀ (n : Nat) (a0 : Nat) (v1 : Int32) (S : zq_S), g_Mo_keepWas_10  n a0 v1 S = some (T, v) → zq_W (Y_Mo_keepWas l G S0 T v) X 10 [(0, .ref a0), (1, .int v1)] [] S 0 0 := by
  intro n
  induction n with
  | zero => intro a0 v1 S hf; cases hf
  | succ n ih =>
    intro a0 v1 S hf
    have hf : f_Mo_keepWas_10  (g_Mo_keepWas_10  n) a0 v1 S = some (T, v) := hf
    exact r_Mo_keepWas_10 hl Z  ih hf
set_option maxHeartbeats 4000000 in
set_option maxRecDepth 100000 in
theorem c_Mo_keepWas {l : Launch} (hl : l.stackTraces = false) {G : zq_G} {a0 : Nat} {S0 T : zq_S} {v : Unit} (hf : f_Mo_keepWas a0 S0 = some (T, v)) : zq_M l y_Mo_keepWas (.code y_Mo_keepWas b_Mo_keepWas 2 none) rm_Mo_keepWas G [.ref a0] S0 ((.inl none : zq_R)) T := by
  refine zq_Mof (lo := [(0, .ref a0)]) hl (by decide) (Nat.le_of_ble_eq_true rfl) rfl (fun X Z => ?_)
  have Z : Z_Mo_keepWas l G S0 T v X := Z
  show zq_W (Y_Mo_keepWas l G S0 T v) X 0 [(0, .ref a0)] [] S0 0 0
  unfold f_Mo_keepWas at hf
  refine zq_aload_n Z d_Mo_keepWas_0 0 rfl ?_
  refine zq_aload_n Z d_Mo_keepWas_1 0 rfl ?_
  have hq := Option.bind_eq_some_iff.mp hf
  clear hf
  obtain ⟨x1, h2, hf⟩ := hq
  refine zr_geti Z cd_Mo 3 d_Mo_keepWas_2 (by decide) m_288 h2 ?_
  have hq := Option.bind_eq_some_iff.mp hf
  clear hf
  obtain ⟨S3, h4, hf⟩ := hq
  refine zr_puti Z cd_Mo 5 d_Mo_keepWas_5 (by decide) m_306 rfl (by decide +kernel) h4 ?_
  refine zq_iconst Z (0 : Int32) d_Mo_keepWas_8 (by decide) ?_
  refine zq_istore_n Z rfl [(1, .int (0 : Int32)), (0, .ref a0)] d_Mo_keepWas_9 (by decide) rfl ?_
  refine zq_sub (lo' := [(0, .ref a0), (1, .int (0 : Int32))]) [1, 0] rfl ?_
  exact w_Mo_keepWas_10 hl Z  _ _ _ _ hf
theorem d_Mo_toBase_0 : decode b_Mo_toBase 0 = .ok (.aload_n 0, 1) := by decide +kernel
theorem d_Mo_toBase_1 : decode b_Mo_toBase 1 = .ok (.aload_n 0, 1) := by decide +kernel
theorem d_Mo_toBase_2 : decode b_Mo_toBase 2 = .ok (.getfield 59, 3) := by decide +kernel
theorem d_Mo_toBase_5 : decode b_Mo_toBase 5 = .ok (.putfield 81, 3) := by decide +kernel
theorem d_Mo_toBase_8 : decode b_Mo_toBase 8 = .ok (.iconst 0, 1) := by decide +kernel
theorem d_Mo_toBase_9 : decode b_Mo_toBase 9 = .ok (.istore_n 1, 1) := by decide +kernel
theorem d_Mo_toBase_10 : decode b_Mo_toBase 10 = .ok (.iload_n 1, 1) := by decide +kernel
theorem d_Mo_toBase_11 : decode b_Mo_toBase 11 = .ok (.aload_n 0, 1) := by decide +kernel
theorem d_Mo_toBase_12 : decode b_Mo_toBase 12 = .ok (.getfield 59, 3) := by decide +kernel
theorem d_Mo_toBase_15 : decode b_Mo_toBase 15 = .ok (.if_icmp .ge 21, 3) := by decide +kernel
theorem d_Mo_toBase_18 : decode b_Mo_toBase 18 = .ok (.aload_n 0, 1) := by decide +kernel
theorem d_Mo_toBase_19 : decode b_Mo_toBase 19 = .ok (.getfield 16, 3) := by decide +kernel
theorem d_Mo_toBase_22 : decode b_Mo_toBase 22 = .ok (.iload_n 1, 1) := by decide +kernel
theorem d_Mo_toBase_23 : decode b_Mo_toBase 23 = .ok (.aload_n 0, 1) := by decide +kernel
theorem d_Mo_toBase_24 : decode b_Mo_toBase 24 = .ok (.getfield 7, 3) := by decide +kernel
theorem d_Mo_toBase_27 : decode b_Mo_toBase 27 = .ok (.iload_n 1, 1) := by decide +kernel
theorem d_Mo_toBase_28 : decode b_Mo_toBase 28 = .ok (.laload, 1) := by decide +kernel
theorem d_Mo_toBase_29 : decode b_Mo_toBase 29 = .ok (.lastore, 1) := by decide +kernel
theorem d_Mo_toBase_30 : decode b_Mo_toBase 30 = .ok (.iinc 1 1, 3) := by decide +kernel
theorem d_Mo_toBase_33 : decode b_Mo_toBase 33 = .ok (.goto (-23), 3) := by decide +kernel
theorem d_Mo_toBase_36 : decode b_Mo_toBase 36 = .ok (.return_, 1) := by decide +kernel
def f_Mo_toBase_10 (k10 : Nat → Int32 → zq_S → Option (zq_S × Unit)) (a0 : Nat) (v1 : Int32) (S : zq_S) : Option (zq_S × Unit) :=
  (zs_gi S a0 4 3).bind fun x1 =>
  if x1 ≤ v1 then
    some (S, ())
  else
    (zs_gr S a0 4 8).bind fun x3 =>
    (zs_gr S a0 4 4).bind fun x5 =>
    (x5).bind fun a7 =>
    (zs_lal S a7 0 v1).bind fun x9 =>
    (x3).bind fun a11 =>
    (zs_las S a11 0 v1 x9).bind fun S13 =>
    k10 a0 (v1 + (1 : Int32)) S13
def g_Mo_toBase_10  : Nat → Nat → Int32 → zq_S → Option (zq_S × Unit)
  | 0 => fun _ _ _ => none
  | n + 1 => fun a0 v1 S => f_Mo_toBase_10  (g_Mo_toBase_10  n) a0 v1 S
def f_Mo_toBase (a0 : Nat) (S : zq_S) : Option (zq_S × Unit) :=
  (zs_gi S a0 4 3).bind fun x1 =>
  (zs_p S a0 4 7 (.int x1)).bind fun S3 =>
  g_Mo_toBase_10  zq_F a0 (0 : Int32) S3
set_option maxHeartbeats 4000000 in
set_option maxRecDepth 100000 in
theorem r_Mo_toBase_10 {l : Launch} (hl : l.stackTraces = false) {G : zq_G} {S0 T : zq_S} {v : Unit} {X : zq_X} (Z : Z_Mo_toBase l G S0 T v X) {k10 : Nat → Int32 → zq_S → Option (zq_S × Unit)} (hk10 : ∀ (a0 : Nat) (v1 : Int32) (S : zq_S), k10 a0 v1 S = some (T, v) → zq_W (Y_Mo_toBase l G S0 T v) X 10 [(0, .ref a0), (1, .int v1)] [] S 0 0) {a0 : Nat} {v1 : Int32} {S : zq_S} (hf : f_Mo_toBase_10 k10 a0 v1 S = some (T, v)) : zq_W (Y_Mo_toBase l G S0 T v) X 10 [(0, .ref a0), (1, .int v1)] [] S 0 0 := by
  unfold f_Mo_toBase_10 at hf
  refine zq_iload_n Z d_Mo_toBase_10 1 rfl ?_
  refine zq_aload_n Z d_Mo_toBase_11 0 rfl ?_
  have hq := Option.bind_eq_some_iff.mp hf
  clear hf
  obtain ⟨x1, h2, hf⟩ := hq
  refine zr_geti Z cd_Mo 3 d_Mo_toBase_12 (by decide) m_288 h2 ?_
  refine zq_icmp_ge Z 36 d_Mo_toBase_15 (by decide) (fun q => ?_) (fun q => ?_)
  · replace hf := zs_T q hf
    exact zq_vret Z d_Mo_toBase_36 (zs_1 hf) (zs_2 (fun _ => (.inl none : zq_R)) hf) ⟨(Nat.le_of_ble_eq_true rfl), (Nat.le_of_ble_eq_true rfl)⟩
  · replace hf := zs_N q hf
    refine zq_aload_n Z d_Mo_toBase_18 0 rfl ?_
    have hq := Option.bind_eq_some_iff.mp hf
    clear hf
    obtain ⟨x3, h4, hf⟩ := hq
    refine zr_getr Z cd_Mo 8 d_Mo_toBase_19 (by decide) m_272 h4 ?_
    refine zq_iload_n Z d_Mo_toBase_22 1 rfl ?_
    refine zq_aload_n Z d_Mo_toBase_23 0 rfl ?_
    have hq := Option.bind_eq_some_iff.mp hf
    clear hf
    obtain ⟨x5, h6, hf⟩ := hq
    refine zr_getr Z cd_Mo 4 d_Mo_toBase_24 (by decide) m_270 h6 ?_
    refine zq_iload_n Z d_Mo_toBase_27 1 rfl ?_
    have hq := Option.bind_eq_some_iff.mp hf
    clear hf
    obtain ⟨a7, h8, hf⟩ := hq
    subst h8
    have hq := Option.bind_eq_some_iff.mp hf
    clear hf
    obtain ⟨x9, h10, hf⟩ := hq
    refine zr_laload Z 0 (fun _ => rfl) d_Mo_toBase_28 h10 ?_
    have hq := Option.bind_eq_some_iff.mp hf
    clear hf
    obtain ⟨a11, h12, hf⟩ := hq
    subst h12
    have hq := Option.bind_eq_some_iff.mp hf
    clear hf
    obtain ⟨S13, h14, hf⟩ := hq
    refine zr_lastore Z 0 (fun _ => rfl) d_Mo_toBase_29 h14 ?_
    refine zq_iinc Z (v1 + (1 : Int32)) [(1, .int (v1 + (1 : Int32))), (0, .ref a0)] d_Mo_toBase_30 1 rfl rfl (by decide) rfl ?_
    refine zq_goto Z 10 d_Mo_toBase_33 (by decide) ?_
    refine zq_sub (lo' := [(0, .ref a0), (1, .int (v1 + (1 : Int32)))]) [1, 0] rfl ?_
    exact hk10 _ _ _ hf
theorem w_Mo_toBase_10 {l : Launch} (hl : l.stackTraces = false) {G : zq_G} {S0 T : zq_S} {v : Unit} {X : zq_X} (Z : Z_Mo_toBase l G S0 T v X) : ∀ (n : Nat) (a0 : Nat) (v1 : Int32) (S : zq_S), g_Mo_toBase_10  n a0 v1 S = some (T, v) → zq_W (Y_Mo_toBase l G S0 T v) X 10 [(0, .ref a0), (1, .int v1)] [] S 0 0 := by
  intro n
  induction n with
  | zero => intro a0 v1 S hf; cases hf
  | succ n ih =>
    intro a0 v1 S hf
    have hf : f_Mo_toBase_10  (g_Mo_toBase_10  n) a0 v1 S = some (T, v) := hf
    exact r_Mo_toBase_10 hl Z  ih hf
set_option maxHeartbeats 4000000 in
set_option maxRecDepth 100000 in
theorem c_Mo_toBase {l : Launch} (hl : l.stackTraces = false) {G : zq_G} {a0 : Nat} {S0 T : zq_S} {v : Unit} (hf : f_Mo_toBase a0 S0 = some (T, v)) : zq_M l y_Mo_toBase (.code y_Mo_toBase b_Mo_toBase 2 none) rm_Mo_toBase G [.ref a0] S0 ((.inl none : zq_R)) T := by
  refine zq_Mof (lo := [(0, .ref a0)]) hl (by decide) (Nat.le_of_ble_eq_true rfl) rfl (fun X Z => ?_)
  have Z : Z_Mo_toBase l G S0 T v X := Z
  show zq_W (Y_Mo_toBase l G S0 T v) X 0 [(0, .ref a0)] [] S0 0 0
  unfold f_Mo_toBase at hf
  refine zq_aload_n Z d_Mo_toBase_0 0 rfl ?_
  refine zq_aload_n Z d_Mo_toBase_1 0 rfl ?_
  have hq := Option.bind_eq_some_iff.mp hf
  clear hf
  obtain ⟨x1, h2, hf⟩ := hq
  refine zr_geti Z cd_Mo 3 d_Mo_toBase_2 (by decide) m_288 h2 ?_
  have hq := Option.bind_eq_some_iff.mp hf
  clear hf
  obtain ⟨S3, h4, hf⟩ := hq
  refine zr_puti Z cd_Mo 7 d_Mo_toBase_5 (by decide) m_307 rfl (by decide +kernel) h4 ?_
  refine zq_iconst Z (0 : Int32) d_Mo_toBase_8 (by decide) ?_
  refine zq_istore_n Z rfl [(1, .int (0 : Int32)), (0, .ref a0)] d_Mo_toBase_9 (by decide) rfl ?_
  refine zq_sub (lo' := [(0, .ref a0), (1, .int (0 : Int32))]) [1, 0] rfl ?_
  exact w_Mo_toBase_10 hl Z  _ _ _ _ hf
theorem d_Mo_fromBase_0 : decode b_Mo_fromBase 0 = .ok (.aload_n 0, 1) := by decide +kernel
theorem d_Mo_fromBase_1 : decode b_Mo_fromBase 1 = .ok (.aload_n 0, 1) := by decide +kernel
theorem d_Mo_fromBase_2 : decode b_Mo_fromBase 2 = .ok (.getfield 81, 3) := by decide +kernel
theorem d_Mo_fromBase_5 : decode b_Mo_fromBase 5 = .ok (.putfield 59, 3) := by decide +kernel
theorem d_Mo_fromBase_8 : decode b_Mo_fromBase 8 = .ok (.iconst 0, 1) := by decide +kernel
theorem d_Mo_fromBase_9 : decode b_Mo_fromBase 9 = .ok (.istore_n 1, 1) := by decide +kernel
theorem d_Mo_fromBase_10 : decode b_Mo_fromBase 10 = .ok (.iload_n 1, 1) := by decide +kernel
theorem d_Mo_fromBase_11 : decode b_Mo_fromBase 11 = .ok (.aload_n 0, 1) := by decide +kernel
theorem d_Mo_fromBase_12 : decode b_Mo_fromBase 12 = .ok (.getfield 59, 3) := by decide +kernel
theorem d_Mo_fromBase_15 : decode b_Mo_fromBase 15 = .ok (.if_icmp .ge 21, 3) := by decide +kernel
theorem d_Mo_fromBase_18 : decode b_Mo_fromBase 18 = .ok (.aload_n 0, 1) := by decide +kernel
theorem d_Mo_fromBase_19 : decode b_Mo_fromBase 19 = .ok (.getfield 7, 3) := by decide +kernel
theorem d_Mo_fromBase_22 : decode b_Mo_fromBase 22 = .ok (.iload_n 1, 1) := by decide +kernel
theorem d_Mo_fromBase_23 : decode b_Mo_fromBase 23 = .ok (.aload_n 0, 1) := by decide +kernel
theorem d_Mo_fromBase_24 : decode b_Mo_fromBase 24 = .ok (.getfield 16, 3) := by decide +kernel
theorem d_Mo_fromBase_27 : decode b_Mo_fromBase 27 = .ok (.iload_n 1, 1) := by decide +kernel
theorem d_Mo_fromBase_28 : decode b_Mo_fromBase 28 = .ok (.laload, 1) := by decide +kernel
theorem d_Mo_fromBase_29 : decode b_Mo_fromBase 29 = .ok (.lastore, 1) := by decide +kernel
theorem d_Mo_fromBase_30 : decode b_Mo_fromBase 30 = .ok (.iinc 1 1, 3) := by decide +kernel
theorem d_Mo_fromBase_33 : decode b_Mo_fromBase 33 = .ok (.goto (-23), 3) := by decide +kernel
theorem d_Mo_fromBase_36 : decode b_Mo_fromBase 36 = .ok (.return_, 1) := by decide +kernel
def f_Mo_fromBase_10 (k10 : Nat → Int32 → zq_S → Option (zq_S × Unit)) (a0 : Nat) (v1 : Int32) (S : zq_S) : Option (zq_S × Unit) :=
  (zs_gi S a0 4 3).bind fun x1 =>
  if x1 ≤ v1 then
    some (S, ())
  else
    (zs_gr S a0 4 4).bind fun x3 =>
    (zs_gr S a0 4 8).bind fun x5 =>
    (x5).bind fun a7 =>
    (zs_lal S a7 0 v1).bind fun x9 =>
    (x3).bind fun a11 =>
    (zs_las S a11 0 v1 x9).bind fun S13 =>
    k10 a0 (v1 + (1 : Int32)) S13
def g_Mo_fromBase_10  : Nat → Nat → Int32 → zq_S → Option (zq_S × Unit)
  | 0 => fun _ _ _ => none
  | n + 1 => fun a0 v1 S => f_Mo_fromBase_10  (g_Mo_fromBase_10  n) a0 v1 S
def f_Mo_fromBase (a0 : Nat) (S : zq_S) : Option (zq_S × Unit) :=
  (zs_gi S a0 4 7).bind fun x1 =>
  (zs_p S a0 4 3 (.int x1)).bind fun S3 =>
  g_Mo_fromBase_10  zq_F a0 (0 : Int32) S3
set_option maxHeartbeats 4000000 in
set_option maxRecDepth 100000 in
theorem r_Mo_fromBase_10 {l : Launch} (hl : l.stackTraces = false) {G : zq_G} {S0 T : zq_S} {v : Unit} {X : zq_X} (Z : Z_Mo_fromBase l G S0 T v X) {k10 : Nat → Int32 → zq_S → Option (zq_S × Unit)} (hk10 : ∀ (a0 : Nat) (v1 : Int32) (S : zq_S), k10 a0 v1 S = some (T, v) → zq_W (Y_Mo_fromBase l G S0 T v) X 10 [(0, .ref a0), (1, .int v1)] [] S 0 0) {a0 : Nat} {v1 : Int32} {S : zq_S} (hf : f_Mo_fromBase_10 k10 a0 v1 S = some (T, v)) : zq_W (Y_Mo_fromBase l G S0 T v) X 10 [(0, .ref a0), (1, .int v1)] [] S 0 0 := by
  unfold f_Mo_fromBase_10 at hf
  refine zq_iload_n Z d_Mo_fromBase_10 1 rfl ?_
  refine zq_aload_n Z d_Mo_fromBase_11 0 rfl ?_
  have hq := Option.bind_eq_some_iff.mp hf
  clear hf
  obtain ⟨x1, h2, hf⟩ := hq
  refine zr_geti Z cd_Mo 3 d_Mo_fromBase_12 (by decide) m_288 h2 ?_
  refine zq_icmp_ge Z 36 d_Mo_fromBase_15 (by decide) (fun q => ?_) (fun q => ?_)
  · replace hf := zs_T q hf
    exact zq_vret Z d_Mo_fromBase_36 (zs_1 hf) (zs_2 (fun _ => (.inl none : zq_R)) hf) ⟨(Nat.le_of_ble_eq_true rfl), (Nat.le_of_ble_eq_true rfl)⟩
  · replace hf := zs_N q hf
    refine zq_aload_n Z d_Mo_fromBase_18 0 rfl ?_
    have hq := Option.bind_eq_some_iff.mp hf
    clear hf
    obtain ⟨x3, h4, hf⟩ := hq
    refine zr_getr Z cd_Mo 4 d_Mo_fromBase_19 (by decide) m_270 h4 ?_
    refine zq_iload_n Z d_Mo_fromBase_22 1 rfl ?_
    refine zq_aload_n Z d_Mo_fromBase_23 0 rfl ?_
    have hq := Option.bind_eq_some_iff.mp hf
    clear hf
    obtain ⟨x5, h6, hf⟩ := hq
    refine zr_getr Z cd_Mo 8 d_Mo_fromBase_24 (by decide) m_272 h6 ?_
    refine zq_iload_n Z d_Mo_fromBase_27 1 rfl ?_
    have hq := Option.bind_eq_some_iff.mp hf
    clear hf
    obtain ⟨a7, h8, hf⟩ := hq
    subst h8
    have hq := Option.bind_eq_some_iff.mp hf
    clear hf
    obtain ⟨x9, h10, hf⟩ := hq
    refine zr_laload Z 0 (fun _ => rfl) d_Mo_fromBase_28 h10 ?_
    have hq := Option.bind_eq_some_iff.mp hf
    clear hf
    obtain ⟨a11, h12, hf⟩ := hq
    subst h12
    have hq := Option.bind_eq_some_iff.mp hf
    clear hf
    obtain ⟨S13, h14, hf⟩ := hq
    refine zr_lastore Z 0 (fun _ => rfl) d_Mo_fromBase_29 h14 ?_
    refine zq_iinc Z (v1 + (1 : Int32)) [(1, .int (v1 + (1 : Int32))), (0, .ref a0)] d_Mo_fromBase_30 1 rfl rfl (by decide) rfl ?_
    refine zq_goto Z 10 d_Mo_fromBase_33 (by decide) ?_
    refine zq_sub (lo' := [(0, .ref a0), (1, .int (v1 + (1 : Int32)))]) [1, 0] rfl ?_
    exact hk10 _ _ _ hf
theorem w_Mo_fromBase_10 {l : Launch} (hl : l.stackTraces = false) {G : zq_G} {S0 T : zq_S} {v : Unit} {X : zq_X} (Z : Z_Mo_fromBase l G S0 T v X) : ∀ (n : Nat) (a0 : Nat) (v1 : Int32) (S : zq_S), g_Mo_fromBase_10  n a0 v1 S = some (T, v) → zq_W (Y_Mo_fromBase l G S0 T v) X 10 [(0, .ref a0), (1, .int v1)] [] S 0 0 := by
  intro n
  induction n with
  | zero => intro a0 v1 S hf; cases hf
  | succ n ih =>
    intro a0 v1 S hf
    have hf : f_Mo_fromBase_10  (g_Mo_fromBase_10  n) a0 v1 S = some (T, v) := hf
    exact r_Mo_fromBase_10 hl Z  ih hf
set_option maxHeartbeats 4000000 in
set_option maxRecDepth 100000 in
theorem c_Mo_fromBase {l : Launch} (hl : l.stackTraces = false) {G : zq_G} {a0 : Nat} {S0 T : zq_S} {v : Unit} (hf : f_Mo_fromBase a0 S0 = some (T, v)) : zq_M l y_Mo_fromBase (.code y_Mo_fromBase b_Mo_fromBase 2 none) rm_Mo_fromBase G [.ref a0] S0 ((.inl none : zq_R)) T := by
  refine zq_Mof (lo := [(0, .ref a0)]) hl (by decide) (Nat.le_of_ble_eq_true rfl) rfl (fun X Z => ?_)
  have Z : Z_Mo_fromBase l G S0 T v X := Z
  show zq_W (Y_Mo_fromBase l G S0 T v) X 0 [(0, .ref a0)] [] S0 0 0
  unfold f_Mo_fromBase at hf
  refine zq_aload_n Z d_Mo_fromBase_0 0 rfl ?_
  refine zq_aload_n Z d_Mo_fromBase_1 0 rfl ?_
  have hq := Option.bind_eq_some_iff.mp hf
  clear hf
  obtain ⟨x1, h2, hf⟩ := hq
  refine zr_geti Z cd_Mo 7 d_Mo_fromBase_2 (by decide) m_307 h2 ?_
  have hq := Option.bind_eq_some_iff.mp hf
  clear hf
  obtain ⟨S3, h4, hf⟩ := hq
  refine zr_puti Z cd_Mo 3 d_Mo_fromBase_5 (by decide) m_288 rfl (by decide +kernel) h4 ?_
  refine zq_iconst Z (0 : Int32) d_Mo_fromBase_8 (by decide) ?_
  refine zq_istore_n Z rfl [(1, .int (0 : Int32)), (0, .ref a0)] d_Mo_fromBase_9 (by decide) rfl ?_
  refine zq_sub (lo' := [(0, .ref a0), (1, .int (0 : Int32))]) [1, 0] rfl ?_
  exact w_Mo_fromBase_10 hl Z  _ _ _ _ hf
theorem d_Mo_weight_0 : decode b_Mo_weight 0 = .ok (.aload_n 0, 1) := by decide +kernel
theorem d_Mo_weight_1 : decode b_Mo_weight 1 = .ok (.getfield 59, 3) := by decide +kernel
theorem d_Mo_weight_4 : decode b_Mo_weight 4 = .ok (.aload_n 0, 1) := by decide +kernel
theorem d_Mo_weight_5 : decode b_Mo_weight 5 = .ok (.getfield 78, 3) := by decide +kernel
theorem d_Mo_weight_8 : decode b_Mo_weight 8 = .ok (.if_icmp .ge 10, 3) := by decide +kernel
theorem d_Mo_weight_11 : decode b_Mo_weight 11 = .ok (.aload_n 0, 1) := by decide +kernel
theorem d_Mo_weight_12 : decode b_Mo_weight 12 = .ok (.getfield 59, 3) := by decide +kernel
theorem d_Mo_weight_15 : decode b_Mo_weight 15 = .ok (.goto 7, 3) := by decide +kernel
theorem d_Mo_weight_18 : decode b_Mo_weight 18 = .ok (.aload_n 0, 1) := by decide +kernel
theorem d_Mo_weight_19 : decode b_Mo_weight 19 = .ok (.getfield 78, 3) := by decide +kernel
theorem d_Mo_weight_22 : decode b_Mo_weight 22 = .ok (.istore_n 1, 1) := by decide +kernel
theorem d_Mo_weight_23 : decode b_Mo_weight 23 = .ok (.iconst 0, 1) := by decide +kernel
theorem d_Mo_weight_24 : decode b_Mo_weight 24 = .ok (.istore_n 2, 1) := by decide +kernel
theorem d_Mo_weight_25 : decode b_Mo_weight 25 = .ok (.iload_n 2, 1) := by decide +kernel
theorem d_Mo_weight_26 : decode b_Mo_weight 26 = .ok (.iload_n 1, 1) := by decide +kernel
theorem d_Mo_weight_27 : decode b_Mo_weight 27 = .ok (.if_icmp .ge 25, 3) := by decide +kernel
theorem d_Mo_weight_30 : decode b_Mo_weight 30 = .ok (.aload_n 0, 1) := by decide +kernel
theorem d_Mo_weight_31 : decode b_Mo_weight 31 = .ok (.getfield 7, 3) := by decide +kernel
theorem d_Mo_weight_34 : decode b_Mo_weight 34 = .ok (.iload_n 2, 1) := by decide +kernel
theorem d_Mo_weight_35 : decode b_Mo_weight 35 = .ok (.laload, 1) := by decide +kernel
theorem d_Mo_weight_36 : decode b_Mo_weight 36 = .ok (.aload_n 0, 1) := by decide +kernel
theorem d_Mo_weight_37 : decode b_Mo_weight 37 = .ok (.getfield 13, 3) := by decide +kernel
theorem d_Mo_weight_40 : decode b_Mo_weight 40 = .ok (.iload_n 2, 1) := by decide +kernel
theorem d_Mo_weight_41 : decode b_Mo_weight 41 = .ok (.laload, 1) := by decide +kernel
theorem d_Mo_weight_42 : decode b_Mo_weight 42 = .ok (.lcmp, 1) := by decide +kernel
theorem d_Mo_weight_43 : decode b_Mo_weight 43 = .ok (.ifCond .ne 9, 3) := by decide +kernel
theorem d_Mo_weight_46 : decode b_Mo_weight 46 = .ok (.iinc 2 1, 3) := by decide +kernel
theorem d_Mo_weight_49 : decode b_Mo_weight 49 = .ok (.goto (-24), 3) := by decide +kernel
theorem d_Mo_weight_52 : decode b_Mo_weight 52 = .ok (.iconst 0, 1) := by decide +kernel
theorem d_Mo_weight_53 : decode b_Mo_weight 53 = .ok (.istore_n 3, 1) := by decide +kernel
theorem d_Mo_weight_54 : decode b_Mo_weight 54 = .ok (.iload_n 2, 1) := by decide +kernel
theorem d_Mo_weight_55 : decode b_Mo_weight 55 = .ok (.iload_n 3, 1) := by decide +kernel
theorem d_Mo_weight_56 : decode b_Mo_weight 56 = .ok (.iadd, 1) := by decide +kernel
theorem d_Mo_weight_57 : decode b_Mo_weight 57 = .ok (.iload_n 1, 1) := by decide +kernel
theorem d_Mo_weight_58 : decode b_Mo_weight 58 = .ok (.if_icmp .ge 39, 3) := by decide +kernel
theorem d_Mo_weight_61 : decode b_Mo_weight 61 = .ok (.aload_n 0, 1) := by decide +kernel
theorem d_Mo_weight_62 : decode b_Mo_weight 62 = .ok (.getfield 7, 3) := by decide +kernel
theorem d_Mo_weight_65 : decode b_Mo_weight 65 = .ok (.aload_n 0, 1) := by decide +kernel
theorem d_Mo_weight_66 : decode b_Mo_weight 66 = .ok (.getfield 59, 3) := by decide +kernel
theorem d_Mo_weight_69 : decode b_Mo_weight 69 = .ok (.iconst 1, 1) := by decide +kernel
theorem d_Mo_weight_70 : decode b_Mo_weight 70 = .ok (.isub, 1) := by decide +kernel
theorem d_Mo_weight_71 : decode b_Mo_weight 71 = .ok (.iload_n 3, 1) := by decide +kernel
theorem d_Mo_weight_72 : decode b_Mo_weight 72 = .ok (.isub, 1) := by decide +kernel
theorem d_Mo_weight_73 : decode b_Mo_weight 73 = .ok (.laload, 1) := by decide +kernel
theorem d_Mo_weight_74 : decode b_Mo_weight 74 = .ok (.aload_n 0, 1) := by decide +kernel
theorem d_Mo_weight_75 : decode b_Mo_weight 75 = .ok (.getfield 13, 3) := by decide +kernel
theorem d_Mo_weight_78 : decode b_Mo_weight 78 = .ok (.aload_n 0, 1) := by decide +kernel
theorem d_Mo_weight_79 : decode b_Mo_weight 79 = .ok (.getfield 78, 3) := by decide +kernel
theorem d_Mo_weight_82 : decode b_Mo_weight 82 = .ok (.iconst 1, 1) := by decide +kernel
theorem d_Mo_weight_83 : decode b_Mo_weight 83 = .ok (.isub, 1) := by decide +kernel
theorem d_Mo_weight_84 : decode b_Mo_weight 84 = .ok (.iload_n 3, 1) := by decide +kernel
theorem d_Mo_weight_85 : decode b_Mo_weight 85 = .ok (.isub, 1) := by decide +kernel
theorem d_Mo_weight_86 : decode b_Mo_weight 86 = .ok (.laload, 1) := by decide +kernel
theorem d_Mo_weight_87 : decode b_Mo_weight 87 = .ok (.lcmp, 1) := by decide +kernel
theorem d_Mo_weight_88 : decode b_Mo_weight 88 = .ok (.ifCond .ne 9, 3) := by decide +kernel
theorem d_Mo_weight_91 : decode b_Mo_weight 91 = .ok (.iinc 3 1, 3) := by decide +kernel
theorem d_Mo_weight_94 : decode b_Mo_weight 94 = .ok (.goto (-40), 3) := by decide +kernel
theorem d_Mo_weight_97 : decode b_Mo_weight 97 = .ok (.aload_n 0, 1) := by decide +kernel
theorem d_Mo_weight_98 : decode b_Mo_weight 98 = .ok (.getfield 59, 3) := by decide +kernel
theorem d_Mo_weight_101 : decode b_Mo_weight 101 = .ok (.aload_n 0, 1) := by decide +kernel
theorem d_Mo_weight_102 : decode b_Mo_weight 102 = .ok (.getfield 78, 3) := by decide +kernel
theorem d_Mo_weight_105 : decode b_Mo_weight 105 = .ok (.iadd, 1) := by decide +kernel
theorem d_Mo_weight_106 : decode b_Mo_weight 106 = .ok (.iconst 2, 1) := by decide +kernel
theorem d_Mo_weight_107 : decode b_Mo_weight 107 = .ok (.iload_n 2, 1) := by decide +kernel
theorem d_Mo_weight_108 : decode b_Mo_weight 108 = .ok (.iload_n 3, 1) := by decide +kernel
theorem d_Mo_weight_109 : decode b_Mo_weight 109 = .ok (.iadd, 1) := by decide +kernel
theorem d_Mo_weight_110 : decode b_Mo_weight 110 = .ok (.imul, 1) := by decide +kernel
theorem d_Mo_weight_111 : decode b_Mo_weight 111 = .ok (.isub, 1) := by decide +kernel
theorem d_Mo_weight_112 : decode b_Mo_weight 112 = .ok (.ireturn, 1) := by decide +kernel
def f_Mo_weight_97  (a0 : Nat) (v2 : Int32) (v3 : Int32) (S : zq_S) : Option (zq_S × Int32) :=
  (zs_gi S a0 4 3).bind fun x1 =>
  (zs_gi S a0 4 5).bind fun x3 =>
  some (S, ((x1 + x3) - ((2 : Int32) * (v2 + v3))))
def f_Mo_weight_54 (k54 : Nat → Int32 → Int32 → Int32 → zq_S → Option (zq_S × Int32)) (a0 : Nat) (v1 : Int32) (v2 : Int32) (v3 : Int32) (S : zq_S) : Option (zq_S × Int32) :=
  if v1 ≤ (v2 + v3) then
    f_Mo_weight_97  a0 v2 v3 S
  else
    (zs_gr S a0 4 4).bind fun x1 =>
    (zs_gi S a0 4 3).bind fun x3 =>
    (x1).bind fun a5 =>
    (zs_lal S a5 0 ((x3 - (1 : Int32)) - v3)).bind fun x7 =>
    (zs_gr S a0 4 6).bind fun x9 =>
    (zs_gi S a0 4 5).bind fun x11 =>
    (x9).bind fun a13 =>
    (zs_lal S a13 0 ((x11 - (1 : Int32)) - v3)).bind fun x15 =>
    if (lg_cmp x7 x15) = 0 then
      k54 a0 v1 v2 (v3 + (1 : Int32)) S
    else
      f_Mo_weight_97  a0 v2 v3 S
def g_Mo_weight_54  : Nat → Nat → Int32 → Int32 → Int32 → zq_S → Option (zq_S × Int32)
  | 0 => fun _ _ _ _ _ => none
  | n + 1 => fun a0 v1 v2 v3 S => f_Mo_weight_54  (g_Mo_weight_54  n) a0 v1 v2 v3 S
def f_Mo_weight_52  (a0 : Nat) (v1 : Int32) (v2 : Int32) (S : zq_S) : Option (zq_S × Int32) :=
  g_Mo_weight_54  zq_F a0 v1 v2 (0 : Int32) S
def f_Mo_weight_25 (k25 : Nat → Int32 → Int32 → zq_S → Option (zq_S × Int32)) (a0 : Nat) (v1 : Int32) (v2 : Int32) (S : zq_S) : Option (zq_S × Int32) :=
  if v1 ≤ v2 then
    f_Mo_weight_52  a0 v1 v2 S
  else
    (zs_gr S a0 4 4).bind fun x1 =>
    (x1).bind fun a3 =>
    (zs_lal S a3 0 v2).bind fun x5 =>
    (zs_gr S a0 4 6).bind fun x7 =>
    (x7).bind fun a9 =>
    (zs_lal S a9 0 v2).bind fun x11 =>
    if (lg_cmp x5 x11) = 0 then
      k25 a0 v1 (v2 + (1 : Int32)) S
    else
      f_Mo_weight_52  a0 v1 v2 S
def g_Mo_weight_25  : Nat → Nat → Int32 → Int32 → zq_S → Option (zq_S × Int32)
  | 0 => fun _ _ _ _ => none
  | n + 1 => fun a0 v1 v2 S => f_Mo_weight_25  (g_Mo_weight_25  n) a0 v1 v2 S
def f_Mo_weight_22  (a0 : Nat) (s0 : Int32) (S : zq_S) : Option (zq_S × Int32) :=
  g_Mo_weight_25  zq_F a0 s0 (0 : Int32) S
def f_Mo_weight (a0 : Nat) (S : zq_S) : Option (zq_S × Int32) :=
  (zs_gi S a0 4 3).bind fun x1 =>
  (zs_gi S a0 4 5).bind fun x3 =>
  if x3 ≤ x1 then
    (zs_gi S a0 4 5).bind fun x5 =>
    f_Mo_weight_22  a0 x5 S
  else
    (zs_gi S a0 4 3).bind fun x7 =>
    f_Mo_weight_22  a0 x7 S
set_option maxHeartbeats 4000000 in
set_option maxRecDepth 100000 in
theorem r_Mo_weight_97 {l : Launch} (hl : l.stackTraces = false) {G : zq_G} {S0 T : zq_S} {v : Int32} {X : zq_X} (Z : Z_Mo_weight l G S0 T v X) {a0 : Nat} {v2 : Int32} {v3 : Int32} {S : zq_S} (hf : f_Mo_weight_97  a0 v2 v3 S = some (T, v)) : zq_W (Y_Mo_weight l G S0 T v) X 97 [(0, .ref a0), (2, .int v2), (3, .int v3)] [] S 0 0 := by
  unfold f_Mo_weight_97 at hf
  refine zq_aload_n Z d_Mo_weight_97 0 rfl ?_
  have hq := Option.bind_eq_some_iff.mp hf
  clear hf
  obtain ⟨x1, h2, hf⟩ := hq
  refine zr_geti Z cd_Mo 3 d_Mo_weight_98 (by decide) m_288 h2 ?_
  refine zq_aload_n Z d_Mo_weight_101 0 rfl ?_
  have hq := Option.bind_eq_some_iff.mp hf
  clear hf
  obtain ⟨x3, h4, hf⟩ := hq
  refine zr_geti Z cd_Mo 5 d_Mo_weight_102 (by decide) m_306 h4 ?_
  refine zq_iadd Z d_Mo_weight_105 ?_
  refine zq_iconst Z (2 : Int32) d_Mo_weight_106 (by decide) ?_
  refine zq_iload_n Z d_Mo_weight_107 1 rfl ?_
  refine zq_iload_n Z d_Mo_weight_108 2 rfl ?_
  refine zq_iadd Z d_Mo_weight_109 ?_
  refine zq_imul Z d_Mo_weight_110 ?_
  refine zq_isub Z d_Mo_weight_111 ?_
  exact zq_iret Z d_Mo_weight_112 (zs_1 hf) (zs_2 (fun z => (.inl (some (.int z)) : zq_R)) hf) ⟨(Nat.le_of_ble_eq_true rfl), (Nat.le_of_ble_eq_true rfl)⟩
set_option maxHeartbeats 4000000 in
set_option maxRecDepth 100000 in
theorem r_Mo_weight_54 {l : Launch} (hl : l.stackTraces = false) {G : zq_G} {S0 T : zq_S} {v : Int32} {X : zq_X} (Z : Z_Mo_weight l G S0 T v X) {k54 : Nat → Int32 → Int32 → Int32 → zq_S → Option (zq_S × Int32)} (hk54 : ∀ (a0 : Nat) (v1 : Int32) (v2 : Int32) (v3 : Int32) (S : zq_S), k54 a0 v1 v2 v3 S = some (T, v) → zq_W (Y_Mo_weight l G S0 T v) X 54 [(0, .ref a0), (1, .int v1), (2, .int v2), (3, .int v3)] [] S 0 0) {a0 : Nat} {v1 : Int32} {v2 : Int32} {v3 : Int32} {S : zq_S} (hf : f_Mo_weight_54 k54 a0 v1 v2 v3 S = some (T, v)) : zq_W (Y_Mo_weight l G S0 T v) X 54 [(0, .ref a0), (1, .int v1), (2, .int v2), (3, .int v3)] [] S 0 0 := by
  unfold f_Mo_weight_54 at hf
  refine zq_iload_n Z d_Mo_weight_54 2 rfl ?_
  refine zq_iload_n Z d_Mo_weight_55 3 rfl ?_
  refine zq_iadd Z d_Mo_weight_56 ?_
  refine zq_iload_n Z d_Mo_weight_57 1 rfl ?_
  refine zq_icmp_ge Z 97 d_Mo_weight_58 (by decide) (fun q => ?_) (fun q => ?_)
  · replace hf := zs_T q hf
    refine zq_sub (lo' := [(0, .ref a0), (2, .int v2), (3, .int v3)]) [0, 2, 3] rfl ?_
    exact r_Mo_weight_97 hl Z  hf
  · replace hf := zs_N q hf
    refine zq_aload_n Z d_Mo_weight_61 0 rfl ?_
    have hq := Option.bind_eq_some_iff.mp hf
    clear hf
    obtain ⟨x1, h2, hf⟩ := hq
    refine zr_getr Z cd_Mo 4 d_Mo_weight_62 (by decide) m_270 h2 ?_
    refine zq_aload_n Z d_Mo_weight_65 0 rfl ?_
    have hq := Option.bind_eq_some_iff.mp hf
    clear hf
    obtain ⟨x3, h4, hf⟩ := hq
    refine zr_geti Z cd_Mo 3 d_Mo_weight_66 (by decide) m_288 h4 ?_
    refine zq_iconst Z (1 : Int32) d_Mo_weight_69 (by decide) ?_
    refine zq_isub Z d_Mo_weight_70 ?_
    refine zq_iload_n Z d_Mo_weight_71 3 rfl ?_
    refine zq_isub Z d_Mo_weight_72 ?_
    have hq := Option.bind_eq_some_iff.mp hf
    clear hf
    obtain ⟨a5, h6, hf⟩ := hq
    subst h6
    have hq := Option.bind_eq_some_iff.mp hf
    clear hf
    obtain ⟨x7, h8, hf⟩ := hq
    refine zr_laload Z 0 (fun _ => rfl) d_Mo_weight_73 h8 ?_
    refine zq_aload_n Z d_Mo_weight_74 0 rfl ?_
    have hq := Option.bind_eq_some_iff.mp hf
    clear hf
    obtain ⟨x9, h10, hf⟩ := hq
    refine zr_getr Z cd_Mo 6 d_Mo_weight_75 (by decide) m_271 h10 ?_
    refine zq_aload_n Z d_Mo_weight_78 0 rfl ?_
    have hq := Option.bind_eq_some_iff.mp hf
    clear hf
    obtain ⟨x11, h12, hf⟩ := hq
    refine zr_geti Z cd_Mo 5 d_Mo_weight_79 (by decide) m_306 h12 ?_
    refine zq_iconst Z (1 : Int32) d_Mo_weight_82 (by decide) ?_
    refine zq_isub Z d_Mo_weight_83 ?_
    refine zq_iload_n Z d_Mo_weight_84 3 rfl ?_
    refine zq_isub Z d_Mo_weight_85 ?_
    have hq := Option.bind_eq_some_iff.mp hf
    clear hf
    obtain ⟨a13, h14, hf⟩ := hq
    subst h14
    have hq := Option.bind_eq_some_iff.mp hf
    clear hf
    obtain ⟨x15, h16, hf⟩ := hq
    refine zr_laload Z 0 (fun _ => rfl) d_Mo_weight_86 h16 ?_
    refine zq_lcmp Z d_Mo_weight_87 ?_
    refine zq_if_ne Z 97 d_Mo_weight_88 (by decide) (fun q => ?_) (fun q => ?_)
    · replace hf := zs_N q hf
      refine zq_sub (lo' := [(0, .ref a0), (2, .int v2), (3, .int v3)]) [0, 2, 3] rfl ?_
      exact r_Mo_weight_97 hl Z  hf
    · replace hf := zs_T q hf
      refine zq_iinc Z (v3 + (1 : Int32)) [(3, .int (v3 + (1 : Int32))), (0, .ref a0), (1, .int v1), (2, .int v2)] d_Mo_weight_91 3 rfl rfl (by decide) rfl ?_
      refine zq_goto Z 54 d_Mo_weight_94 (by decide) ?_
      refine zq_sub (lo' := [(0, .ref a0), (1, .int v1), (2, .int v2), (3, .int (v3 + (1 : Int32)))]) [1, 2, 3, 0] rfl ?_
      exact hk54 _ _ _ _ _ hf
theorem w_Mo_weight_54 {l : Launch} (hl : l.stackTraces = false) {G : zq_G} {S0 T : zq_S} {v : Int32} {X : zq_X} (Z : Z_Mo_weight l G S0 T v X) : ∀ (n : Nat) (a0 : Nat) (v1 : Int32) (v2 : Int32) (v3 : Int32) (S : zq_S), g_Mo_weight_54  n a0 v1 v2 v3 S = some (T, v) → zq_W (Y_Mo_weight l G S0 T v) X 54 [(0, .ref a0), (1, .int v1), (2, .int v2), (3, .int v3)] [] S 0 0 := by
  intro n
  induction n with
  | zero => intro a0 v1 v2 v3 S hf; cases hf
  | succ n ih =>
    intro a0 v1 v2 v3 S hf
    have hf : f_Mo_weight_54  (g_Mo_weight_54  n) a0 v1 v2 v3 S = some (T, v) := hf
    exact r_Mo_weight_54 hl Z  ih hf
set_option maxHeartbeats 4000000 in
set_option maxRecDepth 100000 in
theorem r_Mo_weight_52 {l : Launch} (hl : l.stackTraces = false) {G : zq_G} {S0 T : zq_S} {v : Int32} {X : zq_X} (Z : Z_Mo_weight l G S0 T v X) {a0 : Nat} {v1 : Int32} {v2 : Int32} {S : zq_S} (hf : f_Mo_weight_52  a0 v1 v2 S = some (T, v)) : zq_W (Y_Mo_weight l G S0 T v) X 52 [(0, .ref a0), (1, .int v1), (2, .int v2)] [] S 0 0 := by
  unfold f_Mo_weight_52 at hf
  refine zq_iconst Z (0 : Int32) d_Mo_weight_52 (by decide) ?_
  refine zq_istore_n Z rfl [(3, .int (0 : Int32)), (0, .ref a0), (1, .int v1), (2, .int v2)] d_Mo_weight_53 (by decide) rfl ?_
  refine zq_sub (lo' := [(0, .ref a0), (1, .int v1), (2, .int v2), (3, .int (0 : Int32))]) [1, 2, 3, 0] rfl ?_
  exact w_Mo_weight_54 hl Z  _ _ _ _ _ _ hf
set_option maxHeartbeats 4000000 in
set_option maxRecDepth 100000 in
theorem r_Mo_weight_25 {l : Launch} (hl : l.stackTraces = false) {G : zq_G} {S0 T : zq_S} {v : Int32} {X : zq_X} (Z : Z_Mo_weight l G S0 T v X) {k25 : Nat → Int32 → Int32 → zq_S → Option (zq_S × Int32)} (hk25 : ∀ (a0 : Nat) (v1 : Int32) (v2 : Int32) (S : zq_S), k25 a0 v1 v2 S = some (T, v) → zq_W (Y_Mo_weight l G S0 T v) X 25 [(0, .ref a0), (1, .int v1), (2, .int v2)] [] S 0 0) {a0 : Nat} {v1 : Int32} {v2 : Int32} {S : zq_S} (hf : f_Mo_weight_25 k25 a0 v1 v2 S = some (T, v)) : zq_W (Y_Mo_weight l G S0 T v) X 25 [(0, .ref a0), (1, .int v1), (2, .int v2)] [] S 0 0 := by
  unfold f_Mo_weight_25 at hf
  refine zq_iload_n Z d_Mo_weight_25 2 rfl ?_
  refine zq_iload_n Z d_Mo_weight_26 1 rfl ?_
  refine zq_icmp_ge Z 52 d_Mo_weight_27 (by decide) (fun q => ?_) (fun q => ?_)
  · replace hf := zs_T q hf
    refine zq_sub (lo' := [(0, .ref a0), (1, .int v1), (2, .int v2)]) [0, 1, 2] rfl ?_
    exact r_Mo_weight_52 hl Z  hf
  · replace hf := zs_N q hf
    refine zq_aload_n Z d_Mo_weight_30 0 rfl ?_
    have hq := Option.bind_eq_some_iff.mp hf
    clear hf
    obtain ⟨x1, h2, hf⟩ := hq
    refine zr_getr Z cd_Mo 4 d_Mo_weight_31 (by decide) m_270 h2 ?_
    refine zq_iload_n Z d_Mo_weight_34 2 rfl ?_
    have hq := Option.bind_eq_some_iff.mp hf
    clear hf
    obtain ⟨a3, h4, hf⟩ := hq
    subst h4
    have hq := Option.bind_eq_some_iff.mp hf
    clear hf
    obtain ⟨x5, h6, hf⟩ := hq
    refine zr_laload Z 0 (fun _ => rfl) d_Mo_weight_35 h6 ?_
    refine zq_aload_n Z d_Mo_weight_36 0 rfl ?_
    have hq := Option.bind_eq_some_iff.mp hf
    clear hf
    obtain ⟨x7, h8, hf⟩ := hq
    refine zr_getr Z cd_Mo 6 d_Mo_weight_37 (by decide) m_271 h8 ?_
    refine zq_iload_n Z d_Mo_weight_40 2 rfl ?_
    have hq := Option.bind_eq_some_iff.mp hf
    clear hf
    obtain ⟨a9, h10, hf⟩ := hq
    subst h10
    have hq := Option.bind_eq_some_iff.mp hf
    clear hf
    obtain ⟨x11, h12, hf⟩ := hq
    refine zr_laload Z 0 (fun _ => rfl) d_Mo_weight_41 h12 ?_
    refine zq_lcmp Z d_Mo_weight_42 ?_
    refine zq_if_ne Z 52 d_Mo_weight_43 (by decide) (fun q => ?_) (fun q => ?_)
    · replace hf := zs_N q hf
      refine zq_sub (lo' := [(0, .ref a0), (1, .int v1), (2, .int v2)]) [0, 1, 2] rfl ?_
      exact r_Mo_weight_52 hl Z  hf
    · replace hf := zs_T q hf
      refine zq_iinc Z (v2 + (1 : Int32)) [(2, .int (v2 + (1 : Int32))), (0, .ref a0), (1, .int v1)] d_Mo_weight_46 2 rfl rfl (by decide) rfl ?_
      refine zq_goto Z 25 d_Mo_weight_49 (by decide) ?_
      refine zq_sub (lo' := [(0, .ref a0), (1, .int v1), (2, .int (v2 + (1 : Int32)))]) [1, 2, 0] rfl ?_
      exact hk25 _ _ _ _ hf
theorem w_Mo_weight_25 {l : Launch} (hl : l.stackTraces = false) {G : zq_G} {S0 T : zq_S} {v : Int32} {X : zq_X} (Z : Z_Mo_weight l G S0 T v X) : ∀ (n : Nat) (a0 : Nat) (v1 : Int32) (v2 : Int32) (S : zq_S), g_Mo_weight_25  n a0 v1 v2 S = some (T, v) → zq_W (Y_Mo_weight l G S0 T v) X 25 [(0, .ref a0), (1, .int v1), (2, .int v2)] [] S 0 0 := by
  intro n
  induction n with
  | zero => intro a0 v1 v2 S hf; cases hf
  | succ n ih =>
    intro a0 v1 v2 S hf
    have hf : f_Mo_weight_25  (g_Mo_weight_25  n) a0 v1 v2 S = some (T, v) := hf
    exact r_Mo_weight_25 hl Z  ih hf
set_option maxHeartbeats 4000000 in
set_option maxRecDepth 100000 in
theorem r_Mo_weight_22 {l : Launch} (hl : l.stackTraces = false) {G : zq_G} {S0 T : zq_S} {v : Int32} {X : zq_X} (Z : Z_Mo_weight l G S0 T v X) {a0 : Nat} {s0 : Int32} {S : zq_S} (hf : f_Mo_weight_22  a0 s0 S = some (T, v)) : zq_W (Y_Mo_weight l G S0 T v) X 22 [(0, .ref a0)] [.int s0] S 0 0 := by
  unfold f_Mo_weight_22 at hf
  refine zq_istore_n Z rfl [(1, .int s0), (0, .ref a0)] d_Mo_weight_22 (by decide) rfl ?_
  refine zq_iconst Z (0 : Int32) d_Mo_weight_23 (by decide) ?_
  refine zq_istore_n Z rfl [(2, .int (0 : Int32)), (1, .int s0), (0, .ref a0)] d_Mo_weight_24 (by decide) rfl ?_
  refine zq_sub (lo' := [(0, .ref a0), (1, .int s0), (2, .int (0 : Int32))]) [2, 1, 0] rfl ?_
  exact w_Mo_weight_25 hl Z  _ _ _ _ _ hf
set_option maxHeartbeats 4000000 in
set_option maxRecDepth 100000 in
theorem c_Mo_weight {l : Launch} (hl : l.stackTraces = false) {G : zq_G} {a0 : Nat} {S0 T : zq_S} {v : Int32} (hf : f_Mo_weight a0 S0 = some (T, v)) : zq_M l y_Mo_weight (.code y_Mo_weight b_Mo_weight 4 (some (.int))) rm_Mo_weight G [.ref a0] S0 ((.inl (some (.int v)) : zq_R)) T := by
  refine zq_Mof (lo := [(0, .ref a0)]) hl (by decide) (Nat.le_of_ble_eq_true rfl) rfl (fun X Z => ?_)
  have Z : Z_Mo_weight l G S0 T v X := Z
  show zq_W (Y_Mo_weight l G S0 T v) X 0 [(0, .ref a0)] [] S0 0 0
  unfold f_Mo_weight at hf
  refine zq_aload_n Z d_Mo_weight_0 0 rfl ?_
  have hq := Option.bind_eq_some_iff.mp hf
  clear hf
  obtain ⟨x1, h2, hf⟩ := hq
  refine zr_geti Z cd_Mo 3 d_Mo_weight_1 (by decide) m_288 h2 ?_
  refine zq_aload_n Z d_Mo_weight_4 0 rfl ?_
  have hq := Option.bind_eq_some_iff.mp hf
  clear hf
  obtain ⟨x3, h4, hf⟩ := hq
  refine zr_geti Z cd_Mo 5 d_Mo_weight_5 (by decide) m_306 h4 ?_
  refine zq_icmp_ge Z 18 d_Mo_weight_8 (by decide) (fun q => ?_) (fun q => ?_)
  · replace hf := zs_T q hf
    refine zq_aload_n Z d_Mo_weight_18 0 rfl ?_
    have hq := Option.bind_eq_some_iff.mp hf
    clear hf
    obtain ⟨x5, h6, hf⟩ := hq
    refine zr_geti Z cd_Mo 5 d_Mo_weight_19 (by decide) m_306 h6 ?_
    refine zq_sub (lo' := [(0, .ref a0)]) [0] rfl ?_
    exact r_Mo_weight_22 hl Z  hf
  · replace hf := zs_N q hf
    refine zq_aload_n Z d_Mo_weight_11 0 rfl ?_
    have hq := Option.bind_eq_some_iff.mp hf
    clear hf
    obtain ⟨x7, h8, hf⟩ := hq
    refine zr_geti Z cd_Mo 3 d_Mo_weight_12 (by decide) m_288 h8 ?_
    refine zq_goto Z 22 d_Mo_weight_15 (by decide) ?_
    refine zq_sub (lo' := [(0, .ref a0)]) [0] rfl ?_
    exact r_Mo_weight_22 hl Z  hf
theorem d_Mo_startOf_0 : decode b_Mo_startOf 0 = .ok (.iload_n 1, 1) := by decide +kernel
theorem d_Mo_startOf_1 : decode b_Mo_startOf 1 = .ok (.ifCond .ne 7, 3) := by decide +kernel
theorem d_Mo_startOf_4 : decode b_Mo_startOf 4 = .ok (.iconst 0, 1) := by decide +kernel
theorem d_Mo_startOf_5 : decode b_Mo_startOf 5 = .ok (.goto 11, 3) := by decide +kernel
theorem d_Mo_startOf_8 : decode b_Mo_startOf 8 = .ok (.aload_n 0, 1) := by decide +kernel
theorem d_Mo_startOf_9 : decode b_Mo_startOf 9 = .ok (.getfield 25, 3) := by decide +kernel
theorem d_Mo_startOf_12 : decode b_Mo_startOf 12 = .ok (.iload_n 1, 1) := by decide +kernel
theorem d_Mo_startOf_13 : decode b_Mo_startOf 13 = .ok (.iconst 1, 1) := by decide +kernel
theorem d_Mo_startOf_14 : decode b_Mo_startOf 14 = .ok (.isub, 1) := by decide +kernel
theorem d_Mo_startOf_15 : decode b_Mo_startOf 15 = .ok (.iaload, 1) := by decide +kernel
theorem d_Mo_startOf_16 : decode b_Mo_startOf 16 = .ok (.ireturn, 1) := by decide +kernel
def f_Mo_startOf_16  (s0 : Int32) (S : zq_S) : Option (zq_S × Int32) :=
  some (S, s0)
def f_Mo_startOf (a0 : Nat) (v1 : Int32) (S : zq_S) : Option (zq_S × Int32) :=
  if v1 = 0 then
    f_Mo_startOf_16  (0 : Int32) S
  else
    (zs_gr S a0 4 14).bind fun x1 =>
    (x1).bind fun a3 =>
    (zs_ial S a3 2 (v1 - (1 : Int32))).bind fun x5 =>
    f_Mo_startOf_16  x5 S
set_option maxHeartbeats 4000000 in
set_option maxRecDepth 100000 in
theorem r_Mo_startOf_16 {l : Launch} (hl : l.stackTraces = false) {G : zq_G} {S0 T : zq_S} {v : Int32} {X : zq_X} (Z : Z_Mo_startOf l G S0 T v X) {s0 : Int32} {S : zq_S} (hf : f_Mo_startOf_16  s0 S = some (T, v)) : zq_W (Y_Mo_startOf l G S0 T v) X 16 [] [.int s0] S 0 0 := by
  unfold f_Mo_startOf_16 at hf
  exact zq_iret Z d_Mo_startOf_16 (zs_1 hf) (zs_2 (fun z => (.inl (some (.int z)) : zq_R)) hf) ⟨(Nat.le_of_ble_eq_true rfl), (Nat.le_of_ble_eq_true rfl)⟩
set_option maxHeartbeats 4000000 in
set_option maxRecDepth 100000 in
theorem c_Mo_startOf {l : Launch} (hl : l.stackTraces = false) {G : zq_G} {a0 : Nat} {v1 : Int32} {S0 T : zq_S} {v : Int32} (hf : f_Mo_startOf a0 v1 S0 = some (T, v)) : zq_M l y_Mo_startOf (.code y_Mo_startOf b_Mo_startOf 2 (some (.int))) rm_Mo_startOf G [.ref a0, .int v1] S0 ((.inl (some (.int v)) : zq_R)) T := by
  refine zq_Mof (lo := [(0, .ref a0), (1, .int v1)]) hl (by decide) (Nat.le_of_ble_eq_true rfl) rfl (fun X Z => ?_)
  have Z : Z_Mo_startOf l G S0 T v X := Z
  show zq_W (Y_Mo_startOf l G S0 T v) X 0 [(0, .ref a0), (1, .int v1)] [] S0 0 0
  unfold f_Mo_startOf at hf
  refine zq_iload_n Z d_Mo_startOf_0 1 rfl ?_
  refine zq_if_ne Z 8 d_Mo_startOf_1 (by decide) (fun q => ?_) (fun q => ?_)
  · replace hf := zs_N q hf
    refine zq_aload_n Z d_Mo_startOf_8 0 rfl ?_
    have hq := Option.bind_eq_some_iff.mp hf
    clear hf
    obtain ⟨x1, h2, hf⟩ := hq
    refine zr_getr Z cd_Mo 14 d_Mo_startOf_9 (by decide) m_276 h2 ?_
    refine zq_iload_n Z d_Mo_startOf_12 1 rfl ?_
    refine zq_iconst Z (1 : Int32) d_Mo_startOf_13 (by decide) ?_
    refine zq_isub Z d_Mo_startOf_14 ?_
    have hq := Option.bind_eq_some_iff.mp hf
    clear hf
    obtain ⟨a3, h4, hf⟩ := hq
    subst h4
    have hq := Option.bind_eq_some_iff.mp hf
    clear hf
    obtain ⟨x5, h6, hf⟩ := hq
    refine zr_iaload Z 2 (fun _ => rfl) d_Mo_startOf_15 h6 ?_
    refine zq_sub (lo' := []) [] rfl ?_
    exact r_Mo_startOf_16 hl Z  hf
  · replace hf := zs_T q hf
    refine zq_iconst Z (0 : Int32) d_Mo_startOf_4 (by decide) ?_
    refine zq_goto Z 16 d_Mo_startOf_5 (by decide) ?_
    refine zq_sub (lo' := []) [] rfl ?_
    exact r_Mo_startOf_16 hl Z  hf
theorem d_Mo_weightOf_0 : decode b_Mo_weightOf 0 = .ok (.iconst 0, 1) := by decide +kernel
theorem d_Mo_weightOf_1 : decode b_Mo_weightOf 1 = .ok (.istore_n 3, 1) := by decide +kernel
theorem d_Mo_weightOf_2 : decode b_Mo_weightOf 2 = .ok (.iload_n 1, 1) := by decide +kernel
theorem d_Mo_weightOf_3 : decode b_Mo_weightOf 3 = .ok (.istore 4, 2) := by decide +kernel
theorem d_Mo_weightOf_5 : decode b_Mo_weightOf 5 = .ok (.iload 4, 2) := by decide +kernel
theorem d_Mo_weightOf_7 : decode b_Mo_weightOf 7 = .ok (.iload_n 2, 1) := by decide +kernel
theorem d_Mo_weightOf_8 : decode b_Mo_weightOf 8 = .ok (.if_icmp .ge 19, 3) := by decide +kernel
theorem d_Mo_weightOf_11 : decode b_Mo_weightOf 11 = .ok (.iload_n 3, 1) := by decide +kernel
theorem d_Mo_weightOf_12 : decode b_Mo_weightOf 12 = .ok (.aload_n 0, 1) := by decide +kernel
theorem d_Mo_weightOf_13 : decode b_Mo_weightOf 13 = .ok (.getfield 32, 3) := by decide +kernel
theorem d_Mo_weightOf_16 : decode b_Mo_weightOf 16 = .ok (.iload 4, 2) := by decide +kernel
theorem d_Mo_weightOf_18 : decode b_Mo_weightOf 18 = .ok (.iaload, 1) := by decide +kernel
theorem d_Mo_weightOf_19 : decode b_Mo_weightOf 19 = .ok (.iadd, 1) := by decide +kernel
theorem d_Mo_weightOf_20 : decode b_Mo_weightOf 20 = .ok (.istore_n 3, 1) := by decide +kernel
theorem d_Mo_weightOf_21 : decode b_Mo_weightOf 21 = .ok (.iinc 4 1, 3) := by decide +kernel
theorem d_Mo_weightOf_24 : decode b_Mo_weightOf 24 = .ok (.goto (-19), 3) := by decide +kernel
theorem d_Mo_weightOf_27 : decode b_Mo_weightOf 27 = .ok (.iload_n 3, 1) := by decide +kernel
theorem d_Mo_weightOf_28 : decode b_Mo_weightOf 28 = .ok (.ireturn, 1) := by decide +kernel
def f_Mo_weightOf_5 (k5 : Nat → Int32 → Int32 → Int32 → zq_S → Option (zq_S × Int32)) (a0 : Nat) (v2 : Int32) (v3 : Int32) (v4 : Int32) (S : zq_S) : Option (zq_S × Int32) :=
  if v2 ≤ v4 then
    some (S, v3)
  else
    (zs_gr S a0 4 16).bind fun x1 =>
    (x1).bind fun a3 =>
    (zs_ial S a3 2 v4).bind fun x5 =>
    k5 a0 v2 (v3 + x5) (v4 + (1 : Int32)) S
def g_Mo_weightOf_5  : Nat → Nat → Int32 → Int32 → Int32 → zq_S → Option (zq_S × Int32)
  | 0 => fun _ _ _ _ _ => none
  | n + 1 => fun a0 v2 v3 v4 S => f_Mo_weightOf_5  (g_Mo_weightOf_5  n) a0 v2 v3 v4 S
def f_Mo_weightOf (a0 : Nat) (v1 : Int32) (v2 : Int32) (S : zq_S) : Option (zq_S × Int32) :=
  g_Mo_weightOf_5  zq_F a0 v2 (0 : Int32) v1 S
set_option maxHeartbeats 4000000 in
set_option maxRecDepth 100000 in
theorem r_Mo_weightOf_5 {l : Launch} (hl : l.stackTraces = false) {G : zq_G} {S0 T : zq_S} {v : Int32} {X : zq_X} (Z : Z_Mo_weightOf l G S0 T v X) {k5 : Nat → Int32 → Int32 → Int32 → zq_S → Option (zq_S × Int32)} (hk5 : ∀ (a0 : Nat) (v2 : Int32) (v3 : Int32) (v4 : Int32) (S : zq_S), k5 a0 v2 v3 v4 S = some (T, v) → zq_W (Y_Mo_weightOf l G S0 T v) X 5 [(0, .ref a0), (2, .int v2), (3, .int v3), (4, .int v4)] [] S 0 0) {a0 : Nat} {v2 : Int32} {v3 : Int32} {v4 : Int32} {S : zq_S} (hf : f_Mo_weightOf_5 k5 a0 v2 v3 v4 S = some (T, v)) : zq_W (Y_Mo_weightOf l G S0 T v) X 5 [(0, .ref a0), (2, .int v2), (3, .int v3), (4, .int v4)] [] S 0 0 := by
  unfold f_Mo_weightOf_5 at hf
  refine zq_iload Z d_Mo_weightOf_5 3 rfl ?_
  refine zq_iload_n Z d_Mo_weightOf_7 1 rfl ?_
  refine zq_icmp_ge Z 27 d_Mo_weightOf_8 (by decide) (fun q => ?_) (fun q => ?_)
  · replace hf := zs_T q hf
    refine zq_iload_n Z d_Mo_weightOf_27 2 rfl ?_
    exact zq_iret Z d_Mo_weightOf_28 (zs_1 hf) (zs_2 (fun z => (.inl (some (.int z)) : zq_R)) hf) ⟨(Nat.le_of_ble_eq_true rfl), (Nat.le_of_ble_eq_true rfl)⟩
  · replace hf := zs_N q hf
    refine zq_iload_n Z d_Mo_weightOf_11 2 rfl ?_
    refine zq_aload_n Z d_Mo_weightOf_12 0 rfl ?_
    have hq := Option.bind_eq_some_iff.mp hf
    clear hf
    obtain ⟨x1, h2, hf⟩ := hq
    refine zr_getr Z cd_Mo 16 d_Mo_weightOf_13 (by decide) m_278 h2 ?_
    refine zq_iload Z d_Mo_weightOf_16 3 rfl ?_
    have hq := Option.bind_eq_some_iff.mp hf
    clear hf
    obtain ⟨a3, h4, hf⟩ := hq
    subst h4
    have hq := Option.bind_eq_some_iff.mp hf
    clear hf
    obtain ⟨x5, h6, hf⟩ := hq
    refine zr_iaload Z 2 (fun _ => rfl) d_Mo_weightOf_18 h6 ?_
    refine zq_iadd Z d_Mo_weightOf_19 ?_
    refine zq_istore_n Z rfl [(3, .int (v3 + x5)), (0, .ref a0), (2, .int v2), (4, .int v4)] d_Mo_weightOf_20 (by decide) rfl ?_
    refine zq_iinc Z (v4 + (1 : Int32)) [(4, .int (v4 + (1 : Int32))), (3, .int (v3 + x5)), (0, .ref a0), (2, .int v2)] d_Mo_weightOf_21 3 rfl rfl (by decide) rfl ?_
    refine zq_goto Z 5 d_Mo_weightOf_24 (by decide) ?_
    refine zq_sub (lo' := [(0, .ref a0), (2, .int v2), (3, .int (v3 + x5)), (4, .int (v4 + (1 : Int32)))]) [2, 3, 1, 0] rfl ?_
    exact hk5 _ _ _ _ _ hf
theorem w_Mo_weightOf_5 {l : Launch} (hl : l.stackTraces = false) {G : zq_G} {S0 T : zq_S} {v : Int32} {X : zq_X} (Z : Z_Mo_weightOf l G S0 T v X) : ∀ (n : Nat) (a0 : Nat) (v2 : Int32) (v3 : Int32) (v4 : Int32) (S : zq_S), g_Mo_weightOf_5  n a0 v2 v3 v4 S = some (T, v) → zq_W (Y_Mo_weightOf l G S0 T v) X 5 [(0, .ref a0), (2, .int v2), (3, .int v3), (4, .int v4)] [] S 0 0 := by
  intro n
  induction n with
  | zero => intro a0 v2 v3 v4 S hf; cases hf
  | succ n ih =>
    intro a0 v2 v3 v4 S hf
    have hf : f_Mo_weightOf_5  (g_Mo_weightOf_5  n) a0 v2 v3 v4 S = some (T, v) := hf
    exact r_Mo_weightOf_5 hl Z  ih hf
set_option maxHeartbeats 4000000 in
set_option maxRecDepth 100000 in
theorem c_Mo_weightOf {l : Launch} (hl : l.stackTraces = false) {G : zq_G} {a0 : Nat} {v1 : Int32} {v2 : Int32} {S0 T : zq_S} {v : Int32} (hf : f_Mo_weightOf a0 v1 v2 S0 = some (T, v)) : zq_M l y_Mo_weightOf (.code y_Mo_weightOf b_Mo_weightOf 5 (some (.int))) rm_Mo_weightOf G [.ref a0, .int v1, .int v2] S0 ((.inl (some (.int v)) : zq_R)) T := by
  refine zq_Mof (lo := [(0, .ref a0), (1, .int v1), (2, .int v2)]) hl (by decide) (Nat.le_of_ble_eq_true rfl) rfl (fun X Z => ?_)
  have Z : Z_Mo_weightOf l G S0 T v X := Z
  show zq_W (Y_Mo_weightOf l G S0 T v) X 0 [(0, .ref a0), (1, .int v1), (2, .int v2)] [] S0 0 0
  unfold f_Mo_weightOf at hf
  refine zq_iconst Z (0 : Int32) d_Mo_weightOf_0 (by decide) ?_
  refine zq_istore_n Z rfl [(3, .int (0 : Int32)), (0, .ref a0), (1, .int v1), (2, .int v2)] d_Mo_weightOf_1 (by decide) rfl ?_
  refine zq_iload_n Z d_Mo_weightOf_2 2 rfl ?_
  refine zq_istore Z [(4, .int v1), (3, .int (0 : Int32)), (0, .ref a0), (1, .int v1), (2, .int v2)] d_Mo_weightOf_3 (by decide) rfl ?_
  refine zq_sub (lo' := [(0, .ref a0), (2, .int v2), (3, .int (0 : Int32)), (4, .int v1)]) [2, 4, 1, 0] rfl ?_
  exact w_Mo_weightOf_5 hl Z  _ _ _ _ _ _ hf
theorem d_Mo_forgetAll_0 : decode b_Mo_forgetAll 0 = .ok (.aload_n 0, 1) := by decide +kernel
theorem d_Mo_forgetAll_1 : decode b_Mo_forgetAll 1 = .ok (.iconst 0, 1) := by decide +kernel
theorem d_Mo_forgetAll_2 : decode b_Mo_forgetAll 2 = .ok (.putfield 84, 3) := by decide +kernel
theorem d_Mo_forgetAll_5 : decode b_Mo_forgetAll 5 = .ok (.aload_n 0, 1) := by decide +kernel
theorem d_Mo_forgetAll_6 : decode b_Mo_forgetAll 6 = .ok (.iconst 0, 1) := by decide +kernel
theorem d_Mo_forgetAll_7 : decode b_Mo_forgetAll 7 = .ok (.putfield 87, 3) := by decide +kernel
theorem d_Mo_forgetAll_10 : decode b_Mo_forgetAll 10 = .ok (.aload_n 0, 1) := by decide +kernel
theorem d_Mo_forgetAll_11 : decode b_Mo_forgetAll 11 = .ok (.iconst 0, 1) := by decide +kernel
theorem d_Mo_forgetAll_12 : decode b_Mo_forgetAll 12 = .ok (.putfield 90, 3) := by decide +kernel
theorem d_Mo_forgetAll_15 : decode b_Mo_forgetAll 15 = .ok (.aload_n 0, 1) := by decide +kernel
theorem d_Mo_forgetAll_16 : decode b_Mo_forgetAll 16 = .ok (.invokevirtual 93, 3) := by decide +kernel
theorem d_Mo_forgetAll_19 : decode b_Mo_forgetAll 19 = .ok (.return_, 1) := by decide +kernel
def f_Mo_forgetAll (a0 : Nat) (S : zq_S) : Option (zq_S × Unit) :=
  (zs_p S a0 4 12 (.int (0 : Int32))).bind fun S1 =>
  (zs_p S1 a0 4 13 (.int (0 : Int32))).bind fun S3 =>
  (zs_p S3 a0 4 9 (.int (0 : Int32))).bind fun S5 =>
  if zs_is S5 a0 4 = true then
  zs_b (f_Mo_toBase a0 S5) fun S8 _ =>
  some (S8, ())
  else none
set_option maxHeartbeats 4000000 in
set_option maxRecDepth 100000 in
theorem c_Mo_forgetAll {l : Launch} (hl : l.stackTraces = false) {G : zq_G} {a0 : Nat} {S0 T : zq_S} {v : Unit} (hf : f_Mo_forgetAll a0 S0 = some (T, v)) : zq_M l y_Mo_forgetAll (.code y_Mo_forgetAll b_Mo_forgetAll 1 none) rm_Mo_forgetAll G [.ref a0] S0 ((.inl none : zq_R)) T := by
  refine zq_Mof (lo := [(0, .ref a0)]) hl (by decide) (Nat.le_of_ble_eq_true rfl) rfl (fun X Z => ?_)
  have Z : Z_Mo_forgetAll l G S0 T v X := Z
  show zq_W (Y_Mo_forgetAll l G S0 T v) X 0 [(0, .ref a0)] [] S0 0 0
  unfold f_Mo_forgetAll at hf
  refine zq_aload_n Z d_Mo_forgetAll_0 0 rfl ?_
  refine zq_iconst Z (0 : Int32) d_Mo_forgetAll_1 (by decide) ?_
  have hq := Option.bind_eq_some_iff.mp hf
  clear hf
  obtain ⟨S1, h2, hf⟩ := hq
  refine zr_puti Z cd_Mo 12 d_Mo_forgetAll_2 (by decide) m_308 rfl (by decide +kernel) h2 ?_
  refine zq_aload_n Z d_Mo_forgetAll_5 0 rfl ?_
  refine zq_iconst Z (0 : Int32) d_Mo_forgetAll_6 (by decide) ?_
  have hq := Option.bind_eq_some_iff.mp hf
  clear hf
  obtain ⟨S3, h4, hf⟩ := hq
  refine zr_puti Z cd_Mo 13 d_Mo_forgetAll_7 (by decide) m_309 rfl (by decide +kernel) h4 ?_
  refine zq_aload_n Z d_Mo_forgetAll_10 0 rfl ?_
  refine zq_iconst Z (0 : Int32) d_Mo_forgetAll_11 (by decide) ?_
  have hq := Option.bind_eq_some_iff.mp hf
  clear hf
  obtain ⟨S5, h6, hf⟩ := hq
  refine zr_puti Z cd_Mo 9 d_Mo_forgetAll_12 (by decide) m_310 rfl (by decide +kernel) h6 ?_
  refine zq_aload_n Z d_Mo_forgetAll_15 0 rfl ?_
  have hq := zs_C hf
  clear hf
  obtain ⟨h10, hf⟩ := hq
  obtain ⟨fs11, e12⟩ := zs_isS h10
  have hq := zs_bS hf
  clear hf
  obtain ⟨S8, x9, h7, hf⟩ := hq
  refine zq_contR (zq_stepV Z zq_cf1 (c_Mo_toBase hl h7) 4 rfl e12 d_Mo_forgetAll_16 m_311 m_313 m_314 m_312 m_286 p_Mo_toBase ⟨(Nat.le_of_ble_eq_true rfl), (Nat.le_of_ble_eq_true rfl), (Nat.le_of_ble_eq_true rfl), (Nat.le_of_ble_eq_true rfl)⟩ rfl (Nat.le_of_ble_eq_true rfl)) Z.p ?_
  exact zq_vret Z d_Mo_forgetAll_19 (zs_1 hf) (zs_2 (fun _ => (.inl none : zq_R)) hf) ⟨(Nat.le_of_ble_eq_true rfl), (Nat.le_of_ble_eq_true rfl)⟩
theorem d_Mo_forgetFirst_0 : decode b_Mo_forgetFirst 0 = .ok (.aload_n 0, 1) := by decide +kernel
theorem d_Mo_forgetFirst_1 : decode b_Mo_forgetFirst 1 = .ok (.invokevirtual 96, 3) := by decide +kernel
theorem d_Mo_forgetFirst_4 : decode b_Mo_forgetFirst 4 = .ok (.aload_n 0, 1) := by decide +kernel
theorem d_Mo_forgetFirst_5 : decode b_Mo_forgetFirst 5 = .ok (.invokevirtual 99, 3) := by decide +kernel
theorem d_Mo_forgetFirst_8 : decode b_Mo_forgetFirst 8 = .ok (.aload_n 0, 1) := by decide +kernel
theorem d_Mo_forgetFirst_9 : decode b_Mo_forgetFirst 9 = .ok (.getfield 25, 3) := by decide +kernel
theorem d_Mo_forgetFirst_12 : decode b_Mo_forgetFirst 12 = .ok (.iconst 0, 1) := by decide +kernel
theorem d_Mo_forgetFirst_13 : decode b_Mo_forgetFirst 13 = .ok (.iaload, 1) := by decide +kernel
theorem d_Mo_forgetFirst_14 : decode b_Mo_forgetFirst 14 = .ok (.istore_n 1, 1) := by decide +kernel
theorem d_Mo_forgetFirst_15 : decode b_Mo_forgetFirst 15 = .ok (.iconst 0, 1) := by decide +kernel
theorem d_Mo_forgetFirst_16 : decode b_Mo_forgetFirst 16 = .ok (.istore_n 2, 1) := by decide +kernel
theorem d_Mo_forgetFirst_17 : decode b_Mo_forgetFirst 17 = .ok (.iconst 0, 1) := by decide +kernel
theorem d_Mo_forgetFirst_18 : decode b_Mo_forgetFirst 18 = .ok (.istore_n 3, 1) := by decide +kernel
theorem d_Mo_forgetFirst_19 : decode b_Mo_forgetFirst 19 = .ok (.iload_n 3, 1) := by decide +kernel
theorem d_Mo_forgetFirst_20 : decode b_Mo_forgetFirst 20 = .ok (.iload_n 1, 1) := by decide +kernel
theorem d_Mo_forgetFirst_21 : decode b_Mo_forgetFirst 21 = .ok (.if_icmp .ge 26, 3) := by decide +kernel
theorem d_Mo_forgetFirst_24 : decode b_Mo_forgetFirst 24 = .ok (.aload_n 0, 1) := by decide +kernel
theorem d_Mo_forgetFirst_25 : decode b_Mo_forgetFirst 25 = .ok (.aload_n 0, 1) := by decide +kernel
theorem d_Mo_forgetFirst_26 : decode b_Mo_forgetFirst 26 = .ok (.getfield 19, 3) := by decide +kernel
theorem d_Mo_forgetFirst_29 : decode b_Mo_forgetFirst 29 = .ok (.iload_n 3, 1) := by decide +kernel
theorem d_Mo_forgetFirst_30 : decode b_Mo_forgetFirst 30 = .ok (.laload, 1) := by decide +kernel
theorem d_Mo_forgetFirst_31 : decode b_Mo_forgetFirst 31 = .ok (.aload_n 0, 1) := by decide +kernel
theorem d_Mo_forgetFirst_32 : decode b_Mo_forgetFirst 32 = .ok (.getfield 22, 3) := by decide +kernel
theorem d_Mo_forgetFirst_35 : decode b_Mo_forgetFirst 35 = .ok (.iload_n 3, 1) := by decide +kernel
theorem d_Mo_forgetFirst_36 : decode b_Mo_forgetFirst 36 = .ok (.laload, 1) := by decide +kernel
theorem d_Mo_forgetFirst_37 : decode b_Mo_forgetFirst 37 = .ok (.invokevirtual 102, 3) := by decide +kernel
theorem d_Mo_forgetFirst_40 : decode b_Mo_forgetFirst 40 = .ok (.istore_n 2, 1) := by decide +kernel
theorem d_Mo_forgetFirst_41 : decode b_Mo_forgetFirst 41 = .ok (.iinc 3 1, 3) := by decide +kernel
theorem d_Mo_forgetFirst_44 : decode b_Mo_forgetFirst 44 = .ok (.goto (-25), 3) := by decide +kernel
theorem d_Mo_forgetFirst_47 : decode b_Mo_forgetFirst 47 = .ok (.aload_n 0, 1) := by decide +kernel
theorem d_Mo_forgetFirst_48 : decode b_Mo_forgetFirst 48 = .ok (.invokevirtual 93, 3) := by decide +kernel
theorem d_Mo_forgetFirst_51 : decode b_Mo_forgetFirst 51 = .ok (.aload_n 0, 1) := by decide +kernel
theorem d_Mo_forgetFirst_52 : decode b_Mo_forgetFirst 52 = .ok (.aload_n 0, 1) := by decide +kernel
theorem d_Mo_forgetFirst_53 : decode b_Mo_forgetFirst 53 = .ok (.getfield 78, 3) := by decide +kernel
theorem d_Mo_forgetFirst_56 : decode b_Mo_forgetFirst 56 = .ok (.putfield 59, 3) := by decide +kernel
theorem d_Mo_forgetFirst_59 : decode b_Mo_forgetFirst 59 = .ok (.iconst 0, 1) := by decide +kernel
theorem d_Mo_forgetFirst_60 : decode b_Mo_forgetFirst 60 = .ok (.istore_n 3, 1) := by decide +kernel
theorem d_Mo_forgetFirst_61 : decode b_Mo_forgetFirst 61 = .ok (.iload_n 3, 1) := by decide +kernel
theorem d_Mo_forgetFirst_62 : decode b_Mo_forgetFirst 62 = .ok (.aload_n 0, 1) := by decide +kernel
theorem d_Mo_forgetFirst_63 : decode b_Mo_forgetFirst 63 = .ok (.getfield 59, 3) := by decide +kernel
theorem d_Mo_forgetFirst_66 : decode b_Mo_forgetFirst 66 = .ok (.if_icmp .ge 21, 3) := by decide +kernel
theorem d_Mo_forgetFirst_69 : decode b_Mo_forgetFirst 69 = .ok (.aload_n 0, 1) := by decide +kernel
theorem d_Mo_forgetFirst_70 : decode b_Mo_forgetFirst 70 = .ok (.getfield 7, 3) := by decide +kernel
theorem d_Mo_forgetFirst_73 : decode b_Mo_forgetFirst 73 = .ok (.iload_n 3, 1) := by decide +kernel
theorem d_Mo_forgetFirst_74 : decode b_Mo_forgetFirst 74 = .ok (.aload_n 0, 1) := by decide +kernel
theorem d_Mo_forgetFirst_75 : decode b_Mo_forgetFirst 75 = .ok (.getfield 13, 3) := by decide +kernel
theorem d_Mo_forgetFirst_78 : decode b_Mo_forgetFirst 78 = .ok (.iload_n 3, 1) := by decide +kernel
theorem d_Mo_forgetFirst_79 : decode b_Mo_forgetFirst 79 = .ok (.laload, 1) := by decide +kernel
theorem d_Mo_forgetFirst_80 : decode b_Mo_forgetFirst 80 = .ok (.lastore, 1) := by decide +kernel
theorem d_Mo_forgetFirst_81 : decode b_Mo_forgetFirst 81 = .ok (.iinc 3 1, 3) := by decide +kernel
theorem d_Mo_forgetFirst_84 : decode b_Mo_forgetFirst 84 = .ok (.goto (-23), 3) := by decide +kernel
theorem d_Mo_forgetFirst_87 : decode b_Mo_forgetFirst 87 = .ok (.iload_n 1, 1) := by decide +kernel
theorem d_Mo_forgetFirst_88 : decode b_Mo_forgetFirst 88 = .ok (.istore_n 3, 1) := by decide +kernel
theorem d_Mo_forgetFirst_89 : decode b_Mo_forgetFirst 89 = .ok (.iload_n 3, 1) := by decide +kernel
theorem d_Mo_forgetFirst_90 : decode b_Mo_forgetFirst 90 = .ok (.aload_n 0, 1) := by decide +kernel
theorem d_Mo_forgetFirst_91 : decode b_Mo_forgetFirst 91 = .ok (.getfield 90, 3) := by decide +kernel
theorem d_Mo_forgetFirst_94 : decode b_Mo_forgetFirst 94 = .ok (.if_icmp .ge 37, 3) := by decide +kernel
theorem d_Mo_forgetFirst_97 : decode b_Mo_forgetFirst 97 = .ok (.aload_n 0, 1) := by decide +kernel
theorem d_Mo_forgetFirst_98 : decode b_Mo_forgetFirst 98 = .ok (.getfield 19, 3) := by decide +kernel
theorem d_Mo_forgetFirst_101 : decode b_Mo_forgetFirst 101 = .ok (.iload_n 3, 1) := by decide +kernel
theorem d_Mo_forgetFirst_102 : decode b_Mo_forgetFirst 102 = .ok (.iload_n 1, 1) := by decide +kernel
theorem d_Mo_forgetFirst_103 : decode b_Mo_forgetFirst 103 = .ok (.isub, 1) := by decide +kernel
theorem d_Mo_forgetFirst_104 : decode b_Mo_forgetFirst 104 = .ok (.aload_n 0, 1) := by decide +kernel
theorem d_Mo_forgetFirst_105 : decode b_Mo_forgetFirst 105 = .ok (.getfield 19, 3) := by decide +kernel
theorem d_Mo_forgetFirst_108 : decode b_Mo_forgetFirst 108 = .ok (.iload_n 3, 1) := by decide +kernel
theorem d_Mo_forgetFirst_109 : decode b_Mo_forgetFirst 109 = .ok (.laload, 1) := by decide +kernel
theorem d_Mo_forgetFirst_110 : decode b_Mo_forgetFirst 110 = .ok (.lastore, 1) := by decide +kernel
theorem d_Mo_forgetFirst_111 : decode b_Mo_forgetFirst 111 = .ok (.aload_n 0, 1) := by decide +kernel
theorem d_Mo_forgetFirst_112 : decode b_Mo_forgetFirst 112 = .ok (.getfield 22, 3) := by decide +kernel
theorem d_Mo_forgetFirst_115 : decode b_Mo_forgetFirst 115 = .ok (.iload_n 3, 1) := by decide +kernel
theorem d_Mo_forgetFirst_116 : decode b_Mo_forgetFirst 116 = .ok (.iload_n 1, 1) := by decide +kernel
theorem d_Mo_forgetFirst_117 : decode b_Mo_forgetFirst 117 = .ok (.isub, 1) := by decide +kernel
theorem d_Mo_forgetFirst_118 : decode b_Mo_forgetFirst 118 = .ok (.aload_n 0, 1) := by decide +kernel
theorem d_Mo_forgetFirst_119 : decode b_Mo_forgetFirst 119 = .ok (.getfield 22, 3) := by decide +kernel
theorem d_Mo_forgetFirst_122 : decode b_Mo_forgetFirst 122 = .ok (.iload_n 3, 1) := by decide +kernel
theorem d_Mo_forgetFirst_123 : decode b_Mo_forgetFirst 123 = .ok (.laload, 1) := by decide +kernel
theorem d_Mo_forgetFirst_124 : decode b_Mo_forgetFirst 124 = .ok (.lastore, 1) := by decide +kernel
theorem d_Mo_forgetFirst_125 : decode b_Mo_forgetFirst 125 = .ok (.iinc 3 1, 3) := by decide +kernel
theorem d_Mo_forgetFirst_128 : decode b_Mo_forgetFirst 128 = .ok (.goto (-39), 3) := by decide +kernel
theorem d_Mo_forgetFirst_131 : decode b_Mo_forgetFirst 131 = .ok (.aload_n 0, 1) := by decide +kernel
theorem d_Mo_forgetFirst_132 : decode b_Mo_forgetFirst 132 = .ok (.dup, 1) := by decide +kernel
theorem d_Mo_forgetFirst_133 : decode b_Mo_forgetFirst 133 = .ok (.getfield 90, 3) := by decide +kernel
theorem d_Mo_forgetFirst_136 : decode b_Mo_forgetFirst 136 = .ok (.iload_n 1, 1) := by decide +kernel
theorem d_Mo_forgetFirst_137 : decode b_Mo_forgetFirst 137 = .ok (.isub, 1) := by decide +kernel
theorem d_Mo_forgetFirst_138 : decode b_Mo_forgetFirst 138 = .ok (.putfield 90, 3) := by decide +kernel
theorem d_Mo_forgetFirst_141 : decode b_Mo_forgetFirst 141 = .ok (.iconst 1, 1) := by decide +kernel
theorem d_Mo_forgetFirst_142 : decode b_Mo_forgetFirst 142 = .ok (.istore_n 3, 1) := by decide +kernel
theorem d_Mo_forgetFirst_143 : decode b_Mo_forgetFirst 143 = .ok (.iload_n 3, 1) := by decide +kernel
theorem d_Mo_forgetFirst_144 : decode b_Mo_forgetFirst 144 = .ok (.aload_n 0, 1) := by decide +kernel
theorem d_Mo_forgetFirst_145 : decode b_Mo_forgetFirst 145 = .ok (.getfield 84, 3) := by decide +kernel
theorem d_Mo_forgetFirst_148 : decode b_Mo_forgetFirst 148 = .ok (.if_icmp .ge 53, 3) := by decide +kernel
theorem d_Mo_forgetFirst_151 : decode b_Mo_forgetFirst 151 = .ok (.aload_n 0, 1) := by decide +kernel
theorem d_Mo_forgetFirst_152 : decode b_Mo_forgetFirst 152 = .ok (.getfield 25, 3) := by decide +kernel
theorem d_Mo_forgetFirst_155 : decode b_Mo_forgetFirst 155 = .ok (.iload_n 3, 1) := by decide +kernel
theorem d_Mo_forgetFirst_156 : decode b_Mo_forgetFirst 156 = .ok (.iconst 1, 1) := by decide +kernel
theorem d_Mo_forgetFirst_157 : decode b_Mo_forgetFirst 157 = .ok (.isub, 1) := by decide +kernel
theorem d_Mo_forgetFirst_158 : decode b_Mo_forgetFirst 158 = .ok (.aload_n 0, 1) := by decide +kernel
theorem d_Mo_forgetFirst_159 : decode b_Mo_forgetFirst 159 = .ok (.getfield 25, 3) := by decide +kernel
theorem d_Mo_forgetFirst_162 : decode b_Mo_forgetFirst 162 = .ok (.iload_n 3, 1) := by decide +kernel
theorem d_Mo_forgetFirst_163 : decode b_Mo_forgetFirst 163 = .ok (.iaload, 1) := by decide +kernel
theorem d_Mo_forgetFirst_164 : decode b_Mo_forgetFirst 164 = .ok (.iload_n 1, 1) := by decide +kernel
theorem d_Mo_forgetFirst_165 : decode b_Mo_forgetFirst 165 = .ok (.isub, 1) := by decide +kernel
theorem d_Mo_forgetFirst_166 : decode b_Mo_forgetFirst 166 = .ok (.iastore, 1) := by decide +kernel
theorem d_Mo_forgetFirst_167 : decode b_Mo_forgetFirst 167 = .ok (.aload_n 0, 1) := by decide +kernel
theorem d_Mo_forgetFirst_168 : decode b_Mo_forgetFirst 168 = .ok (.getfield 29, 3) := by decide +kernel
theorem d_Mo_forgetFirst_171 : decode b_Mo_forgetFirst 171 = .ok (.iload_n 3, 1) := by decide +kernel
theorem d_Mo_forgetFirst_172 : decode b_Mo_forgetFirst 172 = .ok (.iconst 1, 1) := by decide +kernel
theorem d_Mo_forgetFirst_173 : decode b_Mo_forgetFirst 173 = .ok (.isub, 1) := by decide +kernel
theorem d_Mo_forgetFirst_174 : decode b_Mo_forgetFirst 174 = .ok (.aload_n 0, 1) := by decide +kernel
theorem d_Mo_forgetFirst_175 : decode b_Mo_forgetFirst 175 = .ok (.getfield 29, 3) := by decide +kernel
theorem d_Mo_forgetFirst_178 : decode b_Mo_forgetFirst 178 = .ok (.iload_n 3, 1) := by decide +kernel
theorem d_Mo_forgetFirst_179 : decode b_Mo_forgetFirst 179 = .ok (.iaload, 1) := by decide +kernel
theorem d_Mo_forgetFirst_180 : decode b_Mo_forgetFirst 180 = .ok (.iastore, 1) := by decide +kernel
theorem d_Mo_forgetFirst_181 : decode b_Mo_forgetFirst 181 = .ok (.aload_n 0, 1) := by decide +kernel
theorem d_Mo_forgetFirst_182 : decode b_Mo_forgetFirst 182 = .ok (.getfield 32, 3) := by decide +kernel
theorem d_Mo_forgetFirst_185 : decode b_Mo_forgetFirst 185 = .ok (.iload_n 3, 1) := by decide +kernel
theorem d_Mo_forgetFirst_186 : decode b_Mo_forgetFirst 186 = .ok (.iconst 1, 1) := by decide +kernel
theorem d_Mo_forgetFirst_187 : decode b_Mo_forgetFirst 187 = .ok (.isub, 1) := by decide +kernel
theorem d_Mo_forgetFirst_188 : decode b_Mo_forgetFirst 188 = .ok (.aload_n 0, 1) := by decide +kernel
theorem d_Mo_forgetFirst_189 : decode b_Mo_forgetFirst 189 = .ok (.getfield 32, 3) := by decide +kernel
theorem d_Mo_forgetFirst_192 : decode b_Mo_forgetFirst 192 = .ok (.iload_n 3, 1) := by decide +kernel
theorem d_Mo_forgetFirst_193 : decode b_Mo_forgetFirst 193 = .ok (.iaload, 1) := by decide +kernel
theorem d_Mo_forgetFirst_194 : decode b_Mo_forgetFirst 194 = .ok (.iastore, 1) := by decide +kernel
theorem d_Mo_forgetFirst_195 : decode b_Mo_forgetFirst 195 = .ok (.iinc 3 1, 3) := by decide +kernel
theorem d_Mo_forgetFirst_198 : decode b_Mo_forgetFirst 198 = .ok (.goto (-55), 3) := by decide +kernel
theorem d_Mo_forgetFirst_201 : decode b_Mo_forgetFirst 201 = .ok (.aload_n 0, 1) := by decide +kernel
theorem d_Mo_forgetFirst_202 : decode b_Mo_forgetFirst 202 = .ok (.dup, 1) := by decide +kernel
theorem d_Mo_forgetFirst_203 : decode b_Mo_forgetFirst 203 = .ok (.getfield 84, 3) := by decide +kernel
theorem d_Mo_forgetFirst_206 : decode b_Mo_forgetFirst 206 = .ok (.iconst 1, 1) := by decide +kernel
theorem d_Mo_forgetFirst_207 : decode b_Mo_forgetFirst 207 = .ok (.isub, 1) := by decide +kernel
theorem d_Mo_forgetFirst_208 : decode b_Mo_forgetFirst 208 = .ok (.putfield 84, 3) := by decide +kernel
theorem d_Mo_forgetFirst_211 : decode b_Mo_forgetFirst 211 = .ok (.aload_n 0, 1) := by decide +kernel
theorem d_Mo_forgetFirst_212 : decode b_Mo_forgetFirst 212 = .ok (.aload_n 0, 1) := by decide +kernel
theorem d_Mo_forgetFirst_213 : decode b_Mo_forgetFirst 213 = .ok (.getfield 84, 3) := by decide +kernel
theorem d_Mo_forgetFirst_216 : decode b_Mo_forgetFirst 216 = .ok (.putfield 87, 3) := by decide +kernel
theorem d_Mo_forgetFirst_219 : decode b_Mo_forgetFirst 219 = .ok (.return_, 1) := by decide +kernel
def f_Mo_forgetFirst_143 (k143 : Nat → Int32 → Int32 → zq_S → Option (zq_S × Unit)) (a0 : Nat) (v1 : Int32) (v3 : Int32) (S : zq_S) : Option (zq_S × Unit) :=
  (zs_gi S a0 4 12).bind fun x1 =>
  if x1 ≤ v3 then
    (zs_gi S a0 4 12).bind fun x3 =>
    (zs_p S a0 4 12 (.int (x3 - (1 : Int32)))).bind fun S5 =>
    (zs_gi S5 a0 4 12).bind fun x7 =>
    (zs_p S5 a0 4 13 (.int x7)).bind fun S9 =>
    some (S9, ())
  else
    (zs_gr S a0 4 14).bind fun x11 =>
    (zs_gr S a0 4 14).bind fun x13 =>
    (x13).bind fun a15 =>
    (zs_ial S a15 2 v3).bind fun x17 =>
    (x11).bind fun a19 =>
    (zs_ias S a19 2 (v3 - (1 : Int32)) (x17 - v1)).bind fun S21 =>
    (zs_gr S21 a0 4 15).bind fun x23 =>
    (zs_gr S21 a0 4 15).bind fun x25 =>
    (x25).bind fun a27 =>
    (zs_ial S21 a27 2 v3).bind fun x29 =>
    (x23).bind fun a31 =>
    (zs_ias S21 a31 2 (v3 - (1 : Int32)) x29).bind fun S33 =>
    (zs_gr S33 a0 4 16).bind fun x35 =>
    (zs_gr S33 a0 4 16).bind fun x37 =>
    (x37).bind fun a39 =>
    (zs_ial S33 a39 2 v3).bind fun x41 =>
    (x35).bind fun a43 =>
    (zs_ias S33 a43 2 (v3 - (1 : Int32)) x41).bind fun S45 =>
    k143 a0 v1 (v3 + (1 : Int32)) S45
def g_Mo_forgetFirst_143  : Nat → Nat → Int32 → Int32 → zq_S → Option (zq_S × Unit)
  | 0 => fun _ _ _ _ => none
  | n + 1 => fun a0 v1 v3 S => f_Mo_forgetFirst_143  (g_Mo_forgetFirst_143  n) a0 v1 v3 S
def f_Mo_forgetFirst_89 (k89 : Nat → Int32 → Int32 → zq_S → Option (zq_S × Unit)) (a0 : Nat) (v1 : Int32) (v3 : Int32) (S : zq_S) : Option (zq_S × Unit) :=
  (zs_gi S a0 4 9).bind fun x1 =>
  if x1 ≤ v3 then
    (zs_gi S a0 4 9).bind fun x3 =>
    (zs_p S a0 4 9 (.int (x3 - v1))).bind fun S5 =>
    g_Mo_forgetFirst_143  zq_F a0 v1 (1 : Int32) S5
  else
    (zs_gr S a0 4 10).bind fun x7 =>
    (zs_gr S a0 4 10).bind fun x9 =>
    (x9).bind fun a11 =>
    (zs_lal S a11 0 v3).bind fun x13 =>
    (x7).bind fun a15 =>
    (zs_las S a15 0 (v3 - v1) x13).bind fun S17 =>
    (zs_gr S17 a0 4 11).bind fun x19 =>
    (zs_gr S17 a0 4 11).bind fun x21 =>
    (x21).bind fun a23 =>
    (zs_lal S17 a23 0 v3).bind fun x25 =>
    (x19).bind fun a27 =>
    (zs_las S17 a27 0 (v3 - v1) x25).bind fun S29 =>
    k89 a0 v1 (v3 + (1 : Int32)) S29
def g_Mo_forgetFirst_89  : Nat → Nat → Int32 → Int32 → zq_S → Option (zq_S × Unit)
  | 0 => fun _ _ _ _ => none
  | n + 1 => fun a0 v1 v3 S => f_Mo_forgetFirst_89  (g_Mo_forgetFirst_89  n) a0 v1 v3 S
def f_Mo_forgetFirst_61 (k61 : Nat → Int32 → Int32 → zq_S → Option (zq_S × Unit)) (a0 : Nat) (v1 : Int32) (v3 : Int32) (S : zq_S) : Option (zq_S × Unit) :=
  (zs_gi S a0 4 3).bind fun x1 =>
  if x1 ≤ v3 then
    g_Mo_forgetFirst_89  zq_F a0 v1 v1 S
  else
    (zs_gr S a0 4 4).bind fun x3 =>
    (zs_gr S a0 4 6).bind fun x5 =>
    (x5).bind fun a7 =>
    (zs_lal S a7 0 v3).bind fun x9 =>
    (x3).bind fun a11 =>
    (zs_las S a11 0 v3 x9).bind fun S13 =>
    k61 a0 v1 (v3 + (1 : Int32)) S13
def g_Mo_forgetFirst_61  : Nat → Nat → Int32 → Int32 → zq_S → Option (zq_S × Unit)
  | 0 => fun _ _ _ _ => none
  | n + 1 => fun a0 v1 v3 S => f_Mo_forgetFirst_61  (g_Mo_forgetFirst_61  n) a0 v1 v3 S
def f_Mo_forgetFirst_19 (k19 : Nat → Int32 → Int32 → zq_S → Option (zq_S × Unit)) (a0 : Nat) (v1 : Int32) (v3 : Int32) (S : zq_S) : Option (zq_S × Unit) :=
  if v1 ≤ v3 then
    if zs_is S a0 4 = true then
    zs_b (f_Mo_toBase a0 S) fun S2 _ =>
    (zs_gi S2 a0 4 5).bind fun x7 =>
    (zs_p S2 a0 4 3 (.int x7)).bind fun S9 =>
    g_Mo_forgetFirst_61  zq_F a0 v1 (0 : Int32) S9
    else none
  else
    (zs_gr S a0 4 10).bind fun x11 =>
    (x11).bind fun a13 =>
    (zs_lal S a13 0 v3).bind fun x15 =>
    (zs_gr S a0 4 11).bind fun x17 =>
    (x17).bind fun a19 =>
    (zs_lal S a19 0 v3).bind fun x21 =>
    if zs_is S a0 4 = true then
    zs_b (f_Mo_play a0 x15 x21 S) fun S24 x25 =>
    k19 a0 v1 (v3 + (1 : Int32)) S24
    else none
def g_Mo_forgetFirst_19  : Nat → Nat → Int32 → Int32 → zq_S → Option (zq_S × Unit)
  | 0 => fun _ _ _ _ => none
  | n + 1 => fun a0 v1 v3 S => f_Mo_forgetFirst_19  (g_Mo_forgetFirst_19  n) a0 v1 v3 S
def f_Mo_forgetFirst (a0 : Nat) (S : zq_S) : Option (zq_S × Unit) :=
  if zs_is S a0 4 = true then
  zs_b (f_Mo_keepWas a0 S) fun S2 _ =>
  if zs_is S2 a0 4 = true then
  zs_b (f_Mo_fromBase a0 S2) fun S8 _ =>
  (zs_gr S8 a0 4 14).bind fun x13 =>
  (x13).bind fun a15 =>
  (zs_ial S8 a15 2 (0 : Int32)).bind fun x17 =>
  g_Mo_forgetFirst_19  zq_F a0 x17 (0 : Int32) S8
  else none
  else none
set_option maxHeartbeats 4000000 in
set_option maxRecDepth 100000 in
theorem r_Mo_forgetFirst_143 {l : Launch} (hl : l.stackTraces = false) {G : zq_G} {S0 T : zq_S} {v : Unit} {X : zq_X} (Z : Z_Mo_forgetFirst l G S0 T v X) {k143 : Nat → Int32 → Int32 → zq_S → Option (zq_S × Unit)} (hk143 : ∀ (a0 : Nat) (v1 : Int32) (v3 : Int32) (S : zq_S), k143 a0 v1 v3 S = some (T, v) → zq_W (Y_Mo_forgetFirst l G S0 T v) X 143 [(0, .ref a0), (1, .int v1), (3, .int v3)] [] S 0 0) {a0 : Nat} {v1 : Int32} {v3 : Int32} {S : zq_S} (hf : f_Mo_forgetFirst_143 k143 a0 v1 v3 S = some (T, v)) : zq_W (Y_Mo_forgetFirst l G S0 T v) X 143 [(0, .ref a0), (1, .int v1), (3, .int v3)] [] S 0 0 := by
  unfold f_Mo_forgetFirst_143 at hf
  refine zq_iload_n Z d_Mo_forgetFirst_143 2 rfl ?_
  refine zq_aload_n Z d_Mo_forgetFirst_144 0 rfl ?_
  have hq := Option.bind_eq_some_iff.mp hf
  clear hf
  obtain ⟨x1, h2, hf⟩ := hq
  refine zr_geti Z cd_Mo 12 d_Mo_forgetFirst_145 (by decide) m_308 h2 ?_
  refine zq_icmp_ge Z 201 d_Mo_forgetFirst_148 (by decide) (fun q => ?_) (fun q => ?_)
  · replace hf := zs_T q hf
    refine zq_aload_n Z d_Mo_forgetFirst_201 0 rfl ?_
    refine zq_dup Z d_Mo_forgetFirst_202 rfl ?_
    have hq := Option.bind_eq_some_iff.mp hf
    clear hf
    obtain ⟨x3, h4, hf⟩ := hq
    refine zr_geti Z cd_Mo 12 d_Mo_forgetFirst_203 (by decide) m_308 h4 ?_
    refine zq_iconst Z (1 : Int32) d_Mo_forgetFirst_206 (by decide) ?_
    refine zq_isub Z d_Mo_forgetFirst_207 ?_
    have hq := Option.bind_eq_some_iff.mp hf
    clear hf
    obtain ⟨S5, h6, hf⟩ := hq
    refine zr_puti Z cd_Mo 12 d_Mo_forgetFirst_208 (by decide) m_308 rfl (by decide +kernel) h6 ?_
    refine zq_aload_n Z d_Mo_forgetFirst_211 0 rfl ?_
    refine zq_aload_n Z d_Mo_forgetFirst_212 0 rfl ?_
    have hq := Option.bind_eq_some_iff.mp hf
    clear hf
    obtain ⟨x7, h8, hf⟩ := hq
    refine zr_geti Z cd_Mo 12 d_Mo_forgetFirst_213 (by decide) m_308 h8 ?_
    have hq := Option.bind_eq_some_iff.mp hf
    clear hf
    obtain ⟨S9, h10, hf⟩ := hq
    refine zr_puti Z cd_Mo 13 d_Mo_forgetFirst_216 (by decide) m_309 rfl (by decide +kernel) h10 ?_
    exact zq_vret Z d_Mo_forgetFirst_219 (zs_1 hf) (zs_2 (fun _ => (.inl none : zq_R)) hf) ⟨(Nat.le_of_ble_eq_true rfl), (Nat.le_of_ble_eq_true rfl)⟩
  · replace hf := zs_N q hf
    refine zq_aload_n Z d_Mo_forgetFirst_151 0 rfl ?_
    have hq := Option.bind_eq_some_iff.mp hf
    clear hf
    obtain ⟨x11, h12, hf⟩ := hq
    refine zr_getr Z cd_Mo 14 d_Mo_forgetFirst_152 (by decide) m_276 h12 ?_
    refine zq_iload_n Z d_Mo_forgetFirst_155 2 rfl ?_
    refine zq_iconst Z (1 : Int32) d_Mo_forgetFirst_156 (by decide) ?_
    refine zq_isub Z d_Mo_forgetFirst_157 ?_
    refine zq_aload_n Z d_Mo_forgetFirst_158 0 rfl ?_
    have hq := Option.bind_eq_some_iff.mp hf
    clear hf
    obtain ⟨x13, h14, hf⟩ := hq
    refine zr_getr Z cd_Mo 14 d_Mo_forgetFirst_159 (by decide) m_276 h14 ?_
    refine zq_iload_n Z d_Mo_forgetFirst_162 2 rfl ?_
    have hq := Option.bind_eq_some_iff.mp hf
    clear hf
    obtain ⟨a15, h16, hf⟩ := hq
    subst h16
    have hq := Option.bind_eq_some_iff.mp hf
    clear hf
    obtain ⟨x17, h18, hf⟩ := hq
    refine zr_iaload Z 2 (fun _ => rfl) d_Mo_forgetFirst_163 h18 ?_
    refine zq_iload_n Z d_Mo_forgetFirst_164 1 rfl ?_
    refine zq_isub Z d_Mo_forgetFirst_165 ?_
    have hq := Option.bind_eq_some_iff.mp hf
    clear hf
    obtain ⟨a19, h20, hf⟩ := hq
    subst h20
    have hq := Option.bind_eq_some_iff.mp hf
    clear hf
    obtain ⟨S21, h22, hf⟩ := hq
    refine zr_iastore Z 2 (fun _ => rfl) d_Mo_forgetFirst_166 h22 ?_
    refine zq_aload_n Z d_Mo_forgetFirst_167 0 rfl ?_
    have hq := Option.bind_eq_some_iff.mp hf
    clear hf
    obtain ⟨x23, h24, hf⟩ := hq
    refine zr_getr Z cd_Mo 15 d_Mo_forgetFirst_168 (by decide) m_277 h24 ?_
    refine zq_iload_n Z d_Mo_forgetFirst_171 2 rfl ?_
    refine zq_iconst Z (1 : Int32) d_Mo_forgetFirst_172 (by decide) ?_
    refine zq_isub Z d_Mo_forgetFirst_173 ?_
    refine zq_aload_n Z d_Mo_forgetFirst_174 0 rfl ?_
    have hq := Option.bind_eq_some_iff.mp hf
    clear hf
    obtain ⟨x25, h26, hf⟩ := hq
    refine zr_getr Z cd_Mo 15 d_Mo_forgetFirst_175 (by decide) m_277 h26 ?_
    refine zq_iload_n Z d_Mo_forgetFirst_178 2 rfl ?_
    have hq := Option.bind_eq_some_iff.mp hf
    clear hf
    obtain ⟨a27, h28, hf⟩ := hq
    subst h28
    have hq := Option.bind_eq_some_iff.mp hf
    clear hf
    obtain ⟨x29, h30, hf⟩ := hq
    refine zr_iaload Z 2 (fun _ => rfl) d_Mo_forgetFirst_179 h30 ?_
    have hq := Option.bind_eq_some_iff.mp hf
    clear hf
    obtain ⟨a31, h32, hf⟩ := hq
    subst h32
    have hq := Option.bind_eq_some_iff.mp hf
    clear hf
    obtain ⟨S33, h34, hf⟩ := hq
    refine zr_iastore Z 2 (fun _ => rfl) d_Mo_forgetFirst_180 h34 ?_
    refine zq_aload_n Z d_Mo_forgetFirst_181 0 rfl ?_
    have hq := Option.bind_eq_some_iff.mp hf
    clear hf
    obtain ⟨x35, h36, hf⟩ := hq
    refine zr_getr Z cd_Mo 16 d_Mo_forgetFirst_182 (by decide) m_278 h36 ?_
    refine zq_iload_n Z d_Mo_forgetFirst_185 2 rfl ?_
    refine zq_iconst Z (1 : Int32) d_Mo_forgetFirst_186 (by decide) ?_
    refine zq_isub Z d_Mo_forgetFirst_187 ?_
    refine zq_aload_n Z d_Mo_forgetFirst_188 0 rfl ?_
    have hq := Option.bind_eq_some_iff.mp hf
    clear hf
    obtain ⟨x37, h38, hf⟩ := hq
    refine zr_getr Z cd_Mo 16 d_Mo_forgetFirst_189 (by decide) m_278 h38 ?_
    refine zq_iload_n Z d_Mo_forgetFirst_192 2 rfl ?_
    have hq := Option.bind_eq_some_iff.mp hf
    clear hf
    obtain ⟨a39, h40, hf⟩ := hq
    subst h40
    have hq := Option.bind_eq_some_iff.mp hf
    clear hf
    obtain ⟨x41, h42, hf⟩ := hq
    refine zr_iaload Z 2 (fun _ => rfl) d_Mo_forgetFirst_193 h42 ?_
    have hq := Option.bind_eq_some_iff.mp hf
    clear hf
    obtain ⟨a43, h44, hf⟩ := hq
    subst h44
    have hq := Option.bind_eq_some_iff.mp hf
    clear hf
    obtain ⟨S45, h46, hf⟩ := hq
    refine zr_iastore Z 2 (fun _ => rfl) d_Mo_forgetFirst_194 h46 ?_
    refine zq_iinc Z (v3 + (1 : Int32)) [(3, .int (v3 + (1 : Int32))), (0, .ref a0), (1, .int v1)] d_Mo_forgetFirst_195 2 rfl rfl (by decide) rfl ?_
    refine zq_goto Z 143 d_Mo_forgetFirst_198 (by decide) ?_
    refine zq_sub (lo' := [(0, .ref a0), (1, .int v1), (3, .int (v3 + (1 : Int32)))]) [1, 2, 0] rfl ?_
    exact hk143 _ _ _ _ hf
theorem w_Mo_forgetFirst_143 {l : Launch} (hl : l.stackTraces = false) {G : zq_G} {S0 T : zq_S} {v : Unit} {X : zq_X} (Z : Z_Mo_forgetFirst l G S0 T v X) : ∀ (n : Nat) (a0 : Nat) (v1 : Int32) (v3 : Int32) (S : zq_S), g_Mo_forgetFirst_143  n a0 v1 v3 S = some (T, v) → zq_W (Y_Mo_forgetFirst l G S0 T v) X 143 [(0, .ref a0), (1, .int v1), (3, .int v3)] [] S 0 0 := by
  intro n
  induction n with
  | zero => intro a0 v1 v3 S hf; cases hf
  | succ n ih =>
    intro a0 v1 v3 S hf
    have hf : f_Mo_forgetFirst_143  (g_Mo_forgetFirst_143  n) a0 v1 v3 S = some (T, v) := hf
    exact r_Mo_forgetFirst_143 hl Z  ih hf
set_option maxHeartbeats 4000000 in
set_option maxRecDepth 100000 in
theorem r_Mo_forgetFirst_89 {l : Launch} (hl : l.stackTraces = false) {G : zq_G} {S0 T : zq_S} {v : Unit} {X : zq_X} (Z : Z_Mo_forgetFirst l G S0 T v X) {k89 : Nat → Int32 → Int32 → zq_S → Option (zq_S × Unit)} (hk89 : ∀ (a0 : Nat) (v1 : Int32) (v3 : Int32) (S : zq_S), k89 a0 v1 v3 S = some (T, v) → zq_W (Y_Mo_forgetFirst l G S0 T v) X 89 [(0, .ref a0), (1, .int v1), (3, .int v3)] [] S 0 0) {a0 : Nat} {v1 : Int32} {v3 : Int32} {S : zq_S} (hf : f_Mo_forgetFirst_89 k89 a0 v1 v3 S = some (T, v)) : zq_W (Y_Mo_forgetFirst l G S0 T v) X 89 [(0, .ref a0), (1, .int v1), (3, .int v3)] [] S 0 0 := by
  unfold f_Mo_forgetFirst_89 at hf
  refine zq_iload_n Z d_Mo_forgetFirst_89 2 rfl ?_
  refine zq_aload_n Z d_Mo_forgetFirst_90 0 rfl ?_
  have hq := Option.bind_eq_some_iff.mp hf
  clear hf
  obtain ⟨x1, h2, hf⟩ := hq
  refine zr_geti Z cd_Mo 9 d_Mo_forgetFirst_91 (by decide) m_310 h2 ?_
  refine zq_icmp_ge Z 131 d_Mo_forgetFirst_94 (by decide) (fun q => ?_) (fun q => ?_)
  · replace hf := zs_T q hf
    refine zq_aload_n Z d_Mo_forgetFirst_131 0 rfl ?_
    refine zq_dup Z d_Mo_forgetFirst_132 rfl ?_
    have hq := Option.bind_eq_some_iff.mp hf
    clear hf
    obtain ⟨x3, h4, hf⟩ := hq
    refine zr_geti Z cd_Mo 9 d_Mo_forgetFirst_133 (by decide) m_310 h4 ?_
    refine zq_iload_n Z d_Mo_forgetFirst_136 1 rfl ?_
    refine zq_isub Z d_Mo_forgetFirst_137 ?_
    have hq := Option.bind_eq_some_iff.mp hf
    clear hf
    obtain ⟨S5, h6, hf⟩ := hq
    refine zr_puti Z cd_Mo 9 d_Mo_forgetFirst_138 (by decide) m_310 rfl (by decide +kernel) h6 ?_
    refine zq_iconst Z (1 : Int32) d_Mo_forgetFirst_141 (by decide) ?_
    refine zq_istore_n Z rfl [(3, .int (1 : Int32)), (0, .ref a0), (1, .int v1)] d_Mo_forgetFirst_142 (by decide) rfl ?_
    refine zq_sub (lo' := [(0, .ref a0), (1, .int v1), (3, .int (1 : Int32))]) [1, 2, 0] rfl ?_
    exact w_Mo_forgetFirst_143 hl Z  _ _ _ _ _ hf
  · replace hf := zs_N q hf
    refine zq_aload_n Z d_Mo_forgetFirst_97 0 rfl ?_
    have hq := Option.bind_eq_some_iff.mp hf
    clear hf
    obtain ⟨x7, h8, hf⟩ := hq
    refine zr_getr Z cd_Mo 10 d_Mo_forgetFirst_98 (by decide) m_273 h8 ?_
    refine zq_iload_n Z d_Mo_forgetFirst_101 2 rfl ?_
    refine zq_iload_n Z d_Mo_forgetFirst_102 1 rfl ?_
    refine zq_isub Z d_Mo_forgetFirst_103 ?_
    refine zq_aload_n Z d_Mo_forgetFirst_104 0 rfl ?_
    have hq := Option.bind_eq_some_iff.mp hf
    clear hf
    obtain ⟨x9, h10, hf⟩ := hq
    refine zr_getr Z cd_Mo 10 d_Mo_forgetFirst_105 (by decide) m_273 h10 ?_
    refine zq_iload_n Z d_Mo_forgetFirst_108 2 rfl ?_
    have hq := Option.bind_eq_some_iff.mp hf
    clear hf
    obtain ⟨a11, h12, hf⟩ := hq
    subst h12
    have hq := Option.bind_eq_some_iff.mp hf
    clear hf
    obtain ⟨x13, h14, hf⟩ := hq
    refine zr_laload Z 0 (fun _ => rfl) d_Mo_forgetFirst_109 h14 ?_
    have hq := Option.bind_eq_some_iff.mp hf
    clear hf
    obtain ⟨a15, h16, hf⟩ := hq
    subst h16
    have hq := Option.bind_eq_some_iff.mp hf
    clear hf
    obtain ⟨S17, h18, hf⟩ := hq
    refine zr_lastore Z 0 (fun _ => rfl) d_Mo_forgetFirst_110 h18 ?_
    refine zq_aload_n Z d_Mo_forgetFirst_111 0 rfl ?_
    have hq := Option.bind_eq_some_iff.mp hf
    clear hf
    obtain ⟨x19, h20, hf⟩ := hq
    refine zr_getr Z cd_Mo 11 d_Mo_forgetFirst_112 (by decide) m_274 h20 ?_
    refine zq_iload_n Z d_Mo_forgetFirst_115 2 rfl ?_
    refine zq_iload_n Z d_Mo_forgetFirst_116 1 rfl ?_
    refine zq_isub Z d_Mo_forgetFirst_117 ?_
    refine zq_aload_n Z d_Mo_forgetFirst_118 0 rfl ?_
    have hq := Option.bind_eq_some_iff.mp hf
    clear hf
    obtain ⟨x21, h22, hf⟩ := hq
    refine zr_getr Z cd_Mo 11 d_Mo_forgetFirst_119 (by decide) m_274 h22 ?_
    refine zq_iload_n Z d_Mo_forgetFirst_122 2 rfl ?_
    have hq := Option.bind_eq_some_iff.mp hf
    clear hf
    obtain ⟨a23, h24, hf⟩ := hq
    subst h24
    have hq := Option.bind_eq_some_iff.mp hf
    clear hf
    obtain ⟨x25, h26, hf⟩ := hq
    refine zr_laload Z 0 (fun _ => rfl) d_Mo_forgetFirst_123 h26 ?_
    have hq := Option.bind_eq_some_iff.mp hf
    clear hf
    obtain ⟨a27, h28, hf⟩ := hq
    subst h28
    have hq := Option.bind_eq_some_iff.mp hf
    clear hf
    obtain ⟨S29, h30, hf⟩ := hq
    refine zr_lastore Z 0 (fun _ => rfl) d_Mo_forgetFirst_124 h30 ?_
    refine zq_iinc Z (v3 + (1 : Int32)) [(3, .int (v3 + (1 : Int32))), (0, .ref a0), (1, .int v1)] d_Mo_forgetFirst_125 2 rfl rfl (by decide) rfl ?_
    refine zq_goto Z 89 d_Mo_forgetFirst_128 (by decide) ?_
    refine zq_sub (lo' := [(0, .ref a0), (1, .int v1), (3, .int (v3 + (1 : Int32)))]) [1, 2, 0] rfl ?_
    exact hk89 _ _ _ _ hf
theorem w_Mo_forgetFirst_89 {l : Launch} (hl : l.stackTraces = false) {G : zq_G} {S0 T : zq_S} {v : Unit} {X : zq_X} (Z : Z_Mo_forgetFirst l G S0 T v X) : ∀ (n : Nat) (a0 : Nat) (v1 : Int32) (v3 : Int32) (S : zq_S), g_Mo_forgetFirst_89  n a0 v1 v3 S = some (T, v) → zq_W (Y_Mo_forgetFirst l G S0 T v) X 89 [(0, .ref a0), (1, .int v1), (3, .int v3)] [] S 0 0 := by
  intro n
  induction n with
  | zero => intro a0 v1 v3 S hf; cases hf
  | succ n ih =>
    intro a0 v1 v3 S hf
    have hf : f_Mo_forgetFirst_89  (g_Mo_forgetFirst_89  n) a0 v1 v3 S = some (T, v) := hf
    exact r_Mo_forgetFirst_89 hl Z  ih hf
set_option maxHeartbeats 4000000 in
set_option maxRecDepth 100000 in
theorem r_Mo_forgetFirst_61 {l : Launch} (hl : l.stackTraces = false) {G : zq_G} {S0 T : zq_S} {v : Unit} {X : zq_X} (Z : Z_Mo_forgetFirst l G S0 T v X) {k61 : Nat → Int32 → Int32 → zq_S → Option (zq_S × Unit)} (hk61 : ∀ (a0 : Nat) (v1 : Int32) (v3 : Int32) (S : zq_S), k61 a0 v1 v3 S = some (T, v) → zq_W (Y_Mo_forgetFirst l G S0 T v) X 61 [(0, .ref a0), (1, .int v1), (3, .int v3)] [] S 0 0) {a0 : Nat} {v1 : Int32} {v3 : Int32} {S : zq_S} (hf : f_Mo_forgetFirst_61 k61 a0 v1 v3 S = some (T, v)) : zq_W (Y_Mo_forgetFirst l G S0 T v) X 61 [(0, .ref a0), (1, .int v1), (3, .int v3)] [] S 0 0 := by
  unfold f_Mo_forgetFirst_61 at hf
  refine zq_iload_n Z d_Mo_forgetFirst_61 2 rfl ?_
  refine zq_aload_n Z d_Mo_forgetFirst_62 0 rfl ?_
  have hq := Option.bind_eq_some_iff.mp hf
  clear hf
  obtain ⟨x1, h2, hf⟩ := hq
  refine zr_geti Z cd_Mo 3 d_Mo_forgetFirst_63 (by decide) m_288 h2 ?_
  refine zq_icmp_ge Z 87 d_Mo_forgetFirst_66 (by decide) (fun q => ?_) (fun q => ?_)
  · replace hf := zs_T q hf
    refine zq_iload_n Z d_Mo_forgetFirst_87 1 rfl ?_
    refine zq_istore_n Z rfl [(3, .int v1), (0, .ref a0), (1, .int v1)] d_Mo_forgetFirst_88 (by decide) rfl ?_
    refine zq_sub (lo' := [(0, .ref a0), (1, .int v1), (3, .int v1)]) [1, 2, 0] rfl ?_
    exact w_Mo_forgetFirst_89 hl Z  _ _ _ _ _ hf
  · replace hf := zs_N q hf
    refine zq_aload_n Z d_Mo_forgetFirst_69 0 rfl ?_
    have hq := Option.bind_eq_some_iff.mp hf
    clear hf
    obtain ⟨x3, h4, hf⟩ := hq
    refine zr_getr Z cd_Mo 4 d_Mo_forgetFirst_70 (by decide) m_270 h4 ?_
    refine zq_iload_n Z d_Mo_forgetFirst_73 2 rfl ?_
    refine zq_aload_n Z d_Mo_forgetFirst_74 0 rfl ?_
    have hq := Option.bind_eq_some_iff.mp hf
    clear hf
    obtain ⟨x5, h6, hf⟩ := hq
    refine zr_getr Z cd_Mo 6 d_Mo_forgetFirst_75 (by decide) m_271 h6 ?_
    refine zq_iload_n Z d_Mo_forgetFirst_78 2 rfl ?_
    have hq := Option.bind_eq_some_iff.mp hf
    clear hf
    obtain ⟨a7, h8, hf⟩ := hq
    subst h8
    have hq := Option.bind_eq_some_iff.mp hf
    clear hf
    obtain ⟨x9, h10, hf⟩ := hq
    refine zr_laload Z 0 (fun _ => rfl) d_Mo_forgetFirst_79 h10 ?_
    have hq := Option.bind_eq_some_iff.mp hf
    clear hf
    obtain ⟨a11, h12, hf⟩ := hq
    subst h12
    have hq := Option.bind_eq_some_iff.mp hf
    clear hf
    obtain ⟨S13, h14, hf⟩ := hq
    refine zr_lastore Z 0 (fun _ => rfl) d_Mo_forgetFirst_80 h14 ?_
    refine zq_iinc Z (v3 + (1 : Int32)) [(3, .int (v3 + (1 : Int32))), (0, .ref a0), (1, .int v1)] d_Mo_forgetFirst_81 2 rfl rfl (by decide) rfl ?_
    refine zq_goto Z 61 d_Mo_forgetFirst_84 (by decide) ?_
    refine zq_sub (lo' := [(0, .ref a0), (1, .int v1), (3, .int (v3 + (1 : Int32)))]) [1, 2, 0] rfl ?_
    exact hk61 _ _ _ _ hf
theorem w_Mo_forgetFirst_61 {l : Launch} (hl : l.stackTraces = false) {G : zq_G} {S0 T : zq_S} {v : Unit} {X : zq_X} (Z : Z_Mo_forgetFirst l G S0 T v X) : ∀ (n : Nat) (a0 : Nat) (v1 : Int32) (v3 : Int32) (S : zq_S), g_Mo_forgetFirst_61  n a0 v1 v3 S = some (T, v) → zq_W (Y_Mo_forgetFirst l G S0 T v) X 61 [(0, .ref a0), (1, .int v1), (3, .int v3)] [] S 0 0 := by
  intro n
  induction n with
  | zero => intro a0 v1 v3 S hf; cases hf
  | succ n ih =>
    intro a0 v1 v3 S hf
    have hf : f_Mo_forgetFirst_61  (g_Mo_forgetFirst_61  n) a0 v1 v3 S = some (T, v) := hf
    exact r_Mo_forgetFirst_61 hl Z  ih hf
set_option maxHeartbeats 4000000 in
set_option maxRecDepth 100000 in
theorem r_Mo_forgetFirst_19 {l : Launch} (hl : l.stackTraces = false) {G : zq_G} {S0 T : zq_S} {v : Unit} {X : zq_X} (Z : Z_Mo_forgetFirst l G S0 T v X) {k19 : Nat → Int32 → Int32 → zq_S → Option (zq_S × Unit)} (hk19 : ∀ (a0 : Nat) (v1 : Int32) (v3 : Int32) (S : zq_S), k19 a0 v1 v3 S = some (T, v) → zq_W (Y_Mo_forgetFirst l G S0 T v) X 19 [(0, .ref a0), (1, .int v1), (3, .int v3)] [] S 0 0) {a0 : Nat} {v1 : Int32} {v3 : Int32} {S : zq_S} (hf : f_Mo_forgetFirst_19 k19 a0 v1 v3 S = some (T, v)) : zq_W (Y_Mo_forgetFirst l G S0 T v) X 19 [(0, .ref a0), (1, .int v1), (3, .int v3)] [] S 0 0 := by
  unfold f_Mo_forgetFirst_19 at hf
  refine zq_iload_n Z d_Mo_forgetFirst_19 2 rfl ?_
  refine zq_iload_n Z d_Mo_forgetFirst_20 1 rfl ?_
  refine zq_icmp_ge Z 47 d_Mo_forgetFirst_21 (by decide) (fun q => ?_) (fun q => ?_)
  · replace hf := zs_T q hf
    refine zq_aload_n Z d_Mo_forgetFirst_47 0 rfl ?_
    have hq := zs_C hf
    clear hf
    obtain ⟨h4, hf⟩ := hq
    obtain ⟨fs5, e6⟩ := zs_isS h4
    have hq := zs_bS hf
    clear hf
    obtain ⟨S2, x3, h1, hf⟩ := hq
    refine zq_contR (zq_stepV Z zq_cf1 (c_Mo_toBase hl h1) 4 rfl e6 d_Mo_forgetFirst_48 m_311 m_313 m_314 m_312 m_286 p_Mo_toBase ⟨(Nat.le_of_ble_eq_true rfl), (Nat.le_of_ble_eq_true rfl), (Nat.le_of_ble_eq_true rfl), (Nat.le_of_ble_eq_true rfl)⟩ rfl (Nat.le_of_ble_eq_true rfl)) Z.p ?_
    refine zq_aload_n Z d_Mo_forgetFirst_51 0 rfl ?_
    refine zq_aload_n Z d_Mo_forgetFirst_52 0 rfl ?_
    have hq := Option.bind_eq_some_iff.mp hf
    clear hf
    obtain ⟨x7, h8, hf⟩ := hq
    refine zr_geti Z cd_Mo 5 d_Mo_forgetFirst_53 (by decide) m_306 h8 ?_
    have hq := Option.bind_eq_some_iff.mp hf
    clear hf
    obtain ⟨S9, h10, hf⟩ := hq
    refine zr_puti Z cd_Mo 3 d_Mo_forgetFirst_56 (by decide) m_288 rfl (by decide +kernel) h10 ?_
    refine zq_iconst Z (0 : Int32) d_Mo_forgetFirst_59 (by decide) ?_
    refine zq_istore_n Z rfl [(3, .int (0 : Int32)), (0, .ref a0), (1, .int v1)] d_Mo_forgetFirst_60 (by decide) rfl ?_
    refine zq_sub (lo' := [(0, .ref a0), (1, .int v1), (3, .int (0 : Int32))]) [1, 2, 0] rfl ?_
    exact w_Mo_forgetFirst_61 hl Z  _ _ _ _ _ hf
  · replace hf := zs_N q hf
    refine zq_aload_n Z d_Mo_forgetFirst_24 0 rfl ?_
    refine zq_aload_n Z d_Mo_forgetFirst_25 0 rfl ?_
    have hq := Option.bind_eq_some_iff.mp hf
    clear hf
    obtain ⟨x11, h12, hf⟩ := hq
    refine zr_getr Z cd_Mo 10 d_Mo_forgetFirst_26 (by decide) m_273 h12 ?_
    refine zq_iload_n Z d_Mo_forgetFirst_29 2 rfl ?_
    have hq := Option.bind_eq_some_iff.mp hf
    clear hf
    obtain ⟨a13, h14, hf⟩ := hq
    subst h14
    have hq := Option.bind_eq_some_iff.mp hf
    clear hf
    obtain ⟨x15, h16, hf⟩ := hq
    refine zr_laload Z 0 (fun _ => rfl) d_Mo_forgetFirst_30 h16 ?_
    refine zq_aload_n Z d_Mo_forgetFirst_31 0 rfl ?_
    have hq := Option.bind_eq_some_iff.mp hf
    clear hf
    obtain ⟨x17, h18, hf⟩ := hq
    refine zr_getr Z cd_Mo 11 d_Mo_forgetFirst_32 (by decide) m_274 h18 ?_
    refine zq_iload_n Z d_Mo_forgetFirst_35 2 rfl ?_
    have hq := Option.bind_eq_some_iff.mp hf
    clear hf
    obtain ⟨a19, h20, hf⟩ := hq
    subst h20
    have hq := Option.bind_eq_some_iff.mp hf
    clear hf
    obtain ⟨x21, h22, hf⟩ := hq
    refine zr_laload Z 0 (fun _ => rfl) d_Mo_forgetFirst_36 h22 ?_
    have hq := zs_C hf
    clear hf
    obtain ⟨h26, hf⟩ := hq
    obtain ⟨fs27, e28⟩ := zs_isS h26
    have hq := zs_bS hf
    clear hf
    obtain ⟨S24, x25, h23, hf⟩ := hq
    refine zq_contR (zq_stepV Z zq_cf1 (c_Mo_play hl h23) 4 rfl e28 d_Mo_forgetFirst_37 m_315 m_317 m_318 m_316 m_286 p_Mo_play ⟨(Nat.le_of_ble_eq_true rfl), (Nat.le_of_ble_eq_true rfl), (Nat.le_of_ble_eq_true rfl), (Nat.le_of_ble_eq_true rfl)⟩ rfl (Nat.le_of_ble_eq_true rfl)) Z.p ?_
    refine zq_istore_n Z rfl [(2, .int x25), (0, .ref a0), (1, .int v1), (3, .int v3)] d_Mo_forgetFirst_40 (by decide) rfl ?_
    refine zq_iinc Z (v3 + (1 : Int32)) [(3, .int (v3 + (1 : Int32))), (2, .int x25), (0, .ref a0), (1, .int v1)] d_Mo_forgetFirst_41 3 rfl rfl (by decide) rfl ?_
    refine zq_goto Z 19 d_Mo_forgetFirst_44 (by decide) ?_
    refine zq_sub (lo' := [(0, .ref a0), (1, .int v1), (3, .int (v3 + (1 : Int32)))]) [2, 3, 0] rfl ?_
    exact hk19 _ _ _ _ hf
theorem w_Mo_forgetFirst_19 {l : Launch} (hl : l.stackTraces = false) {G : zq_G} {S0 T : zq_S} {v : Unit} {X : zq_X} (Z : Z_Mo_forgetFirst l G S0 T v X) : ∀ (n : Nat) (a0 : Nat) (v1 : Int32) (v3 : Int32) (S : zq_S), g_Mo_forgetFirst_19  n a0 v1 v3 S = some (T, v) → zq_W (Y_Mo_forgetFirst l G S0 T v) X 19 [(0, .ref a0), (1, .int v1), (3, .int v3)] [] S 0 0 := by
  intro n
  induction n with
  | zero => intro a0 v1 v3 S hf; cases hf
  | succ n ih =>
    intro a0 v1 v3 S hf
    have hf : f_Mo_forgetFirst_19  (g_Mo_forgetFirst_19  n) a0 v1 v3 S = some (T, v) := hf
    exact r_Mo_forgetFirst_19 hl Z  ih hf
set_option maxHeartbeats 4000000 in
set_option maxRecDepth 100000 in
theorem c_Mo_forgetFirst {l : Launch} (hl : l.stackTraces = false) {G : zq_G} {a0 : Nat} {S0 T : zq_S} {v : Unit} (hf : f_Mo_forgetFirst a0 S0 = some (T, v)) : zq_M l y_Mo_forgetFirst (.code y_Mo_forgetFirst b_Mo_forgetFirst 4 none) rm_Mo_forgetFirst G [.ref a0] S0 ((.inl none : zq_R)) T := by
  refine zq_Mof (lo := [(0, .ref a0)]) hl (by decide) (Nat.le_of_ble_eq_true rfl) rfl (fun X Z => ?_)
  have Z : Z_Mo_forgetFirst l G S0 T v X := Z
  show zq_W (Y_Mo_forgetFirst l G S0 T v) X 0 [(0, .ref a0)] [] S0 0 0
  unfold f_Mo_forgetFirst at hf
  refine zq_aload_n Z d_Mo_forgetFirst_0 0 rfl ?_
  have hq := zs_C hf
  clear hf
  obtain ⟨h4, hf⟩ := hq
  obtain ⟨fs5, e6⟩ := zs_isS h4
  have hq := zs_bS hf
  clear hf
  obtain ⟨S2, x3, h1, hf⟩ := hq
  refine zq_contR (zq_stepV Z zq_cf1 (c_Mo_keepWas hl h1) 4 rfl e6 d_Mo_forgetFirst_1 m_319 m_321 m_322 m_320 m_286 p_Mo_keepWas ⟨(Nat.le_of_ble_eq_true rfl), (Nat.le_of_ble_eq_true rfl), (Nat.le_of_ble_eq_true rfl), (Nat.le_of_ble_eq_true rfl)⟩ rfl (Nat.le_of_ble_eq_true rfl)) Z.p ?_
  refine zq_aload_n Z d_Mo_forgetFirst_4 0 rfl ?_
  have hq := zs_C hf
  clear hf
  obtain ⟨h10, hf⟩ := hq
  obtain ⟨fs11, e12⟩ := zs_isS h10
  have hq := zs_bS hf
  clear hf
  obtain ⟨S8, x9, h7, hf⟩ := hq
  refine zq_contR (zq_stepV Z zq_cf1 (c_Mo_fromBase hl h7) 4 rfl e12 d_Mo_forgetFirst_5 m_323 m_325 m_326 m_324 m_286 p_Mo_fromBase ⟨(Nat.le_of_ble_eq_true rfl), (Nat.le_of_ble_eq_true rfl), (Nat.le_of_ble_eq_true rfl), (Nat.le_of_ble_eq_true rfl)⟩ rfl (Nat.le_of_ble_eq_true rfl)) Z.p ?_
  refine zq_aload_n Z d_Mo_forgetFirst_8 0 rfl ?_
  have hq := Option.bind_eq_some_iff.mp hf
  clear hf
  obtain ⟨x13, h14, hf⟩ := hq
  refine zr_getr Z cd_Mo 14 d_Mo_forgetFirst_9 (by decide) m_276 h14 ?_
  refine zq_iconst Z (0 : Int32) d_Mo_forgetFirst_12 (by decide) ?_
  have hq := Option.bind_eq_some_iff.mp hf
  clear hf
  obtain ⟨a15, h16, hf⟩ := hq
  subst h16
  have hq := Option.bind_eq_some_iff.mp hf
  clear hf
  obtain ⟨x17, h18, hf⟩ := hq
  refine zr_iaload Z 2 (fun _ => rfl) d_Mo_forgetFirst_13 h18 ?_
  refine zq_istore_n Z rfl [(1, .int x17), (0, .ref a0)] d_Mo_forgetFirst_14 (by decide) rfl ?_
  refine zq_iconst Z (0 : Int32) d_Mo_forgetFirst_15 (by decide) ?_
  refine zq_istore_n Z rfl [(2, .int (0 : Int32)), (1, .int x17), (0, .ref a0)] d_Mo_forgetFirst_16 (by decide) rfl ?_
  refine zq_iconst Z (0 : Int32) d_Mo_forgetFirst_17 (by decide) ?_
  refine zq_istore_n Z rfl [(3, .int (0 : Int32)), (2, .int (0 : Int32)), (1, .int x17), (0, .ref a0)] d_Mo_forgetFirst_18 (by decide) rfl ?_
  refine zq_sub (lo' := [(0, .ref a0), (1, .int x17), (3, .int (0 : Int32))]) [3, 2, 0] rfl ?_
  exact w_Mo_forgetFirst_19 hl Z  _ _ _ _ _ hf
