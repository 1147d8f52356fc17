theorem d_CT_isOwn_0 : decode b_CT_isOwn 0 = .ok (.lload_n 1, 1) := by decide +kernel
theorem d_CT_isOwn_1 : decode b_CT_isOwn 1 = .ok (.bipush 16, 2) := by decide +kernel
theorem d_CT_isOwn_3 : decode b_CT_isOwn 3 = .ok (.invokestatic 99, 3) := by decide +kernel
theorem d_CT_isOwn_6 : decode b_CT_isOwn 6 = .ok (.aload_n 0, 1) := by decide +kernel
theorem d_CT_isOwn_7 : decode b_CT_isOwn 7 = .ok (.invokevirtual 67, 3) := by decide +kernel
theorem d_CT_isOwn_10 : decode b_CT_isOwn 10 = .ok (.if_icmp .ne 7, 3) := by decide +kernel
theorem d_CT_isOwn_13 : decode b_CT_isOwn 13 = .ok (.iconst 1, 1) := by decide +kernel
theorem d_CT_isOwn_14 : decode b_CT_isOwn 14 = .ok (.goto 4, 3) := by decide +kernel
theorem d_CT_isOwn_17 : decode b_CT_isOwn 17 = .ok (.iconst 0, 1) := by decide +kernel
theorem d_CT_isOwn_18 : decode b_CT_isOwn 18 = .ok (.ireturn, 1) := by decide +kernel
def f_CT_isOwn_18  (s0 : Int32) (S : zq_S) : Option (zq_S × Int32) :=
  if s0 = 0 ∨ s0 = 1 then some (S, s0) else none
def f_CT_isOwn (a0 : Nat) (v1 : Int64) (S : zq_S) : Option (zq_S × Int32) :=
  zs_b (f_Let_get v1 (16 : Int32) S) fun S2 x3 =>
  if zs_is S2 a0 3 = true then
  zs_b (f_CT_workerBit a0 S2) fun S5 x6 =>
  if x3 = x6 then
    f_CT_isOwn_18  (1 : Int32) S5
  else
    f_CT_isOwn_18  (0 : Int32) S5
  else none
set_option maxHeartbeats 4000000 in
set_option maxRecDepth 100000 in
theorem r_CT_isOwn_18 {l : Launch} (hl : l.stackTraces = false) {G : zq_G} {S0 T : zq_S} {v : Int32} {X : zq_X} (Z : Z_CT_isOwn l G S0 T v X) {s0 : Int32} {S : zq_S} (hf : f_CT_isOwn_18  s0 S = some (T, v)) : zq_W (Y_CT_isOwn l G S0 T v) X 18 [] [.int s0] S 0 0 := by
  unfold f_CT_isOwn_18 at hf
  have hq := zs_C hf
  clear hf
  obtain ⟨h1, hf⟩ := hq
  exact zq_zret Z d_CT_isOwn_18 h1 (zs_1 hf) (zs_2 (fun z => (.inl (some (.int z)) : zq_R)) hf) ⟨(Nat.le_of_ble_eq_true rfl), (Nat.le_of_ble_eq_true rfl)⟩
set_option maxHeartbeats 4000000 in
set_option maxRecDepth 100000 in
theorem c_CT_isOwn {l : Launch} (hl : l.stackTraces = false) {G : zq_G} {a0 : Nat} {v1 : Int64} {S0 T : zq_S} {v : Int32} (hf : f_CT_isOwn a0 v1 S0 = some (T, v)) : zq_M l y_CT_isOwn (.code y_CT_isOwn b_CT_isOwn 3 (some (.boolean))) rm_CT_isOwn G [.ref a0, .long v1] S0 ((.inl (some (.int v)) : zq_R)) T := by
  refine zq_Mof (lo := [(0, .ref a0), (1, .long v1)]) hl (by decide) (Nat.le_of_ble_eq_true rfl) rfl (fun X Z => ?_)
  have Z : Z_CT_isOwn l G S0 T v X := Z
  show zq_W (Y_CT_isOwn l G S0 T v) X 0 [(0, .ref a0), (1, .long v1)] [] S0 0 0
  unfold f_CT_isOwn at hf
  refine zq_lload_n Z d_CT_isOwn_0 1 rfl ?_
  refine zq_bipush Z (16 : Int32) d_CT_isOwn_1 (by decide) ?_
  have hq := zs_bS hf
  clear hf
  obtain ⟨S2, x3, h1, hf⟩ := hq
  refine zq_contR (zq_stepS Z zq_cf1 (c_Let_get hl h1) d_CT_isOwn_3 m_164 m_165 m_166 m_116 p_Let_get ⟨(Nat.le_of_ble_eq_true rfl), (Nat.le_of_ble_eq_true rfl), (Nat.le_of_ble_eq_true rfl), (Nat.le_of_ble_eq_true rfl)⟩ rfl (Nat.le_of_ble_eq_true rfl)) Z.p ?_
  refine zq_aload_n Z d_CT_isOwn_6 0 rfl ?_
  have hq := zs_C hf
  clear hf
  obtain ⟨h7, hf⟩ := hq
  obtain ⟨fs8, e9⟩ := zs_isS h7
  have hq := zs_bS hf
  clear hf
  obtain ⟨S5, x6, h4, hf⟩ := hq
  refine zq_contR (zq_stepV Z zq_cf1 (c_CT_workerBit hl h4) 3 rfl e9 d_CT_isOwn_7 m_150 m_152 m_153 m_151 m_108 p_CT_workerBit ⟨(Nat.le_of_ble_eq_true rfl), (Nat.le_of_ble_eq_true rfl), (Nat.le_of_ble_eq_true rfl), (Nat.le_of_ble_eq_true rfl)⟩ rfl (Nat.le_of_ble_eq_true rfl)) Z.p ?_
  refine zq_icmp_ne Z 17 d_CT_isOwn_10 (by decide) (fun q => ?_) (fun q => ?_)
  · replace hf := zs_N q hf
    refine zq_iconst Z (0 : Int32) d_CT_isOwn_17 (by decide) ?_
    refine zq_sub (lo' := []) [] rfl ?_
    exact r_CT_isOwn_18 hl Z  hf
  · replace hf := zs_T q hf
    refine zq_iconst Z (1 : Int32) d_CT_isOwn_13 (by decide) ?_
    refine zq_goto Z 18 d_CT_isOwn_14 (by decide) ?_
    refine zq_sub (lo' := []) [] rfl ?_
    exact r_CT_isOwn_18 hl Z  hf
theorem d_CT_afterErasing_0 : decode b_CT_afterErasing 0 = .ok (.aload_n 0, 1) := by decide +kernel
theorem d_CT_afterErasing_1 : decode b_CT_afterErasing 1 = .ok (.getfield 34, 3) := by decide +kernel
theorem d_CT_afterErasing_4 : decode b_CT_afterErasing 4 = .ok (.ifCond .eq 11, 3) := by decide +kernel
theorem d_CT_afterErasing_7 : decode b_CT_afterErasing 7 = .ok (.aload_n 0, 1) := by decide +kernel
theorem d_CT_afterErasing_8 : decode b_CT_afterErasing 8 = .ok (.lload_n 1, 1) := by decide +kernel
theorem d_CT_afterErasing_9 : decode b_CT_afterErasing 9 = .ok (.invokevirtual 208, 3) := by decide +kernel
theorem d_CT_afterErasing_12 : decode b_CT_afterErasing 12 = .ok (.ifCond .eq 5, 3) := by decide +kernel
theorem d_CT_afterErasing_15 : decode b_CT_afterErasing 15 = .ok (.lconst 0, 1) := by decide +kernel
theorem d_CT_afterErasing_16 : decode b_CT_afterErasing 16 = .ok (.lreturn, 1) := by decide +kernel
theorem d_CT_afterErasing_17 : decode b_CT_afterErasing 17 = .ok (.lload_n 1, 1) := by decide +kernel
theorem d_CT_afterErasing_18 : decode b_CT_afterErasing 18 = .ok (.bipush 24, 2) := by decide +kernel
theorem d_CT_afterErasing_20 : decode b_CT_afterErasing 20 = .ok (.lload_n 1, 1) := by decide +kernel
theorem d_CT_afterErasing_21 : decode b_CT_afterErasing 21 = .ok (.bipush 24, 2) := by decide +kernel
theorem d_CT_afterErasing_23 : decode b_CT_afterErasing 23 = .ok (.invokestatic 99, 3) := by decide +kernel
theorem d_CT_afterErasing_26 : decode b_CT_afterErasing 26 = .ok (.aload_n 0, 1) := by decide +kernel
theorem d_CT_afterErasing_27 : decode b_CT_afterErasing 27 = .ok (.invokevirtual 67, 3) := by decide +kernel
theorem d_CT_afterErasing_30 : decode b_CT_afterErasing 30 = .ok (.ior, 1) := by decide +kernel
theorem d_CT_afterErasing_31 : decode b_CT_afterErasing 31 = .ok (.invokestatic 211, 3) := by decide +kernel
theorem d_CT_afterErasing_34 : decode b_CT_afterErasing 34 = .ok (.lreturn, 1) := by decide +kernel
def f_CT_afterErasing_15   (S : zq_S) : Option (zq_S × Int64) :=
  some (S, (0 : Int64))
def f_CT_afterErasing (a0 : Nat) (v1 : Int64) (S : zq_S) : Option (zq_S × Int64) :=
  (zs_gi S a0 3 5).bind fun x1 =>
  if x1 = 0 then
    f_CT_afterErasing_15   S
  else
    if zs_is S a0 3 = true then
    zs_b (f_CT_isOwn a0 v1 S) fun S4 x5 =>
    if x5 = 0 then
      zs_b (f_Let_get v1 (24 : Int32) S4) fun S10 x11 =>
      if zs_is S10 a0 3 = true then
      zs_b (f_CT_workerBit a0 S10) fun S13 x14 =>
      zs_b (f_Let_with v1 (24 : Int32) (x11 ||| x14) S13) fun S19 x20 =>
      some (S19, x20)
      else none
    else
      f_CT_afterErasing_15   S4
    else none
set_option maxHeartbeats 4000000 in
set_option maxRecDepth 100000 in
theorem r_CT_afterErasing_15 {l : Launch} (hl : l.stackTraces = false) {G : zq_G} {S0 T : zq_S} {v : Int64} {X : zq_X} (Z : Z_CT_afterErasing l G S0 T v X)  {S : zq_S} (hf : f_CT_afterErasing_15   S = some (T, v)) : zq_W (Y_CT_afterErasing l G S0 T v) X 15 [] [] S 0 0 := by
  unfold f_CT_afterErasing_15 at hf
  refine zq_lconst Z (0 : Int64) d_CT_afterErasing_15 (by decide) ?_
  exact zq_lret Z d_CT_afterErasing_16 (zs_1 hf) (zs_2 (fun z => (.inl (some (.long z)) : zq_R)) hf) ⟨(Nat.le_of_ble_eq_true rfl), (Nat.le_of_ble_eq_true rfl)⟩
set_option maxHeartbeats 4000000 in
set_option maxRecDepth 100000 in
theorem c_CT_afterErasing {l : Launch} (hl : l.stackTraces = false) {G : zq_G} {a0 : Nat} {v1 : Int64} {S0 T : zq_S} {v : Int64} (hf : f_CT_afterErasing a0 v1 S0 = some (T, v)) : zq_M l y_CT_afterErasing (.code y_CT_afterErasing b_CT_afterErasing 3 (some (.long))) rm_CT_afterErasing G [.ref a0, .long v1] S0 ((.inl (some (.long v)) : zq_R)) T := by
  refine zq_Mof (lo := [(0, .ref a0), (1, .long v1)]) hl (by decide) (Nat.le_of_ble_eq_true rfl) rfl (fun X Z => ?_)
  have Z : Z_CT_afterErasing l G S0 T v X := Z
  show zq_W (Y_CT_afterErasing l G S0 T v) X 0 [(0, .ref a0), (1, .long v1)] [] S0 0 0
  unfold f_CT_afterErasing at hf
  refine zq_aload_n Z d_CT_afterErasing_0 0 rfl ?_
  have hq := Option.bind_eq_some_iff.mp hf
  clear hf
  obtain ⟨x1, h2, hf⟩ := hq
  refine zr_geti Z cd_CT 5 d_CT_afterErasing_1 (by decide) m_94 h2 ?_
  refine zq_if_eq Z 15 d_CT_afterErasing_4 (by decide) (fun q => ?_) (fun q => ?_)
  · replace hf := zs_T q hf
    refine zq_sub (lo' := []) [] rfl ?_
    exact r_CT_afterErasing_15 hl Z  hf
  · replace hf := zs_N q hf
    refine zq_aload_n Z d_CT_afterErasing_7 0 rfl ?_
    refine zq_lload_n Z d_CT_afterErasing_8 1 rfl ?_
    have hq := zs_C hf
    clear hf
    obtain ⟨h6, hf⟩ := hq
    obtain ⟨fs7, e8⟩ := zs_isS h6
    have hq := zs_bS hf
    clear hf
    obtain ⟨S4, x5, h3, hf⟩ := hq
    refine zq_contR (zq_stepV Z zq_cf1 (c_CT_isOwn hl h3) 3 rfl e8 d_CT_afterErasing_9 m_167 m_169 m_170 m_168 m_108 p_CT_isOwn ⟨(Nat.le_of_ble_eq_true rfl), (Nat.le_of_ble_eq_true rfl), (Nat.le_of_ble_eq_true rfl), (Nat.le_of_ble_eq_true rfl)⟩ rfl (Nat.le_of_ble_eq_true rfl)) Z.p ?_
    refine zq_if_eq Z 17 d_CT_afterErasing_12 (by decide) (fun q => ?_) (fun q => ?_)
    · replace hf := zs_T q hf
      refine zq_lload_n Z d_CT_afterErasing_17 1 rfl ?_
      refine zq_bipush Z (24 : Int32) d_CT_afterErasing_18 (by decide) ?_
      refine zq_lload_n Z d_CT_afterErasing_20 1 rfl ?_
      refine zq_bipush Z (24 : Int32) d_CT_afterErasing_21 (by decide) ?_
      have hq := zs_bS hf
      clear hf
      obtain ⟨S10, x11, h9, hf⟩ := hq
      refine zq_contR (zq_stepS Z zq_cf1 (c_Let_get hl h9) d_CT_afterErasing_23 m_164 m_165 m_166 m_116 p_Let_get ⟨(Nat.le_of_ble_eq_true rfl), (Nat.le_of_ble_eq_true rfl), (Nat.le_of_ble_eq_true rfl), (Nat.le_of_ble_eq_true rfl)⟩ rfl (Nat.le_of_ble_eq_true rfl)) Z.p ?_
      refine zq_aload_n Z d_CT_afterErasing_26 0 rfl ?_
      have hq := zs_C hf
      clear hf
      obtain ⟨h15, hf⟩ := hq
      obtain ⟨fs16, e17⟩ := zs_isS h15
      have hq := zs_bS hf
      clear hf
      obtain ⟨S13, x14, h12, hf⟩ := hq
      refine zq_contR (zq_stepV Z zq_cf1 (c_CT_workerBit hl h12) 3 rfl e17 d_CT_afterErasing_27 m_150 m_152 m_153 m_151 m_108 p_CT_workerBit ⟨(Nat.le_of_ble_eq_true rfl), (Nat.le_of_ble_eq_true rfl), (Nat.le_of_ble_eq_true rfl), (Nat.le_of_ble_eq_true rfl)⟩ rfl (Nat.le_of_ble_eq_true rfl)) Z.p ?_
      refine zq_ior Z d_CT_afterErasing_30 ?_
      have hq := zs_bS hf
      clear hf
      obtain ⟨S19, x20, h18, hf⟩ := hq
      refine zq_contR (zq_stepS Z zq_cf1 (c_Let_with hl h18) d_CT_afterErasing_31 m_113 m_171 m_115 m_116 p_Let_with ⟨(Nat.le_of_ble_eq_true rfl), (Nat.le_of_ble_eq_true rfl), (Nat.le_of_ble_eq_true rfl), (Nat.le_of_ble_eq_true rfl)⟩ rfl (Nat.le_of_ble_eq_true rfl)) Z.p ?_
      exact zq_lret Z d_CT_afterErasing_34 (zs_1 hf) (zs_2 (fun z => (.inl (some (.long z)) : zq_R)) hf) ⟨(Nat.le_of_ble_eq_true rfl), (Nat.le_of_ble_eq_true rfl)⟩
    · replace hf := zs_N q hf
      refine zq_sub (lo' := []) [] rfl ?_
      exact r_CT_afterErasing_15 hl Z  hf
theorem d_CT_erase_0 : decode b_CT_erase 0 = .ok (.aload_n 0, 1) := by decide +kernel
theorem d_CT_erase_1 : decode b_CT_erase 1 = .ok (.iload_n 1, 1) := by decide +kernel
theorem d_CT_erase_2 : decode b_CT_erase 2 = .ok (.iload_n 2, 1) := by decide +kernel
theorem d_CT_erase_3 : decode b_CT_erase 3 = .ok (.invokevirtual 45, 3) := by decide +kernel
theorem d_CT_erase_6 : decode b_CT_erase 6 = .ok (.aload_n 0, 1) := by decide +kernel
theorem d_CT_erase_7 : decode b_CT_erase 7 = .ok (.iload_n 1, 1) := by decide +kernel
theorem d_CT_erase_8 : decode b_CT_erase 8 = .ok (.invokevirtual 71, 3) := by decide +kernel
theorem d_CT_erase_11 : decode b_CT_erase 11 = .ok (.iload_n 1, 1) := by decide +kernel
theorem d_CT_erase_12 : decode b_CT_erase 12 = .ok (.istore_n 3, 1) := by decide +kernel
theorem d_CT_erase_13 : decode b_CT_erase 13 = .ok (.iload_n 3, 1) := by decide +kernel
theorem d_CT_erase_14 : decode b_CT_erase 14 = .ok (.iload_n 1, 1) := by decide +kernel
theorem d_CT_erase_15 : decode b_CT_erase 15 = .ok (.iload_n 2, 1) := by decide +kernel
theorem d_CT_erase_16 : decode b_CT_erase 16 = .ok (.iadd, 1) := by decide +kernel
theorem d_CT_erase_17 : decode b_CT_erase 17 = .ok (.if_icmp .ge 28, 3) := by decide +kernel
theorem d_CT_erase_20 : decode b_CT_erase 20 = .ok (.aload_n 0, 1) := by decide +kernel
theorem d_CT_erase_21 : decode b_CT_erase 21 = .ok (.getfield 27, 3) := by decide +kernel
theorem d_CT_erase_24 : decode b_CT_erase 24 = .ok (.aload_n 0, 1) := by decide +kernel
theorem d_CT_erase_25 : decode b_CT_erase 25 = .ok (.aload_n 0, 1) := by decide +kernel
theorem d_CT_erase_26 : decode b_CT_erase 26 = .ok (.getfield 23, 3) := by decide +kernel
theorem d_CT_erase_29 : decode b_CT_erase 29 = .ok (.iload_n 3, 1) := by decide +kernel
theorem d_CT_erase_30 : decode b_CT_erase 30 = .ok (.invokevirtual 91, 3) := by decide +kernel
theorem d_CT_erase_33 : decode b_CT_erase 33 = .ok (.invokevirtual 95, 3) := by decide +kernel
theorem d_CT_erase_36 : decode b_CT_erase 36 = .ok (.invokevirtual 84, 3) := by decide +kernel
theorem d_CT_erase_39 : decode b_CT_erase 39 = .ok (.iinc 3 1, 3) := by decide +kernel
theorem d_CT_erase_42 : decode b_CT_erase 42 = .ok (.goto (-29), 3) := by decide +kernel
theorem d_CT_erase_45 : decode b_CT_erase 45 = .ok (.aload_n 0, 1) := by decide +kernel
theorem d_CT_erase_46 : decode b_CT_erase 46 = .ok (.iload_n 1, 1) := by decide +kernel
theorem d_CT_erase_47 : decode b_CT_erase 47 = .ok (.iload_n 2, 1) := by decide +kernel
theorem d_CT_erase_48 : decode b_CT_erase 48 = .ok (.iadd, 1) := by decide +kernel
theorem d_CT_erase_49 : decode b_CT_erase 49 = .ok (.invokevirtual 88, 3) := by decide +kernel
theorem d_CT_erase_52 : decode b_CT_erase 52 = .ok (.aload_n 0, 1) := by decide +kernel
theorem d_CT_erase_53 : decode b_CT_erase 53 = .ok (.getfield 23, 3) := by decide +kernel
theorem d_CT_erase_56 : decode b_CT_erase 56 = .ok (.getfield 59, 3) := by decide +kernel
theorem d_CT_erase_59 : decode b_CT_erase 59 = .ok (.ireturn, 1) := by decide +kernel
def f_CT_erase_13 (k13 : Nat → Int32 → Int32 → Int32 → zq_S → Option (zq_S × (Int32 ⊕ Nat))) (a0 : Nat) (v1 : Int32) (v2 : Int32) (v3 : Int32) (S : zq_S) : Option (zq_S × (Int32 ⊕ Nat)) :=
  if (v1 + v2) ≤ v3 then
    if zs_is S a0 3 = true then
    zs_b (f_CT_finishDraft a0 (v1 + v2) S) fun S2 _ =>
    (zs_gr S2 a0 3 2).bind fun x7 =>
    (x7).bind fun a9 =>
    (zs_gi S2 a9 0 1).bind fun x11 =>
    some (S2, .inl x11)
    else none
  else
    (zs_gr S a0 3 3).bind fun x13 =>
    (zs_gr S a0 3 2).bind fun x15 =>
    (x15).bind fun a17 =>
    if zs_is S a17 0 = true then
    zs_b (f_Text_at a17 v3 S) fun S20 x21 =>
    if zs_is S20 a0 3 = true then
    zs_b (f_CT_afterErasing a0 x21 S20) fun S26 x27 =>
    (x13).bind fun a31 =>
    if zs_is S26 a31 0 = true then
    zs_b (f_Text_add a31 x27 S26) fun S34 _ =>
    k13 a0 v1 v2 (v3 + (1 : Int32)) S34
    else none
    else none
    else none
def g_CT_erase_13  : Nat → Nat → Int32 → Int32 → Int32 → zq_S → Option (zq_S × (Int32 ⊕ Nat))
  | 0 => fun _ _ _ _ _ => none
  | n + 1 => fun a0 v1 v2 v3 S => f_CT_erase_13  (g_CT_erase_13  n) a0 v1 v2 v3 S
def f_CT_erase (a0 : Nat) (v1 : Int32) (v2 : Int32) (S : zq_S) : Option (zq_S × (Int32 ⊕ Nat)) :=
  if zs_is S a0 3 = true then
  zs_t (f_CT_requireRange S a0 v1 v2 S) (fun S2 _ =>
    if zs_is S2 a0 3 = true then
    zs_b (f_CT_startDraft a0 v1 S2) fun S8 _ =>
    g_CT_erase_13  zq_F a0 v1 v2 v1 S8
    else none
    ) (fun S2 j => some (S2, .inr j))
  else none
set_option maxHeartbeats 4000000 in
set_option maxRecDepth 100000 in
theorem r_CT_erase_13 {l : Launch} (hl : l.stackTraces = false) {G : zq_G} {S0 T : zq_S} {v : (Int32 ⊕ Nat)} {X : zq_X} (Z : Z_CT_erase l G S0 T v X) {k13 : Nat → Int32 → Int32 → Int32 → zq_S → Option (zq_S × (Int32 ⊕ Nat))} (hk13 : ∀ (a0 : Nat) (v1 : Int32) (v2 : Int32) (v3 : Int32) (S : zq_S), k13 a0 v1 v2 v3 S = some (T, v) → zq_W (Y_CT_erase l G S0 T v) X 13 [(0, .ref a0), (1, .int v1), (2, .int v2), (3, .int v3)] [] S 1 6) {a0 : Nat} {v1 : Int32} {v2 : Int32} {v3 : Int32} {S : zq_S} (hf : f_CT_erase_13 k13 a0 v1 v2 v3 S = some (T, v)) : zq_W (Y_CT_erase l G S0 T v) X 13 [(0, .ref a0), (1, .int v1), (2, .int v2), (3, .int v3)] [] S 1 6 := by
  unfold f_CT_erase_13 at hf
  refine zq_iload_n Z d_CT_erase_13 3 rfl ?_
  refine zq_iload_n Z d_CT_erase_14 1 rfl ?_
  refine zq_iload_n Z d_CT_erase_15 2 rfl ?_
  refine zq_iadd Z d_CT_erase_16 ?_
  refine zq_icmp_ge Z 45 d_CT_erase_17 (by decide) (fun q => ?_) (fun q => ?_)
  · replace hf := zs_T q hf
    refine zq_aload_n Z d_CT_erase_45 0 rfl ?_
    refine zq_iload_n Z d_CT_erase_46 1 rfl ?_
    refine zq_iload_n Z d_CT_erase_47 2 rfl ?_
    refine zq_iadd Z d_CT_erase_48 ?_
    have hq := zs_C hf
    clear hf
    obtain ⟨h4, hf⟩ := hq
    obtain ⟨fs5, e6⟩ := zs_isS h4
    have hq := zs_bS hf
    clear hf
    obtain ⟨S2, x3, h1, hf⟩ := hq
    refine zq_contR (zq_stepV Z zq_cf1 (c_CT_finishDraft hl h1) 3 rfl e6 d_CT_erase_49 m_130 m_132 m_133 m_131 m_108 p_CT_finishDraft ⟨(Nat.le_of_ble_eq_true rfl), (Nat.le_of_ble_eq_true rfl), (Nat.le_of_ble_eq_true rfl), (Nat.le_of_ble_eq_true rfl)⟩ rfl (Nat.le_of_ble_eq_true rfl)) Z.p ?_
    refine zq_aload_n Z d_CT_erase_52 0 rfl ?_
    have hq := Option.bind_eq_some_iff.mp hf
    clear hf
    obtain ⟨x7, h8, hf⟩ := hq
    refine zr_getr Z cd_CT 2 d_CT_erase_53 (by decide) m_91 h8 ?_
    have hq := Option.bind_eq_some_iff.mp hf
    clear hf
    obtain ⟨a9, h10, hf⟩ := hq
    subst h10
    have hq := Option.bind_eq_some_iff.mp hf
    clear hf
    obtain ⟨x11, h12, hf⟩ := hq
    refine zr_geti Z cd_Text 1 d_CT_erase_56 (by decide) m_103 h12 ?_
    exact zq_iret Z d_CT_erase_59 (zs_1 hf) (zs_2 zq_ei hf) ⟨(Nat.le_of_ble_eq_true rfl), (Nat.le_of_ble_eq_true rfl)⟩
  · replace hf := zs_N q hf
    refine zq_aload_n Z d_CT_erase_20 0 rfl ?_
    have hq := Option.bind_eq_some_iff.mp hf
    clear hf
    obtain ⟨x13, h14, hf⟩ := hq
    refine zr_getr Z cd_CT 3 d_CT_erase_21 (by decide) m_92 h14 ?_
    refine zq_aload_n Z d_CT_erase_24 0 rfl ?_
    refine zq_aload_n Z d_CT_erase_25 0 rfl ?_
    have hq := Option.bind_eq_some_iff.mp hf
    clear hf
    obtain ⟨x15, h16, hf⟩ := hq
    refine zr_getr Z cd_CT 2 d_CT_erase_26 (by decide) m_91 h16 ?_
    refine zq_iload_n Z d_CT_erase_29 3 rfl ?_
    have hq := Option.bind_eq_some_iff.mp hf
    clear hf
    obtain ⟨a17, h18, hf⟩ := hq
    subst h18
    have hq := zs_C hf
    clear hf
    obtain ⟨h22, hf⟩ := hq
    obtain ⟨fs23, e24⟩ := zs_isS h22
    have hq := zs_bS hf
    clear hf
    obtain ⟨S20, x21, h19, hf⟩ := hq
    refine zq_contR (zq_stepV Z zq_cf1 (c_Text_at hl h19) 0 rfl e24 d_CT_erase_30 m_14 m_172 m_17 m_15 m_18 p_Text_at ⟨(Nat.le_of_ble_eq_true rfl), (Nat.le_of_ble_eq_true rfl), (Nat.le_of_ble_eq_true rfl), (Nat.le_of_ble_eq_true rfl)⟩ rfl (by cases x13 <;> exact (Nat.le_of_ble_eq_true rfl))) Z.p ?_
    have hq := zs_C hf
    clear hf
    obtain ⟨h28, hf⟩ := hq
    obtain ⟨fs29, e30⟩ := zs_isS h28
    have hq := zs_bS hf
    clear hf
    obtain ⟨S26, x27, h25, hf⟩ := hq
    refine zq_contR (zq_stepV Z zq_cf1 (c_CT_afterErasing hl h25) 3 rfl e30 d_CT_erase_33 m_173 m_175 m_176 m_174 m_108 p_CT_afterErasing ⟨(Nat.le_of_ble_eq_true rfl), (Nat.le_of_ble_eq_true rfl), (Nat.le_of_ble_eq_true rfl), (Nat.le_of_ble_eq_true rfl)⟩ rfl (by cases x13 <;> exact (Nat.le_of_ble_eq_true rfl))) Z.p ?_
    have hq := Option.bind_eq_some_iff.mp hf
    clear hf
    obtain ⟨a31, h32, hf⟩ := hq
    subst h32
    have hq := zs_C hf
    clear hf
    obtain ⟨h36, hf⟩ := hq
    obtain ⟨fs37, e38⟩ := zs_isS h36
    have hq := zs_bS hf
    clear hf
    obtain ⟨S34, x35, h33, hf⟩ := hq
    refine zq_contR (zq_stepV Z zq_cf1 (c_Text_add hl h33) 0 rfl e38 d_CT_erase_36 m_137 m_139 m_140 m_138 m_18 p_Text_add ⟨(Nat.le_of_ble_eq_true rfl), (Nat.le_of_ble_eq_true rfl), (Nat.le_of_ble_eq_true rfl), (Nat.le_of_ble_eq_true rfl)⟩ rfl (Nat.le_of_ble_eq_true rfl)) Z.p ?_
    refine zq_iinc Z (v3 + (1 : Int32)) [(3, .int (v3 + (1 : Int32))), (0, .ref a0), (1, .int v1), (2, .int v2)] d_CT_erase_39 3 rfl rfl (by decide) rfl ?_
    refine zq_goto Z 13 d_CT_erase_42 (by decide) ?_
    refine zq_sub (lo' := [(0, .ref a0), (1, .int v1), (2, .int v2), (3, .int (v3 + (1 : Int32)))]) [1, 2, 3, 0] rfl ?_
    exact hk13 _ _ _ _ _ hf
theorem w_CT_erase_13 {l : Launch} (hl : l.stackTraces = false) {G : zq_G} {S0 T : zq_S} {v : (Int32 ⊕ Nat)} {X : zq_X} (Z : Z_CT_erase l G S0 T v X) : ∀ (n : Nat) (a0 : Nat) (v1 : Int32) (v2 : Int32) (v3 : Int32) (S : zq_S), g_CT_erase_13  n a0 v1 v2 v3 S = some (T, v) → zq_W (Y_CT_erase l G S0 T v) X 13 [(0, .ref a0), (1, .int v1), (2, .int v2), (3, .int v3)] [] S 1 6 := by
  intro n
  induction n with
  | zero => intro a0 v1 v2 v3 S hf; cases hf
  | succ n ih =>
    intro a0 v1 v2 v3 S hf
    have hf : f_CT_erase_13  (g_CT_erase_13  n) a0 v1 v2 v3 S = some (T, v) := hf
    exact r_CT_erase_13 hl Z  ih hf
set_option maxHeartbeats 4000000 in
set_option maxRecDepth 100000 in
theorem c_CT_erase {l : Launch} (hl : l.stackTraces = false) {G : zq_G} {a0 : Nat} {v1 : Int32} {v2 : Int32} {S0 T : zq_S} {v : (Int32 ⊕ Nat)} (hf : f_CT_erase a0 v1 v2 S0 = some (T, v)) : zq_M l y_CT_erase (.code y_CT_erase b_CT_erase 4 (some (.int))) rm_CT_erase G [.ref a0, .int v1, .int v2] S0 (zq_ei v) T := by
  refine zq_Mof (lo := [(0, .ref a0), (1, .int v1), (2, .int v2)]) hl (by decide) (Nat.le_of_ble_eq_true rfl) rfl (fun X Z => ?_)
  have Z : Z_CT_erase l G S0 T v X := Z
  show zq_W (Y_CT_erase l G S0 T v) X 0 [(0, .ref a0), (1, .int v1), (2, .int v2)] [] S0 0 0
  unfold f_CT_erase at hf
  refine zq_aload_n Z d_CT_erase_0 0 rfl ?_
  refine zq_iload_n Z d_CT_erase_1 1 rfl ?_
  refine zq_iload_n Z d_CT_erase_2 2 rfl ?_
  have hq := zs_C hf
  clear hf
  obtain ⟨h4, hf⟩ := hq
  obtain ⟨fs5, e6⟩ := zs_isS h4
  have hq := zs_tS hf
  clear hf
  rcases hq with ⟨S2, x3, h1, hf⟩ | ⟨S2, j, h1, hf⟩
  · refine zq_contR (zq_stepV Z zq_cf1 (c_CT_requireRange hl h1) 3 rfl e6 d_CT_erase_3 m_145 m_162 m_163 m_161 m_108 p_CT_requireRange ⟨(Nat.le_of_ble_eq_true rfl), (Nat.le_of_ble_eq_true rfl), (Nat.le_of_ble_eq_true rfl), (Nat.le_of_ble_eq_true rfl)⟩ rfl (Nat.le_of_ble_eq_true rfl)) Z.p ?_
    refine zq_aload_n Z d_CT_erase_6 0 rfl ?_
    refine zq_iload_n Z d_CT_erase_7 1 rfl ?_
    have hq := zs_C hf
    clear hf
    obtain ⟨h10, hf⟩ := hq
    obtain ⟨fs11, e12⟩ := zs_isS h10
    have hq := zs_bS hf
    clear hf
    obtain ⟨S8, x9, h7, hf⟩ := hq
    refine zq_contR (zq_stepV Z zq_cf1 (c_CT_startDraft hl h7) 3 rfl e12 d_CT_erase_8 m_141 m_143 m_144 m_142 m_108 p_CT_startDraft ⟨(Nat.le_of_ble_eq_true rfl), (Nat.le_of_ble_eq_true rfl), (Nat.le_of_ble_eq_true rfl), (Nat.le_of_ble_eq_true rfl)⟩ rfl (Nat.le_of_ble_eq_true rfl)) Z.p ?_
    refine zq_iload_n Z d_CT_erase_11 1 rfl ?_
    refine zq_istore_n Z rfl [(3, .int v1), (0, .ref a0), (1, .int v1), (2, .int v2)] d_CT_erase_12 (by decide) rfl ?_
    refine zq_sub (lo' := [(0, .ref a0), (1, .int v1), (2, .int v2), (3, .int v1)]) [1, 2, 3, 0] rfl ?_
    exact w_CT_erase_13 hl Z  _ _ _ _ _ _ hf
  · exact zq_contT Z (zq_stepV Z zq_cf1 (c_CT_requireRange hl h1) 3 rfl e6 d_CT_erase_3 m_145 m_162 m_163 m_161 m_108 p_CT_requireRange ⟨(Nat.le_of_ble_eq_true rfl), (Nat.le_of_ble_eq_true rfl), (Nat.le_of_ble_eq_true rfl), (Nat.le_of_ble_eq_true rfl)⟩ rfl (Nat.le_of_ble_eq_true rfl)) (zs_1 hf) (zs_2 zq_ei hf) ⟨(Nat.le_of_ble_eq_true rfl), (Nat.le_of_ble_eq_true rfl)⟩
theorem d_CT_afterFormatting_0 : decode b_CT_afterFormatting 0 = .ok (.lload_n 1, 1) := by decide +kernel
theorem d_CT_afterFormatting_1 : decode b_CT_afterFormatting 1 = .ok (.bipush 8, 2) := by decide +kernel
theorem d_CT_afterFormatting_3 : decode b_CT_afterFormatting 3 = .ok (.iload_n 3, 1) := by decide +kernel
theorem d_CT_afterFormatting_4 : decode b_CT_afterFormatting 4 = .ok (.invokestatic 211, 3) := by decide +kernel
theorem d_CT_afterFormatting_7 : decode b_CT_afterFormatting 7 = .ok (.lstore 4, 2) := by decide +kernel
theorem d_CT_afterFormatting_9 : decode b_CT_afterFormatting 9 = .ok (.aload_n 0, 1) := by decide +kernel
theorem d_CT_afterFormatting_10 : decode b_CT_afterFormatting 10 = .ok (.getfield 34, 3) := by decide +kernel
theorem d_CT_afterFormatting_13 : decode b_CT_afterFormatting 13 = .ok (.ifCond .ne 9, 3) := by decide +kernel
theorem d_CT_afterFormatting_16 : decode b_CT_afterFormatting 16 = .ok (.lload 4, 2) := by decide +kernel
theorem d_CT_afterFormatting_18 : decode b_CT_afterFormatting 18 = .ok (.invokestatic 215, 3) := by decide +kernel
theorem d_CT_afterFormatting_21 : decode b_CT_afterFormatting 21 = .ok (.lreturn, 1) := by decide +kernel
theorem d_CT_afterFormatting_22 : decode b_CT_afterFormatting 22 = .ok (.aload_n 0, 1) := by decide +kernel
theorem d_CT_afterFormatting_23 : decode b_CT_afterFormatting 23 = .ok (.lload_n 1, 1) := by decide +kernel
theorem d_CT_afterFormatting_24 : decode b_CT_afterFormatting 24 = .ok (.invokevirtual 208, 3) := by decide +kernel
theorem d_CT_afterFormatting_27 : decode b_CT_afterFormatting 27 = .ok (.ifCond .eq 6, 3) := by decide +kernel
theorem d_CT_afterFormatting_30 : decode b_CT_afterFormatting 30 = .ok (.lload 4, 2) := by decide +kernel
theorem d_CT_afterFormatting_32 : decode b_CT_afterFormatting 32 = .ok (.lreturn, 1) := by decide +kernel
theorem d_CT_afterFormatting_33 : decode b_CT_afterFormatting 33 = .ok (.lload_n 1, 1) := by decide +kernel
theorem d_CT_afterFormatting_34 : decode b_CT_afterFormatting 34 = .ok (.invokestatic 218, 3) := by decide +kernel
theorem d_CT_afterFormatting_37 : decode b_CT_afterFormatting 37 = .ok (.istore 6, 2) := by decide +kernel
theorem d_CT_afterFormatting_39 : decode b_CT_afterFormatting 39 = .ok (.iload_n 3, 1) := by decide +kernel
theorem d_CT_afterFormatting_40 : decode b_CT_afterFormatting 40 = .ok (.iload 6, 2) := by decide +kernel
theorem d_CT_afterFormatting_42 : decode b_CT_afterFormatting 42 = .ok (.if_icmp .ne 9, 3) := by decide +kernel
theorem d_CT_afterFormatting_45 : decode b_CT_afterFormatting 45 = .ok (.lload 4, 2) := by decide +kernel
theorem d_CT_afterFormatting_47 : decode b_CT_afterFormatting 47 = .ok (.invokestatic 215, 3) := by decide +kernel
theorem d_CT_afterFormatting_50 : decode b_CT_afterFormatting 50 = .ok (.lreturn, 1) := by decide +kernel
theorem d_CT_afterFormatting_51 : decode b_CT_afterFormatting 51 = .ok (.lload_n 1, 1) := by decide +kernel
theorem d_CT_afterFormatting_52 : decode b_CT_afterFormatting 52 = .ok (.bipush 32, 2) := by decide +kernel
theorem d_CT_afterFormatting_54 : decode b_CT_afterFormatting 54 = .ok (.invokestatic 99, 3) := by decide +kernel
theorem d_CT_afterFormatting_57 : decode b_CT_afterFormatting 57 = .ok (.aload_n 0, 1) := by decide +kernel
theorem d_CT_afterFormatting_58 : decode b_CT_afterFormatting 58 = .ok (.invokevirtual 67, 3) := by decide +kernel
theorem d_CT_afterFormatting_61 : decode b_CT_afterFormatting 61 = .ok (.ior, 1) := by decide +kernel
theorem d_CT_afterFormatting_62 : decode b_CT_afterFormatting 62 = .ok (.istore 7, 2) := by decide +kernel
theorem d_CT_afterFormatting_64 : decode b_CT_afterFormatting 64 = .ok (.lload 4, 2) := by decide +kernel
theorem d_CT_afterFormatting_66 : decode b_CT_afterFormatting 66 = .ok (.bipush 32, 2) := by decide +kernel
theorem d_CT_afterFormatting_68 : decode b_CT_afterFormatting 68 = .ok (.iload 7, 2) := by decide +kernel
theorem d_CT_afterFormatting_70 : decode b_CT_afterFormatting 70 = .ok (.invokestatic 211, 3) := by decide +kernel
theorem d_CT_afterFormatting_73 : decode b_CT_afterFormatting 73 = .ok (.bipush 40, 2) := by decide +kernel
theorem d_CT_afterFormatting_75 : decode b_CT_afterFormatting 75 = .ok (.iload 6, 2) := by decide +kernel
theorem d_CT_afterFormatting_77 : decode b_CT_afterFormatting 77 = .ok (.invokestatic 211, 3) := by decide +kernel
theorem d_CT_afterFormatting_80 : decode b_CT_afterFormatting 80 = .ok (.lreturn, 1) := by decide +kernel
def f_CT_afterFormatting (a0 : Nat) (v1 : Int64) (v3 : Int32) (S : zq_S) : Option (zq_S × Int64) :=
  zs_b (f_Let_with v1 (8 : Int32) v3 S) fun S2 x3 =>
  (zs_gi S2 a0 3 5).bind fun x4 =>
  if x4 = 0 then
    zs_b (f_Let_withoutFormatters x3 S2) fun S34 x35 =>
    some (S34, x35)
  else
    if zs_is S2 a0 3 = true then
    zs_b (f_CT_isOwn a0 v1 S2) fun S7 x8 =>
    if x8 = 0 then
      zs_b (f_Let_formatBefore v1 S7) fun S13 x14 =>
      if v3 = x14 then
        zs_b (f_Let_withoutFormatters x3 S13) fun S31 x32 =>
        some (S31, x32)
      else
        zs_b (f_Let_get v1 (32 : Int32) S13) fun S16 x17 =>
        if zs_is S16 a0 3 = true then
        zs_b (f_CT_workerBit a0 S16) fun S19 x20 =>
        zs_b (f_Let_with x3 (32 : Int32) (x17 ||| x20) S19) fun S25 x26 =>
        zs_b (f_Let_with x26 (40 : Int32) x14 S25) fun S28 x29 =>
        some (S28, x29)
        else none
    else
      some (S7, x3)
    else none
set_option maxHeartbeats 4000000 in
set_option maxRecDepth 100000 in
theorem c_CT_afterFormatting {l : Launch} (hl : l.stackTraces = false) {G : zq_G} {a0 : Nat} {v1 : Int64} {v3 : Int32} {S0 T : zq_S} {v : Int64} (hf : f_CT_afterFormatting a0 v1 v3 S0 = some (T, v)) : zq_M l y_CT_afterFormatting (.code y_CT_afterFormatting b_CT_afterFormatting 8 (some (.long))) rm_CT_afterFormatting G [.ref a0, .long v1, .int v3] S0 ((.inl (some (.long v)) : zq_R)) T := by
  refine zq_Mof (lo := [(0, .ref a0), (1, .long v1), (3, .int v3)]) hl (by decide) (Nat.le_of_ble_eq_true rfl) rfl (fun X Z => ?_)
  have Z : Z_CT_afterFormatting l G S0 T v X := Z
  show zq_W (Y_CT_afterFormatting l G S0 T v) X 0 [(0, .ref a0), (1, .long v1), (3, .int v3)] [] S0 0 0
  unfold f_CT_afterFormatting at hf
  refine zq_lload_n Z d_CT_afterFormatting_0 1 rfl ?_
  refine zq_bipush Z (8 : Int32) d_CT_afterFormatting_1 (by decide) ?_
  refine zq_iload_n Z d_CT_afterFormatting_3 2 rfl ?_
  have hq := zs_bS hf
  clear hf
  obtain ⟨S2, x3, h1, hf⟩ := hq
  refine zq_contR (zq_stepS Z zq_cf1 (c_Let_with hl h1) d_CT_afterFormatting_4 m_113 m_171 m_115 m_116 p_Let_with ⟨(Nat.le_of_ble_eq_true rfl), (Nat.le_of_ble_eq_true rfl), (Nat.le_of_ble_eq_true rfl), (Nat.le_of_ble_eq_true rfl)⟩ rfl (Nat.le_of_ble_eq_true rfl)) Z.p ?_
  refine zq_lstore Z [(4, .long x3), (0, .ref a0), (1, .long v1), (3, .int v3)] d_CT_afterFormatting_7 (by decide) rfl ?_
  refine zq_aload_n Z d_CT_afterFormatting_9 1 rfl ?_
  have hq := Option.bind_eq_some_iff.mp hf
  clear hf
  obtain ⟨x4, h5, hf⟩ := hq
  refine zr_geti Z cd_CT 5 d_CT_afterFormatting_10 (by decide) m_94 h5 ?_
  refine zq_if_ne Z 22 d_CT_afterFormatting_13 (by decide) (fun q => ?_) (fun q => ?_)
  · replace hf := zs_N q hf
    refine zq_aload_n Z d_CT_afterFormatting_22 1 rfl ?_
    refine zq_lload_n Z d_CT_afterFormatting_23 2 rfl ?_
    have hq := zs_C hf
    clear hf
    obtain ⟨h9, hf⟩ := hq
    obtain ⟨fs10, e11⟩ := zs_isS h9
    have hq := zs_bS hf
    clear hf
    obtain ⟨S7, x8, h6, hf⟩ := hq
    refine zq_contR (zq_stepV Z zq_cf1 (c_CT_isOwn hl h6) 3 rfl e11 d_CT_afterFormatting_24 m_167 m_169 m_170 m_168 m_108 p_CT_isOwn ⟨(Nat.le_of_ble_eq_true rfl), (Nat.le_of_ble_eq_true rfl), (Nat.le_of_ble_eq_true rfl), (Nat.le_of_ble_eq_true rfl)⟩ rfl (Nat.le_of_ble_eq_true rfl)) Z.p ?_
    refine zq_if_eq Z 33 d_CT_afterFormatting_27 (by decide) (fun q => ?_) (fun q => ?_)
    · replace hf := zs_T q hf
      refine zq_lload_n Z d_CT_afterFormatting_33 2 rfl ?_
      have hq := zs_bS hf
      clear hf
      obtain ⟨S13, x14, h12, hf⟩ := hq
      refine zq_contR (zq_stepS Z zq_cf1 (c_Let_formatBefore hl h12) d_CT_afterFormatting_34 m_181 m_182 m_183 m_116 p_Let_formatBefore ⟨(Nat.le_of_ble_eq_true rfl), (Nat.le_of_ble_eq_true rfl), (Nat.le_of_ble_eq_true rfl), (Nat.le_of_ble_eq_true rfl)⟩ rfl (Nat.le_of_ble_eq_true rfl)) Z.p ?_
      refine zq_istore Z [(6, .int x14), (4, .long x3), (0, .ref a0), (1, .long v1), (3, .int v3)] d_CT_afterFormatting_37 (by decide) rfl ?_
      refine zq_iload_n Z d_CT_afterFormatting_39 4 rfl ?_
      refine zq_iload Z d_CT_afterFormatting_40 0 rfl ?_
      refine zq_icmp_ne Z 51 d_CT_afterFormatting_42 (by decide) (fun q => ?_) (fun q => ?_)
      · replace hf := zs_N q hf
        refine zq_lload_n Z d_CT_afterFormatting_51 3 rfl ?_
        refine zq_bipush Z (32 : Int32) d_CT_afterFormatting_52 (by decide) ?_
        have hq := zs_bS hf
        clear hf
        obtain ⟨S16, x17, h15, hf⟩ := hq
        refine zq_contR (zq_stepS Z zq_cf1 (c_Let_get hl h15) d_CT_afterFormatting_54 m_164 m_165 m_166 m_116 p_Let_get ⟨(Nat.le_of_ble_eq_true rfl), (Nat.le_of_ble_eq_true rfl), (Nat.le_of_ble_eq_true rfl), (Nat.le_of_ble_eq_true rfl)⟩ rfl (Nat.le_of_ble_eq_true rfl)) Z.p ?_
        refine zq_aload_n Z d_CT_afterFormatting_57 2 rfl ?_
        have hq := zs_C hf
        clear hf
        obtain ⟨h21, hf⟩ := hq
        obtain ⟨fs22, e23⟩ := zs_isS h21
        have hq := zs_bS hf
        clear hf
        obtain ⟨S19, x20, h18, hf⟩ := hq
        refine zq_contR (zq_stepV Z zq_cf1 (c_CT_workerBit hl h18) 3 rfl e23 d_CT_afterFormatting_58 m_150 m_152 m_153 m_151 m_108 p_CT_workerBit ⟨(Nat.le_of_ble_eq_true rfl), (Nat.le_of_ble_eq_true rfl), (Nat.le_of_ble_eq_true rfl), (Nat.le_of_ble_eq_true rfl)⟩ rfl (Nat.le_of_ble_eq_true rfl)) Z.p ?_
        refine zq_ior Z d_CT_afterFormatting_61 ?_
        refine zq_istore Z [(7, .int (x17 ||| x20)), (6, .int x14), (4, .long x3), (0, .ref a0), (1, .long v1), (3, .int v3)] d_CT_afterFormatting_62 (by decide) rfl ?_
        refine zq_lload Z d_CT_afterFormatting_64 2 rfl ?_
        refine zq_bipush Z (32 : Int32) d_CT_afterFormatting_66 (by decide) ?_
        refine zq_iload Z d_CT_afterFormatting_68 0 rfl ?_
        have hq := zs_bS hf
        clear hf
        obtain ⟨S25, x26, h24, hf⟩ := hq
        refine zq_contR (zq_stepS Z zq_cf1 (c_Let_with hl h24) d_CT_afterFormatting_70 m_113 m_171 m_115 m_116 p_Let_with ⟨(Nat.le_of_ble_eq_true rfl), (Nat.le_of_ble_eq_true rfl), (Nat.le_of_ble_eq_true rfl), (Nat.le_of_ble_eq_true rfl)⟩ rfl (Nat.le_of_ble_eq_true rfl)) Z.p ?_
        refine zq_bipush Z (40 : Int32) d_CT_afterFormatting_73 (by decide) ?_
        refine zq_iload Z d_CT_afterFormatting_75 1 rfl ?_
        have hq := zs_bS hf
        clear hf
        obtain ⟨S28, x29, h27, hf⟩ := hq
        refine zq_contR (zq_stepS Z zq_cf1 (c_Let_with hl h27) d_CT_afterFormatting_77 m_113 m_171 m_115 m_116 p_Let_with ⟨(Nat.le_of_ble_eq_true rfl), (Nat.le_of_ble_eq_true rfl), (Nat.le_of_ble_eq_true rfl), (Nat.le_of_ble_eq_true rfl)⟩ rfl (Nat.le_of_ble_eq_true rfl)) Z.p ?_
        exact zq_lret Z d_CT_afterFormatting_80 (zs_1 hf) (zs_2 (fun z => (.inl (some (.long z)) : zq_R)) hf) ⟨(Nat.le_of_ble_eq_true rfl), (Nat.le_of_ble_eq_true rfl)⟩
      · replace hf := zs_T q hf
        refine zq_lload Z d_CT_afterFormatting_45 1 rfl ?_
        have hq := zs_bS hf
        clear hf
        obtain ⟨S31, x32, h30, hf⟩ := hq
        refine zq_contR (zq_stepS Z zq_cf1 (c_Let_withoutFormatters hl h30) d_CT_afterFormatting_47 m_184 m_185 m_186 m_116 p_Let_withoutFormatters ⟨(Nat.le_of_ble_eq_true rfl), (Nat.le_of_ble_eq_true rfl), (Nat.le_of_ble_eq_true rfl), (Nat.le_of_ble_eq_true rfl)⟩ rfl (Nat.le_of_ble_eq_true rfl)) Z.p ?_
        exact zq_lret Z d_CT_afterFormatting_50 (zs_1 hf) (zs_2 (fun z => (.inl (some (.long z)) : zq_R)) hf) ⟨(Nat.le_of_ble_eq_true rfl), (Nat.le_of_ble_eq_true rfl)⟩
    · replace hf := zs_N q hf
      refine zq_lload Z d_CT_afterFormatting_30 0 rfl ?_
      exact zq_lret Z d_CT_afterFormatting_32 (zs_1 hf) (zs_2 (fun z => (.inl (some (.long z)) : zq_R)) hf) ⟨(Nat.le_of_ble_eq_true rfl), (Nat.le_of_ble_eq_true rfl)⟩
  · replace hf := zs_T q hf
    refine zq_lload Z d_CT_afterFormatting_16 0 rfl ?_
    have hq := zs_bS hf
    clear hf
    obtain ⟨S34, x35, h33, hf⟩ := hq
    refine zq_contR (zq_stepS Z zq_cf1 (c_Let_withoutFormatters hl h33) d_CT_afterFormatting_18 m_184 m_185 m_186 m_116 p_Let_withoutFormatters ⟨(Nat.le_of_ble_eq_true rfl), (Nat.le_of_ble_eq_true rfl), (Nat.le_of_ble_eq_true rfl), (Nat.le_of_ble_eq_true rfl)⟩ rfl (Nat.le_of_ble_eq_true rfl)) Z.p ?_
    exact zq_lret Z d_CT_afterFormatting_21 (zs_1 hf) (zs_2 (fun z => (.inl (some (.long z)) : zq_R)) hf) ⟨(Nat.le_of_ble_eq_true rfl), (Nat.le_of_ble_eq_true rfl)⟩
theorem d_CT_format_0 : decode b_CT_format 0 = .ok (.aload_n 0, 1) := by decide +kernel
theorem d_CT_format_1 : decode b_CT_format 1 = .ok (.iload_n 1, 1) := by decide +kernel
theorem d_CT_format_2 : decode b_CT_format 2 = .ok (.iload_n 2, 1) := by decide +kernel
theorem d_CT_format_3 : decode b_CT_format 3 = .ok (.invokevirtual 45, 3) := by decide +kernel
theorem d_CT_format_6 : decode b_CT_format 6 = .ok (.iload_n 3, 1) := by decide +kernel
theorem d_CT_format_7 : decode b_CT_format 7 = .ok (.invokestatic 49, 3) := by decide +kernel
theorem d_CT_format_10 : decode b_CT_format 10 = .ok (.iconst 0, 1) := by decide +kernel
theorem d_CT_format_11 : decode b_CT_format 11 = .ok (.istore 4, 2) := by decide +kernel
theorem d_CT_format_13 : decode b_CT_format 13 = .ok (.aload_n 0, 1) := by decide +kernel
theorem d_CT_format_14 : decode b_CT_format 14 = .ok (.iload_n 1, 1) := by decide +kernel
theorem d_CT_format_15 : decode b_CT_format 15 = .ok (.invokevirtual 71, 3) := by decide +kernel
theorem d_CT_format_18 : decode b_CT_format 18 = .ok (.iload_n 1, 1) := by decide +kernel
theorem d_CT_format_19 : decode b_CT_format 19 = .ok (.istore 5, 2) := by decide +kernel
theorem d_CT_format_21 : decode b_CT_format 21 = .ok (.iload 5, 2) := by decide +kernel
theorem d_CT_format_23 : decode b_CT_format 23 = .ok (.iload_n 1, 1) := by decide +kernel
theorem d_CT_format_24 : decode b_CT_format 24 = .ok (.iload_n 2, 1) := by decide +kernel
theorem d_CT_format_25 : decode b_CT_format 25 = .ok (.iadd, 1) := by decide +kernel
theorem d_CT_format_26 : decode b_CT_format 26 = .ok (.if_icmp .ge 48, 3) := by decide +kernel
theorem d_CT_format_29 : decode b_CT_format 29 = .ok (.aload_n 0, 1) := by decide +kernel
theorem d_CT_format_30 : decode b_CT_format 30 = .ok (.getfield 23, 3) := by decide +kernel
theorem d_CT_format_33 : decode b_CT_format 33 = .ok (.iload 5, 2) := by decide +kernel
theorem d_CT_format_35 : decode b_CT_format 35 = .ok (.invokevirtual 91, 3) := by decide +kernel
theorem d_CT_format_38 : decode b_CT_format 38 = .ok (.lstore 6, 2) := by decide +kernel
theorem d_CT_format_40 : decode b_CT_format 40 = .ok (.lload 6, 2) := by decide +kernel
theorem d_CT_format_42 : decode b_CT_format 42 = .ok (.bipush 8, 2) := by decide +kernel
theorem d_CT_format_44 : decode b_CT_format 44 = .ok (.invokestatic 99, 3) := by decide +kernel
theorem d_CT_format_47 : decode b_CT_format 47 = .ok (.iload_n 3, 1) := by decide +kernel
theorem d_CT_format_48 : decode b_CT_format 48 = .ok (.if_icmp .eq 6, 3) := by decide +kernel
theorem d_CT_format_51 : decode b_CT_format 51 = .ok (.iinc 4 1, 3) := by decide +kernel
theorem d_CT_format_54 : decode b_CT_format 54 = .ok (.aload_n 0, 1) := by decide +kernel
theorem d_CT_format_55 : decode b_CT_format 55 = .ok (.getfield 27, 3) := by decide +kernel
theorem d_CT_format_58 : decode b_CT_format 58 = .ok (.aload_n 0, 1) := by decide +kernel
theorem d_CT_format_59 : decode b_CT_format 59 = .ok (.lload 6, 2) := by decide +kernel
theorem d_CT_format_61 : decode b_CT_format 61 = .ok (.iload_n 3, 1) := by decide +kernel
theorem d_CT_format_62 : decode b_CT_format 62 = .ok (.invokevirtual 102, 3) := by decide +kernel
theorem d_CT_format_65 : decode b_CT_format 65 = .ok (.invokevirtual 84, 3) := by decide +kernel
theorem d_CT_format_68 : decode b_CT_format 68 = .ok (.iinc 5 1, 3) := by decide +kernel
theorem d_CT_format_71 : decode b_CT_format 71 = .ok (.goto (-50), 3) := by decide +kernel
theorem d_CT_format_74 : decode b_CT_format 74 = .ok (.aload_n 0, 1) := by decide +kernel
theorem d_CT_format_75 : decode b_CT_format 75 = .ok (.iload_n 1, 1) := by decide +kernel
theorem d_CT_format_76 : decode b_CT_format 76 = .ok (.iload_n 2, 1) := by decide +kernel
theorem d_CT_format_77 : decode b_CT_format 77 = .ok (.iadd, 1) := by decide +kernel
theorem d_CT_format_78 : decode b_CT_format 78 = .ok (.invokevirtual 88, 3) := by decide +kernel
theorem d_CT_format_81 : decode b_CT_format 81 = .ok (.iload 4, 2) := by decide +kernel
theorem d_CT_format_83 : decode b_CT_format 83 = .ok (.ireturn, 1) := by decide +kernel
def f_CT_format_54 (k21 : Nat → Int32 → Int32 → Int32 → Int32 → Int32 → zq_S → Option (zq_S × (Int32 ⊕ Nat))) (a0 : Nat) (v1 : Int32) (v2 : Int32) (v3 : Int32) (v4 : Int32) (v5 : Int32) (v6 : Int64) (S : zq_S) : Option (zq_S × (Int32 ⊕ Nat)) :=
  (zs_gr S a0 3 3).bind fun x1 =>
  if zs_is S a0 3 = true then
  zs_b (f_CT_afterFormatting a0 v6 v3 S) fun S4 x5 =>
  (x1).bind fun a9 =>
  if zs_is S4 a9 0 = true then
  zs_b (f_Text_add a9 x5 S4) fun S12 _ =>
  k21 a0 v1 v2 v3 v4 (v5 + (1 : Int32)) S12
  else none
  else none
def f_CT_format_21 (k21 : Nat → Int32 → Int32 → Int32 → Int32 → Int32 → zq_S → Option (zq_S × (Int32 ⊕ Nat))) (a0 : Nat) (v1 : Int32) (v2 : Int32) (v3 : Int32) (v4 : Int32) (v5 : Int32) (S : zq_S) : Option (zq_S × (Int32 ⊕ Nat)) :=
  if (v1 + v2) ≤ v5 then
    if zs_is S a0 3 = true then
    zs_b (f_CT_finishDraft a0 (v1 + v2) S) fun S2 _ =>
    some (S2, .inl v4)
    else none
  else
    (zs_gr S a0 3 2).bind fun x7 =>
    (x7).bind fun a9 =>
    if zs_is S a9 0 = true then
    zs_b (f_Text_at a9 v5 S) fun S12 x13 =>
    zs_b (f_Let_get x13 (8 : Int32) S12) fun S18 x19 =>
    if x19 = v3 then
      f_CT_format_54 k21 a0 v1 v2 v3 v4 v5 x13 S18
    else
      f_CT_format_54 k21 a0 v1 v2 v3 (v4 + (1 : Int32)) v5 x13 S18
    else none
def g_CT_format_21  : Nat → Nat → Int32 → Int32 → Int32 → Int32 → Int32 → zq_S → Option (zq_S × (Int32 ⊕ Nat))
  | 0 => fun _ _ _ _ _ _ _ => none
  | n + 1 => fun a0 v1 v2 v3 v4 v5 S => f_CT_format_21  (g_CT_format_21  n) a0 v1 v2 v3 v4 v5 S
def f_CT_format (a0 : Nat) (v1 : Int32) (v2 : Int32) (v3 : Int32) (S : zq_S) : Option (zq_S × (Int32 ⊕ Nat)) :=
  if zs_is S a0 3 = true then
  zs_t (f_CT_requireRange S a0 v1 v2 S) (fun S2 _ =>
    zs_t (f_CT_requireFormat S2 v3 S2) (fun S8 _ =>
      if zs_is S8 a0 3 = true then
      zs_b (f_CT_startDraft a0 v1 S8) fun S11 _ =>
      g_CT_format_21  zq_F a0 v1 v2 v3 (0 : Int32) v1 S11
      else none
      ) (fun S8 j => some (S8, .inr j))
    ) (fun S2 j => some (S2, .inr j))
  else none
set_option maxHeartbeats 4000000 in
set_option maxRecDepth 100000 in
theorem r_CT_format_54 {l : Launch} (hl : l.stackTraces = false) {G : zq_G} {S0 T : zq_S} {v : (Int32 ⊕ Nat)} {X : zq_X} (Z : Z_CT_format l G S0 T v X) {k21 : Nat → Int32 → Int32 → Int32 → Int32 → Int32 → zq_S → Option (zq_S × (Int32 ⊕ Nat))} (hk21 : ∀ (a0 : Nat) (v1 : Int32) (v2 : Int32) (v3 : Int32) (v4 : Int32) (v5 : Int32) (S : zq_S), k21 a0 v1 v2 v3 v4 v5 S = some (T, v) → zq_W (Y_CT_format l G S0 T v) X 21 [(0, .ref a0), (1, .int v1), (2, .int v2), (3, .int v3), (4, .int v4), (5, .int v5)] [] S 2 12) {a0 : Nat} {v1 : Int32} {v2 : Int32} {v3 : Int32} {v4 : Int32} {v5 : Int32} {v6 : Int64} {S : zq_S} (hf : f_CT_format_54 k21 a0 v1 v2 v3 v4 v5 v6 S = some (T, v)) : zq_W (Y_CT_format l G S0 T v) X 54 [(0, .ref a0), (1, .int v1), (2, .int v2), (3, .int v3), (4, .int v4), (5, .int v5), (6, .long v6)] [] S 2 12 := by
  unfold f_CT_format_54 at hf
  refine zq_aload_n Z d_CT_format_54 0 rfl ?_
  have hq := Option.bind_eq_some_iff.mp hf
  clear hf
  obtain ⟨x1, h2, hf⟩ := hq
  refine zr_getr Z cd_CT 3 d_CT_format_55 (by decide) m_92 h2 ?_
  refine zq_aload_n Z d_CT_format_58 0 rfl ?_
  refine zq_lload Z d_CT_format_59 6 rfl ?_
  refine zq_iload_n Z d_CT_format_61 3 rfl ?_
  have hq := zs_C hf
  clear hf
  obtain ⟨h6, hf⟩ := hq
  obtain ⟨fs7, e8⟩ := zs_isS h6
  have hq := zs_bS hf
  clear hf
  obtain ⟨S4, x5, h3, hf⟩ := hq
  refine zq_contR (zq_stepV Z zq_cf1 (c_CT_afterFormatting hl h3) 3 rfl e8 d_CT_format_62 m_187 m_189 m_190 m_188 m_108 p_CT_afterFormatting ⟨(Nat.le_of_ble_eq_true rfl), (Nat.le_of_ble_eq_true rfl), (Nat.le_of_ble_eq_true rfl), (Nat.le_of_ble_eq_true rfl)⟩ rfl (by cases x1 <;> exact (Nat.le_of_ble_eq_true rfl))) Z.p ?_
  have hq := Option.bind_eq_some_iff.mp hf
  clear hf
  obtain ⟨a9, h10, hf⟩ := hq
  subst h10
  have hq := zs_C hf
  clear hf
  obtain ⟨h14, hf⟩ := hq
  obtain ⟨fs15, e16⟩ := zs_isS h14
  have hq := zs_bS hf
  clear hf
  obtain ⟨S12, x13, h11, hf⟩ := hq
  refine zq_contR (zq_stepV Z zq_cf1 (c_Text_add hl h11) 0 rfl e16 d_CT_format_65 m_137 m_139 m_140 m_138 m_18 p_Text_add ⟨(Nat.le_of_ble_eq_true rfl), (Nat.le_of_ble_eq_true rfl), (Nat.le_of_ble_eq_true rfl), (Nat.le_of_ble_eq_true rfl)⟩ rfl (Nat.le_of_ble_eq_true rfl)) Z.p ?_
  refine zq_iinc Z (v5 + (1 : Int32)) [(5, .int (v5 + (1 : Int32))), (0, .ref a0), (1, .int v1), (2, .int v2), (3, .int v3), (4, .int v4), (6, .long v6)] d_CT_format_68 5 rfl rfl (by decide) rfl ?_
  refine zq_goto Z 21 d_CT_format_71 (by decide) ?_
  refine zq_sub (lo' := [(0, .ref a0), (1, .int v1), (2, .int v2), (3, .int v3), (4, .int v4), (5, .int (v5 + (1 : Int32)))]) [1, 2, 3, 4, 5, 0] rfl ?_
  exact hk21 _ _ _ _ _ _ _ hf
set_option maxHeartbeats 4000000 in
set_option maxRecDepth 100000 in
theorem r_CT_format_21 {l : Launch} (hl : l.stackTraces = false) {G : zq_G} {S0 T : zq_S} {v : (Int32 ⊕ Nat)} {X : zq_X} (Z : Z_CT_format l G S0 T v X) {k21 : Nat → Int32 → Int32 → Int32 → Int32 → Int32 → zq_S → Option (zq_S × (Int32 ⊕ Nat))} (hk21 : ∀ (a0 : Nat) (v1 : Int32) (v2 : Int32) (v3 : Int32) (v4 : Int32) (v5 : Int32) (S : zq_S), k21 a0 v1 v2 v3 v4 v5 S = some (T, v) → zq_W (Y_CT_format l G S0 T v) X 21 [(0, .ref a0), (1, .int v1), (2, .int v2), (3, .int v3), (4, .int v4), (5, .int v5)] [] S 2 12) {a0 : Nat} {v1 : Int32} {v2 : Int32} {v3 : Int32} {v4 : Int32} {v5 : Int32} {S : zq_S} (hf : f_CT_format_21 k21 a0 v1 v2 v3 v4 v5 S = some (T, v)) : zq_W (Y_CT_format l G S0 T v) X 21 [(0, .ref a0), (1, .int v1), (2, .int v2), (3, .int v3), (4, .int v4), (5, .int v5)] [] S 2 12 := by
  unfold f_CT_format_21 at hf
  refine zq_iload Z d_CT_format_21 5 rfl ?_
  refine zq_iload_n Z d_CT_format_23 1 rfl ?_
  refine zq_iload_n Z d_CT_format_24 2 rfl ?_
  refine zq_iadd Z d_CT_format_25 ?_
  refine zq_icmp_ge Z 74 d_CT_format_26 (by decide) (fun q => ?_) (fun q => ?_)
  · replace hf := zs_T q hf
    refine zq_aload_n Z d_CT_format_74 0 rfl ?_
    refine zq_iload_n Z d_CT_format_75 1 rfl ?_
    refine zq_iload_n Z d_CT_format_76 2 rfl ?_
    refine zq_iadd Z d_CT_format_77 ?_
    have hq := zs_C hf
    clear hf
    obtain ⟨h4, hf⟩ := hq
    obtain ⟨fs5, e6⟩ := zs_isS h4
    have hq := zs_bS hf
    clear hf
    obtain ⟨S2, x3, h1, hf⟩ := hq
    refine zq_contR (zq_stepV Z zq_cf1 (c_CT_finishDraft hl h1) 3 rfl e6 d_CT_format_78 m_130 m_132 m_133 m_131 m_108 p_CT_finishDraft ⟨(Nat.le_of_ble_eq_true rfl), (Nat.le_of_ble_eq_true rfl), (Nat.le_of_ble_eq_true rfl), (Nat.le_of_ble_eq_true rfl)⟩ rfl (Nat.le_of_ble_eq_true rfl)) Z.p ?_
    refine zq_iload Z d_CT_format_81 4 rfl ?_
    exact zq_iret Z d_CT_format_83 (zs_1 hf) (zs_2 zq_ei hf) ⟨(Nat.le_of_ble_eq_true rfl), (Nat.le_of_ble_eq_true rfl)⟩
  · replace hf := zs_N q hf
    refine zq_aload_n Z d_CT_format_29 0 rfl ?_
    have hq := Option.bind_eq_some_iff.mp hf
    clear hf
    obtain ⟨x7, h8, hf⟩ := hq
    refine zr_getr Z cd_CT 2 d_CT_format_30 (by decide) m_91 h8 ?_
    refine zq_iload Z d_CT_format_33 5 rfl ?_
    have hq := Option.bind_eq_some_iff.mp hf
    clear hf
    obtain ⟨a9, h10, hf⟩ := hq
    subst h10
    have hq := zs_C hf
    clear hf
    obtain ⟨h14, hf⟩ := hq
    obtain ⟨fs15, e16⟩ := zs_isS h14
    have hq := zs_bS hf
    clear hf
    obtain ⟨S12, x13, h11, hf⟩ := hq
    refine zq_contR (zq_stepV Z zq_cf1 (c_Text_at hl h11) 0 rfl e16 d_CT_format_35 m_14 m_172 m_17 m_15 m_18 p_Text_at ⟨(Nat.le_of_ble_eq_true rfl), (Nat.le_of_ble_eq_true rfl), (Nat.le_of_ble_eq_true rfl), (Nat.le_of_ble_eq_true rfl)⟩ rfl (Nat.le_of_ble_eq_true rfl)) Z.p ?_
    refine zq_lstore Z [(6, .long x13), (0, .ref a0), (1, .int v1), (2, .int v2), (3, .int v3), (4, .int v4), (5, .int v5)] d_CT_format_38 (by decide) rfl ?_
    refine zq_lload Z d_CT_format_40 0 rfl ?_
    refine zq_bipush Z (8 : Int32) d_CT_format_42 (by decide) ?_
    have hq := zs_bS hf
    clear hf
    obtain ⟨S18, x19, h17, hf⟩ := hq
    refine zq_contR (zq_stepS Z zq_cf1 (c_Let_get hl h17) d_CT_format_44 m_164 m_165 m_166 m_116 p_Let_get ⟨(Nat.le_of_ble_eq_true rfl), (Nat.le_of_ble_eq_true rfl), (Nat.le_of_ble_eq_true rfl), (Nat.le_of_ble_eq_true rfl)⟩ rfl (Nat.le_of_ble_eq_true rfl)) Z.p ?_
    refine zq_iload_n Z d_CT_format_47 4 rfl ?_
    refine zq_icmp_eq Z 54 d_CT_format_48 (by decide) (fun q => ?_) (fun q => ?_)
    · replace hf := zs_T q hf
      refine zq_sub (lo' := [(0, .ref a0), (1, .int v1), (2, .int v2), (3, .int v3), (4, .int v4), (5, .int v5), (6, .long x13)]) [1, 2, 3, 4, 5, 6, 0] rfl ?_
      exact r_CT_format_54 hl Z hk21 hf
    · replace hf := zs_N q hf
      refine zq_iinc Z (v4 + (1 : Int32)) [(4, .int (v4 + (1 : Int32))), (6, .long x13), (0, .ref a0), (1, .int v1), (2, .int v2), (3, .int v3), (5, .int v5)] d_CT_format_51 5 rfl rfl (by decide) rfl ?_
      refine zq_sub (lo' := [(0, .ref a0), (1, .int v1), (2, .int v2), (3, .int v3), (4, .int (v4 + (1 : Int32))), (5, .int v5), (6, .long x13)]) [2, 3, 4, 5, 0, 6, 1] rfl ?_
      exact r_CT_format_54 hl Z hk21 hf
theorem w_CT_format_21 {l : Launch} (hl : l.stackTraces = false) {G : zq_G} {S0 T : zq_S} {v : (Int32 ⊕ Nat)} {X : zq_X} (Z : Z_CT_format l G S0 T v X) : ∀ (n : Nat) (a0 : Nat) (v1 : Int32) (v2 : Int32) (v3 : Int32) (v4 : Int32) (v5 : Int32) (S : zq_S), g_CT_format_21  n a0 v1 v2 v3 v4 v5 S = some (T, v) → zq_W (Y_CT_format l G S0 T v) X 21 [(0, .ref a0), (1, .int v1), (2, .int v2), (3, .int v3), (4, .int v4), (5, .int v5)] [] S 2 12 := by
  intro n
  induction n with
  | zero => intro a0 v1 v2 v3 v4 v5 S hf; cases hf
  | succ n ih =>
    intro a0 v1 v2 v3 v4 v5 S hf
    have hf : f_CT_format_21  (g_CT_format_21  n) a0 v1 v2 v3 v4 v5 S = some (T, v) := hf
    exact r_CT_format_21 hl Z  ih hf
set_option maxHeartbeats 4000000 in
set_option maxRecDepth 100000 in
theorem c_CT_format {l : Launch} (hl : l.stackTraces = false) {G : zq_G} {a0 : Nat} {v1 : Int32} {v2 : Int32} {v3 : Int32} {S0 T : zq_S} {v : (Int32 ⊕ Nat)} (hf : f_CT_format a0 v1 v2 v3 S0 = some (T, v)) : zq_M l y_CT_format (.code y_CT_format b_CT_format 8 (some (.int))) rm_CT_format G [.ref a0, .int v1, .int v2, .int v3] S0 (zq_ei v) T := by
  refine zq_Mof (lo := [(0, .ref a0), (1, .int v1), (2, .int v2), (3, .int v3)]) hl (by decide) (Nat.le_of_ble_eq_true rfl) rfl (fun X Z => ?_)
  have Z : Z_CT_format l G S0 T v X := Z
  show zq_W (Y_CT_format l G S0 T v) X 0 [(0, .ref a0), (1, .int v1), (2, .int v2), (3, .int v3)] [] S0 0 0
  unfold f_CT_format at hf
  refine zq_aload_n Z d_CT_format_0 0 rfl ?_
  refine zq_iload_n Z d_CT_format_1 1 rfl ?_
  refine zq_iload_n Z d_CT_format_2 2 rfl ?_
  have hq := zs_C hf
  clear hf
  obtain ⟨h4, hf⟩ := hq
  obtain ⟨fs5, e6⟩ := zs_isS h4
  have hq := zs_tS hf
  clear hf
  rcases hq with ⟨S2, x3, h1, hf⟩ | ⟨S2, j, h1, hf⟩
  · refine zq_contR (zq_stepV Z zq_cf1 (c_CT_requireRange hl h1) 3 rfl e6 d_CT_format_3 m_145 m_162 m_163 m_161 m_108 p_CT_requireRange ⟨(Nat.le_of_ble_eq_true rfl), (Nat.le_of_ble_eq_true rfl), (Nat.le_of_ble_eq_true rfl), (Nat.le_of_ble_eq_true rfl)⟩ rfl (Nat.le_of_ble_eq_true rfl)) Z.p ?_
    refine zq_iload_n Z d_CT_format_6 3 rfl ?_
    have hq := zs_tS hf
    clear hf
    rcases hq with ⟨S8, x9, h7, hf⟩ | ⟨S8, j, h7, hf⟩
    · refine zq_contR (zq_stepS Z zq_cf1 (c_CT_requireFormat hl h7) d_CT_format_7 m_146 m_159 m_160 m_108 p_CT_requireFormat ⟨(Nat.le_of_ble_eq_true rfl), (Nat.le_of_ble_eq_true rfl), (Nat.le_of_ble_eq_true rfl), (Nat.le_of_ble_eq_true rfl)⟩ rfl (Nat.le_of_ble_eq_true rfl)) Z.p ?_
      refine zq_iconst Z (0 : Int32) d_CT_format_10 (by decide) ?_
      refine zq_istore Z [(4, .int (0 : Int32)), (0, .ref a0), (1, .int v1), (2, .int v2), (3, .int v3)] d_CT_format_11 (by decide) rfl ?_
      refine zq_aload_n Z d_CT_format_13 1 rfl ?_
      refine zq_iload_n Z d_CT_format_14 2 rfl ?_
      have hq := zs_C hf
      clear hf
      obtain ⟨h13, hf⟩ := hq
      obtain ⟨fs14, e15⟩ := zs_isS h13
      have hq := zs_bS hf
      clear hf
      obtain ⟨S11, x12, h10, hf⟩ := hq
      refine zq_contR (zq_stepV Z zq_cf1 (c_CT_startDraft hl h10) 3 rfl e15 d_CT_format_15 m_141 m_143 m_144 m_142 m_108 p_CT_startDraft ⟨(Nat.le_of_ble_eq_true rfl), (Nat.le_of_ble_eq_true rfl), (Nat.le_of_ble_eq_true rfl), (Nat.le_of_ble_eq_true rfl)⟩ rfl (Nat.le_of_ble_eq_true rfl)) Z.p ?_
      refine zq_iload_n Z d_CT_format_18 2 rfl ?_
      refine zq_istore Z [(5, .int v1), (4, .int (0 : Int32)), (0, .ref a0), (1, .int v1), (2, .int v2), (3, .int v3)] d_CT_format_19 (by decide) rfl ?_
      refine zq_sub (lo' := [(0, .ref a0), (1, .int v1), (2, .int v2), (3, .int v3), (4, .int (0 : Int32)), (5, .int v1)]) [2, 3, 4, 5, 1, 0] rfl ?_
      exact w_CT_format_21 hl Z  _ _ _ _ _ _ _ _ hf
    · exact zq_contT Z (zq_stepS Z zq_cf1 (c_CT_requireFormat hl h7) d_CT_format_7 m_146 m_159 m_160 m_108 p_CT_requireFormat ⟨(Nat.le_of_ble_eq_true rfl), (Nat.le_of_ble_eq_true rfl), (Nat.le_of_ble_eq_true rfl), (Nat.le_of_ble_eq_true rfl)⟩ rfl (Nat.le_of_ble_eq_true rfl)) (zs_1 hf) (zs_2 zq_ei hf) ⟨(Nat.le_of_ble_eq_true rfl), (Nat.le_of_ble_eq_true rfl)⟩
  · exact zq_contT Z (zq_stepV Z zq_cf1 (c_CT_requireRange hl h1) 3 rfl e6 d_CT_format_3 m_145 m_162 m_163 m_161 m_108 p_CT_requireRange ⟨(Nat.le_of_ble_eq_true rfl), (Nat.le_of_ble_eq_true rfl), (Nat.le_of_ble_eq_true rfl), (Nat.le_of_ble_eq_true rfl)⟩ rfl (Nat.le_of_ble_eq_true rfl)) (zs_1 hf) (zs_2 zq_ei hf) ⟨(Nat.le_of_ble_eq_true rfl), (Nat.le_of_ble_eq_true rfl)⟩
theorem d_CT_requireSet_0 : decode b_CT_requireSet 0 = .ok (.iload_n 0, 1) := by decide +kernel
theorem d_CT_requireSet_1 : decode b_CT_requireSet 1 = .ok (.iconst 1, 1) := by decide +kernel
theorem d_CT_requireSet_2 : decode b_CT_requireSet 2 = .ok (.if_icmp .lt 10, 3) := by decide +kernel
theorem d_CT_requireSet_5 : decode b_CT_requireSet 5 = .ok (.iload_n 0, 1) := by decide +kernel
theorem d_CT_requireSet_6 : decode b_CT_requireSet 6 = .ok (.sipush 255, 3) := by decide +kernel
theorem d_CT_requireSet_9 : decode b_CT_requireSet 9 = .ok (.if_icmp .le 13, 3) := by decide +kernel
theorem d_CT_requireSet_12 : decode b_CT_requireSet 12 = .ok (.new 38, 3) := by decide +kernel
theorem d_CT_requireSet_15 : decode b_CT_requireSet 15 = .ok (.dup, 1) := by decide +kernel
theorem d_CT_requireSet_16 : decode b_CT_requireSet 16 = .ok (.ldc 191, 2) := by decide +kernel
theorem d_CT_requireSet_18 : decode b_CT_requireSet 18 = .ok (.invokespecial 42, 3) := by decide +kernel
theorem d_CT_requireSet_21 : decode b_CT_requireSet 21 = .ok (.athrow, 1) := by decide +kernel
theorem d_CT_requireSet_22 : decode b_CT_requireSet 22 = .ok (.return_, 1) := by decide +kernel
def f_CT_requireSet_12 (E : zq_S)   (S : zq_S) : Option (zq_S × (Unit ⊕ Nat)) :=
  if S.2.1 = E.2.1 ∧ S.2.2 = E.2.2 then some ((S.1, S.2.1 + 1, S.2.2), .inr 1) else none
def f_CT_requireSet (E : zq_S) (v0 : Int32) (S : zq_S) : Option (zq_S × (Unit ⊕ Nat)) :=
  if v0 < (1 : Int32) then
    f_CT_requireSet_12 E   S
  else
    if v0 ≤ (255 : Int32) then
      some (S, .inl ())
    else
      f_CT_requireSet_12 E   S
set_option maxHeartbeats 4000000 in
set_option maxRecDepth 100000 in
theorem r_CT_requireSet_12 {l : Launch} (hl : l.stackTraces = false) {G : zq_G} {S0 T : zq_S} {v : (Unit ⊕ Nat)} {X : zq_X} (Z : Z_CT_requireSet l G S0 T v X)  {S : zq_S} (hf : f_CT_requireSet_12 S0   S = some (T, v)) : zq_W (Y_CT_requireSet l G S0 T v) X 12 [] [] S 0 0 := by
  unfold f_CT_requireSet_12 at hf
  have hq := zs_C hf
  clear hf
  obtain ⟨h1, hf⟩ := hq
  exact zq_throw Z 1 d_CT_requireSet_12 d_CT_requireSet_15 d_CT_requireSet_16 d_CT_requireSet_18 d_CT_requireSet_21 m_95 m_96 m_97 m_191 ow_CT_42 (zs_1 hf) (zs_2 zq_ev hf) h1 ⟨⟨(Nat.le_of_ble_eq_true rfl), (Nat.le_of_ble_eq_true rfl)⟩, (Nat.le_of_ble_eq_true rfl), (Nat.le_of_ble_eq_true rfl)⟩
set_option maxHeartbeats 4000000 in
set_option maxRecDepth 100000 in
theorem c_CT_requireSet {l : Launch} (hl : l.stackTraces = false) {G : zq_G} {v0 : Int32} {S0 T : zq_S} {v : (Unit ⊕ Nat)} (hf : f_CT_requireSet S0 v0 S0 = some (T, v)) : zq_M l y_CT_requireSet (.code y_CT_requireSet b_CT_requireSet 1 none) rm_CT_requireSet G [.int v0] S0 (zq_ev v) T := by
  refine zq_Mof (lo := [(0, .int v0)]) hl (by decide) (Nat.le_of_ble_eq_true rfl) rfl (fun X Z => ?_)
  have Z : Z_CT_requireSet l G S0 T v X := Z
  show zq_W (Y_CT_requireSet l G S0 T v) X 0 [(0, .int v0)] [] S0 0 0
  unfold f_CT_requireSet at hf
  refine zq_iload_n Z d_CT_requireSet_0 0 rfl ?_
  refine zq_iconst Z (1 : Int32) d_CT_requireSet_1 (by decide) ?_
  refine zq_icmp_lt Z 12 d_CT_requireSet_2 (by decide) (fun q => ?_) (fun q => ?_)
  · replace hf := zs_T q hf
    refine zq_sub (lo' := []) [] rfl ?_
    exact r_CT_requireSet_12 hl Z  hf
  · replace hf := zs_N q hf
    refine zq_iload_n Z d_CT_requireSet_5 0 rfl ?_
    refine zq_sipush Z (255 : Int32) d_CT_requireSet_6 (by decide) ?_
    refine zq_icmp_le Z 22 d_CT_requireSet_9 (by decide) (fun q => ?_) (fun q => ?_)
    · replace hf := zs_T q hf
      exact zq_vret Z d_CT_requireSet_22 (zs_1 hf) (zs_2 zq_ev hf) ⟨(Nat.le_of_ble_eq_true rfl), (Nat.le_of_ble_eq_true rfl)⟩
    · replace hf := zs_N q hf
      refine zq_sub (lo' := []) [] rfl ?_
      exact r_CT_requireSet_12 hl Z  hf
theorem d_CT_settleMarks_0 : decode b_CT_settleMarks 0 = .ok (.iconst 0, 1) := by decide +kernel
theorem d_CT_settleMarks_1 : decode b_CT_settleMarks 1 = .ok (.istore 5, 2) := by decide +kernel
theorem d_CT_settleMarks_3 : decode b_CT_settleMarks 3 = .ok (.aload_n 0, 1) := by decide +kernel
theorem d_CT_settleMarks_4 : decode b_CT_settleMarks 4 = .ok (.iload_n 1, 1) := by decide +kernel
theorem d_CT_settleMarks_5 : decode b_CT_settleMarks 5 = .ok (.invokevirtual 71, 3) := by decide +kernel
theorem d_CT_settleMarks_8 : decode b_CT_settleMarks 8 = .ok (.iload_n 1, 1) := by decide +kernel
theorem d_CT_settleMarks_9 : decode b_CT_settleMarks 9 = .ok (.istore 6, 2) := by decide +kernel
theorem d_CT_settleMarks_11 : decode b_CT_settleMarks 11 = .ok (.iload 6, 2) := by decide +kernel
theorem d_CT_settleMarks_13 : decode b_CT_settleMarks 13 = .ok (.iload_n 1, 1) := by decide +kernel
theorem d_CT_settleMarks_14 : decode b_CT_settleMarks 14 = .ok (.iload_n 2, 1) := by decide +kernel
theorem d_CT_settleMarks_15 : decode b_CT_settleMarks 15 = .ok (.iadd, 1) := by decide +kernel
theorem d_CT_settleMarks_16 : decode b_CT_settleMarks 16 = .ok (.if_icmp .ge 75, 3) := by decide +kernel
theorem d_CT_settleMarks_19 : decode b_CT_settleMarks 19 = .ok (.aload_n 0, 1) := by decide +kernel
theorem d_CT_settleMarks_20 : decode b_CT_settleMarks 20 = .ok (.getfield 23, 3) := by decide +kernel
theorem d_CT_settleMarks_23 : decode b_CT_settleMarks 23 = .ok (.iload 6, 2) := by decide +kernel
theorem d_CT_settleMarks_25 : decode b_CT_settleMarks 25 = .ok (.invokevirtual 91, 3) := by decide +kernel
theorem d_CT_settleMarks_28 : decode b_CT_settleMarks 28 = .ok (.lstore 7, 2) := by decide +kernel
theorem d_CT_settleMarks_30 : decode b_CT_settleMarks 30 = .ok (.iload 4, 2) := by decide +kernel
theorem d_CT_settleMarks_32 : decode b_CT_settleMarks 32 = .ok (.ifCond .eq 12, 3) := by decide +kernel
theorem d_CT_settleMarks_35 : decode b_CT_settleMarks 35 = .ok (.lload 7, 2) := by decide +kernel
theorem d_CT_settleMarks_37 : decode b_CT_settleMarks 37 = .ok (.iload_n 3, 1) := by decide +kernel
theorem d_CT_settleMarks_38 : decode b_CT_settleMarks 38 = .ok (.invokestatic 221, 3) := by decide +kernel
theorem d_CT_settleMarks_41 : decode b_CT_settleMarks 41 = .ok (.goto 9, 3) := by decide +kernel
theorem d_CT_settleMarks_44 : decode b_CT_settleMarks 44 = .ok (.lload 7, 2) := by decide +kernel
theorem d_CT_settleMarks_46 : decode b_CT_settleMarks 46 = .ok (.iload_n 3, 1) := by decide +kernel
theorem d_CT_settleMarks_47 : decode b_CT_settleMarks 47 = .ok (.invokestatic 224, 3) := by decide +kernel
theorem d_CT_settleMarks_50 : decode b_CT_settleMarks 50 = .ok (.lstore 9, 2) := by decide +kernel
theorem d_CT_settleMarks_52 : decode b_CT_settleMarks 52 = .ok (.lload 9, 2) := by decide +kernel
theorem d_CT_settleMarks_54 : decode b_CT_settleMarks 54 = .ok (.lconst 0, 1) := by decide +kernel
theorem d_CT_settleMarks_55 : decode b_CT_settleMarks 55 = .ok (.lcmp, 1) := by decide +kernel
theorem d_CT_settleMarks_56 : decode b_CT_settleMarks 56 = .ok (.ifCond .eq 17, 3) := by decide +kernel
theorem d_CT_settleMarks_59 : decode b_CT_settleMarks 59 = .ok (.lload 9, 2) := by decide +kernel
theorem d_CT_settleMarks_61 : decode b_CT_settleMarks 61 = .ok (.invokestatic 227, 3) := by decide +kernel
theorem d_CT_settleMarks_64 : decode b_CT_settleMarks 64 = .ok (.lload 7, 2) := by decide +kernel
theorem d_CT_settleMarks_66 : decode b_CT_settleMarks 66 = .ok (.invokestatic 227, 3) := by decide +kernel
theorem d_CT_settleMarks_69 : decode b_CT_settleMarks 69 = .ok (.lcmp, 1) := by decide +kernel
theorem d_CT_settleMarks_70 : decode b_CT_settleMarks 70 = .ok (.ifCond .eq 6, 3) := by decide +kernel
theorem d_CT_settleMarks_73 : decode b_CT_settleMarks 73 = .ok (.iinc 5 1, 3) := by decide +kernel
theorem d_CT_settleMarks_76 : decode b_CT_settleMarks 76 = .ok (.aload_n 0, 1) := by decide +kernel
theorem d_CT_settleMarks_77 : decode b_CT_settleMarks 77 = .ok (.getfield 27, 3) := by decide +kernel
theorem d_CT_settleMarks_80 : decode b_CT_settleMarks 80 = .ok (.lload 9, 2) := by decide +kernel
theorem d_CT_settleMarks_82 : decode b_CT_settleMarks 82 = .ok (.invokevirtual 84, 3) := by decide +kernel
theorem d_CT_settleMarks_85 : decode b_CT_settleMarks 85 = .ok (.iinc 6 1, 3) := by decide +kernel
theorem d_CT_settleMarks_88 : decode b_CT_settleMarks 88 = .ok (.goto (-77), 3) := by decide +kernel
theorem d_CT_settleMarks_91 : decode b_CT_settleMarks 91 = .ok (.aload_n 0, 1) := by decide +kernel
theorem d_CT_settleMarks_92 : decode b_CT_settleMarks 92 = .ok (.iload_n 1, 1) := by decide +kernel
theorem d_CT_settleMarks_93 : decode b_CT_settleMarks 93 = .ok (.iload_n 2, 1) := by decide +kernel
theorem d_CT_settleMarks_94 : decode b_CT_settleMarks 94 = .ok (.iadd, 1) := by decide +kernel
theorem d_CT_settleMarks_95 : decode b_CT_settleMarks 95 = .ok (.invokevirtual 88, 3) := by decide +kernel
theorem d_CT_settleMarks_98 : decode b_CT_settleMarks 98 = .ok (.iload 5, 2) := by decide +kernel
theorem d_CT_settleMarks_100 : decode b_CT_settleMarks 100 = .ok (.ireturn, 1) := by decide +kernel
def f_CT_settleMarks_76 (k11 : Nat → Int32 → Int32 → Int32 → Int32 → Int32 → Int32 → zq_S → Option (zq_S × Int32)) (a0 : Nat) (v1 : Int32) (v2 : Int32) (v3 : Int32) (v4 : Int32) (v5 : Int32) (v6 : Int32) (v9 : Int64) (S : zq_S) : Option (zq_S × Int32) :=
  (zs_gr S a0 3 3).bind fun x1 =>
  (x1).bind fun a3 =>
  if zs_is S a3 0 = true then
  zs_b (f_Text_add a3 v9 S) fun S6 _ =>
  k11 a0 v1 v2 v3 v4 v5 (v6 + (1 : Int32)) S6
  else none
def f_CT_settleMarks_73 (k11 : Nat → Int32 → Int32 → Int32 → Int32 → Int32 → Int32 → zq_S → Option (zq_S × Int32)) (a0 : Nat) (v1 : Int32) (v2 : Int32) (v3 : Int32) (v4 : Int32) (v5 : Int32) (v6 : Int32) (v9 : Int64) (S : zq_S) : Option (zq_S × Int32) :=
  f_CT_settleMarks_76 k11 a0 v1 v2 v3 v4 (v5 + (1 : Int32)) v6 v9 S
def f_CT_settleMarks_50 (k11 : Nat → Int32 → Int32 → Int32 → Int32 → Int32 → Int32 → zq_S → Option (zq_S × Int32)) (a0 : Nat) (v1 : Int32) (v2 : Int32) (v3 : Int32) (v4 : Int32) (v5 : Int32) (v6 : Int32) (v7 : Int64) (s0 : Int64) (S : zq_S) : Option (zq_S × Int32) :=
  if (lg_cmp s0 (0 : Int64)) = 0 then
    f_CT_settleMarks_73 k11 a0 v1 v2 v3 v4 v5 v6 s0 S
  else
    zs_b (f_Let_markOf s0 S) fun S2 x3 =>
    zs_b (f_Let_markOf v7 S2) fun S5 x6 =>
    if (lg_cmp x3 x6) = 0 then
      f_CT_settleMarks_76 k11 a0 v1 v2 v3 v4 v5 v6 s0 S5
    else
      f_CT_settleMarks_73 k11 a0 v1 v2 v3 v4 v5 v6 s0 S5
def f_CT_settleMarks_11 (k11 : Nat → Int32 → Int32 → Int32 → Int32 → Int32 → Int32 → zq_S → Option (zq_S × Int32)) (a0 : Nat) (v1 : Int32) (v2 : Int32) (v3 : Int32) (v4 : Int32) (v5 : Int32) (v6 : Int32) (S : zq_S) : Option (zq_S × Int32) :=
  if (v1 + v2) ≤ v6 then
    if zs_is S a0 3 = true then
    zs_b (f_CT_finishDraft a0 (v1 + v2) S) fun S2 _ =>
    some (S2, v5)
    else none
  else
    (zs_gr S a0 3 2).bind fun x7 =>
    (x7).bind fun a9 =>
    if zs_is S a9 0 = true then
    zs_b (f_Text_at a9 v6 S) fun S12 x13 =>
    if v4 = 0 then
      zs_b (f_Let_rejected x13 v3 S12) fun S18 x19 =>
      f_CT_settleMarks_50 k11 a0 v1 v2 v3 v4 v5 v6 x13 x19 S18
    else
      zs_b (f_Let_accepted x13 v3 S12) fun S21 x22 =>
      f_CT_settleMarks_50 k11 a0 v1 v2 v3 v4 v5 v6 x13 x22 S21
    else none
def g_CT_settleMarks_11  : Nat → Nat → Int32 → Int32 → Int32 → Int32 → Int32 → Int32 → zq_S → Option (zq_S × Int32)
  | 0 => fun _ _ _ _ _ _ _ _ => none
  | n + 1 => fun a0 v1 v2 v3 v4 v5 v6 S => f_CT_settleMarks_11  (g_CT_settleMarks_11  n) a0 v1 v2 v3 v4 v5 v6 S
def f_CT_settleMarks (a0 : Nat) (v1 : Int32) (v2 : Int32) (v3 : Int32) (v4 : Int32) (S : zq_S) : Option (zq_S × Int32) :=
  if zs_is S a0 3 = true then
  zs_b (f_CT_startDraft a0 v1 S) fun S2 _ =>
  g_CT_settleMarks_11  zq_F a0 v1 v2 v3 v4 (0 : Int32) v1 S2
  else none
set_option maxHeartbeats 4000000 in
set_option maxRecDepth 100000 in
theorem r_CT_settleMarks_76 {l : Launch} (hl : l.stackTraces = false) {G : zq_G} {S0 T : zq_S} {v : Int32} {X : zq_X} (Z : Z_CT_settleMarks l G S0 T v X) {k11 : Nat → Int32 → Int32 → Int32 → Int32 → Int32 → Int32 → zq_S → Option (zq_S × Int32)} (hk11 : ∀ (a0 : Nat) (v1 : Int32) (v2 : Int32) (v3 : Int32) (v4 : Int32) (v5 : Int32) (v6 : Int32) (S : zq_S), k11 a0 v1 v2 v3 v4 v5 v6 S = some (T, v) → zq_W (Y_CT_settleMarks l G S0 T v) X 11 [(0, .ref a0), (1, .int v1), (2, .int v2), (3, .int v3), (4, .int v4), (5, .int v5), (6, .int v6)] [] S 0 0) {a0 : Nat} {v1 : Int32} {v2 : Int32} {v3 : Int32} {v4 : Int32} {v5 : Int32} {v6 : Int32} {v9 : Int64} {S : zq_S} (hf : f_CT_settleMarks_76 k11 a0 v1 v2 v3 v4 v5 v6 v9 S = some (T, v)) : zq_W (Y_CT_settleMarks l G S0 T v) X 76 [(0, .ref a0), (1, .int v1), (2, .int v2), (3, .int v3), (4, .int v4), (5, .int v5), (6, .int v6), (9, .long v9)] [] S 0 0 := by
  unfold f_CT_settleMarks_76 at hf
  refine zq_aload_n Z d_CT_settleMarks_76 0 rfl ?_
  have hq := Option.bind_eq_some_iff.mp hf
  clear hf
  obtain ⟨x1, h2, hf⟩ := hq
  refine zr_getr Z cd_CT 3 d_CT_settleMarks_77 (by decide) m_92 h2 ?_
  refine zq_lload Z d_CT_settleMarks_80 7 rfl ?_
  have hq := Option.bind_eq_some_iff.mp hf
  clear hf
  obtain ⟨a3, h4, hf⟩ := hq
  subst h4
  have hq := zs_C hf
  clear hf
  obtain ⟨h8, hf⟩ := hq
  obtain ⟨fs9, e10⟩ := zs_isS h8
  have hq := zs_bS hf
  clear hf
  obtain ⟨S6, x7, h5, hf⟩ := hq
  refine zq_contR (zq_stepV Z zq_cf1 (c_Text_add hl h5) 0 rfl e10 d_CT_settleMarks_82 m_137 m_139 m_140 m_138 m_18 p_Text_add ⟨(Nat.le_of_ble_eq_true rfl), (Nat.le_of_ble_eq_true rfl), (Nat.le_of_ble_eq_true rfl), (Nat.le_of_ble_eq_true rfl)⟩ rfl (Nat.le_of_ble_eq_true rfl)) Z.p ?_
  refine zq_iinc Z (v6 + (1 : Int32)) [(6, .int (v6 + (1 : Int32))), (0, .ref a0), (1, .int v1), (2, .int v2), (3, .int v3), (4, .int v4), (5, .int v5), (9, .long v9)] d_CT_settleMarks_85 6 rfl rfl (by decide) rfl ?_
  refine zq_goto Z 11 d_CT_settleMarks_88 (by decide) ?_
  refine zq_sub (lo' := [(0, .ref a0), (1, .int v1), (2, .int v2), (3, .int v3), (4, .int v4), (5, .int v5), (6, .int (v6 + (1 : Int32)))]) [1, 2, 3, 4, 5, 6, 0] rfl ?_
  exact hk11 _ _ _ _ _ _ _ _ hf
set_option maxHeartbeats 4000000 in
set_option maxRecDepth 100000 in
theorem r_CT_settleMarks_73 {l : Launch} (hl : l.stackTraces = false) {G : zq_G} {S0 T : zq_S} {v : Int32} {X : zq_X} (Z : Z_CT_settleMarks l G S0 T v X) {k11 : Nat → Int32 → Int32 → Int32 → Int32 → Int32 → Int32 → zq_S → Option (zq_S × Int32)} (hk11 : ∀ (a0 : Nat) (v1 : Int32) (v2 : Int32) (v3 : Int32) (v4 : Int32) (v5 : Int32) (v6 : Int32) (S : zq_S), k11 a0 v1 v2 v3 v4 v5 v6 S = some (T, v) → zq_W (Y_CT_settleMarks l G S0 T v) X 11 [(0, .ref a0), (1, .int v1), (2, .int v2), (3, .int v3), (4, .int v4), (5, .int v5), (6, .int v6)] [] S 0 0) {a0 : Nat} {v1 : Int32} {v2 : Int32} {v3 : Int32} {v4 : Int32} {v5 : Int32} {v6 : Int32} {v9 : Int64} {S : zq_S} (hf : f_CT_settleMarks_73 k11 a0 v1 v2 v3 v4 v5 v6 v9 S = some (T, v)) : zq_W (Y_CT_settleMarks l G S0 T v) X 73 [(0, .ref a0), (1, .int v1), (2, .int v2), (3, .int v3), (4, .int v4), (5, .int v5), (6, .int v6), (9, .long v9)] [] S 0 0 := by
  unfold f_CT_settleMarks_73 at hf
  refine zq_iinc Z (v5 + (1 : Int32)) [(5, .int (v5 + (1 : Int32))), (0, .ref a0), (1, .int v1), (2, .int v2), (3, .int v3), (4, .int v4), (6, .int v6), (9, .long v9)] d_CT_settleMarks_73 5 rfl rfl (by decide) rfl ?_
  refine zq_sub (lo' := [(0, .ref a0), (1, .int v1), (2, .int v2), (3, .int v3), (4, .int v4), (5, .int (v5 + (1 : Int32))), (6, .int v6), (9, .long v9)]) [1, 2, 3, 4, 5, 0, 6, 7] rfl ?_
  exact r_CT_settleMarks_76 hl Z hk11 hf
set_option maxHeartbeats 4000000 in
set_option maxRecDepth 100000 in
theorem r_CT_settleMarks_50 {l : Launch} (hl : l.stackTraces = false) {G : zq_G} {S0 T : zq_S} {v : Int32} {X : zq_X} (Z : Z_CT_settleMarks l G S0 T v X) {k11 : Nat → Int32 → Int32 → Int32 → Int32 → Int32 → Int32 → zq_S → Option (zq_S × Int32)} (hk11 : ∀ (a0 : Nat) (v1 : Int32) (v2 : Int32) (v3 : Int32) (v4 : Int32) (v5 : Int32) (v6 : Int32) (S : zq_S), k11 a0 v1 v2 v3 v4 v5 v6 S = some (T, v) → zq_W (Y_CT_settleMarks l G S0 T v) X 11 [(0, .ref a0), (1, .int v1), (2, .int v2), (3, .int v3), (4, .int v4), (5, .int v5), (6, .int v6)] [] S 0 0) {a0 : Nat} {v1 : Int32} {v2 : Int32} {v3 : Int32} {v4 : Int32} {v5 : Int32} {v6 : Int32} {v7 : Int64} {s0 : Int64} {S : zq_S} (hf : f_CT_settleMarks_50 k11 a0 v1 v2 v3 v4 v5 v6 v7 s0 S = some (T, v)) : zq_W (Y_CT_settleMarks l G S0 T v) X 50 [(0, .ref a0), (1, .int v1), (2, .int v2), (3, .int v3), (4, .int v4), (5, .int v5), (6, .int v6), (7, .long v7)] [.long s0] S 0 0 := by
  unfold f_CT_settleMarks_50 at hf
  refine zq_lstore Z [(9, .long s0), (0, .ref a0), (1, .int v1), (2, .int v2), (3, .int v3), (4, .int v4), (5, .int v5), (6, .int v6), (7, .long v7)] d_CT_settleMarks_50 (by decide) rfl ?_
  refine zq_lload Z d_CT_settleMarks_52 0 rfl ?_
  refine zq_lconst Z (0 : Int64) d_CT_settleMarks_54 (by decide) ?_
  refine zq_lcmp Z d_CT_settleMarks_55 ?_
  refine zq_if_eq Z 73 d_CT_settleMarks_56 (by decide) (fun q => ?_) (fun q => ?_)
  · replace hf := zs_T q hf
    refine zq_sub (lo' := [(0, .ref a0), (1, .int v1), (2, .int v2), (3, .int v3), (4, .int v4), (5, .int v5), (6, .int v6), (9, .long s0)]) [1, 2, 3, 4, 5, 6, 7, 0] rfl ?_
    exact r_CT_settleMarks_73 hl Z hk11 hf
  · replace hf := zs_N q hf
    refine zq_lload Z d_CT_settleMarks_59 0 rfl ?_
    have hq := zs_bS hf
    clear hf
    obtain ⟨S2, x3, h1, hf⟩ := hq
    refine zq_contR (zq_stepS Z zq_cf1 (c_Let_markOf hl h1) d_CT_settleMarks_61 m_196 m_197 m_198 m_116 p_Let_markOf ⟨(Nat.le_of_ble_eq_true rfl), (Nat.le_of_ble_eq_true rfl), (Nat.le_of_ble_eq_true rfl), (Nat.le_of_ble_eq_true rfl)⟩ rfl (Nat.le_of_ble_eq_true rfl)) Z.p ?_
    refine zq_lload Z d_CT_settleMarks_64 8 rfl ?_
    have hq := zs_bS hf
    clear hf
    obtain ⟨S5, x6, h4, hf⟩ := hq
    refine zq_contR (zq_stepS Z zq_cf1 (c_Let_markOf hl h4) d_CT_settleMarks_66 m_196 m_197 m_198 m_116 p_Let_markOf ⟨(Nat.le_of_ble_eq_true rfl), (Nat.le_of_ble_eq_true rfl), (Nat.le_of_ble_eq_true rfl), (Nat.le_of_ble_eq_true rfl)⟩ rfl (Nat.le_of_ble_eq_true rfl)) Z.p ?_
    refine zq_lcmp Z d_CT_settleMarks_69 ?_
    refine zq_if_eq Z 76 d_CT_settleMarks_70 (by decide) (fun q => ?_) (fun q => ?_)
    · replace hf := zs_T q hf
      refine zq_sub (lo' := [(0, .ref a0), (1, .int v1), (2, .int v2), (3, .int v3), (4, .int v4), (5, .int v5), (6, .int v6), (9, .long s0)]) [1, 2, 3, 4, 5, 6, 7, 0] rfl ?_
      exact r_CT_settleMarks_76 hl Z hk11 hf
    · replace hf := zs_N q hf
      refine zq_sub (lo' := [(0, .ref a0), (1, .int v1), (2, .int v2), (3, .int v3), (4, .int v4), (5, .int v5), (6, .int v6), (9, .long s0)]) [1, 2, 3, 4, 5, 6, 7, 0] rfl ?_
      exact r_CT_settleMarks_73 hl Z hk11 hf
set_option maxHeartbeats 4000000 in
set_option maxRecDepth 100000 in
theorem r_CT_settleMarks_11 {l : Launch} (hl : l.stackTraces = false) {G : zq_G} {S0 T : zq_S} {v : Int32} {X : zq_X} (Z : Z_CT_settleMarks l G S0 T v X) {k11 : Nat → Int32 → Int32 → Int32 → Int32 → Int32 → Int32 → zq_S → Option (zq_S × Int32)} (hk11 : ∀ (a0 : Nat) (v1 : Int32) (v2 : Int32) (v3 : Int32) (v4 : Int32) (v5 : Int32) (v6 : Int32) (S : zq_S), k11 a0 v1 v2 v3 v4 v5 v6 S = some (T, v) → zq_W (Y_CT_settleMarks l G S0 T v) X 11 [(0, .ref a0), (1, .int v1), (2, .int v2), (3, .int v3), (4, .int v4), (5, .int v5), (6, .int v6)] [] S 0 0) {a0 : Nat} {v1 : Int32} {v2 : Int32} {v3 : Int32} {v4 : Int32} {v5 : Int32} {v6 : Int32} {S : zq_S} (hf : f_CT_settleMarks_11 k11 a0 v1 v2 v3 v4 v5 v6 S = some (T, v)) : zq_W (Y_CT_settleMarks l G S0 T v) X 11 [(0, .ref a0), (1, .int v1), (2, .int v2), (3, .int v3), (4, .int v4), (5, .int v5), (6, .int v6)] [] S 0 0 := by
  unfold f_CT_settleMarks_11 at hf
  refine zq_iload Z d_CT_settleMarks_11 6 rfl ?_
  refine zq_iload_n Z d_CT_settleMarks_13 1 rfl ?_
  refine zq_iload_n Z d_CT_settleMarks_14 2 rfl ?_
  refine zq_iadd Z d_CT_settleMarks_15 ?_
  refine zq_icmp_ge Z 91 d_CT_settleMarks_16 (by decide) (fun q => ?_) (fun q => ?_)
  · replace hf := zs_T q hf
    refine zq_aload_n Z d_CT_settleMarks_91 0 rfl ?_
    refine zq_iload_n Z d_CT_settleMarks_92 1 rfl ?_
    refine zq_iload_n Z d_CT_settleMarks_93 2 rfl ?_
    refine zq_iadd Z d_CT_settleMarks_94 ?_
    have hq := zs_C hf
    clear hf
    obtain ⟨h4, hf⟩ := hq
    obtain ⟨fs5, e6⟩ := zs_isS h4
    have hq := zs_bS hf
    clear hf
    obtain ⟨S2, x3, h1, hf⟩ := hq
    refine zq_contR (zq_stepV Z zq_cf1 (c_CT_finishDraft hl h1) 3 rfl e6 d_CT_settleMarks_95 m_130 m_132 m_133 m_131 m_108 p_CT_finishDraft ⟨(Nat.le_of_ble_eq_true rfl), (Nat.le_of_ble_eq_true rfl), (Nat.le_of_ble_eq_true rfl), (Nat.le_of_ble_eq_true rfl)⟩ rfl (Nat.le_of_ble_eq_true rfl)) Z.p ?_
    refine zq_iload Z d_CT_settleMarks_98 5 rfl ?_
    exact zq_iret Z d_CT_settleMarks_100 (zs_1 hf) (zs_2 (fun z => (.inl (some (.int z)) : zq_R)) hf) ⟨(Nat.le_of_ble_eq_true rfl), (Nat.le_of_ble_eq_true rfl)⟩
  · replace hf := zs_N q hf
    refine zq_aload_n Z d_CT_settleMarks_19 0 rfl ?_
    have hq := Option.bind_eq_some_iff.mp hf
    clear hf
    obtain ⟨x7, h8, hf⟩ := hq
    refine zr_getr Z cd_CT 2 d_CT_settleMarks_20 (by decide) m_91 h8 ?_
    refine zq_iload Z d_CT_settleMarks_23 6 rfl ?_
    have hq := Option.bind_eq_some_iff.mp hf
    clear hf
    obtain ⟨a9, h10, hf⟩ := hq
    subst h10
    have hq := zs_C hf
    clear hf
    obtain ⟨h14, hf⟩ := hq
    obtain ⟨fs15, e16⟩ := zs_isS h14
    have hq := zs_bS hf
    clear hf
    obtain ⟨S12, x13, h11, hf⟩ := hq
    refine zq_contR (zq_stepV Z zq_cf1 (c_Text_at hl h11) 0 rfl e16 d_CT_settleMarks_25 m_14 m_172 m_17 m_15 m_18 p_Text_at ⟨(Nat.le_of_ble_eq_true rfl), (Nat.le_of_ble_eq_true rfl), (Nat.le_of_ble_eq_true rfl), (Nat.le_of_ble_eq_true rfl)⟩ rfl (Nat.le_of_ble_eq_true rfl)) Z.p ?_
    refine zq_lstore Z [(7, .long x13), (0, .ref a0), (1, .int v1), (2, .int v2), (3, .int v3), (4, .int v4), (5, .int v5), (6, .int v6)] d_CT_settleMarks_28 (by decide) rfl ?_
    refine zq_iload Z d_CT_settleMarks_30 5 rfl ?_
    refine zq_if_eq Z 44 d_CT_settleMarks_32 (by decide) (fun q => ?_) (fun q => ?_)
    · replace hf := zs_T q hf
      refine zq_lload Z d_CT_settleMarks_44 0 rfl ?_
      refine zq_iload_n Z d_CT_settleMarks_46 4 rfl ?_
      have hq := zs_bS hf
      clear hf
      obtain ⟨S18, x19, h17, hf⟩ := hq
      refine zq_contR (zq_stepS Z zq_cf1 (c_Let_rejected hl h17) d_CT_settleMarks_47 m_199 m_200 m_201 m_116 p_Let_rejected ⟨(Nat.le_of_ble_eq_true rfl), (Nat.le_of_ble_eq_true rfl), (Nat.le_of_ble_eq_true rfl), (Nat.le_of_ble_eq_true rfl)⟩ rfl (Nat.le_of_ble_eq_true rfl)) Z.p ?_
      refine zq_sub (lo' := [(0, .ref a0), (1, .int v1), (2, .int v2), (3, .int v3), (4, .int v4), (5, .int v5), (6, .int v6), (7, .long x13)]) [1, 2, 3, 4, 5, 6, 7, 0] rfl ?_
      exact r_CT_settleMarks_50 hl Z hk11 hf
    · replace hf := zs_N q hf
      refine zq_lload Z d_CT_settleMarks_35 0 rfl ?_
      refine zq_iload_n Z d_CT_settleMarks_37 4 rfl ?_
      have hq := zs_bS hf
      clear hf
      obtain ⟨S21, x22, h20, hf⟩ := hq
      refine zq_contR (zq_stepS Z zq_cf1 (c_Let_accepted hl h20) d_CT_settleMarks_38 m_202 m_203 m_204 m_116 p_Let_accepted ⟨(Nat.le_of_ble_eq_true rfl), (Nat.le_of_ble_eq_true rfl), (Nat.le_of_ble_eq_true rfl), (Nat.le_of_ble_eq_true rfl)⟩ rfl (Nat.le_of_ble_eq_true rfl)) Z.p ?_
      refine zq_goto Z 50 d_CT_settleMarks_41 (by decide) ?_
      refine zq_sub (lo' := [(0, .ref a0), (1, .int v1), (2, .int v2), (3, .int v3), (4, .int v4), (5, .int v5), (6, .int v6), (7, .long x13)]) [1, 2, 3, 4, 5, 6, 7, 0] rfl ?_
      exact r_CT_settleMarks_50 hl Z hk11 hf
theorem w_CT_settleMarks_11 {l : Launch} (hl : l.stackTraces = false) {G : zq_G} {S0 T : zq_S} {v : Int32} {X : zq_X} (Z : Z_CT_settleMarks l G S0 T v X) : ∀ (n : Nat) (a0 : Nat) (v1 : Int32) (v2 : Int32) (v3 : Int32) (v4 : Int32) (v5 : Int32) (v6 : Int32) (S : zq_S), g_CT_settleMarks_11  n a0 v1 v2 v3 v4 v5 v6 S = some (T, v) → zq_W (Y_CT_settleMarks l G S0 T v) X 11 [(0, .ref a0), (1, .int v1), (2, .int v2), (3, .int v3), (4, .int v4), (5, .int v5), (6, .int v6)] [] S 0 0 := by
  intro n
  induction n with
  | zero => intro a0 v1 v2 v3 v4 v5 v6 S hf; cases hf
  | succ n ih =>
    intro a0 v1 v2 v3 v4 v5 v6 S hf
    have hf : f_CT_settleMarks_11  (g_CT_settleMarks_11  n) a0 v1 v2 v3 v4 v5 v6 S = some (T, v) := hf
    exact r_CT_settleMarks_11 hl Z  ih hf
set_option maxHeartbeats 4000000 in
set_option maxRecDepth 100000 in
theorem c_CT_settleMarks {l : Launch} (hl : l.stackTraces = false) {G : zq_G} {a0 : Nat} {v1 : Int32} {v2 : Int32} {v3 : Int32} {v4 : Int32} {S0 T : zq_S} {v : Int32} (hf : f_CT_settleMarks a0 v1 v2 v3 v4 S0 = some (T, v)) : zq_M l y_CT_settleMarks (.code y_CT_settleMarks b_CT_settleMarks 11 (some (.int))) rm_CT_settleMarks G [.ref a0, .int v1, .int v2, .int v3, .int v4] S0 ((.inl (some (.int v)) : zq_R)) T := by
  refine zq_Mof (lo := [(0, .ref a0), (1, .int v1), (2, .int v2), (3, .int v3), (4, .int v4)]) hl (by decide) (Nat.le_of_ble_eq_true rfl) rfl (fun X Z => ?_)
  have Z : Z_CT_settleMarks l G S0 T v X := Z
  show zq_W (Y_CT_settleMarks l G S0 T v) X 0 [(0, .ref a0), (1, .int v1), (2, .int v2), (3, .int v3), (4, .int v4)] [] S0 0 0
  unfold f_CT_settleMarks at hf
  refine zq_iconst Z (0 : Int32) d_CT_settleMarks_0 (by decide) ?_
  refine zq_istore Z [(5, .int (0 : Int32)), (0, .ref a0), (1, .int v1), (2, .int v2), (3, .int v3), (4, .int v4)] d_CT_settleMarks_1 (by decide) rfl ?_
  refine zq_aload_n Z d_CT_settleMarks_3 1 rfl ?_
  refine zq_iload_n Z d_CT_settleMarks_4 2 rfl ?_
  have hq := zs_C hf
  clear hf
  obtain ⟨h4, hf⟩ := hq
  obtain ⟨fs5, e6⟩ := zs_isS h4
  have hq := zs_bS hf
  clear hf
  obtain ⟨S2, x3, h1, hf⟩ := hq
  refine zq_contR (zq_stepV Z zq_cf1 (c_CT_startDraft hl h1) 3 rfl e6 d_CT_settleMarks_5 m_141 m_143 m_144 m_142 m_108 p_CT_startDraft ⟨(Nat.le_of_ble_eq_true rfl), (Nat.le_of_ble_eq_true rfl), (Nat.le_of_ble_eq_true rfl), (Nat.le_of_ble_eq_true rfl)⟩ rfl (Nat.le_of_ble_eq_true rfl)) Z.p ?_
  refine zq_iload_n Z d_CT_settleMarks_8 2 rfl ?_
  refine zq_istore Z [(6, .int v1), (5, .int (0 : Int32)), (0, .ref a0), (1, .int v1), (2, .int v2), (3, .int v3), (4, .int v4)] d_CT_settleMarks_9 (by decide) rfl ?_
  refine zq_sub (lo' := [(0, .ref a0), (1, .int v1), (2, .int v2), (3, .int v3), (4, .int v4), (5, .int (0 : Int32)), (6, .int v1)]) [2, 3, 4, 5, 6, 1, 0] rfl ?_
  exact w_CT_settleMarks_11 hl Z  _ _ _ _ _ _ _ _ _ hf
