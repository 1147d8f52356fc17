theorem d_CT_formatInView_0 : decode b_CT_formatInView 0 = .ok (.iload_n 2, 1) := by decide +kernel
theorem d_CT_formatInView_1 : decode b_CT_formatInView 1 = .ok (.iconst 2, 1) := by decide +kernel
theorem d_CT_formatInView_2 : decode b_CT_formatInView 2 = .ok (.if_icmp .ne 10, 3) := by decide +kernel
theorem d_CT_formatInView_5 : decode b_CT_formatInView 5 = .ok (.lload_n 0, 1) := by decide +kernel
theorem d_CT_formatInView_6 : decode b_CT_formatInView 6 = .ok (.invokestatic 218, 3) := by decide +kernel
theorem d_CT_formatInView_9 : decode b_CT_formatInView 9 = .ok (.goto 9, 3) := by decide +kernel
theorem d_CT_formatInView_12 : decode b_CT_formatInView 12 = .ok (.lload_n 0, 1) := by decide +kernel
theorem d_CT_formatInView_13 : decode b_CT_formatInView 13 = .ok (.bipush 8, 2) := by decide +kernel
theorem d_CT_formatInView_15 : decode b_CT_formatInView 15 = .ok (.invokestatic 99, 3) := by decide +kernel
theorem d_CT_formatInView_18 : decode b_CT_formatInView 18 = .ok (.ireturn, 1) := by decide +kernel
def f_CT_formatInView_18  (s0 : Int32) (S : zq_S) : Option (zq_S × Int32) :=
  some (S, s0)
def f_CT_formatInView (v0 : Int64) (v2 : Int32) (S : zq_S) : Option (zq_S × Int32) :=
  if v2 = (2 : Int32) then
    zs_b (f_Let_formatBefore v0 S) fun S5 x6 =>
    f_CT_formatInView_18  x6 S5
  else
    zs_b (f_Let_get v0 (8 : Int32) S) fun S2 x3 =>
    f_CT_formatInView_18  x3 S2
set_option maxHeartbeats 4000000 in
set_option maxRecDepth 100000 in
theorem r_CT_formatInView_18 {l : Launch} (hl : l.stackTraces = false) {G : zq_G} {S0 T : zq_S} {v : Int32} {X : zq_X} (Z : Z_CT_formatInView l G S0 T v X) {s0 : Int32} {S : zq_S} (hf : f_CT_formatInView_18  s0 S = some (T, v)) : zq_W (Y_CT_formatInView l G S0 T v) X 18 [] [.int s0] S 0 0 := by
  unfold f_CT_formatInView_18 at hf
  exact zq_iret Z d_CT_formatInView_18 (zs_1 hf) (zs_2 (fun z => (.inl (some (.int z)) : zq_R)) hf) ⟨(Nat.le_of_ble_eq_true rfl), (Nat.le_of_ble_eq_true rfl)⟩
set_option maxHeartbeats 4000000 in
set_option maxRecDepth 100000 in
theorem c_CT_formatInView {l : Launch} (hl : l.stackTraces = false) {G : zq_G} {v0 : Int64} {v2 : Int32} {S0 T : zq_S} {v : Int32} (hf : f_CT_formatInView v0 v2 S0 = some (T, v)) : zq_M l y_CT_formatInView (.code y_CT_formatInView b_CT_formatInView 3 (some (.int))) rm_CT_formatInView G [.long v0, .int v2] S0 ((.inl (some (.int v)) : zq_R)) T := by
  refine zq_Mof (lo := [(0, .long v0), (2, .int v2)]) hl (by decide) (Nat.le_of_ble_eq_true rfl) rfl (fun X Z => ?_)
  have Z : Z_CT_formatInView l G S0 T v X := Z
  show zq_W (Y_CT_formatInView l G S0 T v) X 0 [(0, .long v0), (2, .int v2)] [] S0 0 0
  unfold f_CT_formatInView at hf
  refine zq_iload_n Z d_CT_formatInView_0 1 rfl ?_
  refine zq_iconst Z (2 : Int32) d_CT_formatInView_1 (by decide) ?_
  refine zq_icmp_ne Z 12 d_CT_formatInView_2 (by decide) (fun q => ?_) (fun q => ?_)
  · replace hf := zs_N q hf
    refine zq_lload_n Z d_CT_formatInView_12 0 rfl ?_
    refine zq_bipush Z (8 : Int32) d_CT_formatInView_13 (by decide) ?_
    have hq := zs_bS hf
    clear hf
    obtain ⟨S2, x3, h1, hf⟩ := hq
    refine zq_contR (zq_stepS Z zq_cf1 (c_Let_get hl h1) d_CT_formatInView_15 m_164 m_165 m_166 m_116 p_Let_get ⟨(Nat.le_of_ble_eq_true rfl), (Nat.le_of_ble_eq_true rfl), (Nat.le_of_ble_eq_true rfl), (Nat.le_of_ble_eq_true rfl)⟩ rfl (Nat.le_of_ble_eq_true rfl)) Z.p ?_
    refine zq_sub (lo' := []) [] rfl ?_
    exact r_CT_formatInView_18 hl Z  hf
  · replace hf := zs_T q hf
    refine zq_lload_n Z d_CT_formatInView_5 0 rfl ?_
    have hq := zs_bS hf
    clear hf
    obtain ⟨S5, x6, h4, hf⟩ := hq
    refine zq_contR (zq_stepS Z zq_cf1 (c_Let_formatBefore hl h4) d_CT_formatInView_6 m_181 m_182 m_183 m_116 p_Let_formatBefore ⟨(Nat.le_of_ble_eq_true rfl), (Nat.le_of_ble_eq_true rfl), (Nat.le_of_ble_eq_true rfl), (Nat.le_of_ble_eq_true rfl)⟩ rfl (Nat.le_of_ble_eq_true rfl)) Z.p ?_
    refine zq_goto Z 18 d_CT_formatInView_9 (by decide) ?_
    refine zq_sub (lo' := []) [] rfl ?_
    exact r_CT_formatInView_18 hl Z  hf
theorem d_CT_seen_0 : decode b_CT_seen 0 = .ok (.iload_n 1, 1) := by decide +kernel
theorem d_CT_seen_1 : decode b_CT_seen 1 = .ok (.invokestatic 138, 3) := by decide +kernel
theorem d_CT_seen_4 : decode b_CT_seen 4 = .ok (.ifCond .eq 12, 3) := by decide +kernel
theorem d_CT_seen_7 : decode b_CT_seen 7 = .ok (.iload_n 3, 1) := by decide +kernel
theorem d_CT_seen_8 : decode b_CT_seen 8 = .ok (.ifCond .lt 8, 3) := by decide +kernel
theorem d_CT_seen_11 : decode b_CT_seen 11 = .ok (.iload_n 3, 1) := by decide +kernel
theorem d_CT_seen_12 : decode b_CT_seen 12 = .ok (.iconst 2, 1) := by decide +kernel
theorem d_CT_seen_13 : decode b_CT_seen 13 = .ok (.if_icmp .le 13, 3) := by decide +kernel
theorem d_CT_seen_16 : decode b_CT_seen 16 = .ok (.new 38, 3) := by decide +kernel
theorem d_CT_seen_19 : decode b_CT_seen 19 = .ok (.dup, 1) := by decide +kernel
theorem d_CT_seen_20 : decode b_CT_seen 20 = .ok (.ldc 146, 2) := by decide +kernel
theorem d_CT_seen_22 : decode b_CT_seen 22 = .ok (.invokespecial 42, 3) := by decide +kernel
theorem d_CT_seen_25 : decode b_CT_seen 25 = .ok (.athrow, 1) := by decide +kernel
theorem d_CT_seen_26 : decode b_CT_seen 26 = .ok (.aload_n 0, 1) := by decide +kernel
theorem d_CT_seen_27 : decode b_CT_seen 27 = .ok (.iload_n 1, 1) := by decide +kernel
theorem d_CT_seen_28 : decode b_CT_seen 28 = .ok (.iload_n 2, 1) := by decide +kernel
theorem d_CT_seen_29 : decode b_CT_seen 29 = .ok (.invokevirtual 148, 3) := by decide +kernel
theorem d_CT_seen_32 : decode b_CT_seen 32 = .ok (.istore 4, 2) := by decide +kernel
theorem d_CT_seen_34 : decode b_CT_seen 34 = .ok (.iload 4, 2) := by decide +kernel
theorem d_CT_seen_36 : decode b_CT_seen 36 = .ok (.ifCond .ge 13, 3) := by decide +kernel
theorem d_CT_seen_39 : decode b_CT_seen 39 = .ok (.new 152, 3) := by decide +kernel
theorem d_CT_seen_42 : decode b_CT_seen 42 = .ok (.dup, 1) := by decide +kernel
theorem d_CT_seen_43 : decode b_CT_seen 43 = .ok (.ldc 154, 2) := by decide +kernel
theorem d_CT_seen_45 : decode b_CT_seen 45 = .ok (.invokespecial 156, 3) := by decide +kernel
theorem d_CT_seen_48 : decode b_CT_seen 48 = .ok (.athrow, 1) := by decide +kernel
theorem d_CT_seen_49 : decode b_CT_seen 49 = .ok (.iload_n 3, 1) := by decide +kernel
theorem d_CT_seen_50 : decode b_CT_seen 50 = .ok (.iconst 2, 1) := by decide +kernel
theorem d_CT_seen_51 : decode b_CT_seen 51 = .ok (.if_icmp .ne 6, 3) := by decide +kernel
theorem d_CT_seen_54 : decode b_CT_seen 54 = .ok (.iload 4, 2) := by decide +kernel
theorem d_CT_seen_56 : decode b_CT_seen 56 = .ok (.ireturn, 1) := by decide +kernel
theorem d_CT_seen_57 : decode b_CT_seen 57 = .ok (.aload_n 0, 1) := by decide +kernel
theorem d_CT_seen_58 : decode b_CT_seen 58 = .ok (.getfield 23, 3) := by decide +kernel
theorem d_CT_seen_61 : decode b_CT_seen 61 = .ok (.iload 4, 2) := by decide +kernel
theorem d_CT_seen_63 : decode b_CT_seen 63 = .ok (.invokevirtual 91, 3) := by decide +kernel
theorem d_CT_seen_66 : decode b_CT_seen 66 = .ok (.lstore 5, 2) := by decide +kernel
theorem d_CT_seen_68 : decode b_CT_seen 68 = .ok (.iload_n 3, 1) := by decide +kernel
theorem d_CT_seen_69 : decode b_CT_seen 69 = .ok (.ifCond .ne 12, 3) := by decide +kernel
theorem d_CT_seen_72 : decode b_CT_seen 72 = .ok (.lload 5, 2) := by decide +kernel
theorem d_CT_seen_74 : decode b_CT_seen 74 = .ok (.iconst 0, 1) := by decide +kernel
theorem d_CT_seen_75 : decode b_CT_seen 75 = .ok (.invokestatic 99, 3) := by decide +kernel
theorem d_CT_seen_78 : decode b_CT_seen 78 = .ok (.goto 9, 3) := by decide +kernel
theorem d_CT_seen_81 : decode b_CT_seen 81 = .ok (.lload 5, 2) := by decide +kernel
theorem d_CT_seen_83 : decode b_CT_seen 83 = .ok (.iload_n 1, 1) := by decide +kernel
theorem d_CT_seen_84 : decode b_CT_seen 84 = .ok (.invokestatic 157, 3) := by decide +kernel
theorem d_CT_seen_87 : decode b_CT_seen 87 = .ok (.ireturn, 1) := by decide +kernel
def f_CT_seen_87 (E : zq_S)  (s0 : Int32) (S : zq_S) : Option (zq_S × (Int32 ⊕ Nat)) :=
  some (S, .inl s0)
def f_CT_seen_16 (E : zq_S)   (S : zq_S) : Option (zq_S × (Int32 ⊕ Nat)) :=
  if S.2.1 = E.2.1 ∧ S.2.2 = E.2.2 then some ((S.1, S.2.1 + 1, S.2.2), .inr 1) else none
def f_CT_seen (E : zq_S) (a0 : Nat) (v1 : Int32) (v2 : Int32) (v3 : Int32) (S : zq_S) : Option (zq_S × (Int32 ⊕ Nat)) :=
  zs_b (f_CT_isView v1 S) fun S2 x3 =>
  if x3 = 0 then
    f_CT_seen_16 E   S2
  else
    if v3 < 0 then
      f_CT_seen_16 E   S2
    else
      if v3 ≤ (2 : Int32) then
        if zs_is S2 a0 3 = true then
        zs_b (f_CT_placeOfSeen a0 v1 v2 S2) fun S5 x6 =>
        if 0 ≤ x6 then
          if v3 = (2 : Int32) then
            some (S5, .inl x6)
          else
            (zs_gr S5 a0 3 2).bind fun x10 =>
            (x10).bind fun a12 =>
            if zs_is S5 a12 0 = true then
            zs_b (f_Text_at a12 x6 S5) fun S15 x16 =>
            if v3 = 0 then
              zs_b (f_Let_get x16 (0 : Int32) S15) fun S24 x25 =>
              f_CT_seen_87 E  x25 S24
            else
              zs_b (f_CT_formatInView x16 v1 S15) fun S21 x22 =>
              f_CT_seen_87 E  x22 S21
            else none
        else
          if S5.2.1 = E.2.1 ∧ S5.2.2 = E.2.2 then some ((S5.1, S5.2.1 + 1, S5.2.2), .inr 0) else none
        else none
      else
        f_CT_seen_16 E   S2
set_option maxHeartbeats 4000000 in
set_option maxRecDepth 100000 in
theorem r_CT_seen_87 {l : Launch} (hl : l.stackTraces = false) {G : zq_G} {S0 T : zq_S} {v : (Int32 ⊕ Nat)} {X : zq_X} (Z : Z_CT_seen l G S0 T v X) {s0 : Int32} {S : zq_S} (hf : f_CT_seen_87 S0  s0 S = some (T, v)) : zq_W (Y_CT_seen l G S0 T v) X 87 [] [.int s0] S 0 0 := by
  unfold f_CT_seen_87 at hf
  exact zq_iret Z d_CT_seen_87 (zs_1 hf) (zs_2 zq_ei hf) ⟨(Nat.le_of_ble_eq_true rfl), (Nat.le_of_ble_eq_true rfl)⟩
set_option maxHeartbeats 4000000 in
set_option maxRecDepth 100000 in
theorem r_CT_seen_16 {l : Launch} (hl : l.stackTraces = false) {G : zq_G} {S0 T : zq_S} {v : (Int32 ⊕ Nat)} {X : zq_X} (Z : Z_CT_seen l G S0 T v X)  {S : zq_S} (hf : f_CT_seen_16 S0   S = some (T, v)) : zq_W (Y_CT_seen l G S0 T v) X 16 [] [] S 0 0 := by
  unfold f_CT_seen_16 at hf
  have hq := zs_C hf
  clear hf
  obtain ⟨h1, hf⟩ := hq
  exact zq_throw Z 1 d_CT_seen_16 d_CT_seen_19 d_CT_seen_20 d_CT_seen_22 d_CT_seen_25 m_95 m_96 m_97 m_236 ow_CT_42 (zs_1 hf) (zs_2 zq_ei hf) h1 ⟨⟨(Nat.le_of_ble_eq_true rfl), (Nat.le_of_ble_eq_true rfl)⟩, (Nat.le_of_ble_eq_true rfl), (Nat.le_of_ble_eq_true rfl)⟩
set_option maxHeartbeats 4000000 in
set_option maxRecDepth 100000 in
theorem c_CT_seen {l : Launch} (hl : l.stackTraces = false) {G : zq_G} {a0 : Nat} {v1 : Int32} {v2 : Int32} {v3 : Int32} {S0 T : zq_S} {v : (Int32 ⊕ Nat)} (hf : f_CT_seen S0 a0 v1 v2 v3 S0 = some (T, v)) : zq_M l y_CT_seen (.code y_CT_seen b_CT_seen 7 (some (.int))) rm_CT_seen G [.ref a0, .int v1, .int v2, .int v3] S0 (zq_ei v) T := by
  refine zq_Mof (lo := [(0, .ref a0), (1, .int v1), (2, .int v2), (3, .int v3)]) hl (by decide) (Nat.le_of_ble_eq_true rfl) rfl (fun X Z => ?_)
  have Z : Z_CT_seen l G S0 T v X := Z
  show zq_W (Y_CT_seen l G S0 T v) X 0 [(0, .ref a0), (1, .int v1), (2, .int v2), (3, .int v3)] [] S0 0 0
  unfold f_CT_seen at hf
  refine zq_iload_n Z d_CT_seen_0 1 rfl ?_
  have hq := zs_bS hf
  clear hf
  obtain ⟨S2, x3, h1, hf⟩ := hq
  refine zq_contR (zq_stepS Z zq_cf1 (c_CT_isView hl h1) d_CT_seen_1 m_233 m_234 m_235 m_108 p_CT_isView ⟨(Nat.le_of_ble_eq_true rfl), (Nat.le_of_ble_eq_true rfl), (Nat.le_of_ble_eq_true rfl), (Nat.le_of_ble_eq_true rfl)⟩ rfl (Nat.le_of_ble_eq_true rfl)) Z.p ?_
  refine zq_if_eq Z 16 d_CT_seen_4 (by decide) (fun q => ?_) (fun q => ?_)
  · replace hf := zs_T q hf
    refine zq_sub (lo' := []) [] rfl ?_
    exact r_CT_seen_16 hl Z  hf
  · replace hf := zs_N q hf
    refine zq_iload_n Z d_CT_seen_7 3 rfl ?_
    refine zq_if_lt Z 16 d_CT_seen_8 (by decide) (fun q => ?_) (fun q => ?_)
    · replace hf := zs_T q hf
      refine zq_sub (lo' := []) [] rfl ?_
      exact r_CT_seen_16 hl Z  hf
    · replace hf := zs_N q hf
      refine zq_iload_n Z d_CT_seen_11 3 rfl ?_
      refine zq_iconst Z (2 : Int32) d_CT_seen_12 (by decide) ?_
      refine zq_icmp_le Z 26 d_CT_seen_13 (by decide) (fun q => ?_) (fun q => ?_)
      · replace hf := zs_T q hf
        refine zq_aload_n Z d_CT_seen_26 0 rfl ?_
        refine zq_iload_n Z d_CT_seen_27 1 rfl ?_
        refine zq_iload_n Z d_CT_seen_28 2 rfl ?_
        have hq := zs_C hf
        clear hf
        obtain ⟨h7, hf⟩ := hq
        obtain ⟨fs8, e9⟩ := zs_isS h7
        have hq := zs_bS hf
        clear hf
        obtain ⟨S5, x6, h4, hf⟩ := hq
        refine zq_contR (zq_stepV Z zq_cf1 (c_CT_placeOfSeen hl h4) 3 rfl e9 d_CT_seen_29 m_237 m_239 m_240 m_238 m_108 p_CT_placeOfSeen ⟨(Nat.le_of_ble_eq_true rfl), (Nat.le_of_ble_eq_true rfl), (Nat.le_of_ble_eq_true rfl), (Nat.le_of_ble_eq_true rfl)⟩ rfl (Nat.le_of_ble_eq_true rfl)) Z.p ?_
        refine zq_istore Z [(4, .int x6), (0, .ref a0), (1, .int v1), (2, .int v2), (3, .int v3)] d_CT_seen_32 (by decide) rfl ?_
        refine zq_iload Z d_CT_seen_34 0 rfl ?_
        refine zq_if_ge Z 49 d_CT_seen_36 (by decide) (fun q => ?_) (fun q => ?_)
        · replace hf := zs_T q hf
          refine zq_iload_n Z d_CT_seen_49 4 rfl ?_
          refine zq_iconst Z (2 : Int32) d_CT_seen_50 (by decide) ?_
          refine zq_icmp_ne Z 57 d_CT_seen_51 (by decide) (fun q => ?_) (fun q => ?_)
          · replace hf := zs_N q hf
            refine zq_aload_n Z d_CT_seen_57 1 rfl ?_
            have hq := Option.bind_eq_some_iff.mp hf
            clear hf
            obtain ⟨x10, h11, hf⟩ := hq
            refine zr_getr Z cd_CT 2 d_CT_seen_58 (by decide) m_91 h11 ?_
            refine zq_iload Z d_CT_seen_61 0 rfl ?_
            have hq := Option.bind_eq_some_iff.mp hf
            clear hf
            obtain ⟨a12, h13, hf⟩ := hq
            subst h13
            have hq := zs_C hf
            clear hf
            obtain ⟨h17, hf⟩ := hq
            obtain ⟨fs18, e19⟩ := zs_isS h17
            have hq := zs_bS hf
            clear hf
            obtain ⟨S15, x16, h14, hf⟩ := hq
            refine zq_contR (zq_stepV Z zq_cf1 (c_Text_at hl h14) 0 rfl e19 d_CT_seen_63 m_14 m_172 m_17 m_15 m_18 p_Text_at ⟨(Nat.le_of_ble_eq_true rfl), (Nat.le_of_ble_eq_true rfl), (Nat.le_of_ble_eq_true rfl), (Nat.le_of_ble_eq_true rfl)⟩ rfl (Nat.le_of_ble_eq_true rfl)) Z.p ?_
            refine zq_lstore Z [(5, .long x16), (4, .int x6), (0, .ref a0), (1, .int v1), (2, .int v2), (3, .int v3)] d_CT_seen_66 (by decide) rfl ?_
            refine zq_iload_n Z d_CT_seen_68 5 rfl ?_
            refine zq_if_ne Z 81 d_CT_seen_69 (by decide) (fun q => ?_) (fun q => ?_)
            · replace hf := zs_N q hf
              refine zq_lload Z d_CT_seen_81 0 rfl ?_
              refine zq_iload_n Z d_CT_seen_83 3 rfl ?_
              have hq := zs_bS hf
              clear hf
              obtain ⟨S21, x22, h20, hf⟩ := hq
              refine zq_contR (zq_stepS Z zq_cf1 (c_CT_formatInView hl h20) d_CT_seen_84 m_241 m_242 m_243 m_108 p_CT_formatInView ⟨(Nat.le_of_ble_eq_true rfl), (Nat.le_of_ble_eq_true rfl), (Nat.le_of_ble_eq_true rfl), (Nat.le_of_ble_eq_true rfl)⟩ rfl (Nat.le_of_ble_eq_true rfl)) Z.p ?_
              refine zq_sub (lo' := []) [] rfl ?_
              exact r_CT_seen_87 hl Z  hf
            · replace hf := zs_T q hf
              refine zq_lload Z d_CT_seen_72 0 rfl ?_
              refine zq_iconst Z (0 : Int32) d_CT_seen_74 (by decide) ?_
              have hq := zs_bS hf
              clear hf
              obtain ⟨S24, x25, h23, hf⟩ := hq
              refine zq_contR (zq_stepS Z zq_cf1 (c_Let_get hl h23) d_CT_seen_75 m_164 m_165 m_166 m_116 p_Let_get ⟨(Nat.le_of_ble_eq_true rfl), (Nat.le_of_ble_eq_true rfl), (Nat.le_of_ble_eq_true rfl), (Nat.le_of_ble_eq_true rfl)⟩ rfl (Nat.le_of_ble_eq_true rfl)) Z.p ?_
              refine zq_goto Z 87 d_CT_seen_78 (by decide) ?_
              refine zq_sub (lo' := []) [] rfl ?_
              exact r_CT_seen_87 hl Z  hf
          · replace hf := zs_T q hf
            refine zq_iload Z d_CT_seen_54 0 rfl ?_
            exact zq_iret Z d_CT_seen_56 (zs_1 hf) (zs_2 zq_ei hf) ⟨(Nat.le_of_ble_eq_true rfl), (Nat.le_of_ble_eq_true rfl)⟩
        · replace hf := zs_N q hf
          have hq := zs_C hf
          clear hf
          obtain ⟨h26, hf⟩ := hq
          exact zq_throw Z 0 d_CT_seen_39 d_CT_seen_42 d_CT_seen_43 d_CT_seen_45 d_CT_seen_48 m_99 m_100 m_101 m_244 ow_CT_156 (zs_1 hf) (zs_2 zq_ei hf) h26 ⟨⟨(Nat.le_of_ble_eq_true rfl), (Nat.le_of_ble_eq_true rfl)⟩, (Nat.le_of_ble_eq_true rfl), (Nat.le_of_ble_eq_true rfl)⟩
      · replace hf := zs_N q hf
        refine zq_sub (lo' := []) [] rfl ?_
        exact r_CT_seen_16 hl Z  hf
theorem d_CT_mark_0 : decode b_CT_mark 0 = .ok (.aload_n 0, 1) := by decide +kernel
theorem d_CT_mark_1 : decode b_CT_mark 1 = .ok (.iload_n 1, 1) := by decide +kernel
theorem d_CT_mark_2 : decode b_CT_mark 2 = .ok (.iconst 1, 1) := by decide +kernel
theorem d_CT_mark_3 : decode b_CT_mark 3 = .ok (.invokevirtual 45, 3) := by decide +kernel
theorem d_CT_mark_6 : decode b_CT_mark 6 = .ok (.aload_n 0, 1) := by decide +kernel
theorem d_CT_mark_7 : decode b_CT_mark 7 = .ok (.getfield 23, 3) := by decide +kernel
theorem d_CT_mark_10 : decode b_CT_mark 10 = .ok (.iload_n 1, 1) := by decide +kernel
theorem d_CT_mark_11 : decode b_CT_mark 11 = .ok (.invokevirtual 91, 3) := by decide +kernel
theorem d_CT_mark_14 : decode b_CT_mark 14 = .ok (.lstore_n 3, 1) := by decide +kernel
theorem d_CT_mark_15 : decode b_CT_mark 15 = .ok (.iload_n 2, 1) := by decide +kernel
theorem d_CT_mark_16 : decode b_CT_mark 16 = .ok (.tableswitch 71 0 3 #[32, 39, 46, 53], 32) := by decide +kernel
theorem d_CT_mark_48 : decode b_CT_mark 48 = .ok (.lload_n 3, 1) := by decide +kernel
theorem d_CT_mark_49 : decode b_CT_mark 49 = .ok (.bipush 16, 2) := by decide +kernel
theorem d_CT_mark_51 : decode b_CT_mark 51 = .ok (.invokestatic 99, 3) := by decide +kernel
theorem d_CT_mark_54 : decode b_CT_mark 54 = .ok (.ireturn, 1) := by decide +kernel
theorem d_CT_mark_55 : decode b_CT_mark 55 = .ok (.lload_n 3, 1) := by decide +kernel
theorem d_CT_mark_56 : decode b_CT_mark 56 = .ok (.bipush 24, 2) := by decide +kernel
theorem d_CT_mark_58 : decode b_CT_mark 58 = .ok (.invokestatic 99, 3) := by decide +kernel
theorem d_CT_mark_61 : decode b_CT_mark 61 = .ok (.ireturn, 1) := by decide +kernel
theorem d_CT_mark_62 : decode b_CT_mark 62 = .ok (.lload_n 3, 1) := by decide +kernel
theorem d_CT_mark_63 : decode b_CT_mark 63 = .ok (.bipush 32, 2) := by decide +kernel
theorem d_CT_mark_65 : decode b_CT_mark 65 = .ok (.invokestatic 99, 3) := by decide +kernel
theorem d_CT_mark_68 : decode b_CT_mark 68 = .ok (.ireturn, 1) := by decide +kernel
theorem d_CT_mark_69 : decode b_CT_mark 69 = .ok (.lload_n 3, 1) := by decide +kernel
theorem d_CT_mark_70 : decode b_CT_mark 70 = .ok (.invokestatic 160, 3) := by decide +kernel
theorem d_CT_mark_73 : decode b_CT_mark 73 = .ok (.ifCond .eq 12, 3) := by decide +kernel
theorem d_CT_mark_76 : decode b_CT_mark 76 = .ok (.lload_n 3, 1) := by decide +kernel
theorem d_CT_mark_77 : decode b_CT_mark 77 = .ok (.bipush 40, 2) := by decide +kernel
theorem d_CT_mark_79 : decode b_CT_mark 79 = .ok (.invokestatic 99, 3) := by decide +kernel
theorem d_CT_mark_82 : decode b_CT_mark 82 = .ok (.goto 4, 3) := by decide +kernel
theorem d_CT_mark_85 : decode b_CT_mark 85 = .ok (.iconst (-1), 1) := by decide +kernel
theorem d_CT_mark_86 : decode b_CT_mark 86 = .ok (.ireturn, 1) := by decide +kernel
theorem d_CT_mark_87 : decode b_CT_mark 87 = .ok (.new 38, 3) := by decide +kernel
theorem d_CT_mark_90 : decode b_CT_mark 90 = .ok (.dup, 1) := by decide +kernel
theorem d_CT_mark_91 : decode b_CT_mark 91 = .ok (.ldc 164, 2) := by decide +kernel
theorem d_CT_mark_93 : decode b_CT_mark 93 = .ok (.invokespecial 42, 3) := by decide +kernel
theorem d_CT_mark_96 : decode b_CT_mark 96 = .ok (.athrow, 1) := by decide +kernel
def f_CT_mark_86 (E : zq_S)  (s0 : Int32) (S : zq_S) : Option (zq_S × (Int32 ⊕ Nat)) :=
  some (S, .inl s0)
def f_CT_mark (E : zq_S) (a0 : Nat) (v1 : Int32) (v2 : Int32) (S : zq_S) : Option (zq_S × (Int32 ⊕ Nat)) :=
  if zs_is S a0 3 = true then
  zs_t (f_CT_requireRange S a0 v1 (1 : Int32) S) (fun S2 _ =>
    (zs_gr S2 a0 3 2).bind fun x7 =>
    (x7).bind fun a9 =>
    if zs_is S2 a9 0 = true then
    zs_b (f_Text_at a9 v1 S2) fun S12 x13 =>
    if v2 = 0 then
      zs_b (f_Let_get x13 (16 : Int32) S12) fun S18 x19 =>
      some (S18, .inl x19)
    else
      if v2 = 1 then
        zs_b (f_Let_get x13 (24 : Int32) S12) fun S21 x22 =>
        some (S21, .inl x22)
      else
        if v2 = 2 then
          zs_b (f_Let_get x13 (32 : Int32) S12) fun S24 x25 =>
          some (S24, .inl x25)
        else
          if v2 = 3 then
            zs_b (f_Let_isFormatted x13 S12) fun S27 x28 =>
            if x28 = 0 then
              f_CT_mark_86 E  (-1 : Int32) S27
            else
              zs_b (f_Let_get x13 (40 : Int32) S27) fun S30 x31 =>
              f_CT_mark_86 E  x31 S30
          else
            if S12.2.1 = E.2.1 ∧ S12.2.2 = E.2.2 then some ((S12.1, S12.2.1 + 1, S12.2.2), .inr 1) else none
    else none
    ) (fun S2 j => some (S2, .inr j))
  else none
set_option maxHeartbeats 4000000 in
set_option maxRecDepth 100000 in
theorem r_CT_mark_86 {l : Launch} (hl : l.stackTraces = false) {G : zq_G} {S0 T : zq_S} {v : (Int32 ⊕ Nat)} {X : zq_X} (Z : Z_CT_mark l G S0 T v X) {s0 : Int32} {S : zq_S} (hf : f_CT_mark_86 S0  s0 S = some (T, v)) : zq_W (Y_CT_mark l G S0 T v) X 86 [] [.int s0] S 1 6 := by
  unfold f_CT_mark_86 at hf
  exact zq_iret Z d_CT_mark_86 (zs_1 hf) (zs_2 zq_ei hf) ⟨(Nat.le_of_ble_eq_true rfl), (Nat.le_of_ble_eq_true rfl)⟩
set_option maxHeartbeats 4000000 in
set_option maxRecDepth 100000 in
theorem c_CT_mark {l : Launch} (hl : l.stackTraces = false) {G : zq_G} {a0 : Nat} {v1 : Int32} {v2 : Int32} {S0 T : zq_S} {v : (Int32 ⊕ Nat)} (hf : f_CT_mark S0 a0 v1 v2 S0 = some (T, v)) : zq_M l y_CT_mark (.code y_CT_mark b_CT_mark 5 (some (.int))) rm_CT_mark G [.ref a0, .int v1, .int v2] S0 (zq_ei v) T := by
  refine zq_Mof (lo := [(0, .ref a0), (1, .int v1), (2, .int v2)]) hl (by decide) (Nat.le_of_ble_eq_true rfl) rfl (fun X Z => ?_)
  have Z : Z_CT_mark l G S0 T v X := Z
  show zq_W (Y_CT_mark l G S0 T v) X 0 [(0, .ref a0), (1, .int v1), (2, .int v2)] [] S0 0 0
  unfold f_CT_mark at hf
  refine zq_aload_n Z d_CT_mark_0 0 rfl ?_
  refine zq_iload_n Z d_CT_mark_1 1 rfl ?_
  refine zq_iconst Z (1 : Int32) d_CT_mark_2 (by decide) ?_
  have hq := zs_C hf
  clear hf
  obtain ⟨h4, hf⟩ := hq
  obtain ⟨fs5, e6⟩ := zs_isS h4
  have hq := zs_tS hf
  clear hf
  rcases hq with ⟨S2, x3, h1, hf⟩ | ⟨S2, j, h1, hf⟩
  · refine zq_contR (zq_stepV Z zq_cf1 (c_CT_requireRange hl h1) 3 rfl e6 d_CT_mark_3 m_145 m_162 m_163 m_161 m_108 p_CT_requireRange ⟨(Nat.le_of_ble_eq_true rfl), (Nat.le_of_ble_eq_true rfl), (Nat.le_of_ble_eq_true rfl), (Nat.le_of_ble_eq_true rfl)⟩ rfl (Nat.le_of_ble_eq_true rfl)) Z.p ?_
    refine zq_aload_n Z d_CT_mark_6 0 rfl ?_
    have hq := Option.bind_eq_some_iff.mp hf
    clear hf
    obtain ⟨x7, h8, hf⟩ := hq
    refine zr_getr Z cd_CT 2 d_CT_mark_7 (by decide) m_91 h8 ?_
    refine zq_iload_n Z d_CT_mark_10 1 rfl ?_
    have hq := Option.bind_eq_some_iff.mp hf
    clear hf
    obtain ⟨a9, h10, hf⟩ := hq
    subst h10
    have hq := zs_C hf
    clear hf
    obtain ⟨h14, hf⟩ := hq
    obtain ⟨fs15, e16⟩ := zs_isS h14
    have hq := zs_bS hf
    clear hf
    obtain ⟨S12, x13, h11, hf⟩ := hq
    refine zq_contR (zq_stepV Z zq_cf1 (c_Text_at hl h11) 0 rfl e16 d_CT_mark_11 m_14 m_172 m_17 m_15 m_18 p_Text_at ⟨(Nat.le_of_ble_eq_true rfl), (Nat.le_of_ble_eq_true rfl), (Nat.le_of_ble_eq_true rfl), (Nat.le_of_ble_eq_true rfl)⟩ rfl (Nat.le_of_ble_eq_true rfl)) Z.p ?_
    refine zq_lstore_n Z rfl [(3, .long x13), (0, .ref a0), (1, .int v1), (2, .int v2)] d_CT_mark_14 (by decide) rfl ?_
    refine zq_iload_n Z d_CT_mark_15 3 rfl ?_
    by_cases c0 : v2 = 0
    · replace hf := zs_T c0 hf
      refine zq_tabIn (off := 32) Z 48 d_CT_mark_16 (by rw [c0]; decide) (by rw [c0]; decide) (by rw [c0]; rfl) (by decide) ?_
      refine zq_lload_n Z d_CT_mark_48 0 rfl ?_
      refine zq_bipush Z (16 : Int32) d_CT_mark_49 (by decide) ?_
      have hq := zs_bS hf
      clear hf
      obtain ⟨S18, x19, h17, hf⟩ := hq
      refine zq_contR (zq_stepS Z zq_cf1 (c_Let_get hl h17) d_CT_mark_51 m_164 m_165 m_166 m_116 p_Let_get ⟨(Nat.le_of_ble_eq_true rfl), (Nat.le_of_ble_eq_true rfl), (Nat.le_of_ble_eq_true rfl), (Nat.le_of_ble_eq_true rfl)⟩ rfl (Nat.le_of_ble_eq_true rfl)) Z.p ?_
      exact zq_iret Z d_CT_mark_54 (zs_1 hf) (zs_2 zq_ei hf) ⟨(Nat.le_of_ble_eq_true rfl), (Nat.le_of_ble_eq_true rfl)⟩
    · replace hf := zs_N c0 hf
      by_cases c1 : v2 = 1
      · replace hf := zs_T c1 hf
        refine zq_tabIn (off := 39) Z 55 d_CT_mark_16 (by rw [c1]; decide) (by rw [c1]; decide) (by rw [c1]; rfl) (by decide) ?_
        refine zq_lload_n Z d_CT_mark_55 0 rfl ?_
        refine zq_bipush Z (24 : Int32) d_CT_mark_56 (by decide) ?_
        have hq := zs_bS hf
        clear hf
        obtain ⟨S21, x22, h20, hf⟩ := hq
        refine zq_contR (zq_stepS Z zq_cf1 (c_Let_get hl h20) d_CT_mark_58 m_164 m_165 m_166 m_116 p_Let_get ⟨(Nat.le_of_ble_eq_true rfl), (Nat.le_of_ble_eq_true rfl), (Nat.le_of_ble_eq_true rfl), (Nat.le_of_ble_eq_true rfl)⟩ rfl (Nat.le_of_ble_eq_true rfl)) Z.p ?_
        exact zq_iret Z d_CT_mark_61 (zs_1 hf) (zs_2 zq_ei hf) ⟨(Nat.le_of_ble_eq_true rfl), (Nat.le_of_ble_eq_true rfl)⟩
      · replace hf := zs_N c1 hf
        by_cases c2 : v2 = 2
        · replace hf := zs_T c2 hf
          refine zq_tabIn (off := 46) Z 62 d_CT_mark_16 (by rw [c2]; decide) (by rw [c2]; decide) (by rw [c2]; rfl) (by decide) ?_
          refine zq_lload_n Z d_CT_mark_62 0 rfl ?_
          refine zq_bipush Z (32 : Int32) d_CT_mark_63 (by decide) ?_
          have hq := zs_bS hf
          clear hf
          obtain ⟨S24, x25, h23, hf⟩ := hq
          refine zq_contR (zq_stepS Z zq_cf1 (c_Let_get hl h23) d_CT_mark_65 m_164 m_165 m_166 m_116 p_Let_get ⟨(Nat.le_of_ble_eq_true rfl), (Nat.le_of_ble_eq_true rfl), (Nat.le_of_ble_eq_true rfl), (Nat.le_of_ble_eq_true rfl)⟩ rfl (Nat.le_of_ble_eq_true rfl)) Z.p ?_
          exact zq_iret Z d_CT_mark_68 (zs_1 hf) (zs_2 zq_ei hf) ⟨(Nat.le_of_ble_eq_true rfl), (Nat.le_of_ble_eq_true rfl)⟩
        · replace hf := zs_N c2 hf
          by_cases c3 : v2 = 3
          · replace hf := zs_T c3 hf
            refine zq_tabIn (off := 53) Z 69 d_CT_mark_16 (by rw [c3]; decide) (by rw [c3]; decide) (by rw [c3]; rfl) (by decide) ?_
            refine zq_lload_n Z d_CT_mark_69 0 rfl ?_
            have hq := zs_bS hf
            clear hf
            obtain ⟨S27, x28, h26, hf⟩ := hq
            refine zq_contR (zq_stepS Z zq_cf1 (c_Let_isFormatted hl h26) d_CT_mark_70 m_178 m_245 m_180 m_116 p_Let_isFormatted ⟨(Nat.le_of_ble_eq_true rfl), (Nat.le_of_ble_eq_true rfl), (Nat.le_of_ble_eq_true rfl), (Nat.le_of_ble_eq_true rfl)⟩ rfl (Nat.le_of_ble_eq_true rfl)) Z.p ?_
            refine zq_if_eq Z 85 d_CT_mark_73 (by decide) (fun q => ?_) (fun q => ?_)
            · replace hf := zs_T q hf
              refine zq_iconst Z (-1 : Int32) d_CT_mark_85 (by decide) ?_
              refine zq_sub (lo' := []) [] rfl ?_
              exact r_CT_mark_86 hl Z  hf
            · replace hf := zs_N q hf
              refine zq_lload_n Z d_CT_mark_76 0 rfl ?_
              refine zq_bipush Z (40 : Int32) d_CT_mark_77 (by decide) ?_
              have hq := zs_bS hf
              clear hf
              obtain ⟨S30, x31, h29, hf⟩ := hq
              refine zq_contR (zq_stepS Z zq_cf1 (c_Let_get hl h29) d_CT_mark_79 m_164 m_165 m_166 m_116 p_Let_get ⟨(Nat.le_of_ble_eq_true rfl), (Nat.le_of_ble_eq_true rfl), (Nat.le_of_ble_eq_true rfl), (Nat.le_of_ble_eq_true rfl)⟩ rfl (Nat.le_of_ble_eq_true rfl)) Z.p ?_
              refine zq_goto Z 86 d_CT_mark_82 (by decide) ?_
              refine zq_sub (lo' := []) [] rfl ?_
              exact r_CT_mark_86 hl Z  hf
          · replace hf := zs_N c3 hf
            have hsw := zq_swOut (x := v2) 4 (by decide) (fun k hk => by
              have hk : k = 0 ∨ k = 1 ∨ k = 2 ∨ k = 3 := by omega
              rcases hk with rfl | rfl | rfl | rfl
              · exact c0
              · exact c1
              · exact c2
              · exact c3)
            refine zq_tabOut Z 87 d_CT_mark_16 (by omega) (by decide) ?_
            have hq := zs_C hf
            clear hf
            obtain ⟨h32, hf⟩ := hq
            exact zq_throw Z 1 d_CT_mark_87 d_CT_mark_90 d_CT_mark_91 d_CT_mark_93 d_CT_mark_96 m_95 m_96 m_97 m_246 ow_CT_42 (zs_1 hf) (zs_2 zq_ei hf) h32 ⟨⟨(Nat.le_of_ble_eq_true rfl), (Nat.le_of_ble_eq_true rfl)⟩, (Nat.le_of_ble_eq_true rfl), (Nat.le_of_ble_eq_true rfl)⟩
  · exact zq_contT Z (zq_stepV Z zq_cf1 (c_CT_requireRange hl h1) 3 rfl e6 d_CT_mark_3 m_145 m_162 m_163 m_161 m_108 p_CT_requireRange ⟨(Nat.le_of_ble_eq_true rfl), (Nat.le_of_ble_eq_true rfl), (Nat.le_of_ble_eq_true rfl), (Nat.le_of_ble_eq_true rfl)⟩ rfl (Nat.le_of_ble_eq_true rfl)) (zs_1 hf) (zs_2 zq_ei hf) ⟨(Nat.le_of_ble_eq_true rfl), (Nat.le_of_ble_eq_true rfl)⟩
theorem d_CT_next_0 : decode b_CT_next 0 = .ok (.aload_n 0, 1) := by decide +kernel
theorem d_CT_next_1 : decode b_CT_next 1 = .ok (.iload_n 1, 1) := by decide +kernel
theorem d_CT_next_2 : decode b_CT_next 2 = .ok (.iconst 0, 1) := by decide +kernel
theorem d_CT_next_3 : decode b_CT_next 3 = .ok (.invokevirtual 45, 3) := by decide +kernel
theorem d_CT_next_6 : decode b_CT_next 6 = .ok (.iload_n 2, 1) := by decide +kernel
theorem d_CT_next_7 : decode b_CT_next 7 = .ok (.invokestatic 106, 3) := by decide +kernel
theorem d_CT_next_10 : decode b_CT_next 10 = .ok (.iload_n 1, 1) := by decide +kernel
theorem d_CT_next_11 : decode b_CT_next 11 = .ok (.istore_n 3, 1) := by decide +kernel
theorem d_CT_next_12 : decode b_CT_next 12 = .ok (.iload_n 3, 1) := by decide +kernel
theorem d_CT_next_13 : decode b_CT_next 13 = .ok (.aload_n 0, 1) := by decide +kernel
theorem d_CT_next_14 : decode b_CT_next 14 = .ok (.getfield 23, 3) := by decide +kernel
theorem d_CT_next_17 : decode b_CT_next 17 = .ok (.getfield 59, 3) := by decide +kernel
theorem d_CT_next_20 : decode b_CT_next 20 = .ok (.if_icmp .ge 27, 3) := by decide +kernel
theorem d_CT_next_23 : decode b_CT_next 23 = .ok (.aload_n 0, 1) := by decide +kernel
theorem d_CT_next_24 : decode b_CT_next 24 = .ok (.getfield 23, 3) := by decide +kernel
theorem d_CT_next_27 : decode b_CT_next 27 = .ok (.iload_n 3, 1) := by decide +kernel
theorem d_CT_next_28 : decode b_CT_next 28 = .ok (.invokevirtual 91, 3) := by decide +kernel
theorem d_CT_next_31 : decode b_CT_next 31 = .ok (.invokestatic 166, 3) := by decide +kernel
theorem d_CT_next_34 : decode b_CT_next 34 = .ok (.iload_n 2, 1) := by decide +kernel
theorem d_CT_next_35 : decode b_CT_next 35 = .ok (.iand, 1) := by decide +kernel
theorem d_CT_next_36 : decode b_CT_next 36 = .ok (.ifCond .eq 5, 3) := by decide +kernel
theorem d_CT_next_39 : decode b_CT_next 39 = .ok (.iload_n 3, 1) := by decide +kernel
theorem d_CT_next_40 : decode b_CT_next 40 = .ok (.ireturn, 1) := by decide +kernel
theorem d_CT_next_41 : decode b_CT_next 41 = .ok (.iinc 3 1, 3) := by decide +kernel
theorem d_CT_next_44 : decode b_CT_next 44 = .ok (.goto (-32), 3) := by decide +kernel
theorem d_CT_next_47 : decode b_CT_next 47 = .ok (.iconst (-1), 1) := by decide +kernel
theorem d_CT_next_48 : decode b_CT_next 48 = .ok (.ireturn, 1) := by decide +kernel
def f_CT_next_12 (k12 : Nat → Int32 → Int32 → zq_S → Option (zq_S × (Int32 ⊕ Nat))) (a0 : Nat) (v2 : Int32) (v3 : Int32) (S : zq_S) : Option (zq_S × (Int32 ⊕ Nat)) :=
  (zs_gr S a0 3 2).bind fun x1 =>
  (x1).bind fun a3 =>
  (zs_gi S a3 0 1).bind fun x5 =>
  if x5 ≤ v3 then
    some (S, .inl (-1 : Int32))
  else
    (zs_gr S a0 3 2).bind fun x7 =>
    (x7).bind fun a9 =>
    if zs_is S a9 0 = true then
    zs_b (f_Text_at a9 v3 S) fun S12 x13 =>
    zs_b (f_Let_markers x13 S12) fun S18 x19 =>
    if (x19 &&& v2) = 0 then
      k12 a0 v2 (v3 + (1 : Int32)) S18
    else
      some (S18, .inl v3)
    else none
def g_CT_next_12  : Nat → Nat → Int32 → Int32 → zq_S → Option (zq_S × (Int32 ⊕ Nat))
  | 0 => fun _ _ _ _ => none
  | n + 1 => fun a0 v2 v3 S => f_CT_next_12  (g_CT_next_12  n) a0 v2 v3 S
def f_CT_next (a0 : Nat) (v1 : Int32) (v2 : Int32) (S : zq_S) : Option (zq_S × (Int32 ⊕ Nat)) :=
  if zs_is S a0 3 = true then
  zs_t (f_CT_requireRange S a0 v1 (0 : Int32) S) (fun S2 _ =>
    zs_t (f_CT_requireSet S2 v2 S2) (fun S8 _ =>
      g_CT_next_12  zq_F a0 v2 v1 S8
      ) (fun S8 j => some (S8, .inr j))
    ) (fun S2 j => some (S2, .inr j))
  else none
set_option maxHeartbeats 4000000 in
set_option maxRecDepth 100000 in
theorem r_CT_next_12 {l : Launch} (hl : l.stackTraces = false) {G : zq_G} {S0 T : zq_S} {v : (Int32 ⊕ Nat)} {X : zq_X} (Z : Z_CT_next l G S0 T v X) {k12 : Nat → Int32 → Int32 → zq_S → Option (zq_S × (Int32 ⊕ Nat))} (hk12 : ∀ (a0 : Nat) (v2 : Int32) (v3 : Int32) (S : zq_S), k12 a0 v2 v3 S = some (T, v) → zq_W (Y_CT_next l G S0 T v) X 12 [(0, .ref a0), (2, .int v2), (3, .int v3)] [] S 2 12) {a0 : Nat} {v2 : Int32} {v3 : Int32} {S : zq_S} (hf : f_CT_next_12 k12 a0 v2 v3 S = some (T, v)) : zq_W (Y_CT_next l G S0 T v) X 12 [(0, .ref a0), (2, .int v2), (3, .int v3)] [] S 2 12 := by
  unfold f_CT_next_12 at hf
  refine zq_iload_n Z d_CT_next_12 2 rfl ?_
  refine zq_aload_n Z d_CT_next_13 0 rfl ?_
  have hq := Option.bind_eq_some_iff.mp hf
  clear hf
  obtain ⟨x1, h2, hf⟩ := hq
  refine zr_getr Z cd_CT 2 d_CT_next_14 (by decide) m_91 h2 ?_
  have hq := Option.bind_eq_some_iff.mp hf
  clear hf
  obtain ⟨a3, h4, hf⟩ := hq
  subst h4
  have hq := Option.bind_eq_some_iff.mp hf
  clear hf
  obtain ⟨x5, h6, hf⟩ := hq
  refine zr_geti Z cd_Text 1 d_CT_next_17 (by decide) m_103 h6 ?_
  refine zq_icmp_ge Z 47 d_CT_next_20 (by decide) (fun q => ?_) (fun q => ?_)
  · replace hf := zs_T q hf
    refine zq_iconst Z (-1 : Int32) d_CT_next_47 (by decide) ?_
    exact zq_iret Z d_CT_next_48 (zs_1 hf) (zs_2 zq_ei hf) ⟨(Nat.le_of_ble_eq_true rfl), (Nat.le_of_ble_eq_true rfl)⟩
  · replace hf := zs_N q hf
    refine zq_aload_n Z d_CT_next_23 0 rfl ?_
    have hq := Option.bind_eq_some_iff.mp hf
    clear hf
    obtain ⟨x7, h8, hf⟩ := hq
    refine zr_getr Z cd_CT 2 d_CT_next_24 (by decide) m_91 h8 ?_
    refine zq_iload_n Z d_CT_next_27 2 rfl ?_
    have hq := Option.bind_eq_some_iff.mp hf
    clear hf
    obtain ⟨a9, h10, hf⟩ := hq
    subst h10
    have hq := zs_C hf
    clear hf
    obtain ⟨h14, hf⟩ := hq
    obtain ⟨fs15, e16⟩ := zs_isS h14
    have hq := zs_bS hf
    clear hf
    obtain ⟨S12, x13, h11, hf⟩ := hq
    refine zq_contR (zq_stepV Z zq_cf1 (c_Text_at hl h11) 0 rfl e16 d_CT_next_28 m_14 m_172 m_17 m_15 m_18 p_Text_at ⟨(Nat.le_of_ble_eq_true rfl), (Nat.le_of_ble_eq_true rfl), (Nat.le_of_ble_eq_true rfl), (Nat.le_of_ble_eq_true rfl)⟩ rfl (Nat.le_of_ble_eq_true rfl)) Z.p ?_
    have hq := zs_bS hf
    clear hf
    obtain ⟨S18, x19, h17, hf⟩ := hq
    refine zq_contR (zq_stepS Z zq_cf1 (c_Let_markers hl h17) d_CT_next_31 m_247 m_248 m_249 m_116 p_Let_markers ⟨(Nat.le_of_ble_eq_true rfl), (Nat.le_of_ble_eq_true rfl), (Nat.le_of_ble_eq_true rfl), (Nat.le_of_ble_eq_true rfl)⟩ rfl (Nat.le_of_ble_eq_true rfl)) Z.p ?_
    refine zq_iload_n Z d_CT_next_34 1 rfl ?_
    refine zq_iand Z d_CT_next_35 ?_
    refine zq_if_eq Z 41 d_CT_next_36 (by decide) (fun q => ?_) (fun q => ?_)
    · replace hf := zs_T q hf
      refine zq_iinc Z (v3 + (1 : Int32)) [(3, .int (v3 + (1 : Int32))), (0, .ref a0), (2, .int v2)] d_CT_next_41 2 rfl rfl (by decide) rfl ?_
      refine zq_goto Z 12 d_CT_next_44 (by decide) ?_
      refine zq_sub (lo' := [(0, .ref a0), (2, .int v2), (3, .int (v3 + (1 : Int32)))]) [1, 2, 0] rfl ?_
      exact hk12 _ _ _ _ hf
    · replace hf := zs_N q hf
      refine zq_iload_n Z d_CT_next_39 2 rfl ?_
      exact zq_iret Z d_CT_next_40 (zs_1 hf) (zs_2 zq_ei hf) ⟨(Nat.le_of_ble_eq_true rfl), (Nat.le_of_ble_eq_true rfl)⟩
theorem w_CT_next_12 {l : Launch} (hl : l.stackTraces = false) {G : zq_G} {S0 T : zq_S} {v : (Int32 ⊕ Nat)} {X : zq_X} (Z : Z_CT_next l G S0 T v X) : ∀ (n : Nat) (a0 : Nat) (v2 : Int32) (v3 : Int32) (S : zq_S), g_CT_next_12  n a0 v2 v3 S = some (T, v) → zq_W (Y_CT_next l G S0 T v) X 12 [(0, .ref a0), (2, .int v2), (3, .int v3)] [] S 2 12 := by
  intro n
  induction n with
  | zero => intro a0 v2 v3 S hf; cases hf
  | succ n ih =>
    intro a0 v2 v3 S hf
    have hf : f_CT_next_12  (g_CT_next_12  n) a0 v2 v3 S = some (T, v) := hf
    exact r_CT_next_12 hl Z  ih hf
set_option maxHeartbeats 4000000 in
set_option maxRecDepth 100000 in
theorem c_CT_next {l : Launch} (hl : l.stackTraces = false) {G : zq_G} {a0 : Nat} {v1 : Int32} {v2 : Int32} {S0 T : zq_S} {v : (Int32 ⊕ Nat)} (hf : f_CT_next a0 v1 v2 S0 = some (T, v)) : zq_M l y_CT_next (.code y_CT_next b_CT_next 4 (some (.int))) rm_CT_next G [.ref a0, .int v1, .int v2] S0 (zq_ei v) T := by
  refine zq_Mof (lo := [(0, .ref a0), (1, .int v1), (2, .int v2)]) hl (by decide) (Nat.le_of_ble_eq_true rfl) rfl (fun X Z => ?_)
  have Z : Z_CT_next l G S0 T v X := Z
  show zq_W (Y_CT_next l G S0 T v) X 0 [(0, .ref a0), (1, .int v1), (2, .int v2)] [] S0 0 0
  unfold f_CT_next at hf
  refine zq_aload_n Z d_CT_next_0 0 rfl ?_
  refine zq_iload_n Z d_CT_next_1 1 rfl ?_
  refine zq_iconst Z (0 : Int32) d_CT_next_2 (by decide) ?_
  have hq := zs_C hf
  clear hf
  obtain ⟨h4, hf⟩ := hq
  obtain ⟨fs5, e6⟩ := zs_isS h4
  have hq := zs_tS hf
  clear hf
  rcases hq with ⟨S2, x3, h1, hf⟩ | ⟨S2, j, h1, hf⟩
  · refine zq_contR (zq_stepV Z zq_cf1 (c_CT_requireRange hl h1) 3 rfl e6 d_CT_next_3 m_145 m_162 m_163 m_161 m_108 p_CT_requireRange ⟨(Nat.le_of_ble_eq_true rfl), (Nat.le_of_ble_eq_true rfl), (Nat.le_of_ble_eq_true rfl), (Nat.le_of_ble_eq_true rfl)⟩ rfl (Nat.le_of_ble_eq_true rfl)) Z.p ?_
    refine zq_iload_n Z d_CT_next_6 2 rfl ?_
    have hq := zs_tS hf
    clear hf
    rcases hq with ⟨S8, x9, h7, hf⟩ | ⟨S8, j, h7, hf⟩
    · refine zq_contR (zq_stepS Z zq_cf1 (c_CT_requireSet hl h7) d_CT_next_7 m_205 m_210 m_211 m_108 p_CT_requireSet ⟨(Nat.le_of_ble_eq_true rfl), (Nat.le_of_ble_eq_true rfl), (Nat.le_of_ble_eq_true rfl), (Nat.le_of_ble_eq_true rfl)⟩ rfl (Nat.le_of_ble_eq_true rfl)) Z.p ?_
      refine zq_iload_n Z d_CT_next_10 1 rfl ?_
      refine zq_istore_n Z rfl [(3, .int v1), (0, .ref a0), (1, .int v1), (2, .int v2)] d_CT_next_11 (by decide) rfl ?_
      refine zq_sub (lo' := [(0, .ref a0), (2, .int v2), (3, .int v1)]) [1, 3, 0] rfl ?_
      exact w_CT_next_12 hl Z  _ _ _ _ _ hf
    · exact zq_contT Z (zq_stepS Z zq_cf1 (c_CT_requireSet hl h7) d_CT_next_7 m_205 m_210 m_211 m_108 p_CT_requireSet ⟨(Nat.le_of_ble_eq_true rfl), (Nat.le_of_ble_eq_true rfl), (Nat.le_of_ble_eq_true rfl), (Nat.le_of_ble_eq_true rfl)⟩ rfl (Nat.le_of_ble_eq_true rfl)) (zs_1 hf) (zs_2 zq_ei hf) ⟨(Nat.le_of_ble_eq_true rfl), (Nat.le_of_ble_eq_true rfl)⟩
  · exact zq_contT Z (zq_stepV Z zq_cf1 (c_CT_requireRange hl h1) 3 rfl e6 d_CT_next_3 m_145 m_162 m_163 m_161 m_108 p_CT_requireRange ⟨(Nat.le_of_ble_eq_true rfl), (Nat.le_of_ble_eq_true rfl), (Nat.le_of_ble_eq_true rfl), (Nat.le_of_ble_eq_true rfl)⟩ rfl (Nat.le_of_ble_eq_true rfl)) (zs_1 hf) (zs_2 zq_ei hf) ⟨(Nat.le_of_ble_eq_true rfl), (Nat.le_of_ble_eq_true rfl)⟩
theorem d_CT_countRuns_0 : decode b_CT_countRuns 0 = .ok (.iconst 0, 1) := by decide +kernel
theorem d_CT_countRuns_1 : decode b_CT_countRuns 1 = .ok (.istore_n 1, 1) := by decide +kernel
theorem d_CT_countRuns_2 : decode b_CT_countRuns 2 = .ok (.lconst 0, 1) := by decide +kernel
theorem d_CT_countRuns_3 : decode b_CT_countRuns 3 = .ok (.lstore_n 2, 1) := by decide +kernel
theorem d_CT_countRuns_4 : decode b_CT_countRuns 4 = .ok (.iconst 0, 1) := by decide +kernel
theorem d_CT_countRuns_5 : decode b_CT_countRuns 5 = .ok (.istore 4, 2) := by decide +kernel
theorem d_CT_countRuns_7 : decode b_CT_countRuns 7 = .ok (.iload 4, 2) := by decide +kernel
theorem d_CT_countRuns_9 : decode b_CT_countRuns 9 = .ok (.aload_n 0, 1) := by decide +kernel
theorem d_CT_countRuns_10 : decode b_CT_countRuns 10 = .ok (.getfield 23, 3) := by decide +kernel
theorem d_CT_countRuns_13 : decode b_CT_countRuns 13 = .ok (.getfield 59, 3) := by decide +kernel
theorem d_CT_countRuns_16 : decode b_CT_countRuns 16 = .ok (.if_icmp .ge 43, 3) := by decide +kernel
theorem d_CT_countRuns_19 : decode b_CT_countRuns 19 = .ok (.aload_n 0, 1) := by decide +kernel
theorem d_CT_countRuns_20 : decode b_CT_countRuns 20 = .ok (.getfield 23, 3) := by decide +kernel
theorem d_CT_countRuns_23 : decode b_CT_countRuns 23 = .ok (.iload 4, 2) := by decide +kernel
theorem d_CT_countRuns_25 : decode b_CT_countRuns 25 = .ok (.invokevirtual 91, 3) := by decide +kernel
theorem d_CT_countRuns_28 : decode b_CT_countRuns 28 = .ok (.invokestatic 227, 3) := by decide +kernel
theorem d_CT_countRuns_31 : decode b_CT_countRuns 31 = .ok (.lstore 5, 2) := by decide +kernel
theorem d_CT_countRuns_33 : decode b_CT_countRuns 33 = .ok (.lload 5, 2) := by decide +kernel
theorem d_CT_countRuns_35 : decode b_CT_countRuns 35 = .ok (.lconst 0, 1) := by decide +kernel
theorem d_CT_countRuns_36 : decode b_CT_countRuns 36 = .ok (.lcmp, 1) := by decide +kernel
theorem d_CT_countRuns_37 : decode b_CT_countRuns 37 = .ok (.ifCond .eq 13, 3) := by decide +kernel
theorem d_CT_countRuns_40 : decode b_CT_countRuns 40 = .ok (.lload 5, 2) := by decide +kernel
theorem d_CT_countRuns_42 : decode b_CT_countRuns 42 = .ok (.lload_n 2, 1) := by decide +kernel
theorem d_CT_countRuns_43 : decode b_CT_countRuns 43 = .ok (.lcmp, 1) := by decide +kernel
theorem d_CT_countRuns_44 : decode b_CT_countRuns 44 = .ok (.ifCond .eq 6, 3) := by decide +kernel
theorem d_CT_countRuns_47 : decode b_CT_countRuns 47 = .ok (.iinc 1 1, 3) := by decide +kernel
theorem d_CT_countRuns_50 : decode b_CT_countRuns 50 = .ok (.lload 5, 2) := by decide +kernel
theorem d_CT_countRuns_52 : decode b_CT_countRuns 52 = .ok (.lstore_n 2, 1) := by decide +kernel
theorem d_CT_countRuns_53 : decode b_CT_countRuns 53 = .ok (.iinc 4 1, 3) := by decide +kernel
theorem d_CT_countRuns_56 : decode b_CT_countRuns 56 = .ok (.goto (-49), 3) := by decide +kernel
theorem d_CT_countRuns_59 : decode b_CT_countRuns 59 = .ok (.iload_n 1, 1) := by decide +kernel
theorem d_CT_countRuns_60 : decode b_CT_countRuns 60 = .ok (.ireturn, 1) := by decide +kernel
def f_CT_countRuns_50 (k7 : Nat → Int32 → Int64 → Int32 → zq_S → Option (zq_S × Int32)) (a0 : Nat) (v1 : Int32) (v4 : Int32) (v5 : Int64) (S : zq_S) : Option (zq_S × Int32) :=
  k7 a0 v1 v5 (v4 + (1 : Int32)) S
def f_CT_countRuns_7 (k7 : Nat → Int32 → Int64 → Int32 → zq_S → Option (zq_S × Int32)) (a0 : Nat) (v1 : Int32) (v2 : Int64) (v4 : Int32) (S : zq_S) : Option (zq_S × Int32) :=
  (zs_gr S a0 3 2).bind fun x1 =>
  (x1).bind fun a3 =>
  (zs_gi S a3 0 1).bind fun x5 =>
  if x5 ≤ v4 then
    some (S, v1)
  else
    (zs_gr S a0 3 2).bind fun x7 =>
    (x7).bind fun a9 =>
    if zs_is S a9 0 = true then
    zs_b (f_Text_at a9 v4 S) fun S12 x13 =>
    zs_b (f_Let_markOf x13 S12) fun S18 x19 =>
    if (lg_cmp x19 (0 : Int64)) = 0 then
      f_CT_countRuns_50 k7 a0 v1 v4 x19 S18
    else
      if (lg_cmp x19 v2) = 0 then
        f_CT_countRuns_50 k7 a0 v1 v4 x19 S18
      else
        f_CT_countRuns_50 k7 a0 (v1 + (1 : Int32)) v4 x19 S18
    else none
def g_CT_countRuns_7  : Nat → Nat → Int32 → Int64 → Int32 → zq_S → Option (zq_S × Int32)
  | 0 => fun _ _ _ _ _ => none
  | n + 1 => fun a0 v1 v2 v4 S => f_CT_countRuns_7  (g_CT_countRuns_7  n) a0 v1 v2 v4 S
def f_CT_countRuns (a0 : Nat) (S : zq_S) : Option (zq_S × Int32) :=
  g_CT_countRuns_7  zq_F a0 (0 : Int32) (0 : Int64) (0 : Int32) S
set_option maxHeartbeats 4000000 in
set_option maxRecDepth 100000 in
theorem r_CT_countRuns_50 {l : Launch} (hl : l.stackTraces = false) {G : zq_G} {S0 T : zq_S} {v : Int32} {X : zq_X} (Z : Z_CT_countRuns l G S0 T v X) {k7 : Nat → Int32 → Int64 → Int32 → zq_S → Option (zq_S × Int32)} (hk7 : ∀ (a0 : Nat) (v1 : Int32) (v2 : Int64) (v4 : Int32) (S : zq_S), k7 a0 v1 v2 v4 S = some (T, v) → zq_W (Y_CT_countRuns l G S0 T v) X 7 [(0, .ref a0), (1, .int v1), (2, .long v2), (4, .int v4)] [] S 0 0) {a0 : Nat} {v1 : Int32} {v4 : Int32} {v5 : Int64} {S : zq_S} (hf : f_CT_countRuns_50 k7 a0 v1 v4 v5 S = some (T, v)) : zq_W (Y_CT_countRuns l G S0 T v) X 50 [(0, .ref a0), (1, .int v1), (4, .int v4), (5, .long v5)] [] S 0 0 := by
  unfold f_CT_countRuns_50 at hf
  refine zq_lload Z d_CT_countRuns_50 3 rfl ?_
  refine zq_lstore_n Z rfl [(2, .long v5), (0, .ref a0), (1, .int v1), (4, .int v4), (5, .long v5)] d_CT_countRuns_52 (by decide) rfl ?_
  refine zq_iinc Z (v4 + (1 : Int32)) [(4, .int (v4 + (1 : Int32))), (2, .long v5), (0, .ref a0), (1, .int v1), (5, .long v5)] d_CT_countRuns_53 3 rfl rfl (by decide) rfl ?_
  refine zq_goto Z 7 d_CT_countRuns_56 (by decide) ?_
  refine zq_sub (lo' := [(0, .ref a0), (1, .int v1), (2, .long v5), (4, .int (v4 + (1 : Int32)))]) [2, 3, 1, 0] rfl ?_
  exact hk7 _ _ _ _ _ hf
set_option maxHeartbeats 4000000 in
set_option maxRecDepth 100000 in
theorem r_CT_countRuns_7 {l : Launch} (hl : l.stackTraces = false) {G : zq_G} {S0 T : zq_S} {v : Int32} {X : zq_X} (Z : Z_CT_countRuns l G S0 T v X) {k7 : Nat → Int32 → Int64 → Int32 → zq_S → Option (zq_S × Int32)} (hk7 : ∀ (a0 : Nat) (v1 : Int32) (v2 : Int64) (v4 : Int32) (S : zq_S), k7 a0 v1 v2 v4 S = some (T, v) → zq_W (Y_CT_countRuns l G S0 T v) X 7 [(0, .ref a0), (1, .int v1), (2, .long v2), (4, .int v4)] [] S 0 0) {a0 : Nat} {v1 : Int32} {v2 : Int64} {v4 : Int32} {S : zq_S} (hf : f_CT_countRuns_7 k7 a0 v1 v2 v4 S = some (T, v)) : zq_W (Y_CT_countRuns l G S0 T v) X 7 [(0, .ref a0), (1, .int v1), (2, .long v2), (4, .int v4)] [] S 0 0 := by
  unfold f_CT_countRuns_7 at hf
  refine zq_iload Z d_CT_countRuns_7 3 rfl ?_
  refine zq_aload_n Z d_CT_countRuns_9 0 rfl ?_
  have hq := Option.bind_eq_some_iff.mp hf
  clear hf
  obtain ⟨x1, h2, hf⟩ := hq
  refine zr_getr Z cd_CT 2 d_CT_countRuns_10 (by decide) m_91 h2 ?_
  have hq := Option.bind_eq_some_iff.mp hf
  clear hf
  obtain ⟨a3, h4, hf⟩ := hq
  subst h4
  have hq := Option.bind_eq_some_iff.mp hf
  clear hf
  obtain ⟨x5, h6, hf⟩ := hq
  refine zr_geti Z cd_Text 1 d_CT_countRuns_13 (by decide) m_103 h6 ?_
  refine zq_icmp_ge Z 59 d_CT_countRuns_16 (by decide) (fun q => ?_) (fun q => ?_)
  · replace hf := zs_T q hf
    refine zq_iload_n Z d_CT_countRuns_59 1 rfl ?_
    exact zq_iret Z d_CT_countRuns_60 (zs_1 hf) (zs_2 (fun z => (.inl (some (.int z)) : zq_R)) hf) ⟨(Nat.le_of_ble_eq_true rfl), (Nat.le_of_ble_eq_true rfl)⟩
  · replace hf := zs_N q hf
    refine zq_aload_n Z d_CT_countRuns_19 0 rfl ?_
    have hq := Option.bind_eq_some_iff.mp hf
    clear hf
    obtain ⟨x7, h8, hf⟩ := hq
    refine zr_getr Z cd_CT 2 d_CT_countRuns_20 (by decide) m_91 h8 ?_
    refine zq_iload Z d_CT_countRuns_23 3 rfl ?_
    have hq := Option.bind_eq_some_iff.mp hf
    clear hf
    obtain ⟨a9, h10, hf⟩ := hq
    subst h10
    have hq := zs_C hf
    clear hf
    obtain ⟨h14, hf⟩ := hq
    obtain ⟨fs15, e16⟩ := zs_isS h14
    have hq := zs_bS hf
    clear hf
    obtain ⟨S12, x13, h11, hf⟩ := hq
    refine zq_contR (zq_stepV Z zq_cf1 (c_Text_at hl h11) 0 rfl e16 d_CT_countRuns_25 m_14 m_172 m_17 m_15 m_18 p_Text_at ⟨(Nat.le_of_ble_eq_true rfl), (Nat.le_of_ble_eq_true rfl), (Nat.le_of_ble_eq_true rfl), (Nat.le_of_ble_eq_true rfl)⟩ rfl (Nat.le_of_ble_eq_true rfl)) Z.p ?_
    have hq := zs_bS hf
    clear hf
    obtain ⟨S18, x19, h17, hf⟩ := hq
    refine zq_contR (zq_stepS Z zq_cf1 (c_Let_markOf hl h17) d_CT_countRuns_28 m_196 m_197 m_198 m_116 p_Let_markOf ⟨(Nat.le_of_ble_eq_true rfl), (Nat.le_of_ble_eq_true rfl), (Nat.le_of_ble_eq_true rfl), (Nat.le_of_ble_eq_true rfl)⟩ rfl (Nat.le_of_ble_eq_true rfl)) Z.p ?_
    refine zq_lstore Z [(5, .long x19), (0, .ref a0), (1, .int v1), (2, .long v2), (4, .int v4)] d_CT_countRuns_31 (by decide) rfl ?_
    refine zq_lload Z d_CT_countRuns_33 0 rfl ?_
    refine zq_lconst Z (0 : Int64) d_CT_countRuns_35 (by decide) ?_
    refine zq_lcmp Z d_CT_countRuns_36 ?_
    refine zq_if_eq Z 50 d_CT_countRuns_37 (by decide) (fun q => ?_) (fun q => ?_)
    · replace hf := zs_T q hf
      refine zq_sub (lo' := [(0, .ref a0), (1, .int v1), (4, .int v4), (5, .long x19)]) [1, 2, 4, 0] rfl ?_
      exact r_CT_countRuns_50 hl Z hk7 hf
    · replace hf := zs_N q hf
      refine zq_lload Z d_CT_countRuns_40 0 rfl ?_
      refine zq_lload_n Z d_CT_countRuns_42 3 rfl ?_
      refine zq_lcmp Z d_CT_countRuns_43 ?_
      refine zq_if_eq Z 50 d_CT_countRuns_44 (by decide) (fun q => ?_) (fun q => ?_)
      · replace hf := zs_T q hf
        refine zq_sub (lo' := [(0, .ref a0), (1, .int v1), (4, .int v4), (5, .long x19)]) [1, 2, 4, 0] rfl ?_
        exact r_CT_countRuns_50 hl Z hk7 hf
      · replace hf := zs_N q hf
        refine zq_iinc Z (v1 + (1 : Int32)) [(1, .int (v1 + (1 : Int32))), (5, .long x19), (0, .ref a0), (2, .long v2), (4, .int v4)] d_CT_countRuns_47 2 rfl rfl (by decide) rfl ?_
        refine zq_sub (lo' := [(0, .ref a0), (1, .int (v1 + (1 : Int32))), (4, .int v4), (5, .long x19)]) [2, 0, 4, 1] rfl ?_
        exact r_CT_countRuns_50 hl Z hk7 hf
theorem w_CT_countRuns_7 {l : Launch} (hl : l.stackTraces = false) {G : zq_G} {S0 T : zq_S} {v : Int32} {X : zq_X} (Z : Z_CT_countRuns l G S0 T v X) : ∀ (n : Nat) (a0 : Nat) (v1 : Int32) (v2 : Int64) (v4 : Int32) (S : zq_S), g_CT_countRuns_7  n a0 v1 v2 v4 S = some (T, v) → zq_W (Y_CT_countRuns l G S0 T v) X 7 [(0, .ref a0), (1, .int v1), (2, .long v2), (4, .int v4)] [] S 0 0 := by
  intro n
  induction n with
  | zero => intro a0 v1 v2 v4 S hf; cases hf
  | succ n ih =>
    intro a0 v1 v2 v4 S hf
    have hf : f_CT_countRuns_7  (g_CT_countRuns_7  n) a0 v1 v2 v4 S = some (T, v) := hf
    exact r_CT_countRuns_7 hl Z  ih hf
set_option maxHeartbeats 4000000 in
set_option maxRecDepth 100000 in
theorem c_CT_countRuns {l : Launch} (hl : l.stackTraces = false) {G : zq_G} {a0 : Nat} {S0 T : zq_S} {v : Int32} (hf : f_CT_countRuns a0 S0 = some (T, v)) : zq_M l y_CT_countRuns (.code y_CT_countRuns b_CT_countRuns 7 (some (.int))) rm_CT_countRuns G [.ref a0] S0 ((.inl (some (.int v)) : zq_R)) T := by
  refine zq_Mof (lo := [(0, .ref a0)]) hl (by decide) (Nat.le_of_ble_eq_true rfl) rfl (fun X Z => ?_)
  have Z : Z_CT_countRuns l G S0 T v X := Z
  show zq_W (Y_CT_countRuns l G S0 T v) X 0 [(0, .ref a0)] [] S0 0 0
  unfold f_CT_countRuns at hf
  refine zq_iconst Z (0 : Int32) d_CT_countRuns_0 (by decide) ?_
  refine zq_istore_n Z rfl [(1, .int (0 : Int32)), (0, .ref a0)] d_CT_countRuns_1 (by decide) rfl ?_
  refine zq_lconst Z (0 : Int64) d_CT_countRuns_2 (by decide) ?_
  refine zq_lstore_n Z rfl [(2, .long (0 : Int64)), (1, .int (0 : Int32)), (0, .ref a0)] d_CT_countRuns_3 (by decide) rfl ?_
  refine zq_iconst Z (0 : Int32) d_CT_countRuns_4 (by decide) ?_
  refine zq_istore Z [(4, .int (0 : Int32)), (2, .long (0 : Int64)), (1, .int (0 : Int32)), (0, .ref a0)] d_CT_countRuns_5 (by decide) rfl ?_
  refine zq_sub (lo' := [(0, .ref a0), (1, .int (0 : Int32)), (2, .long (0 : Int64)), (4, .int (0 : Int32))]) [3, 2, 1, 0] rfl ?_
  exact w_CT_countRuns_7 hl Z  _ _ _ _ _ _ hf
theorem d_CT_isFound_0 : decode b_CT_isFound 0 = .ok (.iconst 0, 1) := by decide +kernel
theorem d_CT_isFound_1 : decode b_CT_isFound 1 = .ok (.istore 4, 2) := by decide +kernel
theorem d_CT_isFound_3 : decode b_CT_isFound 3 = .ok (.iload 4, 2) := by decide +kernel
theorem d_CT_isFound_5 : decode b_CT_isFound 5 = .ok (.iload_n 3, 1) := by decide +kernel
theorem d_CT_isFound_6 : decode b_CT_isFound 6 = .ok (.if_icmp .ge 33, 3) := by decide +kernel
theorem d_CT_isFound_9 : decode b_CT_isFound 9 = .ok (.iload 4, 2) := by decide +kernel
theorem d_CT_isFound_11 : decode b_CT_isFound 11 = .ok (.aload_n 0, 1) := by decide +kernel
theorem d_CT_isFound_12 : decode b_CT_isFound 12 = .ok (.getfield 16, 3) := by decide +kernel
theorem d_CT_isFound_15 : decode b_CT_isFound 15 = .ok (.arraylength, 1) := by decide +kernel
theorem d_CT_isFound_16 : decode b_CT_isFound 16 = .ok (.if_icmp .ge 23, 3) := by decide +kernel
theorem d_CT_isFound_19 : decode b_CT_isFound 19 = .ok (.aload_n 0, 1) := by decide +kernel
theorem d_CT_isFound_20 : decode b_CT_isFound 20 = .ok (.getfield 16, 3) := by decide +kernel
theorem d_CT_isFound_23 : decode b_CT_isFound 23 = .ok (.iload 4, 2) := by decide +kernel
theorem d_CT_isFound_25 : decode b_CT_isFound 25 = .ok (.laload, 1) := by decide +kernel
theorem d_CT_isFound_26 : decode b_CT_isFound 26 = .ok (.lload_n 1, 1) := by decide +kernel
theorem d_CT_isFound_27 : decode b_CT_isFound 27 = .ok (.lcmp, 1) := by decide +kernel
theorem d_CT_isFound_28 : decode b_CT_isFound 28 = .ok (.ifCond .ne 5, 3) := by decide +kernel
theorem d_CT_isFound_31 : decode b_CT_isFound 31 = .ok (.iconst 1, 1) := by decide +kernel
theorem d_CT_isFound_32 : decode b_CT_isFound 32 = .ok (.ireturn, 1) := by decide +kernel
theorem d_CT_isFound_33 : decode b_CT_isFound 33 = .ok (.iinc 4 1, 3) := by decide +kernel
theorem d_CT_isFound_36 : decode b_CT_isFound 36 = .ok (.goto (-33), 3) := by decide +kernel
theorem d_CT_isFound_39 : decode b_CT_isFound 39 = .ok (.iconst 0, 1) := by decide +kernel
theorem d_CT_isFound_40 : decode b_CT_isFound 40 = .ok (.ireturn, 1) := by decide +kernel
def f_CT_isFound_39   (S : zq_S) : Option (zq_S × Int32) :=
  if (0 : Int32) = 0 ∨ (0 : Int32) = 1 then some (S, (0 : Int32)) else none
def f_CT_isFound_3 (k3 : Nat → Int64 → Int32 → Int32 → zq_S → Option (zq_S × Int32)) (a0 : Nat) (v1 : Int64) (v3 : Int32) (v4 : Int32) (S : zq_S) : Option (zq_S × Int32) :=
  if v3 ≤ v4 then
    f_CT_isFound_39   S
  else
    (zs_gr S a0 3 1).bind fun x1 =>
    (x1).bind fun a3 =>
    (zs_len S a3 0).bind fun x5 =>
    if x5 ≤ v4 then
      f_CT_isFound_39   S
    else
      (zs_gr S a0 3 1).bind fun x7 =>
      (x7).bind fun a9 =>
      (zs_lal S a9 0 v4).bind fun x11 =>
      if (lg_cmp x11 v1) = 0 then
        if (1 : Int32) = 0 ∨ (1 : Int32) = 1 then some (S, (1 : Int32)) else none
      else
        k3 a0 v1 v3 (v4 + (1 : Int32)) S
def g_CT_isFound_3  : Nat → Nat → Int64 → Int32 → Int32 → zq_S → Option (zq_S × Int32)
  | 0 => fun _ _ _ _ _ => none
  | n + 1 => fun a0 v1 v3 v4 S => f_CT_isFound_3  (g_CT_isFound_3  n) a0 v1 v3 v4 S
def f_CT_isFound (a0 : Nat) (v1 : Int64) (v3 : Int32) (S : zq_S) : Option (zq_S × Int32) :=
  g_CT_isFound_3  zq_F a0 v1 v3 (0 : Int32) S
set_option maxHeartbeats 4000000 in
set_option maxRecDepth 100000 in
theorem r_CT_isFound_39 {l : Launch} (hl : l.stackTraces = false) {G : zq_G} {S0 T : zq_S} {v : Int32} {X : zq_X} (Z : Z_CT_isFound l G S0 T v X)  {S : zq_S} (hf : f_CT_isFound_39   S = some (T, v)) : zq_W (Y_CT_isFound l G S0 T v) X 39 [] [] S 0 0 := by
  unfold f_CT_isFound_39 at hf
  refine zq_iconst Z (0 : Int32) d_CT_isFound_39 (by decide) ?_
  have hq := zs_C hf
  clear hf
  obtain ⟨h1, hf⟩ := hq
  exact zq_zret Z d_CT_isFound_40 h1 (zs_1 hf) (zs_2 (fun z => (.inl (some (.int z)) : zq_R)) hf) ⟨(Nat.le_of_ble_eq_true rfl), (Nat.le_of_ble_eq_true rfl)⟩
set_option maxHeartbeats 4000000 in
set_option maxRecDepth 100000 in
theorem r_CT_isFound_3 {l : Launch} (hl : l.stackTraces = false) {G : zq_G} {S0 T : zq_S} {v : Int32} {X : zq_X} (Z : Z_CT_isFound l G S0 T v X) {k3 : Nat → Int64 → Int32 → Int32 → zq_S → Option (zq_S × Int32)} (hk3 : ∀ (a0 : Nat) (v1 : Int64) (v3 : Int32) (v4 : Int32) (S : zq_S), k3 a0 v1 v3 v4 S = some (T, v) → zq_W (Y_CT_isFound l G S0 T v) X 3 [(0, .ref a0), (1, .long v1), (3, .int v3), (4, .int v4)] [] S 0 0) {a0 : Nat} {v1 : Int64} {v3 : Int32} {v4 : Int32} {S : zq_S} (hf : f_CT_isFound_3 k3 a0 v1 v3 v4 S = some (T, v)) : zq_W (Y_CT_isFound l G S0 T v) X 3 [(0, .ref a0), (1, .long v1), (3, .int v3), (4, .int v4)] [] S 0 0 := by
  unfold f_CT_isFound_3 at hf
  refine zq_iload Z d_CT_isFound_3 3 rfl ?_
  refine zq_iload_n Z d_CT_isFound_5 2 rfl ?_
  refine zq_icmp_ge Z 39 d_CT_isFound_6 (by decide) (fun q => ?_) (fun q => ?_)
  · replace hf := zs_T q hf
    refine zq_sub (lo' := []) [] rfl ?_
    exact r_CT_isFound_39 hl Z  hf
  · replace hf := zs_N q hf
    refine zq_iload Z d_CT_isFound_9 3 rfl ?_
    refine zq_aload_n Z d_CT_isFound_11 0 rfl ?_
    have hq := Option.bind_eq_some_iff.mp hf
    clear hf
    obtain ⟨x1, h2, hf⟩ := hq
    refine zr_getr Z cd_CT 1 d_CT_isFound_12 (by decide) m_88 h2 ?_
    have hq := Option.bind_eq_some_iff.mp hf
    clear hf
    obtain ⟨a3, h4, hf⟩ := hq
    subst h4
    have hq := Option.bind_eq_some_iff.mp hf
    clear hf
    obtain ⟨x5, h6, hf⟩ := hq
    refine zr_len Z 0 (fun _ => rfl) d_CT_isFound_15 h6 ?_
    refine zq_icmp_ge Z 39 d_CT_isFound_16 (by decide) (fun q => ?_) (fun q => ?_)
    · replace hf := zs_T q hf
      refine zq_sub (lo' := []) [] rfl ?_
      exact r_CT_isFound_39 hl Z  hf
    · replace hf := zs_N q hf
      refine zq_aload_n Z d_CT_isFound_19 0 rfl ?_
      have hq := Option.bind_eq_some_iff.mp hf
      clear hf
      obtain ⟨x7, h8, hf⟩ := hq
      refine zr_getr Z cd_CT 1 d_CT_isFound_20 (by decide) m_88 h8 ?_
      refine zq_iload Z d_CT_isFound_23 3 rfl ?_
      have hq := Option.bind_eq_some_iff.mp hf
      clear hf
      obtain ⟨a9, h10, hf⟩ := hq
      subst h10
      have hq := Option.bind_eq_some_iff.mp hf
      clear hf
      obtain ⟨x11, h12, hf⟩ := hq
      refine zr_laload Z 0 (fun _ => rfl) d_CT_isFound_25 h12 ?_
      refine zq_lload_n Z d_CT_isFound_26 1 rfl ?_
      refine zq_lcmp Z d_CT_isFound_27 ?_
      refine zq_if_ne Z 33 d_CT_isFound_28 (by decide) (fun q => ?_) (fun q => ?_)
      · replace hf := zs_N q hf
        refine zq_iinc Z (v4 + (1 : Int32)) [(4, .int (v4 + (1 : Int32))), (0, .ref a0), (1, .long v1), (3, .int v3)] d_CT_isFound_33 3 rfl rfl (by decide) rfl ?_
        refine zq_goto Z 3 d_CT_isFound_36 (by decide) ?_
        refine zq_sub (lo' := [(0, .ref a0), (1, .long v1), (3, .int v3), (4, .int (v4 + (1 : Int32)))]) [1, 2, 3, 0] rfl ?_
        exact hk3 _ _ _ _ _ hf
      · replace hf := zs_T q hf
        refine zq_iconst Z (1 : Int32) d_CT_isFound_31 (by decide) ?_
        have hq := zs_C hf
        clear hf
        obtain ⟨h13, hf⟩ := hq
        exact zq_zret Z d_CT_isFound_32 h13 (zs_1 hf) (zs_2 (fun z => (.inl (some (.int z)) : zq_R)) hf) ⟨(Nat.le_of_ble_eq_true rfl), (Nat.le_of_ble_eq_true rfl)⟩
theorem w_CT_isFound_3 {l : Launch} (hl : l.stackTraces = false) {G : zq_G} {S0 T : zq_S} {v : Int32} {X : zq_X} (Z : Z_CT_isFound l G S0 T v X) : ∀ (n : Nat) (a0 : Nat) (v1 : Int64) (v3 : Int32) (v4 : Int32) (S : zq_S), g_CT_isFound_3  n a0 v1 v3 v4 S = some (T, v) → zq_W (Y_CT_isFound l G S0 T v) X 3 [(0, .ref a0), (1, .long v1), (3, .int v3), (4, .int v4)] [] S 0 0 := by
  intro n
  induction n with
  | zero => intro a0 v1 v3 v4 S hf; cases hf
  | succ n ih =>
    intro a0 v1 v3 v4 S hf
    have hf : f_CT_isFound_3  (g_CT_isFound_3  n) a0 v1 v3 v4 S = some (T, v) := hf
    exact r_CT_isFound_3 hl Z  ih hf
set_option maxHeartbeats 4000000 in
set_option maxRecDepth 100000 in
theorem c_CT_isFound {l : Launch} (hl : l.stackTraces = false) {G : zq_G} {a0 : Nat} {v1 : Int64} {v3 : Int32} {S0 T : zq_S} {v : Int32} (hf : f_CT_isFound a0 v1 v3 S0 = some (T, v)) : zq_M l y_CT_isFound (.code y_CT_isFound b_CT_isFound 5 (some (.boolean))) rm_CT_isFound G [.ref a0, .long v1, .int v3] S0 ((.inl (some (.int v)) : zq_R)) T := by
  refine zq_Mof (lo := [(0, .ref a0), (1, .long v1), (3, .int v3)]) hl (by decide) (Nat.le_of_ble_eq_true rfl) rfl (fun X Z => ?_)
  have Z : Z_CT_isFound l G S0 T v X := Z
  show zq_W (Y_CT_isFound l G S0 T v) X 0 [(0, .ref a0), (1, .long v1), (3, .int v3)] [] S0 0 0
  unfold f_CT_isFound at hf
  refine zq_iconst Z (0 : Int32) d_CT_isFound_0 (by decide) ?_
  refine zq_istore Z [(4, .int (0 : Int32)), (0, .ref a0), (1, .long v1), (3, .int v3)] d_CT_isFound_1 (by decide) rfl ?_
  refine zq_sub (lo' := [(0, .ref a0), (1, .long v1), (3, .int v3), (4, .int (0 : Int32))]) [1, 2, 3, 0] rfl ?_
  exact w_CT_isFound_3 hl Z  _ _ _ _ _ _ hf
theorem d_CT_countDifferentMarks_0 : decode b_CT_countDifferentMarks 0 = .ok (.iconst 0, 1) := by decide +kernel
theorem d_CT_countDifferentMarks_1 : decode b_CT_countDifferentMarks 1 = .ok (.istore_n 1, 1) := by decide +kernel
theorem d_CT_countDifferentMarks_2 : decode b_CT_countDifferentMarks 2 = .ok (.iconst 0, 1) := by decide +kernel
theorem d_CT_countDifferentMarks_3 : decode b_CT_countDifferentMarks 3 = .ok (.istore_n 2, 1) := by decide +kernel
theorem d_CT_countDifferentMarks_4 : decode b_CT_countDifferentMarks 4 = .ok (.iload_n 2, 1) := by decide +kernel
theorem d_CT_countDifferentMarks_5 : decode b_CT_countDifferentMarks 5 = .ok (.aload_n 0, 1) := by decide +kernel
theorem d_CT_countDifferentMarks_6 : decode b_CT_countDifferentMarks 6 = .ok (.getfield 23, 3) := by decide +kernel
theorem d_CT_countDifferentMarks_9 : decode b_CT_countDifferentMarks 9 = .ok (.getfield 59, 3) := by decide +kernel
theorem d_CT_countDifferentMarks_12 : decode b_CT_countDifferentMarks 12 = .ok (.if_icmp .ge 55, 3) := by decide +kernel
theorem d_CT_countDifferentMarks_15 : decode b_CT_countDifferentMarks 15 = .ok (.aload_n 0, 1) := by decide +kernel
theorem d_CT_countDifferentMarks_16 : decode b_CT_countDifferentMarks 16 = .ok (.getfield 23, 3) := by decide +kernel
theorem d_CT_countDifferentMarks_19 : decode b_CT_countDifferentMarks 19 = .ok (.iload_n 2, 1) := by decide +kernel
theorem d_CT_countDifferentMarks_20 : decode b_CT_countDifferentMarks 20 = .ok (.invokevirtual 91, 3) := by decide +kernel
theorem d_CT_countDifferentMarks_23 : decode b_CT_countDifferentMarks 23 = .ok (.invokestatic 227, 3) := by decide +kernel
theorem d_CT_countDifferentMarks_26 : decode b_CT_countDifferentMarks 26 = .ok (.lstore_n 3, 1) := by decide +kernel
theorem d_CT_countDifferentMarks_27 : decode b_CT_countDifferentMarks 27 = .ok (.lload_n 3, 1) := by decide +kernel
theorem d_CT_countDifferentMarks_28 : decode b_CT_countDifferentMarks 28 = .ok (.lconst 0, 1) := by decide +kernel
theorem d_CT_countDifferentMarks_29 : decode b_CT_countDifferentMarks 29 = .ok (.lcmp, 1) := by decide +kernel
theorem d_CT_countDifferentMarks_30 : decode b_CT_countDifferentMarks 30 = .ok (.ifCond .eq 31, 3) := by decide +kernel
theorem d_CT_countDifferentMarks_33 : decode b_CT_countDifferentMarks 33 = .ok (.aload_n 0, 1) := by decide +kernel
theorem d_CT_countDifferentMarks_34 : decode b_CT_countDifferentMarks 34 = .ok (.lload_n 3, 1) := by decide +kernel
theorem d_CT_countDifferentMarks_35 : decode b_CT_countDifferentMarks 35 = .ok (.iload_n 1, 1) := by decide +kernel
theorem d_CT_countDifferentMarks_36 : decode b_CT_countDifferentMarks 36 = .ok (.invokevirtual 238, 3) := by decide +kernel
theorem d_CT_countDifferentMarks_39 : decode b_CT_countDifferentMarks 39 = .ok (.ifCond .ne 22, 3) := by decide +kernel
theorem d_CT_countDifferentMarks_42 : decode b_CT_countDifferentMarks 42 = .ok (.iload_n 1, 1) := by decide +kernel
theorem d_CT_countDifferentMarks_43 : decode b_CT_countDifferentMarks 43 = .ok (.aload_n 0, 1) := by decide +kernel
theorem d_CT_countDifferentMarks_44 : decode b_CT_countDifferentMarks 44 = .ok (.getfield 16, 3) := by decide +kernel
theorem d_CT_countDifferentMarks_47 : decode b_CT_countDifferentMarks 47 = .ok (.arraylength, 1) := by decide +kernel
theorem d_CT_countDifferentMarks_48 : decode b_CT_countDifferentMarks 48 = .ok (.if_icmp .ge 13, 3) := by decide +kernel
theorem d_CT_countDifferentMarks_51 : decode b_CT_countDifferentMarks 51 = .ok (.aload_n 0, 1) := by decide +kernel
theorem d_CT_countDifferentMarks_52 : decode b_CT_countDifferentMarks 52 = .ok (.getfield 16, 3) := by decide +kernel
theorem d_CT_countDifferentMarks_55 : decode b_CT_countDifferentMarks 55 = .ok (.iload_n 1, 1) := by decide +kernel
theorem d_CT_countDifferentMarks_56 : decode b_CT_countDifferentMarks 56 = .ok (.lload_n 3, 1) := by decide +kernel
theorem d_CT_countDifferentMarks_57 : decode b_CT_countDifferentMarks 57 = .ok (.lastore, 1) := by decide +kernel
theorem d_CT_countDifferentMarks_58 : decode b_CT_countDifferentMarks 58 = .ok (.iinc 1 1, 3) := by decide +kernel
theorem d_CT_countDifferentMarks_61 : decode b_CT_countDifferentMarks 61 = .ok (.iinc 2 1, 3) := by decide +kernel
theorem d_CT_countDifferentMarks_64 : decode b_CT_countDifferentMarks 64 = .ok (.goto (-60), 3) := by decide +kernel
theorem d_CT_countDifferentMarks_67 : decode b_CT_countDifferentMarks 67 = .ok (.iload_n 1, 1) := by decide +kernel
theorem d_CT_countDifferentMarks_68 : decode b_CT_countDifferentMarks 68 = .ok (.ireturn, 1) := by decide +kernel
def f_CT_countDifferentMarks_61 (k4 : Nat → Int32 → Int32 → zq_S → Option (zq_S × Int32)) (a0 : Nat) (v1 : Int32) (v2 : Int32) (S : zq_S) : Option (zq_S × Int32) :=
  k4 a0 v1 (v2 + (1 : Int32)) S
def f_CT_countDifferentMarks_4 (k4 : Nat → Int32 → Int32 → zq_S → Option (zq_S × Int32)) (a0 : Nat) (v1 : Int32) (v2 : Int32) (S : zq_S) : Option (zq_S × Int32) :=
  (zs_gr S a0 3 2).bind fun x1 =>
  (x1).bind fun a3 =>
  (zs_gi S a3 0 1).bind fun x5 =>
  if x5 ≤ v2 then
    some (S, v1)
  else
    (zs_gr S a0 3 2).bind fun x7 =>
    (x7).bind fun a9 =>
    if zs_is S a9 0 = true then
    zs_b (f_Text_at a9 v2 S) fun S12 x13 =>
    zs_b (f_Let_markOf x13 S12) fun S18 x19 =>
    if (lg_cmp x19 (0 : Int64)) = 0 then
      f_CT_countDifferentMarks_61 k4 a0 v1 v2 S18
    else
      if zs_is S18 a0 3 = true then
      zs_b (f_CT_isFound a0 x19 v1 S18) fun S21 x22 =>
      if x22 = 0 then
        (zs_gr S21 a0 3 1).bind fun x26 =>
        (x26).bind fun a28 =>
        (zs_len S21 a28 0).bind fun x30 =>
        if x30 ≤ v1 then
          f_CT_countDifferentMarks_61 k4 a0 v1 v2 S21
        else
          (zs_gr S21 a0 3 1).bind fun x32 =>
          (x32).bind fun a34 =>
          (zs_las S21 a34 0 v1 x19).bind fun S36 =>
          f_CT_countDifferentMarks_61 k4 a0 (v1 + (1 : Int32)) v2 S36
      else
        f_CT_countDifferentMarks_61 k4 a0 v1 v2 S21
      else none
    else none
def g_CT_countDifferentMarks_4  : Nat → Nat → Int32 → Int32 → zq_S → Option (zq_S × Int32)
  | 0 => fun _ _ _ _ => none
  | n + 1 => fun a0 v1 v2 S => f_CT_countDifferentMarks_4  (g_CT_countDifferentMarks_4  n) a0 v1 v2 S
def f_CT_countDifferentMarks (a0 : Nat) (S : zq_S) : Option (zq_S × Int32) :=
  g_CT_countDifferentMarks_4  zq_F a0 (0 : Int32) (0 : Int32) S
set_option maxHeartbeats 4000000 in
set_option maxRecDepth 100000 in
theorem r_CT_countDifferentMarks_61 {l : Launch} (hl : l.stackTraces = false) {G : zq_G} {S0 T : zq_S} {v : Int32} {X : zq_X} (Z : Z_CT_countDifferentMarks l G S0 T v X) {k4 : Nat → Int32 → Int32 → zq_S → Option (zq_S × Int32)} (hk4 : ∀ (a0 : Nat) (v1 : Int32) (v2 : Int32) (S : zq_S), k4 a0 v1 v2 S = some (T, v) → zq_W (Y_CT_countDifferentMarks l G S0 T v) X 4 [(0, .ref a0), (1, .int v1), (2, .int v2)] [] S 0 0) {a0 : Nat} {v1 : Int32} {v2 : Int32} {S : zq_S} (hf : f_CT_countDifferentMarks_61 k4 a0 v1 v2 S = some (T, v)) : zq_W (Y_CT_countDifferentMarks l G S0 T v) X 61 [(0, .ref a0), (1, .int v1), (2, .int v2)] [] S 0 0 := by
  unfold f_CT_countDifferentMarks_61 at hf
  refine zq_iinc Z (v2 + (1 : Int32)) [(2, .int (v2 + (1 : Int32))), (0, .ref a0), (1, .int v1)] d_CT_countDifferentMarks_61 2 rfl rfl (by decide) rfl ?_
  refine zq_goto Z 4 d_CT_countDifferentMarks_64 (by decide) ?_
  refine zq_sub (lo' := [(0, .ref a0), (1, .int v1), (2, .int (v2 + (1 : Int32)))]) [1, 2, 0] rfl ?_
  exact hk4 _ _ _ _ hf
set_option maxHeartbeats 4000000 in
set_option maxRecDepth 100000 in
theorem r_CT_countDifferentMarks_4 {l : Launch} (hl : l.stackTraces = false) {G : zq_G} {S0 T : zq_S} {v : Int32} {X : zq_X} (Z : Z_CT_countDifferentMarks l G S0 T v X) {k4 : Nat → Int32 → Int32 → zq_S → Option (zq_S × Int32)} (hk4 : ∀ (a0 : Nat) (v1 : Int32) (v2 : Int32) (S : zq_S), k4 a0 v1 v2 S = some (T, v) → zq_W (Y_CT_countDifferentMarks l G S0 T v) X 4 [(0, .ref a0), (1, .int v1), (2, .int v2)] [] S 0 0) {a0 : Nat} {v1 : Int32} {v2 : Int32} {S : zq_S} (hf : f_CT_countDifferentMarks_4 k4 a0 v1 v2 S = some (T, v)) : zq_W (Y_CT_countDifferentMarks l G S0 T v) X 4 [(0, .ref a0), (1, .int v1), (2, .int v2)] [] S 0 0 := by
  unfold f_CT_countDifferentMarks_4 at hf
  refine zq_iload_n Z d_CT_countDifferentMarks_4 2 rfl ?_
  refine zq_aload_n Z d_CT_countDifferentMarks_5 0 rfl ?_
  have hq := Option.bind_eq_some_iff.mp hf
  clear hf
  obtain ⟨x1, h2, hf⟩ := hq
  refine zr_getr Z cd_CT 2 d_CT_countDifferentMarks_6 (by decide) m_91 h2 ?_
  have hq := Option.bind_eq_some_iff.mp hf
  clear hf
  obtain ⟨a3, h4, hf⟩ := hq
  subst h4
  have hq := Option.bind_eq_some_iff.mp hf
  clear hf
  obtain ⟨x5, h6, hf⟩ := hq
  refine zr_geti Z cd_Text 1 d_CT_countDifferentMarks_9 (by decide) m_103 h6 ?_
  refine zq_icmp_ge Z 67 d_CT_countDifferentMarks_12 (by decide) (fun q => ?_) (fun q => ?_)
  · replace hf := zs_T q hf
    refine zq_iload_n Z d_CT_countDifferentMarks_67 1 rfl ?_
    exact zq_iret Z d_CT_countDifferentMarks_68 (zs_1 hf) (zs_2 (fun z => (.inl (some (.int z)) : zq_R)) hf) ⟨(Nat.le_of_ble_eq_true rfl), (Nat.le_of_ble_eq_true rfl)⟩
  · replace hf := zs_N q hf
    refine zq_aload_n Z d_CT_countDifferentMarks_15 0 rfl ?_
    have hq := Option.bind_eq_some_iff.mp hf
    clear hf
    obtain ⟨x7, h8, hf⟩ := hq
    refine zr_getr Z cd_CT 2 d_CT_countDifferentMarks_16 (by decide) m_91 h8 ?_
    refine zq_iload_n Z d_CT_countDifferentMarks_19 2 rfl ?_
    have hq := Option.bind_eq_some_iff.mp hf
    clear hf
    obtain ⟨a9, h10, hf⟩ := hq
    subst h10
    have hq := zs_C hf
    clear hf
    obtain ⟨h14, hf⟩ := hq
    obtain ⟨fs15, e16⟩ := zs_isS h14
    have hq := zs_bS hf
    clear hf
    obtain ⟨S12, x13, h11, hf⟩ := hq
    refine zq_contR (zq_stepV Z zq_cf1 (c_Text_at hl h11) 0 rfl e16 d_CT_countDifferentMarks_20 m_14 m_172 m_17 m_15 m_18 p_Text_at ⟨(Nat.le_of_ble_eq_true rfl), (Nat.le_of_ble_eq_true rfl), (Nat.le_of_ble_eq_true rfl), (Nat.le_of_ble_eq_true rfl)⟩ rfl (Nat.le_of_ble_eq_true rfl)) Z.p ?_
    have hq := zs_bS hf
    clear hf
    obtain ⟨S18, x19, h17, hf⟩ := hq
    refine zq_contR (zq_stepS Z zq_cf1 (c_Let_markOf hl h17) d_CT_countDifferentMarks_23 m_196 m_197 m_198 m_116 p_Let_markOf ⟨(Nat.le_of_ble_eq_true rfl), (Nat.le_of_ble_eq_true rfl), (Nat.le_of_ble_eq_true rfl), (Nat.le_of_ble_eq_true rfl)⟩ rfl (Nat.le_of_ble_eq_true rfl)) Z.p ?_
    refine zq_lstore_n Z rfl [(3, .long x19), (0, .ref a0), (1, .int v1), (2, .int v2)] d_CT_countDifferentMarks_26 (by decide) rfl ?_
    refine zq_lload_n Z d_CT_countDifferentMarks_27 0 rfl ?_
    refine zq_lconst Z (0 : Int64) d_CT_countDifferentMarks_28 (by decide) ?_
    refine zq_lcmp Z d_CT_countDifferentMarks_29 ?_
    refine zq_if_eq Z 61 d_CT_countDifferentMarks_30 (by decide) (fun q => ?_) (fun q => ?_)
    · replace hf := zs_T q hf
      refine zq_sub (lo' := [(0, .ref a0), (1, .int v1), (2, .int v2)]) [1, 2, 3] rfl ?_
      exact r_CT_countDifferentMarks_61 hl Z hk4 hf
    · replace hf := zs_N q hf
      refine zq_aload_n Z d_CT_countDifferentMarks_33 1 rfl ?_
      refine zq_lload_n Z d_CT_countDifferentMarks_34 0 rfl ?_
      refine zq_iload_n Z d_CT_countDifferentMarks_35 2 rfl ?_
      have hq := zs_C hf
      clear hf
      obtain ⟨h23, hf⟩ := hq
      obtain ⟨fs24, e25⟩ := zs_isS h23
      have hq := zs_bS hf
      clear hf
      obtain ⟨S21, x22, h20, hf⟩ := hq
      refine zq_contR (zq_stepV Z zq_cf1 (c_CT_isFound hl h20) 3 rfl e25 d_CT_countDifferentMarks_36 m_250 m_252 m_253 m_251 m_108 p_CT_isFound ⟨(Nat.le_of_ble_eq_true rfl), (Nat.le_of_ble_eq_true rfl), (Nat.le_of_ble_eq_true rfl), (Nat.le_of_ble_eq_true rfl)⟩ rfl (Nat.le_of_ble_eq_true rfl)) Z.p ?_
      refine zq_if_ne Z 61 d_CT_countDifferentMarks_39 (by decide) (fun q => ?_) (fun q => ?_)
      · replace hf := zs_N q hf
        refine zq_sub (lo' := [(0, .ref a0), (1, .int v1), (2, .int v2)]) [1, 2, 3] rfl ?_
        exact r_CT_countDifferentMarks_61 hl Z hk4 hf
      · replace hf := zs_T q hf
        refine zq_iload_n Z d_CT_countDifferentMarks_42 2 rfl ?_
        refine zq_aload_n Z d_CT_countDifferentMarks_43 1 rfl ?_
        have hq := Option.bind_eq_some_iff.mp hf
        clear hf
        obtain ⟨x26, h27, hf⟩ := hq
        refine zr_getr Z cd_CT 1 d_CT_countDifferentMarks_44 (by decide) m_88 h27 ?_
        have hq := Option.bind_eq_some_iff.mp hf
        clear hf
        obtain ⟨a28, h29, hf⟩ := hq
        subst h29
        have hq := Option.bind_eq_some_iff.mp hf
        clear hf
        obtain ⟨x30, h31, hf⟩ := hq
        refine zr_len Z 0 (fun _ => rfl) d_CT_countDifferentMarks_47 h31 ?_
        refine zq_icmp_ge Z 61 d_CT_countDifferentMarks_48 (by decide) (fun q => ?_) (fun q => ?_)
        · replace hf := zs_T q hf
          refine zq_sub (lo' := [(0, .ref a0), (1, .int v1), (2, .int v2)]) [1, 2, 3] rfl ?_
          exact r_CT_countDifferentMarks_61 hl Z hk4 hf
        · replace hf := zs_N q hf
          refine zq_aload_n Z d_CT_countDifferentMarks_51 1 rfl ?_
          have hq := Option.bind_eq_some_iff.mp hf
          clear hf
          obtain ⟨x32, h33, hf⟩ := hq
          refine zr_getr Z cd_CT 1 d_CT_countDifferentMarks_52 (by decide) m_88 h33 ?_
          refine zq_iload_n Z d_CT_countDifferentMarks_55 2 rfl ?_
          refine zq_lload_n Z d_CT_countDifferentMarks_56 0 rfl ?_
          have hq := Option.bind_eq_some_iff.mp hf
          clear hf
          obtain ⟨a34, h35, hf⟩ := hq
          subst h35
          have hq := Option.bind_eq_some_iff.mp hf
          clear hf
          obtain ⟨S36, h37, hf⟩ := hq
          refine zr_lastore Z 0 (fun _ => rfl) d_CT_countDifferentMarks_57 h37 ?_
          refine zq_iinc Z (v1 + (1 : Int32)) [(1, .int (v1 + (1 : Int32))), (3, .long x19), (0, .ref a0), (2, .int v2)] d_CT_countDifferentMarks_58 2 rfl rfl (by decide) rfl ?_
          refine zq_sub (lo' := [(0, .ref a0), (1, .int (v1 + (1 : Int32))), (2, .int v2)]) [2, 0, 3] rfl ?_
          exact r_CT_countDifferentMarks_61 hl Z hk4 hf
theorem w_CT_countDifferentMarks_4 {l : Launch} (hl : l.stackTraces = false) {G : zq_G} {S0 T : zq_S} {v : Int32} {X : zq_X} (Z : Z_CT_countDifferentMarks l G S0 T v X) : ∀ (n : Nat) (a0 : Nat) (v1 : Int32) (v2 : Int32) (S : zq_S), g_CT_countDifferentMarks_4  n a0 v1 v2 S = some (T, v) → zq_W (Y_CT_countDifferentMarks l G S0 T v) X 4 [(0, .ref a0), (1, .int v1), (2, .int v2)] [] S 0 0 := by
  intro n
  induction n with
  | zero => intro a0 v1 v2 S hf; cases hf
  | succ n ih =>
    intro a0 v1 v2 S hf
    have hf : f_CT_countDifferentMarks_4  (g_CT_countDifferentMarks_4  n) a0 v1 v2 S = some (T, v) := hf
    exact r_CT_countDifferentMarks_4 hl Z  ih hf
set_option maxHeartbeats 4000000 in
set_option maxRecDepth 100000 in
theorem c_CT_countDifferentMarks {l : Launch} (hl : l.stackTraces = false) {G : zq_G} {a0 : Nat} {S0 T : zq_S} {v : Int32} (hf : f_CT_countDifferentMarks a0 S0 = some (T, v)) : zq_M l y_CT_countDifferentMarks (.code y_CT_countDifferentMarks b_CT_countDifferentMarks 5 (some (.int))) rm_CT_countDifferentMarks G [.ref a0] S0 ((.inl (some (.int v)) : zq_R)) T := by
  refine zq_Mof (lo := [(0, .ref a0)]) hl (by decide) (Nat.le_of_ble_eq_true rfl) rfl (fun X Z => ?_)
  have Z : Z_CT_countDifferentMarks l G S0 T v X := Z
  show zq_W (Y_CT_countDifferentMarks l G S0 T v) X 0 [(0, .ref a0)] [] S0 0 0
  unfold f_CT_countDifferentMarks at hf
  refine zq_iconst Z (0 : Int32) d_CT_countDifferentMarks_0 (by decide) ?_
  refine zq_istore_n Z rfl [(1, .int (0 : Int32)), (0, .ref a0)] d_CT_countDifferentMarks_1 (by decide) rfl ?_
  refine zq_iconst Z (0 : Int32) d_CT_countDifferentMarks_2 (by decide) ?_
  refine zq_istore_n Z rfl [(2, .int (0 : Int32)), (1, .int (0 : Int32)), (0, .ref a0)] d_CT_countDifferentMarks_3 (by decide) rfl ?_
  refine zq_sub (lo' := [(0, .ref a0), (1, .int (0 : Int32)), (2, .int (0 : Int32))]) [2, 1, 0] rfl ?_
  exact w_CT_countDifferentMarks_4 hl Z  _ _ _ _ _ hf
