/-! the class's calls that change something -/
def EDC (b : Nat) (S' : zq_S) (au tr op : Nat) (tx : List Int64) (sn : Nat → List Int64) (ge gw : Nat → Nat) (d u oe ow : Nat) (nw : List Int64) : Prop := (wt nw tx = 0 → SC b S' au tr op tx sn ge gw d u oe ow) ∧ (wt nw tx ≠ 0 → op = 1 → SC b S' au tr 1 nw sn ge gw d 0 (oe + 1) (ow + wt nw tx)) ∧ (wt nw tx ≠ 0 → op = 0 → SC b S' au tr 0 nw (sh (fgt (d + 1) (va_up gw d (wt nw tx))) (va_up sn (d + 1) nw)) (sh (fgt (d + 1) (va_up gw d (wt nw tx))) (va_up ge d 1)) (sh (fgt (d + 1) (va_up gw d (wt nw tx))) (va_up gw d (wt nw tx))) (d + 1 - fgt (d + 1) (va_up gw d (wt nw tx))) 0 0 0)
section CCA
variable {b : Nat} {S : zq_S} {au tr op : Nat} {tx q : List Int64} {sn : Nat → List Int64} {ge gw : Nat → Nat} {d u oe ow : Nat}
theorem sc_size (h : SC b S au tr op tx sn ge gw d u oe ow) : ∃ tt, zs_gr S b 3 2 = some (some tt) ∧ zs_gi S tt 0 1 = some (nI tx.length) := by
  obtain ⟨q, h⟩ := h
  obtain ⟨tt, h1, h2⟩ := sd_tx h
  exact ⟨tt, h1, TX_sz h2⟩
theorem edc_size {nw : List Int64} (ho : op < 2) (h : EDC b S au tr op tx sn ge gw d u oe ow nw) : ∃ tt, zs_gr S b 3 2 = some (some tt) ∧ zs_gi S tt 0 1 = some (nI nw.length) := by
  by_cases hz : wt nw tx = 0
  · have := sc_size (h.1 hz)
    rwa [← wt_0 hz] at this
  · by_cases h0 : op = 0
    · exact sc_size (h.2.2 hz h0)
    · exact sc_size (h.2.1 hz (by omega))
theorem ed_pr {kind au tr num pl m : Nat} {s : Int64} {tx : List Int64} (hk : kind ≠ 0) : ed kind au tr num pl m s tx = tx.take pl ++ fm kind (2 ^ au) tr num ((tx.drop pl).take m) ++ tx.drop (pl + m) := by
  unfold ed
  rw [if_neg hk, pr_fm, List.drop_drop, List.append_assoc]
theorem seg_fl {tx : List Int64} {pl m : Nat} (h : pl + m ≤ tx.length) : ((tx.drop pl).take m).length = m ∧ ∀ j, j < ((tx.drop pl).take m).length → ((tx.drop pl).take m)[j]? = some (fl tx (pl + j)) := by
  have hl : ((tx.drop pl).take m).length = m := by simp; omega
  refine ⟨hl, fun j hj => ?_⟩
  rw [hl] at hj
  rw [List.getElem?_take_of_lt hj, List.getElem?_drop]
  unfold fl
  rw [List.getD_eq_getElem?_getD]
  have : pl + j < tx.length := by omega
  simp [this]
theorem seg_V {tx : List Int64} {pl m : Nat} (h : ∀ x ∈ tx, V x) : ∀ x ∈ (tx.drop pl).take m, V x := fun x hx => h x (List.mem_of_mem_drop (List.mem_of_mem_take hx))
theorem c_erase (h : SC b S au tr op tx sn ge gw d u oe ow) (hW : WF op tx sn ge gw d u oe ow) (h8 : au < 8) (h2 : tr < 2) (hb : ow < 2 ^ 29) {pl m : Nat} (hpm : pl + m ≤ tx.length) : ∃ S', f_CT_erase b (nI pl) (nI m) S = some (S', .inl (nI (ed 1 au tr 0 pl m 0 tx).length)) ∧ KR b S S' ∧ EDC b S' au tr op tx sn ge gw d u oe ow (ed 1 au tr 0 pl m 0 tx) := by
  obtain ⟨q, h⟩ := h
  have h6 := hW.1
  obtain ⟨sl, sf⟩ := seg_fl hpm
  have hfl := fm_len 1 (2 ^ au) tr 0 ((tx.drop pl).take m)
  obtain ⟨S1, e1, h1, kr1⟩ := c_start h (show pl ≤ tx.length by omega)
  obtain ⟨S2, e2, h2', kr2⟩ := l_cer h8 h2 h6 hpm ((tx.drop pl).take m) zq_F pl (tx.take pl) S1 (zF_lt (by omega)) (by omega) sf (seg_V hW.2.1) h1 (by simp; omega)
  obtain ⟨S3, e3, kr3, c1, c2, c3⟩ := c_finish h2' hW hb (p := pl + m) hpm (by simp only [List.length_append, List.length_take]; omega) (nw := ed 1 au tr 0 pl m 0 tx) (ed_pr (by decide)) rfl
  obtain ⟨tt, g1, g2⟩ := edc_size hW.2.2.2.2.2.2.2.2.2 ⟨c1, c2, c3⟩
  refine ⟨S3, ?_, KR_t kr1 (KR_t kr2 kr3), c1, c2, c3⟩
  unfold f_CT_erase
  rw [if_pos (sd_is h), c_rng h h6 S ⟨pl, m, rfl, rfl, hpm⟩, zt_l, if_pos (sd_is h), e1, zb_S, e2]
  unfold f_CT_erase_13
  rw [nI_add, if_pos (Int32.le_refl _), if_pos (sd_is h2'), e3, zb_S, g1]
  simp only [Option.bind_some]
  rw [g2, Option.bind_some]
theorem c_format (h : SC b S au tr op tx sn ge gw d u oe ow) (hW : WF op tx sn ge gw d u oe ow) (h8 : au < 8) (h2 : tr < 2) (hb : ow < 2 ^ 29) {pl m f : Nat} (hf : f < 256) (hpm : pl + m ≤ tx.length) : ∃ S', f_CT_format b (nI pl) (nI m) (nI f) S = some (S', .inl (nI (an 2 au tr f pl m 0 tx))) ∧ KR b S S' ∧ EDC b S' au tr op tx sn ge gw d u oe ow (ed 2 au tr f pl m 0 tx) := by
  obtain ⟨q, h⟩ := h
  have h6 := hW.1
  obtain ⟨sl, sf⟩ := seg_fl hpm
  have hfl := fm_len 2 (2 ^ au) tr f ((tx.drop pl).take m)
  obtain ⟨S1, e1, h1, kr1⟩ := c_start h (show pl ≤ tx.length by omega)
  obtain ⟨S2, e2, h2', kr2⟩ := l_cfm h8 h2 h6 hf hpm ((tx.drop pl).take m) zq_F pl 0 (tx.take pl) S1 (zF_lt (by omega)) (by omega) sf (seg_V hW.2.1) h1 (by simp; omega)
  obtain ⟨S3, e3, kr3, c1, c2, c3⟩ := c_finish h2' hW hb (p := pl + m) hpm (by simp only [List.length_append, List.length_take]; omega) (nw := ed 2 au tr f pl m 0 tx) (ed_pr (by decide)) rfl
  refine ⟨S3, ?_, KR_t kr1 (KR_t kr2 kr3), c1, c2, c3⟩
  unfold f_CT_format
  rw [if_pos (sd_is h), c_rng h h6 S ⟨pl, m, rfl, rfl, hpm⟩, zt_l, c_fmt hf, zt_l, if_pos (sd_is h), e1, zb_S, ← nI_0, e2]
  unfold f_CT_format_21
  rw [nI_add, if_pos (Int32.le_refl _), if_pos (sd_is h2'), e3, zb_S, Nat.zero_add]
  unfold an
  rw [if_neg (by decide), ct_cs]
theorem c_settle (h : SC b S au tr op tx sn ge gw d u oe ow) (hW : WF op tx sn ge gw d u oe ow) (h8 : au < 8) (hb : ow < 2 ^ 29) {kind pl m a : Nat} (hk : kind = 3 ∨ kind = 4) {v4 : Int32} (hv4 : v4 = if kind = 3 then 1 else 0) (ha : a < 256) (hpm : pl + m ≤ tx.length) : ∃ S', f_CT_settleMarks b (nI pl) (nI m) (nI a) v4 S = some (S', nI (an kind au tr a pl m 0 tx)) ∧ KR b S S' ∧ EDC b S' au tr op tx sn ge gw d u oe ow (ed kind au tr a pl m 0 tx) := by
  obtain ⟨q, h⟩ := h
  have h6 := hW.1
  obtain ⟨sl, sf⟩ := seg_fl hpm
  have hfl := fm_len kind (2 ^ au) tr a ((tx.drop pl).take m)
  obtain ⟨S1, e1, h1, kr1⟩ := c_start h (show pl ≤ tx.length by omega)
  obtain ⟨S2, e2, h2', kr2⟩ := l_cst h8 h6 hk hv4 ha hpm ((tx.drop pl).take m) zq_F pl 0 (tx.take pl) S1 (zF_lt (by omega)) (by omega) sf (seg_V hW.2.1) h1 (by simp; omega)
  obtain ⟨S3, e3, kr3, c1, c2, c3⟩ := c_finish h2' hW hb (p := pl + m) hpm (by simp only [List.length_append, List.length_take]; omega) (nw := ed kind au tr a pl m 0 tx) (ed_pr (by omega)) rfl
  refine ⟨S3, ?_, KR_t kr1 (KR_t kr2 kr3), c1, c2, c3⟩
  unfold f_CT_settleMarks
  rw [if_pos (sd_is h), e1, zb_S, ← nI_0, e2]
  unfold f_CT_settleMarks_11
  rw [nI_add, if_pos (Int32.le_refl _), if_pos (sd_is h2'), e3, zb_S, Nat.zero_add]
  unfold an
  rw [if_neg (by omega), ct_cs]
theorem c_accept (h : SC b S au tr op tx sn ge gw d u oe ow) (hW : WF op tx sn ge gw d u oe ow) (h8 : au < 8) (hb : ow < 2 ^ 29) {pl m a : Nat} (h1 : 1 ≤ a) (ha : a < 256) (hpm : pl + m ≤ tx.length) : ∃ S', f_CT_accept b (nI pl) (nI m) (nI a) S = some (S', .inl (nI (an 3 au tr a pl m 0 tx))) ∧ KR b S S' ∧ EDC b S' au tr op tx sn ge gw d u oe ow (ed 3 au tr a pl m 0 tx) := by
  obtain ⟨S', e, kr, c⟩ := c_settle h hW h8 hb (kind := 3) (Or.inl rfl) (v4 := 1) rfl ha hpm
  obtain ⟨q, h⟩ := h
  refine ⟨S', ?_, kr, c⟩
  unfold f_CT_accept
  rw [if_pos (sd_is h), c_rng h hW.1 S ⟨pl, m, rfl, rfl, hpm⟩, zt_l, c_set h1 ha, zt_l, if_pos (sd_is h), e, zb_S]
theorem c_reject (h : SC b S au tr op tx sn ge gw d u oe ow) (hW : WF op tx sn ge gw d u oe ow) (h8 : au < 8) (hb : ow < 2 ^ 29) {pl m a : Nat} (h1 : 1 ≤ a) (ha : a < 256) (hpm : pl + m ≤ tx.length) : ∃ S', f_CT_reject b (nI pl) (nI m) (nI a) S = some (S', .inl (nI (an 4 au tr a pl m 0 tx))) ∧ KR b S S' ∧ EDC b S' au tr op tx sn ge gw d u oe ow (ed 4 au tr a pl m 0 tx) := by
  obtain ⟨S', e, kr, c⟩ := c_settle h hW h8 hb (kind := 4) (Or.inr rfl) (v4 := 0) rfl ha hpm
  obtain ⟨q, h⟩ := h
  refine ⟨S', ?_, kr, c⟩
  unfold f_CT_reject
  rw [if_pos (sd_is h), c_rng h hW.1 S ⟨pl, m, rfl, rfl, hpm⟩, zt_l, c_set h1 ha, zt_l, if_pos (sd_is h), e, zb_S]
theorem c_insert (h : SC b S au tr op tx sn ge gw d u oe ow) (hW : WF op tx sn ge gw d u oe ow) (h8 : au < 8) (h2 : tr < 2) (hb : ow < 2 ^ 29) {pl f : Nat} {s : Int64} (hf : f < 256) (hp : pl ≤ tx.length) (hn : nc s ≠ 0) (h600 : tx.length + nc s ≤ 600) : ∃ S', f_CT_insert S b (nI pl) s (nI f) S = some (S', .inl (nI (ed 0 au tr f pl (nc s) s tx).length)) ∧ KR b S S' ∧ EDC b S' au tr op tx sn ge gw d u oe ow (ed 0 au tr f pl (nc s) s tx) := by
  obtain ⟨q, h⟩ := h
  have h6 := hW.1
  have hbl := bitL au h8
  have hins : (if tr = 0 then 0 else 2 ^ au) < 256 := by split <;> omega
  have hncl := nc_le s
  obtain ⟨S1, e1, h1, kr1⟩ := c_start h hp
  obtain ⟨S2, e2, h2', kr2⟩ := l_cin S s (v1 := nI pl) hf hins (Nat.le_refl (nc s)) (nc s) zq_F 0 (tx.take pl) S1 (by omega) (zF_lt (by omega)) h1 (by simp; omega)
  have hed : ed 0 au tr f pl (nc s) s tx = tx.take pl ++ (List.range' 0 (nc s)).map (fun i => mk (pt s i) f (if tr = 0 then 0 else 2 ^ au)) ++ tx.drop pl := by
    unfold ed insL
    rw [if_pos rfl, List.range_eq_range']
  obtain ⟨S3, e3, kr3, c1, c2, c3⟩ := c_finish h2' hW hb (p := pl) hp (by simp; omega) (nw := ed 0 au tr f pl (nc s) s tx) hed rfl
  obtain ⟨tt, g1, g2⟩ := edc_size hW.2.2.2.2.2.2.2.2.2 ⟨c1, c2, c3⟩
  obtain ⟨t0, k1, k2⟩ := sd_tx h
  refine ⟨S3, ?_, KR_t kr1 (KR_t kr2 kr3), c1, c2, c3⟩
  have hfin : f_CT_insert_73 S b (nI pl) s (nI f) (nI (nc s)) (nI (if tr = 0 then 0 else 2 ^ au)) S = some (S3, .inl (nI (ed 0 au tr f pl (nc s) s tx).length)) := by
    unfold f_CT_insert_73
    rw [if_pos (sd_is h), e1, zb_S, ← nI_0, e2]
    unfold f_CT_insert_83
    rw [if_pos (Int32.le_refl _), if_pos (sd_is h2'), e3, zb_S, g1]
    simp only [Option.bind_some]
    rw [g2, Option.bind_some]
  unfold f_CT_insert
  rw [if_pos (sd_is h), show (0 : Int32) = nI 0 from rfl, c_rng h h6 S ⟨pl, 0, rfl, rfl, by omega⟩, zt_l, c_fmt hf, zt_l, c_hmc, zb_S, if_neg (by rw [nI_eq (by omega) (by decide)]; exact hn), k1]
  simp only [Option.bind_some]
  rw [TX_sz k2, Option.bind_some, nI_add, if_pos (show nI (tx.length + nc s) ≤ (600 : Int32) from nI_le (b := 600) h600 (by decide)), sd_tr h, Option.bind_some, if_pos (sd_is h), c_bit (sd_au h) h8, zb_S, nI_0]
  simp only [nI0 (show tr < 2 ^ 31 by omega)]
  by_cases ht : tr = 0
  · rw [if_pos ht] at hfin ⊢
    exact hfin
  · rw [if_neg ht] at hfin ⊢
    exact hfin
theorem RNG0 {v1 : Int32} {len : Nat} : RNG v1 (0 : Int32) len ↔ PLC v1 len := by
  constructor
  · rintro ⟨pl, m, e1, e2, h⟩
    exact ⟨pl, e1, by omega⟩
  · rintro ⟨pl, e1, h⟩
    exact ⟨pl, 0, e1, rfl, by omega⟩
theorem c_ins1 (h : SC b S au tr op tx sn ge gw d u oe ow) (h6 : tx.length ≤ 600) {v1 v4 : Int32} {s : Int64} (hp : ¬ PLC v1 tx.length) : f_CT_insert S b v1 s v4 S = some (bump S, .inr 0) := by
  obtain ⟨q, h⟩ := h
  unfold f_CT_insert
  rw [if_pos (sd_is h), c_rngb h h6 (fun hr => hp (RNG0.mp hr)), zt_r]
theorem c_ins2 (h : SC b S au tr op tx sn ge gw d u oe ow) (h6 : tx.length ≤ 600) {v1 v4 : Int32} {s : Int64} (hp : PLC v1 tx.length) (h2 : ¬ BYT v4 ∨ nc s = 0) : f_CT_insert S b v1 s v4 S = some (bump S, .inr 1) := by
  obtain ⟨q, h⟩ := h
  unfold f_CT_insert
  rw [if_pos (sd_is h), c_rng h h6 S (RNG0.mpr hp), zt_l]
  by_cases hb : BYT v4
  · have hn : nc s = 0 := by
      rcases h2 with h2 | h2
      · exact absurd hb h2
      · exact h2
    obtain ⟨f, rfl, hf⟩ := hb
    rw [c_fmt hf, zt_l, c_hmc, zb_S, if_pos (by rw [hn]; exact nI_0), if_pos ⟨rfl, rfl⟩]; rfl
  · rw [c_fmtb hb, zt_r]
theorem c_ins3 (h : SC b S au tr op tx sn ge gw d u oe ow) (h6 : tx.length ≤ 600) {pl f : Nat} {s : Int64} (hf : f < 256) (hp : pl ≤ tx.length) (hn : nc s ≠ 0) (h600 : ¬ tx.length + nc s ≤ 600) : f_CT_insert S b (nI pl) s (nI f) S = some (bump S, .inr 2) := by
  obtain ⟨q, h⟩ := h
  have hncl := nc_le s
  obtain ⟨t0, k1, k2⟩ := sd_tx h
  unfold f_CT_insert
  rw [if_pos (sd_is h), c_rng h h6 S (RNG0.mpr ⟨pl, rfl, hp⟩), zt_l, c_fmt hf, zt_l, c_hmc, zb_S, if_neg (nI_ne0 (by omega) (by omega)), k1]
  simp only [Option.bind_some]
  rw [TX_sz k2, Option.bind_some, nI_add, if_neg (show ¬ nI (tx.length + nc s) ≤ (600 : Int32) from nI_ge (a := 600) (by omega) (by omega)), if_pos ⟨trivial, trivial⟩]; rfl
theorem c_ers1 (h : SC b S au tr op tx sn ge gw d u oe ow) (h6 : tx.length ≤ 600) {v1 v2 : Int32} (hp : ¬ RNG v1 v2 tx.length) : f_CT_erase b v1 v2 S = some (bump S, .inr 0) := by
  obtain ⟨q, h⟩ := h
  unfold f_CT_erase
  rw [if_pos (sd_is h), c_rngb h h6 hp, zt_r]
theorem c_fmt1 (h : SC b S au tr op tx sn ge gw d u oe ow) (h6 : tx.length ≤ 600) {v1 v2 v3 : Int32} (hp : ¬ RNG v1 v2 tx.length) : f_CT_format b v1 v2 v3 S = some (bump S, .inr 0) := by
  obtain ⟨q, h⟩ := h
  unfold f_CT_format
  rw [if_pos (sd_is h), c_rngb h h6 hp, zt_r]
theorem c_fmt2 (h : SC b S au tr op tx sn ge gw d u oe ow) (h6 : tx.length ≤ 600) {v1 v2 v3 : Int32} (hp : RNG v1 v2 tx.length) (h3 : ¬ BYT v3) : f_CT_format b v1 v2 v3 S = some (bump S, .inr 1) := by
  obtain ⟨q, h⟩ := h
  unfold f_CT_format
  rw [if_pos (sd_is h), c_rng h h6 S hp, zt_l, c_fmtb h3, zt_r]
theorem c_acc1 (h : SC b S au tr op tx sn ge gw d u oe ow) (h6 : tx.length ≤ 600) {v1 v2 v3 : Int32} (hp : ¬ RNG v1 v2 tx.length) : f_CT_accept b v1 v2 v3 S = some (bump S, .inr 0) := by
  obtain ⟨q, h⟩ := h
  unfold f_CT_accept
  rw [if_pos (sd_is h), c_rngb h h6 hp, zt_r]
theorem c_acc2 (h : SC b S au tr op tx sn ge gw d u oe ow) (h6 : tx.length ≤ 600) {v1 v2 v3 : Int32} (hp : RNG v1 v2 tx.length) (h3 : ¬ SET v3) : f_CT_accept b v1 v2 v3 S = some (bump S, .inr 1) := by
  obtain ⟨q, h⟩ := h
  unfold f_CT_accept
  rw [if_pos (sd_is h), c_rng h h6 S hp, zt_l, c_setb h3, zt_r]
theorem c_rej1 (h : SC b S au tr op tx sn ge gw d u oe ow) (h6 : tx.length ≤ 600) {v1 v2 v3 : Int32} (hp : ¬ RNG v1 v2 tx.length) : f_CT_reject b v1 v2 v3 S = some (bump S, .inr 0) := by
  obtain ⟨q, h⟩ := h
  unfold f_CT_reject
  rw [if_pos (sd_is h), c_rngb h h6 hp, zt_r]
theorem c_rej2 (h : SC b S au tr op tx sn ge gw d u oe ow) (h6 : tx.length ≤ 600) {v1 v2 v3 : Int32} (hp : RNG v1 v2 tx.length) (h3 : ¬ SET v3) : f_CT_reject b v1 v2 v3 S = some (bump S, .inr 1) := by
  obtain ⟨q, h⟩ := h
  unfold f_CT_reject
  rw [if_pos (sd_is h), c_rng h h6 S hp, zt_l, c_setb h3, zt_r]
theorem c_author (h : SC b S au tr op tx sn ge gw d u oe ow) {a : Nat} (ha : a < 8) (E : zq_S) : ∃ S', f_CT_author E b (nI a) S = some (S', .inl (nI au)) ∧ KR b S S' ∧ SC b S' a tr op tx sn ge gw d u oe ow := by
  obtain ⟨q, bg, G, X, LX, ge1, gw1, r, rest⟩ := h
  refine ⟨_, ?_, ?_, q, bg, G, X, LX, ge1, gw1, RC_ct r a tr, rest⟩
  · unfold f_CT_author
    rw [if_neg (nI_pos (show a < 2 ^ 31 by omega)), if_pos (show nI a < (8 : Int32) from nI_lt (b := 8) ha (by decide)), FX_au r, Option.bind_some, z_p r.1.1 (by simp), Option.bind_some]
    rfl
  · exact KR_u (Or.inl (by omega))
theorem c_authorb {v : Int32} (hv : ∀ a, a < 8 → v ≠ nI a) : f_CT_author S b v S = some (bump S, .inr 1) := by
  have ht : f_CT_author_10 S S = some (bump S, .inr 1) := by
    unfold f_CT_author_10
    rw [if_pos ⟨rfl, rfl⟩]; rfl
  unfold f_CT_author
  rw [ht]
  by_cases h0 : v < 0
  · rw [if_pos h0]
  · rw [if_neg h0, if_neg]
    obtain ⟨p, hp, rfl⟩ := nI_of h0
    intro hc
    have hc' : nI p < nI 8 := hc
    rw [nI_ltI hp (by decide)] at hc'
    exact hv p hc' rfl
theorem c_track (h : SC b S au tr op tx sn ge gw d u oe ow) (h2 : tr < 2) {v : Nat} (hv : v < 2) : ∃ S', f_CT_track b (nI v) S = some (S', nI tr) ∧ KR b S S' ∧ SC b S' au v op tx sn ge gw d u oe ow := by
  have hz : ∀ k, k < 2 → nI k = 0 ∨ nI k = 1 := by decide +kernel
  obtain ⟨q, bg, G, X, LX, ge1, gw1, r, rest⟩ := h
  refine ⟨_, ?_, ?_, q, bg, G, X, LX, ge1, gw1, RC_ct r au v, rest⟩
  · unfold f_CT_track
    rw [FX_tr r, Option.bind_some, z_pz r.1.1 (by simp) (hz v hv), Option.bind_some, if_pos (hz tr h2)]
    rfl
  · exact KR_u (Or.inl (by omega))
theorem c_open1 (h : SC b S au tr 1 tx sn ge gw d u oe ow) : f_CT_open S b S = some (bump S, .inr 2) := by
  obtain ⟨q, bg, G, X, LX, ge1, gw1, r, rest⟩ := h
  unfold f_CT_open
  rw [FX_h r]
  simp only [Option.bind_some]
  rw [FX_op r, Option.bind_some, if_neg (by decide), if_pos ⟨trivial, trivial⟩]; rfl
theorem c_open0 (h : SC b S au tr 0 tx sn ge gw d u oe ow) : ∃ S', f_CT_open S b S = some (S', .inl ()) ∧ KR b S S' ∧ SC b S' au tr 1 tx sn ge gw d u oe ow := by
  obtain ⟨q, bg, G, X, LX, ge1, gw1, r, rest⟩ := h
  refine ⟨_, ?_, ?_, q, bg, G, X, LX, ge1, gw1, RC_hist r d u 1 bg, rest⟩
  · unfold f_CT_open
    rw [FX_h r]
    simp only [Option.bind_some]
    rw [FX_op r, Option.bind_some, if_pos nI_0, z_pz r.1.2.1 (by simp) (Or.inr rfl), Option.bind_some]
    rfl
  · exact KR_u (Or.inl (by omega))
theorem c_close1 (h : SC b S au tr 0 tx sn ge gw d u oe ow) : f_CT_close S b S = some (bump S, .inr 2) := by
  obtain ⟨q, bg, G, X, LX, ge1, gw1, r, rest⟩ := h
  unfold f_CT_close
  rw [FX_h r]
  simp only [Option.bind_some]
  rw [FX_op r, Option.bind_some, if_pos nI_0, if_pos ⟨trivial, trivial⟩]; rfl
theorem c_close (h : SC b S au tr 1 tx sn ge gw d u oe ow) (hW : WF 1 tx sn ge gw d u oe ow) (hb : ow < 2 ^ 29) {o : Nat} (ho : o = fgt (d + 1) (va_up gw d ow)) : ∃ S', f_CT_close S b S = some (S', .inl (nI oe)) ∧ KR b S S' ∧ (oe = 0 → SC b S' au tr 0 tx sn ge gw d u 0 0) ∧ (0 < oe → SC b S' au tr 0 tx (sh o (va_up sn (d + 1) tx)) (sh o (va_up ge d oe)) (sh o (va_up gw d ow)) (d + 1 - o) 0 0 0) := by
  obtain ⟨w1, w2, w3, w4, w5, w6, w7, w8, w9, w10⟩ := hW
  obtain ⟨q, bg, G, X, LX, ge1, gw1, r, h0, h1, h2, h3, h4, h5, h6⟩ := h
  have r1 := RC_hist r d u 0 bg
  have hop : f_CT_close S b S = zs_b (f_Hist_endGroup (b + 1) (zq_u S (b + 1) (.inr (2, [.ref (b + 2), .int (nI d), .int (nI u), .int (nI 0), .int (nI bg)])))) fun S18 x19 => some (S18, .inl x19) := by
    unfold f_CT_close
    rw [FX_h r]
    simp only [Option.bind_some]
    rw [FX_op r, Option.bind_some, if_neg (by decide), z_pz r.1.2.1 (by simp) (Or.inl rfl), Option.bind_some]
    rw [show (zq_u S (b + 1) (.inr (2, [Value.ref (b + 2), Value.int (nI d), Value.int (nI u), Value.int (nI 1), Value.int (nI bg)].set 3 (Value.int 0)))) = zq_u S (b + 1) (.inr (2, [Value.ref (b + 2), Value.int (nI d), Value.int (nI u), Value.int (nI 0), Value.int (nI bg)])) from rfl]
    rw [FX_h r1]
    simp only [Option.bind_some]
    rw [if_pos (FX_ish r1)]
  have kr1 : KR b S (zq_u S (b + 1) (.inr (2, [.ref (b + 2), .int (nI d), .int (nI u), .int (nI 0), .int (nI bg)]))) := KR_u (Or.inl (by omega))
  rw [hop]
  by_cases hoe : oe = 0
  · have hb0 := h5 hoe
    subst hb0
    rw [h_end0 r1, zb_S]
    exact ⟨_, by rw [hoe]; rfl, kr1, fun _ => ⟨q, 0, G, X, LX, ge1, gw1, r1, h0, h1, h2, h3, h4, fun _ => rfl, fun hn => absurd hn (by decide)⟩, fun hn => absurd hn (by omega)⟩
  · obtain ⟨c1, c2, c3, c4, c5⟩ := h6 (by omega)
    subst c1
    have hu : u = 0 := (w9 (by omega)).2
    subst hu
    have hgw : ∀ i, i < d + 1 → gw1 i = va_up gw d ow i := by
      intro i hi
      by_cases hid : i = d
      · rw [hid, va_up_self]; exact c5
      · rw [va_up_ne _ _ hid]; exact (h4 i (by omega)).2.2
    have hsmw : sm gw1 0 (d + 1) < 2 ^ 31 := by
      rw [sm_r, Nat.zero_add, c5, sm_congr (g := gw) d 0 (fun j _ hj => by rw [hgw j (by omega), va_up_ne _ _ (by omega)])]
      rw [Nat.add_zero] at w5
      omega
    have hol := fgt_le (d + 1) (va_up gw d ow)
    rw [← ho] at hol
    obtain ⟨S4, G4, X4, L4, ge4, gw4, e4, r4, kr4, p4, q4⟩ := h_end r1 (by omega) (fun i hi => by
      by_cases hid : i = d
      · rw [hid]; exact c2
      · exact (h4 i (by omega)).1) hsmw (o := o) (by rw [ho]; exact (fgt_congr _ _ _ hgw).symm)
    rw [e4, zb_S, c4]
    refine ⟨S4, rfl, KR_t kr1 kr4, fun hn => absurd hn hoe, fun _ => ⟨L4 1, 0, G4, X4, L4, ge4, gw4, r4, by rw [q4]; exact h0, rfl, fun i hi => ?_, fun i hi hi2 => absurd hi2 (by omega), fun i hi => ?_, fun _ => rfl, fun hn => absurd hn (by decide)⟩⟩
    · rw [(p4 i hi).2.1]
      show LX (i + o + 2) = va_up sn (d + 1) tx (i + o)
      rw [va_up_ne _ _ (by omega)]
      by_cases hid : i + o = d
      · rw [hid]; exact c3
      · exact h2 _ (by omega)
    · obtain ⟨a1, a2, a3, a4⟩ := p4 i (by omega)
      refine ⟨?_, ?_, ?_⟩
      · rw [a1]
        by_cases hid : i + o = d
        · rw [hid]; exact c2
        · exact (h4 _ (by omega)).1
      · rw [a3]
        show ge1 (i + o) = va_up ge d oe (i + o)
        by_cases hid : i + o = d
        · rw [hid, va_up_self]; exact c4
        · rw [va_up_ne _ _ hid]; exact (h4 _ (by omega)).2.1
      · rw [a4]; exact hgw _ (by omega)
theorem c_cross {bg : Nat} {G : Nat → Option Nat} {X : Nat → Nat} {LX : Nat → List Int64} {ge1 gw1 : Nat → Nat} (r : RC b S au tr op bg d u G X LX ge1 gw1) {i g : Nat} (hi : i < 41) (hg : G i = some g) : ∃ S', f_CT_crossOver b (some g) S = some (S', nI (ge1 i)) ∧ RC b S' au tr op bg d u G (sw 0 (i + 2) X) (sw 0 (i + 2) LX) ge1 gw1 ∧ KR b S S' := by
  obtain ⟨r2, kr2⟩ := RC_cross r hi hg
  have cg := RC_g r hi hg
  have gb : b ≠ g := by have := (r.2.1.2.2.1 i g hi hg).2; omega
  refine ⟨_, ?_, r2, kr2⟩
  unfold f_CT_crossOver
  rw [Option.bind_some, z_gr cg rfl, Option.bind_some, FX_tx r, Option.bind_some, z_p cg (by simp), Option.bind_some]
  rw [show (zq_u S g (.inr (1, [Value.ref (X (i + 2)), Value.int (nI (ge1 i)), Value.int (nI (gw1 i))].set 0 (va_rf (some (X 0)))))) = zq_u S g (.inr (1, [Value.ref (X 0), Value.int (nI (ge1 i)), Value.int (nI (gw1 i))])) from rfl]
  rw [z_p ((u_ne _ _ gb).trans r.1.1) (by simp), Option.bind_some]
  rw [show ∀ T : zq_S, (zq_u T b (.inr (3, [Value.ref (b + 1), Value.ref (b + 3), Value.ref (X 0), Value.ref (X 1), Value.int (nI au), Value.int (nI tr)].set 2 (va_rf (some (X (i + 2))))))) = zq_u T b (.inr (3, [Value.ref (b + 1), Value.ref (b + 3), Value.ref (X (i + 2)), Value.ref (X 1), Value.int (nI au), Value.int (nI tr)])) from fun _ => rfl]
  rw [z_gi ((u_ne _ _ (fun e => gb e.symm)).trans (u_at _ _ _)) rfl, Option.bind_some]
theorem c_undo1 (h : SC b S au tr op tx sn ge gw d u oe ow) (ho : op < 2) (hd : d ≤ 40) (hn : op = 1 ∨ d = 0) : f_CT_undo S b S = some (bump S, .inr 2) := by
  obtain ⟨q, bg, G, X, LX, ge1, gw1, r, rest⟩ := h
  unfold f_CT_undo
  rw [FX_h r]
  simp only [Option.bind_some]
  rw [if_pos (FX_ish r), h_back0 r ho hd hn, zb_S, if_pos rfl, if_pos ⟨rfl, rfl⟩]; rfl
theorem c_redo1 (h : SC b S au tr op tx sn ge gw d u oe ow) (ho : op < 2) (hd : d + u ≤ 40) (hn : op = 1 ∨ u = 0) : f_CT_redo S b S = some (bump S, .inr 2) := by
  obtain ⟨q, bg, G, X, LX, ge1, gw1, r, rest⟩ := h
  unfold f_CT_redo
  rw [FX_h r]
  simp only [Option.bind_some]
  rw [if_pos (FX_ish r), h_fwd0 r ho hd hn, zb_S, if_pos rfl, if_pos ⟨rfl, rfl⟩]; rfl
theorem c_undo (h : SC b S au tr 0 tx sn ge gw d u oe ow) (hW : WF 0 tx sn ge gw d u oe ow) (hd : 0 < d) : ∃ S', f_CT_undo S b S = some (S', .inl (nI (ge (d - 1)))) ∧ KR b S S' ∧ SC b S' au tr 0 (sn (d - 1)) sn ge gw (d - 1) (u + 1) 0 0 := by
  obtain ⟨w1, w2, w3, w4, w5, w6, w7, w8, w9, w10⟩ := hW
  obtain ⟨q, bg, G, X, LX, ge1, gw1, r, h0, h1, h2, h3, h4, h5, h6⟩ := h
  have hoe : oe = 0 := by
    by_cases hh : oe = 0
    · exact hh
    · have := (w9 (by omega)).1; omega
  obtain ⟨g, hg⟩ : ∃ g, G (d - 1) = some g := by
    cases hgi : G (d - 1) with
    | none => exact absurd hgi (h4 (d - 1) (by omega)).1
    | some g => exact ⟨g, rfl⟩
  have e1 := h_back r (by omega) hd
  have r2 := RC_hist (RC_hist r (d - 1) u 0 bg) (d - 1) (u + 1) 0 bg
  obtain ⟨S3, e3, r3, kr3⟩ := c_cross r2 (show d - 1 < 41 by omega) hg
  have hsw : ∀ k, 2 ≤ k → k ≠ d - 1 + 2 → sw 0 (d - 1 + 2) LX k = LX k := fun k hk hk2 => by rw [sw_at, if_neg (by omega), if_neg hk2]
  refine ⟨S3, ?_, KR_t (KR_u (Or.inl (by omega))) (KR_t (KR_u (Or.inl (by omega))) kr3), sw 0 (d - 1 + 2) LX 1, bg, G, _, _, ge1, gw1, r3, ?_, rfl, fun i hi => ?_, fun i hi hi2 => ?_, fun i hi => h4 i (by omega), fun _ => h5 hoe, fun hn => absurd hn (by decide)⟩
  · unfold f_CT_undo
    rw [FX_h r]
    simp only [Option.bind_some]
    rw [if_pos (FX_ish r), e1, zb_S, hg, if_neg (by simp), if_pos (FX_isc r2), e3, zb_S, (h4 (d - 1) (by omega)).2.1]
  · rw [sw_at, if_pos rfl]; exact h2 (d - 1) (by omega)
  · rw [hsw _ (by omega) (by omega)]; exact h2 i (by omega)
  · by_cases hid : i = d - 1
    · rw [hid, sw_at, if_neg (by omega), if_pos rfl, h0, (w8 hoe).2]; congr 1; omega
    · rw [hsw _ (by omega) (by omega)]; exact h3 i (by omega) (by omega)
theorem c_redo (h : SC b S au tr 0 tx sn ge gw d u oe ow) (hW : WF 0 tx sn ge gw d u oe ow) (hu : 0 < u) : ∃ S', f_CT_redo S b S = some (S', .inl (nI (ge d))) ∧ KR b S S' ∧ SC b S' au tr 0 (sn (d + 1)) sn ge gw (d + 1) (u - 1) 0 0 := by
  obtain ⟨w1, w2, w3, w4, w5, w6, w7, w8, w9, w10⟩ := hW
  obtain ⟨q, bg, G, X, LX, ge1, gw1, r, h0, h1, h2, h3, h4, h5, h6⟩ := h
  have hoe : oe = 0 := by
    by_cases hh : oe = 0
    · exact hh
    · have := (w9 (by omega)).1; omega
  obtain ⟨g, hg⟩ : ∃ g, G d = some g := by
    cases hgi : G d with
    | none => exact absurd hgi (h4 d (by omega)).1
    | some g => exact ⟨g, rfl⟩
  have e1 := h_fwd r (by omega) hu
  have r2 := RC_hist (RC_hist r (d + 1) u 0 bg) (d + 1) (u - 1) 0 bg
  obtain ⟨S3, e3, r3, kr3⟩ := c_cross r2 (show d < 41 by omega) hg
  have hsw : ∀ k, 2 ≤ k → k ≠ d + 2 → sw 0 (d + 2) LX k = LX k := fun k hk hk2 => by rw [sw_at, if_neg (by omega), if_neg hk2]
  refine ⟨S3, ?_, KR_t (KR_u (Or.inl (by omega))) (KR_t (KR_u (Or.inl (by omega))) kr3), sw 0 (d + 2) LX 1, bg, G, _, _, ge1, gw1, r3, ?_, rfl, fun i hi => ?_, fun i hi hi2 => ?_, fun i hi => h4 i (by omega), fun _ => h5 hoe, fun hn => absurd hn (by decide)⟩
  · unfold f_CT_redo
    rw [FX_h r]
    simp only [Option.bind_some]
    rw [if_pos (FX_ish r), e1, zb_S, hg, if_neg (by simp), if_pos (FX_isc r2), e3, zb_S, (h4 d (by omega)).2.1]
  · rw [sw_at, if_pos rfl]; exact h3 d (by omega) (by omega)
  · by_cases hid : i = d
    · rw [hid, sw_at, if_neg (by omega), if_pos rfl, h0, (w8 hoe).2]
    · rw [hsw _ (by omega) (by omega)]; exact h2 i (by omega)
  · rw [hsw _ (by omega) (by omega)]; exact h3 i (by omega) (by omega)
end CCA
