def sx64 (x : Int64) : Prop := x.toInt32.toInt64 = x
def sx_ok (s : Nat) (c : Nat → Nat) (n : Nat) (P : Nat → Nat) (CO FA PA : Nat → Int32) : Prop := mx_c CO s c ∧ xf_ok (s * 22) c n FA ∧ ∀ i, i < 140 → PA (s * 140 + i) = nI (P i)
def sm_ok (c : Nat → Nat) (n : Nat) (P : Nat → Nat) : Prop := n ≤ 140 ∧ (rd_V c n).1 = true ∧ v_all c n = none ∧ ∀ f, m_I c n ≤ f → f < m_I c n + m_F c n → ib c n P 141 (m_bo c n f) [0]
def sk_ok (s : Nat) (c : Nat → Nat) (n : Nat) (BY TY TS IM FN SI WH LA GL EN EA HM : Nat → Int32) : Prop :=
  (∀ i, i < n → BY (140 * s + i) = nI (c i)) ∧ TY s = nI (c 0) ∧ (∀ t, t < c 0 → TS (4 * s + t) = nI (sg c (m_ty c n t))) ∧ IM s = nI (m_I c n) ∧ FN s = nI (m_I c n + m_F c n) ∧ (∀ f, f < m_I c n + m_F c n → SI (7 * s + f) = sg_i c (c 0) (m_ty c n) (m_fa c n f)) ∧
  (∀ k, k < m_I c n → WH (3 * s + k) = nI (c (m_im c n k + 1))) ∧ (∀ f, m_I c n ≤ f → f < m_I c n + m_F c n → LA (7 * s + f) = nI (m_fa c n f + 1)) ∧ GL s = nI (c (m_pG c n)) ∧ EN s = nI (c (tl_q c n (m_pG c n))) ∧ EA s = nI (tl_q c n (m_pG c n) + 1) ∧ HM s = nI (c (tl_m c n (m_pG c n)))
def sd_ok (s : Nat) (c : Nat → Nat) (n : Nat) (XG YG : Nat → Int64) (XM YM : Nat → Int32) : Prop :=
  (∀ g, g < c (m_pG c n) → XG (s * 3 + g) = YG (3 * s + g) ∧ (c (m_ga c n g) = 1 → sx64 (XG (s * 3 + g)))) ∧ ∀ j, j < 48 → ∃ b, b < 256 ∧ XM (s * 48 + j) = nI b ∧ YM (48 * s + j) = sb_v b
def sl_ok (s : Nat) (c : Nat → Nat) (n : Nat) (P : Nat → Nat) (CO FA PA : Nat → Int32) (XG : Nat → Int64) (XM BY TY TS IM FN SI WH LA GL : Nat → Int32) (YG : Nat → Int64) (EN EA HM YM : Nat → Int32) : Prop :=
  sm_ok c n P ∧ sx_ok s c n P CO FA PA ∧ sk_ok s c n BY TY TS IM FN SI WH LA GL EN EA HM ∧ sd_ok s c n XG YG XM YM
def wq_ok (FW WC WT : Int32) (WA WB : Nat → Int32) : Prop := ∃ w f, WC = nI w ∧ WT = nI w ∧ w ≤ 8 ∧ FW = nI f ∧ f < 8 ∧ ∀ i, i < w → WA ((f + i) % 8) = WB i
def rl_ok (BC WP : Int32) (RV : Int64) (TP FU FW WC PC : Int32) (CO FA PA LO : Nat → Int32) (XG : Nat → Int64) (XM WA PR : Nat → Int32) (CT PL TR : Int32) (RS : Int64) (US WT PD : Int32) (BY TH TY TS IM FN SI WH LA GL : Nat → Int32) (YG : Nat → Int64) (EN EA HM YM WB PB : Nat → Int32) : Prop :=
  ∃ n cd b0 b1 c0 n0 P0 c1 n1 P1, BC = nI n ∧ CT = nI n ∧ n ≤ 140 ∧ mx_c CO 2 cd ∧ (∀ i, i < n → BY (280 + i) = nI (cd i)) ∧ WP = PL ∧ RV = RS ∧ TP = TR ∧ FU = US ∧ PC = PD ∧ PR = PB ∧ wq_ok FW WC WT WA WB ∧
    LO 0 = bb_i b0 ∧ TH 0 = bb_i b0 ∧ LO 1 = bb_i b1 ∧ TH 1 = bb_i b1 ∧
    (b0 = true → sl_ok 0 c0 n0 P0 CO FA PA XG XM BY TY TS IM FN SI WH LA GL YG EN EA HM YM ∧ ∀ k, k < m_I c0 n0 → lk_ok 0 false c0 n0 c0 n0 k) ∧
    (b1 = true → sl_ok 1 c1 n1 P1 CO FA PA XG XM BY TY TS IM FN SI WH LA GL YG EN EA HM YM ∧ ∀ k, k < m_I c1 n1 → lk_ok 1 b0 c1 n1 c0 n0 k)
def i_Rel (_ : Nat) (u : SX) (v : SY) : Prop := rl_ok (gx_byteCount u) (gx_wrongPlace u) (gx_resultValue u) (gx_trapPlace u) (gx_fuelUsed u) (gx_firstWaiting u) (gx_waitingCount u) (gx_printCount u) (gx_code u) (gx_facts u) (gx_partner u) (gx_loaded u) (gx_globals u) (gx_memories u) (gx_waiting u) (gx_prints u) (gy_count v) (gy_place v) (gy_trappedAt v) (gy_result v) (gy_used v) (gy_waits v) (gy_printed v) (gy_bytes v) (gy_there v) (gy_types v) (gy_typeSig v) (gy_imports v) (gy_functions v) (gy_sig v) (gy_what v) (gy_localsAt v) (gy_globals v) (gy_globalValue v) (gy_entries v) (gy_entriesAt v) (gy_hasMemory v) (gy_memory v) (gy_waiting v) (gy_prints v)
theorem i_up {k : Nat} {u : SX} {v : SY} (h : i_Rel k u v) : i_Rel (k + 9) u v := h
theorem i_vc0 : wpX_init (fun u => wpY_init (fun v => i_Rel 0 u v)) :=
  ⟨0, fun _ => 0, false, false, fun _ => 0, 0, fun _ => 0, fun _ => 0, 0, fun _ => 0, rfl, rfl, by omega, ⟨fun _ _ => rfl, fun _ => show (0 : Nat) < 256 by omega, fun _ _ => rfl⟩, fun i hi => absurd hi (by omega), rfl, rfl, rfl, rfl, rfl, rfl, ⟨0, 0, rfl, rfl, by omega, rfl, by omega, fun i hi => absurd hi (by omega)⟩, rfl, rfl, rfl, rfl, fun z => ff_t z, fun z => ff_t z⟩
theorem i_vc_place {k : Nat} {u : SX} {v : SY} (I : i_Rel k u v) (hk : k + 9 ≤ 4608) : wpX_place (fun r => wpY_place (fun r' => r' = r ∧ i_Rel (k + 9) u v) v) u := by
  obtain ⟨n, cd, b0, b1, c0, n0, P0, c1, n1, P1, h1, h2, h3, h4, h5, h6, h7⟩ := id I
  exact ⟨h6.symm, I⟩
theorem i_vc_result {k : Nat} {u : SX} {v : SY} (I : i_Rel k u v) (hk : k + 9 ≤ 4608) : wpX_result (fun r => wpY_result (fun r' => r' = r ∧ i_Rel (k + 9) u v) v) u := by
  obtain ⟨n, cd, b0, b1, c0, n0, P0, c1, n1, P1, h1, h2, h3, h4, h5, h6, h7, h8⟩ := id I
  exact ⟨h7.symm, I⟩
theorem i_vc_trappedAt {k : Nat} {u : SX} {v : SY} (I : i_Rel k u v) (hk : k + 9 ≤ 4608) : wpX_trappedAt (fun r => wpY_trappedAt (fun r' => r' = r ∧ i_Rel (k + 9) u v) v) u := by
  obtain ⟨n, cd, b0, b1, c0, n0, P0, c1, n1, P1, h1, h2, h3, h4, h5, h6, h7, h8, h9⟩ := id I
  exact ⟨h8.symm, I⟩
theorem i_vc_used {k : Nat} {u : SX} {v : SY} (I : i_Rel k u v) (hk : k + 9 ≤ 4608) : wpX_used (fun r => wpY_used (fun r' => r' = r ∧ i_Rel (k + 9) u v) v) u := by
  obtain ⟨n, cd, b0, b1, c0, n0, P0, c1, n1, P1, h1, h2, h3, h4, h5, h6, h7, h8, h9, h10⟩ := id I
  exact ⟨h9.symm, I⟩
theorem i_vc_clear {k : Nat} {u : SX} {v : SY} (I : i_Rel k u v) (hk : k + 9 ≤ 4608) : wpX_clear (fun r u' => wpY_clear (fun r' v' => r' = r ∧ i_Rel (k + 9) u' v') v) u := by
  obtain ⟨n, cd, b0, b1, c0, n0, P0, c1, n1, P1, h1, h2, h3, h4, h5, h6, h7, h8, h9, h10, h11, h12, h13, h14, h15, h16, h17, h18⟩ := id I
  exact ⟨h2.trans h1.symm, 0, cd, b0, b1, c0, n0, P0, c1, n1, P1, rfl, rfl, by omega, h4, fun i hi => absurd hi (by omega), h6, h7, h8, h9, h10, h11, h12, h13, h14, h15, h16, h17, h18⟩
theorem i_vc_printed {k : Nat} {u : SX} {v : SY} (I : i_Rel k u v) (hk : k + 9 ≤ 4608) (v1 : Int32) : wpX_printed (fun r => wpY_printed (fun r' => r' = r ∧ i_Rel (k + 9) u v) v v1) u v1 := by
  obtain ⟨n, cd, b0, b1, c0, n0, P0, c1, n1, P1, h1, h2, h3, h4, h5, h6, h7, h8, h9, h10, h11, h12⟩ := id I
  have hin : ∀ x : Int32, vp_in (x &&& 15) 16 := fun x => pk_andIn x 4 (by decide) (by omega)
  refine br_c (fun z => br_t z ⟨h10.symm, I⟩) (fun z => br_c (fun z1 => br_f z (br_t z1 ⟨rfl, I⟩)) (fun z1 => br_c (fun z2 => br_f z (br_f z1 (br_t ?_ ⟨rfl, I⟩))) (fun z2 => br_c (fun z3 => ⟨hin _, br_f z (br_f z1 (br_f ?_ (br_t ?_ ⟨hin _, ?_, I⟩)))⟩) (fun z3 => br_f z (br_f z1 (br_f ?_ (br_f ?_ ⟨rfl, I⟩)))))))
  · rcases pk_ix v1 (n := 16) (by decide) with q | q | ⟨j, q1, rfl⟩
    · exact absurd q z1
    · exact Int32.lt_of_lt_of_le (by decide) q
    · exact absurd z2 (nI_ge (b := 16) q1 (by decide))
  · intro q
    obtain ⟨j, hj, rfl⟩ := nI_of z1
    have z2' : ¬ nI 16 ≤ nI j := z2
    have q' : nI 15 < nI j := q
    rw [nI_leI (by decide) hj] at z2'
    rw [nI_ltI (by decide) hj] at q'
    omega
  · have z3' : v1 < gx_printCount u := z3
    rw [h10] at z3'
    exact z3'
  · have e : gy_prints v (((gy_printed v - 1) - v1) &&& 15).toNatClampNeg = gx_prints u (((gx_printCount u - 1) - v1) &&& 15).toNatClampNeg := by rw [h10, h11]
    exact e
  · intro q
    obtain ⟨j, hj, rfl⟩ := nI_of z1
    have z2' : ¬ nI 16 ≤ nI j := z2
    have q' : nI 15 < nI j := q
    rw [nI_leI (by decide) hj] at z2'
    rw [nI_ltI (by decide) hj] at q'
    omega
  · intro q
    have q' : v1 < gy_printed v := q
    rw [← h10] at q'
    exact z3 q'
theorem i_vc_feed {k : Nat} {u : SX} {v : SY} (I : i_Rel k u v) (hk : k + 9 ≤ 4608) (v1 : Int32) : wpX_feed (fun r u' => wpY_feed (fun r' v' => r' = r ∧ i_Rel (k + 9) u' v') v v1) u v1 := by
  obtain ⟨n, cd, b0, b1, c0, n0, P0, c1, n1, P1, h1, h2, h3, h4, h5, h6, h7, h8, h9, h10, h11, ⟨w, f, w1, w2, w3, w4, w5, w6⟩, hr⟩ := id I
  refine pk_lt w 8 (fun z => ⟨by decide, ?_⟩) (fun z => ?_) w1
  · have e : gx_firstWaiting u + gx_waitingCount u = nI (f + w) := by rw [w4, w1, nI_add]
    have e2 : (gx_firstWaiting u + gx_waitingCount u) - (gx_firstWaiting u + gx_waitingCount u) / 8 * 8 = nI ((f + w) % 8) := by rw [e]; exact pk_rem (d := 8) (by omega) (by omega) (by omega)
    refine ⟨pk_in ((f + w) % 8) 8 (by omega) e2, nm_r (show upd (gx_waiting u) ((gx_firstWaiting u + gx_waitingCount u) - (gx_firstWaiting u + gx_waitingCount u) / 8 * 8).toNatClampNeg v1 = upd (gx_waiting u) ((f + w) % 8) v1 from by rw [pk_cl ((f + w) % 8) e2]) (nm_r (show gx_waitingCount u + 1 = nI (w + 1) from by rw [w1, nI_1]) ?_)⟩
    refine pk_eq w 8 (fun y => absurd y (by omega)) (fun _ => nm_r (show gy_waits v + 1 = nI (w + 1) from by rw [w2, nI_1]) ⟨pk_in w 8 z w2, nm_r (show upd (gy_waiting v) (gy_waits v).toNatClampNeg v1 = upd (gy_waiting v) w v1 from by rw [pk_cl w w2]) ?_⟩) w2 rfl
    have hw : ∀ i, i < w + 1 → upd (gx_waiting u) ((f + w) % 8) v1 ((f + i) % 8) = upd (gy_waiting v) w v1 i := by
      intro i hi
      by_cases q : i = w
      · subst q; rw [pk_us, pk_us]
      · rw [pk_un (by omega), pk_un q]; exact w6 i (by omega)
    exact ⟨rfl, n, cd, b0, b1, c0, n0, P0, c1, n1, P1, h1, h2, h3, h4, h5, h6, h7, h8, h9, h10, h11, ⟨w + 1, f, rfl, rfl, by omega, w4, w5, hw⟩, hr⟩
  · have : w = 8 := by omega
    exact pk_eq w 8 (fun _ => ⟨rfl, I⟩) (fun y => absurd this y) w2 rfl
theorem sl_put {s : Nat} {c : Nat → Nat} {n : Nat} {P : Nat → Nat} {CO FA PA CO' : Nat → Int32} {XG : Nat → Int64} {XM BY BY' TY TS IM FN SI WH LA GL : Nat → Int32} {YG : Nat → Int64} {EN EA HM YM : Nat → Int32} (hs : s < 2) (h : sl_ok s c n P CO FA PA XG XM BY TY TS IM FN SI WH LA GL YG EN EA HM YM) (e1 : ∀ j, j < 280 → CO' j = CO j) (e2 : ∀ j, j < 280 → BY' j = BY j) : sl_ok s c n P CO' FA PA XG XM BY' TY TS IM FN SI WH LA GL YG EN EA HM YM := by
  obtain ⟨a, ⟨b1, b2, b3⟩, ⟨d1, d2⟩, e⟩ := h
  have h140 := a.1
  exact ⟨a, ⟨⟨fun i hi => by rw [e1 _ (by omega)]; exact b1.1 i hi, b1.2⟩, b2, b3⟩, ⟨fun i hi => by rw [e2 _ (by omega)]; exact d1 i hi, d2⟩, e⟩
theorem i_vc_put {k : Nat} {u : SX} {v : SY} (I : i_Rel k u v) (hk : k + 9 ≤ 4608) (v1 : Int32) : wpX_put (fun r u' => wpY_put (fun r' v' => r' = r ∧ i_Rel (k + 9) u' v') v v1) u v1 := by
  obtain ⟨n, cd, b0, b1, c0, n0, P0, c1, n1, P1, h1, h2, h3, h4, h5, h6, h7, h8, h9, h10, h11, h12, h13, h14, h15, h16, h17, h18⟩ := id I
  refine br_c (fun z => br_t z ⟨rfl, I⟩) (fun z => br_c (fun z1 => br_f z (br_t z1 ⟨rfl, I⟩)) (fun z1 => ?_))
  obtain ⟨b, hb, rfl⟩ := nI_of z
  have hb2 : b < 256 := by
    have z1' : ¬ nI 255 < nI b := z1
    rw [nI_ltI (by decide) hb] at z1'
    omega
  refine pk_lt n 140 (fun y => ?_) (fun y => ?_) h1
  · have e1 : (280 : Int32) + gx_byteCount u = nI (280 + n) := by rw [h1]; exact nI_add 280 n
    have e2 : (280 : Int32) + gy_count v = nI (280 + n) := by rw [h2]; exact nI_add 280 n
    refine ⟨pk_in (280 + n) 420 (by omega) e1, nm_r (show upd (gx_code u) ((280 : Int32) + gx_byteCount u).toNatClampNeg (nI b) = upd (gx_code u) (280 + n) (nI b) from by rw [pk_cl (280 + n) e1]) (nm_r (show gx_byteCount u + 1 = nI (n + 1) from by rw [h1, nI_1]) ?_)⟩
    refine br_f z (br_f z1 (pk_eq n 140 (fun q => absurd q (by omega)) (fun _ => nm_r (show gy_count v + 1 = nI (n + 1) from by rw [h2, nI_1]) ⟨pk_in (280 + n) 420 (by omega) e2, nm_r (show upd (gy_bytes v) ((280 : Int32) + gy_count v).toNatClampNeg (vp_nar .short (nI b).toInt16.toInt32) = upd (gy_bytes v) (280 + n) (nI b) from by rw [pk_cl (280 + n) e2, nr_s (by omega)]) ?_⟩) h2 rfl))
    have q1 : mx_c (upd (gx_code u) (280 + n) (nI b)) 2 (up_n cd n b) := by
      refine ⟨fun i hi => ?_, fun i => ?_, fun i hi => ?_⟩
      · by_cases q : i = n
        · subst q; rw [up_s]; exact pk_us
        · rw [up_d q, pk_un (by omega)]; exact h4.1 i hi
      · by_cases q : i = n
        · subst q; rw [up_s]; exact hb2
        · rw [up_d q]; exact h4.2.1 i
      · rw [up_d (by omega)]; exact h4.2.2 i hi
    have q2 : ∀ i, i < n + 1 → upd (gy_bytes v) (280 + n) (nI b) (280 + i) = nI (up_n cd n b i) := by
      intro i hi
      by_cases q : i = n
      · subst q; rw [up_s]; exact pk_us
      · rw [up_d q, pk_un (by omega)]; exact h5 i (by omega)
    exact ⟨rfl, n + 1, up_n cd n b, b0, b1, c0, n0, P0, c1, n1, P1, rfl, rfl, by omega, q1, q2, h6, h7, h8, h9, h10, h11, h12, h13, h14, h15, h16, fun q => ⟨sl_put (by omega) (h17 q).1 (fun j hj => pk_un (by omega)) (fun j hj => pk_un (by omega)), (h17 q).2⟩, fun q => ⟨sl_put (by omega) (h18 q).1 (fun j hj => pk_un (by omega)) (fun j hj => pk_un (by omega)), (h18 q).2⟩⟩
  · have : n = 140 := by omega
    exact br_f z (br_f z1 (pk_eq n 140 (fun _ => ⟨rfl, I⟩) (fun q => absurd this q) h2 rfl))
