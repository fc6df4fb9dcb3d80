theorem sx_i (x : Int64) : sx64 x.toInt32.toInt64 := by unfold sx64; simp
theorem cv_sx {c : Nat → Nat} : ∀ r p x i, (∃ j, j < r ∧ c (p + j) ≤ 127) → sx64 (cv c 1 r p x i) := by
  intro r
  induction r with
  | zero => intro p x i ⟨j, hj, _⟩; omega
  | succ r ih =>
    intro p x i ⟨j, hj, hj2⟩
    rw [cv]
    by_cases h4 : 127 < c p
    · rw [if_pos h4]
      cases j with
      | zero => rw [Nat.add_zero] at hj2; omega
      | succ j => exact ih _ _ _ ⟨j, by omega, by rw [show p + 1 + j = p + (j + 1) by omega]; exact hj2⟩
    · rw [if_neg h4, cv_fin, if_pos rfl]
      exact sx_i _
theorem md_lt {c : Nat → Nat} {n : Nat} (h : ∀ i, c i < 256) : ∀ r q M, (∀ j, M j < 256) → ∀ j, md_k c n r q M j < 256 := by
  intro r
  induction r with
  | zero => intro q M hM j; exact hM j
  | succ r ih =>
    intro q M hM j
    rw [md_k]
    refine ih _ _ (fun i => ?_) j
    unfold md_w
    split
    · exact h _
    · exact hM i
theorem tm_lt {c : Nat → Nat} {n p : Nat} (h : ∀ i, c i < 256) (j : Nat) : tl_mem c n p j < 256 := by
  unfold tl_mem
  split
  · exact md_lt h _ _ _ (fun _ => (show (0 : Nat) < 256 by omega)) j
  · exact (show (0 : Nat) < 256 by omega)
theorem lk_0 {b b' : Bool} {c c1 c2 : Nat → Nat} {n n1 n2 k : Nat} (h : lk_ok 0 b c n c1 n1 k) : lk_ok 0 b' c n c2 n2 k := by
  unfold lk_ok at h ⊢
  split
  · rename_i z; rw [if_pos z] at h; exact h
  · rename_i z
    rw [if_neg z] at h
    split
    · rename_i z2; rw [if_pos z2] at h; exact h
    · rename_i z2; rw [if_neg z2] at h; exact absurd h.1 (by decide)
theorem sk_of {s : Nat} {c : Nat → Nat} {n : Nat} {L : Int32} {BY TY TS IM FU SI WH TA LA GL GK GF EN EA H M : Nat → Int32} {GV : Nat → Int64} (R : ry_ok s c n L TY TS IM FU SI WH TA LA GL GK GF GV EN EA H M) (hb : ∀ i, i < n → BY (140 * s + i) = nI (c i)) :
    sk_ok s c n BY TY TS IM FU SI WH LA GL EN EA H ∧ (∀ g, g < c (m_pG c n) → GV (3 * s + g) = cv c (c (m_ga c n g)) 10 (m_ga c n g + 2) 0 0) ∧ ∀ j, j < 48 → M (48 * s + j) = sb_v (tl_mem c n (m_pG c n) j) := by
  obtain ⟨r1, r2, r3, i1, i2, i3, f1, f2, f3, t1, t2, t3, t4, t5, t6, t7, t8, t9⟩ := R
  refine ⟨⟨hb, r1, fun t ht => (r3 t ht).1, i1, f1, fun f hf => ?_, fun k hk => ?_, fun f hf hf2 => ?_, t1, t4, t5, t7⟩, fun g hg => ?_, t9⟩
  · by_cases z : f < m_I c n
    · have := (i3 f z).1
      rw [Nat.zero_add] at this
      rw [m_fa, if_pos z]; exact this
    · have := (f3 (f - m_I c n) (show f - m_I c n < m_F c n by omega)).1
      rw [show c (m_pI c n) + (f - m_I c n) = f from by show m_I c n + _ = f; omega] at this
      rw [m_fa, if_neg z]; exact this
  · have := (i3 k hk).2.2
    rw [Nat.zero_add] at this
    exact this
  · have := (f3 (f - m_I c n) (show f - m_I c n < m_F c n by omega)).2.2
    rw [show c (m_pI c n) + (f - m_I c n) = f from by show m_I c n + _ = f; omega] at this
    rw [m_fa, if_neg (by omega)]; exact this
  · have := (t3 g hg).2.2
    rw [Nat.zero_add] at this
    exact this
theorem i_vc_load {k : Nat} {u : SX} {v : SY} (I : i_Rel k u v) (hk : k + 9 ≤ 4608) (v1 : Int32) : wpX_load (fun r u' => wpY_load (fun r' v' => r' = r ∧ i_Rel (k + 9) u' v') v v1) u v1 := by
  rcases sl_case v1 with ⟨s, hs, rfl⟩ | ⟨z0, z1, z2⟩
  · obtain ⟨y_count, y_place, y_m, y_pos, y_wrong, y_constant, y_least, y_top, y_frames, y_invalid, y_sp, y_labels, y_active, y_fuel, y_outcome, y_trappedAt, y_result, y_used, y_waits, y_printed, y_bytes, y_there, y_types, y_typeSig, y_imports, y_functions, y_sig, y_what, y_typeAt, y_localsAt, y_globals, y_globalKind, y_globalFree, y_globalValue, y_entries, y_entriesAt, y_hasMemory, y_memory, y_nest, y_kinds, y_shape, y_gives, y_height, y_dead, y_stack, y_labelAt, y_labelHeight, y_labelGives, y_callModule, y_callFunction, y_callBack, y_callBase, y_callLabels, y_waiting, y_prints⟩ := v
    obtain ⟨n, cd, b0, b1, c0, n0, P0, c1, n1, P1, h1, h2, h3, h4, h5, h6, h7, h8, h9, h10, h11, h12, h13, h14, h15, h16, h17, h18⟩ := id I
    have C : cx_ok u cd n := ⟨h1, h3, h4⟩
    have H0x : b0 = true → mx_ok u 0 c0 ∧ xf_ok 0 c0 n0 (gx_facts u) ∧ mp_ok c0 n0 ∧ n0 ≤ 140 ∧ ∀ f, f < m_I c0 n0 + m_F c0 n0 → c0 (m_fa c0 n0 f) < c0 0 := by
      intro q
      obtain ⟨a, b, d, e⟩ := (h17 q).1
      exact ⟨b.1, b.2.1, (mp_of a.2.1).1, a.1, sm_ty a⟩
    have H0y : b0 = true → y_functions 0 = nI (m_I c0 n0 + m_F c0 n0) ∧ mp_ok c0 n0 ∧ (∀ f, f < m_I c0 n0 + m_F c0 n0 → c0 (m_fa c0 n0 f) < c0 0 ∧ y_sig f = nI (sg c0 (m_ty c0 n0 (c0 (m_fa c0 n0 f))))) := by
      intro q
      obtain ⟨a, b, d, e⟩ := (h17 q).1
      refine ⟨d.2.2.2.2.1, (mp_of a.2.1).1, fun f hf => ⟨sm_ty a f hf, ?_⟩⟩
      have := d.2.2.2.2.2.1 f hf
      rw [Nat.mul_zero, Nat.zero_add, sg_i, if_pos (sm_ty a f hf)] at this
      exact this
    have hfail : ∀ (PL : Int32) a fc kc F P A FH FR FD KX j1 j2 j3 jk j4 j5 j6 j7 NE KI SH GI HE DE TY TS IM FU SI WH TA LA GL GK GF GV EN EA H M, xr_fr 44 66 (gx_facts u) F → xr_fr 280 420 (gx_partner u) P → (∀ s', s' < 2 → yg_s s' y_types y_typeSig y_imports y_functions y_sig y_what y_typeAt y_localsAt y_globals y_globalKind y_globalFree y_globalValue y_entries y_entriesAt y_hasMemory y_memory TY TS IM FU SI WH TA LA GL GK GF GV EN EA H M) →
        i_Rel (k + 9) (xd u PL a fc kc (gx_code u) F P (gx_loaded u) (gx_globals u) (gx_memories u) A FH FR FD KX) (y_count, PL, j1, j2, j3, jk, j4, j5, j6, j7, y_sp, y_labels, y_active, y_fuel, y_outcome, y_trappedAt, y_result, y_used, y_waits, y_printed, y_bytes, y_there, TY, TS, IM, FU, SI, WH, TA, LA, GL, GK, GF, GV, EN, EA, H, M, NE, KI, SH, GI, HE, DE, y_stack, y_labelAt, y_labelHeight, y_labelGives, y_callModule, y_callFunction, y_callBack, y_callBase, y_callLabels, y_waiting, y_prints) := by
      intro PL a fc kc F P A FH FR FD KX j1 j2 j3 jk j4 j5 j6 j7 NE KI SH GI HE DE TY TS IM FU SI WH TA LA GL GK GF GV EN EA H M f1 f2 g
      exact ⟨n, cd, b0, b1, c0, n0, P0, c1, n1, P1, h1, h2, h3, h4, h5, rfl, h7, h8, h9, h10, h11, h12, h13, h14, h15, h16,
        fun q => ⟨sl_fr (h17 q).1 (g 0 (by omega)) (fun _ _ => rfl) (fun _ _ => rfl) (fun i hi => f1 _ (by omega)) (fun i hi => f2 _ (by omega)) (fun _ _ => rfl) (fun _ _ => rfl), (h17 q).2⟩,
        fun q => ⟨sl_fr (h18 q).1 (g 1 (by omega)) (fun _ _ => rfl) (fun _ _ => rfl) (fun i hi => f1 _ (by omega)) (fun i hi => f2 _ (by omega)) (fun _ _ => rfl) (fun _ _ => rfl), (h18 q).2⟩⟩
    refine x_load C hs b0 h13 H0x (fun hb a fc kc F P A FH FR FD KX f1 f2 => ?_) (fun hok w hw a fc kc F P A FH FR FD KX f1 f2 => ?_) (fun hok hno kk hk1 hk2 hk3 a fc kc F P A FH FR FD KX f1 f2 => ?_) (fun hok hno hall a fc kc F P A FH FR FD KX CO FA PA LO XG XM Pn f1 f2 hPa k1 k2 k3 k4 k5 Fxs g1 g2 m1 m2 l1 l2 l3 => ?_)
    · exact y_load h2 h3 h4.2.1 h5 hs b0 h14 H0y (fun _ j1 j2 j3 jk j4 j5 j6 j7 NE KI SH GI HE DE TY TS IM FU SI WH TA LA GL GK GF GV EN EA H M g => ⟨rfl, hfail _ _ _ _ _ _ _ _ _ _ _ j1 j2 j3 jk j4 j5 j6 j7 NE KI SH GI HE DE TY TS IM FU SI WH TA LA GL GK GF GV EN EA H M f1 f2 g⟩) (fun q => absurd (hb.symm.trans q) (by decide)) (fun q => absurd (hb.symm.trans q) (by decide)) (fun q => absurd (hb.symm.trans q) (by decide))
    · obtain ⟨s1, s2, s3, s4⟩ := fs_all h3 hok
      obtain ⟨w1, w2⟩ := s2 w hw
      refine y_load h2 h3 h4.2.1 h5 hs b0 h14 H0y (fun q => absurd (hok.symm.trans q) (by decide)) (fun _ l hl hL j1 j2 j3 jk j4 j5 j6 j7 NE KI SH GI HE DE TY TS IM FU SI WH TA LA GL GK GF GV EN EA H M g => ?_) (fun _ q => absurd w1 (q w)) (fun _ q => absurd w1 (q w))
      have : l = w := by
        obtain ⟨l', e, hl1, hd, hf⟩ := hL
        have el : l = l' := (nI_eq (by omega) (by omega)).mp e
        subst el
        have := hf w w1
        rcases hd with hd | hd
        · omega
        · have := w2 l hd; omega
      subst this
      exact ⟨rfl, hfail _ _ _ _ _ _ _ _ _ _ _ j1 j2 j3 jk j4 j5 j6 j7 NE KI SH GI HE DE TY TS IM FU SI WH TA LA GL GK GF GV EN EA H M f1 f2 g⟩
    · obtain ⟨s1, s2, s3, s4⟩ := fs_all h3 hok
      have hn := s1 hno
      refine y_load h2 h3 h4.2.1 h5 hs b0 h14 H0y (fun q => absurd (hok.symm.trans q) (by decide)) (fun _ l hl hL => ?_) (fun _ _ k' q1 q2 q3 j1 j2 j3 jk j4 j5 j6 j7 NE KI SH GI HE DE TY TS IM FU SI WH TA LA GL GK GF GV EN EA H M g => ?_) (fun _ _ q => absurd (q kk hk1) hk2)
      · obtain ⟨l', e, hl1, hd, hf⟩ := hL
        have el : l = l' := (nI_eq (by omega) (by omega)).mp e
        subst el
        rcases hd with hd | hd
        · omega
        · exact absurd hd (hn l)
      · have : k' = kk := by
          rcases Nat.lt_trichotomy k' kk with q | q | q
          · exact absurd (hk3 k' q) q2
          · exact q
          · exact absurd (q3 kk q) hk2
        subst this
        exact ⟨rfl, hfail _ _ _ _ _ _ _ _ _ _ _ j1 j2 j3 jk j4 j5 j6 j7 NE KI SH GI HE DE TY TS IM FU SI WH TA LA GL GK GF GV EN EA H M f1 f2 g⟩
    · obtain ⟨s1, s2, s3, s4⟩ := fs_all h3 hok
      have hn := s1 hno
      obtain ⟨mp, _⟩ := mp_of hok
      refine y_load h2 h3 h4.2.1 h5 hs b0 h14 H0y (fun q => absurd (hok.symm.trans q) (by decide)) (fun _ l hl hL => ?_) (fun _ _ k' q1 q2 q3 => absurd (hall k' q1) q2) (fun _ _ _ j1 j2 j3 jk j4 j5 j6 j7 NE KI SH GI HE DE TY TS IM FU SI WH TA LA GL GK GF GV EN EA H M BY TH g b1' b2' R t1 t2 t3 => ⟨rfl, ?_⟩)
      · obtain ⟨l', e, hl1, hd, hf⟩ := hL
        have el : l = l' := (nI_eq (by omega) (by omega)).mp e
        subst el
        rcases hd with hd | hd
        · omega
        · exact absurd hd (hn l)
      · obtain ⟨q1, q2, q3⟩ := sk_of R b2'
        have hnew : sl_ok s cd n (m_P cd n Pn) CO FA PA XG XM BY TY TS IM FU SI WH LA GL GV EN EA H M := by
          refine ⟨⟨h3, hok, hno, fun f hf hf2 => m_ib h3 hok Pn f hf hf2⟩, ⟨⟨fun i hi => (k2 i hi).trans (h4.1 i hi), h4.2⟩, Fxs, fun i hi => (k4 i hi).trans (hPa i hi)⟩, q1, fun g hg => ⟨(g2 g hg).trans (q2 g hg).symm, fun y => ?_⟩, fun j hj => ⟨_, tm_lt h4.2.1 j, m2 j hj, q3 j hj⟩⟩
          rw [g2 g hg, y]
          have := (mp.2.2.2.2.2.2.2.1 g hg).2.2.2.2
          obtain ⟨j, hj, hj2⟩ := rd_C_ex _ _ this
          exact cv_sx _ _ _ _ ⟨j, by split at hj <;> omega, hj2⟩
        have hd : mx_c CO 2 cd := ⟨fun i hi => by rw [k1 _ (by omega)]; exact h4.1 i hi, h4.2⟩
        have hdy : ∀ i, i < n → BY (280 + i) = nI (cd i) := fun i hi => by rw [b1' _ (by omega)]; exact h5 i hi
        have hs2 : s = 0 ∨ s = 1 := by omega
        rcases hs2 with rfl | rfl
        · exact ⟨n, cd, true, false, cd, n, m_P cd n Pn, c1, n1, P1, h1, h2, h3, hd, hdy, rfl, h7, h8, h9, h10, h11, h12, l1, t1, l2 rfl, t2 rfl, fun _ => ⟨hnew, fun k hk => lk_0 (hall k hk)⟩, fun q => ff_t q⟩
        · refine ⟨n, cd, b0, true, c0, n0, P0, cd, n, m_P cd n Pn, h1, h2, h3, hd, hdy, rfl, h7, h8, h9, h10, h11, h12, (l3 rfl).trans h13, (t3 rfl).trans h14, l1, t1, fun q => ⟨sl_fr (h17 q).1 (g 0 (by omega) (by omega)) (fun i hi => b1' _ ?_) (fun i hi => k1 _ (by omega)) (fun i hi => (k5 _ (by omega)).trans (f1 _ (by omega))) (fun i hi => (k3 _ (by omega)).trans (f2 _ (by omega))) (fun i hi => g1 _ (by omega)) (fun i hi => m1 _ (by omega)), (h17 q).2⟩, fun _ => ⟨hnew, hall⟩⟩
          have := (h17 q).1.1.1
          omega
  · unfold wpX_load
    refine br_f z0 (br_f z1 (br_t rfl ?_))
    rcases z2 with z2 | ⟨z2, z3⟩
    · exact br_t z2 ⟨rfl, I⟩
    · refine br_f z2 (br_f (fun q => ?_) ⟨rfl, I⟩)
      exact absurd (Int32.lt_of_lt_of_le z3 q) (by decide)
