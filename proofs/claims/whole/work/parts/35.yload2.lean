def yg_s (s : Nat) (TY TS IM FU SI WH TA LA GL GK GF : Nat → Int32) (GV : Nat → Int64) (EN EA H M : Nat → Int32) (TY' TS' IM' FU' SI' WH' TA' LA' GL' GK' GF' : Nat → Int32) (GV' : Nat → Int64) (EN' EA' H' M' : Nat → Int32) : Prop :=
  TY' s = TY s ∧
  (∀ j, 4 * s ≤ j → j < 4 * s + 4 → TS' j = TS j) ∧
  IM' s = IM s ∧
  FU' s = FU s ∧
  (∀ j, 7 * s ≤ j → j < 7 * s + 7 → SI' j = SI j) ∧
  (∀ j, 3 * s ≤ j → j < 3 * s + 3 → WH' j = WH j) ∧
  (∀ j, 7 * s ≤ j → j < 7 * s + 7 → TA' j = TA j) ∧
  (∀ j, 7 * s ≤ j → j < 7 * s + 7 → LA' j = LA j) ∧
  GL' s = GL s ∧
  (∀ j, 3 * s ≤ j → j < 3 * s + 3 → GK' j = GK j) ∧
  (∀ j, 3 * s ≤ j → j < 3 * s + 3 → GF' j = GF j) ∧
  (∀ j, 3 * s ≤ j → j < 3 * s + 3 → GV' j = GV j) ∧
  EN' s = EN s ∧
  EA' s = EA s ∧
  H' s = H s ∧
  (∀ j, 48 * s ≤ j → j < 48 * s + 48 → M' j = M j)
theorem yg_r {s : Nat} {TY TS IM FU SI WH TA LA GL GK GF : Nat → Int32} {GV : Nat → Int64} {EN EA H M : Nat → Int32} : yg_s s TY TS IM FU SI WH TA LA GL GK GF GV EN EA H M TY TS IM FU SI WH TA LA GL GK GF GV EN EA H M := ⟨rfl, fun _ _ _ => rfl, rfl, rfl, fun _ _ _ => rfl, fun _ _ _ => rfl, fun _ _ _ => rfl, fun _ _ _ => rfl, rfl, fun _ _ _ => rfl, fun _ _ _ => rfl, fun _ _ _ => rfl, rfl, rfl, rfl, fun _ _ _ => rfl⟩
theorem yg_t {s : Nat} {TY TS IM FU SI WH TA LA GL GK GF : Nat → Int32} {GV : Nat → Int64} {EN EA H M : Nat → Int32} {TY' TS' IM' FU' SI' WH' TA' LA' GL' GK' GF' : Nat → Int32} {GV' : Nat → Int64} {EN' EA' H' M' : Nat → Int32} {TY2 TS2 IM2 FU2 SI2 WH2 TA2 LA2 GL2 GK2 GF2 : Nat → Int32} {GV2 : Nat → Int64} {EN2 EA2 H2 M2 : Nat → Int32} (h : yg_s s TY TS IM FU SI WH TA LA GL GK GF GV EN EA H M TY' TS' IM' FU' SI' WH' TA' LA' GL' GK' GF' GV' EN' EA' H' M') (h2 : yg_s s TY' TS' IM' FU' SI' WH' TA' LA' GL' GK' GF' GV' EN' EA' H' M' TY2 TS2 IM2 FU2 SI2 WH2 TA2 LA2 GL2 GK2 GF2 GV2 EN2 EA2 H2 M2) : yg_s s TY TS IM FU SI WH TA LA GL GK GF GV EN EA H M TY2 TS2 IM2 FU2 SI2 WH2 TA2 LA2 GL2 GK2 GF2 GV2 EN2 EA2 H2 M2 := by
  obtain ⟨e0, e1, e2, e3, e4, e5, e6, e7, e8, e9, e10, e11, e12, e13, e14, e15⟩ := h
  obtain ⟨g0, g1, g2, g3, g4, g5, g6, g7, g8, g9, g10, g11, g12, g13, g14, g15⟩ := h2
  exact ⟨g0.trans e0, fun j x y => (g1 j x y).trans (e1 j x y), g2.trans e2, g3.trans e3, fun j x y => (g4 j x y).trans (e4 j x y), fun j x y => (g5 j x y).trans (e5 j x y), fun j x y => (g6 j x y).trans (e6 j x y), fun j x y => (g7 j x y).trans (e7 j x y), g8.trans e8, fun j x y => (g9 j x y).trans (e9 j x y), fun j x y => (g10 j x y).trans (e10 j x y), fun j x y => (g11 j x y).trans (e11 j x y), g12.trans e12, g13.trans e13, g14.trans e14, fun j x y => (g15 j x y).trans (e15 j x y)⟩
theorem yg_of {s m : Nat} {TY TS IM FU SI WH TA LA GL GK GF : Nat → Int32} {GV : Nat → Int64} {EN EA H M : Nat → Int32} {TY' TS' IM' FU' SI' WH' TA' LA' GL' GK' GF' : Nat → Int32} {GV' : Nat → Int64} {EN' EA' H' M' : Nat → Int32} (h : yr_fr m TY TS IM FU SI WH TA LA GL GK GF GV EN EA H M TY' TS' IM' FU' SI' WH' TA' LA' GL' GK' GF' GV' EN' EA' H' M') (hs : s ≠ m) : yg_s s TY TS IM FU SI WH TA LA GL GK GF GV EN EA H M TY' TS' IM' FU' SI' WH' TA' LA' GL' GK' GF' GV' EN' EA' H' M' := by
  obtain ⟨a1, a2, ⟨b1, b2, b3, b4, b5, b6⟩, ⟨c1, c2, c3, c4, c5, c6, c7, c8⟩⟩ := h
  have hd : ∀ w j, w * s ≤ j → j < w * s + w → ¬ (w * m ≤ j ∧ j < w * m + w) := by
    intro w j h1 h2 ⟨h3, h4⟩
    rcases Nat.lt_or_ge s m with q | q
    · have : w * s + w ≤ w * m := by rw [← Nat.mul_succ]; exact Nat.mul_le_mul_left w q
      omega
    · have : w * m + w ≤ w * s := by rw [← Nat.mul_succ]; exact Nat.mul_le_mul_left w (by omega)
      omega
  exact ⟨a1 s hs, fun j x y => a2 j (hd 4 j x y), b1 s hs, b2 s hs, fun j x y => b3 j (hd 7 j x y), fun j x y => b4 j (hd 3 j x y), fun j x y => b5 j (hd 7 j x y), fun j x y => b6 j (hd 7 j x y), c1 s hs, fun j x y => c2 j (hd 3 j x y), fun j x y => c3 j (hd 3 j x y), fun j x y => c4 j (hd 3 j x y), c5 s hs, c6 s hs, c7 s hs, fun j x y => c8 j (hd 48 j x y)⟩
section
variable {y_count y_place y_m y_pos y_wrong y_least y_top y_frames y_invalid y_sp y_labels y_active y_fuel y_outcome y_trappedAt y_used y_waits y_printed : Int32} {y_constant y_result : Int64} {y_bytes y_there y_types y_typeSig y_imports y_functions y_sig y_what y_typeAt y_localsAt y_globals y_globalKind y_globalFree y_entries y_entriesAt y_hasMemory y_memory y_nest y_kinds y_shape y_gives y_height y_dead y_labelAt y_labelHeight y_labelGives y_callModule y_callFunction y_callBack y_callBase y_callLabels y_waiting y_prints : Nat → Int32} {y_globalValue y_stack : Nat → Int64}
variable {c c0 : Nat → Nat} {n n0 s : Nat}
theorem y_load {post : Int32 → SY → Prop} (hn : y_count = nI n) (h140 : n ≤ 140) (h256 : ∀ i, c i < 256) (hD : ∀ i, i < n → y_bytes (280 + i) = nI (c i)) (hs : s < 2) (l0 : Bool) (hl : y_there 0 = bb_i l0)
    (H0 : l0 = true → y_functions 0 = nI (m_I c0 n0 + m_F c0 n0) ∧ mp_ok c0 n0 ∧ (∀ f, f < m_I c0 n0 + m_F c0 n0 → c0 (m_fa c0 n0 f) < c0 0 ∧ y_sig f = nI (sg c0 (m_ty c0 n0 (c0 (m_fa c0 n0 f))))))
    (h1 : (rd_V c n).1 = false → ∀ j1 j2 j3 jk j4 j5 j6 j7 NE KI SH GI HE DE TY TS IM FU SI WH TA LA GL GK GF GV EN EA H M, (∀ s', s' < 2 → yg_s s' y_types y_typeSig y_imports y_functions y_sig y_what y_typeAt y_localsAt y_globals y_globalKind y_globalFree y_globalValue y_entries y_entriesAt y_hasMemory y_memory TY TS IM FU SI WH TA LA GL GK GF GV EN EA H M) → post 1 (y_count, nI (rd_V c n).2, j1, j2, j3, jk, j4, j5, j6, j7, y_sp, y_labels, y_active, y_fuel, y_outcome, y_trappedAt, y_result, y_used, y_waits, y_printed, y_bytes, y_there, TY, TS, IM, FU, SI, WH, TA, LA, GL, GK, GF, GV, EN, EA, H, M, NE, KI, SH, GI, HE, DE, y_stack, y_labelAt, y_labelHeight, y_labelGives, y_callModule, y_callFunction, y_callBack, y_callBase, y_callLabels, y_waiting, y_prints))
    (h2 : (rd_V c n).1 = true → ∀ l, l < 1000 → lm (nI l) (fun x => m_Sr c n x ∨ m_Sb c n (m_I c n) (m_I c n + m_F c n) x) → ∀ j1 j2 j3 jk j4 j5 j6 j7 NE KI SH GI HE DE TY TS IM FU SI WH TA LA GL GK GF GV EN EA H M, (∀ s', s' < 2 → yg_s s' y_types y_typeSig y_imports y_functions y_sig y_what y_typeAt y_localsAt y_globals y_globalKind y_globalFree y_globalValue y_entries y_entriesAt y_hasMemory y_memory TY TS IM FU SI WH TA LA GL GK GF GV EN EA H M) → post 2 (y_count, nI l, j1, j2, j3, jk, j4, j5, j6, j7, y_sp, y_labels, y_active, y_fuel, y_outcome, y_trappedAt, y_result, y_used, y_waits, y_printed, y_bytes, y_there, TY, TS, IM, FU, SI, WH, TA, LA, GL, GK, GF, GV, EN, EA, H, M, NE, KI, SH, GI, HE, DE, y_stack, y_labelAt, y_labelHeight, y_labelGives, y_callModule, y_callFunction, y_callBack, y_callBase, y_callLabels, y_waiting, y_prints))
    (h3 : (rd_V c n).1 = true → (∀ x, ¬ (m_Sr c n x ∨ m_Sb c n (m_I c n) (m_I c n + m_F c n) x)) → ∀ k, k < m_I c n → ¬ lk_ok s l0 c n c0 n0 k → (∀ j, j < k → lk_ok s l0 c n c0 n0 j) → ∀ j1 j2 j3 jk j4 j5 j6 j7 NE KI SH GI HE DE TY TS IM FU SI WH TA LA GL GK GF GV EN EA H M, (∀ s', s' < 2 → yg_s s' y_types y_typeSig y_imports y_functions y_sig y_what y_typeAt y_localsAt y_globals y_globalKind y_globalFree y_globalValue y_entries y_entriesAt y_hasMemory y_memory TY TS IM FU SI WH TA LA GL GK GF GV EN EA H M) → post 3 (y_count, nI (m_im c n k + 1), j1, j2, j3, jk, j4, j5, j6, j7, y_sp, y_labels, y_active, y_fuel, y_outcome, y_trappedAt, y_result, y_used, y_waits, y_printed, y_bytes, y_there, TY, TS, IM, FU, SI, WH, TA, LA, GL, GK, GF, GV, EN, EA, H, M, NE, KI, SH, GI, HE, DE, y_stack, y_labelAt, y_labelHeight, y_labelGives, y_callModule, y_callFunction, y_callBack, y_callBase, y_callLabels, y_waiting, y_prints))
    (h4 : (rd_V c n).1 = true → (∀ x, ¬ (m_Sr c n x ∨ m_Sb c n (m_I c n) (m_I c n + m_F c n) x)) → (∀ k, k < m_I c n → lk_ok s l0 c n c0 n0 k) → ∀ j1 j2 j3 jk j4 j5 j6 j7 NE KI SH GI HE DE TY TS IM FU SI WH TA LA GL GK GF GV EN EA H M BY TH, (∀ s', s' < 2 → s' ≠ s → yg_s s' y_types y_typeSig y_imports y_functions y_sig y_what y_typeAt y_localsAt y_globals y_globalKind y_globalFree y_globalValue y_entries y_entriesAt y_hasMemory y_memory TY TS IM FU SI WH TA LA GL GK GF GV EN EA H M) → fr_i (140 * s) (140 * s + 140) y_bytes BY → (∀ i, i < n → BY (140 * s + i) = nI (c i)) →
      ry_ok s c n j4 TY TS IM FU SI WH TA LA GL GK GF GV EN EA H M → TH s = bb_i true → (s = 0 → TH 1 = bb_i false) → (s = 1 → TH 0 = y_there 0) → post 0 (y_count, -1, j1, j2, j3, jk, j4, j5, j6, j7, y_sp, y_labels, y_active, y_fuel, y_outcome, y_trappedAt, y_result, y_used, y_waits, y_printed, BY, TH, TY, TS, IM, FU, SI, WH, TA, LA, GL, GK, GF, GV, EN, EA, H, M, NE, KI, SH, GI, HE, DE, y_stack, y_labelAt, y_labelHeight, y_labelGives, y_callModule, y_callFunction, y_callBack, y_callBase, y_callLabels, y_waiting, y_prints)) :
    wpY_load post (y_count, y_place, y_m, y_pos, y_wrong, y_constant, y_least, y_top, y_frames, y_invalid, y_sp, y_labels, y_active, y_fuel, y_outcome, y_trappedAt, y_result, y_used, y_waits, y_printed, y_bytes, y_there, y_types, y_typeSig, y_imports, y_functions, y_sig, y_what, y_typeAt, y_localsAt, y_globals, y_globalKind, y_globalFree, y_globalValue, y_entries, y_entriesAt, y_hasMemory, y_memory, y_nest, y_kinds, y_shape, y_gives, y_height, y_dead, y_stack, y_labelAt, y_labelHeight, y_labelGives, y_callModule, y_callFunction, y_callBack, y_callBase, y_callLabels, y_waiting, y_prints) (nI s) := by
  refine pk_lt s 0 (fun z => absurd z (by omega)) (fun _ => pk_le s 1 (fun _ => ?_) (fun z => absurd z (by omega)))
  have C2 : cy_ok y_count (nI 2) y_bytes 2 c n := ⟨hn, h140, rfl, by omega, hD, h256⟩
  refine y_read (m := 2) (c := c) (n := n) C2 (fun k L TY TS IM FU SI TA LA WH NE GL GK GF GV EN EA H M f1 f2 f3 f4 f5 => ?_)
  have hfr : yr_fr 2 y_types y_typeSig y_imports y_functions y_sig y_what y_typeAt y_localsAt y_globals y_globalKind y_globalFree y_globalValue y_entries y_entriesAt y_hasMemory y_memory TY TS IM FU SI WH TA LA GL GK GF GV EN EA H M := ⟨f1, f2, f3, f4⟩
  have hyg : ∀ s', s' < 2 → yg_s s' y_types y_typeSig y_imports y_functions y_sig y_what y_typeAt y_localsAt y_globals y_globalKind y_globalFree y_globalValue y_entries y_entriesAt y_hasMemory y_memory TY TS IM FU SI WH TA LA GL GK GF GV EN EA H M := fun s' h' => yg_of hfr (by omega)
  cases hok : (rd_V c n).1 with
  | false =>
    refine br_f bw_f ?_
    have := h1 hok (nI 2) (nI (rd_V c n).2) (bb_w (rd_V c n).1) k L y_top y_frames y_invalid NE y_kinds y_shape y_gives y_height y_dead TY TS IM FU SI WH TA LA GL GK GF GV EN EA H M hyg
    rw [hok] at this
    exact this
  | true =>
    have R := f5 hok
    obtain ⟨mp, e0, e1, e2, e3, e4⟩ := mp_of hok
    obtain ⟨W, hIM, hK, hL⟩ := yw_of hok R
    have hib := fun f hf hf2 => m_ib h140 hok (fun _ => 0) f hf hf2
    refine br_t rfl (nm_r hIM ⟨m_F c n + 1, ?_⟩)
    refine y_48 (P := m_P c n (fun _ => 0)) C2 mp W hib (m_Sr c n) (nI s) (m_F c n) (m_I c n) _ L _ _ _ _ _ _ _ _ _ _ rfl (Nat.le_refl _) (by omega) (lm_ext hL (fun x => ⟨Or.inl, fun q => q.elim id (fun ⟨f, a, b, _⟩ => absurd a (by omega))⟩)) (fun PL a k tp fr iv KI SH GI HE DE hPL => ?_)
    obtain ⟨l, rfl, hl1, hd, hf⟩ := id hPL
    refine pk_le 1000 l (fun z => ⟨m_I c n + 1, ?_⟩) (fun z => h2 hok l z hPL _ _ _ _ _ _ _ _ _ _ _ _ _ _ TY TS IM FU SI WH TA LA GL GK GF GV EN EA H M hyg)
    have hno : ∀ x, ¬ (m_Sr c n x ∨ m_Sb c n (m_I c n) (m_I c n + m_F c n) x) := by
      intro x hx
      have := hf x hx
      have hx2 : x < n + 2 := by
        rcases hx with hx | ⟨f, a1, a2, a3, a4⟩
        · rcases hx with ((⟨g, q1, q2, q3⟩ | ⟨g, q1, q2, q3⟩) | ⟨i, q1, q2, q3⟩) | ⟨q0, g, q1, q2, q3⟩
          · have := ((rd_G_it (rd_G_J c n) g).1 (true, m_pI c n + 1) e4).2; omega
          · have := ((rd_G_it (rd_G_F c n) g).1 (true, m_pF c n + 1) e2).2; omega
          · have hE := mp.2.2.2.2.2.2.2.2.2.2
            unfold tl_m at hE
            omega
          · have hE := mp.2.2.2.2.2.2.2.2.2.2
            have := ((rd_G_it (rd_G_D c n) g).1 (true, tl_m c n (m_pG c n) + 2))
            by_cases hq : tl_m c n (m_pG c n) + 2 ≤ n
            · have := (this hq).2; omega
            · cases g with
              | zero => have q2' : x = tl_m c n (m_pG c n) + 2 := q2; omega
              | succ g =>
                exfalso
                have hbig : ∀ r p, n < p → (rd_it (rd_D c n) r (false, p)).2 = p := by
                  intro r p hp
                  rw [(rd_G_it (rd_G_D c n) r).2 (false, p) rfl]
                have ef : rd_D c n (true, tl_m c n (m_pG c n) + 2) = (false, tl_m c n (m_pG c n) + 2) := by
                  unfold rd_D
                  have e : rd_tk c n 0 255 (true, tl_m c n (m_pG c n) + 2) = (false, tl_m c n (m_pG c n) + 2) := rd_tk_n (by omega)
                  rw [e, rd_tk_f rfl, rd_tv_f rfl]; rfl
                have hx3 : x = tl_m c n (m_pG c n) + 2 := by rw [q2, rd_it, ef]; exact hbig _ _ (by omega)
                omega
        · have hfa := mp.2.2.2.2.2.1 f a1 a2
          have ef : m_fa c n f = m_fn c n (f - m_I c n) := if_neg (by omega)
          have a := rd_it_ok (rd_G_F c n) _ _ e1 (f - m_I c n + 1) (by omega)
          rw [rd_it_s] at a
          have b := ((rd_G_it (rd_G_F c n) (f - m_I c n)).1 (true, m_pF c n + 1) e2).2
          obtain ⟨v1, v2, v3, v4⟩ := rd_F_body h140 b a
          have hbo : m_bo c n f = (rd_it (rd_F c n) (f - m_I c n) (true, m_pF c n + 1)).2 + 2 + c ((rd_it (rd_F c n) (f - m_I c n) (true, m_pF c n + 1)).2 + 1) := by rw [m_bo, ef]; rfl
          rw [hbo] at a4
          have := vgo_in 141 _ [(0, 0, 0)] _ _ v2 (by simp) v1 (by simp [v_0]) (by simp [v_0]) a4
          have := ((rd_G_F c n).1 _ b).2
          omega
      omega
    have hv : ∀ k, k < m_I c n → c (m_im c n k) < c 0 := by
      intro k hk
      refine Classical.byContradiction (fun q => hno _ (Or.inl (Or.inl (Or.inl (Or.inl ⟨k, hk, rfl, ?_⟩)))))
      show c 0 ≤ c (m_im c n k)
      omega
    refine y_115 (c0 := c0) (n0 := n0) hIM mp hs h140 l0 hl ?_ hv h256 hK (fun k hk z2 z3 => h3 hok hno k hk z2 z3 _ _ _ _ _ _ _ _ _ _ _ _ _ _ TY TS IM FU SI WH TA LA GL GK GF GV EN EA H M hyg) (fun hall => ⟨n + 1, ?_⟩) (m_I c n) 0 _ _ (by omega) (by omega) (fun j hj => absurd hj (by omega))
    · intro q
      obtain ⟨g1, g2, g3⟩ := H0 q
      have hI0 := g2.2.2.1
      have hF0 := g2.2.2.2.1
      obtain ⟨y1, y2, y3, y4, y5, _⟩ := hyg 0 (by omega)
      exact ⟨y4.trans g1, g2, fun f hf => ⟨(g3 f hf).1, (y5 f (by omega) (by omega)).trans (g3 f hf).2⟩⟩
    · refine y_164 (c := c) (n := n) hs hn h140 h256 hD (fun BY k' L' TY' TS' IM' FU' SI' TA' LA' WH' NE' GL' GK' GF' GV' EN' EA' H' M' TH b1 b2 b3 b4 b5 b6 b7 => ?_) n 0 _ y_bytes (by omega) (by omega) (fun _ _ => rfl) (fun j hj => absurd hj (by omega))
      exact h4 hok hno hall (nI s) _ _ k' L' _ _ _ NE' _ _ _ _ _ TY' TS' IM' FU' SI' WH' TA' LA' GL' GK' GF' GV' EN' EA' H' M' BY TH (fun s' h' hne => yg_t (hyg s' h') (yg_of b3 hne)) b1 b2 (b4 hok) b5 b6 b7
end
