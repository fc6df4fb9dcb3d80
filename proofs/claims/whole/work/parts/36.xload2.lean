abbrev xd (u : SX) (z0 : Int32) (z1 : Int32) (z2 : Int32) (z3 : Int32) (z4 : Nat → Int32) (z5 : Nat → Int32) (z6 : Nat → Int32) (z7 : Nat → Int32) (z8 : Nat → Int64) (z9 : Nat → Int32) (z10 : Nat → Int32) (z11 : Nat → Int32) (z12 : Nat → Int32) (z13 : Nat → Int32) (z14 : Nat → Int32) : SX := (gx_byteCount u, z0, z1, z2, z3, gx_valueCount u, gx_activeCount u, gx_goesOn u, gx_outcome u, gx_resultValue u, gx_trapPlace u, gx_fuelUsed u, gx_firstWaiting u, gx_waitingCount u, gx_printCount u, z4, z5, z6, z7, z8, z9, z10, z11, z12, z13, z14, gx_values u, gx_variables u, gx_activeSlot u, gx_activeGives u, gx_activeFrame u, gx_activeResume u, gx_waiting u, gx_prints u)
def vd_a (c : Nat → Nat) (n : Nat) : Option Nat := if c (tl_m c n (m_pG c n)) = 1 then vd_1 c (c (tl_m c n (m_pG c n) + 1)) (tl_m c n (m_pG c n) + 2) else none
def v_all (c : Nat → Nat) (n : Nat) : Option Nat := or_o (vi_1 c n (m_I c n) 0) (or_o (vf_1 c n (m_F c n) (m_I c n)) (or_o (ve_1 c (m_I c n + m_F c n) (c (tl_q c n (m_pG c n))) (tl_q c n (m_pG c n) + 1)) (vd_a c n)))
theorem m_data {c : Nat → Nat} {n : Nat} (h : (rd_V c n).1 = true) (h1 : c (tl_m c n (m_pG c n)) = 1) : c (tl_m c n (m_pG c n) + 1) ≤ 2 ∧ (rd_it (rd_D c n) (c (tl_m c n (m_pG c n) + 1)) (true, tl_m c n (m_pG c n) + 2)).1 = true := by
  obtain ⟨o1, o2, o3, o4⟩ := rd_V_ok h
  have eV : rd_V c n = rd_X c n (rd_it (rd_T c n) (c 0) (true, 1)) := by rw [rd_V, o1, o2]
  have e1 : rd_it (rd_T c n) (c 0) (true, 1) = (true, m_pI c n) := tt_eq o4
  rw [e1] at eV
  obtain ⟨q1, q2, q3, q4, q5⟩ := rd_X_ok (q := (true, m_pI c n)) (by rw [← eV]; exact h)
  dsimp only at q2 q3 q4
  rw [q2, q3] at q5
  have e2 : rd_it (rd_J c n) (m_I c n) (true, m_pI c n + 1) = (true, m_pF c n) := tt_eq q5
  have eV2 : rd_V c n = rd_Y c n (true, m_pF c n) := by rw [eV, rd_X, q2, q3, ← e2]; rfl
  obtain ⟨r1, r2, r3, r4, r5⟩ := rd_Y_ok (q := (true, m_pF c n)) (by rw [← eV2]; exact h)
  dsimp only at r2 r3 r4
  rw [r2, r3] at r5
  have e3 : rd_it (rd_F c n) (m_F c n) (true, m_pF c n + 1) = (true, m_pG c n) := tt_eq r5
  have eV3 : rd_V c n = rd_Z c n (true, m_pG c n) := by rw [eV2, rd_Y, r2, r3, ← e3]; rfl
  obtain ⟨t1, t2, t3, t4⟩ := rd_Z_ok (q := (true, m_pG c n)) (by rw [← eV3]; exact h)
  dsimp only at t2 t3 t4
  have eV4 : rd_V c n = rd_E c n (rd_it (rd_g c n) (c (m_pG c n)) (true, m_pG c n + 1)) := by rw [eV3, rd_Z, t2, t3]
  have hE := h
  rw [eV4] at hE
  obtain ⟨w1, w2, w3⟩ := rd_e_ok hE
  have w4 : (rd_n c n 0 255 (rd_tv c n 0 5 (rd_it (rd_g c n) (c (m_pG c n)) (true, m_pG c n + 1))) (rd_tk c n 0 5 (rd_it (rd_g c n) (c (m_pG c n)) (true, m_pG c n + 1)))).1 = true := by
    cases e : (rd_n c n 0 255 (rd_tv c n 0 5 (rd_it (rd_g c n) (c (m_pG c n)) (true, m_pG c n + 1))) (rd_tk c n 0 5 (rd_it (rd_g c n) (c (m_pG c n)) (true, m_pG c n + 1)))).1 with
    | true => rfl
    | false => rw [rd_M_f e, e] at w1; exact ff_t w1
  obtain ⟨x1, x2, x3, x4⟩ := rd_n_ok _ _ w4
  obtain ⟨y1, y2, y3, y4, y5, y6⟩ := rd_tk_ok x1
  have eM : rd_n c n 0 255 (rd_tv c n 0 5 (rd_it (rd_g c n) (c (m_pG c n)) (true, m_pG c n + 1))) (rd_tk c n 0 5 (rd_it (rd_g c n) (c (m_pG c n)) (true, m_pG c n + 1))) = (true, tl_m c n (m_pG c n)) := by
    rw [x2, y2, y3]; rfl
  rw [eM] at w1
  have hm : (rd_tk c n 0 1 (true, tl_m c n (m_pG c n))).1 = true := by
    cases e : (rd_tk c n 0 1 (true, tl_m c n (m_pG c n))).1 with
    | true => rfl
    | false =>
      have : rd_tv c n 0 1 (true, tl_m c n (m_pG c n)) = 0 := by
        unfold rd_tv; split
        · rename_i hc; rw [rd_tk, if_pos hc] at e; exact ff_t e.symm
        · rfl
      rw [rd_M, this, if_neg (by decide), e] at w1
      exact ff_t w1
  obtain ⟨z1, z2, z3, z4, z5, z6⟩ := rd_tk_ok hm
  dsimp only at z2 z3
  rw [rd_M, z3, if_pos h1, z2] at w1
  obtain ⟨v1, v2, v3, v4, v5, v6⟩ := rd_tk_ok (rd_G_tr (rd_G_it (rd_G_D c n) _) w1)
  dsimp only at v2 v3 v5
  rw [v2, v3] at w1
  exact ⟨v5, w1⟩
theorem fs_all {c : Nat → Nat} {n : Nat} (h140 : n ≤ 140) (h : (rd_V c n).1 = true) : fs_ok (v_all c n) (fun x => m_Sr c n x ∨ m_Sb c n (m_I c n) (m_I c n + m_F c n) x) 0 1000 := by
  obtain ⟨mp, e0, e1, e2, e3, e4⟩ := mp_of h
  have hMn : tl_m c n (m_pG c n) < n := mp.2.2.2.2.2.2.2.2.2.2
  have hG1 : m_pG c n ≤ n := by
    have := ((rd_G_it (rd_G_F c n) (m_F c n)).1 (true, m_pF c n + 1) e2).2; exact this
  have hq : m_pG c n + 1 ≤ tl_q c n (m_pG c n) := by
    by_cases z : m_pG c n + 1 ≤ n
    · exact ((rd_G_it (rd_G_g c n) (c (m_pG c n))).1 (true, m_pG c n + 1) z).1
    · unfold tl_m at hMn
      have mono : ∀ r p, p ≤ (rd_it (rd_g c n) r (true, p)).2 ∨ True := fun _ _ => Or.inr trivial
      exfalso
      have : (rd_it (rd_g c n) (c (m_pG c n)) (true, m_pG c n + 1)).2 = tl_q c n (m_pG c n) := rfl
      have hlt : tl_q c n (m_pG c n) + 1 < n := by omega
      have hG0 := mp.2.2.2.2.2.2.1
      have hnot : ∀ r q, n < q → (rd_it (rd_g c n) r (false, q)).2 = q := by
        intro r q hq
        rw [(rd_G_it (rd_G_g c n) r).2 (false, q) rfl]
      have hall : ∀ r q, n ≤ q → (rd_it (rd_g c n) r (true, q)).2 = q := by
        intro r
        induction r with
        | zero => intro q _; rfl
        | succ r ih =>
          intro q hq
          rw [rd_it]
          have e : rd_g c n (true, q) = (false, q) := by
            unfold rd_g
            have e5 : rd_tk c n 1 2 (true, q) = (false, q) := rd_tk_n (by omega)
            rw [e5, rd_tk_f rfl]
            exact (rd_G_C c n _ (by split <;> omega)).2 _ rfl
          rw [e, (rd_G_it (rd_G_g c n) r).2 (false, q) rfl]
      have h2 := hall (c (m_pG c n)) (m_pG c n + 1) (by omega)
      rw [this] at h2
      omega
  have f1 := fs_imp h140 h (m_I c n) 0 (by omega)
  have f2 := fs_fun h140 h (m_F c n) (m_I c n) rfl (Nat.le_refl _)
  rw [Nat.sub_self] at f2
  have f2' : m_fn c n 0 = m_pF c n + 1 := rfl
  rw [f2'] at f2
  have f3 := fs_wid (fs_ent (c := c) (m_I c n + m_F c n) (c (tl_q c n (m_pG c n))) (tl_q c n (m_pG c n) + 1)) (lo' := m_pG c n + 1) (hi' := tl_m c n (m_pG c n) + 1) (by omega) (by unfold tl_m; omega)
  have f4 : fs_ok (vd_a c n) (me_S c n (tl_m c n (m_pG c n))) (tl_m c n (m_pG c n) + 1) 1000 := by
    unfold vd_a
    by_cases z : c (tl_m c n (m_pG c n)) = 1
    · rw [if_pos z]
      obtain ⟨d1, d2⟩ := m_data h z
      refine fs_wid (fs_ext (fs_dat (n := n) _ _ d2) (fun x => ⟨fun q => ⟨z, q⟩, fun q => q.2⟩)) (by omega) (by omega)
    · rw [if_neg z]
      exact fs_ext (fs_0 (by omega)) (fun x => ⟨fun q => q.elim, fun q => absurd q.1 z⟩)
  refine fs_wid (fs_ext (fs_or f1 (fs_or f2 (fs_or f3 f4))) (fun x => ⟨?_, ?_⟩)) (by omega) (Nat.le_refl _)
  · rintro (⟨g, a1, a2, a3, a4⟩ | ⟨g, a1, a2, (⟨a3, a4⟩ | ⟨a3, a4⟩)⟩ | a | a)
    · exact Or.inl (Or.inl (Or.inl (Or.inl ⟨g, a2, a3, a4⟩)))
    · refine Or.inl (Or.inl (Or.inl (Or.inr ⟨g - m_I c n, by omega, ?_, a4⟩)))
      rw [a3, m_fa, if_neg (by omega)]; rfl
    · exact Or.inr ⟨g, a1, a2, a3, a4⟩
    · exact Or.inl (Or.inl (Or.inr a))
    · exact Or.inl (Or.inr a)
  · rintro ((((⟨g, a1, a2, a3⟩ | ⟨g, a1, a2, a3⟩) | a) | a) | ⟨f, a1, a2, a3, a4⟩)
    · exact Or.inl ⟨g, by omega, a1, a2, a3⟩
    · refine Or.inr (Or.inl ⟨m_I c n + g, by omega, by omega, Or.inl ⟨?_, a3⟩⟩)
      rw [m_fa, if_neg (by omega), Nat.add_sub_cancel_left]; exact a2
    · exact Or.inr (Or.inr (Or.inl a))
    · exact Or.inr (Or.inr (Or.inr a))
    · exact Or.inr (Or.inl ⟨f, a1, a2, Or.inr ⟨a3, a4⟩⟩)
theorem or_n {r1 r2 : Option Nat} : or_o r1 r2 = none ↔ r1 = none ∧ r2 = none := by
  unfold or_o
  by_cases z : r1 = none
  · rw [if_pos z]; exact ⟨fun h => ⟨z, h⟩, fun h => h.2⟩
  · rw [if_neg z]; exact ⟨fun h => absurd h z, fun h => h.1⟩
theorem or_s1 {r1 r2 : Option Nat} {w : Nat} (h : r1 = some w) : or_o r1 r2 = some w := by unfold or_o; rw [h]; rfl
theorem or_s2 {r1 r2 : Option Nat} (h : r1 = none) : or_o r1 r2 = r2 := by unfold or_o; rw [if_pos h]
theorem xf_ext {b : Nat} {c : Nat → Nat} {n : Nat} {F F' : Nat → Int32} (mp : mp_ok c n) (h : xf_ok b c n F) (e : ∀ j, b ≤ j → j < b + 22 → F' j = F j) : xf_ok b c n F' := by
  have h0 := mp.1
  have hI := mp.2.2.1
  have hFn := mp.2.2.2.1
  have hG := mp.2.2.2.2.2.2.1
  obtain ⟨a0, a1, a2, a3, a4, a5, a6, a7, a8, a9, a10⟩ := h
  exact ⟨by rw [e b (by omega) (by omega)]; exact a0, by rw [e _ (by omega) (by omega)]; exact a1, by rw [e _ (by omega) (by omega)]; exact a2, by rw [e _ (by omega) (by omega)]; exact a3, by rw [e _ (by omega) (by omega)]; exact a4, by rw [e _ (by omega) (by omega)]; exact a5, by rw [e _ (by omega) (by omega)]; exact a6, by rw [e _ (by omega) (by omega)]; exact a7, fun t ht => by rw [e _ (by omega) (by omega)]; exact a8 t ht, fun f hf => by rw [e _ (by omega) (by omega)]; exact a9 f hf, fun g hg => by rw [e _ (by omega) (by omega)]; exact a10 g hg⟩
theorem xf_mv {b b' : Nat} {c : Nat → Nat} {n : Nat} {F F' : Nat → Int32} (mp : mp_ok c n) (h : xf_ok b c n F) (e : ∀ j, j < 22 → F' (b' + j) = F (b + j)) : xf_ok b' c n F' := by
  have h0 := mp.1
  have hI := mp.2.2.1
  have hFn := mp.2.2.2.1
  have hG := mp.2.2.2.2.2.2.1
  obtain ⟨a0, a1, a2, a3, a4, a5, a6, a7, a8, a9, a10⟩ := h
  exact ⟨by have := e 0 (by omega); rw [Nat.add_zero, Nat.add_zero] at this; rw [this]; exact a0, by rw [e 1 (by omega)]; exact a1, by rw [e 2 (by omega)]; exact a2, by rw [e 3 (by omega)]; exact a3, by rw [e 4 (by omega)]; exact a4, by rw [e 5 (by omega)]; exact a5, by rw [e 6 (by omega)]; exact a6, by rw [e 7 (by omega)]; exact a7, fun t ht => by rw [Nat.add_assoc, e (8 + t) (by omega), ← Nat.add_assoc]; exact a8 t ht, fun f hf => by rw [Nat.add_assoc, e (12 + f) (by omega), ← Nat.add_assoc]; exact a9 f hf, fun g hg => by rw [Nat.add_assoc, e (19 + g) (by omega), ← Nat.add_assoc]; exact a10 g hg⟩
section
variable {u : SX} {c c0 : Nat → Nat} {n n0 s : Nat}
theorem x_load {post : Int32 → SX → Prop} (C : cx_ok u c n) (hs : s < 2) (l0 : Bool) (hl : gx_loaded u 0 = bb_i l0) (H0 : l0 = true → mx_ok u 0 c0 ∧ xf_ok 0 c0 n0 (gx_facts u) ∧ mp_ok c0 n0 ∧ n0 ≤ 140 ∧ ∀ f, f < m_I c0 n0 + m_F c0 n0 → c0 (m_fa c0 n0 f) < c0 0)
    (h1 : (rd_V c n).1 = false → ∀ a fc kc F P A FH FR FD KI, xr_fr 44 66 (gx_facts u) F → xr_fr 280 420 (gx_partner u) P → post 1 (xd u (nI (rd_V c n).2) a fc kc (gx_code u) F P (gx_loaded u) (gx_globals u) (gx_memories u) A FH FR FD KI))
    (h2 : (rd_V c n).1 = true → ∀ w, v_all c n = some w → ∀ a fc kc F P A FH FR FD KI, xr_fr 44 66 (gx_facts u) F → xr_fr 280 420 (gx_partner u) P → post 2 (xd u (nI w) a fc kc (gx_code u) F P (gx_loaded u) (gx_globals u) (gx_memories u) A FH FR FD KI))
    (h3 : (rd_V c n).1 = true → v_all c n = none → ∀ k, k < m_I c n → ¬ lk_ok s l0 c n c0 n0 k → (∀ j, j < k → lk_ok s l0 c n c0 n0 j) → ∀ a fc kc F P A FH FR FD KI, xr_fr 44 66 (gx_facts u) F → xr_fr 280 420 (gx_partner u) P → post 3 (xd u (nI (m_im c n k + 1)) a fc kc (gx_code u) F P (gx_loaded u) (gx_globals u) (gx_memories u) A FH FR FD KI))
    (h4 : (rd_V c n).1 = true → v_all c n = none → (∀ k, k < m_I c n → lk_ok s l0 c n c0 n0 k) → ∀ a fc kc F P A FH FR FD KI CO FA PA LO GL ME Pn, xr_fr 44 66 (gx_facts u) F → xr_fr 280 420 (gx_partner u) P → xr_Pa P (m_P c n Pn) →
      fr_i (s * 140) (s * 140 + 140) (gx_code u) CO → (∀ i, i < 140 → CO (s * 140 + i) = gx_code u (280 + i)) → fr_i (s * 140) (s * 140 + 140) P PA → (∀ i, i < 140 → PA (s * 140 + i) = P (280 + i)) → fr_i (s * 22) (s * 22 + 22) F FA → xf_ok (s * 22) c n FA →
      fr_l (s * 3) (s * 3 + 3) (gx_globals u) GL → (∀ g, g < c (m_pG c n) → GL (s * 3 + g) = cv c (c (m_ga c n g)) 10 (m_ga c n g + 2) 0 0) → fr_i (s * 48) (s * 48 + 48) (gx_memories u) ME → (∀ j, j < 48 → ME (s * 48 + j) = nI (tl_mem c n (m_pG c n) j)) →
      LO s = bb_i true → (s = 0 → LO 1 = bb_i false) → (s = 1 → LO 0 = gx_loaded u 0) → post 0 (xd u (-1) a fc kc CO FA PA LO GL ME A FH FR FD KI)) :
    wpX_load post u (nI s) := by
  have h140 := C.2.1
  have M := C.2.2
  refine xl_read C hs (fun hb fc F P A f1 f2 => h1 hb _ _ _ F P A _ _ _ _ f1 f2) (fun hok fc F P A Pn f1 f2 Fx hPa => ?_)
  obtain ⟨mp, e0, e1, e2, e3, e4⟩ := mp_of hok
  have hib := fun f hf hf2 => m_ib h140 hok Pn f hf hf2
  refine br_f (by decide) (br_t (show nI n = gx_byteCount u from C.1.symm) ?_)
  have bad : ∀ w, v_all c n = some w → ∀ fc kc A FH FR FD KI, wX_load_119 post (nI s) (gx_byteCount u) (gx_wrongPlace u) (nI w) fc kc (gx_valueCount u) (gx_activeCount u) (gx_goesOn u) (gx_outcome u) (gx_resultValue u) (gx_trapPlace u) (gx_fuelUsed u) (gx_firstWaiting u) (gx_waitingCount u) (gx_printCount u) (gx_code u) F P (gx_loaded u) (gx_globals u) (gx_memories u) A FH FR FD KI (gx_values u) (gx_variables u) (gx_activeSlot u) (gx_activeGives u) (gx_activeFrame u) (gx_activeResume u) (gx_waiting u) (gx_prints u) := by
    intro w hw fc kc A FH FR FD KI
    exact br_t rfl (h2 hok w hw _ fc kc F P A FH FR FD KI f1 f2)
  refine x_imps (WP := gx_wrongPlace u) M Fx mp h140 (fun v1 a => br_f (by decide) ?_) (fun w v1 => br_t rfl (bad w (or_s1 v1) _ _ _ _ _ _ _))
  refine x_fns (WP := gx_wrongPlace u) M hPa Fx mp h140 hib (fun v2 a fc kc A FH FR FD KI => br_f (by decide) ?_) (fun w v2 fc kc A FH FR FD KI => br_t rfl (bad w (by unfold v_all; rw [or_s2 v1]; exact or_s1 v2) _ _ _ _ _ _ _))
  refine x_ents (WP := gx_wrongPlace u) M Fx mp h140 (fun v3 a => br_f (by decide) ?_) (fun w v3 => br_t rfl (bad w (by unfold v_all; rw [or_s2 v1, or_s2 v2]; exact or_s1 v3) _ _ _ _ _ _ _))
  refine x_data (WP := gx_wrongPlace u) M Fx mp h140 (fun z => (m_data hok z).1) (fun v4 a => br_f (by decide) ?_) (fun w z v4 => br_t rfl (bad w (by unfold v_all; rw [or_s2 v1, or_s2 v2, or_s2 v3, vd_a, if_pos z]; exact v4) _ _ _ _ _ _ _))
  have hnone : v_all c n = none := by
    unfold v_all
    rw [or_s2 v1, or_s2 v2, or_s2 v3, vd_a]
    by_cases z : c (tl_m c n (m_pG c n)) = 1
    · rw [if_pos z]; exact v4 z
    · rw [if_neg z]
  have hv : ∀ k, k < m_I c n → c (m_im c n k) < c 0 := by
    intro k hk
    refine Classical.byContradiction (fun q => ?_)
    exact (fs_imp h140 hok (m_I c n) 0 (by omega)).1 v1 _ ⟨k, by omega, hk, rfl, by omega⟩
  refine br_f (by decide) ?_
  have hF0 : l0 = true → mx_ok u 0 c0 ∧ xf_ok 0 c0 n0 F ∧ mp_ok c0 n0 ∧ n0 ≤ 140 ∧ ∀ f, f < m_I c0 n0 + m_F c0 n0 → c0 (m_fa c0 n0 f) < c0 0 := by
    intro q
    obtain ⟨g1, g2, g3, g4, g5⟩ := H0 q
    exact ⟨g1, xf_ext g3 g2 (fun j _ hj => f1 j (by omega)), g3, g4, g5⟩
  refine x_links (WP := gx_wrongPlace u) (c0 := c0) (n0 := n0) M Fx mp h140 s hs l0 hl hF0 hv (fun hall a => br_f (by decide) ?_) (fun k hk z1 z2 => br_t rfl (h3 hok hnone k hk z1 z2 _ _ _ F P _ _ _ _ _ f1 f2))
  refine x_copy hs (fun CO FA PA k1 k2 k3 k4 k5 k6 => ?_)
  have Mc : mx_c CO s c := ⟨fun i hi => (k2 i hi).trans (M.1 i hi), M.2.1, M.2.2⟩
  have Fxs : xf_ok (s * 22) c n FA := xf_mv mp Fx k6
  refine x_setG hs Mc Fxs mp h140 (fun GL g1 g2 => ?_)
  refine x_setM hs Mc Fxs mp h140 (fun z => m_data hok z) (fun ME m1 m2 => ⟨pk_in s 2 hs, nm_r (show upd (gx_loaded u) (nI s).toNatClampNeg (vp_nar .boolean 1) = upd (gx_loaded u) s (bb_i true) from by rw [pk_cl s]; rfl) ?_⟩)
  refine pk_eq s 0 (fun z => nm_r (show upd (upd (gx_loaded u) s (bb_i true)) 1 (vp_nar .boolean 0) = upd (upd (gx_loaded u) s (bb_i true)) 1 (bb_i false) from rfl) ?_) (fun z => ?_)
  · exact h4 hok hnone hall _ _ _ F P _ _ _ _ _ CO FA PA _ GL ME Pn f1 f2 hPa k1 k2 k3 k4 k5 Fxs g1 g2 m1 m2 (by rw [pk_un (by omega), pk_us]) (fun _ => pk_us) (fun y => absurd y (by omega))
  · exact h4 hok hnone hall _ _ _ F P _ _ _ _ _ CO FA PA _ GL ME Pn f1 f2 hPa k1 k2 k3 k4 k5 Fxs g1 g2 m1 m2 pk_us (fun y => absurd y z) (fun _ => pk_un (by omega))
end
