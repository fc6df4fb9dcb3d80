theorem sg_np {c : Nat → Nat} {t : Nat} (h : ty_ok c t) : sg c t % 4 = c t ∧ sg c t / 256 = ty_r c t ∧ ∀ k, k < c t → sg c t / 4 ^ (k + 1) % 4 = c (t + 1 + k) := by
  obtain ⟨h1, h2, h3, h4⟩ := h
  have hr : ∃ R, (if c (t + 1 + c t) = 0 then 0 else c (t + 1 + c t + 1) * 256) = 256 * R ∧ ty_r c t = R ∧ R ≤ 2 := by
    unfold ty_r
    by_cases z : c (t + 1 + c t) = 0
    · rw [if_pos z, if_pos z]; exact ⟨0, rfl, rfl, by omega⟩
    · rw [if_neg z, if_neg z]; have := h4 (by omega); exact ⟨_, Nat.mul_comm _ _, rfl, by omega⟩
  obtain ⟨R, e1, e2, e3⟩ := hr
  unfold sg
  rw [e1, e2]
  have z : c t = 0 ∨ c t = 1 ∨ c t = 2 ∨ c t = 3 := by omega
  rcases z with z | z | z | z <;> rw [z] at h2 ⊢ <;> simp only [sg_l]
  · exact ⟨by omega, by omega, fun k hk => absurd hk (by omega)⟩
  · have a := h2 0 (by omega); simp only [Nat.add_zero] at a
    refine ⟨by omega, by omega, fun k hk => ?_⟩
    have : k = 0 := by omega
    subst this
    simp only [Nat.add_zero]
    omega
  · have a := h2 0 (by omega); have b := h2 1 (by omega); simp only [Nat.add_zero] at a
    refine ⟨by omega, by omega, fun k hk => ?_⟩
    have : k = 0 ∨ k = 1 := by omega
    rcases this with rfl | rfl
    · simp only [Nat.add_zero]; omega
    · simp only [Nat.add_assoc] at a b ⊢; omega
  · have a := h2 0 (by omega); have b := h2 1 (by omega); have d := h2 2 (by omega)
    rw [show t + 1 + 2 = t + 1 + 1 + 1 by omega] at d; simp only [Nat.add_zero] at a
    refine ⟨by omega, by omega, fun k hk => ?_⟩
    have : k = 0 ∨ k = 1 ∨ k = 2 := by omega
    rcases this with rfl | rfl | rfl
    · simp only [Nat.add_zero]; omega
    · show _ = c (t + 1 + 1); omega
    · rw [show t + 1 + 2 = t + 1 + 1 + 1 by omega]; omega
theorem ty_r_le {c : Nat → Nat} {t : Nat} (h : ty_ok c t) : ty_r c t ≤ 2 := by
  unfold ty_r
  split
  · omega
  · have := h.2.2.2 (by have := h.2.2.1; omega); omega
def mp_ok (c : Nat → Nat) (n : Nat) : Prop :=
  c 0 ≤ 4 ∧ (∀ t, t < c 0 → ty_ok c (m_ty c n t) ∧ m_ty c n t + 1 + c (m_ty c n t) + 1 + c (m_ty c n t + 1 + c (m_ty c n t)) ≤ n) ∧ m_I c n ≤ 3 ∧ m_F c n ≤ 4 ∧
  (∀ f, f < m_I c n + m_F c n → m_fa c n f + 1 < n) ∧
  (∀ f, m_I c n ≤ f → f < m_I c n + m_F c n → c (m_fa c n f + 1) ≤ 3 ∧ (∀ j, j < c (m_fa c n f + 1) → 1 ≤ c (m_fa c n f + 2 + j) ∧ c (m_fa c n f + 2 + j) ≤ 2) ∧ m_bo c n f ≤ n) ∧
  c (m_pG c n) ≤ 3 ∧ (∀ g, g < c (m_pG c n) → 1 ≤ c (m_ga c n g) ∧ c (m_ga c n g) ≤ 2 ∧ c (m_ga c n g + 1) ≤ 1 ∧ m_ga c n g + 2 < n ∧ (rd_C c n (if c (m_ga c n g) = 1 then 5 else 10) (true, m_ga c n g + 2)).1 = true) ∧
  c (tl_q c n (m_pG c n)) ≤ 5 ∧ c (tl_m c n (m_pG c n)) ≤ 1 ∧ tl_m c n (m_pG c n) < n
theorem mp_of {c : Nat → Nat} {n : Nat} (h : (rd_V c n).1 = true) : mp_ok c n ∧ (rd_V c n).2 = n ∧ (rd_it (rd_F c n) (m_F c n) (true, m_pF c n + 1)).1 = true ∧ m_pF c n + 1 ≤ n ∧ (rd_it (rd_J c n) (m_I c n) (true, m_pI c n + 1)).1 = true ∧ m_pI c n + 1 ≤ n := by
  obtain ⟨o1, o2, o3, o4⟩ := rd_V_ok h
  have eV : rd_V c n = rd_X c n (rd_it (rd_T c n) (c 0) (true, 1)) := by rw [rd_V, o1, o2]
  have e1 : rd_it (rd_T c n) (c 0) (true, 1) = (true, m_pI c n) := tt_eq o4
  have hn1 : 1 ≤ n := by
    obtain ⟨_, _, _, _, _, b⟩ := rd_tk_ok (show (rd_tk c n 0 4 (true, 0)).1 = true by rw [o1])
    dsimp only at b; omega
  have gT : m_pI c n ≤ n := by
    have := ((rd_G_it (rd_G_T c n) (c 0)).1 (true, 1) hn1).2
    rw [e1] at this; exact this
  rw [e1] at eV
  obtain ⟨q1, q2, q3, q4, q5⟩ := rd_X_ok (q := (true, m_pI c n)) (by rw [← eV]; exact h)
  dsimp only at q2 q3 q4
  rw [q2, q3] at q5
  have e2 : rd_it (rd_J c n) (m_I c n) (true, m_pI c n + 1) = (true, m_pF c n) := tt_eq q5
  have hI1 : m_pI c n + 1 ≤ n := by
    have := ((rd_G_tk c n 0 3).1 (true, m_pI c n) gT).2; rw [q2] at this; exact this
  have gI : m_pF c n ≤ n := by
    have := ((rd_G_it (rd_G_J c n) (m_I c n)).1 (true, m_pI c n + 1) hI1).2
    rw [e2] at this; exact this
  have eV2 : rd_V c n = rd_Y c n (true, m_pF c n) := by rw [eV, rd_X, q2, q3, ← e2]; rfl
  obtain ⟨r1, r2, r3, r4, r5⟩ := rd_Y_ok (q := (true, m_pF c n)) (by rw [← eV2]; exact h)
  dsimp only at r2 r3 r4
  rw [r2, r3] at r5
  have e3 : rd_it (rd_F c n) (m_F c n) (true, m_pF c n + 1) = (true, m_pG c n) := tt_eq r5
  have hF1 : m_pF c n + 1 ≤ n := by
    have := ((rd_G_tk c n 0 4).1 (true, m_pF c n) gI).2; rw [r2] at this; exact this
  have gF : m_pG c n ≤ n := by
    have := ((rd_G_it (rd_G_F c n) (m_F c n)).1 (true, m_pF c n + 1) hF1).2
    rw [e3] at this; exact this
  have eV3 : rd_V c n = rd_Z c n (true, m_pG c n) := by rw [eV2, rd_Y, r2, r3, ← e3]; rfl
  obtain ⟨t1, t2, t3, t4⟩ := rd_Z_ok (q := (true, m_pG c n)) (by rw [← eV3]; exact h)
  dsimp only at t2 t3 t4
  have hG1 : m_pG c n + 1 ≤ n := by
    have := ((rd_G_tk c n 0 3).1 (true, m_pG c n) gF).2; rw [t2] at this; exact this
  have eV4 : rd_V c n = rd_E c n (rd_it (rd_g c n) (c (m_pG c n)) (true, m_pG c n + 1)) := by rw [eV3, rd_Z, t2, t3]
  have hE := h
  rw [eV4] at hE
  obtain ⟨w1, w2, w3⟩ := rd_e_ok hE
  have w4 : (rd_n c n 0 255 (rd_tv c n 0 5 (rd_it (rd_g c n) (c (m_pG c n)) (true, m_pG c n + 1))) (rd_tk c n 0 5 (rd_it (rd_g c n) (c (m_pG c n)) (true, m_pG c n + 1)))).1 = true := by
    cases e : (rd_n c n 0 255 (rd_tv c n 0 5 (rd_it (rd_g c n) (c (m_pG c n)) (true, m_pG c n + 1))) (rd_tk c n 0 5 (rd_it (rd_g c n) (c (m_pG c n)) (true, m_pG c n + 1)))).1 with
    | true => rfl
    | false => rw [rd_M_f e, e] at w1; exact ff_t w1
  obtain ⟨x1, x2, x3, x4⟩ := rd_n_ok _ _ w4
  obtain ⟨y1, y2, y3, y4, y5, y6⟩ := rd_tk_ok x1
  have gg : (rd_it (rd_g c n) (c (m_pG c n)) (true, m_pG c n + 1)).2 ≤ n := ((rd_G_it (rd_G_g c n) _).1 _ (by exact hG1)).2
  have eM : rd_n c n 0 255 (rd_tv c n 0 5 (rd_it (rd_g c n) (c (m_pG c n)) (true, m_pG c n + 1))) (rd_tk c n 0 5 (rd_it (rd_g c n) (c (m_pG c n)) (true, m_pG c n + 1))) = (true, tl_m c n (m_pG c n)) := by
    rw [x2, y2, y3]; rfl
  rw [eM] at w1
  have eV5 : rd_V c n = rd_M c n (true, tl_m c n (m_pG c n)) := by rw [eV4, rd_E, w3, eM]
  have hm : (rd_tk c n 0 1 (true, tl_m c n (m_pG c n))).1 = true := by
    cases e : (rd_tk c n 0 1 (true, tl_m c n (m_pG c n))).1 with
    | true => rfl
    | false =>
      have : rd_tv c n 0 1 (true, tl_m c n (m_pG c n)) = 0 := by
        unfold rd_tv; split
        · rename_i hc; rw [rd_tk, if_pos hc] at e; exact ff_t e.symm
        · rfl
      rw [rd_M, this, if_neg (by decide), e] at w1
      exact ff_t w1
  obtain ⟨z1, z2, z3, z4, z5, z6⟩ := rd_tk_ok hm
  dsimp only at z4 z5 z6
  have gV : (rd_V c n).2 ≤ n := by
    rw [eV5]
    have g1 := (rd_G_tk c n 0 1).1 (true, tl_m c n (m_pG c n)) (by dsimp only; omega)
    unfold rd_M
    split
    · exact ((rd_G_it (rd_G_D c n) _).1 _ ((rd_G_tk c n 0 2).1 _ g1.2).2).2
    · exact g1.2
  refine ⟨⟨o3, fun t ht => ?_, q4, r4, fun f hf => ?_, fun f hf1 hf2 => ?_, t4, fun g hg => ?_, y5, z5, z6⟩, ?_, r5, hF1, q5, hI1⟩
  · have a := rd_it_ok (rd_G_T c n) _ _ o4 (t + 1) (by omega)
    rw [rd_it_s] at a
    obtain ⟨b1, b2, b3, b4⟩ := rd_T_ok a
    exact ⟨b2, by rw [b3] at b4; exact b4⟩
  · unfold m_fa
    by_cases h1 : f < m_I c n
    · rw [if_pos h1]
      have a := rd_it_ok (rd_G_J c n) _ _ q5 (f + 1) (by unfold m_I at h1; omega)
      rw [rd_it_s] at a
      obtain ⟨b1, b2, b3, b4⟩ := rd_n_ok _ _ (show (rd_n c n 0 255 2 (rd_it (rd_J c n) f (true, m_pI c n + 1))).1 = true from a)
      have := b4 (((rd_G_it (rd_G_J c n) f).1 _ (by exact hI1)).2)
      show (rd_it (rd_J c n) f (true, m_pI c n + 1)).2 + 1 < n
      omega
    · rw [if_neg h1]
      have a := rd_it_ok (rd_G_F c n) _ _ r5 (f - m_I c n + 1) (by unfold m_F at hf; omega)
      rw [rd_it_s] at a
      obtain ⟨b1, b2, b3⟩ := rd_F_ok a
      have d := rd_G_tr (rd_G_B c n 141 [(0, 0, 0)]) a
      obtain ⟨k1, k2, k3, k4, k5⟩ := rd_K_ok d
      rw [b2] at k5
      show (rd_it (rd_F c n) (f - m_I c n) (true, m_pF c n + 1)).2 + 1 < n
      dsimp only at k5
      omega
  · have e : m_fa c n f = m_fn c n (f - m_I c n) := if_neg (by omega)
    unfold m_bo
    rw [e]
    have a := rd_it_ok (rd_G_F c n) _ _ r5 (f - m_I c n + 1) (by unfold m_F at hf2; omega)
    rw [rd_it_s] at a
    obtain ⟨b1, b2, b3⟩ := rd_F_ok a
    have d := rd_G_tr (rd_G_B c n 141 [(0, 0, 0)]) a
    obtain ⟨k1, k2, k3, k4, k5⟩ := rd_K_ok d
    rw [b2] at k3 k4 k5
    dsimp only at k3 k4 k5
    refine ⟨k3, fun j hj => ?_, ?_⟩
    · have := k4 j hj
      show 1 ≤ c ((rd_it (rd_F c n) (f - m_I c n) (true, m_pF c n + 1)).2 + 2 + j) ∧ _
      rw [show (rd_it (rd_F c n) (f - m_I c n) (true, m_pF c n + 1)).2 + 1 + 1 + j = (rd_it (rd_F c n) (f - m_I c n) (true, m_pF c n + 1)).2 + 2 + j by omega] at this
      exact this
    · show (rd_it (rd_F c n) (f - m_I c n) (true, m_pF c n + 1)).2 + 2 + c ((rd_it (rd_F c n) (f - m_I c n) (true, m_pF c n + 1)).2 + 1) ≤ n
      omega
  · have a := rd_it_ok (rd_G_g c n) _ _ y1 (g + 1) (by omega)
    rw [rd_it_s] at a
    obtain ⟨b1, b2, b3, b4, b5, b6, b7, b8⟩ := rd_g_ok a
    have hg2 : (rd_it (rd_g c n) g (true, m_pG c n + 1)).2 ≤ n := ((rd_G_it (rd_G_g c n) g).1 _ (by exact hG1)).2
    have a' := a
    rw [rd_g, b3, b6] at a'
    refine ⟨b4, b5, b8, ?_, a'⟩
    have k1 := (rd_G_tk c n 1 2).1 _ hg2
    have k2 := (rd_G_tk c n 0 1).1 _ k1.2
    rw [b6] at k2
    dsimp only at k2
    show (rd_it (rd_g c n) g (true, m_pG c n + 1)).2 + 2 < n
    have k3 : ∀ kk q, 0 < kk → (rd_C c n kk q).1 = true → q.2 < n := by
      intro kk q h0 hh
      obtain ⟨kk, rfl⟩ : ∃ j, kk = j + 1 := ⟨kk - 1, by omega⟩
      rw [rd_C] at hh
      generalize (if kk = 0 then 127 else 255) = hb at hh
      rcases rd_tk_or c n 0 hb q with ⟨e, _, h2, _⟩ | e
      · exact h2
      · rw [e, if_neg (fun z => ff_t z.1)] at hh; exact ff_t hh
    have := k3 _ _ (by split <;> omega) a'
    exact this
  · have := w2
    rw [eM] at this
    rw [eV5]
    have g2 := gV
    rw [eV5] at g2
    omega
