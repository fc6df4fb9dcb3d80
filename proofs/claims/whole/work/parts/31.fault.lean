theorem rd_I_cod {c : Nat → Nat} {n p : Nat} {T : List (Nat × Nat × Nat)} (hT : T ≠ []) (h : (rd_I c n (true, p) T).1.1 = true) : (rd_I c n (true, p) T).1 = (true, nx c p) ∧ (rd_I c n (true, p) T).2.map (·.1) = cod c p (T.map (·.1)) := by
  rcases rd_tk_or c n 0 66 (true, p) with ⟨e, _, hpn, _, h66⟩ | e
  · have e1 : (rd_tk c n 0 66 (true, p)).1 = true := by rw [e]
    unfold cod
    unfold rd_I at h ⊢
    rw [if_pos e1] at h ⊢
    dsimp only at h ⊢
    by_cases ho : 2 ≤ c p ∧ c p ≤ 4
    · rw [if_pos ho] at h ⊢
      rw [if_pos ho]
      refine ⟨?_, rfl⟩
      show rd_tk c n 0 2 (true, p + 1) = _
      rw [(rd_tk_ok h).2.1, nx_2 (by omega)]
    · rw [if_neg ho] at h ⊢
      rw [if_neg ho]
      by_cases h5 : c p = 5
      · rw [if_pos h5] at h ⊢
        rw [if_pos h5, nx_1 (by omega)]
        by_cases h4 : tp_cd T = 4
        · rw [if_pos h4]
          refine ⟨rfl, ?_⟩
          cases T with
          | nil => exact absurd rfl hT
          | cons x T => rfl
        · rw [if_neg h4] at h; exact ff_t h
      · rw [if_neg h5] at h ⊢
        rw [if_neg h5]
        by_cases h6 : c p = 6
        · rw [if_pos h6, if_pos h6, nx_1 (by omega)]
          refine ⟨rfl, ?_⟩
          cases T with
          | nil => exact absurd rfl hT
          | cons x T => rfl
        · rw [if_neg h6] at h ⊢
          rw [if_neg h6]
          exact ⟨rd_R_nx h, rfl⟩
  · rw [rd_I, if_neg (by rw [e]; simp), e] at h; exact ff_t h
theorem vgo_in {c : Nat → Nat} {n f w : Nat} : ∀ k p T (S : vt_St) p', rd_B c n k (true, p) T = ((true, p'), []) → T ≠ [] → p ≤ n → T.map (·.1) = S.2.1.map (·.1) → S.2.1 ≠ [] → v_go c n f k p S = some w → p ≤ w ∧ w < p' := by
  intro k
  induction k with
  | zero => intro p T S p' _ _ _ _ _ h; exact nomatch h
  | succ k ih =>
    intro p T S p' h hT hp hc hF hv
    rw [v_go, if_neg hF] at hv
    rw [rd_B, if_pos ⟨rfl, hT⟩] at h
    have hok : (rd_I c n (true, p) T).1.1 = true := by
      cases e : (rd_I c n (true, p) T).1.1 with
      | true => rfl
      | false =>
        rw [rd_B_f _ _ _ e] at h
        have := congrArg (fun z => z.1.1) h
        dsimp only at this
        rw [e] at this
        exact ff_t this
    have hlt := rd_I_lt hp hok
    obtain ⟨e1, e2⟩ := rd_I_cod hT hok
    rw [e1] at h hlt
    dsimp only at hlt
    have hle : nx c p ≤ p' := by
      have := ((rd_G_B c n k (rd_I c n (true, p) T).2).1 (true, nx c p) hlt.2).1
      dsimp only at this
      rw [h] at this
      exact this
    cases hb : (v_st c n f p S).2.2 with
    | true =>
      rw [if_pos hb] at hv
      have := Option.some.inj hv
      omega
    | false =>
      rw [if_neg (by rw [hb]; simp)] at hv
      have hcod := v_codes hF hb
      by_cases hend : (v_st c n f p S).2.1 = []
      · have : v_go c n f k (nx c p) (v_st c n f p S) = none := by
          cases k with
          | zero => rfl
          | succ k => rw [v_go, if_pos hend]
        rw [this] at hv
        exact nomatch hv
      · have e3 : (rd_I c n (true, p) T).2.map (·.1) = (v_st c n f p S).2.1.map (·.1) := by rw [e2, hcod, hc]
        have := ih (nx c p) _ _ p' h (fun z => hend (by rw [z] at e3; exact List.map_eq_nil_iff.mp e3.symm)) hlt.2 e3 hend hv
        omega
def fs_ok (r : Option Nat) (S : Nat → Prop) (lo hi : Nat) : Prop := (r = none → ∀ x, ¬ S x) ∧ (∀ w, r = some w → S w ∧ ∀ x, S x → w ≤ x) ∧ (∀ x, S x → lo ≤ x ∧ x < hi) ∧ lo ≤ hi
def or_o (r1 r2 : Option Nat) : Option Nat := if r1 = none then r2 else r1
theorem fs_or {r1 r2 : Option Nat} {S1 S2 : Nat → Prop} {lo m hi : Nat} (h1 : fs_ok r1 S1 lo m) (h2 : fs_ok r2 S2 m hi) : fs_ok (or_o r1 r2) (fun x => S1 x ∨ S2 x) lo hi := by
  obtain ⟨a1, a2, a3, a4⟩ := h1
  obtain ⟨b1, b2, b3, b4⟩ := h2
  unfold or_o
  refine ⟨fun z x hx => ?_, fun w z => ?_, fun x hx => ?_, by omega⟩
  · by_cases e : r1 = none
    · rw [if_pos e] at z
      exact hx.elim (a1 e x) (b1 z x)
    · rw [if_neg e] at z; exact e z
  · by_cases e : r1 = none
    · rw [if_pos e] at z
      obtain ⟨c1, c2⟩ := b2 w z
      exact ⟨Or.inr c1, fun x hx => hx.elim (fun y => absurd y (a1 e x)) (c2 x)⟩
    · rw [if_neg e] at z
      obtain ⟨c1, c2⟩ := a2 w z
      exact ⟨Or.inl c1, fun x hx => hx.elim (c2 x) (fun y => by have := b3 x y; have := a3 w c1; omega)⟩
  · rcases hx with y | y
    · have := a3 x y; omega
    · have := b3 x y; omega
theorem fs_0 {lo hi : Nat} (h : lo ≤ hi) : fs_ok none (fun _ => False) lo hi := ⟨fun _ _ z => z, (fun _ z => nomatch z), fun _ z => z.elim, h⟩
theorem fs_1 {g : Prop} [Decidable g] {p hi : Nat} (h : p < hi) : fs_ok (if g then none else some p) (fun x => x = p ∧ ¬ g) p hi := by
  by_cases z : g
  · rw [if_pos z]; exact ⟨fun _ x y => y.2 z, (fun _ y => nomatch y), fun x y => absurd z y.2, by omega⟩
  · rw [if_neg z]
    exact ⟨(fun y => nomatch y), fun w y => by have := Option.some.inj y; subst this; exact ⟨⟨rfl, z⟩, fun x hx => by omega⟩, fun x y => by omega, by omega⟩
theorem fs_ext {r : Option Nat} {S S' : Nat → Prop} {lo hi : Nat} (h : fs_ok r S lo hi) (e : ∀ x, S x ↔ S' x) : fs_ok r S' lo hi := by
  obtain ⟨a1, a2, a3, a4⟩ := h
  exact ⟨fun z x hx => a1 z x ((e x).mpr hx), fun w z => ⟨(e w).mp (a2 w z).1, fun x hx => (a2 w z).2 x ((e x).mpr hx)⟩, fun x hx => a3 x ((e x).mpr hx), a4⟩
theorem fs_wid {r : Option Nat} {S : Nat → Prop} {lo hi lo' hi' : Nat} (h : fs_ok r S lo hi) (hl : lo' ≤ lo) (hh : hi ≤ hi') : fs_ok r S lo' hi' :=
  ⟨h.1, h.2.1, fun x hx => by have := h.2.2.1 x hx; omega, by have := h.2.2.2; omega⟩
section
variable {c : Nat → Nat} {n : Nat}
theorem fs_imp (h140 : n ≤ 140) (h : (rd_V c n).1 = true) : ∀ r i, i + r = m_I c n → fs_ok (vi_1 c n r i) (fun x => ∃ g, i ≤ g ∧ g < m_I c n ∧ x = m_im c n g ∧ c 0 ≤ c x) (m_im c n i) (m_pF c n + 1) := by
  obtain ⟨mp, e0, e1, e2, e3, e4⟩ := mp_of h
  have hstep : ∀ i, i < m_I c n → m_im c n (i + 1) = m_im c n i + 2 := by
    intro i hi
    have a := rd_it_ok (rd_G_J c n) _ _ e3 (i + 1) (by omega)
    rw [rd_it_s] at a
    obtain ⟨b1, b2, b3, b4⟩ := rd_n_ok _ _ (show (rd_n c n 0 255 2 (rd_it (rd_J c n) i (true, m_pI c n + 1))).1 = true from a)
    show (rd_it (rd_J c n) (i + 1) (true, m_pI c n + 1)).2 = _
    rw [rd_it_s]
    exact congrArg Prod.snd b2
  intro r
  induction r with
  | zero =>
    intro i hi
    have : i = m_I c n := by omega
    subst this
    exact fs_ext (fs_0 (by show m_pF c n ≤ _; omega)) (fun x => ⟨fun z => z.elim, fun ⟨g, a, b, _⟩ => absurd a (by omega)⟩)
  | succ r ih =>
    intro i hi
    have efa : m_fa c n i = m_im c n i := if_pos (by omega)
    have hs := hstep i (by omega)
    have i2 := ih (i + 1) (by omega)
    have key := fs_or (fs_1 (g := c (m_im c n i) < c 0) (p := m_im c n i) (hi := m_im c n (i + 1)) (by omega)) i2
    have er : vi_1 c n (r + 1) i = or_o (if c (m_im c n i) < c 0 then none else some (m_im c n i)) (vi_1 c n r (i + 1)) := by
      rw [vi_1, efa, or_o]
      by_cases z : c (m_im c n i) < c 0
      · rw [if_pos z, if_pos z, if_pos rfl]
      · rw [if_neg z, if_neg z, if_neg (by simp)]
    rw [er]
    refine fs_ext key (fun x => ⟨?_, ?_⟩)
    · rintro (⟨rfl, y⟩ | ⟨g, a, b, d, e⟩)
      · exact ⟨i, by omega, by omega, rfl, by omega⟩
      · exact ⟨g, by omega, b, d, e⟩
    · rintro ⟨g, a, b, d, e⟩
      by_cases z : g = i
      · subst z; exact Or.inl ⟨d, by rw [← d]; omega⟩
      · exact Or.inr ⟨g, by omega, b, d, e⟩
theorem fs_fun (h140 : n ≤ 140) (h : (rd_V c n).1 = true) : ∀ r f, f + r = m_I c n + m_F c n → m_I c n ≤ f → fs_ok (vf_1 c n r f) (fun x => ∃ g, f ≤ g ∧ g < m_I c n + m_F c n ∧ ((x = m_fa c n g ∧ c 0 ≤ c x) ∨ (c (m_fa c n g) < c 0 ∧ v_go c n g 141 (m_bo c n g) (v_0 c n g) = some x))) (m_fn c n (f - m_I c n)) (m_pG c n + 1) := by
  obtain ⟨mp, e0, e1, e2, e3, e4⟩ := mp_of h
  intro r
  induction r with
  | zero =>
    intro f hf hf1
    have : f - m_I c n = m_F c n := by omega
    rw [this]
    exact fs_ext (fs_0 (by show m_pG c n ≤ _; omega)) (fun x => ⟨fun z => z.elim, fun ⟨g, a, b, _⟩ => absurd a (by omega)⟩)
  | succ r ih =>
    intro f hf hf1
    have efa : m_fa c n f = m_fn c n (f - m_I c n) := if_neg (by omega)
    have i2 := ih (f + 1) (by omega) (by omega)
    rw [show f + 1 - m_I c n = f - m_I c n + 1 by omega] at i2
    have a := rd_it_ok (rd_G_F c n) _ _ e1 (f - m_I c n + 1) (by omega)
    rw [rd_it_s] at a
    have b := ((rd_G_it (rd_G_F c n) (f - m_I c n)).1 (true, m_pF c n + 1) e2).2
    obtain ⟨a1, a2, a3, a4⟩ := rd_F_body h140 b a
    have enext : m_fn c n (f - m_I c n + 1) = (rd_F c n (rd_it (rd_F c n) (f - m_I c n) (true, m_pF c n + 1))).2 := by
      show (rd_it (rd_F c n) (f - m_I c n + 1) (true, m_pF c n + 1)).2 = _
      rw [rd_it_s]
    have ebo : m_bo c n f = (rd_it (rd_F c n) (f - m_I c n) (true, m_pF c n + 1)).2 + 2 + c ((rd_it (rd_F c n) (f - m_I c n) (true, m_pF c n + 1)).2 + 1) := by rw [m_bo, efa]; rfl
    have hb : fs_ok (vf_b c n f) (fun x => (x = m_fa c n f ∧ c 0 ≤ c x) ∨ (c (m_fa c n f) < c 0 ∧ v_go c n f 141 (m_bo c n f) (v_0 c n f) = some x)) (m_fn c n (f - m_I c n)) (m_fn c n (f - m_I c n + 1)) := by
      have hfa2 : m_fa c n f = (rd_it (rd_F c n) (f - m_I c n) (true, m_pF c n + 1)).2 := by rw [efa]; rfl
      have hvin : ∀ x, v_go c n f 141 (m_bo c n f) (v_0 c n f) = some x → m_fn c n (f - m_I c n) ≤ x ∧ x < m_fn c n (f - m_I c n + 1) := by
        intro x hx
        rw [ebo] at hx
        have := vgo_in 141 _ [(0, 0, 0)] _ _ a2 (by simp) a1 (by simp [v_0]) (by simp [v_0]) hx
        rw [enext, ← efa, hfa2]
        omega
      unfold vf_b
      by_cases z : c (m_fa c n f) < c 0
      · rw [if_pos z]
        refine ⟨fun y x hx => ?_, fun w y => ⟨Or.inr ⟨z, y⟩, fun x hx => ?_⟩, fun x hx => ?_, ?_⟩
        · rcases hx with ⟨q1, q2⟩ | ⟨_, q⟩
          · rw [q1] at q2; omega
          · rw [y] at q; exact nomatch q
        · rcases hx with ⟨q1, q2⟩ | ⟨_, q⟩
          · rw [q1] at q2; omega
          · rw [y] at q; have := Option.some.inj q; omega
        · rcases hx with ⟨q1, q2⟩ | ⟨_, q⟩
          · rw [q1] at q2; omega
          · exact hvin x q
        · rw [enext, ← efa, hfa2]; omega
      · rw [if_neg z]
        refine ⟨(fun y => nomatch y), fun w y => ?_, fun x hx => ?_, ?_⟩
        · have := Option.some.inj y
          subst this
          refine ⟨Or.inl ⟨rfl, by omega⟩, fun x hx => ?_⟩
          rcases hx with ⟨q1, q2⟩ | ⟨q, _⟩
          · omega
          · exact absurd q z
        · rcases hx with ⟨q1, q2⟩ | ⟨q, _⟩
          · rw [enext]; omega
          · exact absurd q z
        · rw [enext, ← efa, hfa2]; omega
    have key := fs_or hb i2
    have er : vf_1 c n (r + 1) f = or_o (vf_b c n f) (vf_1 c n r (f + 1)) := by rw [vf_1, or_o]
    rw [er]
    refine fs_ext key (fun x => ⟨?_, ?_⟩)
    · rintro (y | ⟨g, q1, q2, q3⟩)
      · exact ⟨f, by omega, by omega, y⟩
      · exact ⟨g, by omega, q2, q3⟩
    · rintro ⟨g, q1, q2, q3⟩
      by_cases z : g = f
      · subst z; exact Or.inl q3
      · exact Or.inr ⟨g, by omega, q2, q3⟩
theorem fs_ent (fn : Nat) : ∀ r p, fs_ok (ve_1 c fn r p) (en_S c fn r p) p (p + r + 1) := by
  intro r
  induction r with
  | zero => intro p; exact fs_ext (fs_0 (by omega)) (fun x => ⟨fun z => z.elim, fun ⟨i, a, _⟩ => absurd a (by omega)⟩)
  | succ r ih =>
    intro p
    have key := fs_or (fs_1 (g := c p < fn ∨ c p = 255) (p := p) (hi := p + 1) (by omega)) (ih (p + 1))
    have er : ve_1 c fn (r + 1) p = or_o (if c p < fn ∨ c p = 255 then none else some p) (ve_1 c fn r (p + 1)) := by
      rw [ve_1, or_o]
      by_cases z : c p < fn ∨ c p = 255
      · rw [if_pos z, if_pos z, if_pos rfl]
      · rw [if_neg z, if_neg z, if_neg (by simp)]
    rw [er]
    refine fs_wid (fs_ext key (fun x => ⟨?_, ?_⟩)) (Nat.le_refl _) (by omega)
    · rintro (⟨rfl, y⟩ | ⟨i, a, b, d⟩)
      · exact ⟨0, by omega, rfl, by omega⟩
      · exact ⟨i + 1, by omega, by omega, d⟩
    · rintro ⟨i, a, b, d⟩
      cases i with
      | zero => have b' : x = p := b; subst b'; exact Or.inl ⟨rfl, by omega⟩
      | succ i => exact Or.inr ⟨i, by omega, by omega, d⟩
theorem fs_dat : ∀ r p, (rd_it (rd_D c n) r (true, p)).1 = true → fs_ok (vd_1 c r p) (md_S c n r (true, p)) p (max n (p + 1)) := by
  intro r
  induction r with
  | zero => intro p _; exact fs_ext (fs_0 (by omega)) (fun x => ⟨fun z => z.elim, fun ⟨i, a, _⟩ => absurd a (by omega)⟩)
  | succ r ih =>
    intro p h
    rw [rd_it] at h
    have h1 := rd_G_tr (rd_G_it (rd_G_D c n) r) h
    obtain ⟨a1, a2, a3, a4⟩ := rd_n_ok _ _ (show (rd_n c n 0 255 (rd_tv c n 0 8 (rd_tk c n 0 255 (true, p))) (rd_tk c n 0 8 (rd_tk c n 0 255 (true, p)))).1 = true from h1)
    obtain ⟨b1, b2, b3, b4, b5, b6⟩ := rd_tk_ok a1
    obtain ⟨d1, d2, d3, d4, d5, d6⟩ := rd_tk_ok b1
    rw [d2] at b2 b3 b5 b6
    dsimp only at b2 b3 b5 b6 d6
    have eD : rd_D c n (true, p) = (true, p + 2 + c (p + 1)) := by
      show rd_n c n 0 255 (rd_tv c n 0 8 (rd_tk c n 0 255 (true, p))) (rd_tk c n 0 8 (rd_tk c n 0 255 (true, p))) = _
      rw [a2, d2, b2, b3]
    have hle : p + 2 + c (p + 1) ≤ n := by
      have := a4 (by rw [d2, b2]; dsimp only; omega)
      rw [d2, b2, b3] at this
      exact this
    rw [eD] at h
    have key := fs_or (fs_1 (g := c p + c (p + 1) ≤ 48) (p := p) (hi := p + 2 + c (p + 1)) (by omega)) (ih _ h)
    have er : vd_1 c (r + 1) p = or_o (if c p + c (p + 1) ≤ 48 then none else some p) (vd_1 c r (p + 2 + c (p + 1))) := by
      rw [vd_1, or_o]
      by_cases z : c p + c (p + 1) ≤ 48
      · rw [if_pos z, if_pos z, if_pos rfl]
      · rw [if_neg z, if_neg z, if_neg (by simp)]
    rw [er]
    by_cases hn1 : p + 2 + c (p + 1) < n
    · refine fs_wid (fs_ext key (fun x => ⟨?_, ?_⟩)) (Nat.le_refl _) (by omega)
      · rintro (⟨rfl, y⟩ | ⟨i, a, b, d⟩)
        · exact ⟨0, by omega, rfl, by omega⟩
        · refine ⟨i + 1, by omega, ?_, d⟩
          rw [rd_it, eD]; exact b
      · rintro ⟨i, a, b, d⟩
        cases i with
        | zero => have b' : x = p := b; subst b'; exact Or.inl ⟨rfl, by omega⟩
        | succ i => rw [rd_it, eD] at b; exact Or.inr ⟨i, by omega, b, d⟩
    · -- the bytes are used up: no piece of data may follow
      have hr : r = 0 := by
        rcases Nat.eq_zero_or_pos r with z | z
        · exact z
        · obtain ⟨r, rfl⟩ : ∃ j, r = j + 1 := ⟨r - 1, by omega⟩
          rw [rd_it] at h
          have h2 := rd_G_tr (rd_G_it (rd_G_D c n) r) h
          obtain ⟨q1, _⟩ := rd_n_ok _ _ (show (rd_n c n 0 255 (rd_tv c n 0 8 (rd_tk c n 0 255 (true, p + 2 + c (p + 1)))) (rd_tk c n 0 8 (rd_tk c n 0 255 (true, p + 2 + c (p + 1))))).1 = true from h2)
          obtain ⟨q2, _⟩ := rd_tk_ok q1
          obtain ⟨_, _, _, _, _, q3⟩ := rd_tk_ok q2
          dsimp only at q3
          omega
      subst hr
      have k2 := fs_or (fs_1 (g := c p + c (p + 1) ≤ 48) (p := p) (hi := max n (p + 1)) (by omega)) (fs_0 (lo := max n (p + 1)) (hi := max n (p + 1)) (Nat.le_refl _))
      refine fs_ext k2 (fun x => ⟨?_, ?_⟩)
      · rintro (⟨rfl, y⟩ | y)
        · exact ⟨0, by omega, rfl, by omega⟩
        · exact y.elim
      · rintro ⟨i, a, b, d⟩
        have : i = 0 := by omega
        subst this
        have b' : x = p := b
        subst b'
        exact Or.inl ⟨rfl, by omega⟩
end
