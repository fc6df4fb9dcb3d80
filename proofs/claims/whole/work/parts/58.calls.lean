theorem sm_go {c : Nat → Nat} {n : Nat} {P : Nat → Nat} (h : sm_ok c n P) {f : Nat} (h1 : m_I c n ≤ f) (h2 : f < m_I c n + m_F c n) : v_go c n f 141 (m_bo c n f) (v_0 c n f) = none := by
  have ht := sm_ty h f h2
  obtain ⟨a1, a2, a3, a4⟩ := h
  have hno := (fs_all a1 a2).1 a3
  cases e : v_go c n f 141 (m_bo c n f) (v_0 c n f) with
  | none => rfl
  | some x => exact absurd (Or.inr ⟨f, h1, h2, ht, e⟩) (hno x)
theorem beg_ok {c : Nat → Nat} {n : Nat} {P : Nat → Nat} (h : sm_ok c n P) {f : Nat} (h1 : m_I c n ≤ f) (h2 : f < m_I c n + m_F c n) : wk c n P f 141 (m_bo c n f) ([], [(0, rsf c n f, 0, false, m_bo c n f)], false) := by
  refine wk_of (b := m_bo c n f) 141 (m_bo c n f) (v_0 c n f) rfl (h.2.2.2 f h1 h2) (sm_go h h1 h2) (by simp [v_0]) ⟨fun _ => rfl, trivial⟩ ⟨fun z => absurd rfl z, fun _ => rfl, trivial⟩ ⟨Nat.le_refl _, fun _ => Or.inr (Or.inl (Nat.le_refl _))⟩
theorem sm_en {c : Nat → Nat} {n : Nat} {P : Nat → Nat} (h : sm_ok c n P) {i : Nat} (hi : i < c (tl_q c n (m_pG c n))) : c (tl_q c n (m_pG c n) + 1 + i) < m_I c n + m_F c n ∨ c (tl_q c n (m_pG c n) + 1 + i) = 255 := by
  obtain ⟨a1, a2, a3, a4⟩ := h
  have hno := (fs_all a1 a2).1 a3
  refine Classical.byContradiction (fun q => ?_)
  refine hno (tl_q c n (m_pG c n) + 1 + i) (Or.inl (Or.inl (Or.inr ?_)))
  exact ⟨i, hi, rfl, by omega, by omega⟩
theorem sm_t {c : Nat → Nat} {n : Nat} {P : Nat → Nat} (h : sm_ok c n P) {f : Nat} (h2 : f < m_I c n + m_F c n) : ty_ok c (m_ty c n (c (m_fa c n f))) := ((mp_of h.2.1).1.2.1 _ (sm_ty h f h2)).1
theorem sg_eq {c c' : Nat → Nat} {t t' : Nat} (h : ty_ok c t) (h' : ty_ok c' t') (e : sg c t = sg c' t') : c t = c' t' ∧ ty_r c t = ty_r c' t' ∧ ∀ k, k < c t → c (t + 1 + k) = c' (t' + 1 + k) := by
  obtain ⟨a1, a2, a3⟩ := sg_np h
  obtain ⟨b1, b2, b3⟩ := sg_np h'
  rw [e] at a1 a2 a3
  have e1 : c t = c' t' := by omega
  refine ⟨e1, by omega, fun k hk => ?_⟩
  rw [← a3 k hk, b3 k (by omega)]
def tg (B : Nat → Bool) (C : Nat → Nat → Nat) (N : Nat → Nat) (s x t f : Nat) : Prop :=
  t < 2 ∧ B t = true ∧ f < m_I (C t) (N t) + m_F (C t) (N t) ∧ sg (C s) (m_ty (C s) (N s) (C s (m_fa (C s) (N s) x))) = sg (C t) (m_ty (C t) (N t) (C t (m_fa (C t) (N t) f))) ∧
  ((t = s ∧ f = x) ∨ (s = 1 ∧ t = 0 ∧ x < m_I (C 1) (N 1) ∧ f = C 1 (m_im (C 1) (N 1) x + 1) ∧ f < 7)) ∧
  (f < m_I (C t) (N t) → (C t (m_im (C t) (N t) f + 1) = 16 ∧ sg (C t) (m_ty (C t) (N t) (C t (m_im (C t) (N t) f))) = 5) ∨ (C t (m_im (C t) (N t) f + 1) = 17 ∧ sg (C t) (m_ty (C t) (N t) (C t (m_im (C t) (N t) f))) = 256))
theorem tg_of {B : Nat → Bool} {C : Nat → Nat → Nat} {N : Nat → Nat} {PP : Nat → Nat → Nat} (h : ∀ s, s < 2 → B s = true → sm_ok (C s) (N s) (PP s) ∧ ∀ k, k < m_I (C s) (N s) → lk_ok s (B 0) (C s) (N s) (C 0) (N 0) k) {s x : Nat} (hs : s < 2) (hB : B s = true) (hx : x < m_I (C s) (N s) + m_F (C s) (N s)) : ∃ t f, tg B C N s x t f := by
  obtain ⟨S, lk⟩ := h s hs hB
  have host : ∀ t f, t < 2 → B t = true → f < m_I (C t) (N t) → (C t (m_im (C t) (N t) f + 1) = 16 ∨ C t (m_im (C t) (N t) f + 1) = 17 ∨ t = 0) → (C t (m_im (C t) (N t) f + 1) = 16 ∧ sg (C t) (m_ty (C t) (N t) (C t (m_im (C t) (N t) f))) = 5) ∨ (C t (m_im (C t) (N t) f + 1) = 17 ∧ sg (C t) (m_ty (C t) (N t) (C t (m_im (C t) (N t) f))) = 256) := by
    intro t f ht hBt hf hc
    have := (h t ht hBt).2 f hf
    unfold lk_ok at this
    by_cases z : C t (m_im (C t) (N t) f + 1) = 16
    · rw [if_pos z] at this; exact Or.inl ⟨z, this⟩
    · rw [if_neg z] at this
      by_cases z2 : C t (m_im (C t) (N t) f + 1) = 17
      · rw [if_pos z2] at this; exact Or.inr ⟨z2, this⟩
      · rw [if_neg z2] at this; omega
  by_cases z : x < m_I (C s) (N s)
  · have l := lk x z
    unfold lk_ok at l
    by_cases z1 : C s (m_im (C s) (N s) x + 1) = 16
    · exact ⟨s, x, hs, hB, hx, rfl, Or.inl ⟨rfl, rfl⟩, fun y => host s x hs hB y (Or.inl z1)⟩
    · rw [if_neg z1] at l
      by_cases z2 : C s (m_im (C s) (N s) x + 1) = 17
      · exact ⟨s, x, hs, hB, hx, rfl, Or.inl ⟨rfl, rfl⟩, fun y => host s x hs hB y (Or.inr (Or.inl z2))⟩
      · rw [if_neg z2] at l
        obtain ⟨l1, l2, l3, l4, l5⟩ := l
        subst l1
        refine ⟨0, C 1 (m_im (C 1) (N 1) x + 1), by omega, l3, l4, ?_, Or.inr ⟨rfl, rfl, z, rfl, l2⟩, fun y => host 0 _ (by omega) l3 y (Or.inr (Or.inr rfl))⟩
        have e : m_fa (C 1) (N 1) x = m_im (C 1) (N 1) x := by rw [m_fa, if_pos z]
        rw [e]; exact l5.symm
  · exact ⟨s, x, hs, hB, hx, rfl, Or.inl ⟨rfl, rfl⟩, fun y => absurd y z⟩
