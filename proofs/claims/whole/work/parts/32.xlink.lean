theorem sg_same {c c' : Nat → Nat} {t t' : Nat} (h : ty_ok c t) (h' : ty_ok c' t') : (∀ i, i < 2 + c t + c (t + 1 + c t) → c (t + i) = c' (t' + i)) ↔ sg c t = sg c' t' := by
  constructor
  · intro e
    have e0 := e 0 (by omega)
    rw [Nat.add_zero, Nat.add_zero] at e0
    have er := e (1 + c t) (by omega)
    rw [show t + (1 + c t) = t + 1 + c t by omega, show t' + (1 + c t) = t' + 1 + c t by omega] at er
    unfold sg
    rw [← e0, ← er]
    have hk : ∀ k, k < c t → c (t + 1 + k) = c' (t' + 1 + k) := by
      intro k hk
      have := e (1 + k) (by omega)
      rw [show t + (1 + k) = t + 1 + k by omega, show t' + (1 + k) = t' + 1 + k by omega] at this
      exact this
    have hl : ∀ r i p p' x, (∀ k, k < r → c (p + k) = c' (p' + k)) → sg_l c r i p x = sg_l c' r i p' x := by
      intro r
      induction r with
      | zero => intro i p p' x _; rfl
      | succ r ih =>
        intro i p p' x hh
        rw [sg_l, sg_l]
        have h0 := hh 0 (by omega)
        rw [Nat.add_zero, Nat.add_zero] at h0
        rw [h0]
        exact ih _ _ _ _ (fun k hk2 => by have := hh (k + 1) (by omega); rw [show p + (k + 1) = p + 1 + k by omega, show p' + (k + 1) = p' + 1 + k by omega] at this; exact this)
    rw [hl (c t) 0 (t + 1) (t' + 1) (c t) hk]
    congr 1
    by_cases z : c (t + 1 + c t) = 0
    · rw [if_pos z, if_pos z]
    · rw [if_neg z, if_neg z]
      have := e (2 + c t) (by omega)
      rw [show t + (2 + c t) = t + 1 + c t + 1 by omega, show t' + (2 + c t) = t' + 1 + c t + 1 by omega] at this
      rw [this]
  · intro e i hi
    obtain ⟨n1, n2, n3⟩ := sg_np h
    obtain ⟨m1, m2, m3⟩ := sg_np h'
    rw [e] at n1 n2 n3
    have e0 : c t = c' t' := n1.symm.trans m1
    have er : ty_r c t = ty_r c' t' := n2.symm.trans m2
    have hres : c (t + 1 + c t) = c' (t' + 1 + c t) ∧ (c (t + 1 + c t) = 1 → c (t + 1 + c t + 1) = c' (t' + 1 + c t + 1)) := by
      unfold ty_r at er
      rw [← e0] at er
      have a1 := h.2.2.1
      have a2 := h.2.2.2
      have b1 := h'.2.2.1
      have b2 := h'.2.2.2
      rw [← e0] at b1 b2
      by_cases z : c (t + 1 + c t) = 0
      · rw [if_pos z] at er
        by_cases z2 : c' (t' + 1 + c t) = 0
        · exact ⟨by omega, fun q => absurd q (by omega)⟩
        · rw [if_neg z2] at er
          have := b2 (by omega)
          omega
      · rw [if_neg z] at er
        by_cases z2 : c' (t' + 1 + c t) = 0
        · rw [if_pos z2] at er
          have := a2 (by omega)
          omega
        · rw [if_neg z2] at er
          exact ⟨by omega, fun _ => er⟩
    have h1 := h.2.2.1
    have hcase : i = 0 ∨ (1 ≤ i ∧ i ≤ c t) ∨ i = 1 + c t ∨ (i = 2 + c t ∧ c (t + 1 + c t) = 1) := by omega
    rcases hcase with z | z | z | z
    · subst z; exact e0
    · obtain ⟨k, rfl⟩ : ∃ k, i = 1 + k := ⟨i - 1, by omega⟩
      rw [show t + (1 + k) = t + 1 + k by omega, show t' + (1 + k) = t' + 1 + k by omega, ← n3 k (by omega), ← m3 k (by omega)]
    · rw [z, show t + (1 + c t) = t + 1 + c t by omega, show t' + (1 + c t) = t' + 1 + c t by omega]; exact hres.1
    · rw [z.1, show t + (2 + c t) = t + 1 + c t + 1 by omega, show t' + (2 + c t) = t' + 1 + c t + 1 by omega]; exact hres.2 z.2
section
variable {w : SX} {c c' : Nat → Nat} {n n' m m' : Nat} {post : Int32 → Prop}
theorem xm_same_l (hm : m < 3) (hm' : m' < 3) (M : mx_ok w m c) (M' : mx_ok w m' c') (t t' N : Nat) (ht : t < 200) (ht' : t' < 200) (hN : N < 20) (b : Bool) (hb : (b = true ↔ ∀ i, i < N → c (t + i) = c' (t' + i))) (h : post (bb_i b)) : ∀ r i l, i + r = N → r < l → (∀ j, j < i → c (t + j) = c' (t' + j)) →
    wX_sameType_54 post (nI m) (nI m') (nI t) (nI t') (nI N) (gx_byteCount w) (gx_wrongPlace w) (gx_at w) (gx_frameCount w) (gx_kindCount w) (gx_valueCount w) (gx_activeCount w) (gx_goesOn w) (gx_outcome w) (gx_resultValue w) (gx_trapPlace w) (gx_fuelUsed w) (gx_firstWaiting w) (gx_waitingCount w) (gx_printCount w) (gx_code w) (gx_facts w) (gx_partner w) (gx_loaded w) (gx_globals w) (gx_memories w) (gx_frameAt w) (gx_frameHeight w) (gx_frameResult w) (gx_frameDead w) (gx_kinds w) (gx_values w) (gx_variables w) (gx_activeSlot w) (gx_activeGives w) (gx_activeFrame w) (gx_activeResume w) (gx_waiting w) (gx_prints w) l (nI i) := by
  intro r
  induction r with
  | zero =>
    intro i l hi hl hj
    obtain ⟨l, rfl⟩ : ∃ j, l = j + 1 := ⟨l - 1, by omega⟩
    refine pk_le N i (fun _ => ?_) (fun z => absurd z (by omega))
    have : b = true := hb.mpr (fun j hj2 => hj j (by omega))
    rw [bb_1 this] at h; exact h
  | succ r ih =>
    intro i l hi hl hj
    obtain ⟨l, rfl⟩ : ∃ j, l = j + 1 := ⟨l - 1, by omega⟩
    refine pk_le N i (fun z => absurd z (by omega)) (fun _ => ?_)
    refine eq_p (P := fun z => wpX_byteAt _ _ _ z) (nI_add t i) ?_
    refine xx_byte M hm (by omega) ?_
    refine eq_p (P := fun z => wpX_byteAt _ _ _ z) (nI_add t' i) ?_
    refine xx_byte M' hm' (by omega) ?_
    refine pk_eq (c (t + i)) (c' (t' + i)) (fun z => nm_r (nI_1 i) ?_) (fun z => ?_) rfl rfl (by have := M.2.1 (t + i); omega) (by have := M'.2.1 (t' + i); omega)
    · refine ih (i + 1) l (by omega) (by omega) (fun j hj2 => ?_)
      rcases Nat.lt_or_ge j i with q | q
      · exact hj j q
      · rw [show j = i by omega]; exact z
    · have : b = false := by
        cases b with
        | false => rfl
        | true => exact absurd (hb.mp rfl i (by omega)) z
      rw [bb_0 this] at h; exact h
theorem xm_same (hm : m < 3) (hm' : m' < 3) (M : mx_ok w m c) (M' : mx_ok w m' c') (Fx : xf_ok (m * 22) c n (gx_facts w)) (Fx' : xf_ok (m' * 22) c' n' (gx_facts w)) (mp : mp_ok c n) (mp' : mp_ok c' n') (hn : n ≤ 140) (hn' : n' ≤ 140) (a a' : Nat) (ha : a < c 0) (ha' : a' < c' 0)
    (h : post (bb_i (decide (sg c (m_ty c n a) = sg c' (m_ty c' n' a'))))) : wpX_sameType post w (nI m) (nI a) (nI m') (nI a') := by
  obtain ⟨t1, t2⟩ := mp.2.1 a ha
  obtain ⟨s1, s2⟩ := mp'.2.1 a' ha'
  have h0 := mp.1
  have h0' := mp'.1
  have t0 := t1.1
  have tr := t1.2.2.1
  unfold wpX_sameType
  refine eq_p (P := fun z => wpX_fact _ _ _ z) (show (8 : Int32) + nI a = nI (8 + a) from nI_add 8 a) ?_
  refine xx_fact (m := m) (w := 8 + a) (z := nI (m_ty c n a)) (by rw [show m * 22 + (8 + a) = m * 22 + 8 + a by omega]; exact Fx.2.2.2.2.2.2.2.2.1 a ha) hm (by omega) ?_
  refine eq_p (P := fun z => wpX_fact _ _ _ z) (show (8 : Int32) + nI a' = nI (8 + a') from nI_add 8 a') ?_
  refine xx_fact (m := m') (w := 8 + a') (z := nI (m_ty c' n' a')) (by rw [show m' * 22 + (8 + a') = m' * 22 + 8 + a' by omega]; exact Fx'.2.2.2.2.2.2.2.2.1 a' ha') hm' (by omega) ?_
  refine xx_byte M hm (by omega) ?_
  refine eq_p (P := fun z => wpX_byteAt _ _ _ z) (show (nI (m_ty c n a) + 1) + nI (c (m_ty c n a)) = nI (m_ty c n a + 1 + c (m_ty c n a)) from by rw [nI_1, nI_add]) ?_
  refine xx_byte M hm (by omega) (nm_r (show (2 + nI (c (m_ty c n a))) + nI (c (m_ty c n a + 1 + c (m_ty c n a))) = nI (2 + c (m_ty c n a) + c (m_ty c n a + 1 + c (m_ty c n a))) from by rw [show (2 : Int32) = nI 2 from rfl, nI_add, nI_add]) ⟨2 + c (m_ty c n a) + c (m_ty c n a + 1 + c (m_ty c n a)) + 1, ?_⟩)
  refine xm_same_l hm hm' M M' _ _ _ (by omega) (by omega) (by omega) (decide (sg c (m_ty c n a) = sg c' (m_ty c' n' a'))) ?_ h _ 0 _ (Nat.zero_add _) (by omega) (fun j hj => absurd hj (by omega))
  rw [decide_eq_true_iff]
  exact (sg_same t1 s1).symm
end
def lk_ok (slot : Nat) (l0 : Bool) (c : Nat → Nat) (n : Nat) (c0 : Nat → Nat) (n0 : Nat) (k : Nat) : Prop :=
  if c (m_im c n k + 1) = 16 then sg c (m_ty c n (c (m_im c n k))) = 5
  else if c (m_im c n k + 1) = 17 then sg c (m_ty c n (c (m_im c n k))) = 256
  else slot = 1 ∧ c (m_im c n k + 1) < 7 ∧ l0 = true ∧ c (m_im c n k + 1) < m_I c0 n0 + m_F c0 n0 ∧ sg c0 (m_ty c0 n0 (c0 (m_fa c0 n0 (c (m_im c n k + 1))))) = sg c (m_ty c n (c (m_im c n k)))
theorem sg_5 {c : Nat → Nat} {t : Nat} (h : ty_ok c t) : sg c t = 5 ↔ c t = 1 ∧ c (t + 1) = 1 ∧ c (t + 2) = 0 := by
  obtain ⟨n1, n2, n3⟩ := sg_np h
  have hr := h.2.2.2
  have h3 := h.2.2.1
  constructor
  · intro e
    have e0 : c t = 1 := by omega
    have k0 := n3 0 (by omega)
    rw [e] at k0 n2
    have k1 : c (t + 1) = 1 := by simpa using k0.symm
    refine ⟨e0, k1, ?_⟩
    unfold ty_r at n2
    rw [e0] at n2 hr h3
    rw [show t + 1 + 1 = t + 2 by omega] at n2 hr h3
    by_cases z : c (t + 2) = 0
    · exact z
    · rw [if_neg z] at n2
      have := hr (by omega)
      omega
  · rintro ⟨e0, e1, e2⟩
    unfold sg
    rw [e0]
    simp only [sg_l]
    rw [e1, show t + 1 + 1 = t + 2 by omega, if_pos e2]
theorem sg_256 {c : Nat → Nat} {t : Nat} (h : ty_ok c t) : sg c t = 256 ↔ c t = 0 ∧ c (t + 1) = 1 ∧ c (t + 2) = 1 := by
  obtain ⟨n1, n2, n3⟩ := sg_np h
  have hr := h.2.2.2
  have h3 := h.2.2.1
  constructor
  · intro e
    have e0 : c t = 0 := by omega
    rw [e] at n2
    unfold ty_r at n2
    rw [e0, Nat.add_zero] at n2 h3
    by_cases z : c (t + 1) = 0
    · rw [if_pos z] at n2; omega
    · rw [if_neg z] at n2
      exact ⟨e0, by omega, by rw [show t + 2 = t + 1 + 1 by omega]; omega⟩
  · rintro ⟨e0, e1, e2⟩
    unfold sg
    rw [e0]
    simp only [sg_l, Nat.add_zero]
    rw [if_neg (by omega), show t + 1 + 1 = t + 2 by omega, e2]
section
variable {w : SX} {c c0 : Nat → Nat} {n n0 : Nat} {post : Int32 → Prop}
theorem xm_fits (M : mx_ok w 2 c) (Fx : xf_ok 44 c n (gx_facts w)) (mp : mp_ok c n) (hn : n ≤ 140) (s : Nat) (hs : s < 2) (l0 : Bool) (hl : gx_loaded w 0 = bb_i l0) (H0 : l0 = true → mx_ok w 0 c0 ∧ xf_ok 0 c0 n0 (gx_facts w) ∧ mp_ok c0 n0 ∧ n0 ≤ 140 ∧ ∀ f, f < m_I c0 n0 + m_F c0 n0 → c0 (m_fa c0 n0 f) < c0 0) (k : Nat) (hk : k < m_I c n) (ht : c (m_im c n k) < c 0)
    (h1 : lk_ok s l0 c n c0 n0 k → post 1) (h2 : ¬ lk_ok s l0 c n c0 n0 k → post 0) : wpX_fits post w (nI s) (nI (c (m_im c n k))) (nI (c (m_im c n k + 1))) := by
  obtain ⟨t1, t2⟩ := mp.2.1 _ ht
  have h0 := mp.1
  have t0 := t1.1
  have h256 := M.2.1
  unfold lk_ok at h1 h2
  unfold wpX_fits
  refine eq_p (P := fun z => wpX_fact _ _ _ z) (show (8 : Int32) + nI (c (m_im c n k)) = nI (8 + c (m_im c n k)) from nI_add 8 _) ?_
  refine xx_fact (m := 2) (w := 8 + c (m_im c n k)) (z := nI (m_ty c n (c (m_im c n k)))) (by rw [show 2 * 22 + (8 + c (m_im c n k)) = 44 + 8 + c (m_im c n k) by omega]; exact Fx.2.2.2.2.2.2.2.2.1 _ ht) (by omega) (by omega) ?_
  refine xx_byte (m := 2) M (by omega) (by omega) ?_
  refine eq_p (P := fun z => wpX_byteAt _ _ _ z) (nI_1 (m_ty c n (c (m_im c n k)))) ?_
  refine xx_byte (m := 2) M (by omega) (by omega) ?_
  refine eq_p (P := fun z => wpX_byteAt _ _ _ z) (show nI (m_ty c n (c (m_im c n k))) + 2 = nI (m_ty c n (c (m_im c n k)) + 2) from nI_add _ 2) ?_
  refine xx_byte (m := 2) M (by omega) (by omega) ?_
  generalize et : m_ty c n (c (m_im c n k)) = t at *
  have b0 := h256 t
  have b1 := h256 (t + 1)
  have b2 := h256 (t + 2)
  have bw := h256 (m_im c n k + 1)
  generalize ew : c (m_im c n k + 1) = wh at *
  refine pk_eq wh 16 (fun z => ?_) (fun z => ?_)
  · rw [if_pos z, sg_5 t1] at h1 h2
    refine pk_eq (c t) 1 (fun y => pk_eq (c (t + 1)) 1 (fun y1 => pk_eq (c (t + 2)) 0 (fun y2 => h1 ⟨y, y1, y2⟩) (fun y2 => h2 (fun q => y2 q.2.2))) (fun y1 => h2 (fun q => y1 q.2.1))) (fun y => h2 (fun q => y q.1))
  · rw [if_neg z] at h1 h2
    refine pk_eq wh 17 (fun z2 => ?_) (fun z2 => ?_)
    · rw [if_pos z2, sg_256 t1] at h1 h2
      refine pk_eq (c t) 0 (fun y => pk_eq (c (t + 1)) 1 (fun y1 => pk_eq (c (t + 2)) 1 (fun y2 => h1 ⟨y, y1, y2⟩) (fun y2 => h2 (fun q => y2 q.2.2))) (fun y1 => h2 (fun q => y1 q.2.1))) (fun y => h2 (fun q => y q.1))
    · rw [if_neg z2] at h1 h2
      refine pk_eq s 1 (fun y => pk_lt 6 wh (fun y1 => h2 (fun q => by omega)) (fun y1 => ?_)) (fun y => h2 (fun q => y q.1))
      cases l0 with
      | false => exact br_t hl (h2 (fun q => ff_t q.2.2.1))
      | true =>
        obtain ⟨M0, Fx0, mp0, hn0, hv0⟩ := H0 rfl
        refine br_f (fun q => absurd (hl.symm.trans q) (by decide)) ?_
        have hI0 := mp0.2.2.1
        have hF0 := mp0.2.2.2.1
        refine xx_fact (m := 0) (w := 2) (z := nI (m_I c0 n0 + m_F c0 n0)) (by exact Fx0.2.2.1) (by omega) (by omega) ?_
        refine pk_lt wh (m_I c0 n0 + m_F c0 n0) (fun y2 => ?_) (fun y2 => h2 (fun q => by omega))
        refine xm_typeOf (w := w) (m := 0) (by omega) M0 Fx0 mp0 hn0 wh y2 ?_
        refine xm_same (w := w) (m := 2) (m' := 0) (by omega) (by omega) M M0 Fx Fx0 mp mp0 hn hn0 _ _ ht (hv0 wh y2) ⟨bb_nar _, ?_⟩
        rw [et]
        by_cases q : sg c t = sg c0 (m_ty c0 n0 (c0 (m_fa c0 n0 wh)))
        · rw [bb_1 (decide_eq_true q)]; exact h1 ⟨y, by omega, rfl, y2, q.symm⟩
        · rw [bb_0 (decide_eq_false q)]; exact h2 (fun r => q r.2.2.2.2.symm)
end
section
variable {u : SX} {c c0 : Nat → Nat} {n n0 : Nat} {WP a fc kc : Int32} {F Pa A FH FR FD KI : Nat → Int32}
theorem x_links_l {post : Int32 → SX → Prop} (M : mx_ok u 2 c) (Fx : xf_ok 44 c n F) (mp : mp_ok c n) (hn : n ≤ 140) (s : Nat) (hs : s < 2) (l0 : Bool) (hl : gx_loaded u 0 = bb_i l0) (H0 : l0 = true → mx_ok u 0 c0 ∧ xf_ok 0 c0 n0 F ∧ mp_ok c0 n0 ∧ n0 ≤ 140 ∧ ∀ f, f < m_I c0 n0 + m_F c0 n0 → c0 (m_fa c0 n0 f) < c0 0) (hv : ∀ k, k < m_I c n → c (m_im c n k) < c 0)
    (h1 : (∀ k, k < m_I c n → lk_ok s l0 c n c0 n0 k) → ∀ a, post 1 (xl u WP a fc kc F Pa A FH FR FD KI)) (h2 : ∀ k, k < m_I c n → ¬ lk_ok s l0 c n c0 n0 k → (∀ j, j < k → lk_ok s l0 c n c0 n0 j) → post 0 (xl u WP (nI (m_im c n k + 1)) fc kc F Pa A FH FR FD KI)) :
    ∀ r i l (a : Int32), i + r = m_I c n → r < l → (∀ j, j < i → lk_ok s l0 c n c0 n0 j) →
    wX_checkLinks_9 post (nI s) (nI (m_I c n)) (gx_byteCount u) WP fc kc (gx_valueCount u) (gx_activeCount u) (gx_goesOn u) (gx_outcome u) (gx_resultValue u) (gx_trapPlace u) (gx_fuelUsed u) (gx_firstWaiting u) (gx_waitingCount u) (gx_printCount u) (gx_code u) F Pa (gx_loaded u) (gx_globals u) (gx_memories u) A FH FR FD KI (gx_values u) (gx_variables u) (gx_activeSlot u) (gx_activeGives u) (gx_activeFrame u) (gx_activeResume u) (gx_waiting u) (gx_prints u) l (nI i) a := by
  have h0 := mp.1
  have hI := mp.2.2.1
  intro r
  induction r with
  | zero =>
    intro i l a hr hl2 hj
    obtain ⟨l, rfl⟩ : ∃ j, l = j + 1 := ⟨l - 1, by omega⟩
    exact pk_le (m_I c n) i (fun _ => h1 (fun k hk => hj k (by omega)) _) (fun z => absurd z (by omega))
  | succ r ih =>
    intro i l a hr hl2 hj
    obtain ⟨l, rfl⟩ : ∃ j, l = j + 1 := ⟨l - 1, by omega⟩
    have hi : i < m_I c n := by omega
    have efa : m_fa c n i = m_im c n i := if_pos hi
    have hfa := mp.2.2.2.2.1 i (by omega)
    rw [efa] at hfa
    refine pk_le (m_I c n) i (fun z => absurd z (by omega)) (fun _ => ?_)
    refine eq_p (P := fun z => wpX_fact _ _ _ z) (show (12 : Int32) + nI i = nI (12 + i) from nI_add 12 i) ?_
    refine xx_fact (m := 2) (w := 12 + i) (z := nI (m_im c n i)) (by rw [show 2 * 22 + (12 + i) = 44 + 12 + i by omega, ← efa]; exact Fx.2.2.2.2.2.2.2.2.2.1 i (by omega)) (by omega) (by omega) (nm_r (nI_1 _) ?_)
    refine xm_typeOf (w := (xl u WP (nI (m_im c n i + 1)) fc kc F Pa A FH FR FD KI)) (m := 2) (by omega) M Fx mp hn i (by omega) ?_
    rw [efa]
    refine xx_byte (m := 2) M (by omega) (by omega) ?_
    refine xm_fits (w := (xl u WP (nI (m_im c n i + 1)) fc kc F Pa A FH FR FD KI)) (c0 := c0) (n0 := n0) M Fx mp hn s hs l0 hl H0 i hi (hv i hi) (fun z => br_f (by decide) (nm_r (nI_1 i) ?_)) (fun z => br_t rfl (h2 i hi z hj))
    refine ih (i + 1) l _ (by omega) (by omega) (fun j hj2 => ?_)
    rcases Nat.lt_or_ge j i with q | q
    · exact hj j q
    · rw [show j = i by omega]; exact z
theorem x_links {post : Int32 → SX → Prop} (M : mx_ok u 2 c) (Fx : xf_ok 44 c n F) (mp : mp_ok c n) (hn : n ≤ 140) (s : Nat) (hs : s < 2) (l0 : Bool) (hl : gx_loaded u 0 = bb_i l0) (H0 : l0 = true → mx_ok u 0 c0 ∧ xf_ok 0 c0 n0 F ∧ mp_ok c0 n0 ∧ n0 ≤ 140 ∧ ∀ f, f < m_I c0 n0 + m_F c0 n0 → c0 (m_fa c0 n0 f) < c0 0) (hv : ∀ k, k < m_I c n → c (m_im c n k) < c 0)
    (h1 : (∀ k, k < m_I c n → lk_ok s l0 c n c0 n0 k) → ∀ a, post 1 (xl u WP a fc kc F Pa A FH FR FD KI)) (h2 : ∀ k, k < m_I c n → ¬ lk_ok s l0 c n c0 n0 k → (∀ j, j < k → lk_ok s l0 c n c0 n0 j) → post 0 (xl u WP (nI (m_im c n k + 1)) fc kc F Pa A FH FR FD KI)) :
    wpX_checkLinks post (xl u WP a fc kc F Pa A FH FR FD KI) (nI s) := by
  unfold wpX_checkLinks
  refine xx_fact (m := 2) (w := 1) (z := nI (m_I c n)) (by exact Fx.2.1) (by omega) (by omega) ⟨m_I c n + 1, ?_⟩
  exact x_links_l M Fx mp hn s hs l0 hl H0 hv h1 h2 (m_I c n) 0 _ a (by omega) (by omega) (fun j hj => absurd hj (by omega))
end
section
variable {w : SX} {c : Nat → Nat} {m : Nat} {post : Int64 → Prop}
theorem xm_c88 (kind : Nat) (hk : kind < 256) (x : Int64) (h : post (if kind = 1 then x.toInt32.toInt64 else x)) : wX_constAt_88 post (nI kind) x (gx_byteCount w) (gx_wrongPlace w) (gx_at w) (gx_frameCount w) (gx_kindCount w) (gx_valueCount w) (gx_activeCount w) (gx_goesOn w) (gx_outcome w) (gx_resultValue w) (gx_trapPlace w) (gx_fuelUsed w) (gx_firstWaiting w) (gx_waitingCount w) (gx_printCount w) (gx_code w) (gx_facts w) (gx_partner w) (gx_loaded w) (gx_globals w) (gx_memories w) (gx_frameAt w) (gx_frameHeight w) (gx_frameResult w) (gx_frameDead w) (gx_kinds w) (gx_values w) (gx_variables w) (gx_activeSlot w) (gx_activeGives w) (gx_activeFrame w) (gx_activeResume w) (gx_waiting w) (gx_prints w) := by
  refine pk_eq kind 1 (fun z => ?_) (fun z => ?_)
  · rw [if_pos z] at h; exact h
  · rw [if_neg z] at h; exact h
theorem xm_c62 (kind : Nat) (hk : kind < 256) (x : Int64) (i b : Nat) (hi : i < 100) (h : post (cv_fin kind x i b)) : wX_constAt_62 post (nI kind) x (nI (7 * i)) (nI b) (gx_byteCount w) (gx_wrongPlace w) (gx_at w) (gx_frameCount w) (gx_kindCount w) (gx_valueCount w) (gx_activeCount w) (gx_goesOn w) (gx_outcome w) (gx_resultValue w) (gx_trapPlace w) (gx_fuelUsed w) (gx_firstWaiting w) (gx_waitingCount w) (gx_printCount w) (gx_code w) (gx_facts w) (gx_partner w) (gx_loaded w) (gx_globals w) (gx_memories w) (gx_frameAt w) (gx_frameHeight w) (gx_frameResult w) (gx_frameDead w) (gx_kinds w) (gx_values w) (gx_variables w) (gx_activeSlot w) (gx_activeGives w) (gx_activeFrame w) (gx_activeResume w) (gx_waiting w) (gx_prints w) := by
  refine br_c (fun z => xm_c88 kind hk x ?_) (fun z => pk_le 64 (7 * i) (fun z2 => xm_c88 kind hk x ?_) (fun z2 => nm_e (xm_c88 kind hk _ ?_)))
  · rw [cv_fin, if_neg (show ¬ (7 * i < 64 ∧ ¬ (nI b &&& 64) = 0) from fun y => y.2 z)] at h; exact h
  · rw [cv_fin, if_neg (show ¬ (7 * i < 64 ∧ ¬ (nI b &&& 64) = 0) by omega)] at h; exact h
  · rw [cv_fin, if_pos (show 7 * i < 64 ∧ ¬ (nI b &&& 64) = 0 from ⟨z2, z⟩)] at h; exact h
theorem xm_const_l (hm : m < 3) (M : mx_ok w m c) (p kind : Nat) (hp : p < 500) (hk : kind < 256) : ∀ r i l x b, i + r = 10 → r < l → 127 < b → b < 256 → (∃ j, j < r ∧ c (p + i + j) ≤ 127) → post (cv c kind r (p + i) x i) → wX_constAt_14 post (nI m) (nI p) (nI kind) (gx_byteCount w) (gx_wrongPlace w) (gx_at w) (gx_frameCount w) (gx_kindCount w) (gx_valueCount w) (gx_activeCount w) (gx_goesOn w) (gx_outcome w) (gx_resultValue w) (gx_trapPlace w) (gx_fuelUsed w) (gx_firstWaiting w) (gx_waitingCount w) (gx_printCount w) (gx_code w) (gx_facts w) (gx_partner w) (gx_loaded w) (gx_globals w) (gx_memories w) (gx_frameAt w) (gx_frameHeight w) (gx_frameResult w) (gx_frameDead w) (gx_kinds w) (gx_values w) (gx_variables w) (gx_activeSlot w) (gx_activeGives w) (gx_activeFrame w) (gx_activeResume w) (gx_waiting w) (gx_prints w) l x (nI (7 * i)) (nI b) (nI i) := by
  intro r
  induction r with
  | zero => intro i l x b hi hl hb hb2 ⟨j, hj, _⟩; omega
  | succ r ih =>
    intro i l x b hi hl hb hb2 hex h
    obtain ⟨l, rfl⟩ : ∃ j, l = j + 1 := ⟨l - 1, by omega⟩
    refine pk_le 10 i (fun z => absurd z (by omega)) (fun _ => pk_le b 127 (fun z => absurd z (by omega)) (fun _ => ?_))
    refine eq_p (P := fun z => wpX_byteAt _ _ _ z) (nI_add p i) ?_
    refine xx_byte M hm (by omega) (nm_e (nm_r (show nI (7 * i) + 7 = nI (7 * (i + 1)) from nI_add (7 * i) 7) (nm_r (nI_1 i) ?_)))
    rw [cv] at h
    by_cases h4 : 127 < c (p + i)
    · rw [if_pos h4] at h
      refine ih (i + 1) l _ (c (p + i)) (by omega) (by omega) h4 (M.2.1 _) ?_ h
      obtain ⟨j, hj, hj2⟩ := hex
      cases j with
      | zero => rw [Nat.add_zero] at hj2; omega
      | succ j => exact ⟨j, by omega, by rw [show p + (i + 1) + j = p + i + (j + 1) by omega]; exact hj2⟩
    · rw [if_neg h4] at h
      obtain ⟨l, rfl⟩ : ∃ j, l = j + 1 := ⟨l - 1, by omega⟩
      have hb3 := M.2.1 (p + i)
      refine pk_le 10 (i + 1) (fun _ => xm_c62 kind hk _ (i + 1) _ (by omega) h) (fun _ => pk_le (c (p + i)) 127 (fun _ => xm_c62 kind hk _ (i + 1) _ (by omega) h) (fun z => absurd z h4))
theorem xm_const (hm : m < 3) (M : mx_ok w m c) (p kind : Nat) (hp : p < 500) (hk : kind < 256) (hex : ∃ j, j < 10 ∧ c (p + j) ≤ 127) (h : post (cv c kind 10 p 0 0)) : wpX_constAt post w (nI m) (nI p) (nI kind) :=
  ⟨11, xm_const_l hm M p kind hp hk 10 0 11 0 128 (by omega) (by omega) (by omega) (by omega) (by rw [Nat.add_zero]; exact hex) h⟩
end
theorem rd_C_ex {c : Nat → Nat} {n : Nat} : ∀ k p, (rd_C c n k (true, p)).1 = true → ∃ j, j < k ∧ c (p + j) ≤ 127 := by
  intro k
  induction k with
  | zero => intro p h; exact ff_t h
  | succ k ih =>
    intro p h
    rw [rd_C] at h
    generalize (if k = 0 then 127 else 255) = hb at h
    rcases rd_tk_or c n 0 hb (true, p) with ⟨e, _, _, _, h5⟩ | e
    · rw [e] at h
      dsimp only at h
      by_cases h4 : 127 < c p
      · rw [if_pos ⟨rfl, h4⟩] at h
        obtain ⟨j, hj, hj2⟩ := ih (p + 1) h
        exact ⟨j + 1, by omega, by rw [show p + (j + 1) = p + 1 + j by omega]; exact hj2⟩
      · exact ⟨0, by omega, by rw [Nat.add_zero]; omega⟩
    · rw [e, if_neg (fun z => ff_t z.1)] at h; exact ff_t h
