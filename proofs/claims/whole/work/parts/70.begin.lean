def pfill (V : Nat → Int64) (b : Nat) (a : Nat → Int64) : Nat → (Nat → Int64)
  | 0 => V
  | k + 1 => vp_updL (pfill V b a k) (b + k) (a k)
theorem pf_in {V : Nat → Int64} {b : Nat} {a : Nat → Int64} : ∀ k j, j < k → pfill V b a k (b + j) = a j := by
  intro k
  induction k with
  | zero => intro j hj; exact absurd hj (by omega)
  | succ k ih =>
    intro j hj
    rw [pfill]
    by_cases z : j = k
    · subst z; exact pk_uLs
    · rw [pk_uLn (by omega)]; exact ih j (by omega)
theorem pf_lo {V : Nat → Int64} {b : Nat} {a : Nat → Int64} : ∀ k j, j < b → pfill V b a k j = V j := by
  intro k
  induction k with
  | zero => intro j _; rfl
  | succ k ih => intro j hj; rw [pfill, pk_uLn (by omega)]; exact ih j hj
section
variable {c : Nat → Nat} {n m : Nat} {w : SX}
theorem xm_foreign {post : Int32 → Prop} (hm : m < 3) (M : mx_ok w m c) (Fx : xf_ok (m * 22) c n (gx_facts w)) (mp : mp_ok c n) (hn : n ≤ 140) (f : Nat) (hf : f < m_I c n + m_F c n) (h0 : f < m_I c n → post (nI (c (m_im c n f + 1)))) (h1 : m_I c n ≤ f → post (-1)) : wpX_foreign post w (nI m) (nI f) := by
  have hI := mp.2.2.1
  have hFn := mp.2.2.2.1
  have hfa := mp.2.2.2.2.1 f hf
  unfold wpX_foreign
  refine xx_fact (m := m) (w := 1) Fx.2.1 hm (by omega) ?_
  refine pk_lt f (m_I c n) (fun z => ?_) (fun z => h1 z)
  refine eq_p (P := fun z => wpX_fact _ _ _ z) (show (12 : Int32) + nI f = nI (12 + f) from nI_add 12 f) ?_
  refine xx_fact (m := m) (w := 12 + f) (z := nI (m_fa c n f)) (by have := Fx.2.2.2.2.2.2.2.2.2.1 f hf; rw [show m * 22 + (12 + f) = m * 22 + 12 + f by omega]; exact this) hm (by omega) ?_
  rw [nI_1]
  refine xx_byte M hm (by omega) ?_
  have e : m_fa c n f = m_im c n f := by rw [m_fa, if_pos z]
  rw [e]
  exact h0 z
end
section
variable {x_byteCount x_wrongPlace x_at x_frameCount x_kindCount x_valueCount x_activeCount x_goesOn x_outcome x_trapPlace x_fuelUsed x_firstWaiting x_waitingCount x_printCount : Int32} {x_resultValue : Int64} {x_code x_facts x_partner x_loaded x_memories x_frameAt x_frameHeight x_frameResult x_frameDead x_kinds x_activeSlot x_activeGives x_activeFrame x_activeResume x_waiting x_prints : Nat → Int32} {x_globals x_values x_variables : Nat → Int64}
variable {post : SX → Prop} {c : Nat → Nat} {n t f a i0 fc : Nat}
theorem r_beg_l {np ty : Nat} (ht : t < 3) (M : mx_c x_code t c) (Fx : xf_ok (t * 22) c n x_facts) (mp : mp_ok c n) (hn : n ≤ 140) (hf : f < m_I c n + m_F c n) (hty : c (m_fa c n f) < c 0) (ha : a < 10) (hnp : np ≤ 3) (hi : i0 + np < 256) (hfc : fc < 140) (ety : ty = c (m_fa c n f))
    (h : ∀ VR : Nat → Int64, (∀ j, j < 6 → VR (a * 6 + j) = if j < np then x_values (i0 + j) else 0) → (∀ j, ¬ (a * 6 ≤ j ∧ j < a * 6 + 6) → VR j = x_variables j) → post (x_byteCount, x_wrongPlace, x_at, nI (fc + 1), x_kindCount, nI i0, nI (a + 1), nI (m_bo c n f), x_outcome, x_resultValue, x_trapPlace, x_fuelUsed, x_firstWaiting, x_waitingCount, x_printCount, x_code, x_facts, x_partner, x_loaded, x_globals, x_memories, upd x_frameAt fc (nI (m_bo c n f)), upd x_frameHeight fc (nI i0), x_frameResult, x_frameDead, x_kinds, x_values, VR, upd x_activeSlot a (nI t), upd x_activeGives a (nI (rsf c n f)), upd x_activeFrame a (nI fc), x_activeResume, x_waiting, x_prints)) :
    ∀ r l (VR : Nat → Int64) (vc : Nat), r ≤ 6 → r < l → vc = i0 + (if r < np then r else np) → (∀ j, r ≤ j → j < 6 → VR (a * 6 + j) = if j < np then x_values (i0 + j) else 0) → (∀ j, ¬ (a * 6 ≤ j ∧ j < a * 6 + 6) → VR j = x_variables j) →
    wX_begin_49 post (nI t) (nI f) (nI ty) (nI np) (nI (a * 6)) l (nI r + (-1)) x_byteCount x_wrongPlace x_at (nI fc) x_kindCount (nI vc) (nI a) x_goesOn x_outcome x_resultValue x_trapPlace x_fuelUsed x_firstWaiting x_waitingCount x_printCount x_code x_facts x_partner x_loaded x_globals x_memories x_frameAt x_frameHeight x_frameResult x_frameDead x_kinds x_values VR x_activeSlot x_activeGives x_activeFrame x_activeResume x_waiting x_prints := by
  subst ety
  intro r
  induction r with
  | zero =>
    intro l VR vc _ hl hvc h1 h2
    obtain ⟨l, rfl⟩ : ∃ j, l = j + 1 := ⟨l - 1, by omega⟩
    have evc : vc = i0 := by rw [hvc]; split <;> omega
    subst evc
    have hfa := mp.2.2.2.2.1 f hf
    refine br_t (show nI 0 + (-1) < 0 by decide) ⟨pk_in a 10 ha, nm_r (show _ = upd x_activeSlot a (nI t) from by rw [pk_cl a]) ?_⟩
    refine xm_resultOf (w := (x_byteCount, x_wrongPlace, x_at, nI fc, x_kindCount, nI vc, nI a, x_goesOn, x_outcome, x_resultValue, x_trapPlace, x_fuelUsed, x_firstWaiting, x_waitingCount, x_printCount, x_code, x_facts, x_partner, x_loaded, x_globals, x_memories, x_frameAt, x_frameHeight, x_frameResult, x_frameDead, x_kinds, x_values, VR, upd x_activeSlot a (nI t), x_activeGives, x_activeFrame, x_activeResume, x_waiting, x_prints)) (c := c) (n := n) ht M Fx mp hn _ hty ?_
    refine ⟨pk_in a 10 ha, nm_r (show _ = upd x_activeGives a (nI (rsf c n f)) from by rw [pk_cl a]; rfl) ⟨pk_in a 10 ha, nm_r (show _ = upd x_activeFrame a (nI fc) from by rw [pk_cl a]) (nm_r (nI_1 a) ?_)⟩⟩
    refine xm_bodyOf (w := (x_byteCount, x_wrongPlace, x_at, nI fc, x_kindCount, nI vc, nI (a + 1), x_goesOn, x_outcome, x_resultValue, x_trapPlace, x_fuelUsed, x_firstWaiting, x_waitingCount, x_printCount, x_code, x_facts, x_partner, x_loaded, x_globals, x_memories, x_frameAt, x_frameHeight, x_frameResult, x_frameDead, x_kinds, x_values, VR, upd x_activeSlot a (nI t), upd x_activeGives a (nI (rsf c n f)), upd x_activeFrame a (nI fc), x_activeResume, x_waiting, x_prints)) (c := c) (n := n) ht M Fx mp hn f hf ?_
    exact r_open fc hfc rfl (h VR (fun j hj => h1 j (by omega) hj) h2)
  | succ r ih =>
    intro l VR vc hr hl hvc h1 h2
    obtain ⟨l, rfl⟩ : ∃ j, l = j + 1 := ⟨l - 1, by omega⟩
    rw [pk_m1]
    have ex : nI (a * 6) + nI r = nI (a * 6 + r) := nI_add _ _
    refine pk_lt r 0 (fun z => absurd z (by omega)) (fun _ => pk_le np r (fun z => ?_) (fun z => ?_))
    · refine ⟨pk_in (a * 6 + r) 60 (by omega) ex, nm_r (show _ = vp_updL VR (a * 6 + r) 0 from by rw [pk_cl (a * 6 + r) ex]) (nm_r rfl ?_)⟩
      refine ih l _ vc (by omega) (by omega) ?_ (fun j hj hj6 => ?_) (fun j hj => ?_)
      · rw [hvc]; (repeat' split) <;> omega
      · by_cases q : j = r
        · subst q; rw [pk_uLs, if_neg (by omega)]
        · rw [pk_uLn (by omega)]; exact h1 j (by omega) hj6
      · rw [pk_uLn (by omega)]; exact h2 j hj
    · have evc : vc = i0 + r + 1 := by rw [hvc]; split <;> omega
      subst evc
      refine r_pop (i0 + r) (by omega) rfl ⟨pk_in (a * 6 + r) 60 (by omega) ex, nm_r (show _ = vp_updL VR (a * 6 + r) (x_values (i0 + r)) from by rw [pk_cl (a * 6 + r) ex]) (nm_r rfl ?_)⟩
      refine ih l _ (i0 + r) (by omega) (by omega) ?_ (fun j hj hj6 => ?_) (fun j hj => ?_)
      · split <;> omega
      · by_cases q : j = r
        · subst q; rw [pk_uLs, if_pos (by omega)]
        · rw [pk_uLn (by omega)]; exact h1 j (by omega) hj6
      · rw [pk_uLn (by omega)]; exact h2 j hj
theorem r_begin {np : Nat} (ht : t < 3) (M : mx_c x_code t c) (Fx : xf_ok (t * 22) c n x_facts) (mp : mp_ok c n) (hn : n ≤ 140) (hf : f < m_I c n + m_F c n) (hty : c (m_fa c n f) < c 0) (ha : a < 10) (eA : x_activeCount = nI a) (hnp : np = c (m_ty c n (c (m_fa c n f)))) (eV : x_valueCount = nI (i0 + np)) (hi : i0 + np < 256) (eC : x_frameCount = nI fc) (hfc : fc < 140)
    (h : ∀ VR : Nat → Int64, (∀ j, j < 6 → VR (a * 6 + j) = if j < np then x_values (i0 + j) else 0) → (∀ j, ¬ (a * 6 ≤ j ∧ j < a * 6 + 6) → VR j = x_variables j) → post (x_byteCount, x_wrongPlace, x_at, nI (fc + 1), x_kindCount, nI i0, nI (a + 1), nI (m_bo c n f), x_outcome, x_resultValue, x_trapPlace, x_fuelUsed, x_firstWaiting, x_waitingCount, x_printCount, x_code, x_facts, x_partner, x_loaded, x_globals, x_memories, upd x_frameAt fc (nI (m_bo c n f)), upd x_frameHeight fc (nI i0), x_frameResult, x_frameDead, x_kinds, x_values, VR, upd x_activeSlot a (nI t), upd x_activeGives a (nI (rsf c n f)), upd x_activeFrame a (nI fc), x_activeResume, x_waiting, x_prints)) : wpX_begin post (x_byteCount, x_wrongPlace, x_at, x_frameCount, x_kindCount, x_valueCount, x_activeCount, x_goesOn, x_outcome, x_resultValue, x_trapPlace, x_fuelUsed, x_firstWaiting, x_waitingCount, x_printCount, x_code, x_facts, x_partner, x_loaded, x_globals, x_memories, x_frameAt, x_frameHeight, x_frameResult, x_frameDead, x_kinds, x_values, x_variables, x_activeSlot, x_activeGives, x_activeFrame, x_activeResume, x_waiting, x_prints) (nI t) (nI f) := by
  subst eA eV eC
  have t1 := mp.2.1 _ hty
  have hp3 := t1.1.1
  have h0 := mp.1
  refine pk_lt a 10 (fun _ => ?_) (fun z => absurd z (by omega))
  refine xm_typeOf (w := (x_byteCount, x_wrongPlace, x_at, nI fc, x_kindCount, nI (i0 + np), nI a, x_goesOn, x_outcome, x_resultValue, x_trapPlace, x_fuelUsed, x_firstWaiting, x_waitingCount, x_printCount, x_code, x_facts, x_partner, x_loaded, x_globals, x_memories, x_frameAt, x_frameHeight, x_frameResult, x_frameDead, x_kinds, x_values, x_variables, x_activeSlot, x_activeGives, x_activeFrame, x_activeResume, x_waiting, x_prints)) (c := c) (n := n) ht M Fx mp hn f hf ?_
  refine eq_p (P := fun z => wpX_fact _ _ _ z) (show (8 : Int32) + nI (c (m_fa c n f)) = nI (8 + c (m_fa c n f)) from nI_add 8 _) ?_
  refine xx_fact (m := t) (w := 8 + c (m_fa c n f)) (z := nI (m_ty c n (c (m_fa c n f)))) (by have := Fx.2.2.2.2.2.2.2.2.1 _ hty; rw [show t * 22 + (8 + c (m_fa c n f)) = t * 22 + 8 + c (m_fa c n f) by omega]; exact this) ht (by omega) ?_
  refine xx_byte (c := c) (show mx_ok _ t c from M) ht (by omega) (nm_r (show _ = nI (a * 6) from pk_mul a 6) ⟨7, ?_⟩)
  rw [← hnp]
  exact r_beg_l ht M Fx mp hn hf hty ha (by omega) hi hfc rfl h 6 7 x_variables (i0 + np) (by omega) (by omega) (by rw [if_neg (by omega)]) (fun j h1 h2 => absurd h1 (by omega)) (fun j _ => rfl)
end
