section
variable {w : SX} {c : Nat → Nat} {n m : Nat} {post : Int32 → Prop}
theorem xm_typeOf (hm : m < 3) (M : mx_ok w m c) (Fx : xf_ok (m * 22) c n (gx_facts w)) (mp : mp_ok c n) (hn : n ≤ 140) (f : Nat) (hf : f < m_I c n + m_F c n) (h : post (nI (c (m_fa c n f)))) : wpX_typeOf post w (nI m) (nI f) := by
  have hI := mp.2.2.1
  have hF := mp.2.2.2.1
  have h1 := mp.2.2.2.2.1 f hf
  unfold wpX_typeOf
  refine eq_p (P := fun z => wpX_fact _ _ _ z) (show (12 : Int32) + nI f = nI (12 + f) from nI_add 12 f) ?_
  refine xx_fact (m := m) (w := 12 + f) (z := nI (m_fa c n f)) (by rw [show m * 22 + (12 + f) = m * 22 + 12 + f by omega]; exact Fx.2.2.2.2.2.2.2.2.2.1 f hf) hm (by omega) ?_
  exact xx_byte M hm (by omega) h
theorem xm_fact (hm : m < 3) (k : Nat) (hk : k < 22) (z : Int32) (hz : gx_facts w (m * 22 + k) = z) (h : post z) : wpX_fact post w (nI m) (nI k) := xx_fact hz hm hk h
theorem xm_resultOf (hm : m < 3) (M : mx_ok w m c) (Fx : xf_ok (m * 22) c n (gx_facts w)) (mp : mp_ok c n) (hn : n ≤ 140) (t : Nat) (ht : t < c 0) (h : post (nI (ty_r c (m_ty c n t)))) : wpX_resultOf post w (nI m) (nI t) := by
  obtain ⟨t1, t2⟩ := mp.2.1 t ht
  have h0 := mp.1
  unfold wpX_resultOf
  refine eq_p (P := fun z => wpX_fact _ _ _ z) (show (8 : Int32) + nI t = nI (8 + t) from nI_add 8 t) ?_
  refine xx_fact (m := m) (w := 8 + t) (z := nI (m_ty c n t)) (by rw [show m * 22 + (8 + t) = m * 22 + 8 + t by omega]; exact Fx.2.2.2.2.2.2.2.2.1 t ht) hm (by omega) ?_
  refine xx_byte M hm (by omega) ?_
  refine nm_r (show (nI (m_ty c n t) + 1) + nI (c (m_ty c n t)) = nI (m_ty c n t + 1 + c (m_ty c n t)) from by rw [nI_1, nI_add]) ?_
  refine xx_byte M hm (by omega) ?_
  unfold ty_r at h
  refine pk_eq (c (m_ty c n t + 1 + c (m_ty c n t))) 0 (fun z => ?_) (fun z => ?_) rfl rfl (by have := M.2.1 (m_ty c n t + 1 + c (m_ty c n t)); omega)
  · rw [if_pos z] at h; exact h
  · rw [if_neg z] at h
    refine eq_p (P := fun z => wpX_byteAt _ _ _ z) (nI_1 (m_ty c n t + 1 + c (m_ty c n t))) ?_
    exact xx_byte M hm (by omega) h
theorem xm_varKind (M : mx_ok w 2 c) (Fx : xf_ok 44 c n (gx_facts w)) (mp : mp_ok c n) (hn : n ≤ 140) (f v : Nat) (hf1 : m_I c n ≤ f) (hf : f < m_I c n + m_F c n) (ht : c (m_fa c n f) < c 0) (hv : v < 256) (h : post (nI (vk c n f v))) : wpX_variableKind post w (nI f) (nI v) := by
  have hI := mp.2.2.1
  have hF := mp.2.2.2.1
  have h1 := mp.2.2.2.2.1 f hf
  obtain ⟨f1, f2, f3⟩ := mp.2.2.2.2.2.1 f hf1 hf
  unfold m_bo at f3
  have h0 := mp.1
  obtain ⟨t1, t2⟩ := mp.2.1 _ ht
  have t0 := t1.1
  unfold wpX_variableKind
  refine eq_p (P := fun z => wpX_fact _ _ _ z) (show (12 : Int32) + nI f = nI (12 + f) from nI_add 12 f) ?_
  refine xx_fact (m := 2) (w := 12 + f) (z := nI (m_fa c n f)) (by rw [show 2 * 22 + (12 + f) = 44 + 12 + f by omega]; exact Fx.2.2.2.2.2.2.2.2.2.1 f hf) (by omega) (by omega) ?_
  refine xx_byte (m := 2) M (by omega) (by omega) ?_
  refine eq_p (P := fun z => wpX_fact _ _ _ z) (show (8 : Int32) + nI (c (m_fa c n f)) = nI (8 + c (m_fa c n f)) from nI_add 8 _) ?_
  refine xx_fact (m := 2) (w := 8 + c (m_fa c n f)) (z := nI (m_ty c n (c (m_fa c n f)))) (by rw [show 2 * 22 + (8 + c (m_fa c n f)) = 44 + 8 + c (m_fa c n f) by omega]; exact Fx.2.2.2.2.2.2.2.2.1 _ ht) (by omega) (by omega) ?_
  refine xx_byte (m := 2) M (by omega) (by omega) ?_
  unfold vk at h
  refine pk_le (c (m_ty c n (c (m_fa c n f)))) v (fun z => ?_) (fun z => ?_)
  · rw [if_neg (by omega)] at h
    refine eq_p (P := fun z => wpX_byteAt _ _ _ z) (nI_1 (m_fa c n f)) ?_
    refine xx_byte (m := 2) M (by omega) (by omega) (nm_r (pk_sub z) ?_)
    refine pk_le (c (m_fa c n f + 1)) (v - c (m_ty c n (c (m_fa c n f)))) (fun z2 => ?_) (fun z2 => ?_)
    · rw [if_neg (by omega)] at h; exact h
    · rw [if_pos z2] at h
      refine eq_p (P := fun z => wpX_byteAt _ _ _ z) (show (nI (m_fa c n f) + 2) + nI (v - c (m_ty c n (c (m_fa c n f)))) = nI (m_fa c n f + 2 + (v - c (m_ty c n (c (m_fa c n f))))) from by rw [show (2 : Int32) = nI 2 from rfl, nI_add, nI_add]) ?_
      exact xx_byte (m := 2) M (by omega) (by omega) h
  · rw [if_pos z] at h
    refine eq_p (P := fun z => wpX_byteAt _ _ _ z) (show (nI (m_ty c n (c (m_fa c n f))) + 1) + nI v = nI (m_ty c n (c (m_fa c n f)) + 1 + v) from by rw [nI_1, nI_add]) ?_
    exact xx_byte (m := 2) M (by omega) (by omega) h
theorem xm_behind_l (hm : m < 3) (M : mx_ok w m c) : ∀ r e i l, i + r = 10 → r < l → e < 500 → post (nI (cn_e c r e)) → wX_behind_46 post (nI m) (gx_byteCount w) (gx_wrongPlace w) (gx_at w) (gx_frameCount w) (gx_kindCount w) (gx_valueCount w) (gx_activeCount w) (gx_goesOn w) (gx_outcome w) (gx_resultValue w) (gx_trapPlace w) (gx_fuelUsed w) (gx_firstWaiting w) (gx_waitingCount w) (gx_printCount w) (gx_code w) (gx_facts w) (gx_partner w) (gx_loaded w) (gx_globals w) (gx_memories w) (gx_frameAt w) (gx_frameHeight w) (gx_frameResult w) (gx_frameDead w) (gx_kinds w) (gx_values w) (gx_variables w) (gx_activeSlot w) (gx_activeGives w) (gx_activeFrame w) (gx_activeResume w) (gx_waiting w) (gx_prints w) l (nI e) (nI i) := by
  intro r
  induction r with
  | zero =>
    intro e i l hi hl he h
    obtain ⟨l, rfl⟩ : ∃ j, l = j + 1 := ⟨l - 1, by omega⟩
    refine pk_le 10 i (fun _ => ?_) (fun z => absurd z (by omega))
    rw [nI_1]; exact h
  | succ r ih =>
    intro e i l hi hl he h
    obtain ⟨l, rfl⟩ : ∃ j, l = j + 1 := ⟨l - 1, by omega⟩
    refine pk_le 10 i (fun z => absurd z (by omega)) (fun _ => ?_)
    refine xx_byte M hm (by omega) ?_
    rw [cn_e] at h
    refine pk_le (c e) 127 (fun z => ?_) (fun z => nm_r (nI_1 e) (nm_r (nI_1 i) ?_)) rfl rfl (by have := M.2.1 e; omega)
    · rw [if_neg (by omega)] at h
      rw [nI_1]; exact h
    · rw [if_pos z] at h
      by_cases he2 : e + 1 < 500
      · exact ih (e + 1) (i + 1) l (by omega) (by omega) he2 h
      · exact absurd z (by rw [M.2.2 e (by omega)]; omega)
theorem xm_behind (hm : m < 3) (M : mx_ok w m c) (p : Nat) (hp : p < 200) (h : post (nI (nx c p))) : wpX_behind post w (nI m) (nI p) := by
  unfold wpX_behind
  have h256 := M.2.1 p
  refine xx_byte M hm (by omega) ?_
  unfold nx at h
  refine pk_eq (c p) 9 (fun z => ?_) (fun z => ?_)
  · rw [if_pos z] at h
    refine eq_p (P := fun z => wpX_byteAt _ _ _ z) (nI_1 p) ?_
    refine xx_byte M hm (by omega) ?_
    have e : (nI p + 3) + nI (c (p + 1)) = nI (p + 3 + c (p + 1)) := by rw [show (3 : Int32) = nI 3 from rfl, nI_add, nI_add]
    exact eq_p (P := post) e h
  · rw [if_neg z] at h
    refine pk_eq (c p) 20 (fun z2 => ?_) (fun z2 => pk_eq (c p) 21 (fun z3 => ?_) (fun z3 => ?_))
    · rw [if_pos (Or.inl z2)] at h
      exact nm_r (nI_1 p) ⟨10, xm_behind_l hm M 9 (p + 1) 1 10 (by omega) (by omega) (by omega) h⟩
    · rw [if_pos (Or.inr z3)] at h
      exact nm_r (nI_1 p) ⟨10, xm_behind_l hm M 9 (p + 1) 1 10 (by omega) (by omega) (by omega) h⟩
    · rw [if_neg (by omega)] at h
      refine xx_ho (by omega) ?_
      by_cases ho : rd_ho (c p)
      · rw [if_pos ho] at h
        rw [bb_1 (decide_eq_true ho)]
        have e : nI p + 2 = nI (p + 2) := nI_add p 2
        exact br_f (by decide) (eq_p (P := post) e h)
      · rw [if_neg ho] at h
        rw [bb_0 (decide_eq_false ho)]
        exact br_t rfl (eq_p (P := post) (nI_1 p) h)
end
section
variable {u : SX} {c : Nat → Nat} {n p : Nat} {WP a : Int32} {F Pa A FH FR FD KI : Nat → Int32} {S : vt_St}
theorem x_ps {post : Int32 → SX → Prop} (M : mx_ok u 2 c) (Fx : xf_ok 44 c n F) (mp : mp_ok c n) (hn : n ≤ 140) (t : Nat) (ht : t < c 0) (S0 : vt_St) (hl0 : S0.2.1.length = S.2.1.length) : ∀ k l (S : vt_St) KI, S.2.1.length = S0.2.1.length → k ≤ c (m_ty c n t) → k < l → S.2.1 ≠ [] → S.2.2 = false → XV c S A FH FR FD KI →
    ((vt_gr (ty_r c (m_ty c n t)) (vt_ps c (m_ty c n t) k S)).2.2 = false → ∀ KI, XV c (vt_gr (ty_r c (m_ty c n t)) (vt_ps c (m_ty c n t) k S)) A FH FR FD KI → post 1 (xl u WP a (nI (vt_gr (ty_r c (m_ty c n t)) (vt_ps c (m_ty c n t) k S)).2.1.length) (nI (vt_gr (ty_r c (m_ty c n t)) (vt_ps c (m_ty c n t) k S)).1.length) F Pa A FH FR FD KI)) →
    ((vt_gr (ty_r c (m_ty c n t)) (vt_ps c (m_ty c n t) k S)).2.2 = true → ∀ kc KI, post 0 (xl u WP a (nI S0.2.1.length) kc F Pa A FH FR FD KI)) →
    wX_checkCall_83 post (nI t) (nI (m_ty c n t)) l (nI k) (gx_byteCount u) WP a (nI S.2.1.length) (nI S.1.length) (gx_valueCount u) (gx_activeCount u) (gx_goesOn u) (gx_outcome u) (gx_resultValue u) (gx_trapPlace u) (gx_fuelUsed u) (gx_firstWaiting u) (gx_waitingCount u) (gx_printCount u) (gx_code u) F Pa (gx_loaded u) (gx_globals u) (gx_memories u) A FH FR FD KI (gx_values u) (gx_variables u) (gx_activeSlot u) (gx_activeGives u) (gx_activeFrame u) (gx_activeResume u) (gx_waiting u) (gx_prints u) := by
  obtain ⟨t1, t2⟩ := mp.2.1 t ht
  have t0 := t1.1
  intro k
  induction k with
  | zero =>
    intro l S KI hS hk hl hF hb R hs hf
    obtain ⟨l, rfl⟩ : ∃ j, l = j + 1 := ⟨l - 1, by omega⟩
    refine br_t (by decide) ?_
    refine xm_resultOf (w := (xl u WP a (nI S.2.1.length) (nI S.1.length) F Pa A FH FR FD KI)) (m := 2) (by omega) M Fx mp hn t ht ?_
    refine x_gr _ (ty_r_le t1) hb R (fun h1 KI R1 => ⟨bb_nar true, hs h1 KI R1⟩) (fun h1 => ⟨bb_nar false, ?_⟩)
    rw [hS]; exact hf h1 _ _
  | succ k ih =>
    intro l S KI hS hk hl hF hb R hs hf
    obtain ⟨l, rfl⟩ : ∃ j, l = j + 1 := ⟨l - 1, by omega⟩
    have kk := t1.2.1 k (by omega)
    refine pk_le (k + 1) 0 (fun z => absurd z (by omega)) (fun _ => ?_)
    refine eq_p (P := fun z => wpX_byteAt _ _ _ z) (show nI (m_ty c n t) + nI (k + 1) = nI (m_ty c n t + 1 + k) from by rw [nI_add]; congr 1; omega) ?_
    refine xx_byte (m := 2) M (by omega) (by omega) ?_
    rw [vt_ps] at hs hf
    refine x_take1 (c (m_ty c n t + 1 + k)) kk.1 kk.2 hF hb R (fun h1 R1 => br_f (by decide) (nm_r (pk_m1 k) ?_)) (fun h1 kc => br_t rfl ?_)
    · exact ih l (vt_pl (c (m_ty c n t + 1 + k)) S) KI (by rw [fk_pl]; exact hS) (by omega) (by omega) (by rw [fk_pl]; exact hF) h1 R1 hs hf
    · rw [hS]; exact hf (fm_gr (fm_ps _ h1)) kc _
theorem x_call {post : Int32 → SX → Prop} (M : mx_ok u 2 c) (Fx : xf_ok 44 c n F) (mp : mp_ok c n) (hn : n ≤ 140) (op x : Nat) (hop : op = 11 ∨ op = 12) (hx : x < 256) (hF : S.2.1 ≠ []) (hb : S.2.2 = false) (R : XV c S A FH FR FD KI)
    (hs : (vt_call c n op x S).2.2 = false → ∀ KI, XV c (vt_call c n op x S) A FH FR FD KI → post 1 (xl u WP a (nI (vt_call c n op x S).2.1.length) (nI (vt_call c n op x S).1.length) F Pa A FH FR FD KI))
    (hf : (vt_call c n op x S).2.2 = true → ∀ kc KI, post 0 (xl u WP a (nI S.2.1.length) kc F Pa A FH FR FD KI)) : wpX_checkCall post (xl u WP a (nI S.2.1.length) (nI S.1.length) F Pa A FH FR FD KI) (nI op) (nI x) := by
  have h0 := mp.1
  have hI := mp.2.2.1
  have hFn := mp.2.2.2.1
  have wn : cl_t c n op x = none → post 0 (xl u WP a (nI S.2.1.length) (nI S.1.length) F Pa A FH FR FD KI) := by
    intro z
    refine hf ?_ _ _
    rw [vt_call, z]; exact vb_t S
  have w63 : ∀ t, t < c 0 → ∀ S1 : vt_St, S1.2.1 = S.2.1 → S1.2.2 = false → XV c S1 A FH FR FD KI → cl_t c n op x = some (m_ty c n t) → (if op = 12 then vt_pl 1 S else S) = S1 → wX_checkCall_63 post (nI t) (gx_byteCount u) WP a (nI S1.2.1.length) (nI S1.1.length) (gx_valueCount u) (gx_activeCount u) (gx_goesOn u) (gx_outcome u) (gx_resultValue u) (gx_trapPlace u) (gx_fuelUsed u) (gx_firstWaiting u) (gx_waitingCount u) (gx_printCount u) (gx_code u) F Pa (gx_loaded u) (gx_globals u) (gx_memories u) A FH FR FD KI (gx_values u) (gx_variables u) (gx_activeSlot u) (gx_activeGives u) (gx_activeFrame u) (gx_activeResume u) (gx_waiting u) (gx_prints u) := by
    intro t ht S1 e1 hb1 R1 hc eif
    obtain ⟨t1, t2⟩ := mp.2.1 t ht
    have t0 := t1.1
    unfold wX_checkCall_63
    refine eq_p (P := fun z => wpX_fact _ _ _ z) (show (8 : Int32) + nI t = nI (8 + t) from nI_add 8 t) ?_
    refine xx_fact (m := 2) (w := 8 + t) (z := nI (m_ty c n t)) (by rw [show 2 * 22 + (8 + t) = 44 + 8 + t by omega]; exact Fx.2.2.2.2.2.2.2.2.1 t ht) (by omega) (by omega) ?_
    refine xx_byte (m := 2) M (by omega) (by omega) ⟨c (m_ty c n t) + 1, ?_⟩
    have ec : vt_call c n op x S = vt_gr (ty_r c (m_ty c n t)) (vt_ps c (m_ty c n t) (c (m_ty c n t)) S1) := by
      rw [vt_call, hc]; dsimp only; rw [eif]
    rw [ec] at hs hf
    exact x_ps M Fx mp hn t ht S (S := S) rfl _ _ S1 KI (by rw [e1]) (Nat.le_refl _) (by omega) (by rw [e1]; exact hF) hb1 R1 hs hf
  have w34 : ∀ t, t < 256 → (t < c 0 → cl_t c n op x = some (m_ty c n t)) → (¬ t < c 0 → cl_t c n op x = none) → wX_checkCall_34 post (nI op) (nI t) (gx_byteCount u) WP a (nI S.2.1.length) (nI S.1.length) (gx_valueCount u) (gx_activeCount u) (gx_goesOn u) (gx_outcome u) (gx_resultValue u) (gx_trapPlace u) (gx_fuelUsed u) (gx_firstWaiting u) (gx_waitingCount u) (gx_printCount u) (gx_code u) F Pa (gx_loaded u) (gx_globals u) (gx_memories u) A FH FR FD KI (gx_values u) (gx_variables u) (gx_activeSlot u) (gx_activeGives u) (gx_activeFrame u) (gx_activeResume u) (gx_waiting u) (gx_prints u) := by
    intro t ht hc1 hc2
    unfold wX_checkCall_34
    refine xx_fact (m := 2) (w := 0) (z := nI (c 0)) (by exact Fx.1) (by omega) (by omega) ?_
    refine pk_lt t (c 0) (fun z => ?_) (fun z => wn (hc2 (by omega)))
    rcases hop with rfl | rfl
    · exact br_f (by decide) (w63 t z S rfl hb R (hc1 z) (if_neg (by decide)))
    · refine br_t rfl (x_take1 1 (by omega) (by omega) hF hb R (fun h1 R1 => br_f (by decide) (w63 t z _ (fk_pl 1 S) h1 R1 (hc1 z) (if_pos rfl))) (fun h1 kc => br_t rfl ?_))
      refine hf ?_ kc _
      rw [vt_call, hc1 z]
      exact fm_gr (fm_ps _ (by rw [if_pos rfl]; exact h1))
  rcases hop with rfl | rfl
  · refine br_t rfl ?_
    refine xx_fact (m := 2) (w := 2) (z := nI (m_I c n + m_F c n)) (by exact Fx.2.2.1) (by omega) (by omega) ?_
    refine pk_lt x (m_I c n + m_F c n) (fun z => br_t rfl ?_) (fun z => wn (by rw [cl_t, if_pos rfl, if_neg (by omega)]))
    refine xm_typeOf (w := (xl u WP a (nI S.2.1.length) (nI S.1.length) F Pa A FH FR FD KI)) (m := 2) (by omega) M Fx mp hn x z ?_
    exact w34 (c (m_fa c n x)) (M.2.1 _) (fun z2 => by rw [cl_t, if_pos rfl, if_pos ⟨z, z2⟩]) (fun z2 => by rw [cl_t, if_pos rfl, if_neg (fun y => z2 y.2)])
  · refine br_f (by decide) (br_f (by decide) ?_)
    exact w34 x hx (fun z2 => by rw [cl_t, if_neg (by decide), if_pos z2]) (fun z2 => by rw [cl_t, if_neg (by decide), if_neg z2])
end
