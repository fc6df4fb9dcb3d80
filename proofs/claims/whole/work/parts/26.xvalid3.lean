theorem fm_pl {k : Nat} {S : vt_St} (h : S.2.2 = true) : (vt_pl k S).2.2 = true := by unfold vt_pl; split <;> (show (S.2.2 || _) = true; rw [h]; rfl)
theorem fm_gv {k : Nat} {S : vt_St} (h : S.2.2 = true) : (vt_gv k S).2.2 = true := by unfold vt_gv; split; rfl; exact h
theorem fm_pr {k : Nat} {S : vt_St} (h : S.2.2 = true) : (vt_pr k S).2.2 = true := by unfold vt_pr; split; exact h; exact fm_pl h
theorem fm_gr {k : Nat} {S : vt_St} (h : S.2.2 = true) : (vt_gr k S).2.2 = true := by unfold vt_gr; split; exact h; exact fm_gv h
theorem fm_die {S : vt_St} (h : S.2.2 = true) : (vt_die S).2.2 = true := h
theorem fm_bad {S : vt_St} {b : Bool} (h : S.2.2 = true) : (vt_bad S b).2.2 = true := by show (S.2.2 || b) = true; rw [h]; rfl
theorem fm_ws {d : Nat} {S : vt_St} (h : S.2.2 = true) : (vt_ws d S).2.2 = true := fm_bad h
theorem fm_ps {c : Nat → Nat} {t : Nat} : ∀ k {S : vt_St}, S.2.2 = true → (vt_ps c t k S).2.2 = true := by
  intro k
  induction k with
  | zero => intro S h; exact h
  | succ k ih => intro S h; rw [vt_ps]; exact ih (fm_pl h)
theorem fm_tb {c : Nat → Nat} {w : Nat} : ∀ r p {S : vt_St}, S.2.2 = true → (vt_tb c w r p S).2.2 = true := by
  intro r
  induction r with
  | zero => intro p S h; exact h
  | succ r ih => intro p S h; rw [vt_tb]; exact ih _ (fm_bad (fm_ws h))
theorem fm_open {cd x o : Nat} {S : vt_St} (h : S.2.2 = true) : (vt_open cd x o S).2.2 = true := by unfold vt_open; split; rfl; exact h
theorem pl_n {k : Nat} {S : vt_St} (q : ¬ S.1.length = f_h S.2.1) : (vt_pl k S).2.2 = (S.2.2 || pl_f (S.1.headD 0) k) := by unfold vt_pl; rw [if_neg q]
theorem pl_p {k : Nat} {S : vt_St} (q : S.1.length = f_h S.2.1) : (vt_pl k S).2.2 = (S.2.2 || !f_d S.2.1) := by unfold vt_pl; rw [if_pos q]
theorem w_pl {d k : Nat} {S : vt_St} : vt_w d (vt_pl k S) = vt_w d S := by unfold vt_w; rw [fk_pl]
theorem ws_ok {d : Nat} {S : vt_St} (h : d < S.2.1.length) : vt_ws d S = S := by
  unfold vt_ws; rw [decide_eq_false (by omega)]; exact vb_f S
theorem ws_no {d : Nat} {S : vt_St} (h : S.2.1.length ≤ d) : (vt_ws d S).2.2 = true := by
  unfold vt_ws; rw [decide_eq_true h]; exact vb_t S
section
variable {u : SX} {c : Nat → Nat} {n p : Nat} {WP a : Int32} {F Pa A FH FR FD KI : Nat → Int32} {S : vt_St}
theorem x_br7 {post : Int32 → SX → Prop} (M : mx_ok u 2 c) (d : Nat) (hd : d < 256) (hF : S.2.1 ≠ []) (hb : S.2.2 = false) (R : XV c S A FH FR FD KI)
    (hs : (vt_die (vt_pr (vt_w d S) (vt_ws d S))).2.2 = false → ∀ FD, XV c (vt_die (vt_pr (vt_w d S) (vt_ws d S))) A FH FR FD KI → post 1 (xl u WP a (nI (vt_die (vt_pr (vt_w d S) (vt_ws d S))).2.1.length) (nI (vt_die (vt_pr (vt_w d S) (vt_ws d S))).1.length) F Pa A FH FR FD KI))
    (hf : (vt_die (vt_pr (vt_w d S) (vt_ws d S))).2.2 = true → ∀ kc, post 0 (xl u WP a (nI S.2.1.length) kc F Pa A FH FR FD KI)) : wpX_checkBranch post (xl u WP a (nI S.2.1.length) (nI S.1.length) F Pa A FH FR FD KI) 7 (nI d) := by
  unfold wpX_checkBranch
  refine x_label M d hd hF R (fun h1 hw => br_t (nI_pos' (by omega)) (br_t rfl ?_)) (fun h1 => br_f (by decide) (hf (fm_die (fm_pr (ws_no h1))) _))
  rw [ws_ok h1] at hs hf
  refine x_take _ hw hF hb R (fun h2 R2 => br_f (by decide) ?_) (fun h2 kc => br_t rfl (hf (fm_die h2) kc))
  exact x_die (by rw [fk_pr]; exact hF) R2 (fun FD R3 => br_f (by decide) (hs h2 FD R3))
theorem x_br8 {post : Int32 → SX → Prop} (M : mx_ok u 2 c) (d : Nat) (hd : d < 256) (hF : S.2.1 ≠ []) (hb : S.2.2 = false) (R : XV c S A FH FR FD KI)
    (hs : (vt_gr (vt_w d (vt_pl 1 S)) (vt_pr (vt_w d (vt_pl 1 S)) (vt_ws d (vt_pl 1 S)))).2.2 = false → ∀ KI, XV c (vt_gr (vt_w d (vt_pl 1 S)) (vt_pr (vt_w d (vt_pl 1 S)) (vt_ws d (vt_pl 1 S)))) A FH FR FD KI → post 1 (xl u WP a (nI (vt_gr (vt_w d (vt_pl 1 S)) (vt_pr (vt_w d (vt_pl 1 S)) (vt_ws d (vt_pl 1 S)))).2.1.length) (nI (vt_gr (vt_w d (vt_pl 1 S)) (vt_pr (vt_w d (vt_pl 1 S)) (vt_ws d (vt_pl 1 S)))).1.length) F Pa A FH FR FD KI))
    (hf : (vt_gr (vt_w d (vt_pl 1 S)) (vt_pr (vt_w d (vt_pl 1 S)) (vt_ws d (vt_pl 1 S)))).2.2 = true → ∀ kc, post 0 (xl u WP a (nI S.2.1.length) kc F Pa A FH FR FD KI)) : wpX_checkBranch post (xl u WP a (nI S.2.1.length) (nI S.1.length) F Pa A FH FR FD KI) 8 (nI d) := by
  rw [w_pl] at hs hf
  unfold wpX_checkBranch
  refine x_label M d hd hF R (fun h1 hw => br_t (nI_pos' (by omega)) (br_f (by decide) ?_)) (fun h1 => br_f (by decide) (hf (fm_gr (fm_pr (ws_no (by rw [fk_pl]; exact h1)))) _))
  rw [ws_ok (by rw [fk_pl]; exact h1)] at hs hf
  refine x_take1 1 (by omega) (by omega) hF hb R (fun h2 R2 => br_f (by decide) ?_) (fun h2 kc => br_t rfl (hf (fm_gr (fm_pr h2)) kc))
  have hF2 : (vt_pl 1 S).2.1 ≠ [] := by rw [fk_pl]; exact hF
  have e2 : (vt_pl 1 S).2.1.length = S.2.1.length := by rw [fk_pl]
  refine x_take _ hw hF2 h2 R2 (fun h3 R3 => br_f (by decide) ?_) (fun h3 kc => br_t rfl ?_)
  · refine x_gr _ hw h3 R3 (fun h4 KI R4 => br_f (by decide) (hs h4 KI R4)) (fun h4 => br_t rfl ?_)
    have e3 : (vt_pr (vt_w d S) (vt_pl 1 S)).2.1.length = S.2.1.length := by rw [fk_pr, fk_pl]
    rw [e3]
    exact hf h4 _
  · rw [e2]; exact hf (fm_gr h3) kc
theorem x_tb_l {post : Int32 → SX → Prop} (M : mx_ok u 2 c) (w N : Nat) (hw : w ≤ 2) (hN : N ≤ 4) (ha : a = nI p) (hp : p < 140) (hF : S.2.1 ≠ []) (hb : S.2.2 = false) (R : XV c S A FH FR FD KI) (T : vt_St)
    (hT : T.2.1 = S.2.1)
    (hend : wX_checkBranchTable_29 post (nI N) (nI w) (gx_byteCount u) WP a (nI S.2.1.length) (nI S.1.length) (gx_valueCount u) (gx_activeCount u) (gx_goesOn u) (gx_outcome u) (gx_resultValue u) (gx_trapPlace u) (gx_fuelUsed u) (gx_firstWaiting u) (gx_waitingCount u) (gx_printCount u) (gx_code u) F Pa (gx_loaded u) (gx_globals u) (gx_memories u) A FH FR FD KI (gx_values u) (gx_variables u) (gx_activeSlot u) (gx_activeGives u) (gx_activeFrame u) (gx_activeResume u) (gx_waiting u) (gx_prints u) 1 (nI N)) (hbad : (∃ i, i < N ∧ (S.2.1.length ≤ c (p + 2 + i) ∨ vt_w (c (p + 2 + i)) S ≠ w)) → post 0 (xl u WP a (nI S.2.1.length) (nI S.1.length) F Pa A FH FR FD KI)) : ∀ r i l, i + r = N → r < l →
    wX_checkBranchTable_29 post (nI N) (nI w) (gx_byteCount u) WP a (nI S.2.1.length) (nI S.1.length) (gx_valueCount u) (gx_activeCount u) (gx_goesOn u) (gx_outcome u) (gx_resultValue u) (gx_trapPlace u) (gx_fuelUsed u) (gx_firstWaiting u) (gx_waitingCount u) (gx_printCount u) (gx_code u) F Pa (gx_loaded u) (gx_globals u) (gx_memories u) A FH FR FD KI (gx_values u) (gx_variables u) (gx_activeSlot u) (gx_activeGives u) (gx_activeFrame u) (gx_activeResume u) (gx_waiting u) (gx_prints u) l (nI i) := by
  subst ha
  intro r
  induction r with
  | zero =>
    intro i l hi hl
    obtain ⟨l, rfl⟩ : ∃ j, l = j + 1 := ⟨l - 1, by omega⟩
    have hi' : i = N := by omega
    subst hi'
    exact pk_le i i (fun _ => hend.1 (nI_le (Nat.le_refl _) (by omega))) (fun z => absurd z (by omega))
  | succ r ih =>
    intro i l hi hl
    obtain ⟨l, rfl⟩ : ∃ j, l = j + 1 := ⟨l - 1, by omega⟩
    refine pk_le N i (fun z => absurd z (by omega)) (fun _ => ?_)
    have e : (nI p + 2) + nI i = nI (p + 2 + i) := by rw [show (2 : Int32) = nI 2 from rfl, nI_add, nI_add]
    refine eq_p (P := fun z => wpX_byteAt _ _ _ z) e ?_
    refine xx_byte (m := 2) M (by omega) (by omega) ?_
    refine x_label M _ (M.2.1 _) hF R (fun h1 hw2 => pk_eq (vt_w (c (p + 2 + i)) S) w (fun z => nm_r (nI_1 i) (ih (i + 1) l (by omega) (by omega))) (fun z => hbad ⟨i, by omega, Or.inr z⟩)) (fun h1 => br_f (fun y => ?_) (hbad ⟨i, by omega, Or.inl h1⟩))
    have : (-1 : Int32) < 0 := by decide
    rw [y] at this
    exact nI_pos (by omega) this
theorem tb_flag {c : Nat → Nat} {w : Nat} : ∀ r p (S : vt_St), (∀ i, i < r → c (p + i) < S.2.1.length ∧ vt_w (c (p + i)) S = w) → vt_tb c w r p S = S := by
  intro r
  induction r with
  | zero => intro p S _; rfl
  | succ r ih =>
    intro p S h
    rw [vt_tb]
    obtain ⟨h1, h2⟩ := h 0 (by omega)
    rw [Nat.add_zero] at h1 h2
    rw [ws_ok h1, decide_eq_false (fun z => z h2), vb_f]
    exact ih (p + 1) S (fun i hi => by have := h (i + 1) (by omega); rw [show p + (i + 1) = p + 1 + i by omega] at this; exact this)
theorem tb_bad {c : Nat → Nat} {w : Nat} : ∀ r p (S : vt_St) i, i < r → (S.2.1.length ≤ c (p + i) ∨ vt_w (c (p + i)) S ≠ w) → (vt_tb c w r p S).2.2 = true := by
  intro r
  induction r with
  | zero => intro p S i hi; omega
  | succ r ih =>
    intro p S i hi h
    rw [vt_tb]
    cases i with
    | zero =>
      rw [Nat.add_zero] at h
      refine fm_tb r _ ?_
      rcases h with h | h
      · exact fm_bad (ws_no h)
      · rw [decide_eq_true h]; exact vb_t _
    | succ i =>
      refine ih (p + 1) _ i (by omega) ?_
      rw [show p + 1 + i = p + (i + 1) by omega]
      exact h
theorem x_table {post : Int32 → SX → Prop} (M : mx_ok u 2 c) (h4 : c (p + 1) ≤ 4) (ha : a = nI p) (hp : p < 140) (hF : S.2.1 ≠ []) (hb : S.2.2 = false) (R : XV c S A FH FR FD KI)
    (hs : (vt_table c p S).2.2 = false → ∀ FD, XV c (vt_table c p S) A FH FR FD KI → post 1 (xl u WP a (nI (vt_table c p S).2.1.length) (nI (vt_table c p S).1.length) F Pa A FH FR FD KI))
    (hf : (vt_table c p S).2.2 = true → ∀ kc, post 0 (xl u WP a (nI S.2.1.length) kc F Pa A FH FR FD KI)) : wpX_checkBranchTable post (xl u WP a (nI S.2.1.length) (nI S.1.length) F Pa A FH FR FD KI) (nI (c (p + 1))) := by
  unfold vt_table at hs hf
  rw [w_pl] at hs hf
  have e2 : (vt_pl 1 S).2.1.length = S.2.1.length := by rw [fk_pl]
  have hF2 : (vt_pl 1 S).2.1 ≠ [] := by rw [fk_pl]; exact hF
  unfold wpX_checkBranchTable
  have e : (a + 2) + nI (c (p + 1)) = nI (p + 1 + c (p + 1) + 1) := by rw [ha, show (2 : Int32) = nI 2 from rfl, nI_add, nI_add]; congr 1; omega
  refine eq_p (P := fun z => wpX_byteAt _ _ _ z) e ?_
  refine xx_byte (m := 2) M (by omega) (by omega) ?_
  refine x_label M _ (M.2.1 _) hF R (fun h1 hw => br_t (nI_pos' (by omega)) ⟨c (p + 1) + 1, ?_⟩) (fun h1 => br_f (by decide) (hf (fm_die (fm_pr (fm_tb _ _ (ws_no (by rw [e2]; exact h1))))) _))
  rw [ws_ok (by rw [e2]; exact h1)] at hs hf
  have hbad : (∃ i, i < c (p + 1) ∧ (S.2.1.length ≤ c (p + 2 + i) ∨ vt_w (c (p + 2 + i)) S ≠ vt_w (c (p + 1 + c (p + 1) + 1)) S)) → (vt_die (vt_pr (vt_w (c (p + 1 + c (p + 1) + 1)) S) (vt_tb c (vt_w (c (p + 1 + c (p + 1) + 1)) S) (c (p + 1)) (p + 2) (vt_pl 1 S)))).2.2 = true := by
    rintro ⟨i, hi, h⟩
    refine fm_die (fm_pr (tb_bad _ _ _ i hi ?_))
    rw [e2, w_pl]
    exact h
  by_cases hg : ∃ i, i < c (p + 1) ∧ (S.2.1.length ≤ c (p + 2 + i) ∨ vt_w (c (p + 2 + i)) S ≠ vt_w (c (p + 1 + c (p + 1) + 1)) S)
  · -- the first bad label stops it; the end is not reached
    have hfin := hf (hbad hg)
    have go : ∀ r i l, i + r = c (p + 1) → r < l → (∃ j, i ≤ j ∧ j < c (p + 1) ∧ (S.2.1.length ≤ c (p + 2 + j) ∨ vt_w (c (p + 2 + j)) S ≠ vt_w (c (p + 1 + c (p + 1) + 1)) S)) → wX_checkBranchTable_29 post (nI (c (p + 1))) (nI (vt_w (c (p + 1 + c (p + 1) + 1)) S)) (gx_byteCount u) WP a (nI S.2.1.length) (nI S.1.length) (gx_valueCount u) (gx_activeCount u) (gx_goesOn u) (gx_outcome u) (gx_resultValue u) (gx_trapPlace u) (gx_fuelUsed u) (gx_firstWaiting u) (gx_waitingCount u) (gx_printCount u) (gx_code u) F Pa (gx_loaded u) (gx_globals u) (gx_memories u) A FH FR FD KI (gx_values u) (gx_variables u) (gx_activeSlot u) (gx_activeGives u) (gx_activeFrame u) (gx_activeResume u) (gx_waiting u) (gx_prints u) l (nI i) := by
      intro r
      induction r with
      | zero => intro i l hi hl ⟨j, j1, j2, _⟩; omega
      | succ r ih =>
        intro i l hi hl ⟨j, j1, j2, j3⟩
        obtain ⟨l, rfl⟩ : ∃ j, l = j + 1 := ⟨l - 1, by omega⟩
        refine pk_le (c (p + 1)) i (fun z => absurd z (by omega)) (fun _ => ?_)
        have e : (a + 2) + nI i = nI (p + 2 + i) := by rw [ha, show (2 : Int32) = nI 2 from rfl, nI_add, nI_add]
        refine eq_p (P := fun z => wpX_byteAt _ _ _ z) e ?_
        refine xx_byte (m := 2) M (by omega) (by omega) ?_
        refine x_label M _ (M.2.1 _) hF R (fun q1 hw2 => pk_eq (vt_w (c (p + 2 + i)) S) (vt_w (c (p + 1 + c (p + 1) + 1)) S) (fun z => nm_r (nI_1 i) (ih (i + 1) l (by omega) (by omega) ⟨j, ?_, j2, j3⟩)) (fun z => hfin _)) (fun q1 => br_f (fun y => ?_) (hfin _))
        · rcases Nat.lt_or_ge i j with q | q
          · exact q
          · have : j = i := by omega
            subst this
            rcases j3 with j3 | j3
            · omega
            · exact absurd z j3
        · have : (-1 : Int32) < 0 := by decide
          rw [y] at this
          exact nI_pos (by omega) this
    obtain ⟨j, j1, j2⟩ := hg
    exact go (c (p + 1)) 0 _ (Nat.zero_add _) (by omega) ⟨j, by omega, j1, j2⟩
  · have etb : vt_tb c (vt_w (c (p + 1 + c (p + 1) + 1)) S) (c (p + 1)) (p + 2) (vt_pl 1 S) = vt_pl 1 S := by
      refine tb_flag _ _ _ (fun i hi => ?_)
      rw [e2, w_pl]
      refine ⟨?_, ?_⟩
      · rcases Nat.lt_or_ge (c (p + 2 + i)) S.2.1.length with q | q
        · exact q
        · exact absurd ⟨i, hi, Or.inl q⟩ hg
      · refine Classical.byContradiction (fun q => hg ⟨i, hi, Or.inr q⟩)
    rw [etb] at hs hf
    refine x_tb_l M _ (c (p + 1)) hw h4 ha hp hF hb R S rfl ?_ (fun q => absurd q hg) (c (p + 1)) 0 _ (Nat.zero_add _) (by omega)
    refine pk_le (c (p + 1)) (c (p + 1)) (fun _ => ?_) (fun z => absurd z (by omega))
    refine x_take1 1 (by omega) (by omega) hF hb R (fun h2 R2 => br_f (by decide) ?_) (fun h2 kc => br_t rfl (hf (fm_die (fm_pr h2)) kc))
    refine x_take _ hw hF2 h2 R2 (fun h3 R3 => br_f (by decide) ?_) (fun h3 kc => br_t rfl ?_)
    · exact x_die (by rw [fk_pr]; exact hF2) R3 (fun FD R4 => br_f (by decide) (hs h3 FD R4))
    · rw [e2]; exact hf (fm_die h3) kc
theorem x_sel {post : Int32 → SX → Prop} (hF : S.2.1 ≠ []) (hb : S.2.2 = false) (R : XV c S A FH FR FD KI)
    (hs : (vt_sel S).2.2 = false → ∀ KI, XV c (vt_sel S) A FH FR FD KI → post 1 (xl u WP a (nI (vt_sel S).2.1.length) (nI (vt_sel S).1.length) F Pa A FH FR FD KI))
    (hf : (vt_sel S).2.2 = true → ∀ kc, post 0 (xl u WP a (nI S.2.1.length) kc F Pa A FH FR FD KI)) : wpX_checkSelect post (xl u WP a (nI S.2.1.length) (nI S.1.length) F Pa A FH FR FD KI) := by
  unfold vt_sel at hs hf
  unfold wpX_checkSelect
  have e1 : (vt_pl 1 S).2.1.length = S.2.1.length := by rw [fk_pl]
  have hF1 : (vt_pl 1 S).2.1 ≠ [] := by rw [fk_pl]; exact hF
  refine x_take1 1 (by omega) (by omega) hF hb R (fun h1 R1 => br_f (by decide) ?_) (fun h1 kc => br_t rfl (hf (fm_gv (fm_pl (fm_pl h1))) kc))
  generalize eS1 : vt_pl 1 S = S1 at *
  have e2 : (vt_pl 0 S1).2.1.length = S1.2.1.length := by rw [fk_pl]
  have hF2 : (vt_pl 0 S1).2.1 ≠ [] := by rw [fk_pl]; exact hF1
  have hfz : ∀ {Q : Prop}, (∀ kc, post 0 (xl u WP a (nI S.2.1.length) kc F Pa A FH FR FD KI)) → (Q → ∀ kc, post 0 (xl u WP a (nI S1.2.1.length) kc F Pa A FH FR FD KI)) := by
    intro Q q _ kc; rw [e1]; exact q kc
  refine x_top hF1 h1 R1 (fun h2 R2 k2 => ?_) (fun h2 eS2 => ?_)
  · -- the second operand is there
    have hxb : xk (vt_px 0 S1) ≠ 0 := by unfold xk; split <;> omega
    have hxb3 : xk (vt_px 0 S1) ≤ 3 := by unfold xk; split <;> omega
    refine x_top hF2 h2 R2 (fun h3 R3 k3 => ?_) (fun h3 eS3 => ?_)
    · have hxa : xk (vt_px 0 (vt_pl 0 S1)) ≠ 0 := by unfold xk; split <;> omega
      have hxa3 : xk (vt_px 0 (vt_pl 0 S1)) ≤ 3 := by unfold xk; split <;> omega
      refine pk_eq (xk (vt_px 0 (vt_pl 0 S1))) 0 (fun z => absurd z hxa) (fun _ => pk_eq (xk (vt_px 0 S1)) 0 (fun z => absurd z hxb) (fun _ => ?_))
      generalize eS2 : vt_pl 0 S1 = S2 at *
      generalize eb : vt_px 0 S1 = kb at *
      have e3 : (vt_pl 0 S2).2.1.length = S1.2.1.length := by rw [fk_pl]; exact e2
      have hsame : (vt_pl kb S2).1 = (vt_pl 0 S2).1 ∧ (vt_pl kb S2).2.1 = (vt_pl 0 S2).2.1 := by
        unfold vt_pl; split <;> exact ⟨rfl, rfl⟩
      have hpx : vt_px kb S2 = if S2.1.length = f_h S2.2.1 then kb else vt_px 0 S2 := by
        unfold vt_px
        by_cases q : S2.1.length = f_h S2.2.1
        · rw [if_pos q, if_pos q]
        · rw [if_neg q, if_neg q, if_neg q]
      have hfl : (vt_pl kb S2).2.2 = (if S2.1.length = f_h S2.2.1 then false else pl_f (vt_px 0 S2) kb) := by
        unfold vt_pl vt_px
        by_cases q : S2.1.length = f_h S2.2.1
        · rw [if_pos q, if_pos q]
          rw [show (vt_pl 0 S2).2.2 = (S2.2.2 || !f_d S2.2.1) from by unfold vt_pl; rw [if_pos q], h2] at h3
          show (S2.2.2 || !f_d S2.2.1) = false
          rw [h2]; exact h3
        · rw [if_neg q, if_neg q]
          show (S2.2.2 || pl_f (S2.1.headD 0) kb) = _
          rw [h2, if_neg q]; rfl
      have hp0 : S2.1.length = f_h S2.2.1 → vt_px 0 S2 = 0 := fun q => by unfold vt_px; rw [if_pos q]
      have key : ∀ kg, kg ≤ 2 → (vt_pl kb S2).2.2 = false → (if kb = 0 then vt_px kb S2 else kb) = kg → wpX_give (fun r u => narrow .boolean (.int r) = .int r ∧ post r u) (xl u WP a (nI (vt_pl 0 S2).2.1.length) (nI (vt_pl 0 S2).1.length) F Pa A FH FR FD KI) (nI (xk kg)) := by
        intro kg hkg hfl0 ekg
        rw [ekg] at hs hf
        have eqS : vt_pl kb S2 = vt_pl 0 S2 := by
          obtain ⟨q1, q2⟩ := hsame
          have q3 : (vt_pl kb S2).2.2 = (vt_pl 0 S2).2.2 := by rw [hfl0, h3]
          exact Prod.ext q1 (Prod.ext q2 q3)
        rw [eqS] at hs hf
        refine x_gv kg hkg h3 R3 (fun h4 KI R4 => ⟨bb_nar true, hs h4 KI R4⟩) (fun h4 => ⟨bb_nar false, ?_⟩)
        rw [e3, e1]; exact hf h4 _
      have key51 : ∀ kg, kg ≤ 2 → (vt_pl kb S2).2.2 = false → (if kb = 0 then vt_px kb S2 else kb) = kg → wX_checkSelect_51 post (nI (xk kg)) (gx_byteCount u) WP a (nI (vt_pl 0 S2).2.1.length) (nI (vt_pl 0 S2).1.length) (gx_valueCount u) (gx_activeCount u) (gx_goesOn u) (gx_outcome u) (gx_resultValue u) (gx_trapPlace u) (gx_fuelUsed u) (gx_firstWaiting u) (gx_waitingCount u) (gx_printCount u) (gx_code u) F Pa (gx_loaded u) (gx_globals u) (gx_memories u) A FH FR FD KI (gx_values u) (gx_variables u) (gx_activeSlot u) (gx_activeGives u) (gx_activeFrame u) (gx_activeResume u) (gx_waiting u) (gx_prints u) := by
        intro kg hkg hfl0 ekg
        rw [ekg] at hs hf
        have eqS : vt_pl kb S2 = vt_pl 0 S2 := by
          obtain ⟨q1, q2⟩ := hsame
          have q3 : (vt_pl kb S2).2.2 = (vt_pl 0 S2).2.2 := by rw [hfl0, h3]
          exact Prod.ext q1 (Prod.ext q2 q3)
        rw [eqS] at hs hf
        unfold wX_checkSelect_51
        refine x_gv kg hkg h3 R3 (fun h4 KI R4 => br_f (by decide) (hs h4 KI R4)) (fun h4 => br_t rfl ?_)
        rw [e3, e1]; exact hf h4 _
      refine pk_eq (xk (vt_px 0 S2)) 3 (fun z => ?_) (fun z => ?_)
      · have z0 : vt_px 0 S2 = 0 := by unfold xk at z; split at z <;> omega
        refine key kb k2 ?_ ?_
        · rw [hfl, z0]; split
          · rfl
          · exact if_neg (by omega)
        · rw [hpx, z0]; split
          · rename_i q; rw [q]; split <;> rfl
          · rfl
      · have z0 : vt_px 0 S2 ≠ 0 := by intro q; exact z (if_pos q)
        have ne : ¬ S2.1.length = f_h S2.2.1 := fun q => z0 (hp0 q)
        rw [if_neg ne] at hfl hpx
        have exa : xk (vt_px 0 S2) = vt_px 0 S2 := if_neg z0
        refine pk_eq (xk kb) (xk (vt_px 0 S2)) (fun y => ?_) (fun y => pk_eq (xk kb) 3 (fun y2 => ?_) (fun y2 => ?_))
        · have yb : kb = vt_px 0 S2 := by rw [exa] at y; unfold xk at y; split at y <;> omega
          refine key51 _ k3 ?_ ?_
          · rw [hfl]; exact if_neg (by omega)
          · rw [hpx]; split
            · rfl
            · exact yb
        · have yb : kb = 0 := by unfold xk at y2; split at y2 <;> omega
          refine key51 _ k3 ?_ ?_
          · rw [hfl]; exact if_neg (by omega)
          · rw [hpx, if_pos yb]
        · have yb : kb ≠ 0 := by intro q; exact y2 (if_pos q)
          have exb : xk kb = kb := if_neg yb
          rw [exa, exb] at y
          rw [e3, e1]
          refine hf (fm_gv ?_) _
          rw [hfl]
          exact if_pos ⟨z0, yb, fun q => y q.symm⟩
    · -- no first operand
      refine br_t rfl ?_
      rw [e2, e1]
      refine hf (fm_gv ?_) _
      have hq : (vt_pl 0 S1).1.length = f_h (vt_pl 0 S1).2.1 := by
        refine Classical.byContradiction (fun q => ?_)
        rw [pl_n q, h2, show pl_f ((vt_pl 0 S1).1.headD 0) 0 = false from if_neg (by omega)] at h3
        exact ff_t h3
      rw [pl_p hq] at h3 ⊢
      exact h3
  · -- no second operand
    have hfT : (vt_gv (if vt_px 0 S1 = 0 then vt_px (vt_px 0 S1) (vt_pl 0 S1) else vt_px 0 S1) (vt_pl (vt_px 0 S1) (vt_pl 0 S1))).2.2 = true := fm_gv (fm_pl h2)
    have hz := hf hfT
    have hall : ∀ kc r, (r = (0 : Int32) → post 0 (xl u WP a (nI S1.2.1.length) kc F Pa A FH FR FD KI)) ∧ (¬ r = 0 → ((0 : Int32) = 0 → post 0 (xl u WP a (nI S1.2.1.length) kc F Pa A FH FR FD KI)) ∧ (¬ (0 : Int32) = 0 → ((r = 3 → wpX_give (fun r u => narrow .boolean (.int r) = .int r ∧ post r u) (xl u WP a (nI S1.2.1.length) kc F Pa A FH FR FD KI) 0) ∧ (¬ r = 3 → (((0 : Int32) = r → wX_checkSelect_51 post r (gx_byteCount u) WP a (nI S1.2.1.length) kc (gx_valueCount u) (gx_activeCount u) (gx_goesOn u) (gx_outcome u) (gx_resultValue u) (gx_trapPlace u) (gx_fuelUsed u) (gx_firstWaiting u) (gx_waitingCount u) (gx_printCount u) (gx_code u) F Pa (gx_loaded u) (gx_globals u) (gx_memories u) A FH FR FD KI (gx_values u) (gx_variables u) (gx_activeSlot u) (gx_activeGives u) (gx_activeFrame u) (gx_activeResume u) (gx_waiting u) (gx_prints u)) ∧ (¬ (0 : Int32) = r → ((((0 : Int32) = 3 → wX_checkSelect_51 post r (gx_byteCount u) WP a (nI S1.2.1.length) kc (gx_valueCount u) (gx_activeCount u) (gx_goesOn u) (gx_outcome u) (gx_resultValue u) (gx_trapPlace u) (gx_fuelUsed u) (gx_firstWaiting u) (gx_waitingCount u) (gx_printCount u) (gx_code u) F Pa (gx_loaded u) (gx_globals u) (gx_memories u) A FH FR FD KI (gx_values u) (gx_variables u) (gx_activeSlot u) (gx_activeGives u) (gx_activeFrame u) (gx_activeResume u) (gx_waiting u) (gx_prints u)) ∧ (¬ (0 : Int32) = 3 → post 0 (xl u WP a (nI S1.2.1.length) kc F Pa A FH FR FD KI)))))))))) := by
      intro kc r
      refine br_c (fun _ => ?_) (fun _ => br_t rfl ?_)
      · rw [e1]; exact hz kc
      · rw [e1]; exact hz kc
    refine x_top hF1 h1 R1 (fun h3 R3 k3 => absurd (h3.symm.trans h2) (by decide)) (fun h3 eS3 => ?_)
    exact hall _ 0
end
