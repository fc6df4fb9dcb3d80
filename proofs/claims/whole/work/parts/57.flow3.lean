def bv (d : Nat) (E : List ev) (F : List vt_Fr) : Prop := d < F.length ∧ (vt_pr (if f_c (F.drop d) = 3 then 0 else f_g (F.drop d)) (ek E, F, false)).2.2 = false
theorem vw_F {d : Nat} {S : vt_St} (h : d < S.2.1.length) : vt_w d S = if f_c (S.2.1.drop d) = 3 then 0 else f_g (S.2.1.drop d) := by
  unfold vt_w; rw [if_neg (by omega)]
theorem ws_i {d : Nat} {K : List Nat} {F : List vt_Fr} (h : (vt_ws d (K, F, false)).2.2 = false) : d < F.length ∧ vt_ws d (K, F, false) = (K, F, false) := by
  unfold vt_ws at h ⊢
  obtain ⟨_, h2⟩ := bf_bad h
  have h3 := of_decide_eq_false h2
  dsimp only at h3
  refine ⟨by omega, ?_⟩
  rw [h2]
  rfl
theorem v_7 {c : Nat → Nat} {n f p : Nat} {E : List ev} {F : List vt_Fr} (h : c p = 7) (ok : (v_st c n f p (ek E, F, false)).2.2 = false) : bv (c (p + 1)) E F := by
  unfold v_st at ok
  rw [if_neg (by omega), if_neg (by omega), if_neg (by omega), if_neg (by omega), if_neg (by omega), if_pos h] at ok
  have ok' : (vt_pr (vt_w (c (p + 1)) (ek E, F, false)) (vt_ws (c (p + 1)) (ek E, F, false))).2.2 = false := ok
  obtain ⟨a, b⟩ := ws_i (bf_pr ok')
  rw [b, vw_F (S := (ek E, F, false)) a] at ok'
  exact ⟨a, ok'⟩
theorem v_8 {c : Nat → Nat} {n f p : Nat} {E : List ev} {F : List vt_Fr} (h : c p = 8) (ok : (v_st c n f p (ek E, F, false)).2.2 = false) (hd : f_d F = false) (hz : tv E) (hh : f_h F ≤ E.length) :
    ∃ v E', E = (1, v) :: E' ∧ f_h F ≤ E'.length ∧ tv E' ∧ bv (c (p + 1)) E' F ∧ v_st c n f p (ek E, F, false) = (ek E', F, false) := by
  unfold v_st at ok ⊢
  rw [if_neg (by omega), if_neg (by omega), if_neg (by omega), if_neg (by omega), if_neg (by omega), if_neg (by omega), if_pos h] at ok ⊢
  have o1 := bf_gr ok
  have o2 := bf_pr o1
  have o3 : (vt_pl 1 (ek E, F, false)).2.2 = false := (bf_bad o2).1
  obtain ⟨x, v, E', q1, q2, q3, q4, q5, q6, q7, q8⟩ := pe o3 hd hz hh
  have := q3 (by omega)
  subst this
  rw [q4] at ok o1 o2 ⊢
  obtain ⟨a, b⟩ := ws_i o2
  rw [b, vw_F (S := (ek E', F, false)) a] at ok o1
  rw [b, vw_F (S := (ek E', F, false)) a]
  dsimp only at ok o1 ⊢
  obtain ⟨v2, E2, p1, p2, p3, p4, p5, p6⟩ := pr_e o1 hd q7 q2
  refine ⟨v, E', q1, q2, q7, ⟨a, o1⟩, ?_⟩
  rw [p4] at ok ⊢
  rw [(pu_gr (v := v2) rfl ok).1, ← p1]
theorem tb_i {c : Nat → Nat} {w : Nat} {K : List Nat} {F : List vt_Fr} : ∀ r q, (vt_tb c w r q (K, F, false)).2.2 = false → vt_tb c w r q (K, F, false) = (K, F, false) ∧ ∀ i, i < r → c (q + i) < F.length ∧ (if f_c (F.drop (c (q + i))) = 3 then 0 else f_g (F.drop (c (q + i)))) = w := by
  intro r
  induction r with
  | zero => intro q _; exact ⟨rfl, fun i hi => absurd hi (by omega)⟩
  | succ r ih =>
    intro q h
    rw [vt_tb] at h ⊢
    by_cases z : (vt_bad (vt_ws (c q) (K, F, false)) (decide (vt_w (c q) (K, F, false) ≠ w))).2.2 = false
    · obtain ⟨z1, z2⟩ := bf_bad z
      obtain ⟨z3, z4⟩ := ws_i z1
      have z5 := of_decide_eq_false z2
      have z6 : vt_w (c q) (K, F, false) = w := Classical.byContradiction (fun y => z5 y)
      rw [z2, z4] at h ⊢
      have e : vt_bad (K, F, false) false = (K, F, false) := rfl
      rw [e] at h ⊢
      obtain ⟨a, b⟩ := ih (q + 1) h
      refine ⟨a, fun i hi => ?_⟩
      cases i with
      | zero => rw [Nat.add_zero]; rw [vw_F (S := (K, F, false)) z3] at z6; exact ⟨z3, z6⟩
      | succ i =>
        have := b i (by omega)
        rw [show q + 1 + i = q + (i + 1) by omega] at this
        exact this
    · exfalso
      have z' : (vt_bad (vt_ws (c q) (K, F, false)) (decide (vt_w (c q) (K, F, false) ≠ w))).2.2 = true := by
        cases e : (vt_bad (vt_ws (c q) (K, F, false)) (decide (vt_w (c q) (K, F, false) ≠ w))).2.2 with
        | false => exact absurd e z
        | true => rfl
      have mono : ∀ r q (S : vt_St), S.2.2 = true → (vt_tb c w r q S).2.2 = true := by
        intro r
        induction r with
        | zero => intro q S hS; exact hS
        | succ r ih2 => intro q S hS; rw [vt_tb]; exact ih2 _ _ (by simp [vt_bad, vt_ws, hS])
      rw [mono _ _ _ z'] at h
      exact ff_t h.symm
theorem v_9 {c : Nat → Nat} {n f p : Nat} {E : List ev} {F : List vt_Fr} (h : c p = 9) (ok : (v_st c n f p (ek E, F, false)).2.2 = false) (hd : f_d F = false) (hz : tv E) (hh : f_h F ≤ E.length) :
    ∃ v E', E = (1, v) :: E' ∧ f_h F ≤ E'.length ∧ tv E' ∧ ∀ i, i ≤ c (p + 1) → bv (c (p + 2 + i)) E' F := by
  unfold v_st at ok
  rw [if_neg (by omega), if_neg (by omega), if_neg (by omega), if_neg (by omega), if_neg (by omega), if_neg (by omega), if_neg (by omega), if_pos h] at ok
  unfold vt_table at ok
  have ok' : (vt_pr (vt_w (c (p + 1 + c (p + 1) + 1)) (vt_pl 1 (ek E, F, false))) (vt_tb c (vt_w (c (p + 1 + c (p + 1) + 1)) (vt_pl 1 (ek E, F, false))) (c (p + 1)) (p + 2) (vt_ws (c (p + 1 + c (p + 1) + 1)) (vt_pl 1 (ek E, F, false))))).2.2 = false := ok
  have mono : ∀ w r q (S : vt_St), S.2.2 = true → (vt_tb c w r q S).2.2 = true := by
    intro w r
    induction r with
    | zero => intro q S hS; exact hS
    | succ r ih2 => intro q S hS; rw [vt_tb]; exact ih2 _ _ (by simp [vt_bad, vt_ws, hS])
  have o1 := bf_pr ok'
  have o2 : (vt_ws (c (p + 1 + c (p + 1) + 1)) (vt_pl 1 (ek E, F, false))).2.2 = false := by
    cases e : (vt_ws (c (p + 1 + c (p + 1) + 1)) (vt_pl 1 (ek E, F, false))).2.2 with
    | false => rfl
    | true => rw [mono _ _ _ _ e] at o1; exact ff_t o1.symm
  have o3 : (vt_pl 1 (ek E, F, false)).2.2 = false := (bf_bad o2).1
  obtain ⟨x, v, E', q1, q2, q3, q4, q5, q6, q7, q8⟩ := pe o3 hd hz hh
  have := q3 (by omega)
  subst this
  rw [q4] at ok' o1 o2
  obtain ⟨a, b⟩ := ws_i o2
  rw [b, vw_F (S := (ek E', F, false)) a] at ok' o1
  dsimp only at ok' o1
  obtain ⟨t1, t2⟩ := tb_i _ _ o1
  rw [t1] at ok'
  refine ⟨v, E', q1, q2, q7, fun i hi => ?_⟩
  by_cases z : i = c (p + 1)
  · subst z
    rw [show p + 2 + c (p + 1) = p + 1 + c (p + 1) + 1 by omega]
    exact ⟨a, ok'⟩
  · obtain ⟨y1, y2⟩ := t2 i (by omega)
    refine ⟨y1, ?_⟩
    rw [y2]; exact ok'
theorem v_10 {c : Nat → Nat} {n f p : Nat} {E : List ev} {F : List vt_Fr} (h : c p = 10) (ok : (v_st c n f p (ek E, F, false)).2.2 = false) : (vt_pr (f_b F) (ek E, F, false)).2.2 = false := by
  unfold v_st at ok
  rw [if_neg (by omega), if_neg (by omega), if_neg (by omega), if_neg (by omega), if_neg (by omega), if_neg (by omega), if_neg (by omega), if_neg (by omega), if_pos h] at ok
  exact ok
def gv : List ev → Nat → Int64
  | [], _ => 0
  | (_, v) :: E, i => if i = E.length then v else gv E i
theorem gv_el {V : Nat → Int64} {b : Nat} : ∀ E : List ev, el_ok V b E → ∀ i, i < E.length → V (b + i) = gv E i := by
  intro E
  induction E with
  | nil => intro _ i hi; exact absurd hi (by simp)
  | cons x E ih =>
    intro h i hi
    obtain ⟨k, v⟩ := x
    rw [gv]
    by_cases z : i = E.length
    · rw [if_pos z, z]; exact h.1
    · rw [if_neg z]; rw [List.length_cons] at hi; exact ih h.2 i (by omega)
theorem gv_app : ∀ (X E : List ev) i, i < E.length → gv (X ++ E) i = gv E i := by
  intro X E
  induction X with
  | nil => intro i _; rfl
  | cons x X ih =>
    intro i hi
    obtain ⟨k, v⟩ := x
    rw [List.cons_append, gv, if_neg (by rw [List.length_append]; omega)]
    exact ih i hi
theorem ps_i {c : Nat → Nat} {t : Nat} {F : List vt_Fr} (hd : f_d F = false) : ∀ k (E : List ev), (∀ i, i < k → c (t + 1 + i) ≠ 0) → (vt_ps c t k (ek E, F, false)).2.2 = false → tv E → f_h F ≤ E.length →
    ∃ X E', E = X ++ E' ∧ X.length = k ∧ f_h F ≤ E'.length ∧ tv E' ∧ vt_ps c t k (ek E, F, false) = (ek E', F, false) ∧ ∀ j, j < k → c (t + 1 + j) = 1 → sx64 (gv E (E'.length + j)) := by
  intro k
  induction k with
  | zero => intro E _ _ hz hh; exact ⟨[], E, rfl, rfl, hh, hz, rfl, fun j hj => absurd hj (by omega)⟩
  | succ k ih =>
    intro E hc ok hz hh
    rw [vt_ps] at ok ⊢
    have mono : ∀ k (S : vt_St), S.2.2 = true → (vt_ps c t k S).2.2 = true := by
      intro k
      induction k with
      | zero => intro S hS; exact hS
      | succ k ih2 => intro S hS; rw [vt_ps]; exact ih2 _ (fm_pl hS)
    have o1 : (vt_pl (c (t + 1 + k)) (ek E, F, false)).2.2 = false := by
      cases e : (vt_pl (c (t + 1 + k)) (ek E, F, false)).2.2 with
      | false => rfl
      | true => rw [mono _ _ e] at ok; exact ff_t ok.symm
    obtain ⟨x, v, E1, q1, q2, q3, q4, q5, q6, q7, q8⟩ := pe o1 hd hz hh
    have := q3 (hc k (by omega))
    subst this
    rw [q4] at ok ⊢
    obtain ⟨X, E', r1, r2, r3, r4, r5, r6⟩ := ih E1 (fun i hi => hc i (by omega)) ok q7 q2
    refine ⟨(c (t + 1 + k), v) :: X, E', by rw [q1, r1]; rfl, by rw [List.length_cons, r2], r3, r4, r5, fun j hj h1 => ?_⟩
    have hl : E1.length = E'.length + k := by rw [r1, List.length_append]; omega
    rw [q1, gv]
    by_cases z : j = k
    · subst z
      rw [if_pos hl.symm]
      exact q6 h1
    · rw [if_neg (by omega)]
      exact r6 j (by omega) h1
section
variable {FA FH FA' FH' : Nat → Int32} {V VR : Nat → Int64} {AS AG AF : Nat → Int32} {ST : Nat → Int64} {LA LH LG CM CF CB CS CL : Nat → Int32} {s f nv g p p' k d j : Nat} {v : Int64} {X E E0 : List ev} {L : Nat → Int64} {F : List vt_Fr} {R : List ac}
theorem xa_F (h : xa_ok FA FH V VR AS AG AF ((s, f, nv, g, p, X ++ E0, L, F) :: R)) : xa_ok FA FH V VR AS AG AF ((s, f, nv, g, p', E0.drop j, L, F.drop d) :: R) := ⟨el_drop _ _ (el_app X E0 h.1), h.2.1, xfr_drop _ _ h.2.2.1, h.2.2.2⟩
theorem ya_F (h : ya_ok ST LA LH LG CM CF CB CS CL ((s, f, nv, g, p, X ++ E0, L, F) :: R)) : ya_ok ST LA LH LG CM CF CB CS CL ((s, f, nv, g, p', E0.drop j, L, F.drop d) :: R) := ⟨el_drop _ _ (el_app X E0 h.1), h.2.1, yfr_drop _ _ h.2.2.1, h.2.2.2⟩
theorem xa_open {cd gg o : Nat} {dd : Bool} (h : xa_ok FA FH V VR AS AG AF ((s, f, nv, g, p, X ++ E0, L, F) :: R)) (h6 : ∀ a, a ∈ R → a.2.2.1 ≤ 6) : xa_ok (upd FA (fb R + F.length) (nI o)) (upd FH (fb R + F.length) (nI (vb R + E0.length))) V VR AS AG AF ((s, f, nv, g, p', E0, L, (cd, gg, E0.length, dd, o) :: F) :: R) := by
  obtain ⟨h1, h2, h3, h4, h5, h6', h7⟩ := h
  exact ⟨el_app X E0 h1, h2, ⟨pk_us, pk_us, xfr_ext F h3 (fun j _ hj => pk_un (by omega)) (fun j _ hj => pk_un (by omega))⟩, h4, h5, h6', xa_ext R h7 (fun j hj => pk_un (by omega)) (fun j hj => pk_un (by omega)) (fun _ _ => rfl) (fun _ _ => rfl) (fun _ _ => rfl) (fun _ _ => rfl) (fun _ _ => rfl) h6⟩
theorem ya_open {cd gg o : Nat} {dd : Bool} (h : ya_ok ST LA LH LG CM CF CB CS CL ((s, f, nv, g, p, X ++ E0, L, F) :: R)) (hF : F ≠ []) : ya_ok ST (upd LA (fb R + F.length) (nI o)) (upd LH (fb R + F.length) (nI (yb R + nv + E0.length))) (upd LG (fb R + F.length) (nI (if cd = 3 then 0 else gg))) CM CF CB CS CL ((s, f, nv, g, p', E0, L, (cd, gg, E0.length, dd, o) :: F) :: R) := by
  obtain ⟨h1, h2, h3, h4, h5, h6', h7, h8, h9⟩ := h
  exact ⟨el_app X E0 h1, h2, ⟨by rw [pk_us, if_neg hF], pk_us, pk_us, yfr_ext F h3 (fun j _ hj => pk_un (by omega)) (fun j _ hj => pk_un (by omega)) (fun j _ hj => pk_un (by omega))⟩, h4, h5, h6', h7, h8, ya_ext R h9 (fun _ _ => rfl) (fun j hj => pk_un (by omega)) (fun j hj => pk_un (by omega)) (fun j hj => pk_un (by omega)) (fun _ _ => rfl) (fun _ _ => rfl) (fun _ _ => rfl) (fun _ _ => rfl) (fun _ _ => rfl)⟩
theorem xfr_bot {b vv : Nat} : ∀ F : List vt_Fr, F ≠ [] → xfr FA FH b vv F → f_h (F.drop (F.length - 1)) = 0 → FH b = nI vv := by
  intro F
  induction F with
  | nil => intro h; exact absurd rfl h
  | cons x F ih =>
    intro _ h h0
    obtain ⟨cd, gg, hh, dd, o⟩ := x
    obtain ⟨h1, h2, h3⟩ := h
    cases F with
    | nil =>
      have z : hh = 0 := h0
      subst z
      exact h2
    | cons y F =>
      refine ih (by simp) h3 ?_
      rw [List.length_cons] at h0 ⊢
      rw [List.length_cons] at h0
      exact h0
end
