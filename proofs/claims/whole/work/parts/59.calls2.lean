theorem v_cal {c : Nat → Nat} {n f p : Nat} {S : vt_St} (h : c p = 11 ∨ c p = 12) : v_st c n f p S = vt_call c n (c p) (c (p + 1)) S := by
  unfold v_st
  rw [if_neg (by omega), if_neg (by omega), if_neg (by omega), if_neg (by omega), if_neg (by omega), if_neg (by omega), if_neg (by omega), if_neg (by omega), if_neg (by omega), if_pos h]
theorem cl_i {c : Nat → Nat} {t r : Nat} {E : List ev} {F : List vt_Fr} (hd : f_d F = false) (hz : tv E) (hh : f_h F ≤ E.length) (ht : ty_ok c t) (ok : (vt_gr r (vt_ps c t (c t) (ek E, F, false))).2.2 = false) :
    ∃ X E', E = X ++ E' ∧ X.length = c t ∧ f_h F ≤ E'.length ∧ tv E' ∧ vt_ps c t (c t) (ek E, F, false) = (ek E', F, false) ∧ ∀ j, j < c t → c (t + 1 + j) = 1 → sx64 (gv E (E'.length + j)) :=
  ps_i hd (c t) E (fun i hi => by have := ht.2.1 i hi; omega) (bf_gr ok) hz hh
theorem v_11 {c : Nat → Nat} {n f p : Nat} {E : List ev} {F : List vt_Fr} (h : c p = 11) (mp : mp_ok c n) (ok : (v_st c n f p (ek E, F, false)).2.2 = false) (hd : f_d F = false) (hz : tv E) (hh : f_h F ≤ E.length) :
    c (p + 1) < m_I c n + m_F c n ∧ ∃ X E', E = X ++ E' ∧ X.length = c (m_ty c n (c (m_fa c n (c (p + 1))))) ∧ f_h F ≤ E'.length ∧ tv E' ∧ v_st c n f p (ek E, F, false) = vt_gr (ty_r c (m_ty c n (c (m_fa c n (c (p + 1)))))) (ek E', F, false) ∧ ∀ j, j < X.length → c (m_ty c n (c (m_fa c n (c (p + 1)))) + 1 + j) = 1 → sx64 (gv E (E'.length + j)) := by
  rw [v_cal (Or.inl h)] at ok ⊢
  unfold vt_call cl_t at ok ⊢
  rw [h, if_pos rfl] at ok ⊢
  by_cases z : c (p + 1) < m_I c n + m_F c n ∧ c (m_fa c n (c (p + 1))) < c 0
  · rw [if_pos z] at ok ⊢
    dsimp only at ok ⊢
    rw [if_neg (by omega)] at ok ⊢
    obtain ⟨X, E', e1, e2, e3, e4, e5, e6⟩ := cl_i hd hz hh (mp.2.1 _ z.2).1 ok
    refine ⟨z.1, X, E', e1, e2, e3, e4, by rw [e5], fun j hj => e6 j (by omega)⟩
  · rw [if_neg z] at ok
    have := (bf_bad ok).2
    exact ff_t this.symm
theorem v_12 {c : Nat → Nat} {n f p : Nat} {E : List ev} {F : List vt_Fr} (h : c p = 12) (mp : mp_ok c n) (ok : (v_st c n f p (ek E, F, false)).2.2 = false) (hd : f_d F = false) (hz : tv E) (hh : f_h F ≤ E.length) :
    c (p + 1) < c 0 ∧ ∃ v X E', E = (1, v) :: (X ++ E') ∧ X.length = c (m_ty c n (c (p + 1))) ∧ f_h F ≤ E'.length ∧ tv E' ∧ v_st c n f p (ek E, F, false) = vt_gr (ty_r c (m_ty c n (c (p + 1)))) (ek E', F, false) ∧ ∀ j, j < X.length → c (m_ty c n (c (p + 1)) + 1 + j) = 1 → sx64 (gv (X ++ E') (E'.length + j)) := by
  rw [v_cal (Or.inr h)] at ok ⊢
  unfold vt_call cl_t at ok ⊢
  rw [h, if_neg (by omega)] at ok ⊢
  by_cases z : c (p + 1) < c 0
  · rw [if_pos z] at ok ⊢
    dsimp only at ok ⊢
    rw [if_pos rfl] at ok ⊢
    have mono : ∀ k (S : vt_St), S.2.2 = true → (vt_ps c (m_ty c n (c (p + 1))) k S).2.2 = true := by
      intro k
      induction k with
      | zero => intro S hS; exact hS
      | succ k ih2 => intro S hS; rw [vt_ps]; exact ih2 _ (fm_pl hS)
    have o0 := bf_gr ok
    have o1 : (vt_pl 1 (ek E, F, false)).2.2 = false := by
      cases e : (vt_pl 1 (ek E, F, false)).2.2 with
      | false => rfl
      | true => rw [mono _ _ e] at o0; exact ff_t o0.symm
    obtain ⟨x, v, E1, q1, q2, q3, q4, q5, q6, q7, q8⟩ := pe o1 hd hz hh
    have := q3 (by omega)
    subst this
    rw [q4] at ok ⊢
    obtain ⟨X, E', e1, e2, e3, e4, e5, e6⟩ := cl_i hd q7 q2 (mp.2.1 _ z).1 ok
    refine ⟨z, v, X, E', by rw [q1, e1], e2, e3, e4, by rw [e5], fun j hj y => ?_⟩
    rw [← e1]
    exact e6 j (by omega) y
  · rw [if_neg z] at ok
    have := (bf_bad ok).2
    exact ff_t this.symm
section
variable {B : Nat → Bool} {C : Nat → Nat → Nat} {N : Nat → Nat} {PP : Nat → Nat → Nat} {pend s f nv g p d : Nat} {X E E0 : List ev} {L : Nat → Int64} {F : List vt_Fr} {v : Int64}
theorem a_call {r : Nat} (AO : a_ok B C N PP 0 s f nv g p (X ++ E0) L F) (hN : N s ≤ 140) (hop : C s p = 11 ∨ C s p = 12) (hh : f_h F ≤ E0.length) (ht : tv E0) (hv : v_st (C s) (N s) f p (ek (X ++ E0), F, false) = vt_gr r (ek E0, F, false)) :
    a_ok B C N PP r s f nv g (nx (C s) p) E0 L F ∧ p < nx (C s) p ∧ nx (C s) p < 140 := by
  obtain ⟨a1, a2, a3, a4, a5, a6, a7, a8, a9, a10, a11, a12, ⟨k, a13⟩, a14, a15, a16⟩ := AO
  have a13' : wk (C s) (N s) (PP s) f k p (ek (X ++ E0), F, false) := a13
  obtain ⟨w1, w2⟩ := wk_s a13'
  rw [hv] at w2
  have e : (vt_gr r (ek E0, F, false)).2.1 = F := fk_gr r _
  rcases w2 with w2 | ⟨k', w2⟩
  · exact absurd (e.symm.trans w2) a9
  have n1 := (wk_n w2).1
  rw [List.length_append] at a8
  refine ⟨⟨a1, a2, a3, a4, a5, a6, ht, by omega, a9, a10, fo_ext a11 (by rw [ek_len]; exact hh) ?_, a12, ⟨k', w2⟩, a14, by omega, dp_n (by omega) (by omega) a16⟩, nx_gt _ _, by omega⟩
  rw [ek_app, lo_app _ (by rw [ek_len]; exact hh)]
theorem a_new (h : sm_ok (C s) (N s) (PP s)) (hs : s < 2) (hB : B s = true) (h1 : m_I (C s) (N s) ≤ f) (h2 : f < m_I (C s) (N s) + m_F (C s) (N s)) (hL : ∀ v, v < nvf (C s) (N s) f → vk (C s) (N s) f v = 1 → sx64 (L v)) :
    a_ok B C N PP 0 s f (nvf (C s) (N s) f) (rsf (C s) (N s) f) (m_bo (C s) (N s) f) [] L [(0, rsf (C s) (N s) f, 0, false, m_bo (C s) (N s) f)] ∧ m_bo (C s) (N s) f < 140 := by
  have w := beg_ok h h1 h2
  have n1 := (wk_n w).1
  have hN := h.1
  have mp := (mp_of h.2.1).1
  have t1 := sm_t h h2
  have g2 : rsf (C s) (N s) f ≤ 2 := ty_r_le t1
  have l1 := (mp.2.2.2.2.2.1 f h1 h2).1
  have l2 := t1.1
  refine ⟨⟨hs, hB, h1, h2, ⟨rfl, by unfold nvf; omega⟩, ⟨rfl, g2⟩, trivial, by simp, by simp, by simp, ⟨rfl, Nat.le_refl _, g2, fun _ => ⟨rfl, rfl⟩, fun z => absurd rfl z, trivial⟩, rfl, ⟨141, w⟩, hL, by omega, dp_1⟩, by omega⟩
def lvf (E : List ev) (b np : Nat) : Nat → Int64 := fun v => if v < np then gv E (b + v) else 0
theorem lv_sx {c c' : Nat → Nat} {n' f' t b : Nat} (ht : ty_ok c t) (ht' : ty_ok c' (m_ty c' n' (c' (m_fa c' n' f')))) (e : sg c t = sg c' (m_ty c' n' (c' (m_fa c' n' f')))) (h : ∀ j, j < c t → c (t + 1 + j) = 1 → sx64 (gv E (b + j))) : ∀ v, v < nvf c' n' f' → vk c' n' f' v = 1 → sx64 (lvf E b (c t) v) := by
  obtain ⟨e1, e2, e3⟩ := sg_eq ht ht' e
  intro v hv hk
  unfold lvf
  by_cases z : v < c t
  · rw [if_pos z]
    refine h v z ?_
    rw [e3 v z]
    unfold vk at hk
    rw [if_pos (by omega)] at hk
    exact hk
  · rw [if_neg z]
    unfold sx64
    decide
end
section
variable {FA FH FA' FH' : Nat → Int32} {V VR VR' : Nat → Int64} {AS AG AF : Nat → Int32} {ST ST' : Nat → Int64} {LA LH LG CM CF CB CS CL : Nat → Int32} {s f nv g p k d j : Nat} {v : Int64} {X E E0 : List ev} {L : Nat → Int64} {F : List vt_Fr} {R : List ac}
theorem xa_new (h : xa_ok FA FH V VR AS AG AF R) (h6 : ∀ a, a ∈ R → a.2.2.1 ≤ 6) (hv : ∀ i, i < nv → VR' (R.length * 6 + i) = L i) (hu : ∀ j, j < R.length * 6 → VR' j = VR j) :
    xa_ok (upd FA (fb R) (nI p)) (upd FH (fb R) (nI (vb R))) V VR' (upd AS R.length (nI s)) (upd AG R.length (nI g)) (upd AF R.length (nI (fb R))) ((s, f, nv, g, p, [], L, [(0, g, 0, false, p)]) :: R) :=
  ⟨trivial, hv, ⟨pk_us, pk_us, trivial⟩, pk_us, pk_us, pk_us, xa_ext R h (fun j hj => pk_un (by omega)) (fun j hj => pk_un (by omega)) (fun _ _ => rfl) hu (fun j hj => pk_un (by omega)) (fun j hj => pk_un (by omega)) (fun j hj => pk_un (by omega)) h6⟩
theorem ya_new (h : ya_ok ST LA LH LG CM CF CB CS CL R) (hv : ∀ i, i < nv → ST' (yb R + i) = L i) (hu : ∀ j, j < yb R → ST' j = ST j) :
    ya_ok ST' (upd LA (fb R) (-1)) (upd LH (fb R) (nI (yb R + nv))) (upd LG (fb R) (nI g)) (upd CM R.length (nI s)) (upd CF R.length (nI f)) (upd CB R.length (nI (a_p R))) (upd CS R.length (nI (yb R))) (upd CL R.length (nI (fb R))) ((s, f, nv, g, p, [], L, [(0, g, 0, false, p)]) :: R) :=
  ⟨trivial, hv, ⟨by rw [if_pos rfl]; exact pk_us, pk_us, pk_us, trivial⟩, pk_us, pk_us, pk_us, pk_us, pk_us, ya_ext R h hu (fun j hj => pk_un (by omega)) (fun j hj => pk_un (by omega)) (fun j hj => pk_un (by omega)) (fun j hj => pk_un (by omega)) (fun j hj => pk_un (by omega)) (fun j hj => pk_un (by omega)) (fun j hj => pk_un (by omega)) (fun j hj => pk_un (by omega))⟩
end
