theorem se_mono {c : Nat → Nat} {e : Nat} : ∀ k p d, se c k p d = some e → se c (k + 1) p d = some e := by
  intro k
  induction k with
  | zero => intro p d h; exact nomatch h
  | succ k ih =>
    intro p d h
    rw [se] at h ⊢
    by_cases h5 : d = 0 ∧ c p = 5
    · rw [if_pos h5] at h ⊢; exact h
    rw [if_neg h5] at h ⊢
    by_cases h6 : c p = 6
    · rw [if_pos h6] at h ⊢
      by_cases hd : d = 0
      · rw [if_pos hd] at h ⊢; exact h
      · rw [if_neg hd] at h ⊢; exact ih _ _ h
    · rw [if_neg h6] at h ⊢
      by_cases ho : 2 ≤ c p ∧ c p ≤ 4
      · rw [if_pos ho] at h ⊢; exact ih _ _ h
      · rw [if_neg ho] at h ⊢; exact ih _ _ h
theorem se_le {c : Nat → Nat} {e p d : Nat} : ∀ j k, se c k p d = some e → se c (k + j) p d = some e := by
  intro j
  induction j with
  | zero => intro k h; exact h
  | succ j ih => intro k h; exact se_mono _ _ _ (ih k h)
theorem SE_uni {c : Nat → Nat} {p d e e' : Nat} (h : SE c p d e) (h' : SE c p d e') : e = e' := by
  obtain ⟨k, h⟩ := h
  obtain ⟨k', h'⟩ := h'
  have a := se_le k' k h
  have b := se_le k k' h'
  rw [Nat.add_comm] at b
  exact Option.some.inj (a.symm.trans b)
theorem rd_B_end {c : Nat → Nat} {n : Nat} : ∀ k p T, n - p < k → p ≤ n → (rd_B c n k (true, p) T).1.1 = true → (rd_B c n k (true, p) T).2 = [] := by
  intro k
  induction k with
  | zero => intro p T h; omega
  | succ k ih =>
    intro p T hk hp h
    by_cases hT : T = []
    · subst hT; rw [rd_B_n]
    · rw [rd_B, if_pos ⟨rfl, hT⟩] at h ⊢
      have ok : (rd_I c n (true, p) T).1.1 = true := by
        cases e : (rd_I c n (true, p) T).1.1 with
        | true => rfl
        | false => rw [rd_B_f _ _ _ e, e] at h; exact ff_t h
      have hlt := rd_I_lt hp ok
      have e := tt_eq ok
      rw [e] at h ⊢
      exact ih _ _ (by omega) hlt.2 h
theorem rd_F_body {c : Nat → Nat} {n : Nat} (h140 : n ≤ 140) {q : Bool × Nat} (hq : q.2 ≤ n) (h : (rd_F c n q).1 = true) :
    q.2 + 2 + c (q.2 + 1) ≤ n ∧ rd_B c n 141 (true, q.2 + 2 + c (q.2 + 1)) [(0, 0, 0)] = ((true, (rd_F c n q).2), []) ∧ (∀ P, rd_FP c n q P = rd_BP c n 141 (true, q.2 + 2 + c (q.2 + 1)) [(0, 0, 0)] P) ∧ q.2 + 2 + c (q.2 + 1) ≤ (rd_F c n q).2 := by
  obtain ⟨b1, b2, b3⟩ := rd_F_ok h
  have d := rd_G_tr (rd_G_B c n 141 [(0, 0, 0)]) h
  obtain ⟨k1, k2, k3, k4, k5⟩ := rd_K_ok d
  rw [b2] at k2 k5
  dsimp only at k2 k5
  have e : rd_K c n 3 (rd_tk c n 0 255 q) = (true, q.2 + 2 + c (q.2 + 1)) := by
    rw [b2, k2, show q.2 + 1 + 1 + c (q.2 + 1) = q.2 + 2 + c (q.2 + 1) by omega]
  have hle : q.2 + 2 + c (q.2 + 1) ≤ n := by omega
  have h' : (rd_B c n 141 (true, q.2 + 2 + c (q.2 + 1)) [(0, 0, 0)]).1.1 = true := by rw [← e]; exact h
  have e2 : (rd_F c n q) = (rd_B c n 141 (true, q.2 + 2 + c (q.2 + 1)) [(0, 0, 0)]).1 := by rw [rd_F, e]
  refine ⟨hle, ?_, fun P => by rw [rd_FP, e], ?_⟩
  · refine Prod.ext ?_ (rd_B_end 141 _ _ (by omega) hle h')
    rw [← e2]
    exact tt_eq h
  · rw [e2]
    exact ((rd_G_B c n 141 [(0, 0, 0)]).1 (true, q.2 + 2 + c (q.2 + 1)) hle).1
theorem fp_low {c : Nat → Nat} {n : Nat} (h140 : n ≤ 140) {q : Bool × Nat} (hq : q.2 ≤ n) (h : (rd_F c n q).1 = true) (P : Nat → Nat) (j : Nat) (hj : j < q.2) : rd_FP c n q P j = P j := by
  obtain ⟨a1, a2, a3, a4⟩ := rd_F_body h140 hq h
  have := (ib_of (Q := rd_BP c n 141 (true, q.2 + 2 + c (q.2 + 1)) [(0, 0, 0)] P) 141 _ _ P _ a2 (by simp) a1 ⟨fun _ => rfl, fun z => absurd rfl z, fun z => absurd rfl z⟩ (fun _ _ => rfl)).2.2 j (by omega) ⟨fun z => absurd rfl z, trivial⟩
  rw [a3]
  exact this
theorem fps_low {c : Nat → Nat} {n : Nat} (h140 : n ≤ 140) : ∀ r (q : Bool × Nat) (P : Nat → Nat) j, q.2 ≤ n → (rd_it (rd_F c n) r q).1 = true → j < q.2 → rd_FPs c n r q P j = P j := by
  intro r
  induction r with
  | zero => intro q P j _ _ _; rfl
  | succ r ih =>
    intro q P j hq h hj
    rw [rd_it] at h
    have h1 := rd_G_tr (rd_G_it (rd_G_F c n) r) h
    have g := (rd_G_F c n).1 q hq
    rw [rd_FPs, ih _ _ j g.2 h (by omega), fp_low h140 hq h1 P j hj]
theorem fps_at {c : Nat → Nat} {n : Nat} (h140 : n ≤ 140) : ∀ r (q : Bool × Nat) (P : Nat → Nat) g, q.2 ≤ n → (rd_it (rd_F c n) r q).1 = true → g < r → ∀ j, j < (rd_it (rd_F c n) (g + 1) q).2 → rd_FPs c n r q P j = rd_FP c n (rd_it (rd_F c n) g q) (rd_FPs c n g q P) j := by
  intro r
  induction r with
  | zero => intro q P g _ _ hg; omega
  | succ r ih =>
    intro q P g hq h hg j hj
    rw [rd_it] at h
    have h1 := rd_G_tr (rd_G_it (rd_G_F c n) r) h
    have gF := (rd_G_F c n).1 q hq
    cases g with
    | zero => rw [rd_FPs]; exact fps_low h140 r _ _ j gF.2 h hj
    | succ g =>
      rw [rd_FPs]
      exact ih _ _ g gF.2 h (by omega) j hj
theorem m_ib {c : Nat → Nat} {n : Nat} (h140 : n ≤ 140) (h : (rd_V c n).1 = true) (P0 : Nat → Nat) (f : Nat) (hf : m_I c n ≤ f) (hf2 : f < m_I c n + m_F c n) : ib c n (m_P c n P0) 141 (m_bo c n f) [0] := by
  obtain ⟨mp, e0, e1, e2, e3, e4⟩ := mp_of h
  have ef : m_fa c n f = m_fn c n (f - m_I c n) := if_neg (by omega)
  have a := rd_it_ok (rd_G_F c n) _ _ e1 (f - m_I c n + 1) (by omega)
  rw [rd_it_s] at a
  have b := ((rd_G_it (rd_G_F c n) (f - m_I c n)).1 (true, m_pF c n + 1) e2).2
  obtain ⟨a1, a2, a3, a4⟩ := rd_F_body h140 b a
  unfold m_bo
  rw [ef]
  refine (ib_of (Q := m_P c n P0) 141 _ _ (rd_FPs c n (f - m_I c n) (true, m_pF c n + 1) P0) _ a2 (by simp) a1 ⟨fun _ => rfl, fun z => absurd rfl z, fun z => absurd rfl z⟩ (fun j hj => ?_)).1
  rw [← a3]
  exact fps_at h140 (m_F c n) _ P0 (f - m_I c n) e2 e1 (by omega) j (by rw [rd_it_s]; exact hj)
abbrev co_l (F : List vt_Fr) : List (Nat × Nat) := F.map (fun x => (x.1, x.2.2.2.2))
def xi_ok (c P : Nat → Nat) (p b : Nat) : Nat → List (Nat × Nat) → Prop
  | _, [] => True
  | j, (cd, o) :: T => (T ≠ [] → (cd = 4 → SE c p j (P o)) ∧ (cd = 5 → P o < p)) ∧ (T = [] → o = b) ∧ xi_ok c P p b (j + 1) T
def hs_b (b : Nat) : List (Nat × Nat) → Prop
  | [] => False
  | (cd, o) :: T => (T ≠ [] ∧ cd = 4 ∧ o = b) ∨ hs_b b T
def jb_ok (c P : Nat → Nat) (b p : Nat) (T : List (Nat × Nat)) : Prop := b ≤ p ∧ (c b = 4 → P b < p ∨ p ≤ b ∨ hs_b b T)
def codo (c : Nat → Nat) (p : Nat) (T : List (Nat × Nat)) : List (Nat × Nat) := if 2 ≤ c p ∧ c p ≤ 4 then (c p, p) :: T else if c p = 5 then (5, (T.headD (0, 0)).2) :: T.tail else if c p = 6 then T.tail else T
theorem fo_die {S : vt_St} (h : S.2.1 ≠ []) : co_l (vt_die S).2.1 = co_l S.2.1 := by
  obtain ⟨K, F, b⟩ := S
  cases F with
  | nil => exact absurd rfl h
  | cons x F => rfl
theorem v_co {c : Nat → Nat} {n f p : Nat} {S : vt_St} (hF : S.2.1 ≠ []) (h : (v_st c n f p S).2.2 = false) : co_l (v_st c n f p S).2.1 = codo c p (co_l S.2.1) := by
  unfold v_st at h ⊢
  unfold codo
  by_cases h0 : c p = 0
  · rw [if_pos h0, if_neg (by omega), if_neg (by omega), if_neg (by omega)]; exact fo_die hF
  rw [if_neg h0] at h ⊢
  by_cases h1 : c p = 1
  · rw [if_pos h1, if_neg (by omega), if_neg (by omega), if_neg (by omega)]
  rw [if_neg h1] at h ⊢
  by_cases h2 : c p = 2 ∨ c p = 3
  · rw [if_pos h2] at h ⊢
    rw [if_pos (by omega)]
    unfold vt_open at h ⊢
    by_cases h8 : S.2.1.length = 8
    · rw [if_pos h8] at h; exact ff_t h.symm
    · rw [if_neg h8]; rfl
  rw [if_neg h2] at h ⊢
  by_cases h4 : c p = 4
  · rw [if_pos h4] at h ⊢
    rw [if_pos (by omega)]
    unfold vt_open at h ⊢
    by_cases h8 : (vt_pl 1 S).2.1.length = 8
    · rw [if_pos h8] at h; exact ff_t h.symm
    · rw [if_neg h8, fk_pl, h4]; rfl
  rw [if_neg h4] at h ⊢
  by_cases h5 : c p = 5 ∨ c p = 6
  · rw [if_pos h5] at h ⊢
    rw [if_neg (by omega)]
    obtain ⟨K, F, b⟩ := S
    cases F with
    | nil => exact absurd rfl hF
    | cons x F =>
      unfold vt_close
      by_cases z : c p = 5
      · rw [if_pos z, if_pos z]; rfl
      · have h6 : c p = 6 := by omega
        simp only [if_neg z, if_pos h6]
        by_cases hT : F = []
        · subst hT; rfl
        · rw [if_neg (by exact hT), fk_gr]; rfl
  rw [if_neg h5] at h ⊢
  rw [if_neg (show ¬ (2 ≤ c p ∧ c p ≤ 4) by omega), if_neg (show ¬ c p = 5 by omega), if_neg (show ¬ c p = 6 by omega)]
  have dd : ∀ S' : vt_St, S'.2.1 = S.2.1 → co_l (vt_die S').2.1 = co_l S.2.1 := by
    intro S' e
    rw [fo_die (by rw [e]; exact hF), e]
  repeat' split
  · exact dd _ (by rw [fk_pr, fk_ws])
  · rw [fk_gr, fk_pr, fk_ws, fk_pl]
  · exact dd _ (by rw [fk_pr, fk_tb, fk_ws, fk_pl])
  · exact dd _ (by rw [fk_pr])
  · rw [fk_call]
  · rw [fk_pl]
  · rw [fk_sel]
  · rw [fk_var]
  · rw [fk_mem]
  · rw [fk_num]
theorem xi_map {c P : Nat → Nat} {p p' b : Nat} {i i' : Nat → Nat} (hp : p ≤ p') (g : ∀ j e, SE c p (i j) e → SE c p' (i' j) e) (hi : ∀ j, i (j + 1) = i j + 1) (hi' : ∀ j, i' (j + 1) = i' j + 1) : ∀ T j, xi_ok c P p b (i j) T → xi_ok c P p' b (i' j) T := by
  intro T
  induction T with
  | nil => intro j _; trivial
  | cons x T ih =>
    intro j h
    obtain ⟨cd, o⟩ := x
    obtain ⟨h1, h2, h3⟩ := h
    refine ⟨fun z => ⟨fun y => g j _ ((h1 z).1 y), fun y => by have := (h1 z).2 y; omega⟩, h2, ?_⟩
    rw [← hi'] 
    rw [← hi] at h3
    exact ih (j + 1) h3
theorem xi_step {c P : Nat → Nat} {n p b : Nat} {T : List (Nat × Nat)} (hT : T ≠ []) (hlt : p < nx c p) (hpt : 2 ≤ c p ∧ c p ≤ 4 → pt_at c P p (nx c p) 0) (h54 : c p = 5 → (T.headD (0, 0)).1 = 4 ∧ T.tail ≠ []) (hx : xi_ok c P p b 0 T) (hj : jb_ok c P b p T) : xi_ok c P (nx c p) b 0 (codo c p T) ∧ jb_ok c P b (nx c p) (codo c p T) := by
  obtain ⟨j1, j2⟩ := hj
  unfold codo
  by_cases ho : 2 ≤ c p ∧ c p ≤ 4
  · rw [if_pos ho]
    obtain ⟨e1, a1, a2, a3⟩ := hpt ho
    refine ⟨⟨fun _ => ⟨fun _ => by rw [a2]; exact a1, fun z => absurd z (by omega)⟩, fun z => absurd z hT, ?_⟩, by omega, fun hc => ?_⟩
    · exact xi_map (i := fun j => j) (i' := fun j => j + 1) (by omega) (fun j e => (SE_o ho).mp) (fun _ => rfl) (fun _ => rfl) T 0 hx
    · rcases j2 hc with y | y | y
      · exact Or.inl (by omega)
      · have : p = b := by omega
        subst this
        exact Or.inr (Or.inr (Or.inl ⟨hT, hc, rfl⟩))
      · exact Or.inr (Or.inr (Or.inr y))
  · rw [if_neg ho]
    by_cases h5 : c p = 5
    · rw [if_pos h5]
      cases T with
      | nil => exact absurd rfl hT
      | cons x T =>
        obtain ⟨cd, o⟩ := x
        obtain ⟨z1, z2⟩ := h54 h5
        have z1' : cd = 4 := z1
        subst z1'
        have z2' : T ≠ [] := z2
        obtain ⟨h1, h2, h3⟩ := hx
        have hPo : P o = p := SE_uni ((h1 z2').1 rfl) (SE_5 h5)
        refine ⟨⟨fun _ => ⟨fun z => absurd z (by decide), fun _ => by show P o < nx c p; omega⟩, fun z => absurd z z2', ?_⟩, by omega, fun hc => ?_⟩
        · exact xi_map (i := fun j => j + 1) (i' := fun j => j + 1) (by omega) (fun j e => (SE_n ho (by omega) (by omega)).mp) (fun _ => rfl) (fun _ => rfl) T 0 h3
        · rcases j2 hc with y | y | ⟨y1, y2, y3⟩ | y
          · exact Or.inl (by omega)
          · have : p = b := by omega
            subst this
            omega
          · subst y3; exact Or.inl (by omega)
          · exact Or.inr (Or.inr (Or.inr y))
    · rw [if_neg h5]
      by_cases h6 : c p = 6
      · rw [if_pos h6]
        cases T with
        | nil => exact absurd rfl hT
        | cons x T =>
          obtain ⟨cd, o⟩ := x
          obtain ⟨h1, h2, h3⟩ := hx
          refine ⟨?_, by omega, fun hc => ?_⟩
          · exact xi_map (i := fun j => j + 1) (i' := fun j => j) (by omega) (fun j e => (SE_6 h6).mp) (fun _ => rfl) (fun _ => rfl) T 0 h3
          · rcases j2 hc with y | y | ⟨y1, y2, y3⟩ | y
            · exact Or.inl (by omega)
            · have : p = b := by omega
              subst this
              omega
            · have hPo : P o = p := SE_uni ((h1 y1).1 y2) (SE_e h6)
              subst y3
              exact Or.inl (by omega)
            · exact Or.inr (Or.inr y)
      · rw [if_neg h6]
        refine ⟨xi_map (i := fun j => j) (i' := fun j => j) (by omega) (fun j e => (SE_n ho h6 (by omega)).mp) (fun _ => rfl) (fun _ => rfl) T 0 hx, by omega, fun hc => ?_⟩
        rcases j2 hc with y | y | y
        · exact Or.inl (by omega)
        · have : p = b := by omega
          subst this
          omega
        · exact Or.inr (Or.inr y)
