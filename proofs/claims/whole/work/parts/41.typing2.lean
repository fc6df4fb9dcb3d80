def sv (c : Nat → Nat) (n : Nat) (b : Bool) : Nat → Nat → Nat → Nat → Prop
  | 0, p, d, e => p < n ∧ d = 0 ∧ e = p ∧ (c p = 6 ∨ (b = true ∧ c p = 5))
  | k + 1, p, d, e => p < n ∧ c p ≤ 66 ∧ rd_R c n (c p) (true, p + 1) = (true, nx c p) ∧ nx c p ≤ n ∧ p < nx c p ∧ ¬ (d = 0 ∧ (c p = 6 ∨ (b = true ∧ c p = 5))) ∧ sv c n b k (nx c p) (if 2 ≤ c p ∧ c p ≤ 4 then d + 1 else if c p = 6 then d - 1 else d) e
theorem sv_of {c P : Nat → Nat} {n f : Nat} (b : Bool) : ∀ k p (S : vt_St) d, wk c n P f k p S → d < S.2.1.length → ∃ j e, sv c n b j p d e ∧ j < k := by
  intro k
  induction k with
  | zero => intro p S d h; exact h.elim
  | succ k ih =>
    intro p S d h hd
    obtain ⟨hF, _, i1, i2, i3, i4, i5, _, _, ok, hw⟩ := h
    by_cases hs : d = 0 ∧ (c p = 6 ∨ (b = true ∧ c p = 5))
    · exact ⟨0, p, ⟨i1, hs.1, rfl, hs.2⟩, by omega⟩
    · have hcd := v_codes hF ok
      have hl : (v_st c n f p S).2.1.length = (cod c p (S.2.1.map (·.1))).length := by rw [← hcd, List.length_map]
      have hl0 : (S.2.1.map (·.1)).length = S.2.1.length := List.length_map ..
      have hlt : (if 2 ≤ c p ∧ c p ≤ 4 then d + 1 else if c p = 6 then d - 1 else d) < (v_st c n f p S).2.1.length := by
        rw [hl]
        unfold cod
        by_cases ho : 2 ≤ c p ∧ c p ≤ 4
        · rw [if_pos ho, if_pos ho, List.length_cons]; omega
        · rw [if_neg ho, if_neg ho]
          by_cases h5 : c p = 5
          · rw [if_pos h5, if_neg (by omega), List.length_cons, List.length_tail]; omega
          · rw [if_neg h5]
            by_cases h6 : c p = 6
            · rw [if_pos h6, if_pos h6, List.length_tail]
              have : d ≠ 0 := fun z => hs ⟨z, Or.inl h6⟩
              omega
            · rw [if_neg h6, if_neg h6]; omega
      rcases hw with z | hw
      · rw [z] at hlt; exact absurd hlt (Nat.not_lt_zero _)
      · obtain ⟨j, e, q1, q2⟩ := ih _ _ _ hw hlt
        exact ⟨j + 1, e, ⟨i1, i2, i3, i4, i5, hs, q1⟩, by omega⟩
theorem sv_SC {c : Nat → Nat} {n : Nat} : ∀ k p d e, sv c n false k p d e → SC c p d e ∧ c e = 6 ∧ e < n ∧ p ≤ e := by
  intro k
  induction k with
  | zero =>
    intro p d e h
    obtain ⟨h1, h2, h3, h4⟩ := h
    subst h2
    rw [h3]
    have : c p = 6 := by
      rcases h4 with z | z
      · exact z
      · exact ff_t z.1
    exact ⟨SC_e this, this, h1, Nat.le_refl _⟩
  | succ k ih =>
    intro p d e h
    obtain ⟨h1, h2, h3, h4, hlt, h5, h6⟩ := h
    obtain ⟨a1, a2, a3, a4⟩ := ih _ _ _ h6
    refine ⟨?_, a2, a3, by omega⟩
    by_cases ho : 2 ≤ c p ∧ c p ≤ 4
    · rw [if_pos ho] at a1; exact (SC_o ho).mpr a1
    · rw [if_neg ho] at a1
      by_cases z : c p = 6
      · rw [if_pos z] at a1
        obtain ⟨d, rfl⟩ : ∃ i, d = i + 1 := ⟨d - 1, by have : d ≠ 0 := fun y => h5 ⟨y, Or.inl z⟩; omega⟩
        rw [Nat.add_sub_cancel] at a1
        exact (SC_6 z).mpr a1
      · rw [if_neg z] at a1; exact (SC_n ho z).mpr a1
theorem sv_SE {c : Nat → Nat} {n : Nat} : ∀ k p d e, sv c n true k p d e → SE c p d e ∧ (c e = 6 ∨ c e = 5) ∧ e < n ∧ p ≤ e := by
  intro k
  induction k with
  | zero =>
    intro p d e h
    obtain ⟨h1, h2, h3, h4⟩ := h
    subst h2
    rw [h3]
    rcases h4 with z | ⟨_, z⟩
    · exact ⟨SE_e z, Or.inl z, h1, Nat.le_refl _⟩
    · exact ⟨SE_5 z, Or.inr z, h1, Nat.le_refl _⟩
  | succ k ih =>
    intro p d e h
    obtain ⟨h1, h2, h3, h4, hlt, h5, h6⟩ := h
    obtain ⟨a1, a2, a3, a4⟩ := ih _ _ _ h6
    refine ⟨?_, a2, a3, by omega⟩
    by_cases ho : 2 ≤ c p ∧ c p ≤ 4
    · rw [if_pos ho] at a1; exact (SE_o ho).mpr a1
    · rw [if_neg ho] at a1
      by_cases z : c p = 6
      · rw [if_pos z] at a1
        obtain ⟨d, rfl⟩ : ∃ i, d = i + 1 := ⟨d - 1, by have : d ≠ 0 := fun y => h5 ⟨y, Or.inl z⟩; omega⟩
        rw [Nat.add_sub_cancel] at a1
        exact (SE_6 z).mpr a1
      · rw [if_neg z] at a1; exact (SE_n ho z (fun y => h5 ⟨y.1, Or.inr ⟨rfl, y.2⟩⟩)).mpr a1
abbrev ev : Type := Nat × Int64
abbrev ek (E : List ev) : List Nat := E.map (·.1)
def tv : List ev → Prop
  | [] => True
  | (k, v) :: E => k ≠ 0 ∧ (k = 1 → sx64 v) ∧ tv E
theorem ek_len (E : List ev) : (ek E).length = E.length := List.length_map ..
theorem tv_drop : ∀ (E : List ev) j, tv E → tv (E.drop j) := by
  intro E
  induction E with
  | nil => intro j _; rw [List.drop_nil]; trivial
  | cons x E ih =>
    intro j h
    obtain ⟨k, v⟩ := x
    cases j with
    | zero => exact h
    | succ j => exact ih j h.2.2
theorem ek_drop (E : List ev) (j : Nat) : ek (E.drop j) = (ek E).drop j := List.map_drop ..
def le_ (h : Nat) (E : List ev) : List ev := E.drop (E.length - h)
theorem le_len {h : Nat} {E : List ev} (e : h ≤ E.length) : (le_ h E).length = h := by unfold le_; rw [List.length_drop]; omega
theorem ek_le (h : Nat) (E : List ev) : ek (le_ h E) = lo h (ek E) := by unfold le_ lo; rw [ek_drop, ek_len]
theorem le_tv {h : Nat} {E : List ev} (q : tv E) : tv (le_ h E) := tv_drop _ _ q
theorem le_cons {h : Nat} {x : ev} {E : List ev} (e : h ≤ E.length) : le_ h (x :: E) = le_ h E := by
  unfold le_
  rw [List.length_cons, show E.length + 1 - h = (E.length - h) + 1 by omega]
  rfl
theorem le_self (E : List ev) : le_ E.length E = E := by unfold le_; rw [Nat.sub_self]; rfl
theorem le_eq {h : Nat} {E : List ev} (e : E.length = h) : le_ h E = E := by rw [← e]; exact le_self E
theorem pe {k : Nat} {E : List ev} {F : List vt_Fr} (h : (vt_pl k (ek E, F, false)).2.2 = false) (hd : f_d F = false) (hz : tv E) (hh : f_h F ≤ E.length) :
    ∃ x v E', E = (x, v) :: E' ∧ f_h F ≤ E'.length ∧ (k ≠ 0 → x = k) ∧ vt_pl k (ek E, F, false) = (ek E', F, false) ∧ x ≠ 0 ∧ (x = 1 → sx64 v) ∧ tv E' ∧ vt_px k (ek E, F, false) = x := by
  unfold vt_pl at h ⊢
  unfold vt_px
  by_cases z : (ek E).length = f_h F
  · rw [if_pos z] at h
    dsimp only at h
    rw [hd] at h
    exact ff_t h.symm
  · rw [if_neg z] at h ⊢
    rw [if_neg z]
    rw [ek_len] at z
    cases E with
    | nil => exact absurd (Nat.le_antisymm (Nat.zero_le _) hh) z
    | cons y E =>
      obtain ⟨x, v⟩ := y
      obtain ⟨t1, t2, t3⟩ := hz
      rw [List.length_cons] at z hh
      dsimp only at h
      have h' : (false || pl_f x k) = false := h
      rw [Bool.false_or] at h'
      refine ⟨x, v, E, rfl, by omega, fun hk => ?_, ?_, t1, t2, t3, rfl⟩
      · unfold pl_f at h'
        by_cases w : x ≠ 0 ∧ k ≠ 0 ∧ x ≠ k
        · rw [if_pos w] at h'; exact ff_t h'.symm
        · by_cases q : x = k
          · exact q
          · exact absurd ⟨t1, hk, q⟩ w
      · show (ek E, F, false || pl_f x k) = _
        rw [h']; rfl
theorem ge {k : Nat} {K : List Nat} {F : List vt_Fr} (h : (vt_gv k (K, F, false)).2.2 = false) : K.length ≠ 20 ∧ vt_gv k (K, F, false) = (k :: K, F, false) := by
  unfold vt_gv at h ⊢
  by_cases z : K.length = 20
  · rw [if_pos z] at h; exact ff_t h.symm
  · rw [if_neg z]; exact ⟨z, rfl⟩
def fo (c : Nat → Nat) (n : Nat) (P : Nat → Nat) (f : Nat) : List Nat → List vt_Fr → Prop
  | _, [] => True
  | K, (cd, g, h, dd, o) :: F => dd = false ∧ h ≤ K.length ∧ g ≤ 2 ∧ (F = [] → cd = 0 ∧ h = 0) ∧
    (F ≠ [] → 2 ≤ cd ∧ cd ≤ 5 ∧ c o = (if cd = 5 then 4 else cd) ∧ g = c (o + 1) ∧ o + 2 ≤ n ∧ pt_at c P o (o + 2) 0 ∧ (∃ j e, sv c n false j (o + 2) 0 e ∧ ∃ k, wk c n P f k (e + 1) (vt_gr g (lo h K, F, false))) ∧
      (cd = 3 → ∃ k, wk c n P f k (o + 2) (lo h K, (cd, g, h, dd, o) :: F, false))) ∧ fo c n P f (lo h K) F
theorem fo_ext {c : Nat → Nat} {n : Nat} {P : Nat → Nat} {f : Nat} {K K' : List Nat} {F : List vt_Fr} (h : fo c n P f K F) (e1 : f_h F ≤ K'.length) (e2 : lo (f_h F) K' = lo (f_h F) K) : fo c n P f K' F := by
  cases F with
  | nil => trivial
  | cons x F =>
    obtain ⟨cd, g, hh, dd, o⟩ := x
    obtain ⟨a1, a2, a3, a4, a5, a6⟩ := h
    have e2' : lo hh K' = lo hh K := e2
    refine ⟨a1, e1, a3, a4, ?_, ?_⟩
    · rw [e2']; exact a5
    · rw [e2']; exact a6
theorem fo_hn {c : Nat → Nat} {n : Nat} {P : Nat → Nat} {f : Nat} : ∀ (F : List vt_Fr) K, fo c n P f K F → hn K.length F := by
  intro F
  induction F with
  | nil => intro K _; trivial
  | cons x F ih =>
    intro K h
    obtain ⟨cd, g, hh, dd, o⟩ := x
    obtain ⟨a1, a2, a3, a4, a5, a6⟩ := h
    have := ih _ a6
    rw [lo_len a2] at this
    exact ⟨a2, this⟩
theorem fo_d {c : Nat → Nat} {n : Nat} {P : Nat → Nat} {f : Nat} {K : List Nat} {F : List vt_Fr} (h : fo c n P f K F) : f_d F = false := by
  cases F with
  | nil => rfl
  | cons x F => obtain ⟨cd, g, hh, dd, o⟩ := x; exact h.1
theorem fo_h {c : Nat → Nat} {n : Nat} {P : Nat → Nat} {f : Nat} {K : List Nat} {F : List vt_Fr} (h : fo c n P f K F) : f_h F ≤ K.length := hn_top (fo_hn F K h)
theorem fo_tail {c : Nat → Nat} {n : Nat} {P : Nat → Nat} {f : Nat} {K : List Nat} {F : List vt_Fr} (h : fo c n P f K F) : fo c n P f (lo (f_h F) K) F.tail := by
  cases F with
  | nil => trivial
  | cons x F => obtain ⟨cd, g, hh, dd, o⟩ := x; exact h.2.2.2.2.2
theorem fo_drop {c : Nat → Nat} {n : Nat} {P : Nat → Nat} {f : Nat} : ∀ (F : List vt_Fr) K d, fo c n P f K F → fo c n P f (lo (f_h (F.drop d)) K) (F.drop d) ∧ f_h (F.drop d) ≤ K.length := by
  intro F
  induction F with
  | nil => intro K d _; rw [List.drop_nil]; exact ⟨trivial, Nat.zero_le _⟩
  | cons x F ih =>
    intro K d h
    cases d with
    | zero =>
      have hh := fo_h h
      refine ⟨fo_ext h (by rw [List.drop_zero, lo_len hh]; exact Nat.le_refl _) ?_, hh⟩
      rw [List.drop_zero, lo_lo (Nat.le_refl _) hh]
    | succ d =>
      have hh := fo_h h
      obtain ⟨a1, a2⟩ := ih _ d (fo_tail h)
      rw [lo_len hh] at a2
      rw [List.drop_succ_cons]
      rw [lo_lo a2 hh] at a1
      exact ⟨a1, by omega⟩
theorem wk_n {c P : Nat → Nat} {n f k p : Nat} {S : vt_St} (h : wk c n P f k p S) : p < n ∧ c p ≤ 66 ∧ nx c p ≤ n ∧ p < nx c p ∧ rd_R c n (c p) (true, p + 1) = (true, nx c p) ∧ S.2.2 = false ∧ S.2.1 ≠ [] := by
  cases k with
  | zero => exact h.elim
  | succ k => exact ⟨h.2.2.1, h.2.2.2.1, h.2.2.2.2.2.1, h.2.2.2.2.2.2.1, h.2.2.2.2.1, h.2.1, h.1⟩
theorem wk_s {c P : Nat → Nat} {n f k p : Nat} {S : vt_St} (h : wk c n P f k p S) : (v_st c n f p S).2.2 = false ∧ ((v_st c n f p S).2.1 = [] ∨ ∃ k', wk c n P f k' (nx c p) (v_st c n f p S)) := by
  cases k with
  | zero => exact h.elim
  | succ k =>
    obtain ⟨_, _, _, _, _, _, _, _, _, ok, hw⟩ := h
    exact ⟨ok, hw.imp id (fun z => ⟨k, z⟩)⟩
theorem fo_open {c P : Nat → Nat} {n f k p : Nat} {K : List Nat} {F : List vt_Fr} (w : wk c n P f k p (K, F, false)) (hfo : fo c n P f K F) (ho : 2 ≤ c p ∧ c p ≤ 4) :
    ∃ K', (c p ≠ 4 → K' = K) ∧ (c p = 4 → vt_pl 1 (K, F, false) = (K', F, false)) ∧ F.length ≠ 8 ∧ f_h F ≤ K'.length ∧ lo (f_h F) K' = lo (f_h F) K ∧ nx c p = p + 2 ∧ c (p + 1) ≤ 2 ∧ pt_at c P p (p + 2) 0 ∧ fo c n P f K' ((c p, c (p + 1), K'.length, false, p) :: F) ∧ ∃ k', wk c n P f k' (p + 2) (K', (c p, c (p + 1), K'.length, false, p) :: F, false) := by
  cases k with
  | zero => exact w.elim
  | succ k =>
    obtain ⟨hF, _, i1, i2, i3, i4, i5, i6, _, ok, hw⟩ := w
    have hh := fo_h hfo
    have hN := fo_hn F K hfo
    have enx : nx c p = p + 2 := nx_2 (by omega)
    obtain ⟨K', e1, e2, e3, e4, e5, e6⟩ := vl_o ho hh ok
    rw [e1, enx] at hw
    rw [enx] at i6 i4
    have hpt := i6 ho
    have hg : c (p + 1) ≤ 2 := by
      rw [rd_R, if_pos ho] at i3
      exact (rd_tk_ok (show (rd_tk c n 0 2 (true, p + 1)).1 = true by rw [i3])).2.2.2.2.1
    rcases hw with z | hw
    · exact absurd z (by simp)
    refine ⟨K', e5, e6, e4, e2, e3, enx, hg, hpt, ⟨rfl, Nat.le_refl _, hg, fun z => absurd z hF, fun _ => ⟨by omega, by omega, ?_, rfl, i4, hpt, ?_, fun _ => ?_⟩, ?_⟩, k, hw⟩
    · rw [if_neg (by omega)]
    · obtain ⟨j, e, q1, q2⟩ := sv_of false k _ _ 0 hw (by simp)
      have q3 := sv_SC _ _ _ _ q1
      obtain ⟨k', w'⟩ := wk_exit k _ _ _ 0 e hw ⟨Nat.le_refl _, hn_mono hN e2⟩ q3.1 hF
      exact ⟨j, e, q1, k', w'⟩
    · rw [lo_self]; exact ⟨k, hw⟩
    · rw [lo_self]; exact fo_ext hfo e2 e3
