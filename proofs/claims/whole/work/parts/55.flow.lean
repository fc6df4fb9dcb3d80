theorem cn_gt (c : Nat → Nat) : ∀ k e, e < cn_e c k e := by
  intro k
  induction k with
  | zero => intro e; rw [cn_e]; omega
  | succ k ih => intro e; rw [cn_e]; split; have := ih (e + 1); omega; omega
theorem nx_gt (c : Nat → Nat) (p : Nat) : p < nx c p := by
  unfold nx
  split
  · omega
  · split
    · have := cn_gt c 9 (p + 1); omega
    · split <;> omega
theorem sc_ge {c : Nat → Nat} {e : Nat} : ∀ k p d, sc c k p d = some e → p ≤ e := by
  intro k
  induction k with
  | zero => intro p d h; exact nomatch h
  | succ k ih =>
    intro p d h
    have hx := nx_gt c p
    rw [sc] at h
    by_cases h6 : c p = 6
    · rw [if_pos h6] at h
      by_cases hd : d = 0
      · rw [if_pos hd] at h
        have := Option.some.inj h
        omega
      · rw [if_neg hd] at h
        have := ih _ _ h
        omega
    · rw [if_neg h6] at h
      by_cases ho : 2 ≤ c p ∧ c p ≤ 4
      · rw [if_pos ho] at h; have := ih _ _ h; omega
      · rw [if_neg ho] at h; have := ih _ _ h; omega
theorem SC_ge {c : Nat → Nat} {p d e : Nat} (h : SC c p d e) : p ≤ e := by
  obtain ⟨k, h⟩ := h
  exact sc_ge k p d h
theorem SC_c6 {c : Nat → Nat} {p d e : Nat} (h : SC c p d e) : c e = 6 := by
  obtain ⟨k, h⟩ := h
  exact (SC_x k p d h).1
def pu (k : Nat) (v : Int64) (E : List ev) : List ev := if k = 0 then E else (k, v) :: E
theorem pu_0 (v : Int64) (E : List ev) : pu 0 v E = E := rfl
theorem pu_n {k : Nat} (h : k ≠ 0) (v : Int64) (E : List ev) : pu k v E = (k, v) :: E := by unfold pu; rw [if_neg h]
theorem pu_len (k : Nat) (v : Int64) (E : List ev) : (pu k v E).length = E.length + (if k = 0 then 0 else 1) := by
  unfold pu; split <;> rfl
theorem pu_gr {k : Nat} {v : Int64} {E : List ev} {F : List vt_Fr} {K : List Nat} (e : ek E = K) (h : (vt_gr k (K, F, false)).2.2 = false) : vt_gr k (K, F, false) = (ek (pu k v E), F, false) ∧ (k ≠ 0 → E.length ≠ 20) := by
  obtain ⟨K', g1, g2, g3⟩ := gr_st h
  by_cases z : k = 0
  · subst z
    rw [g1, g2 rfl, ← e]
    exact ⟨rfl, fun y => absurd rfl y⟩
  · obtain ⟨g4, g5⟩ := g3 z
    rw [g1, g4, pu_n z, ← e]
    refine ⟨rfl, fun _ => ?_⟩
    rw [← e, ek_len] at g5
    exact g5
theorem pu_tv {k : Nat} {v : Int64} {E : List ev} (h : tv E) (hv : k = 1 → sx64 v) : tv (pu k v E) := by
  by_cases z : k = 0
  · subst z; exact h
  · rw [pu_n z]; exact ⟨z, hv, h⟩
theorem pu_lo {k h : Nat} {v : Int64} {E : List ev} (e : h ≤ E.length) : h ≤ (ek (pu k v E)).length ∧ lo h (ek (pu k v E)) = lo h (ek E) := by
  by_cases z : k = 0
  · subst z; exact ⟨by rw [ek_len]; exact e, rfl⟩
  · rw [pu_n z]
    refine ⟨by rw [ek_len, List.length_cons]; omega, ?_⟩
    exact lo_cons (by rw [ek_len]; exact e)
theorem pr_e {k : Nat} {E : List ev} {F : List vt_Fr} (h : (vt_pr k (ek E, F, false)).2.2 = false) (hd : f_d F = false) (hz : tv E) (hh : f_h F ≤ E.length) :
    ∃ v E', E = pu k v E' ∧ f_h F ≤ E'.length ∧ (k = 1 → sx64 v) ∧ vt_pr k (ek E, F, false) = (ek E', F, false) ∧ tv E' ∧ (k = 0 → v = 0) := by
  unfold vt_pr at h ⊢
  by_cases z : k = 0
  · subst z
    rw [if_pos rfl]
    exact ⟨0, E, rfl, hh, fun y => absurd y (by decide), rfl, hz, fun _ => rfl⟩
  · rw [if_neg z] at h ⊢
    obtain ⟨x, v, E', e1, e2, e3, e4, e5, e6, e7, e8⟩ := pe h hd hz hh
    have := e3 z
    subst this
    exact ⟨v, E', by rw [pu_n z]; exact e1, e2, e6, e4, e7, fun y => absurd y z⟩
theorem fb_drop : ∀ (F : List vt_Fr) d, F.drop d ≠ [] → f_b (F.drop d) = f_b F := by
  intro F
  induction F with
  | nil => intro d h; rw [List.drop_nil] at h; exact absurd rfl h
  | cons x F ih =>
    intro d h
    cases d with
    | zero => rfl
    | succ d =>
      rw [List.drop_succ_cons] at h ⊢
      rw [ih d h]
      obtain ⟨cd, g, hh, dd, o⟩ := x
      rw [f_b, if_neg (fun z => h (by rw [z, List.drop_nil]))]
theorem fb_one {F : List vt_Fr} (hF : F ≠ []) (h : F.tail = []) : f_b F = f_g F := by
  cases F with
  | nil => exact absurd rfl hF
  | cons x F =>
    obtain ⟨cd, g, hh, dd, o⟩ := x
    rw [f_b, if_pos (show F = [] from h)]
    rfl
theorem drop_ne {F : List vt_Fr} {d : Nat} (h : d < F.length) : F.drop d ≠ [] := by
  intro z
  have := congrArg List.length z
  rw [List.length_drop] at this
  simp at this
  omega
theorem drop_tl {F : List vt_Fr} {d : Nat} : (F.drop d).tail = F.drop (d + 1) := by rw [List.tail_drop]
theorem fo_at {c : Nat → Nat} {n : Nat} {P : Nat → Nat} {f d : Nat} {K : List Nat} {F : List vt_Fr} (h : fo c n P f K F) (hd : d < F.length) :
    fo c n P f (lo (f_h (F.drop d)) K) (F.drop (d + 1)) ∧ f_h (F.drop d) ≤ K.length ∧ f_g (F.drop d) ≤ 2 ∧ (d + 1 = F.length → f_c (F.drop d) = 0 ∧ f_h (F.drop d) = 0) ∧ fo c n P f (lo (f_h (F.drop d)) K) (F.drop d) ∧
    (d + 1 < F.length → 2 ≤ f_c (F.drop d) ∧ f_c (F.drop d) ≤ 5 ∧ c (f_o (F.drop d)) = (if f_c (F.drop d) = 5 then 4 else f_c (F.drop d)) ∧ f_g (F.drop d) = c (f_o (F.drop d) + 1) ∧ f_o (F.drop d) + 2 ≤ n ∧ pt_at c P (f_o (F.drop d)) (f_o (F.drop d) + 2) 0 ∧ (∃ j e, sv c n false j (f_o (F.drop d) + 2) 0 e) ∧ (f_c (F.drop d) = 3 → ∃ k, wk c n P f k (f_o (F.drop d) + 2) (lo (f_h (F.drop d)) K, F.drop d, false))) := by
  obtain ⟨a1, a2⟩ := fo_drop F K d h
  have hne := drop_ne hd
  have ht := drop_tl (F := F) (d := d)
  have hl : (F.drop d).length = F.length - d := List.length_drop ..
  generalize hG : F.drop d = G at *
  cases G with
  | nil => exact absurd rfl hne
  | cons x G =>
    obtain ⟨cd, g, hh, dd, o⟩ := x
    have ht' : G = F.drop (d + 1) := ht
    subst ht'
    have a1' := a1
    obtain ⟨b1, b2, b3, b4, b5, b6⟩ := a1
    subst b1
    rw [List.length_cons] at hl
    have e1 : lo hh (lo (f_h ((cd, g, hh, false, o) :: F.drop (d + 1))) K) = lo hh K := lo_lo (Nat.le_refl _) a2
    rw [e1] at b5 b6
    refine ⟨b6, a2, b3, fun z => ?_, a1', fun z => ?_⟩
    · refine b4 ?_
      have : (F.drop (d + 1)).length = 0 := by omega
      exact List.length_eq_zero_iff.mp this
    · obtain ⟨c1, c2, c3, c4, c5, c6, ⟨j, e, c7, _⟩, c8⟩ := b5 (drop_ne z)
      exact ⟨c1, c2, c3, c4, c5, c6, ⟨j, e, c7⟩, c8⟩
