def cn_e (c : Nat → Nat) : Nat → Nat → Nat
  | 0, e => e + 1
  | k + 1, e => if 127 < c e then cn_e c k (e + 1) else e + 1
def nx (c : Nat → Nat) (p : Nat) : Nat := if c p = 9 then p + 3 + c (p + 1) else if c p = 20 ∨ c p = 21 then cn_e c 9 (p + 1) else if rd_ho (c p) then p + 2 else p + 1
theorem rd_C_end {c : Nat → Nat} {n : Nat} : ∀ k p j, (rd_C c n k (true, p)).1 = true → k ≤ j + 1 → (rd_C c n k (true, p)).2 = cn_e c j p := by
  intro k
  induction k with
  | zero => intro p j h; exact ff_t h
  | succ k ih =>
    intro p j h hj
    rw [rd_C] at h ⊢
    generalize (if k = 0 then 127 else 255) = hb at h ⊢
    rcases rd_tk_or c n 0 hb (true, p) with ⟨e, _, _, _, h5⟩ | e
    · rw [e] at h ⊢
      dsimp only at h h5 ⊢
      by_cases h4 : 127 < c p
      · rw [if_pos ⟨rfl, h4⟩] at h ⊢
        obtain ⟨j, rfl⟩ : ∃ i, j = i + 1 := by
          cases j with
          | zero =>
            have : k = 0 := by omega
            subst this
            exact ff_t h
          | succ i => exact ⟨i, rfl⟩
        rw [cn_e, if_pos h4]
        exact ih (p + 1) j h (by omega)
      · rw [if_neg (fun z => h4 z.2)]
        cases j with
        | zero => rfl
        | succ j => rw [cn_e, if_neg h4]
    · rw [e, if_neg (fun z => ff_t z.1)] at h; exact ff_t h
theorem rd_R_nx {c : Nat → Nat} {n p : Nat} (h : (rd_R c n (c p) (true, p + 1)).1 = true) : rd_R c n (c p) (true, p + 1) = (true, nx c p) := by
  have h' := tt_eq h
  rw [h']
  refine congrArg (fun z => (true, z)) ?_
  unfold rd_R at h ⊢
  unfold nx
  by_cases h1 : 2 ≤ c p ∧ c p ≤ 4
  · rw [if_pos h1] at h ⊢
    rw [if_neg (by omega), if_neg (by omega), if_pos (by omega), (rd_tk_ok h).2.1]
  · rw [if_neg h1] at h ⊢
    by_cases h2 : c p = 9
    · rw [if_pos h2] at h ⊢
      rw [if_pos h2]
      obtain ⟨a1, a2, a3, a4⟩ := rd_n_ok _ _ h
      obtain ⟨b1, b2, b3, b4, b5, b6⟩ := rd_tk_ok a1
      rw [a2, b2, b3]
      dsimp only; omega
    · rw [if_neg h2] at h ⊢
      rw [if_neg h2]
      by_cases h3 : c p = 20
      · rw [if_pos h3] at h ⊢
        rw [if_pos (Or.inl h3), rd_C_end 5 (p + 1) 9 h (by omega)]
      · rw [if_neg h3] at h ⊢
        by_cases h4 : c p = 21
        · rw [if_pos h4] at h ⊢
          rw [if_pos (Or.inr h4), rd_C_end 10 (p + 1) 9 h (by omega)]
        · rw [if_neg h4] at h ⊢
          rw [if_neg (show ¬ (c p = 20 ∨ c p = 21) by omega)]
          by_cases h5 : rd_ho (c p)
          · rw [if_pos h5] at h ⊢
            rw [if_pos h5, (rd_tk_ok h).2.1]
          · rw [if_neg h5, if_neg h5]
def sc (c : Nat → Nat) : Nat → Nat → Nat → Option Nat
  | 0, _, _ => none
  | k + 1, p, d => if c p = 6 then (if d = 0 then some p else sc c k (nx c p) (d - 1)) else if 2 ≤ c p ∧ c p ≤ 4 then sc c k (nx c p) (d + 1) else sc c k (nx c p) d
def se (c : Nat → Nat) : Nat → Nat → Nat → Option Nat
  | 0, _, _ => none
  | k + 1, p, d => if d = 0 ∧ c p = 5 then some p else if c p = 6 then (if d = 0 then some p else se c k (nx c p) (d - 1)) else if 2 ≤ c p ∧ c p ≤ 4 then se c k (nx c p) (d + 1) else se c k (nx c p) d
def SC (c : Nat → Nat) (p d e : Nat) : Prop := ∃ k, sc c k p d = some e
def SE (c : Nat → Nat) (p d e : Nat) : Prop := ∃ k, se c k p d = some e
theorem sc_mono {c : Nat → Nat} {e : Nat} : ∀ k p d, sc c k p d = some e → sc c (k + 1) p d = some e := by
  intro k
  induction k with
  | zero => intro p d h; exact nomatch h
  | succ k ih =>
    intro p d h
    rw [sc] at h ⊢
    by_cases h6 : c p = 6
    · rw [if_pos h6] at h ⊢
      by_cases hd : d = 0
      · rw [if_pos hd] at h ⊢; exact h
      · rw [if_neg hd] at h ⊢; exact ih _ _ h
    · rw [if_neg h6] at h ⊢
      by_cases ho : 2 ≤ c p ∧ c p ≤ 4
      · rw [if_pos ho] at h ⊢; exact ih _ _ h
      · rw [if_neg ho] at h ⊢; exact ih _ _ h
theorem sc_le {c : Nat → Nat} {e p d : Nat} : ∀ j k, sc c k p d = some e → sc c (k + j) p d = some e := by
  intro j
  induction j with
  | zero => intro k h; exact h
  | succ j ih => intro k h; exact sc_mono _ _ _ (ih k h)
theorem SC_uni {c : Nat → Nat} {p d e e' : Nat} (h : SC c p d e) (h' : SC c p d e') : e = e' := by
  obtain ⟨k, h⟩ := h
  obtain ⟨k', h'⟩ := h'
  have a := sc_le k' k h
  have b := sc_le k k' h'
  rw [Nat.add_comm] at b
  exact Option.some.inj (a.symm.trans b)
theorem SC_e {c : Nat → Nat} {p : Nat} (h : c p = 6) : SC c p 0 p := ⟨1, by rw [sc, if_pos h, if_pos rfl]⟩
theorem SC_6 {c : Nat → Nat} {p d e : Nat} (h : c p = 6) : SC c p (d + 1) e ↔ SC c (nx c p) d e := by
  constructor
  · rintro ⟨k, h2⟩
    cases k with
    | zero => exact nomatch h2
    | succ k => rw [sc, if_pos h, if_neg (by omega), Nat.add_sub_cancel] at h2; exact ⟨k, h2⟩
  · rintro ⟨k, h2⟩
    exact ⟨k + 1, by rw [sc, if_pos h, if_neg (by omega), Nat.add_sub_cancel]; exact h2⟩
theorem SC_o {c : Nat → Nat} {p d e : Nat} (h : 2 ≤ c p ∧ c p ≤ 4) : SC c p d e ↔ SC c (nx c p) (d + 1) e := by
  constructor
  · rintro ⟨k, h2⟩
    cases k with
    | zero => exact nomatch h2
    | succ k => rw [sc, if_neg (by omega), if_pos h] at h2; exact ⟨k, h2⟩
  · rintro ⟨k, h2⟩
    exact ⟨k + 1, by rw [sc, if_neg (by omega), if_pos h]; exact h2⟩
theorem SC_n {c : Nat → Nat} {p d e : Nat} (h : ¬ (2 ≤ c p ∧ c p ≤ 4)) (h6 : c p ≠ 6) : SC c p d e ↔ SC c (nx c p) d e := by
  constructor
  · rintro ⟨k, h2⟩
    cases k with
    | zero => exact nomatch h2
    | succ k => rw [sc, if_neg h6, if_neg h] at h2; exact ⟨k, h2⟩
  · rintro ⟨k, h2⟩
    exact ⟨k + 1, by rw [sc, if_neg h6, if_neg h]; exact h2⟩
theorem SE_e {c : Nat → Nat} {p : Nat} (h : c p = 6) : SE c p 0 p := ⟨1, by rw [se, if_neg (by omega), if_pos h, if_pos rfl]⟩
theorem SE_5 {c : Nat → Nat} {p : Nat} (h : c p = 5) : SE c p 0 p := ⟨1, by rw [se, if_pos ⟨rfl, h⟩]⟩
theorem SE_6 {c : Nat → Nat} {p d e : Nat} (h : c p = 6) : SE c p (d + 1) e ↔ SE c (nx c p) d e := by
  constructor
  · rintro ⟨k, h2⟩
    cases k with
    | zero => exact nomatch h2
    | succ k => rw [se, if_neg (by omega), if_pos h, if_neg (by omega), Nat.add_sub_cancel] at h2; exact ⟨k, h2⟩
  · rintro ⟨k, h2⟩
    exact ⟨k + 1, by rw [se, if_neg (by omega), if_pos h, if_neg (by omega), Nat.add_sub_cancel]; exact h2⟩
theorem SE_o {c : Nat → Nat} {p d e : Nat} (h : 2 ≤ c p ∧ c p ≤ 4) : SE c p d e ↔ SE c (nx c p) (d + 1) e := by
  constructor
  · rintro ⟨k, h2⟩
    cases k with
    | zero => exact nomatch h2
    | succ k => rw [se, if_neg (by omega), if_neg (by omega), if_pos h] at h2; exact ⟨k, h2⟩
  · rintro ⟨k, h2⟩
    exact ⟨k + 1, by rw [se, if_neg (by omega), if_neg (by omega), if_pos h]; exact h2⟩
theorem SE_n {c : Nat → Nat} {p d e : Nat} (h : ¬ (2 ≤ c p ∧ c p ≤ 4)) (h6 : c p ≠ 6) (h5 : ¬ (d = 0 ∧ c p = 5)) : SE c p d e ↔ SE c (nx c p) d e := by
  constructor
  · rintro ⟨k, h2⟩
    cases k with
    | zero => exact nomatch h2
    | succ k => rw [se, if_neg h5, if_neg h6, if_neg h] at h2; exact ⟨k, h2⟩
  · rintro ⟨k, h2⟩
    exact ⟨k + 1, by rw [se, if_neg h5, if_neg h6, if_neg h]; exact h2⟩
theorem SE_SC {c : Nat → Nat} {e1 : Nat} : ∀ k p d, se c k p d = some e1 → (c e1 = 6 → SC c p d e1) ∧ (c e1 = 5 → ∀ e, SC c (nx c e1) 0 e → SC c p d e) ∧ (c e1 = 5 ∨ c e1 = 6) := by
  intro k
  induction k with
  | zero => intro p d h; exact nomatch h
  | succ k ih =>
    intro p d h
    rw [se] at h
    by_cases h5 : d = 0 ∧ c p = 5
    · rw [if_pos h5] at h
      have := Option.some.inj h
      subst this
      refine ⟨fun z => absurd z (by omega), fun _ e he => ?_, Or.inl h5.2⟩
      rw [h5.1]
      exact (SC_n (by omega) (by omega)).mpr he
    · rw [if_neg h5] at h
      by_cases h6 : c p = 6
      · rw [if_pos h6] at h
        by_cases hd : d = 0
        · rw [if_pos hd] at h
          have := Option.some.inj h
          subst this
          rw [hd]
          exact ⟨fun _ => SC_e h6, fun z => absurd z (by omega), Or.inr h6⟩
        · rw [if_neg hd] at h
          obtain ⟨d, rfl⟩ : ∃ d', d = d' + 1 := ⟨d - 1, by omega⟩
          rw [Nat.add_sub_cancel] at h
          obtain ⟨a, b, g⟩ := ih _ _ h
          exact ⟨fun z => (SC_6 h6).mpr (a z), fun z e he => (SC_6 h6).mpr (b z e he), g⟩
      · rw [if_neg h6] at h
        by_cases ho : 2 ≤ c p ∧ c p ≤ 4
        · rw [if_pos ho] at h
          obtain ⟨a, b, g⟩ := ih _ _ h
          exact ⟨fun z => (SC_o ho).mpr (a z), fun z e he => (SC_o ho).mpr (b z e he), g⟩
        · rw [if_neg ho] at h
          obtain ⟨a, b, g⟩ := ih _ _ h
          exact ⟨fun z => (SC_n ho h6).mpr (a z), fun z e he => (SC_n ho h6).mpr (b z e he), g⟩
def pt_at (c P : Nat → Nat) (o p d : Nat) : Prop := ∃ e1, SE c p d e1 ∧ P o = e1 ∧ (c e1 = 5 → ∃ e, SC c (e1 + 1) 0 e ∧ P e1 = e)
def ib (c : Nat → Nat) (n : Nat) (P : Nat → Nat) : Nat → Nat → List Nat → Prop
  | 0, _, _ => False
  | k + 1, p, T => p < n ∧ c p ≤ 66 ∧ rd_R c n (c p) (true, p + 1) = (true, nx c p) ∧ nx c p ≤ n ∧ p < nx c p ∧ (2 ≤ c p ∧ c p ≤ 4 → pt_at c P p (nx c p) 0) ∧
    (if 2 ≤ c p ∧ c p ≤ 4 then ib c n P k (nx c p) (c p :: T) else if c p = 5 then T.headD 0 = 4 ∧ ib c n P k (nx c p) (5 :: T.tail) else if c p = 6 then (T.tail = [] ∨ ib c n P k (nx c p) T.tail) else ib c n P k (nx c p) T)
def pe_ok (c P : Nat → Nat) (p : Nat) : Nat → List (Nat × Nat × Nat) → Prop
  | _, [] => True
  | d, (cd, o, el) :: T => (T ≠ [] → (cd ≠ 5 → pt_at c P o p d) ∧ (cd = 5 → P o = el ∧ ∃ e, SC c p d e ∧ P el = e)) ∧ pe_ok c P p (d + 1) T
def nv_ok (j : Nat) : List (Nat × Nat × Nat) → Prop
  | [] => True
  | (cd, o, el) :: T => (T ≠ [] → (cd ≠ 5 → j ≠ o) ∧ (cd = 5 → j ≠ el)) ∧ nv_ok j T
theorem nv_of {c P : Nat → Nat} : ∀ T q j, rd_TI c P q T → q ≤ j → nv_ok j T := by
  intro T
  induction T with
  | nil => intro q j _ _; trivial
  | cons x T ih =>
    intro q j h hj
    obtain ⟨cd, o, el⟩ := x
    obtain ⟨h1, h2, h3⟩ := h
    refine ⟨fun e => ?_, ?_⟩
    · obtain ⟨a, b⟩ := h2 e
      refine ⟨fun _ => by omega, fun z => ?_⟩
      rcases b with b | b
      · omega
      · omega
    · by_cases e : T = []
      · subst e; trivial
      · exact ih o j (h3 e) (by have := (h2 e).1; omega)
theorem pe_step {c P : Nat → Nat} {p p' : Nat} (g1 : ∀ d e, SE c p' (d + 1) e → SE c p (d + 1) e) (g2 : ∀ d e, SC c p' (d + 1) e → SC c p (d + 1) e) : ∀ T d, pe_ok c P p' (d + 1) T → pe_ok c P p (d + 1) T := by
  intro T
  induction T with
  | nil => intro d _; trivial
  | cons x T ih =>
    intro d h
    obtain ⟨cd, o, el⟩ := x
    obtain ⟨h1, h2⟩ := h
    refine ⟨fun e => ?_, ih (d + 1) h2⟩
    obtain ⟨a, b⟩ := h1 e
    refine ⟨fun z => ?_, fun z => ?_⟩
    · obtain ⟨e1, f1, f2⟩ := a z
      exact ⟨e1, g1 _ _ f1, f2⟩
    · obtain ⟨b1, e1, f1, f2⟩ := b z
      exact ⟨b1, e1, g2 _ _ f1, f2⟩
theorem pe_up {c P : Nat → Nat} {p p' : Nat} (g1 : ∀ d e, SE c p' (d + 1) e → SE c p d e) (g2 : ∀ d e, SC c p' (d + 1) e → SC c p d e) : ∀ T d, pe_ok c P p' (d + 1) T → pe_ok c P p d T := by
  intro T
  induction T with
  | nil => intro d _; trivial
  | cons x T ih =>
    intro d h
    obtain ⟨cd, o, el⟩ := x
    obtain ⟨h1, h2⟩ := h
    refine ⟨fun e => ?_, ih (d + 1) h2⟩
    obtain ⟨a, b⟩ := h1 e
    refine ⟨fun z => ?_, fun z => ?_⟩
    · obtain ⟨e1, f1, f2⟩ := a z
      exact ⟨e1, g1 _ _ f1, f2⟩
    · obtain ⟨b1, e1, f1, f2⟩ := b z
      exact ⟨b1, e1, g2 _ _ f1, f2⟩
theorem pe_dn {c P : Nat → Nat} {p p' : Nat} (g1 : ∀ d e, SE c p' d e → SE c p (d + 1) e) (g2 : ∀ d e, SC c p' d e → SC c p (d + 1) e) : ∀ T d, pe_ok c P p' d T → pe_ok c P p (d + 1) T := by
  intro T
  induction T with
  | nil => intro d _; trivial
  | cons x T ih =>
    intro d h
    obtain ⟨cd, o, el⟩ := x
    obtain ⟨h1, h2⟩ := h
    refine ⟨fun e => ?_, ih (d + 1) h2⟩
    obtain ⟨a, b⟩ := h1 e
    refine ⟨fun z => ?_, fun z => ?_⟩
    · obtain ⟨e1, f1, f2⟩ := a z
      exact ⟨e1, g1 _ _ f1, f2⟩
    · obtain ⟨b1, e1, f1, f2⟩ := b z
      exact ⟨b1, e1, g2 _ _ f1, f2⟩
theorem pe_eq {c P : Nat → Nat} {p p' : Nat} (g1 : ∀ d e, SE c p' d e → SE c p d e) (g2 : ∀ d e, SC c p' d e → SC c p d e) : ∀ T d, pe_ok c P p' d T → pe_ok c P p d T := by
  intro T
  induction T with
  | nil => intro d _; trivial
  | cons x T ih =>
    intro d h
    obtain ⟨cd, o, el⟩ := x
    obtain ⟨h1, h2⟩ := h
    refine ⟨fun e => ?_, ih (d + 1) h2⟩
    obtain ⟨a, b⟩ := h1 e
    refine ⟨fun z => ?_, fun z => ?_⟩
    · obtain ⟨e1, f1, f2⟩ := a z
      exact ⟨e1, g1 _ _ f1, f2⟩
    · obtain ⟨b1, e1, f1, f2⟩ := b z
      exact ⟨b1, e1, g2 _ _ f1, f2⟩
theorem nx_1 {c : Nat → Nat} {p : Nat} (h : c p = 5 ∨ c p = 6 ∨ c p = 0 ∨ c p = 1 ∨ c p = 10 ∨ c p = 13 ∨ c p = 14 ∨ 28 ≤ c p) : nx c p = p + 1 := by
  unfold nx
  rw [if_neg (by omega), if_neg (by omega), if_neg (by omega)]
theorem nx_2 {c : Nat → Nat} {p : Nat} (h : rd_ho (c p)) : nx c p = p + 2 := by
  unfold nx
  rw [if_neg (by omega), if_neg (by omega), if_pos h]
theorem ib_of {c Q : Nat → Nat} {n : Nat} : ∀ k p T (P : Nat → Nat) p', rd_B c n k (true, p) T = ((true, p'), []) → T ≠ [] → p ≤ n → rd_TI c P p T → (∀ j, j < p' → Q j = rd_BP c n k (true, p) T P j) →
    ib c n Q k p (T.map (·.1)) ∧ pe_ok c Q p 0 T ∧ ∀ j, j < p → nv_ok j T → rd_BP c n k (true, p) T P j = P j := by
  intro k
  induction k with
  | zero =>
    intro p T P p' h hT
    rw [rd_B] at h
    exact absurd (congrArg Prod.snd h) hT
  | succ k ih =>
    intro p T P p' h hT hp hI hQ
    have hle : p ≤ p' := by
      have := ((rd_G_B c n (k + 1) T).1 (true, p) hp).1
      dsimp only at this
      rw [h] at this
      exact this
    rw [rd_B, if_pos ⟨rfl, hT⟩] at h
    rw [rd_BP, if_pos ⟨rfl, hT⟩] at hQ ⊢
    have hok : (rd_I c n (true, p) T).1.1 = true := by
      cases e : (rd_I c n (true, p) T).1.1 with
      | true => rfl
      | false =>
        rw [rd_B_f _ _ _ e] at h
        have := congrArg (fun z => z.1.1) h
        dsimp only at this
        rw [e] at this
        exact ff_t this
    have hlt := rd_I_lt hp hok
    have hTI := rd_TI_I hI hT hp hok
    have eI := tt_eq hok
    rcases rd_tk_or c n 0 66 (true, p) with ⟨e, _, hpn, _, h66⟩ | e
    · dsimp only at hpn h66 e
      have e1 : (rd_tk c n 0 66 (true, p)).1 = true := by rw [e]
      by_cases ho : 2 ≤ c p ∧ c p ≤ 4
      · have enx : nx c p = p + 2 := nx_2 (by omega)
        have r1 : rd_I c n (true, p) T = (rd_tk c n 0 2 (true, p + 1), (c p, p, 0) :: T) := by rw [rd_I, if_pos e1, if_pos ho]
        have r2 : rd_P c n (true, p) T P = up_n P p 0 := by rw [rd_P, if_pos e1, if_pos ho]
        rw [r1] at hok hlt hTI h eI hQ ⊢
        rw [r2] at hTI hQ ⊢
        dsimp only at hok hlt hTI h hQ ⊢
        obtain ⟨b1, b2, b3, b4, b5, b6⟩ := rd_tk_ok hok
        rw [b2] at h hTI hlt hQ ⊢
        dsimp only at h hTI hlt hQ ⊢
        obtain ⟨i1, i2, i3⟩ := ih (p + 1 + 1) _ _ p' h (by simp) hlt.2 hTI hQ
        have eR : rd_R c n (c p) (true, p + 1) = (true, nx c p) := rd_R_nx (by rw [rd_R, if_pos ho]; exact hok)
        rw [show p + 1 + 1 = nx c p by omega] at i1 i2 i3 ⊢
        refine ⟨⟨hpn, h66, eR, by omega, by omega, fun _ => (i2.1 hT).1 (by omega), by rw [if_pos ho]; exact i1⟩, pe_up (fun d e => (SE_o ho).mpr) (fun d e => (SC_o ho).mpr) T 0 i2.2, fun j hj hv => ?_⟩
        rw [i3 j (by omega) ⟨fun _ => ⟨fun _ => by omega, fun z => absurd z (by omega)⟩, hv⟩, up_d (by omega)]
      · by_cases h5 : c p = 5
        · have enx : nx c p = p + 1 := nx_1 (by omega)
          obtain ⟨x, T, rfl⟩ : ∃ x T', T = x :: T' := by cases T with | nil => exact absurd rfl hT | cons x T' => exact ⟨x, T', rfl⟩
          obtain ⟨cd, o, el⟩ := x
          by_cases h4 : cd = 4
          · subst h4
            have e4 : tp_cd ((4, o, el) :: T) = 4 := rfl
            have r1 : rd_I c n (true, p) ((4, o, el) :: T) = ((true, p + 1), (5, o, p) :: T) := by rw [rd_I, if_pos e1, if_neg ho, if_pos h5, if_pos e4]; rfl
            have r2 : rd_P c n (true, p) ((4, o, el) :: T) P = up_n P o p := by rw [rd_P, if_pos e1, if_neg ho, if_pos h5, if_pos e4]; rfl
            rw [r1] at hlt hTI h hQ ⊢
            rw [r2] at hTI hQ ⊢
            dsimp only at hlt hTI h hQ ⊢
            obtain ⟨i1, i2, i3⟩ := ih (p + 1) _ _ p' h (by simp) hlt.2 hTI hQ
            have eR : rd_R c n (c p) (true, p + 1) = (true, nx c p) := rd_R_nx (by rw [h5]; rfl)
            rw [show p + 1 = nx c p by omega] at i1 i2 i3 ⊢
            have hT2 : T ≠ [] := fun z => absurd (hI.1 z) (by decide)
            obtain ⟨s1, e2, s2, s3⟩ := (i2.1 hT2).2 rfl
            refine ⟨⟨hpn, h66, by rw [← enx] at eR; rw [show p + 1 = nx c p by omega]; exact eR, by omega, by omega, fun z => absurd z ho, by rw [if_neg ho, if_pos h5]; exact ⟨rfl, i1⟩⟩, ⟨fun _ => ⟨fun _ => ⟨p, SE_5 h5, s1, fun _ => ⟨e2, by rw [show p + 1 = nx c p by omega]; exact s2, s3⟩⟩, fun z => absurd z (by decide)⟩, ?_⟩, fun j hj hv => ?_⟩
            · exact pe_step (fun d e => (SE_n ho (by omega) (by omega)).mpr) (fun d e => (SC_n ho (by omega)).mpr) T 0 i2.2
            · obtain ⟨hv1, hv2⟩ := hv
              rw [i3 j (by omega) ⟨fun _ => ⟨fun z => absurd rfl z, fun _ => by omega⟩, hv2⟩]
              exact up_d ((hv1 hT2).1 (by decide))
          · have e4 : ¬ tp_cd ((cd, o, el) :: T) = 4 := h4
            rw [rd_I, if_pos e1, if_neg ho, if_pos h5, if_neg e4] at hok
            exact ff_t hok
        · by_cases h6 : c p = 6
          · have enx : nx c p = p + 1 := nx_1 (by omega)
            obtain ⟨x, T, rfl⟩ : ∃ x T', T = x :: T' := by cases T with | nil => exact absurd rfl hT | cons x T' => exact ⟨x, T', rfl⟩
            obtain ⟨cd, o, el⟩ := x
            have r1 : rd_I c n (true, p) ((cd, o, el) :: T) = ((true, p + 1), T) := by rw [rd_I, if_pos e1, if_neg ho, if_neg h5, if_pos h6]; rfl
            have r2 : rd_P c n (true, p) ((cd, o, el) :: T) P = (if cd = 0 then P else if cd = 5 then up_n P el p else up_n P o p) := by rw [rd_P, if_pos e1, if_neg ho, if_neg h5, if_pos h6]; rfl
            rw [r1] at hlt hTI h hQ ⊢
            rw [r2] at hTI hQ ⊢
            dsimp only at hlt hTI h hQ ⊢
            have eR : rd_R c n (c p) (true, p + 1) = (true, nx c p) := rd_R_nx (by rw [h6]; rfl)
            by_cases hT2 : T = []
            · subst hT2
              have h0 := hI.1 rfl
              subst h0
              rw [rd_BP_n, if_pos rfl] at hQ ⊢
              refine ⟨⟨hpn, h66, eR, by omega, by omega, fun z => absurd z ho, by rw [if_neg ho, if_neg h5, if_pos h6]; exact Or.inl rfl⟩, ⟨fun z => absurd rfl z, trivial⟩, fun j _ _ => rfl⟩
            · obtain ⟨i1, i2, i3⟩ := ih (p + 1) _ _ p' h hT2 hlt.2 hTI hQ
              obtain ⟨g1, g2⟩ := hI.2.1 hT2
              have g3 := hI.2.2 hT2
              generalize rd_BP c n k (true, p + 1) T (if cd = 0 then P else if cd = 5 then up_n P el p else up_n P o p) = P' at i1 i2 i3 hQ ⊢
              rw [show p + 1 = nx c p by omega] at i1 i2
              refine ⟨⟨hpn, h66, eR, by omega, by omega, fun z => absurd z ho, by rw [if_neg ho, if_neg h5, if_pos h6]; exact Or.inr i1⟩, ⟨fun _ => ?_, pe_dn (fun d e => (SE_6 h6).mpr) (fun d e => (SC_6 h6).mpr) T 0 i2⟩, fun j hj hv => ?_⟩
              · rcases g2 with ⟨a1, a2, a3⟩ | ⟨a1, a2, a3, a4, a5⟩
                · rw [if_neg (show ¬ cd = 0 by omega), if_neg (show ¬ cd = 5 by omega)] at i3
                  refine ⟨fun _ => ⟨p, SE_e h6, ?_, fun z => absurd z (by omega)⟩, fun z => absurd z (by omega)⟩
                  rw [hQ o (by omega), i3 o (by omega) (nv_of T o o g3 (by omega)), up_s]
                · rw [if_neg (show ¬ cd = 0 by omega), if_pos a1] at i3
                  refine ⟨fun z => absurd a1 z, fun _ => ⟨?_, p, SC_e h6, ?_⟩⟩
                  · rw [hQ o (by omega), i3 o (by omega) (nv_of T o o g3 (by omega)), up_d (by omega)]; exact a3
                  · rw [hQ el (by omega), i3 el (by omega) (nv_of T o el g3 (by omega)), up_s]
              · obtain ⟨hv1, hv2⟩ := hv
                obtain ⟨v1, v2⟩ := hv1 hT2
                rw [i3 j (by omega) hv2]
                rcases g2 with ⟨a1, a2, a3⟩ | ⟨a1, a2, a3, a4, a5⟩
                · rw [if_neg (show ¬ cd = 0 by omega), if_neg (show ¬ cd = 5 by omega)]
                  exact up_d (v1 (by omega))
                · rw [if_neg (show ¬ cd = 0 by omega), if_pos a1]
                  exact up_d (v2 a1)
          · have r1 : rd_I c n (true, p) T = (rd_R c n (c p) (true, p + 1), T) := by rw [rd_I, if_pos e1, if_neg ho, if_neg h5, if_neg h6]
            have r2 : rd_P c n (true, p) T P = P := by rw [rd_P, if_pos e1, if_neg ho, if_neg h5, if_neg h6]
            rw [r1] at hok hlt hTI h hQ ⊢
            rw [r2] at hTI hQ ⊢
            dsimp only at hok hlt hTI h hQ ⊢
            have eR := rd_R_nx hok
            rw [eR] at h hTI hlt hQ ⊢
            dsimp only at h hTI hlt hQ ⊢
            obtain ⟨i1, i2, i3⟩ := ih _ _ _ p' h hT hlt.2 hTI hQ
            exact ⟨⟨hpn, h66, eR, hlt.2, hlt.1, fun z => absurd z ho, by rw [if_neg ho, if_neg h5, if_neg h6]; exact i1⟩, pe_eq (fun d e => (SE_n ho h6 (by omega)).mpr) (fun d e => (SC_n ho h6).mpr) T 0 i2, fun j hj hv => i3 j (by omega) hv⟩
    · rw [rd_I, if_neg (by rw [e]; simp), e] at hok; exact ff_t hok
