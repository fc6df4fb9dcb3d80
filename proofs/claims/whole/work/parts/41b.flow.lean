theorem SC_x {c : Nat → Nat} {e : Nat} : ∀ k p d, sc c k p d = some e → c e = 6 ∧ ∀ i e', SC c p (d + 1 + i) e' → SC c (e + 1) i e' := by
  intro k
  induction k with
  | zero => intro p d h; exact nomatch h
  | succ k ih =>
    intro p d h
    rw [sc] at h
    by_cases h6 : c p = 6
    · rw [if_pos h6] at h
      by_cases hd : d = 0
      · rw [if_pos hd] at h
        have := Option.some.inj h
        subst this
        refine ⟨h6, fun i e' q => ?_⟩
        rw [hd, Nat.zero_add, Nat.add_comm] at q
        have q2 := (SC_6 h6).mp q
        rw [nx_1 (by omega)] at q2
        exact q2
      · rw [if_neg hd] at h
        obtain ⟨d, rfl⟩ : ∃ d', d = d' + 1 := ⟨d - 1, by omega⟩
        rw [Nat.add_sub_cancel] at h
        obtain ⟨a, b⟩ := ih _ _ h
        refine ⟨a, fun i e' q => b i e' ?_⟩
        rw [show d + 1 + 1 + i = (d + 1 + i) + 1 by omega] at q
        exact (SC_6 h6).mp q
    · rw [if_neg h6] at h
      by_cases ho : 2 ≤ c p ∧ c p ≤ 4
      · rw [if_pos ho] at h
        obtain ⟨a, b⟩ := ih _ _ h
        refine ⟨a, fun i e' q => b i e' ?_⟩
        have q2 := (SC_o ho).mp q
        rw [show d + 1 + i + 1 = d + 1 + 1 + i by omega] at q2
        exact q2
      · rw [if_neg ho] at h
        obtain ⟨a, b⟩ := ih _ _ h
        exact ⟨a, fun i e' q => b i e' ((SC_n ho h6).mp q)⟩
theorem SE_x {c : Nat → Nat} {e : Nat} : ∀ k p d, se c k p d = some e → c e = 5 → ∀ i e', SC c p (d + i) e' → SC c (e + 1) i e' := by
  intro k
  induction k with
  | zero => intro p d h; exact nomatch h
  | succ k ih =>
    intro p d h h5e i e' q
    rw [se] at h
    by_cases h5 : d = 0 ∧ c p = 5
    · rw [if_pos h5] at h
      have := Option.some.inj h
      subst this
      rw [h5.1, Nat.zero_add] at q
      have q2 := (SC_n (by omega) (by omega)).mp q
      rw [nx_1 (by omega)] at q2
      exact q2
    · rw [if_neg h5] at h
      by_cases h6 : c p = 6
      · rw [if_pos h6] at h
        by_cases hd : d = 0
        · rw [if_pos hd] at h
          have := Option.some.inj h
          subst this
          omega
        · rw [if_neg hd] at h
          obtain ⟨d, rfl⟩ : ∃ d', d = d' + 1 := ⟨d - 1, by omega⟩
          rw [Nat.add_sub_cancel] at h
          rw [show d + 1 + i = (d + i) + 1 by omega] at q
          exact ih _ _ h h5e i e' ((SC_6 h6).mp q)
      · rw [if_neg h6] at h
        by_cases ho : 2 ≤ c p ∧ c p ≤ 4
        · rw [if_pos ho] at h
          have q2 := (SC_o ho).mp q
          rw [show d + i + 1 = d + 1 + i by omega] at q2
          exact ih _ _ h h5e i e' q2
        · rw [if_neg ho] at h
          exact ih _ _ h h5e i e' ((SC_n ho h6).mp q)
def dq (c : Nat → Nat) (p : Nat) (F : List vt_Fr) : Prop := ∀ d, d + 1 < F.length → ∃ e, SC c (f_o (F.drop d) + 2) 0 e ∧ SC c p d e
def dp (c : Nat → Nat) (p : Nat) (F : List vt_Fr) : Prop := dq c p F ∧ ∀ d, d + 1 < F.length → dq c (f_o (F.drop d) + 2) (F.drop d)
theorem dp_1 {c : Nat → Nat} {p : Nat} {x : vt_Fr} : dp c p [x] := ⟨fun d hd => absurd hd (by simp), fun d hd => absurd hd (by simp)⟩
theorem dp_n {c : Nat → Nat} {p : Nat} {F : List vt_Fr} (ho : ¬ (2 ≤ c p ∧ c p ≤ 4)) (h6 : c p ≠ 6) (h : dp c p F) : dp c (nx c p) F := by
  refine ⟨fun d hd => ?_, h.2⟩
  obtain ⟨e, a, b⟩ := h.1 d hd
  exact ⟨e, a, (SC_n ho h6).mp b⟩
theorem dp_loop {c : Nat → Nat} {p d : Nat} {F : List vt_Fr} (h : dp c p F) (hd : d + 1 < F.length) : dp c (f_o (F.drop d) + 2) (F.drop d) := by
  refine ⟨h.2 d hd, fun j hj => ?_⟩
  rw [List.length_drop] at hj
  rw [List.drop_drop]
  exact h.2 (d + j) (by omega)
theorem dp_exit {c : Nat → Nat} {p d e : Nat} {F : List vt_Fr} (h : dp c p F) (hd : d + 1 < F.length) (q : SC c p d e) : dp c (e + 1) (F.drop (d + 1)) := by
  obtain ⟨k, q⟩ := q
  have qx := (SC_x k p d q).2
  refine ⟨fun j hj => ?_, fun j hj => ?_⟩
  · rw [List.length_drop] at hj
    rw [List.drop_drop]
    obtain ⟨e', a, b⟩ := h.1 (d + 1 + j) (by omega)
    exact ⟨e', a, qx j e' b⟩
  · rw [List.length_drop] at hj
    rw [List.drop_drop]
    exact h.2 (d + 1 + j) (by omega)
theorem dp_open {c : Nat → Nat} {p e cd g hh : Nat} {dd : Bool} {F : List vt_Fr} (h : dp c p F) (ho : 2 ≤ c p ∧ c p ≤ 4) (hn : nx c p = p + 2) (q : SC c (p + 2) 0 e) : dp c (p + 2) ((cd, g, hh, dd, p) :: F) := by
  have k : dq c (p + 2) ((cd, g, hh, dd, p) :: F) := by
    intro d hd
    cases d with
    | zero => exact ⟨e, q, q⟩
    | succ d =>
      rw [List.length_cons] at hd
      obtain ⟨e', a, b⟩ := h.1 d (by omega)
      have b2 := (SC_o ho).mp b
      rw [hn] at b2
      exact ⟨e', a, b2⟩
  refine ⟨k, fun d hd => ?_⟩
  cases d with
  | zero => exact k
  | succ d =>
    rw [List.length_cons] at hd
    exact h.2 d (by omega)
theorem dp_alt {c : Nat → Nat} {p e1 cd g hh : Nat} {dd : Bool} {F : List vt_Fr} {cd' g' hh' : Nat} {dd' : Bool} (h : dp c (p + 2) ((cd, g, hh, dd, p) :: F)) (q : SE c (p + 2) 0 e1) (h5 : c e1 = 5) : dp c (e1 + 1) ((cd', g', hh', dd', p) :: F) := by
  obtain ⟨k, q⟩ := q
  have qx := SE_x k _ 0 q h5
  refine ⟨fun d hd => ?_, fun d hd => ?_⟩
  · obtain ⟨e', a, b⟩ := h.1 d hd
    have b2 := qx d e' (by rw [Nat.zero_add]; exact b)
    cases d with
    | zero => exact ⟨e', a, b2⟩
    | succ d => exact ⟨e', a, b2⟩
  · have z := h.2 d hd
    cases d with
    | zero =>
      intro j hj
      obtain ⟨e', a, b⟩ := z j hj
      cases j with
      | zero => exact ⟨e', a, b⟩
      | succ j => exact ⟨e', a, b⟩
    | succ d => exact z
