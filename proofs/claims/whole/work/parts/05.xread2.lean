def xr_A (A : Nat → Int32) : List (Nat × Nat × Nat) → Prop
  | [] => True
  | (_, o, _) :: T => (T ≠ [] → A T.length = nI o) ∧ xr_A A T
theorem xr_A_ext {A A' : Nat → Int32} : ∀ T : List (Nat × Nat × Nat), xr_A A T → (∀ j, j < T.length → A' j = A j) → xr_A A' T := by
  intro T
  induction T with
  | nil => intro _ _; trivial
  | cons x T ih =>
    intro h e
    obtain ⟨cd, o, el⟩ := x
    obtain ⟨h1, h2⟩ := h
    refine ⟨fun z => ?_, ih h2 (fun j hj => e j (by simp only [List.length_cons]; omega))⟩
    rw [e _ (by simp only [List.length_cons]; omega)]
    exact h1 z
def xr_Pa (Pa : Nat → Int32) (P : Nat → Nat) : Prop := ∀ i, i < 140 → Pa (280 + i) = nI (P i)
def xr_fr (lo hi : Nat) (a a' : Nat → Int32) : Prop := ∀ j, ¬ (lo ≤ j ∧ j < hi) → a' j = a j
theorem xr_fr_r {lo hi : Nat} {a : Nat → Int32} : xr_fr lo hi a a := fun _ _ => rfl
theorem xr_fr_t {lo hi : Nat} {a b d : Nat → Int32} (h : xr_fr lo hi a b) (h2 : xr_fr lo hi b d) : xr_fr lo hi a d := fun j hj => (h2 j hj).trans (h j hj)
theorem xr_fr_u {lo hi i : Nat} {a : Nat → Int32} {x : Int32} (h : lo ≤ i ∧ i < hi) : xr_fr lo hi a (upd a i x) := fun j hj => pk_un (fun z => hj (z ▸ h))
theorem xr_fr_m {lo hi lo' hi' : Nat} {a b : Nat → Int32} (h : xr_fr lo hi a b) (hl : lo' ≤ lo) (hh : hi ≤ hi') : xr_fr lo' hi' a b := fun j hj => h j (fun z => hj ⟨by omega, by omega⟩)
theorem xr_Pa_u {Pa : Nat → Int32} {P : Nat → Nat} {i v : Nat} (h : xr_Pa Pa P) : xr_Pa (upd Pa (280 + i) (nI v)) (up_n P i v) := by
  intro j hj
  by_cases e : j = i
  · subst e; rw [pk_us, up_s]
  · rw [pk_un (by omega), up_d e]; exact h j hj
section
variable {u : SX} {c : Nat → Nat} {n p : Nat} {F Pa A : Nat → Int32} {P : Nat → Nat}
theorem xr_pair {post : SX → Prop} {a fc : Int32} (i z : Nat) (hi : i < 140) (h : post (xr u a fc F (upd Pa (280 + i) (nI z)) A)) : wpX_pair post (xr u a fc F Pa A) (nI i) (nI z) := by
  refine pk_lt i 0 (fun h => absurd h (by omega)) (fun _ => ?_)
  refine pk_le 140 i (fun h => absurd h (by omega)) (fun _ => ?_)
  have e : (280 : Int32) + nI i = nI (280 + i) := nI_add 280 i
  refine ⟨pk_in (280 + i) 420 (by omega) e, nm_r (show _ = upd Pa (280 + i) (nI z) from by rw [pk_cl (280 + i) e]) ?_⟩
  exact h
theorem xr_open {post : SX → Prop} {a : Int32} (f i : Nat) (hf : f < 140) (hi : i < 140) (h : post (xr u a (nI (f + 1)) F (upd Pa (280 + i) 0) (upd A f (nI i)))) : wpX_openRead post (xr u a (nI f) F Pa A) (nI i) := by
  refine pk_le 140 f (fun h => absurd h (by omega)) (fun _ => ?_)
  refine ⟨pk_in f 140 hf, nm_r (show _ = upd A f (nI i) from by rw [pk_cl f]) (nm_r (nI_1 f) ?_)⟩
  exact xr_pair (a := a) (fc := nI (f + 1)) (A := upd A f (nI i)) i 0 hi h
theorem xr_else {post : Int32 → SX → Prop} {a : Int32} (C : cx_ok u c n) (T : List (Nat × Nat × Nat)) (hT : T ≠ []) (hA : xr_A A T) (hP : xr_Pa Pa P) (hI : rd_TI c P p T) (hp : p < 140) (h70 : T.length < 140)
    (ht : ∀ o el T', T = (4, o, el) :: T' → post 1 (xr u a (nI T.length) F (upd Pa (280 + o) (nI p)) A)) (hf : (∀ o el T', T ≠ (4, o, el) :: T') → post 0 (xr u (nI p) (nI T.length) F Pa A)) :
    wpX_pairElse post (xr u a (nI T.length) F Pa A) (nI p) := by
  obtain ⟨x, T, rfl⟩ : ∃ x T', T = x :: T' := by cases T with | nil => exact absurd rfl hT | cons x T' => exact ⟨x, T', rfl⟩
  obtain ⟨cd, o, el⟩ := x
  obtain ⟨hA1, hA2⟩ := hA
  obtain ⟨h1, h2, h3⟩ := hI
  have hl : (List.length ((cd, o, el) :: T)) - 1 = T.length := by simp
  simp only [List.length_cons] at h70 ht hf ⊢
  unfold wpX_pairElse
  refine xx_last (k := T.length + 1) (l := 140) (by omega) (by omega) (by omega) ?_
  rw [show T.length + 1 - 1 = T.length by omega]
  refine ⟨pk_in T.length 140 (by omega), ?_⟩
  by_cases e : T = []
  · subst e
    have := h1 rfl
    subst this
    refine nm_e ?_
    exact br_t (by decide) (hf (fun o' el' T' z => by injection z with z1 z2; injection z1 with z3 z4; omega))
  · refine nm_r (show _ = nI o from by rw [pk_cl T.length]; exact hA1 e) ?_
    obtain ⟨ho, hcd⟩ := h2 e
    have hlen : 0 < T.length := List.length_pos_iff.mpr e
    refine pk_le T.length 0 (fun z => absurd z (by omega)) (fun _ => ?_)
    refine xx_byte (m := 2) C.2.2 (by omega) (by omega) ?_
    rcases hcd with ⟨g1, g2, g3⟩ | ⟨g1, g2, g3, g4, g5⟩
    · refine pk_eq (c o) 4 (fun z => ?_) (fun z => ?_) rfl rfl (by have := C.2.2.2.1 o; omega)
      · refine xx_part (m := 2) (P := P) (hP o (by omega)) (by omega) (by omega) ?_
        rw [g3]
        refine br_t rfl ?_
        refine xr_pair o p (by omega) ?_
        exact ht o el T (by rw [← g2, z])
      · exact hf (fun o' el' T' y => by injection y with z1 z2; injection z1 with z3 z4; omega)
    · refine pk_eq (c o) 4 (fun z => ?_) (fun z => absurd g2 z) rfl rfl (by omega)
      refine xx_part (m := 2) (P := P) (hP o (by omega)) (by omega) (by omega) ?_
      rw [g3]
      refine br_f (nI_ne0 (by omega) (by omega)) ?_
      exact hf (fun o' el' T' y => by injection y with z1 z2; injection z1 with z3 z4; omega)
theorem xr_end {post : SX → Prop} {a : Int32} (C : cx_ok u c n) (cd o el : Nat) (T : List (Nat × Nat × Nat)) (hA : xr_A A ((cd, o, el) :: T)) (hP : xr_Pa Pa P) (hI : rd_TI c P p ((cd, o, el) :: T)) (hp : p < 140) (h70 : T.length < 139)
    (h : ∀ Pa', xr_Pa Pa' (if cd = 0 then P else if cd = 5 then up_n P el p else up_n P o p) → xr_fr 280 420 Pa Pa' → post (xr u a (nI T.length) F Pa' A)) :
    wpX_pairEnd post (xr u a (nI (T.length + 1)) F Pa A) (nI p) := by
  obtain ⟨hA1, hA2⟩ := hA
  obtain ⟨h1, h2, h3⟩ := hI
  unfold wpX_pairEnd
  refine xx_last (k := T.length + 1) (l := 140) (by omega) (by omega) (by omega) ?_
  rw [show T.length + 1 - 1 = T.length by omega]
  by_cases e : T = []
  · subst e
    have := h1 rfl
    subst this
    exact br_t (by decide) (h Pa hP xr_fr_r)
  · obtain ⟨ho, hcd⟩ := h2 e
    have hlen : 0 < T.length := List.length_pos_iff.mpr e
    refine pk_le T.length 0 (fun z => absurd z (by omega)) (fun _ => ?_)
    refine ⟨pk_in T.length 140 (by omega), nm_r (show _ = nI o from by rw [pk_cl T.length]; exact hA1 e) ?_⟩
    refine xx_part (m := 2) (P := P) (hP o (by omega)) (by omega) (by omega) ?_
    rcases hcd with ⟨g1, g2, g3⟩ | ⟨g1, g2, g3, g4, g5⟩
    · rw [g3]
      refine br_t rfl ?_
      refine xr_pair o p (by omega) (h _ ?_ (xr_fr_u (by omega)))
      rw [if_neg (by omega), if_neg (by omega)]
      exact xr_Pa_u hP
    · rw [g3]
      refine br_f (nI_ne0 (by omega) (by omega)) ?_
      refine xr_pair el p (by omega) (h _ ?_ (xr_fr_u (by omega)))
      rw [if_neg (by omega), if_pos g1]
      exact xr_Pa_u hP
theorem rd_TI_I {c P : Nat → Nat} {n p : Nat} {T : List (Nat × Nat × Nat)} (hI : rd_TI c P p T) (hT : T ≠ []) (hp : p ≤ n) (h : (rd_I c n (true, p) T).1.1 = true) :
    rd_TI c (rd_P c n (true, p) T P) (rd_I c n (true, p) T).1.2 (rd_I c n (true, p) T).2 := by
  rcases rd_tk_or c n 0 66 (true, p) with ⟨e, _, hpn, _, h66⟩ | e
  · have e1 : (rd_tk c n 0 66 (true, p)).1 = true := by rw [e]
    dsimp only at hpn h66
    simp only [rd_I, rd_P, if_pos e1] at h ⊢
    by_cases ho : 2 ≤ c p ∧ c p ≤ 4
    · simp only [if_pos ho] at h ⊢
      rcases rd_tk_or c n 0 2 (true, p + 1) with ⟨e2, _, _, _, _⟩ | e2
      · rw [e2]
        refine ⟨fun z => absurd z hT, fun _ => ⟨by dsimp only; omega, Or.inl ⟨by omega, rfl, up_s⟩⟩, fun _ => ?_⟩
        exact rd_TI_ext T p hI (fun j hj => up_d (by omega))
      · rw [e2] at h; exact ff_t h
    · simp only [if_neg ho] at h ⊢
      by_cases h5 : c p = 5
      · simp only [if_pos h5] at h ⊢
        obtain ⟨x, T, rfl⟩ : ∃ x T', T = x :: T' := by cases T with | nil => exact absurd rfl hT | cons x T' => exact ⟨x, T', rfl⟩
        obtain ⟨cd, o, el⟩ := x
        by_cases h4 : cd = 4
        · subst h4
          obtain ⟨h1, h2, h3⟩ := hI
          have hT2 : T ≠ [] := fun z => absurd (h1 z) (by decide)
          obtain ⟨ho2, hcd⟩ := h2 hT2
          have hco : c o = 4 := by rcases hcd with ⟨_, g, _⟩ | ⟨g, _⟩; exact g; omega
          have e4 : tp_cd ((4, o, el) :: T) = 4 := rfl
          simp only [if_pos e4]
          refine ⟨fun z => absurd z hT2, fun _ => ⟨show o + 2 ≤ p + 1 by omega, Or.inr ⟨rfl, hco, up_s, show o < p by omega, show p < p + 1 by omega⟩⟩, fun _ => ?_⟩
          exact rd_TI_ext T o (h3 hT2) (fun j hj => up_d (show j ≠ o by omega))
        · have e4 : ¬ tp_cd ((cd, o, el) :: T) = 4 := h4
          simp only [if_neg e4] at h
          exact ff_t h
      · simp only [if_neg h5] at h ⊢
        by_cases h6 : c p = 6
        · simp only [if_pos h6] at h ⊢
          obtain ⟨x, T, rfl⟩ : ∃ x T', T = x :: T' := by cases T with | nil => exact absurd rfl hT | cons x T' => exact ⟨x, T', rfl⟩
          obtain ⟨cd, o, el⟩ := x
          obtain ⟨h1, h2, h3⟩ := hI
          show rd_TI c _ (p + 1) T
          by_cases hT2 : T = []
          · subst hT2; trivial
          · obtain ⟨ho2, hcd⟩ := h2 hT2
            refine rd_TI_mono (p := o) (rd_TI_ext T o (h3 hT2) ?_) (by omega)
            intro j hj
            by_cases z0 : tp_cd ((cd, o, el) :: T) = 0
            · rw [if_pos z0]
            · rw [if_neg z0]
              by_cases z5 : tp_cd ((cd, o, el) :: T) = 5
              · rw [if_pos z5]
                refine up_d (show j ≠ el from ?_)
                have z5' : cd = 5 := z5
                rcases hcd with ⟨g, _⟩ | ⟨_, _, _, g, _⟩ <;> omega
              · rw [if_neg z5]
                exact up_d (show j ≠ o by omega)
        · simp only [if_neg h6] at h ⊢
          exact rd_TI_mono hI (by have := ((rd_G_R c n (c p)).1 (true, p + 1) (by dsimp only; omega)).1; dsimp only at this; omega)
  · rw [rd_I, if_neg (by rw [e]; simp), e] at h; exact ff_t h
theorem xr_i180 {post : Int32 → SX → Prop} {fc : Int32} (C : cx_ok u c n) (k : Nat) (hk : k < 256) (hp : p ≤ n) (h1 : ¬ (2 ≤ k ∧ k ≤ 4)) (h9 : k ≠ 9) (h20 : k ≠ 20) (h21 : k ≠ 21)
    (h : post (bb_i (rd_R c n k (true, p)).1) (xr u (nI (rd_R c n k (true, p)).2) fc F Pa A)) : wX_readInstruction_180 post (nI k) (gx_byteCount u) (gx_wrongPlace u) (nI p) fc (gx_kindCount u) (gx_valueCount u) (gx_activeCount u) (gx_goesOn u) (gx_outcome u) (gx_resultValue u) (gx_trapPlace u) (gx_fuelUsed u) (gx_firstWaiting u) (gx_waitingCount u) (gx_printCount u) (gx_code u) F Pa (gx_loaded u) (gx_globals u) (gx_memories u) A (gx_frameHeight u) (gx_frameResult u) (gx_frameDead u) (gx_kinds u) (gx_values u) (gx_variables u) (gx_activeSlot u) (gx_activeGives u) (gx_activeFrame u) (gx_activeResume u) (gx_waiting u) (gx_prints u) := by
  rw [rd_R, if_neg h1, if_neg h9, if_neg h20, if_neg h21] at h
  refine br_f (nI_pos (by omega)) (xx_ho hk ?_)
  by_cases ho : rd_ho k
  · rw [if_pos ho] at h
    rw [bb_1 (decide_eq_true ho)]
    refine br_f (by decide) (xr_any C 1 (by omega) hp ?_)
    exact bb_br (fun z => by rw [show rd_n c n 0 255 1 (true, p) = rd_tk c n 0 255 (true, p) from rfl] at z ⊢; rw [bb_0 z] at h; exact h) (fun z => by rw [show rd_n c n 0 255 1 (true, p) = rd_tk c n 0 255 (true, p) from rfl] at z ⊢; rw [bb_1 z] at h; exact h)
  · rw [if_neg ho] at h
    rw [bb_0 (decide_eq_false ho)]
    exact br_t rfl h
theorem xr_instr {post : Int32 → SX → Prop} (C : cx_ok u c n) (T : List (Nat × Nat × Nat)) (hT : T ≠ []) (hA : xr_A A T) (hP : xr_Pa Pa P) (hI : rd_TI c P p T) (hp : p ≤ n)
    (h : ∀ Pa' A' fc', xr_Pa Pa' (rd_P c n (true, p) T P) → xr_fr 280 420 Pa Pa' → ((rd_I c n (true, p) T).1.1 = true → fc' = nI (rd_I c n (true, p) T).2.length ∧ xr_A A' (rd_I c n (true, p) T).2) →
      post (bb_i (rd_I c n (true, p) T).1.1) (xr u (nI (rd_I c n (true, p) T).1.2) fc' F Pa' A')) : wpX_readInstruction post (xr u (nI p) (nI T.length) F Pa A) := by
  have hlen := rd_TI_len T p hI
  have h256 : c p < 2 ^ 31 := by have := C.2.2.2.1 p; omega
  have h140 := C.2.1
  unfold wpX_readInstruction
  refine xr_byte C 0 66 (by omega) (by omega) hp (fun hpn _ h66 => ?_) (fun hf => ?_)
  · have e : rd_tk c n 0 66 (true, p) = (true, p + 1) := rd_tk_t hpn (by omega) h66
    have e1 : (rd_tk c n 0 66 (true, p)).1 = true := by rw [e]
    simp only [rd_I, rd_P, if_pos e1] at h
    have k180 : ¬ (2 ≤ c p ∧ c p ≤ 4) → c p ≠ 5 → c p ≠ 6 → c p ≠ 9 → c p ≠ 20 → c p ≠ 21 → wX_readInstruction_180 post (nI (c p)) (gx_byteCount u) (gx_wrongPlace u) (nI (p + 1)) (nI T.length) (gx_kindCount u) (gx_valueCount u) (gx_activeCount u) (gx_goesOn u) (gx_outcome u) (gx_resultValue u) (gx_trapPlace u) (gx_fuelUsed u) (gx_firstWaiting u) (gx_waitingCount u) (gx_printCount u) (gx_code u) F Pa (gx_loaded u) (gx_globals u) (gx_memories u) A (gx_frameHeight u) (gx_frameResult u) (gx_frameDead u) (gx_kinds u) (gx_values u) (gx_variables u) (gx_activeSlot u) (gx_activeGives u) (gx_activeFrame u) (gx_activeResume u) (gx_waiting u) (gx_prints u) := by
      intro a1 a2 a3 a4 a5 a6
      simp only [if_neg a1, if_neg a2, if_neg a3] at h
      exact xr_i180 C (c p) (by omega) (by omega) a1 a4 a5 a6 (h Pa A _ hP xr_fr_r (fun _ => ⟨rfl, hA⟩))
    have k108 : (2 ≤ c p ∧ c p ≤ 4) → wX_readInstruction_108 post (nI p) (gx_byteCount u) (gx_wrongPlace u) (nI (p + 1)) (nI T.length) (gx_kindCount u) (gx_valueCount u) (gx_activeCount u) (gx_goesOn u) (gx_outcome u) (gx_resultValue u) (gx_trapPlace u) (gx_fuelUsed u) (gx_firstWaiting u) (gx_waitingCount u) (gx_printCount u) (gx_code u) F Pa (gx_loaded u) (gx_globals u) (gx_memories u) A (gx_frameHeight u) (gx_frameResult u) (gx_frameDead u) (gx_kinds u) (gx_values u) (gx_variables u) (gx_activeSlot u) (gx_activeGives u) (gx_activeFrame u) (gx_activeResume u) (gx_waiting u) (gx_prints u) := by
      intro a1
      simp only [if_pos a1] at h
      refine xr_open T.length p (by omega) (by omega) ?_
      have h' := h (upd Pa (280 + p) 0) (upd A T.length (nI p)) (nI (T.length + 1)) (xr_Pa_u (v := 0) hP) (xr_fr_u (by omega)) (fun _ => ⟨rfl, fun _ => pk_us, xr_A_ext T hA (fun j hj => pk_un (by omega))⟩)
      refine xr_byte C 0 2 (by omega) (by omega) (by omega) (fun b1 b2 b3 => ?_) (fun bf => ?_)
      · rw [rd_tk_t b1 b2 b3] at h'
        exact br_f (nI_pos (by have := C.2.2.2.1 (p + 1); omega)) h'
      · rw [rd_tk_n bf] at h'
        exact br_t (by decide) h'
    have k5 : c p = 5 → wpX_pairElse (fun r u => narrow .boolean (.int r) = .int r ∧ post r u) (xr u (nI (p + 1)) (nI T.length) F Pa A) (nI p) := by
      intro a5
      simp only [if_neg (show ¬ (2 ≤ c p ∧ c p ≤ 4) by omega), if_pos a5] at h
      refine xr_else C T hT hA hP hI (by omega) (by omega) (fun o el T' z => ?_) (fun z => ?_)
      · subst z
        have e4 : tp_cd ((4, o, el) :: T') = 4 := rfl
        simp only [if_pos e4] at h
        refine ⟨bb_nar true, h _ A _ (xr_Pa_u hP) (xr_fr_u ?_) (fun _ => ⟨rfl, hA.1, hA.2⟩)⟩
        have hT2 : T' ≠ [] := fun z => absurd (hI.1 z) (by decide)
        have := (hI.2.1 hT2).1
        show 280 ≤ 280 + o ∧ 280 + o < 420
        omega
      · have e4 : ¬ tp_cd T = 4 := by
          cases T with
          | nil => exact absurd rfl hT
          | cons x T' =>
            obtain ⟨cd, o, el⟩ := x
            intro y
            have y' : cd = 4 := y
            subst y'
            exact z o el T' rfl
        simp only [if_neg e4] at h
        exact ⟨bb_nar false, h Pa A _ hP xr_fr_r (fun z => ff_t z)⟩
    have k6 : c p = 6 → wpX_pairEnd (fun u => post 1 u) (xr u (nI (p + 1)) (nI T.length) F Pa A) (nI p) := by
      intro a6
      simp only [if_neg (show ¬ (2 ≤ c p ∧ c p ≤ 4) by omega), if_neg (show ¬ c p = 5 by omega), if_pos a6] at h
      obtain ⟨x, T, rfl⟩ : ∃ x T', T = x :: T' := by cases T with | nil => exact absurd rfl hT | cons x T' => exact ⟨x, T', rfl⟩
      obtain ⟨cd, o, el⟩ := x
      refine xr_end C cd o el T hA hP hI (by omega) (by simp only [List.length_cons] at hlen; omega) (fun Pa' hPa hfr => h Pa' A _ ?_ hfr (fun _ => ⟨rfl, hA.2⟩))
      exact hPa
    have kR : ∀ (k : Nat), c p = k → k = 9 ∨ k = 20 ∨ k = 21 → post (bb_i (rd_R c n k (true, p + 1)).1) (xr u (nI (rd_R c n k (true, p + 1)).2) (nI T.length) F Pa A) := by
      intro k a k'
      simp only [if_neg (show ¬ (2 ≤ c p ∧ c p ≤ 4) by omega), if_neg (show ¬ c p = 5 by omega), if_neg (show ¬ c p = 6 by omega)] at h
      have := h Pa A _ hP xr_fr_r (fun _ => ⟨rfl, hA⟩)
      rw [a] at this
      exact this
    have k9 : c p = 9 → wpX_readByte (fun r u => (r < 0 → post 0 u) ∧ (¬ r < 0 → wpX_readAny (fun r u => (r = 0 → post 0 u) ∧ (¬ r = 0 → post 1 u)) u (r + 1))) (xr u (nI (p + 1)) (nI T.length) F Pa A) 0 4 := by
      intro a9
      have h' := kR 9 a9 (by omega)
      rw [rd_R, if_neg (by omega), if_pos rfl] at h'
      refine xr_byte C 0 4 (by omega) (by omega) (by omega) (fun b1 b2 b3 => ?_) (fun bf => ?_)
      · rw [rd_tk_t b1 b2 b3, rd_tv_t b1 b2 b3] at h'
        refine br_f (nI_pos (by omega)) ?_
        rw [nI_1]
        refine xr_any C _ (by omega) (by omega) ?_
        exact bb_br (fun z => by rw [bb_0 z] at h'; exact h') (fun z => by rw [bb_1 z] at h'; exact h')
      · rw [rd_tk_n bf, rd_tv_n bf, rd_n_f _ _ rfl] at h'
        exact br_t (by decide) h'
    have k20 : c p = 20 → wpX_readConst (fun r u => narrow .boolean (.int r) = .int r ∧ post r u) (xr u (nI (p + 1)) (nI T.length) F Pa A) 1 := by
      intro a
      have h' := kR 20 a (by omega)
      rw [rd_R, if_neg (by omega), if_neg (by omega), if_pos rfl] at h'
      exact xr_const C 1 (by omega) (by omega) ⟨bb_nar _, h'⟩
    have k21 : c p = 21 → wpX_readConst (fun r u => narrow .boolean (.int r) = .int r ∧ post r u) (xr u (nI (p + 1)) (nI T.length) F Pa A) 2 := by
      intro a
      have h' := kR 21 a (by omega)
      rw [rd_R, if_neg (by omega), if_neg (by omega), if_neg (by omega), if_pos rfl] at h'
      exact xr_const C 2 (by omega) (by omega) ⟨bb_nar _, h'⟩
    refine pk_lt (c p) 2 (fun b => k180 (by omega) (by omega) (by omega) (by omega) (by omega) (by omega)) (fun b0 => ?_) rfl rfl h256
    refine pk_lt 21 (c p) (fun b => k180 (by omega) (by omega) (by omega) (by omega) (by omega) (by omega)) (fun b1 => ?_) rfl rfl (by omega) h256
    exact pk_eq (c p) 2 (fun z => k108 (by omega)) (fun b2 => pk_eq (c p) 3 (fun z => k108 (by omega)) (fun b3 => pk_eq (c p) 4 (fun z => k108 (by omega)) (fun b4 => pk_eq (c p) 5 (fun z => k5 z) (fun b5 => pk_eq (c p) 6 (fun z => k6 z) (fun b6 => pk_eq (c p) 7 (fun z => k180 (by omega) (by omega) (by omega) (by omega) (by omega) (by omega)) (fun b7 => pk_eq (c p) 8 (fun z => k180 (by omega) (by omega) (by omega) (by omega) (by omega) (by omega)) (fun b8 => pk_eq (c p) 9 (fun z => k9 z) (fun b9 => pk_eq (c p) 10 (fun z => k180 (by omega) (by omega) (by omega) (by omega) (by omega) (by omega)) (fun b10 => pk_eq (c p) 11 (fun z => k180 (by omega) (by omega) (by omega) (by omega) (by omega) (by omega)) (fun b11 => pk_eq (c p) 12 (fun z => k180 (by omega) (by omega) (by omega) (by omega) (by omega) (by omega)) (fun b12 => pk_eq (c p) 13 (fun z => k180 (by omega) (by omega) (by omega) (by omega) (by omega) (by omega)) (fun b13 => pk_eq (c p) 14 (fun z => k180 (by omega) (by omega) (by omega) (by omega) (by omega) (by omega)) (fun b14 => pk_eq (c p) 15 (fun z => k180 (by omega) (by omega) (by omega) (by omega) (by omega) (by omega)) (fun b15 => pk_eq (c p) 16 (fun z => k180 (by omega) (by omega) (by omega) (by omega) (by omega) (by omega)) (fun b16 => pk_eq (c p) 17 (fun z => k180 (by omega) (by omega) (by omega) (by omega) (by omega) (by omega)) (fun b17 => pk_eq (c p) 18 (fun z => k180 (by omega) (by omega) (by omega) (by omega) (by omega) (by omega)) (fun b18 => pk_eq (c p) 19 (fun z => k180 (by omega) (by omega) (by omega) (by omega) (by omega) (by omega)) (fun b19 => pk_eq (c p) 20 (fun z => k20 z) (fun b20 => pk_eq (c p) 21 (fun z => k21 z) (fun b21 => absurd b1 (by omega)) rfl rfl h256) rfl rfl h256) rfl rfl h256) rfl rfl h256) rfl rfl h256) rfl rfl h256) rfl rfl h256) rfl rfl h256) rfl rfl h256) rfl rfl h256) rfl rfl h256) rfl rfl h256) rfl rfl h256) rfl rfl h256) rfl rfl h256) rfl rfl h256) rfl rfl h256) rfl rfl h256) rfl rfl h256) rfl rfl h256
  · have e : rd_tk c n 0 66 (true, p) = (false, p) := rd_tk_n hf
    rw [rd_I, rd_P, if_neg (by rw [e]; simp), if_neg (by rw [e]; simp), e] at h
    exact br_t (by decide) (br_t (by decide) (h Pa A _ hP xr_fr_r (fun z => ff_t z)))
end
