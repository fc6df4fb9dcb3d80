theorem rd_B_f {c : Nat → Nat} {n : Nat} : ∀ k q T, q.1 = false → rd_B c n k q T = (q, T) := by
  intro k q T h
  cases k with
  | zero => rfl
  | succ k => rw [rd_B, if_neg (by rw [h]; simp)]
theorem rd_BP_f {c : Nat → Nat} {n : Nat} {P : Nat → Nat} : ∀ k q T, q.1 = false → rd_BP c n k q T P = P := by
  intro k q T h
  cases k with
  | zero => rfl
  | succ k => rw [rd_BP, if_neg (by rw [h]; simp)]
theorem rd_B_n {c : Nat → Nat} {n : Nat} : ∀ k q, rd_B c n k q [] = (q, []) := by
  intro k q
  cases k with
  | zero => rfl
  | succ k => rw [rd_B, if_neg (by simp)]
theorem rd_BP_n {c : Nat → Nat} {n : Nat} {P : Nat → Nat} : ∀ k q, rd_BP c n k q [] P = P := by
  intro k q
  cases k with
  | zero => rfl
  | succ k => rw [rd_BP, if_neg (by simp)]
theorem rd_I_lt {c : Nat → Nat} {n p : Nat} {T : List (Nat × Nat × Nat)} (hp : p ≤ n) (h : (rd_I c n (true, p) T).1.1 = true) : p < (rd_I c n (true, p) T).1.2 ∧ (rd_I c n (true, p) T).1.2 ≤ n := by
  rcases rd_tk_or c n 0 66 (true, p) with ⟨e, _, hpn, _, h66⟩ | e
  · have e1 : (rd_tk c n 0 66 (true, p)).1 = true := by rw [e]
    dsimp only at hpn h66
    simp only [rd_I, if_pos e1] at h ⊢
    by_cases ho : 2 ≤ c p ∧ c p ≤ 4
    · simp only [if_pos ho] at h ⊢
      have := (rd_G_tk c n 0 2).1 (true, p + 1) (by dsimp only; omega)
      dsimp only at this; omega
    · simp only [if_neg ho] at h ⊢
      by_cases h5 : c p = 5
      · simp only [if_pos h5] at h ⊢
        by_cases e4 : tp_cd T = 4
        · simp only [if_pos e4]; omega
        · simp only [if_neg e4] at h; exact ff_t h
      · simp only [if_neg h5] at h ⊢
        by_cases h6 : c p = 6
        · simp only [if_pos h6]; omega
        · simp only [if_neg h6]
          have := (rd_G_R c n (c p)).1 (true, p + 1) (by dsimp only; omega)
          dsimp only at this; omega
  · rw [rd_I, if_neg (by rw [e]; simp), e] at h; exact ff_t h
section
variable {u : SX} {c : Nat → Nat} {n p : Nat}
theorem xr_body_l {F : Nat → Int32} {post : Int32 → SX → Prop} (C : cx_ok u c n) : ∀ r p i m k T (Pa A : Nat → Int32) (P : Nat → Nat), n - p < r → r ≤ k → r < m → i < p → p ≤ n → xr_A A T → xr_Pa Pa P → rd_TI c P p T →
    (∀ Pa' A' fc', xr_fr 280 420 Pa Pa' → ((rd_B c n k (true, p) T).1.1 = true → xr_Pa Pa' (rd_BP c n k (true, p) T P)) → post (bb_i (rd_B c n k (true, p) T).1.1) (xr u (nI (rd_B c n k (true, p) T).1.2) fc' F Pa' A')) →
    wX_readBody_7 post m (nI i) (gx_byteCount u) (gx_wrongPlace u) (nI p) (nI T.length) (gx_kindCount u) (gx_valueCount u) (gx_activeCount u) (gx_goesOn u) (gx_outcome u) (gx_resultValue u) (gx_trapPlace u) (gx_fuelUsed u) (gx_firstWaiting u) (gx_waitingCount u) (gx_printCount u) (gx_code u) F Pa (gx_loaded u) (gx_globals u) (gx_memories u) A (gx_frameHeight u) (gx_frameResult u) (gx_frameDead u) (gx_kinds u) (gx_values u) (gx_variables u) (gx_activeSlot u) (gx_activeGives u) (gx_activeFrame u) (gx_activeResume u) (gx_waiting u) (gx_prints u) := by
  intro r
  induction r with
  | zero => intro p i m k T Pa A P h; omega
  | succ r ih =>
    intro p i m k T Pa A P hr hk hm hip hp hA hP hI h
    obtain ⟨m, rfl⟩ : ∃ j, m = j + 1 := ⟨m - 1, by omega⟩
    obtain ⟨k, rfl⟩ : ∃ j, k = j + 1 := ⟨k - 1, by omega⟩
    have h140 := C.2.1
    have hlen := rd_TI_len T p hI
    refine pk_le 140 i (fun z => absurd z (by omega)) (fun _ => ?_)
    by_cases hT : T = []
    · subst hT
      rw [rd_B_n, rd_BP_n] at h
      exact br_t (by decide) (br_t rfl (h Pa A _ xr_fr_r (fun _ => hP)))
    · have hl : 0 < T.length := List.length_pos_iff.mpr hT
      refine pk_le T.length 0 (fun z => absurd z (by omega)) (fun _ => ?_)
      rw [rd_B, if_pos ⟨rfl, hT⟩, rd_BP, if_pos ⟨rfl, hT⟩] at h
      refine xr_instr C T hT hA hP hI hp (fun Pa' A' fc' h1 h2 h3 => ?_)
      refine bb_br (fun z => ?_) (fun z => nm_r (nI_1 i) ?_)
      · rw [rd_B_f _ _ _ z, rd_BP_f _ _ _ z] at h
        have := h Pa' A' fc' h2 (fun y => absurd (z.symm.trans y) (by decide))
        rw [bb_0 z] at this
        exact this
      · obtain ⟨e1, e2⟩ := h3 z
        subst e1
        have hlt := rd_I_lt hp z
        have hTI := rd_TI_I hI hT hp z
        have eq : (rd_I c n (true, p) T).1 = (true, (rd_I c n (true, p) T).1.2) := tt_eq z
        rw [eq] at h
        exact ih _ (i + 1) m k _ Pa' A' _ (by omega) (by omega) (by omega) (by omega) hlt.2 e2 h1 hTI (fun Pa'' A'' fc'' g1 g2 => h Pa'' A'' fc'' (xr_fr_t h2 g1) g2)
theorem xr_body {F Pa A : Nat → Int32} {P : Nat → Nat} {fc : Int32} {post : Int32 → SX → Prop} (C : cx_ok u c n) (h0 : 0 < p) (hp : p ≤ n) (hP : xr_Pa Pa P)
    (h : ∀ Pa' A' fc', xr_fr 280 420 Pa Pa' → ((rd_B c n 141 (true, p) [(0, 0, 0)]).1.1 = true → xr_Pa Pa' (rd_BP c n 141 (true, p) [(0, 0, 0)] P)) → post (bb_i (rd_B c n 141 (true, p) [(0, 0, 0)]).1.1) (xr u (nI (rd_B c n 141 (true, p) [(0, 0, 0)]).1.2) fc' F Pa' A')) :
    wpX_readBody post (xr u (nI p) fc F Pa A) := by
  have h140 := C.2.1
  exact ⟨142, xr_body_l C 141 p 0 142 141 [(0, 0, 0)] Pa A P (by omega) (by omega) (by omega) h0 hp ⟨fun z => absurd rfl z, trivial⟩ hP ⟨fun _ => rfl, fun z => absurd rfl z, fun z => absurd rfl z⟩ h⟩
theorem rd_G_B (c : Nat → Nat) (n : Nat) : ∀ k T, rd_G n (fun q => (rd_B c n k q T).1) := by
  intro k
  induction k with
  | zero => intro T; exact rd_G_id n
  | succ k ih =>
    intro T
    constructor
    · intro q hq
      show q.2 ≤ (rd_B c n (k + 1) q T).1.2 ∧ (rd_B c n (k + 1) q T).1.2 ≤ n
      rw [rd_B]
      split
      · rename_i hc
        obtain ⟨b, p⟩ := q
        obtain ⟨h1, h2⟩ := hc
        dsimp only at h1 hq
        subst h1
        have a : p ≤ (rd_I c n (true, p) T).1.2 ∧ (rd_I c n (true, p) T).1.2 ≤ n := by
          rcases rd_tk_or c n 0 66 (true, p) with ⟨e, _, hpn, _, h66⟩ | e
          · have e1 : (rd_tk c n 0 66 (true, p)).1 = true := by rw [e]
            dsimp only at hpn h66
            simp only [rd_I, if_pos e1]
            split
            · have := (rd_G_tk c n 0 2).1 (true, p + 1) (by dsimp only; omega)
              dsimp only at this ⊢; omega
            · split
              · split <;> dsimp only <;> omega
              · split
                · dsimp only; omega
                · have := (rd_G_R c n (c p)).1 (true, p + 1) (by dsimp only; omega)
                  dsimp only at this ⊢; omega
          · rw [rd_I, if_neg (by rw [e]; simp), e]; dsimp only; omega
        have b := (ih (rd_I c n (true, p) T).2).1 _ a.2
        dsimp only at b ⊢
        omega
      · exact ⟨Nat.le_refl _, hq⟩
    · intro q hq
      show (rd_B c n (k + 1) q T).1 = q
      rw [rd_B_f _ _ _ hq]
theorem rd_G_F (c : Nat → Nat) (n : Nat) : rd_G n (rd_F c n) := rd_G_c (f := fun q => rd_K c n 3 (rd_tk c n 0 255 q)) (g := fun q => (rd_B c n 141 q [(0, 0, 0)]).1) (rd_G_c (f := rd_tk c n 0 255) (g := rd_K c n 3) (rd_G_tk c n 0 255) (rd_G_K c n 3)) (rd_G_B c n 141 [(0, 0, 0)])
end
