def rd_J (c : Nat → Nat) (n : Nat) (q : Bool × Nat) : Bool × Nat := rd_n c n 0 255 2 q
def rd_g (c : Nat → Nat) (n : Nat) (q : Bool × Nat) : Bool × Nat := rd_C c n (if rd_tv c n 1 2 q = 1 then 5 else 10) (rd_tk c n 0 1 (rd_tk c n 1 2 q))
def rd_D (c : Nat → Nat) (n : Nat) (q : Bool × Nat) : Bool × Nat := rd_n c n 0 255 (rd_tv c n 0 8 (rd_tk c n 0 255 q)) (rd_tk c n 0 8 (rd_tk c n 0 255 q))
def rd_FPs (c : Nat → Nat) (n : Nat) : Nat → Bool × Nat → (Nat → Nat) → (Nat → Nat)
  | 0, _, P => P
  | k + 1, q, P => rd_FPs c n k (rd_F c n q) (rd_FP c n q P)
theorem rd_G_J (c : Nat → Nat) (n : Nat) : rd_G n (rd_J c n) := rd_G_n c n 0 255 2
theorem rd_G_g (c : Nat → Nat) (n : Nat) : rd_G n (rd_g c n) :=
  rd_G_d (g := fun k => rd_C c n (if k = 1 then 5 else 10)) (rd_tv c n 1 2) (rd_G_c (f := rd_tk c n 1 2) (g := rd_tk c n 0 1) (rd_G_tk c n 1 2) (rd_G_tk c n 0 1)) (fun k => rd_G_C c n _ (by split <;> omega))
theorem rd_G_D (c : Nat → Nat) (n : Nat) : rd_G n (rd_D c n) :=
  rd_G_c (f := rd_tk c n 0 255) (g := fun q => rd_n c n 0 255 (rd_tv c n 0 8 q) (rd_tk c n 0 8 q)) (rd_G_tk c n 0 255) (rd_G_d (g := fun k => rd_n c n 0 255 k) (rd_tv c n 0 8) (rd_G_tk c n 0 8) (fun k => rd_G_n c n 0 255 k))
section
variable {u : SX} {c : Nat → Nat} {n p : Nat}
theorem xr_types_l {P A : Nat → Int32} {fc : Int32} {post : Int32 → SX → Prop} (C : cx_ok u c n) (N : Nat) (hN : N ≤ 4) : ∀ r i p m F, i + r = N → r < m → p ≤ n →
    (∀ F', xr_fr 52 56 F F' → (∀ j, 52 ≤ j → j < 52 + i → F' j = F j) → ((rd_it (rd_T c n) r (true, p)).1 = true → ∀ k, k < r → F' (52 + i + k) = nI (rd_it (rd_T c n) k (true, p)).2) →
      post (bb_i (rd_it (rd_T c n) r (true, p)).1) (xr u (nI (rd_it (rd_T c n) r (true, p)).2) fc F' P A)) →
    wX_readTypes_17 post (nI N) m (nI i) (gx_byteCount u) (gx_wrongPlace u) (nI p) fc (gx_kindCount u) (gx_valueCount u) (gx_activeCount u) (gx_goesOn u) (gx_outcome u) (gx_resultValue u) (gx_trapPlace u) (gx_fuelUsed u) (gx_firstWaiting u) (gx_waitingCount u) (gx_printCount u) (gx_code u) F P (gx_loaded u) (gx_globals u) (gx_memories u) A (gx_frameHeight u) (gx_frameResult u) (gx_frameDead u) (gx_kinds u) (gx_values u) (gx_variables u) (gx_activeSlot u) (gx_activeGives u) (gx_activeFrame u) (gx_activeResume u) (gx_waiting u) (gx_prints u) := by
  intro r
  induction r with
  | zero =>
    intro i p m F hi hm hp h
    obtain ⟨m, rfl⟩ : ∃ j, m = j + 1 := ⟨m - 1, by omega⟩
    exact pk_le N i (fun _ => br_f (nI_pos (by omega)) (h F xr_fr_r (fun _ _ _ => rfl) (fun _ k hk => absurd hk (by omega)))) (fun z => absurd z (by omega))
  | succ r ih =>
    intro i p m F hi hm hp h
    obtain ⟨m, rfl⟩ : ∃ j, m = j + 1 := ⟨m - 1, by omega⟩
    have h140 := C.2.1
    refine pk_le N i (fun z => absurd z (by omega)) (fun _ => ?_)
    have e : (52 : Int32) + nI i = nI (52 + i) := nI_add 52 i
    refine ⟨pk_in (52 + i) 66 (by omega) e, nm_r (show _ = upd F (52 + i) (nI p) from by rw [pk_cl (52 + i) e]) ?_⟩
    have hfr : xr_fr 52 56 F (upd F (52 + i) (nI p)) := xr_fr_u (by omega)
    have hlow : ∀ j, 52 ≤ j → j < 52 + i → upd F (52 + i) (nI p) j = F j := fun j _ hj => pk_un (by omega)
    have g3 := (rd_G_K c n 3).1 (true, p) hp
    have g1 := (rd_G_K c n 1).1 _ g3.2
    rw [rd_it] at h
    refine xr_kinds C 3 (by omega) hp (bb_br (fun z => ?_) (fun z => ?_))
    · have e2 : rd_T c n (true, p) = rd_K c n 3 (true, p) := (rd_G_K c n 1).2 _ z
      rw [e2, (rd_G_it (rd_G_T c n) r).2 _ z, bb_0 z] at h
      exact h _ hfr hlow (fun y => absurd (z.symm.trans y) (by decide))
    · have e3 : rd_K c n 3 (true, p) = (true, (rd_K c n 3 (true, p)).2) := tt_eq z
      have e2 : rd_T c n (true, p) = rd_K c n 1 (true, (rd_K c n 3 (true, p)).2) := by rw [rd_T, ← e3]
      refine xr_kinds C 1 (by omega) g3.2 (bb_br (fun z2 => ?_) (fun z2 => nm_r (nI_1 i) ?_))
      · rw [e2, (rd_G_it (rd_G_T c n) r).2 _ z2, bb_0 z2] at h
        exact h _ hfr hlow (fun y => absurd (z2.symm.trans y) (by decide))
      · have e4 : rd_T c n (true, p) = (true, (rd_T c n (true, p)).2) := tt_eq (by rw [e2]; exact z2)
        rw [← e2]
        rw [e3] at g1
        rw [← e2] at g1
        refine ih (i + 1) _ m _ (by omega) (by omega) g1.2 (fun F' f1 f2 f3 => ?_)
        rw [← e4] at f3 ⊢
        refine h F' (xr_fr_t hfr f1) (fun j a b => (f2 j a (by omega)).trans (hlow j a b)) (fun y k hk => ?_)
        cases k with
        | zero =>
          rw [Nat.add_zero, f2 _ (by omega) (by omega), pk_us]; rfl
        | succ k =>
          have := f3 y k (by omega)
          rw [show 52 + i + (k + 1) = 52 + (i + 1) + k by omega]
          exact this
theorem xr_types {F P A : Nat → Int32} {fc : Int32} {post : Int32 → SX → Prop} (C : cx_ok u c n) (hp : p ≤ n)
    (h : ∀ F', (∀ j, j ≠ 44 → ¬ (52 ≤ j ∧ j < 56) → F' j = F j) → ((rd_it (rd_T c n) (rd_tv c n 0 4 (true, p)) (rd_tk c n 0 4 (true, p))).1 = true → F' 44 = nI (rd_tv c n 0 4 (true, p)) ∧ ∀ k, k < rd_tv c n 0 4 (true, p) → F' (52 + k) = nI (rd_it (rd_T c n) k (rd_tk c n 0 4 (true, p))).2) →
      post (bb_i (rd_it (rd_T c n) (rd_tv c n 0 4 (true, p)) (rd_tk c n 0 4 (true, p))).1) (xr u (nI (rd_it (rd_T c n) (rd_tv c n 0 4 (true, p)) (rd_tk c n 0 4 (true, p))).2) fc F' P A)) : wpX_readTypes post (xr u (nI p) fc F P A) := by
  unfold wpX_readTypes
  refine xr_byte C 0 4 (by omega) (by omega) hp (fun h1 h2 h3 => ?_) (fun hf => ?_)
  · refine nm_e ?_
    rw [rd_tk_t h1 h2 h3, rd_tv_t h1 h2 h3] at h
    refine ⟨c p + 1, xr_types_l C (c p) h3 (c p) 0 (p + 1) (c p + 1) _ (by omega) (by omega) (by omega) (fun F' f1 f2 f3 => ?_)⟩
    refine h F' (fun j a b => (f1 j b).trans (pk_un a)) (fun y => ⟨?_, fun k hk => ?_⟩)
    · rw [f1 44 (by omega), pk_us]
    · have := f3 y k hk
      rw [Nat.add_zero] at this
      exact this
  · refine nm_e ?_
    rw [rd_tk_n hf, rd_tv_n hf] at h
    exact ⟨1, br_t (by decide) (br_t (by decide) (h _ (fun j a _ => pk_un a) (fun y => ff_t y)))⟩
theorem xr_imports_l {P A : Nat → Int32} {fc : Int32} {post : Int32 → SX → Prop} (C : cx_ok u c n) (N : Nat) (hN : N ≤ 3) : ∀ r i p m F, i + r = N → r < m → p ≤ n →
    (∀ F', xr_fr 56 63 F F' → (∀ j, 56 ≤ j → j < 56 + i → F' j = F j) → ((rd_it (rd_J c n) r (true, p)).1 = true → ∀ k, k < r → F' (56 + i + k) = nI (rd_it (rd_J c n) k (true, p)).2) →
      post (bb_i (rd_it (rd_J c n) r (true, p)).1) (xr u (nI (rd_it (rd_J c n) r (true, p)).2) fc F' P A)) →
    wX_readImports_17 post (nI N) m (nI i) (gx_byteCount u) (gx_wrongPlace u) (nI p) fc (gx_kindCount u) (gx_valueCount u) (gx_activeCount u) (gx_goesOn u) (gx_outcome u) (gx_resultValue u) (gx_trapPlace u) (gx_fuelUsed u) (gx_firstWaiting u) (gx_waitingCount u) (gx_printCount u) (gx_code u) F P (gx_loaded u) (gx_globals u) (gx_memories u) A (gx_frameHeight u) (gx_frameResult u) (gx_frameDead u) (gx_kinds u) (gx_values u) (gx_variables u) (gx_activeSlot u) (gx_activeGives u) (gx_activeFrame u) (gx_activeResume u) (gx_waiting u) (gx_prints u) := by
  intro r
  induction r with
  | zero =>
    intro i p m F hi hm hp h
    obtain ⟨m, rfl⟩ : ∃ j, m = j + 1 := ⟨m - 1, by omega⟩
    exact pk_le N i (fun _ => br_f (nI_pos (by omega)) (h F xr_fr_r (fun _ _ _ => rfl) (fun _ k hk => absurd hk (by omega)))) (fun z => absurd z (by omega))
  | succ r ih =>
    intro i p m F hi hm hp h
    obtain ⟨m, rfl⟩ : ∃ j, m = j + 1 := ⟨m - 1, by omega⟩
    have h140 := C.2.1
    refine pk_le N i (fun z => absurd z (by omega)) (fun _ => ?_)
    have e : (56 : Int32) + nI i = nI (56 + i) := nI_add 56 i
    refine ⟨pk_in (56 + i) 66 (by omega) e, nm_r (show _ = upd F (56 + i) (nI p) from by rw [pk_cl (56 + i) e]) ?_⟩
    have hfr : xr_fr 56 63 F (upd F (56 + i) (nI p)) := xr_fr_u (by omega)
    have hlow : ∀ j, 56 ≤ j → j < 56 + i → upd F (56 + i) (nI p) j = F j := fun j _ hj => pk_un (by omega)
    have g3 := (rd_G_J c n).1 (true, p) hp
    rw [rd_it] at h
    refine xr_any C 2 (by omega) hp ?_
    rw [show rd_n c n 0 255 2 (true, p) = rd_J c n (true, p) from rfl]
    refine bb_br (fun z => ?_) (fun z => nm_r (nI_1 i) ?_)
    · rw [(rd_G_it (rd_G_J c n) r).2 _ z, bb_0 z] at h
      exact h _ hfr hlow (fun y => absurd (z.symm.trans y) (by decide))
    · have e4 : rd_J c n (true, p) = (true, (rd_J c n (true, p)).2) := tt_eq z
      refine ih (i + 1) _ m _ (by omega) (by omega) g3.2 (fun F' f1 f2 f3 => ?_)
      rw [← e4] at f3 ⊢
      refine h F' (xr_fr_t hfr f1) (fun j a b => (f2 j a (by omega)).trans (hlow j a b)) (fun y k hk => ?_)
      cases k with
      | zero =>
        rw [Nat.add_zero, f2 _ (by omega) (by omega), pk_us]; rfl
      | succ k =>
        have := f3 y k (by omega)
        rw [show 56 + i + (k + 1) = 56 + (i + 1) + k by omega]
        exact this
theorem xr_imports {F P A : Nat → Int32} {fc : Int32} {post : Int32 → SX → Prop} (C : cx_ok u c n) (hp : p ≤ n)
    (h : ∀ F', (∀ j, j ≠ 45 → ¬ (56 ≤ j ∧ j < 63) → F' j = F j) → ((rd_it (rd_J c n) (rd_tv c n 0 3 (true, p)) (rd_tk c n 0 3 (true, p))).1 = true → F' 45 = nI (rd_tv c n 0 3 (true, p)) ∧ ∀ k, k < rd_tv c n 0 3 (true, p) → F' (56 + k) = nI (rd_it (rd_J c n) k (rd_tk c n 0 3 (true, p))).2) →
      post (bb_i (rd_it (rd_J c n) (rd_tv c n 0 3 (true, p)) (rd_tk c n 0 3 (true, p))).1) (xr u (nI (rd_it (rd_J c n) (rd_tv c n 0 3 (true, p)) (rd_tk c n 0 3 (true, p))).2) fc F' P A)) : wpX_readImports post (xr u (nI p) fc F P A) := by
  unfold wpX_readImports
  refine xr_byte C 0 3 (by omega) (by omega) hp (fun h1 h2 h3 => ?_) (fun hf => ?_)
  · refine nm_e ?_
    rw [rd_tk_t h1 h2 h3, rd_tv_t h1 h2 h3] at h
    refine ⟨c p + 1, xr_imports_l C (c p) h3 (c p) 0 (p + 1) (c p + 1) _ (by omega) (by omega) (by omega) (fun F' f1 f2 f3 => ?_)⟩
    refine h F' (fun j a b => (f1 j b).trans (pk_un a)) (fun y => ⟨?_, fun k hk => ?_⟩)
    · rw [f1 45 (by omega), pk_us]
    · have := f3 y k hk
      rw [Nat.add_zero] at this
      exact this
  · refine nm_e ?_
    rw [rd_tk_n hf, rd_tv_n hf] at h
    exact ⟨1, br_t (by decide) (br_t (by decide) (h _ (fun j a _ => pk_un a) (fun y => ff_t y)))⟩
theorem xr_globals_l {P A : Nat → Int32} {fc : Int32} {post : Int32 → SX → Prop} (C : cx_ok u c n) (N : Nat) (hN : N ≤ 3) : ∀ r i p m F, i + r = N → r < m → p ≤ n →
    (∀ F', xr_fr 63 66 F F' → (∀ j, 63 ≤ j → j < 63 + i → F' j = F j) → ((rd_it (rd_g c n) r (true, p)).1 = true → ∀ k, k < r → F' (63 + i + k) = nI (rd_it (rd_g c n) k (true, p)).2) →
      post (bb_i (rd_it (rd_g c n) r (true, p)).1) (xr u (nI (rd_it (rd_g c n) r (true, p)).2) fc F' P A)) →
    wX_readGlobals_17 post (nI N) m (nI i) (gx_byteCount u) (gx_wrongPlace u) (nI p) fc (gx_kindCount u) (gx_valueCount u) (gx_activeCount u) (gx_goesOn u) (gx_outcome u) (gx_resultValue u) (gx_trapPlace u) (gx_fuelUsed u) (gx_firstWaiting u) (gx_waitingCount u) (gx_printCount u) (gx_code u) F P (gx_loaded u) (gx_globals u) (gx_memories u) A (gx_frameHeight u) (gx_frameResult u) (gx_frameDead u) (gx_kinds u) (gx_values u) (gx_variables u) (gx_activeSlot u) (gx_activeGives u) (gx_activeFrame u) (gx_activeResume u) (gx_waiting u) (gx_prints u) := by
  intro r
  induction r with
  | zero =>
    intro i p m F hi hm hp h
    obtain ⟨m, rfl⟩ : ∃ j, m = j + 1 := ⟨m - 1, by omega⟩
    exact pk_le N i (fun _ => br_f (nI_pos (by omega)) (h F xr_fr_r (fun _ _ _ => rfl) (fun _ k hk => absurd hk (by omega)))) (fun z => absurd z (by omega))
  | succ r ih =>
    intro i p m F hi hm hp h
    obtain ⟨m, rfl⟩ : ∃ j, m = j + 1 := ⟨m - 1, by omega⟩
    have h140 := C.2.1
    have h256 := C.2.2.2.1
    refine pk_le N i (fun z => absurd z (by omega)) (fun _ => ?_)
    have e : (63 : Int32) + nI i = nI (63 + i) := nI_add 63 i
    refine ⟨pk_in (63 + i) 66 (by omega) e, nm_r (show _ = upd F (63 + i) (nI p) from by rw [pk_cl (63 + i) e]) ?_⟩
    have hfr : xr_fr 63 66 F (upd F (63 + i) (nI p)) := xr_fr_u (by omega)
    have hlow : ∀ j, 63 ≤ j → j < 63 + i → upd F (63 + i) (nI p) j = F j := fun j _ hj => pk_un (by omega)
    have gg := (rd_G_g c n).1 (true, p) hp
    have hbad : ∀ q, rd_g c n (true, p) = q → q.1 = false → post 0 (xr u (nI q.2) fc (upd F (63 + i) (nI p)) P A) := by
      intro q e1 e2
      have := h _ hfr hlow
      rw [rd_it, e1, (rd_G_it (rd_G_g c n) r).2 _ e2, bb_0 e2] at this
      exact this (fun y => absurd (e2.symm.trans y) (by decide))
    rw [rd_it] at h
    refine xr_byte C 1 2 (by omega) (by omega) hp (fun a1 a2 a3 => ?_) (fun af => ?_)
    · refine br_f (nI_pos (by omega)) ?_
      refine xr_byte C 0 1 (by omega) (by omega) (by omega) (fun b1 b2 b3 => ?_) (fun bf => ?_)
      · refine br_f (nI_pos (by have := h256 (p + 1); omega)) ?_
        have e2 : rd_g c n (true, p) = rd_C c n (if c p = 1 then 5 else 10) (true, p + 2) := by rw [rd_g, rd_tv_t a1 a2 a3, rd_tk_t a1 a2 a3, rd_tk_t b1 b2 b3]
        refine xr_const C (c p) (by have := h256 p; omega) (by omega) (bb_br (fun z => ?_) (fun z => nm_r (nI_1 i) ?_))
        · exact hbad _ e2 z
        · have e4 : rd_g c n (true, p) = (true, (rd_g c n (true, p)).2) := tt_eq (by rw [e2]; exact z)
          rw [← e2]
          refine ih (i + 1) _ m _ (by omega) (by omega) gg.2 (fun F' f1 f2 f3 => ?_)
          rw [← e4] at f3 ⊢
          refine h F' (xr_fr_t hfr f1) (fun j a b => (f2 j a (by omega)).trans (hlow j a b)) (fun y k hk => ?_)
          cases k with
          | zero =>
            rw [Nat.add_zero, f2 _ (by omega) (by omega), pk_us]; rfl
          | succ k =>
            have := f3 y k (by omega)
            rw [show 63 + i + (k + 1) = 63 + (i + 1) + k by omega]
            exact this
      · refine br_t (by decide) (hbad (false, p + 1) ?_ rfl)
        rw [rd_g, rd_tk_t a1 a2 a3, rd_tk_n bf]
        exact (rd_G_C c n _ (by split <;> omega)).2 _ rfl
    · refine br_t (by decide) (hbad (false, p) ?_ rfl)
      rw [rd_g, rd_tk_n af, rd_tk_f rfl]
      exact (rd_G_C c n _ (by split <;> omega)).2 _ rfl
theorem xr_globals {F P A : Nat → Int32} {fc : Int32} {post : Int32 → SX → Prop} (C : cx_ok u c n) (hp : p ≤ n)
    (h : ∀ F', (∀ j, j ≠ 47 → ¬ (63 ≤ j ∧ j < 66) → F' j = F j) → ((rd_it (rd_g c n) (rd_tv c n 0 3 (true, p)) (rd_tk c n 0 3 (true, p))).1 = true → F' 47 = nI (rd_tv c n 0 3 (true, p)) ∧ ∀ k, k < rd_tv c n 0 3 (true, p) → F' (63 + k) = nI (rd_it (rd_g c n) k (rd_tk c n 0 3 (true, p))).2) →
      post (bb_i (rd_it (rd_g c n) (rd_tv c n 0 3 (true, p)) (rd_tk c n 0 3 (true, p))).1) (xr u (nI (rd_it (rd_g c n) (rd_tv c n 0 3 (true, p)) (rd_tk c n 0 3 (true, p))).2) fc F' P A)) : wpX_readGlobals post (xr u (nI p) fc F P A) := by
  unfold wpX_readGlobals
  refine xr_byte C 0 3 (by omega) (by omega) hp (fun h1 h2 h3 => ?_) (fun hf => ?_)
  · refine nm_e ?_
    rw [rd_tk_t h1 h2 h3, rd_tv_t h1 h2 h3] at h
    refine ⟨c p + 1, xr_globals_l C (c p) h3 (c p) 0 (p + 1) (c p + 1) _ (by omega) (by omega) (by omega) (fun F' f1 f2 f3 => ?_)⟩
    refine h F' (fun j a b => (f1 j b).trans (pk_un a)) (fun y => ⟨?_, fun k hk => ?_⟩)
    · rw [f1 47 (by omega), pk_us]
    · have := f3 y k hk
      rw [Nat.add_zero] at this
      exact this
  · refine nm_e ?_
    rw [rd_tk_n hf, rd_tv_n hf] at h
    exact ⟨1, br_t (by decide) (br_t (by decide) (h _ (fun j a _ => pk_un a) (fun y => ff_t y)))⟩
end
