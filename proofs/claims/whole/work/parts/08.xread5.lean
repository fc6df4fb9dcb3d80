section
variable {u : SX} {c : Nat → Nat} {n p : Nat}
theorem xr_functions_l {post : Int32 → SX → Prop} (C : cx_ok u c n) (N I : Nat) (hN : N ≤ 4) (hI : I ≤ 3) : ∀ r i p m (F Pa A : Nat → Int32) (fc : Int32) (P : Nat → Nat), i + r = N → r < m → p ≤ n → 0 < p → xr_Pa Pa P →
    (∀ F' Pa' A' fc', xr_fr (56 + I) (63) F F' → (∀ j, j < 56 + I + i → F' j = F j) → xr_fr 280 420 Pa Pa' →
      ((rd_it (rd_F c n) r (true, p)).1 = true → xr_Pa Pa' (rd_FPs c n r (true, p) P) ∧ ∀ k, k < r → F' (56 + I + i + k) = nI (rd_it (rd_F c n) k (true, p)).2) →
      post (bb_i (rd_it (rd_F c n) r (true, p)).1) (xr u (nI (rd_it (rd_F c n) r (true, p)).2) fc' F' Pa' A')) →
    wX_readFunctions_26 post (nI N) (nI I) m (nI i) (gx_byteCount u) (gx_wrongPlace u) (nI p) fc (gx_kindCount u) (gx_valueCount u) (gx_activeCount u) (gx_goesOn u) (gx_outcome u) (gx_resultValue u) (gx_trapPlace u) (gx_fuelUsed u) (gx_firstWaiting u) (gx_waitingCount u) (gx_printCount u) (gx_code u) F Pa (gx_loaded u) (gx_globals u) (gx_memories u) A (gx_frameHeight u) (gx_frameResult u) (gx_frameDead u) (gx_kinds u) (gx_values u) (gx_variables u) (gx_activeSlot u) (gx_activeGives u) (gx_activeFrame u) (gx_activeResume u) (gx_waiting u) (gx_prints u) := by
  intro r
  induction r with
  | zero =>
    intro i p m F Pa A fc P hi hm hp h0 hP h
    obtain ⟨m, rfl⟩ : ∃ j, m = j + 1 := ⟨m - 1, by omega⟩
    exact pk_le N i (fun _ => br_f (nI_pos (by omega)) (h F Pa A fc xr_fr_r (fun _ _ => rfl) xr_fr_r (fun _ => ⟨hP, fun k hk => absurd hk (by omega)⟩))) (fun z => absurd z (by omega))
  | succ r ih =>
    intro i p m F Pa A fc P hi hm hp h0 hP h
    obtain ⟨m, rfl⟩ : ∃ j, m = j + 1 := ⟨m - 1, by omega⟩
    have h140 := C.2.1
    refine pk_le N i (fun z => absurd z (by omega)) (fun _ => ?_)
    have e : ((56 : Int32) + nI I) + nI i = nI (56 + I + i) := by rw [show (56 : Int32) + nI I = nI (56 + I) from nI_add 56 I, nI_add]
    refine ⟨pk_in (56 + I + i) 66 (by omega) e, nm_r (show _ = upd F (56 + I + i) (nI p) from by rw [pk_cl (56 + I + i) e]) ?_⟩
    have hfr : xr_fr (56 + I) 63 F (upd F (56 + I + i) (nI p)) := xr_fr_u (by omega)
    have hlow : ∀ j, j < 56 + I + i → upd F (56 + I + i) (nI p) j = F j := fun j hj => pk_un (by omega)
    have ga := (rd_G_tk c n 0 255).1 (true, p) hp
    have gk := (rd_G_K c n 3).1 _ ga.2
    have gF := (rd_G_F c n).1 (true, p) hp
    have hbad : ∀ q, rd_F c n (true, p) = q → q.1 = false → ∀ Pa' A' fc', xr_fr 280 420 Pa Pa' → post 0 (xr u (nI q.2) fc' (upd F (56 + I + i) (nI p)) Pa' A') := by
      intro q e1 e2 Pa' A' fc' g
      have := h _ Pa' A' fc' hfr hlow g
      rw [rd_it, e1, (rd_G_it (rd_G_F c n) r).2 _ e2, bb_0 e2] at this
      exact this (fun y => absurd (e2.symm.trans y) (by decide))
    rw [rd_it] at h
    refine xr_any C 1 (by omega) hp ?_
    rw [show rd_n c n 0 255 1 (true, p) = rd_tk c n 0 255 (true, p) from rfl]
    refine bb_br (fun z => ?_) (fun z => ?_)
    · refine hbad _ ?_ z Pa A fc xr_fr_r
      rw [rd_F, (rd_G_K c n 3).2 _ z, rd_B_f _ _ _ z]
    · have e3 : rd_tk c n 0 255 (true, p) = (true, (rd_tk c n 0 255 (true, p)).2) := tt_eq z
      refine xr_kinds C 3 (by omega) ga.2 ?_
      rw [← e3]
      refine bb_br (fun z2 => ?_) (fun z2 => ?_)
      · refine hbad _ ?_ z2 Pa A fc xr_fr_r
        rw [rd_F, rd_B_f _ _ _ z2]
      · have e4 : rd_K c n 3 (rd_tk c n 0 255 (true, p)) = (true, (rd_K c n 3 (rd_tk c n 0 255 (true, p))).2) := tt_eq z2
        refine xr_body C (by omega) gk.2 hP (fun Pa' A' fc' g1 g2 => ?_)
        rw [← e4] at g2 ⊢
        refine bb_br (fun z3 => ?_) (fun z3 => nm_r (nI_1 i) ?_)
        · exact hbad _ rfl z3 Pa' A' fc' g1
        · have e5 : rd_F c n (true, p) = (true, (rd_F c n (true, p)).2) := tt_eq z3
          refine ih (i + 1) (rd_F c n (true, p)).2 m _ Pa' A' fc' (rd_FP c n (true, p) P) (by omega) (by omega) gF.2 (by omega) (g2 z3) (fun F' Pa'' A'' fc'' f1 f2 f3 f4 => ?_)
          rw [← e5] at f4 ⊢
          refine h F' Pa'' A'' fc'' (xr_fr_t hfr f1) (fun j a => (f2 j (by omega)).trans (hlow j a)) (xr_fr_t g1 f3) (fun y => ?_)
          obtain ⟨y1, y2⟩ := f4 y
          refine ⟨?_, fun k hk => ?_⟩
          · rw [rd_FPs]; exact y1
          · cases k with
            | zero =>
              rw [Nat.add_zero, f2 _ (by omega), pk_us]; rfl
            | succ k =>
              have := y2 k (by omega)
              rw [show 56 + I + i + (k + 1) = 56 + I + (i + 1) + k by omega]
              exact this
theorem xr_functions {F Pa A : Nat → Int32} {fc : Int32} {P : Nat → Nat} {post : Int32 → SX → Prop} (C : cx_ok u c n) (hp : p ≤ n) (h0 : 0 < p) (hP : xr_Pa Pa P) (I : Nat) (hI : I ≤ 3) (h45 : F 45 = nI I)
    (h : ∀ F' Pa' A' fc', (∀ j, j ≠ 46 → ¬ (56 + I ≤ j ∧ j < 63) → F' j = F j) → xr_fr 280 420 Pa Pa' →
      ((rd_it (rd_F c n) (rd_tv c n 0 4 (true, p)) (rd_tk c n 0 4 (true, p))).1 = true → F' 46 = nI (I + rd_tv c n 0 4 (true, p)) ∧ xr_Pa Pa' (rd_FPs c n (rd_tv c n 0 4 (true, p)) (rd_tk c n 0 4 (true, p)) P) ∧ ∀ k, k < rd_tv c n 0 4 (true, p) → F' (56 + I + k) = nI (rd_it (rd_F c n) k (rd_tk c n 0 4 (true, p))).2) →
      post (bb_i (rd_it (rd_F c n) (rd_tv c n 0 4 (true, p)) (rd_tk c n 0 4 (true, p))).1) (xr u (nI (rd_it (rd_F c n) (rd_tv c n 0 4 (true, p)) (rd_tk c n 0 4 (true, p))).2) fc' F' Pa' A')) : wpX_readFunctions post (xr u (nI p) fc F Pa A) := by
  unfold wpX_readFunctions
  refine xr_byte C 0 4 (by omega) (by omega) hp (fun h1 h2 h3 => ?_) (fun hf => ?_)
  · refine xx_fact (m := 2) (w := 1) (z := nI I) h45 (by omega) (by omega) (nm_r (show _ = upd F 46 (nI (I + c p)) from by rw [nI_add]) ?_)
    rw [rd_tk_t h1 h2 h3, rd_tv_t h1 h2 h3] at h
    refine ⟨c p + 1, xr_functions_l C (c p) I h3 hI (c p) 0 (p + 1) (c p + 1) _ Pa A fc P (by omega) (by omega) (by omega) (by omega) hP (fun F' Pa' A' fc' f1 f2 f3 f4 => ?_)⟩
    refine h F' Pa' A' fc' (fun j a b => (f1 j b).trans (pk_un a)) f3 (fun y => ?_)
    obtain ⟨y1, y2⟩ := f4 y
    refine ⟨?_, y1, fun k hk => ?_⟩
    · rw [f2 46 (by omega), pk_us]
    · have := y2 k hk
      rw [Nat.add_zero] at this
      exact this
  · refine xx_fact (m := 2) (w := 1) (z := nI I) h45 (by omega) (by omega) (nm_e ?_)
    rw [rd_tk_n hf, rd_tv_n hf] at h
    exact ⟨1, br_t (by decide) (br_t (by decide) (h _ Pa A fc (fun j a _ => pk_un a) xr_fr_r (fun y => ff_t y)))⟩
theorem xr_entries {F Pa A : Nat → Int32} {fc : Int32} {post : Int32 → SX → Prop} (C : cx_ok u c n) (hp : p ≤ n)
    (h : ∀ F', (∀ j, j ≠ 48 → j ≠ 50 → F' j = F j) → ((rd_n c n 0 255 (rd_tv c n 0 5 (true, p)) (rd_tk c n 0 5 (true, p))).1 = true → F' 48 = nI (rd_tv c n 0 5 (true, p)) ∧ F' 50 = nI (rd_tk c n 0 5 (true, p)).2) →
      post (bb_i (rd_n c n 0 255 (rd_tv c n 0 5 (true, p)) (rd_tk c n 0 5 (true, p))).1) (xr u (nI (rd_n c n 0 255 (rd_tv c n 0 5 (true, p)) (rd_tk c n 0 5 (true, p))).2) fc F' Pa A)) : wpX_readEntries post (xr u (nI p) fc F Pa A) := by
  unfold wpX_readEntries
  refine xr_byte C 0 5 (by omega) (by omega) hp (fun h1 h2 h3 => ?_) (fun hf => ?_)
  · refine nm_e (nm_e ?_)
    rw [rd_tk_t h1 h2 h3, rd_tv_t h1 h2 h3] at h
    refine br_f (nI_pos (by omega)) ?_
    have h' := h (upd (upd F 48 (nI (c p))) 50 (nI (p + 1))) (fun j a b => by rw [pk_un b, pk_un a]) (fun _ => ⟨by rw [pk_un (by omega), pk_us], pk_us⟩)
    refine xr_any C (c p) (by omega) (by omega) (bb_br (fun z => ?_) (fun z => ?_))
    · rw [bb_0 z] at h'; exact h'
    · rw [bb_1 z] at h'; exact h'
  · refine nm_e (nm_e ?_)
    rw [rd_tk_n hf, rd_tv_n hf] at h
    exact br_t (by decide) (h _ (fun j a b => by rw [pk_un b, pk_un a]) (fun y => ff_t y))
theorem xr_memory_l {F Pa A : Nat → Int32} {fc : Int32} {post : Int32 → SX → Prop} (C : cx_ok u c n) (N : Nat) (hN : N ≤ 2) : ∀ r i p m, i + r = N → r < m → p ≤ n →
    post (bb_i (rd_it (rd_D c n) r (true, p)).1) (xr u (nI (rd_it (rd_D c n) r (true, p)).2) fc F Pa A) →
    wX_readMemory_49 post (nI N) m (nI i) (gx_byteCount u) (gx_wrongPlace u) (nI p) fc (gx_kindCount u) (gx_valueCount u) (gx_activeCount u) (gx_goesOn u) (gx_outcome u) (gx_resultValue u) (gx_trapPlace u) (gx_fuelUsed u) (gx_firstWaiting u) (gx_waitingCount u) (gx_printCount u) (gx_code u) F Pa (gx_loaded u) (gx_globals u) (gx_memories u) A (gx_frameHeight u) (gx_frameResult u) (gx_frameDead u) (gx_kinds u) (gx_values u) (gx_variables u) (gx_activeSlot u) (gx_activeGives u) (gx_activeFrame u) (gx_activeResume u) (gx_waiting u) (gx_prints u) := by
  intro r
  induction r with
  | zero =>
    intro i p m hi hm hp h
    obtain ⟨m, rfl⟩ : ∃ j, m = j + 1 := ⟨m - 1, by omega⟩
    exact pk_le N i (fun _ => br_f (nI_pos (by omega)) h) (fun z => absurd z (by omega))
  | succ r ih =>
    intro i p m hi hm hp h
    obtain ⟨m, rfl⟩ : ∃ j, m = j + 1 := ⟨m - 1, by omega⟩
    have gD := (rd_G_D c n).1 (true, p) hp
    refine pk_le N i (fun z => absurd z (by omega)) (fun _ => ?_)
    have hbad : ∀ q, rd_D c n (true, p) = q → q.1 = false → post 0 (xr u (nI q.2) fc F Pa A) := by
      intro q e1 e2
      rw [rd_it, e1, (rd_G_it (rd_G_D c n) r).2 _ e2, bb_0 e2] at h
      exact h
    rw [rd_it] at h
    refine xr_any C 1 (by omega) hp ?_
    rw [show rd_n c n 0 255 1 (true, p) = rd_tk c n 0 255 (true, p) from rfl]
    rcases rd_tk_or c n 0 255 (true, p) with ⟨e1, _, hpn, _⟩ | e1
    · dsimp only at hpn e1
      rw [e1]
      refine br_f bi_t ?_
      refine xr_byte (p := p + 1) C 0 8 (by omega) (by omega) (by omega) (fun h1 h2 h3 => ?_) (fun hf => ?_)
      · have e2 : rd_D c n (true, p) = rd_n c n 0 255 (c (p + 1)) (true, p + 1 + 1) := by rw [rd_D, e1, rd_tk_t h1 h2 h3, rd_tv_t h1 h2 h3]
        refine br_f (nI_pos (by omega)) (xr_any C (c (p + 1)) (by omega) (by omega) ?_)
        rw [← e2]
        refine bb_br (fun z => hbad _ rfl z) (fun z => nm_r (nI_1 i) ?_)
        have e4 : rd_D c n (true, p) = (true, (rd_D c n (true, p)).2) := tt_eq z
        refine ih (i + 1) _ m (by omega) (by omega) gD.2 ?_
        rw [← e4]
        exact h
      · refine br_t (by decide) (hbad (false, p + 1) ?_ rfl)
        rw [rd_D, e1, rd_tk_n hf, rd_tv_n hf]; rfl
    · dsimp only at e1
      rw [e1]
      refine br_t rfl (hbad (false, p) ?_ rfl)
      rw [rd_D, e1, rd_tk_f rfl, rd_tv_f rfl]; rfl
def rd_M (c : Nat → Nat) (n : Nat) (q : Bool × Nat) : Bool × Nat :=
  if rd_tv c n 0 1 q = 1 then rd_it (rd_D c n) (rd_tv c n 0 2 (rd_tk c n 0 1 q)) (rd_tk c n 0 2 (rd_tk c n 0 1 q)) else rd_tk c n 0 1 q
theorem xr_memory {F Pa A : Nat → Int32} {fc : Int32} {post : Int32 → SX → Prop} (C : cx_ok u c n) (hp : p ≤ n)
    (h : ∀ F', (∀ j, j ≠ 49 → j ≠ 51 → F' j = F j) → ((rd_M c n (true, p)).1 = true → F' 49 = nI (rd_tv c n 0 1 (true, p)) ∧ F' 51 = nI (rd_tk c n 0 1 (true, p)).2) →
      post (bb_i (rd_M c n (true, p)).1) (xr u (nI (rd_M c n (true, p)).2) fc F' Pa A)) : wpX_readMemory post (xr u (nI p) fc F Pa A) := by
  unfold wpX_readMemory
  refine xr_byte C 0 1 (by omega) (by omega) hp (fun h1 h2 h3 => ?_) (fun hf => ?_)
  · refine nm_e (nm_e ?_)
    rw [rd_M, rd_tk_t h1 h2 h3, rd_tv_t h1 h2 h3] at h
    have h' := h (upd (upd F 49 (nI (c p))) 51 (nI (p + 1))) (fun j a b => by rw [pk_un b, pk_un a]) (fun _ => ⟨by rw [pk_un (by omega), pk_us], pk_us⟩)
    refine pk_lt 0 (c p) (fun z => ?_) (fun z => ?_)
    · rw [if_pos (by omega)] at h'
      refine xr_byte C 0 2 (by omega) (by omega) (by omega) (fun b1 b2 b3 => ?_) (fun bf => ?_)
      · rw [rd_tk_t b1 b2 b3, rd_tv_t b1 b2 b3] at h'
        exact ⟨c (p + 1) + 1, xr_memory_l C (c (p + 1)) b3 (c (p + 1)) 0 (p + 1 + 1) (c (p + 1) + 1) (by omega) (by omega) (by omega) h'⟩
      · rw [rd_tk_n bf, rd_tv_n bf] at h'
        exact ⟨1, br_t (by decide) (br_t (by decide) h')⟩
    · rw [if_neg (by omega)] at h'
      rw [show c p = 0 by omega] at h' ⊢
      exact br_t rfl h'
  · refine nm_e (nm_e ?_)
    rw [rd_M, rd_tk_n hf, rd_tv_n hf, if_neg (by decide)] at h
    exact br_f (by decide) (br_f (by decide) (h _ (fun j a b => by rw [pk_un b, pk_un a]) (fun y => ff_t y)))
end
