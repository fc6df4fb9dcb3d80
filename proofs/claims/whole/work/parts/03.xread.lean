def mx_ok (u : SX) (m : Nat) (c : Nat → Nat) : Prop := (∀ i, i < 140 → gx_code u (m * 140 + i) = nI (c i)) ∧ (∀ i, c i < 256) ∧ ∀ i, 140 ≤ i → c i = 0
def cx_ok (u : SX) (c : Nat → Nat) (n : Nat) : Prop := gx_byteCount u = nI n ∧ n ≤ 140 ∧ mx_ok u 2 c
section
variable {u : SX} {c : Nat → Nat} {n p : Nat} {fc : Int32} {F P A : Nat → Int32} {post : Int32 → SX → Prop}
theorem xx_byte {u : SX} {post : Int32 → Prop} {c : Nat → Nat} {m p : Nat} (M : mx_ok u m c) (hm : m < 3) (hp : p < 1000) (h : post (nI (c p))) : wpX_byteAt post u (nI m) (nI p) := by
  refine pk_lt m 0 (fun h => absurd h (by omega)) (fun _ => ?_)
  refine pk_lt 2 m (fun h => absurd h (by omega)) (fun _ => ?_)
  refine pk_lt p 0 (fun h => absurd h (by omega)) (fun _ => ?_)
  refine pk_lt p 140 (fun h4 => ?_) (fun h4 => ?_)
  · have e : nI m * 140 + nI p = nI (m * 140 + p) := by rw [show (140 : Int32) = nI 140 from rfl, pk_mul, nI_add]
    refine ⟨pk_in (m * 140 + p) 420 (by omega) e, ?_⟩
    have e2 : gx_code u (nI m * 140 + nI p).toNatClampNeg = nI (c p) := by rw [pk_cl (m * 140 + p) e]; exact M.1 p h4
    exact eq_p (P := post) e2 h
  · rw [M.2.2 p h4] at h; exact h
theorem xx_part {u : SX} {post : Int32 → Prop} {P : Nat → Nat} {m p : Nat} (M : gx_partner u (m * 140 + p) = nI (P p)) (hm : m < 3) (hp : p < 140) (h : post (nI (P p))) : wpX_partnerOf post u (nI m) (nI p) := by
  refine pk_lt m 0 (fun h => absurd h (by omega)) (fun _ => ?_)
  refine pk_lt 2 m (fun h => absurd h (by omega)) (fun _ => ?_)
  refine pk_lt p 0 (fun h => absurd h (by omega)) (fun _ => ?_)
  refine pk_lt p 140 (fun h4 => ?_) (fun h4 => absurd h4 (by omega))
  have e : nI m * 140 + nI p = nI (m * 140 + p) := by rw [show (140 : Int32) = nI 140 from rfl, pk_mul, nI_add]
  refine ⟨pk_in (m * 140 + p) 420 (by omega) e, ?_⟩
  have e2 : gx_partner u (nI m * 140 + nI p).toNatClampNeg = nI (P p) := by rw [pk_cl (m * 140 + p) e]; exact M
  exact eq_p (P := post) e2 h
theorem xx_fact {u : SX} {post : Int32 → Prop} {m w : Nat} {z : Int32} (M : gx_facts u (m * 22 + w) = z) (hm : m < 3) (hw : w < 22) (h : post z) : wpX_fact post u (nI m) (nI w) := by
  refine pk_lt m 0 (fun h => absurd h (by omega)) (fun _ => ?_)
  refine pk_lt 2 m (fun h => absurd h (by omega)) (fun _ => ?_)
  refine pk_lt w 0 (fun h => absurd h (by omega)) (fun _ => ?_)
  refine pk_lt w 22 (fun h4 => ?_) (fun h4 => absurd h4 (by omega))
  have e : nI m * 22 + nI w = nI (m * 22 + w) := by rw [show (22 : Int32) = nI 22 from rfl, pk_mul, nI_add]
  refine ⟨pk_in (m * 22 + w) 66 (by omega) e, ?_⟩
  have e2 : gx_facts u (nI m * 22 + nI w).toNatClampNeg = z := by rw [pk_cl (m * 22 + w) e]; exact M
  exact eq_p (P := post) e2 h
theorem xx_last {post : Int32 → Prop} {k l : Nat} (hk : k < 1000) (hl : l < 1000) (hkl : k ≤ l) (h : post (nI (k - 1))) : wpX_last post (nI k) (nI l) := by
  refine pk_le 1 k (fun h1 => ?_) (fun h1 => ?_)
  · refine pk_le k l (fun _ => ?_) (fun h2 => absurd h2 (by omega))
    have e : nI k - 1 = nI (k - 1) := pk_sub (b := 1) h1
    exact e.symm ▸ h
  · rw [show k - 1 = 0 by omega] at h; exact h
theorem xx_ho {post : Int32 → Prop} {k : Nat} (hk : k < 256) (h : post (bb_i (decide (rd_ho k)))) : wpX_hasOperand post (nI k) := by
  have l : ∀ {j : Nat} {A B : Prop}, (j < 256) → ((k < j → A) → (j ≤ k → B) → (nI k < nI j → A) ∧ (¬ nI k < nI j → B)) := fun hj f g => pk_lt k _ f g
  have h56 : ¬ (2 ≤ k ∧ k ≤ 4) → k ≠ 7 → k ≠ 8 → k ≠ 11 → k ≠ 12 → ¬ (15 ≤ k ∧ k ≤ 19) → wX_hasOperand_56 post (nI k) := by
    intro a1 a2 a3 a4 a5 a6
    refine pk_lt k 22 (fun b => ?_) (fun b => pk_lt 27 k (fun b2 => ?_) (fun b2 => ?_))
    · rw [bb_0 (decide_eq_false (by omega))] at h; exact h
    · rw [bb_0 (decide_eq_false (by omega))] at h; exact h
    · rw [bb_1 (decide_eq_true (by omega))] at h; exact h
  have h39 : ¬ (2 ≤ k ∧ k ≤ 4) → k ≠ 7 → k ≠ 8 → k ≠ 11 → k ≠ 12 → wX_hasOperand_39 post (nI k) 0 := by
    intro a1 a2 a3 a4 a5
    refine br_t rfl (pk_lt k 15 (fun b => h56 a1 a2 a3 a4 a5 (by omega)) (fun b => pk_le k 19 (fun b2 => ?_) (fun b2 => h56 a1 a2 a3 a4 a5 (by omega))))
    rw [bb_1 (decide_eq_true (by omega))] at h; exact h
  have h34 : (2 ≤ k ∧ k ≤ 4) ∨ k = 7 ∨ k = 8 ∨ k = 11 ∨ k = 12 → wX_hasOperand_34 post (nI k) := by
    intro a
    refine br_f (by decide) ?_
    rw [bb_1 (decide_eq_true (by omega))] at h; exact h
  have h10 : ¬ (2 ≤ k ∧ k ≤ 4) → wX_hasOperand_10 post (nI k) := by
    intro a
    exact pk_eq k 7 (fun b => h34 (by omega)) (fun b7 => pk_eq k 8 (fun b => h34 (by omega)) (fun b8 => pk_eq k 11 (fun b => h34 (by omega)) (fun b11 => pk_eq k 12 (fun b => h34 (by omega)) (fun b12 => h39 a b7 b8 b11 b12))))
  exact pk_lt k 2 (fun b => h10 (by omega)) (fun b => pk_le k 4 (fun b2 => h34 (by omega)) (fun b2 => h10 (by omega)))
theorem xr_byte (C : cx_ok u c n) (lo hi : Nat) (hl : lo < 256) (hh : hi < 256) (hp : p ≤ n)
    (ht : p < n → lo ≤ c p → c p ≤ hi → post (nI (c p)) (xr u (nI (p + 1)) fc F P A)) (hf : ¬ (p < n ∧ lo ≤ c p ∧ c p ≤ hi) → post (-1) (xr u (nI p) fc F P A)) : wpX_readByte post (xr u (nI p) fc F P A) (nI lo) (nI hi) := by
  obtain ⟨hn, h140, hc, h256, _⟩ := C
  have hcp := h256 p
  refine pk_lt p 0 (fun h => absurd h (by omega)) (fun _ => ?_)
  refine pk_le n p (fun h => hf (by omega)) (fun hpn => ?_) hn
  refine pk_lt p 140 (fun h4 => ?_) (fun h => absurd h (by omega))
  have e : (280 : Int32) + nI p = nI (280 + p) := nI_add 280 p
  refine ⟨pk_in (280 + p) 420 (by omega) e, ?_⟩
  refine nm_r (show _ = nI (c p) from ?_) ?_
  · show gx_code u ((280 : Int32) + nI p).toNatClampNeg = _
    rw [pk_cl (280 + p) e]
    exact hc p h4
  · refine pk_lt (c p) lo (fun h => hf (by omega)) (fun h1 => ?_)
    refine pk_le (c p) hi (fun h2 => ?_) (fun h => hf (by omega))
    refine nm_r (nI_1 p) ?_
    exact ht hpn h1 h2
theorem xr_any_l (C : cx_ok u c n) (K : Nat) (hK : K < 1000) : ∀ r i p m, i + r = K → r < m → p ≤ n → post (bb_i (rd_n c n 0 255 r (true, p)).1) (xr u (nI (rd_n c n 0 255 r (true, p)).2) fc F P A) →
    wX_readAny_2 post (nI K) m (nI i) (gx_byteCount u) (gx_wrongPlace u) (nI p) fc (gx_kindCount u) (gx_valueCount u) (gx_activeCount u) (gx_goesOn u) (gx_outcome u) (gx_resultValue u) (gx_trapPlace u) (gx_fuelUsed u) (gx_firstWaiting u) (gx_waitingCount u) (gx_printCount u) (gx_code u) F P (gx_loaded u) (gx_globals u) (gx_memories u) A (gx_frameHeight u) (gx_frameResult u) (gx_frameDead u) (gx_kinds u) (gx_values u) (gx_variables u) (gx_activeSlot u) (gx_activeGives u) (gx_activeFrame u) (gx_activeResume u) (gx_waiting u) (gx_prints u) := by
  intro r
  induction r with
  | zero =>
    intro i p m hi hm hp h
    obtain ⟨m, rfl⟩ : ∃ k, m = k + 1 := ⟨m - 1, by omega⟩
    exact pk_le K i (fun _ => h) (fun z => absurd z (by omega))
  | succ r ih =>
    intro i p m hi hm hp h
    obtain ⟨m, rfl⟩ : ∃ k, m = k + 1 := ⟨m - 1, by omega⟩
    refine pk_le K i (fun z => absurd z (by omega)) (fun _ => ?_)
    refine xr_byte C 0 255 (by omega) (by omega) hp (fun h1 h2 h3 => ?_) (fun hf => ?_)
    · refine br_t (nI_pos' (by have := C.2.2.2.1 p; omega)) (nm_r (nI_1 i) ?_)
      refine ih (i + 1) (p + 1) m (by omega) (by omega) (by omega) ?_
      rw [rd_n, rd_tk_t h1 h2 h3] at h
      exact h
    · refine br_f (by decide) ?_
      rw [rd_n, rd_tk_n hf, rd_n_f _ _ rfl] at h
      exact h
theorem xr_any (C : cx_ok u c n) (K : Nat) (hK : K < 1000) (hp : p ≤ n) (h : post (bb_i (rd_n c n 0 255 K (true, p)).1) (xr u (nI (rd_n c n 0 255 K (true, p)).2) fc F P A)) :
    wpX_readAny post (xr u (nI p) fc F P A) (nI K) := ⟨K + 1, xr_any_l C K hK K 0 p (K + 1) (by omega) (by omega) hp h⟩
theorem xr_kinds_l (C : cx_ok u c n) (K : Nat) (hK : K < 1000) : ∀ r i p m, i + r = K → r < m → p ≤ n → post (bb_i (rd_n c n 1 2 r (true, p)).1) (xr u (nI (rd_n c n 1 2 r (true, p)).2) fc F P A) →
    wX_readKinds_9 post (nI K) m (nI i) (gx_byteCount u) (gx_wrongPlace u) (nI p) fc (gx_kindCount u) (gx_valueCount u) (gx_activeCount u) (gx_goesOn u) (gx_outcome u) (gx_resultValue u) (gx_trapPlace u) (gx_fuelUsed u) (gx_firstWaiting u) (gx_waitingCount u) (gx_printCount u) (gx_code u) F P (gx_loaded u) (gx_globals u) (gx_memories u) A (gx_frameHeight u) (gx_frameResult u) (gx_frameDead u) (gx_kinds u) (gx_values u) (gx_variables u) (gx_activeSlot u) (gx_activeGives u) (gx_activeFrame u) (gx_activeResume u) (gx_waiting u) (gx_prints u) := by
  intro r
  induction r with
  | zero =>
    intro i p m hi hm hp h
    obtain ⟨m, rfl⟩ : ∃ k, m = k + 1 := ⟨m - 1, by omega⟩
    exact pk_le K i (fun _ => br_f (nI_pos (by omega)) h) (fun z => absurd z (by omega))
  | succ r ih =>
    intro i p m hi hm hp h
    obtain ⟨m, rfl⟩ : ∃ k, m = k + 1 := ⟨m - 1, by omega⟩
    refine pk_le K i (fun z => absurd z (by omega)) (fun _ => ?_)
    refine xr_byte C 1 2 (by omega) (by omega) hp (fun h1 h2 h3 => ?_) (fun hf => ?_)
    · refine br_t (nI_pos' (by have := C.2.2.2.1 p; omega)) (nm_r (nI_1 i) ?_)
      refine ih (i + 1) (p + 1) m (by omega) (by omega) (by omega) ?_
      rw [rd_n, rd_tk_t h1 h2 h3] at h
      exact h
    · refine br_f (by decide) ?_
      rw [rd_n, rd_tk_n hf, rd_n_f _ _ rfl] at h
      exact h
theorem xr_kinds (C : cx_ok u c n) (K : Nat) (hK : K < 256) (hp : p ≤ n) (h : post (bb_i (rd_K c n K (true, p)).1) (xr u (nI (rd_K c n K (true, p)).2) fc F P A)) :
    wpX_readKinds post (xr u (nI p) fc F P A) (nI K) := by
  unfold wpX_readKinds
  refine xr_byte C 0 K (by omega) hK hp (fun h1 h2 h3 => ?_) (fun hf => ?_)
  · refine ⟨c p + 1, xr_kinds_l C (c p) (by omega) (c p) 0 (p + 1) (c p + 1) (by omega) (by omega) (by omega) ?_⟩
    rw [rd_K, rd_tk_t h1 h2 h3, rd_tv_t h1 h2 h3] at h
    exact h
  · refine ⟨1, br_t (by decide) (br_t (by decide) ?_)⟩
    rw [rd_K, rd_tk_n hf, rd_tv_n hf] at h
    exact h
theorem xr_const_l (C : cx_ok u c n) (K : Nat) (hK : K < 1000) : ∀ r i p m, i + r = K + 1 → r < m → p ≤ n → post (bb_i (rd_C c n r (true, p)).1) (xr u (nI (rd_C c n r (true, p)).2) fc F P A) →
    wX_readConst_14 post (nI K) m (nI i) (gx_byteCount u) (gx_wrongPlace u) (nI p) fc (gx_kindCount u) (gx_valueCount u) (gx_activeCount u) (gx_goesOn u) (gx_outcome u) (gx_resultValue u) (gx_trapPlace u) (gx_fuelUsed u) (gx_firstWaiting u) (gx_waitingCount u) (gx_printCount u) (gx_code u) F P (gx_loaded u) (gx_globals u) (gx_memories u) A (gx_frameHeight u) (gx_frameResult u) (gx_frameDead u) (gx_kinds u) (gx_values u) (gx_variables u) (gx_activeSlot u) (gx_activeGives u) (gx_activeFrame u) (gx_activeResume u) (gx_waiting u) (gx_prints u) := by
  intro r
  induction r with
  | zero =>
    intro i p m hi hm hp h
    obtain ⟨m, rfl⟩ : ∃ k, m = k + 1 := ⟨m - 1, by omega⟩
    exact pk_lt K i (fun _ => h) (fun z => absurd z (by omega))
  | succ r ih =>
    intro i p m hi hm hp h
    obtain ⟨m, rfl⟩ : ∃ k, m = k + 1 := ⟨m - 1, by omega⟩
    have key : ∀ hb, hb < 256 → (if r = 0 then 127 else 255) = hb → wX_readConst_34 post (wX_readConst_14 post (nI K) m) (nI K) (nI i) (nI hb) 0 (gx_byteCount u) (gx_wrongPlace u) (nI p) fc (gx_kindCount u) (gx_valueCount u) (gx_activeCount u) (gx_goesOn u) (gx_outcome u) (gx_resultValue u) (gx_trapPlace u) (gx_fuelUsed u) (gx_firstWaiting u) (gx_waitingCount u) (gx_printCount u) (gx_code u) F P (gx_loaded u) (gx_globals u) (gx_memories u) A (gx_frameHeight u) (gx_frameResult u) (gx_frameDead u) (gx_kinds u) (gx_values u) (gx_variables u) (gx_activeSlot u) (gx_activeGives u) (gx_activeFrame u) (gx_activeResume u) (gx_waiting u) (gx_prints u) := by
      intro hb hb2 e
      rw [rd_C, e] at h
      refine xr_byte C 0 hb (by omega) hb2 hp (fun h1 h2 h3 => ?_) (fun hf => ?_)
      · rw [rd_tk_t h1 h2 h3] at h
        refine pk_lt 127 (c p) (fun h4 => nm_r (nI_1 i) ?_) (fun h4 => br_f (nI_pos (by omega)) ?_)
        · refine ih (i + 1) (p + 1) m (by omega) (by omega) (by omega) ?_
          rw [if_pos ⟨rfl, h4⟩] at h
          exact h
        · rw [if_neg (fun z => by have := z.2; dsimp only at this; omega)] at h
          exact h
      · rw [rd_tk_n hf, if_neg (fun z => ff_t z.1)] at h
        exact br_f (by decide) (br_t (by decide) h)
    refine pk_lt K i (fun z => absurd z (by omega)) (fun _ => ?_)
    exact pk_eq i K (fun z => key 127 (by omega) (if_pos (by omega))) (fun z => key 255 (by omega) (if_neg (by omega)))
theorem xr_const (C : cx_ok u c n) (k : Nat) (hk : k < 256) (hp : p ≤ n) (h : post (bb_i (rd_C c n (if k = 1 then 5 else 10) (true, p)).1) (xr u (nI (rd_C c n (if k = 1 then 5 else 10) (true, p)).2) fc F P A)) :
    wpX_readConst post (xr u (nI p) fc F P A) (nI k) := by
  refine pk_eq k 1 (fun z => ?_) (fun z => ?_)
  · rw [if_pos z] at h
    exact ⟨6, xr_const_l C 5 (by omega) 5 1 p 6 (by omega) (by omega) hp h⟩
  · rw [if_neg z] at h
    exact ⟨11, xr_const_l C 10 (by omega) 10 1 p 11 (by omega) (by omega) hp h⟩
end
