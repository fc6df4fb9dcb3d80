def lm (L : Int32) (S : Nat → Prop) : Prop := ∃ l, L = nI l ∧ l ≤ 1000 ∧ (l = 1000 ∨ S l) ∧ ∀ x, S x → l ≤ x
theorem lm_ext {L : Int32} {S S' : Nat → Prop} (h : lm L S) (e : ∀ x, S x ↔ S' x) : lm L S' := by
  obtain ⟨l, a, b, d, f⟩ := h
  exact ⟨l, a, b, d.imp id (fun z => (e l).mp z), fun x hx => f x ((e x).mpr hx)⟩
theorem lm_uni {L L' : Int32} {S : Nat → Prop} (h : lm L S) (h' : lm L' S) (hS : ∀ x, S x → x < 1000) : L = L' := by
  obtain ⟨l, a, b, d, f⟩ := h
  obtain ⟨l', a', b', d', f'⟩ := h'
  have : l = l' := by
    rcases d with d | d
    · rcases d' with d' | d'
      · omega
      · have := f l' d'; have := hS l' d'; omega
    · rcases d' with d' | d'
      · have := f' l d; have := hS l d; omega
      · have := f l' d'; have := f' l d; omega
  rw [a, a', this]
def fr_i (lo hi : Nat) (a a' : Nat → Int32) : Prop := ∀ j, ¬ (lo ≤ j ∧ j < hi) → a' j = a j
def sb_v (b : Nat) : Int32 := (nI b).toInt8.toInt32
def md_w (c : Nat → Nat) (p : Nat) (M : Nat → Nat) : Nat → Nat := fun j => if c p ≤ j ∧ j < c p + c (p + 1) then c (p + 2 + (j - c p)) else M j
def md_k (c : Nat → Nat) (n : Nat) : Nat → Bool × Nat → (Nat → Nat) → (Nat → Nat)
  | 0, _, M => M
  | k + 1, q, M => md_k c n k (rd_D c n q) (md_w c q.2 M)
def md_S (c : Nat → Nat) (n k : Nat) (q : Bool × Nat) (x : Nat) : Prop := ∃ i, i < k ∧ x = (rd_it (rd_D c n) i q).2 ∧ 48 < c x + c (x + 1)
section
variable {y_count y_place y_m y_pos y_wrong y_least y_top y_frames y_invalid y_sp y_labels y_active y_fuel y_outcome y_trappedAt y_used y_waits y_printed : Int32} {y_constant y_result : Int64} {y_bytes y_there y_types y_typeSig y_imports y_functions y_sig y_what y_typeAt y_localsAt y_globals y_globalKind y_globalFree y_entries y_entriesAt y_hasMemory y_memory y_nest y_kinds y_shape y_gives y_height y_dead y_labelAt y_labelHeight y_labelGives y_callModule y_callFunction y_callBack y_callBase y_callLabels y_waiting y_prints : Nat → Int32} {y_globalValue y_stack : Nat → Int64}
variable {m : Nat} {c : Nat → Nat} {n p : Nat}
theorem ym_take {post : Int32 → SY → Prop} {L : Int32} {H M : Nat → Int32} (C : cy_ok y_count y_m y_bytes m c n) (q : Bool × Nat) (hq : q.2 ≤ n) (lo hi : Nat) (hl : lo < 256) (hh : hi < 256)
    (h : post (nI (rd_tv c n lo hi q)) (y_count, y_place, y_m, nI (rd_tk c n lo hi q).2, bb_w (rd_tk c n lo hi q).1, y_constant, L, y_top, y_frames, y_invalid, y_sp, y_labels, y_active, y_fuel, y_outcome, y_trappedAt, y_result, y_used, y_waits, y_printed, y_bytes, y_there, y_types, y_typeSig, y_imports, y_functions, y_sig, y_what, y_typeAt, y_localsAt, y_globals, y_globalKind, y_globalFree, y_globalValue, y_entries, y_entriesAt, H, M, y_nest, y_kinds, y_shape, y_gives, y_height, y_dead, y_stack, y_labelAt, y_labelHeight, y_labelGives, y_callModule, y_callFunction, y_callBack, y_callBase, y_callLabels, y_waiting, y_prints)) : wpY_take post (y_count, y_place, y_m, nI q.2, bb_w q.1, y_constant, L, y_top, y_frames, y_invalid, y_sp, y_labels, y_active, y_fuel, y_outcome, y_trappedAt, y_result, y_used, y_waits, y_printed, y_bytes, y_there, y_types, y_typeSig, y_imports, y_functions, y_sig, y_what, y_typeAt, y_localsAt, y_globals, y_globalKind, y_globalFree, y_globalValue, y_entries, y_entriesAt, H, M, y_nest, y_kinds, y_shape, y_gives, y_height, y_dead, y_stack, y_labelAt, y_labelHeight, y_labelGives, y_callModule, y_callFunction, y_callBack, y_callBase, y_callLabels, y_waiting, y_prints) (nI lo) (nI hi) :=
  yr_take C q hq lo hi hl hh h
theorem ym_note {post : SY → Prop} {L a : Int32} {H M : Nat → Int32} (b : Bool) (z : Int32) (hz : z = 0 ∨ z = 1) (P1 : Int32) (w : Nat) (hw : w < 1000) (S : Nat → Prop) (hP : b = true → P1 = nI w) (hL : b = true → lm L S)
    (h : ∀ L', (b = true → lm L' (fun x => S x ∨ (z = 1 ∧ x = w))) → post (y_count, y_place, y_m, a, bb_w b, y_constant, L', y_top, y_frames, y_invalid, y_sp, y_labels, y_active, y_fuel, y_outcome, y_trappedAt, y_result, y_used, y_waits, y_printed, y_bytes, y_there, y_types, y_typeSig, y_imports, y_functions, y_sig, y_what, y_typeAt, y_localsAt, y_globals, y_globalKind, y_globalFree, y_globalValue, y_entries, y_entriesAt, H, M, y_nest, y_kinds, y_shape, y_gives, y_height, y_dead, y_stack, y_labelAt, y_labelHeight, y_labelGives, y_callModule, y_callFunction, y_callBack, y_callBase, y_callLabels, y_waiting, y_prints)) : wpY_note post (y_count, y_place, y_m, a, bb_w b, y_constant, L, y_top, y_frames, y_invalid, y_sp, y_labels, y_active, y_fuel, y_outcome, y_trappedAt, y_result, y_used, y_waits, y_printed, y_bytes, y_there, y_types, y_typeSig, y_imports, y_functions, y_sig, y_what, y_typeAt, y_localsAt, y_globals, y_globalKind, y_globalFree, y_globalValue, y_entries, y_entriesAt, H, M, y_nest, y_kinds, y_shape, y_gives, y_height, y_dead, y_stack, y_labelAt, y_labelHeight, y_labelGives, y_callModule, y_callFunction, y_callBack, y_callBase, y_callLabels, y_waiting, y_prints) z P1 := by
  cases b with
  | false =>
    exact br_c (fun _ => h L (fun z => ff_t z)) (fun _ => br_f (by decide) (h L (fun z => ff_t z)))
  | true =>
    obtain ⟨l, rfl, hl, hd, hf⟩ := hL rfl
    have e := hP rfl
    subst e
    rcases hz with rfl | rfl
    · refine br_t rfl (h _ (fun _ => ⟨l, rfl, hl, hd.imp id Or.inl, fun x hx => ?_⟩))
      rcases hx with hx | ⟨hx, _⟩
      · exact hf x hx
      · exact absurd hx (by decide)
    · refine br_f (by decide) (br_t rfl (pk_le l w (fun y => ?_) (fun y => ?_)))
      · refine h _ (fun _ => ⟨l, rfl, hl, hd.imp id Or.inl, fun x hx => ?_⟩)
        rcases hx with hx | ⟨_, hx⟩
        · exact hf x hx
        · omega
      · refine h _ (fun _ => ⟨w, rfl, by omega, Or.inr (Or.inr ⟨rfl, rfl⟩), fun x hx => ?_⟩)
        rcases hx with hx | ⟨_, hx⟩
        · have := hf x hx; omega
        · omega
theorem ym_129 {post : SY → Prop} {L : Int32} {H : Nat → Int32} {x1 : Int32} {J : Int32 → Int32 → Int32 → Int32 → Int32 → Int32 → Int64 → Int32 → Int32 → Int32 → Int32 → Int32 → Int32 → Int32 → Int32 → Int32 → Int32 → Int64 → Int32 → Int32 → Int32 → (Nat → Int32) → (Nat → Int32) → (Nat → Int32) → (Nat → Int32) → (Nat → Int32) → (Nat → Int32) → (Nat → Int32) → (Nat → Int32) → (Nat → Int32) → (Nat → Int32) → (Nat → Int32) → (Nat → Int32) → (Nat → Int32) → (Nat → Int64) → (Nat → Int32) → (Nat → Int32) → (Nat → Int32) → (Nat → Int32) → (Nat → Int32) → (Nat → Int32) → (Nat → Int32) → (Nat → Int32) → (Nat → Int32) → (Nat → Int32) → (Nat → Int64) → (Nat → Int32) → (Nat → Int32) → (Nat → Int32) → (Nat → Int32) → (Nat → Int32) → (Nat → Int32) → (Nat → Int32) → (Nat → Int32) → (Nat → Int32) → (Nat → Int32) → Prop} (C : cy_ok y_count y_m y_bytes m c n) (off len k2 : Nat) (ho : off < 256) (hl : len ≤ 8) : ∀ r i l (q : Bool × Nat) (M : Nat → Int32), i + r = len → r < l → q.2 ≤ n →
    (∀ M', fr_i (48 * m) (48 * m + 48) M M' → ((rd_n c n 0 255 r q).1 = true → ∀ j, j < 48 → M' (48 * m + j) = if off + i ≤ j ∧ j < off + len then sb_v (c (q.2 + (j - (off + i)))) else M (48 * m + j)) →
      J (nI (k2 + 1)) y_count y_place y_m (nI (rd_n c n 0 255 r q).2) (bb_w (rd_n c n 0 255 r q).1) y_constant L y_top y_frames y_invalid y_sp y_labels y_active y_fuel y_outcome y_trappedAt y_result y_used y_waits y_printed y_bytes y_there y_types y_typeSig y_imports y_functions y_sig y_what y_typeAt y_localsAt y_globals y_globalKind y_globalFree y_globalValue y_entries y_entriesAt H M' y_nest y_kinds y_shape y_gives y_height y_dead y_stack y_labelAt y_labelHeight y_labelGives y_callModule y_callFunction y_callBack y_callBase y_callLabels y_waiting y_prints) →
    wY_readMemory_129 post J x1 (nI k2) (nI off) (nI len) l (nI i) y_count y_place y_m (nI q.2) (bb_w q.1) y_constant L y_top y_frames y_invalid y_sp y_labels y_active y_fuel y_outcome y_trappedAt y_result y_used y_waits y_printed y_bytes y_there y_types y_typeSig y_imports y_functions y_sig y_what y_typeAt y_localsAt y_globals y_globalKind y_globalFree y_globalValue y_entries y_entriesAt H M y_nest y_kinds y_shape y_gives y_height y_dead y_stack y_labelAt y_labelHeight y_labelGives y_callModule y_callFunction y_callBack y_callBase y_callLabels y_waiting y_prints := by
  intro r
  induction r with
  | zero =>
    intro i l q M hi hl2 hq h
    obtain ⟨l, rfl⟩ : ∃ j, l = j + 1 := ⟨l - 1, by omega⟩
    refine pk_le len i (fun _ => nm_r (nI_1 k2) (h M (fun _ _ => rfl) (fun _ j _ => ?_))) (fun z => absurd z (by omega))
    rw [if_neg (by omega)]
  | succ r ih =>
    intro i l q M hi hl2 hq h
    obtain ⟨l, rfl⟩ : ∃ j, l = j + 1 := ⟨l - 1, by omega⟩
    obtain ⟨hn, h140, hm, h3, hb, h256⟩ := id C
    rw [rd_n] at h
    have g1 := (rd_G_tk c n 0 255).1 q hq
    refine pk_le len i (fun z => absurd z (by omega)) (fun _ => ?_)
    refine ym_take C q hq 0 255 (by omega) (by omega) ?_
    have e : nI off + nI i = nI (off + i) := nI_add off i
    have ok : (rd_n c n 0 255 r (rd_tk c n 0 255 q)).1 = true → rd_tk c n 0 255 q = (true, q.2 + 1) ∧ rd_tv c n 0 255 q = c q.2 := by
      intro z
      have z1 := rd_G_tr (rd_G_n c n 0 255 r) z
      rcases rd_tk_or c n 0 255 q with ⟨e1, a⟩ | e1
      · exact ⟨e1, if_pos a⟩
      · rw [e1] at z1; exact ff_t z1
    refine pk_le 48 (off + i) (fun z => nm_r (nI_1 i) ?_) (fun z => ?_) rfl e
    · refine ih (i + 1) l _ M (by omega) (by omega) g1.2 (fun M' f1 f2 => h M' f1 (fun y j hj => ?_))
      rw [f2 y j hj, (ok y).1, if_neg (by omega), if_neg (by omega)]
    · have e2 : (48 * y_m + nI off) + nI i = nI (48 * m + off + i) := by rw [hm, show (48 : Int32) = nI 48 from rfl, pk_mul, nI_add, nI_add]
      refine ⟨pk_in (48 * m + off + i) 144 (by omega) e2, nm_r (show _ = upd M (48 * m + off + i) (sb_v (rd_tv c n 0 255 q)) from by rw [pk_cl (48 * m + off + i) e2, pk_vb]; rfl) (nm_r (nI_1 i) ?_)⟩
      refine ih (i + 1) l _ _ (by omega) (by omega) g1.2 (fun M' f1 f2 => h M' (fun j hj => (f1 j hj).trans (pk_un (by omega))) (fun y j hj => ?_))
      obtain ⟨o1, o2⟩ := ok y
      rw [f2 y j hj, o1, o2]
      dsimp only
      by_cases hj2 : j = off + i
      · rw [if_neg (by omega), if_pos (by omega), show 48 * m + j = 48 * m + off + i by omega, pk_us, show q.2 + (j - (off + i)) = q.2 by omega]
      · rw [pk_un (by omega)]
        by_cases hj3 : off + (i + 1) ≤ j ∧ j < off + len
        · rw [if_pos hj3, if_pos (by omega), show q.2 + 1 + (j - (off + (i + 1))) = q.2 + (j - (off + i)) by omega]
        · rw [if_neg hj3, if_neg (by omega)]
theorem ym_75 {post : SY → Prop} {H : Nat → Int32} (C : cy_ok y_count y_m y_bytes m c n) (N : Nat) (hN : N ≤ 2) : ∀ r i l (q : Bool × Nat) (L : Int32) (M : Nat → Int32) (S : Nat → Prop) (md : Nat → Nat), i + r = N → r < l → q.2 ≤ n →
    (q.1 = true → lm L S) → (q.1 = true → ∀ j, j < 48 → M (48 * m + j) = sb_v (md j)) →
    (∀ L' M', fr_i (48 * m) (48 * m + 48) M M' → ((rd_it (rd_D c n) r q).1 = true → lm L' (fun x => S x ∨ md_S c n r q x) ∧ ∀ j, j < 48 → M' (48 * m + j) = sb_v (md_k c n r q md j)) →
      post (y_count, y_place, y_m, nI (rd_it (rd_D c n) r q).2, bb_w (rd_it (rd_D c n) r q).1, y_constant, L', y_top, y_frames, y_invalid, y_sp, y_labels, y_active, y_fuel, y_outcome, y_trappedAt, y_result, y_used, y_waits, y_printed, y_bytes, y_there, y_types, y_typeSig, y_imports, y_functions, y_sig, y_what, y_typeAt, y_localsAt, y_globals, y_globalKind, y_globalFree, y_globalValue, y_entries, y_entriesAt, H, M', y_nest, y_kinds, y_shape, y_gives, y_height, y_dead, y_stack, y_labelAt, y_labelHeight, y_labelGives, y_callModule, y_callFunction, y_callBack, y_callBase, y_callLabels, y_waiting, y_prints)) →
    wY_readMemory_75 post (nI N) l (nI i) y_count y_place y_m (nI q.2) (bb_w q.1) y_constant L y_top y_frames y_invalid y_sp y_labels y_active y_fuel y_outcome y_trappedAt y_result y_used y_waits y_printed y_bytes y_there y_types y_typeSig y_imports y_functions y_sig y_what y_typeAt y_localsAt y_globals y_globalKind y_globalFree y_globalValue y_entries y_entriesAt H M y_nest y_kinds y_shape y_gives y_height y_dead y_stack y_labelAt y_labelHeight y_labelGives y_callModule y_callFunction y_callBack y_callBase y_callLabels y_waiting y_prints := by
  intro r
  induction r with
  | zero =>
    intro i l q L M S md hi hl hq hL hM h
    obtain ⟨l, rfl⟩ : ∃ j, l = j + 1 := ⟨l - 1, by omega⟩
    refine pk_le N i (fun _ => h L M (fun _ _ => rfl) (fun y => ⟨lm_ext (hL y) (fun x => ⟨Or.inl, fun z => z.elim id (fun ⟨i, hi, _⟩ => absurd hi (by omega))⟩), hM y⟩)) (fun z => absurd z (by omega))
  | succ r ih =>
    intro i l q L M S md hi hl hq hL hM h
    obtain ⟨l, rfl⟩ : ∃ j, l = j + 1 := ⟨l - 1, by omega⟩
    obtain ⟨hn, h140, hm, h3, hb, h256⟩ := id C
    rw [rd_it] at h
    have g1 := (rd_G_tk c n 0 255).1 q hq
    have g2 := (rd_G_tk c n 0 8).1 _ g1.2
    have g3 := (rd_G_D c n).1 q hq
    have v1 := (rd_tv_le (c := c) (n := n) (lo := 0) (hi := 255) (q := q) (by omega)).2
    have v2 := (rd_tv_le (c := c) (n := n) (lo := 0) (hi := 8) (q := rd_tk c n 0 255 q) (by omega)).2
    refine pk_le N i (fun z => absurd z (by omega)) (fun _ => ?_)
    refine ym_take C q hq 0 255 (by omega) (by omega) (nm_e ?_)
    refine ym_take C _ g1.2 0 8 (by omega) (by omega) ?_
    have ok : (rd_tk c n 0 8 (rd_tk c n 0 255 q)).1 = true → q.1 = true ∧ rd_tk c n 0 255 q = (true, q.2 + 1) ∧ rd_tv c n 0 255 q = c q.2 ∧ rd_tv c n 0 8 (rd_tk c n 0 255 q) = c (q.2 + 1) := by
      intro z
      rcases rd_tk_or c n 0 8 (rd_tk c n 0 255 q) with ⟨e1, a⟩ | e1
      · rcases rd_tk_or c n 0 255 q with ⟨e2, b⟩ | e2
        · refine ⟨b.1, e2, if_pos b, ?_⟩
          rw [show rd_tv c n 0 8 (rd_tk c n 0 255 q) = c (rd_tk c n 0 255 q).2 from if_pos a, e2]
        · rw [e2] at a; exact ff_t a.1
      · rw [e1] at z; exact ff_t z
    have k121 : ∀ z : Int32, (z = 0 ∨ z = 1) → ((rd_tk c n 0 8 (rd_tk c n 0 255 q)).1 = true → (z = 1 ↔ 48 < c q.2 + c (q.2 + 1))) →
        wY_readMemory_121 post (wY_readMemory_75 post (nI N) l) (nI N) (nI i) (nI (rd_tv c n 0 255 q)) (nI (rd_tk c n 0 255 q).2 - 1) (nI (rd_tv c n 0 8 (rd_tk c n 0 255 q))) z y_count y_place y_m (nI (rd_tk c n 0 8 (rd_tk c n 0 255 q)).2) (bb_w (rd_tk c n 0 8 (rd_tk c n 0 255 q)).1) y_constant L y_top y_frames y_invalid y_sp y_labels y_active y_fuel y_outcome y_trappedAt y_result y_used y_waits y_printed y_bytes y_there y_types y_typeSig y_imports y_functions y_sig y_what y_typeAt y_localsAt y_globals y_globalKind y_globalFree y_globalValue y_entries y_entriesAt H M y_nest y_kinds y_shape y_gives y_height y_dead y_stack y_labelAt y_labelHeight y_labelGives y_callModule y_callFunction y_callBack y_callBase y_callLabels y_waiting y_prints := by
      intro z hz hzi
      refine ym_note (rd_tk c n 0 8 (rd_tk c n 0 255 q)).1 z hz _ q.2 (by omega) S (fun y => ?_) (fun y => hL (ok y).1) (fun L' hL' => ⟨rd_tv c n 0 8 (rd_tk c n 0 255 q) + 1, ?_⟩)
      · rw [(ok y).2.1]; exact nI_pred q.2
      · refine ym_129 C _ _ i (by omega) v2 _ 0 _ _ M (Nat.zero_add _) (by omega) g2.2 (fun M' f1 f2 => ?_)
        have eD : rd_n c n 0 255 (rd_tv c n 0 8 (rd_tk c n 0 255 q)) (rd_tk c n 0 8 (rd_tk c n 0 255 q)) = rd_D c n q := rfl
        rw [eD] at f2 ⊢
        refine ih (i + 1) l (rd_D c n q) L' M' (fun x => S x ∨ (z = 1 ∧ x = q.2)) (md_w c q.2 md) (by omega) (by omega) g3.2 (fun y => hL' (rd_G_tr (rd_G_n c n 0 255 _) y)) (fun y j hj => ?_) (fun L2 M2 k1 k2 => h L2 M2 (fun j hj => (k1 j hj).trans (f1 j hj)) (fun y => ?_))
        · obtain ⟨o1, o2, o3, o4⟩ := ok (rd_G_tr (rd_G_n c n 0 255 _) y)
          have o5 : rd_tk c n 0 8 (rd_tk c n 0 255 q) = (true, q.2 + 2) := by
            rcases rd_tk_or c n 0 8 (rd_tk c n 0 255 q) with ⟨e1, a⟩ | e1
            · rw [e1, o2]
            · exact ff_t ((congrArg Prod.fst e1).symm.trans (rd_G_tr (rd_G_n c n 0 255 _) y))
          rw [f2 y j hj, o3, o4, o5, md_w]
          dsimp only
          rw [Nat.add_zero]
          by_cases hj2 : c q.2 ≤ j ∧ j < c q.2 + c (q.2 + 1)
          · rw [if_pos hj2, if_pos hj2]
          · rw [if_neg hj2, if_neg hj2]; exact hM o1 j hj
        · obtain ⟨y1, y2⟩ := k2 y
          have yD := rd_G_tr (rd_G_it (rd_G_D c n) r) y
          have hz2 := hzi (rd_G_tr (rd_G_n c n 0 255 _) yD)
          refine ⟨lm_ext y1 (fun x => ⟨?_, ?_⟩), y2⟩
          · rintro ((a | ⟨a, rfl⟩) | ⟨j, a1, a2, a3⟩)
            · exact Or.inl a
            · exact Or.inr ⟨0, by omega, rfl, hz2.mp a⟩
            · exact Or.inr ⟨j + 1, by omega, a2, a3⟩
          · rintro (a | ⟨j, a1, a2, a3⟩)
            · exact Or.inl (Or.inl a)
            · cases j with
              | zero =>
                have a2' : x = q.2 := a2
                subst a2'
                exact Or.inl (Or.inr ⟨hz2.mpr a3, rfl⟩)
              | succ j => exact Or.inr ⟨j, by omega, a2, a3⟩
    have e : nI (rd_tv c n 0 255 q) + nI (rd_tv c n 0 8 (rd_tk c n 0 255 q)) = nI (rd_tv c n 0 255 q + rd_tv c n 0 8 (rd_tk c n 0 255 q)) := nI_add _ _
    refine pk_le (rd_tv c n 0 255 q + rd_tv c n 0 8 (rd_tk c n 0 255 q)) 48 (fun z => k121 0 (Or.inl rfl) (fun y => ?_)) (fun z => k121 1 (Or.inr rfl) (fun y => ?_)) e rfl
    · obtain ⟨o1, o2, o3, o4⟩ := ok y
      rw [o3, o4] at z
      exact ⟨fun a => absurd a (by decide), fun a => absurd a (by omega)⟩
    · obtain ⟨o1, o2, o3, o4⟩ := ok y
      rw [o3, o4] at z
      exact ⟨fun _ => z, fun _ => rfl⟩
theorem ym_26 {post : SY → Prop} {H : Nat → Int32} {a w L : Int32} (hm : y_m = nI m) (h3 : m < 3) : ∀ r i l (M : Nat → Int32), i + r = 48 → r < l →
    (∀ M', fr_i (48 * m) (48 * m + 48) M M' → (∀ j, i ≤ j → j < 48 → M' (48 * m + j) = 0) → (∀ j, j < i → M' (48 * m + j) = M (48 * m + j)) → wY_readMemory_26 post y_count y_place y_m a w y_constant L y_top y_frames y_invalid y_sp y_labels y_active y_fuel y_outcome y_trappedAt y_result y_used y_waits y_printed 1 48 y_bytes y_there y_types y_typeSig y_imports y_functions y_sig y_what y_typeAt y_localsAt y_globals y_globalKind y_globalFree y_globalValue y_entries y_entriesAt H M' y_nest y_kinds y_shape y_gives y_height y_dead y_stack y_labelAt y_labelHeight y_labelGives y_callModule y_callFunction y_callBack y_callBase y_callLabels y_waiting y_prints) →
    wY_readMemory_26 post y_count y_place y_m a w y_constant L y_top y_frames y_invalid y_sp y_labels y_active y_fuel y_outcome y_trappedAt y_result y_used y_waits y_printed l (nI i) y_bytes y_there y_types y_typeSig y_imports y_functions y_sig y_what y_typeAt y_localsAt y_globals y_globalKind y_globalFree y_globalValue y_entries y_entriesAt H M y_nest y_kinds y_shape y_gives y_height y_dead y_stack y_labelAt y_labelHeight y_labelGives y_callModule y_callFunction y_callBack y_callBase y_callLabels y_waiting y_prints := by
  intro r
  induction r with
  | zero =>
    intro i l M hi hl h
    obtain ⟨l, rfl⟩ : ∃ j, l = j + 1 := ⟨l - 1, by omega⟩
    have h' := h M (fun _ _ => rfl) (fun j a b => absurd a (by omega)) (fun _ _ => rfl)
    have hi' : i = 48 := by omega
    subst hi'
    exact pk_le 48 48 (fun z => (h'.1 (nI_le (a := 48) (b := 48) z (by decide)))) (fun z => absurd z (by omega))
  | succ r ih =>
    intro i l M hi hl h
    obtain ⟨l, rfl⟩ : ∃ j, l = j + 1 := ⟨l - 1, by omega⟩
    refine pk_le 48 i (fun z => absurd z (by omega)) (fun _ => ?_)
    have e : 48 * y_m + nI i = nI (48 * m + i) := by rw [hm, show (48 : Int32) = nI 48 from rfl, pk_mul, nI_add]
    refine ⟨pk_in (48 * m + i) 144 (by omega) e, nm_r (show _ = upd M (48 * m + i) 0 from by rw [pk_cl (48 * m + i) e]; exact congrArg _ (by rw [vp_nar_byte]; rfl)) (nm_r (nI_1 i) ?_)⟩
    refine ih (i + 1) l _ (by omega) (by omega) (fun M' f1 f2 f3 => h M' (fun j hj => (f1 j hj).trans (pk_un (by omega))) (fun j a b => ?_) (fun j a => (f3 j (by omega)).trans (pk_un (by omega))))
    by_cases hj : j = i
    · subst hj; rw [f3 j (by omega), pk_us]
    · exact f2 j (by omega) b
theorem ym_mem {post : SY → Prop} {L : Int32} {H M : Nat → Int32} (C : cy_ok y_count y_m y_bytes m c n) (q : Bool × Nat) (hq : q.2 ≤ n) (S : Nat → Prop) (hL : q.1 = true → lm L S)
    (h : ∀ L' H' M', (∀ j, j ≠ m → H' j = H j) → fr_i (48 * m) (48 * m + 48) M M' → ((rd_M c n q).1 = true → H' m = nI (c q.2) ∧
        lm L' (fun x => S x ∨ (c q.2 = 1 ∧ md_S c n (c (q.2 + 1)) (true, q.2 + 2) x)) ∧ ∀ j, j < 48 → M' (48 * m + j) = sb_v (if c q.2 = 1 then md_k c n (c (q.2 + 1)) (true, q.2 + 2) (fun _ => 0) j else 0)) →
      post (y_count, y_place, y_m, nI (rd_M c n q).2, bb_w (rd_M c n q).1, y_constant, L', y_top, y_frames, y_invalid, y_sp, y_labels, y_active, y_fuel, y_outcome, y_trappedAt, y_result, y_used, y_waits, y_printed, y_bytes, y_there, y_types, y_typeSig, y_imports, y_functions, y_sig, y_what, y_typeAt, y_localsAt, y_globals, y_globalKind, y_globalFree, y_globalValue, y_entries, y_entriesAt, H', M', y_nest, y_kinds, y_shape, y_gives, y_height, y_dead, y_stack, y_labelAt, y_labelHeight, y_labelGives, y_callModule, y_callFunction, y_callBack, y_callBase, y_callLabels, y_waiting, y_prints)) : wpY_readMemory post (y_count, y_place, y_m, nI q.2, bb_w q.1, y_constant, L, y_top, y_frames, y_invalid, y_sp, y_labels, y_active, y_fuel, y_outcome, y_trappedAt, y_result, y_used, y_waits, y_printed, y_bytes, y_there, y_types, y_typeSig, y_imports, y_functions, y_sig, y_what, y_typeAt, y_localsAt, y_globals, y_globalKind, y_globalFree, y_globalValue, y_entries, y_entriesAt, H, M, y_nest, y_kinds, y_shape, y_gives, y_height, y_dead, y_stack, y_labelAt, y_labelHeight, y_labelGives, y_callModule, y_callFunction, y_callBack, y_callBase, y_callLabels, y_waiting, y_prints) := by
  obtain ⟨hn, h140, hm, h3, hb, h256⟩ := id C
  have g1 := (rd_G_tk c n 0 1).1 q hq
  have g2 := (rd_G_tk c n 0 2).1 _ g1.2
  have v1 := (rd_tv_le (c := c) (n := n) (lo := 0) (hi := 1) (q := q) (by omega)).2
  have ok : (rd_tk c n 0 1 q).1 = true → q.1 = true ∧ rd_tk c n 0 1 q = (true, q.2 + 1) ∧ rd_tv c n 0 1 q = c q.2 := by
    intro z
    rcases rd_tk_or c n 0 1 q with ⟨e1, a⟩ | e1
    · exact ⟨a.1, e1, if_pos a⟩
    · rw [e1] at z; exact ff_t z
  have em : y_m.toNatClampNeg = m := by rw [hm]; exact nI_clamp (by omega)
  unfold wpY_readMemory
  refine ym_take C q hq 0 1 (by omega) (by omega) ?_
  refine pk_eq (rd_tv c n 0 1 q) 1 (fun z => ⟨pk_in m 3 h3 hm, nm_r (show _ = upd H m (nI 1) from by rw [em]; rfl) ⟨49, ?_⟩⟩) (fun z => ⟨pk_in m 3 h3 hm, nm_r (show _ = upd H m (nI 0) from by rw [em]; rfl) ⟨49, ?_⟩⟩)
  · refine ym_26 hm h3 48 0 49 M (by omega) (by omega) (fun M1 f1 f2 _ => br_t (by decide) ⟨pk_in m 3 h3 hm, ?_⟩)
    have eH : upd H m (nI 1) y_m.toNatClampNeg = nI 1 := by rw [em]; exact pk_us
    refine br_f (by rw [eH]; decide) ?_
    rw [rd_M, if_pos z] at h
    refine ym_take C _ g1.2 0 2 (by omega) (by omega) ⟨rd_tv c n 0 2 (rd_tk c n 0 1 q) + 1, ?_⟩
    have v2 := (rd_tv_le (c := c) (n := n) (lo := 0) (hi := 2) (q := rd_tk c n 0 1 q) (by omega)).2
    have ok2 : (rd_tk c n 0 2 (rd_tk c n 0 1 q)).1 = true → q.1 = true ∧ rd_tk c n 0 2 (rd_tk c n 0 1 q) = (true, q.2 + 2) ∧ c q.2 = 1 ∧ rd_tv c n 0 2 (rd_tk c n 0 1 q) = c (q.2 + 1) := by
      intro y
      rcases rd_tk_or c n 0 2 (rd_tk c n 0 1 q) with ⟨e1, a⟩ | e1
      · obtain ⟨o1, o2, o3⟩ := ok a.1
        refine ⟨o1, ?_, by omega, ?_⟩
        · rw [e1, o2]
        · rw [show rd_tv c n 0 2 (rd_tk c n 0 1 q) = c (rd_tk c n 0 1 q).2 from if_pos a, o2]
      · rw [e1] at y; exact ff_t y
    refine ym_75 C _ v2 _ 0 _ _ L M1 S (fun _ => 0) (by omega) (by omega) g2.2 (fun y => hL (ok2 y).1) (fun _ j hj => f2 j (by omega) hj) (fun L' M' k1 k2 => h L' _ M' (fun j hj => pk_un hj) (fun j hj => (k1 j hj).trans (f1 j hj)) (fun y => ?_))
    obtain ⟨y1, y2⟩ := k2 y
    obtain ⟨o1, o2, o3, o4⟩ := ok2 (rd_G_tr (rd_G_it (rd_G_D c n) _) y)
    rw [o2, o4] at y1 y2
    refine ⟨by rw [pk_us, o3], lm_ext y1 (fun x => ⟨fun z => z.imp id (fun z => ⟨o3, z⟩), fun z => z.imp id (fun z => z.2)⟩), fun j hj => ?_⟩
    rw [y2 j hj, if_pos o3]
  · have z0 : rd_tv c n 0 1 q = 0 := by omega
    refine ym_26 hm h3 48 0 49 M (by omega) (by omega) (fun M1 f1 f2 _ => br_t (by decide) ⟨pk_in m 3 h3 hm, ?_⟩)
    have eH : upd H m (nI 0) y_m.toNatClampNeg = nI 0 := by rw [em]; exact pk_us
    rw [rd_M, if_neg z] at h
    refine br_t (by rw [eH]; rfl) (h L _ M1 (fun j hj => pk_un hj) f1 (fun y => ?_))
    obtain ⟨o1, o2, o3⟩ := ok y
    have o4 : c q.2 = 0 := by omega
    refine ⟨by rw [pk_us, o4], lm_ext (hL o1) (fun x => ⟨Or.inl, fun z => z.elim id (fun z => absurd z.1 (by omega))⟩), fun j hj => ?_⟩
    rw [f2 j (by omega) hj, if_neg (by omega)]; rfl
end
