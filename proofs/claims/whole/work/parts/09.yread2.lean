def sg_l (c : Nat → Nat) : Nat → Nat → Nat → Nat → Nat
  | 0, _, _, x => x
  | r + 1, i, p, x => sg_l c r (i + 1) (p + 1) (x + c p * 4 ^ (i + 1))
def sg (c : Nat → Nat) (p : Nat) : Nat := sg_l c (c p) 0 (p + 1) (c p) + (if c (p + 1 + c p) = 0 then 0 else c (p + 1 + c p + 1) * 256)
theorem sg_or : ∀ i, i < 3 → ∀ x, x < 64 → ∀ b, b < 3 → x < 4 ^ (i + 1) → nI x ||| (nI b <<< ((2 + 2 * nI i) &&& 31)) = nI (x + b * 4 ^ (i + 1)) := by decide +kernel
theorem sg_or8 : ∀ x, x < 256 → ∀ b, b < 3 → nI x ||| (nI b <<< ((8 : Int32) &&& 31)) = nI (x + b * 256) := by decide +kernel
section
variable {y_count y_place y_m y_pos y_wrong y_least y_top y_frames y_invalid y_sp y_labels y_active y_fuel y_outcome y_trappedAt y_used y_waits y_printed : Int32} {y_constant y_result : Int64} {y_bytes y_there y_types y_typeSig y_imports y_functions y_sig y_what y_typeAt y_localsAt y_globals y_globalKind y_globalFree y_entries y_entriesAt y_hasMemory y_memory y_nest y_kinds y_shape y_gives y_height y_dead y_labelAt y_labelHeight y_labelGives y_callModule y_callFunction y_callBack y_callBase y_callLabels y_waiting y_prints : Nat → Int32} {y_globalValue y_stack : Nat → Int64}
variable {m : Nat} {c : Nat → Nat} {n p : Nat} {k : Int64}
theorem yr_type_l {post : Int32 → SY → Prop} (C : cy_ok y_count y_m y_bytes m c n) (P : Nat) (hP : P ≤ 3) : ∀ r i l (q : Bool × Nat) (x : Int32), i + r = P → r < l → q.2 ≤ n →
    (∀ s', ((rd_K c n 1 (rd_n c n 1 2 r q)).1 = true → ∀ xv, x = nI xv → xv < 4 ^ (i + 1) → s' = nI (sg_l c r i q.2 xv + (if c (q.2 + r) = 0 then 0 else c (q.2 + r + 1) * 256))) →
      post s' (y_count, y_place, y_m, nI (rd_K c n 1 (rd_n c n 1 2 r q)).2, bb_w (rd_K c n 1 (rd_n c n 1 2 r q)).1, k, y_least, y_top, y_frames, y_invalid, y_sp, y_labels, y_active, y_fuel, y_outcome, y_trappedAt, y_result, y_used, y_waits, y_printed, y_bytes, y_there, y_types, y_typeSig, y_imports, y_functions, y_sig, y_what, y_typeAt, y_localsAt, y_globals, y_globalKind, y_globalFree, y_globalValue, y_entries, y_entriesAt, y_hasMemory, y_memory, y_nest, y_kinds, y_shape, y_gives, y_height, y_dead, y_stack, y_labelAt, y_labelHeight, y_labelGives, y_callModule, y_callFunction, y_callBack, y_callBase, y_callLabels, y_waiting, y_prints)) →
    wY_takeType_11 post (nI P) l x (nI i) y_count y_place y_m (nI q.2) (bb_w q.1) k y_least y_top y_frames y_invalid y_sp y_labels y_active y_fuel y_outcome y_trappedAt y_result y_used y_waits y_printed y_bytes y_there y_types y_typeSig y_imports y_functions y_sig y_what y_typeAt y_localsAt y_globals y_globalKind y_globalFree y_globalValue y_entries y_entriesAt y_hasMemory y_memory y_nest y_kinds y_shape y_gives y_height y_dead y_stack y_labelAt y_labelHeight y_labelGives y_callModule y_callFunction y_callBack y_callBase y_callLabels y_waiting y_prints := by
  intro r
  induction r with
  | zero =>
    intro i l q x hi hl hq h
    obtain ⟨l, rfl⟩ : ∃ j, l = j + 1 := ⟨l - 1, by omega⟩
    rw [show rd_n c n 1 2 0 q = q from rfl] at h
    have g1 := (rd_G_tk c n 0 1).1 q hq
    refine pk_le P i (fun _ => ?_) (fun z => absurd z (by omega))
    refine yr_take C q hq 0 1 (by omega) (by omega) ?_
    have hv := (rd_tv_le (c := c) (n := n) (lo := 0) (hi := 1) (q := q) (by omega)).2
    refine pk_eq (rd_tv c n 0 1 q) 0 (fun z => ?_) (fun z => ?_)
    · rw [rd_K, z] at h
      refine h x (fun ok xv e _ => ?_)
      rcases rd_tk_or c n 0 1 q with ⟨e1, a1, a2, a3, a4⟩ | e1
      · have e2 : rd_tv c n 0 1 q = c q.2 := if_pos ⟨a1, a2, a3, a4⟩
        rw [Nat.add_zero, ← e2, z, if_pos rfl, e]; rfl
      · rw [show rd_n c n 1 2 0 (rd_tk c n 0 1 q) = rd_tk c n 0 1 q from rfl, e1] at ok
        exact ff_t ok
    · have z1 : rd_tv c n 0 1 q = 1 := by omega
      rw [rd_K, z1] at h
      refine yr_take C _ g1.2 1 2 (by omega) (by omega) ?_
      refine h _ (fun ok xv e hxv => ?_)
      have ok' : (rd_tk c n 1 2 (rd_tk c n 0 1 q)).1 = true := ok
      rcases rd_tk_or c n 1 2 (rd_tk c n 0 1 q) with ⟨e1, a1, a2, a3, a4⟩ | e1
      · rcases rd_tk_or c n 0 1 q with ⟨e2, b1, b2, b3, b4⟩ | e2
        · have e3 : rd_tv c n 0 1 q = c q.2 := if_pos ⟨b1, b2, b3, b4⟩
          have e4 : rd_tv c n 1 2 (rd_tk c n 0 1 q) = c (q.2 + 1) := by
            rw [e2] at a1 a2 a3 a4 ⊢
            exact if_pos ⟨a1, a2, a3, a4⟩
          rw [e2] at a3 a4
          dsimp only at a3 a4
          rw [e4, e, sg_or8 xv (Nat.lt_of_lt_of_le hxv (Nat.le_trans (Nat.pow_le_pow_right (by omega) (show i + 1 ≤ 4 by omega)) (by decide))) _ (by omega), if_neg (show ¬ c (q.2 + 0) = 0 by rw [Nat.add_zero]; omega)]; rfl
        · rw [e2] at a1; exact ff_t a1
      · rw [e1] at ok'; exact ff_t ok'
  | succ r ih =>
    intro i l q x hi hl hq h
    obtain ⟨l, rfl⟩ : ∃ j, l = j + 1 := ⟨l - 1, by omega⟩
    rw [rd_n] at h
    have g1 := (rd_G_tk c n 1 2).1 q hq
    refine pk_le P i (fun z => absurd z (by omega)) (fun _ => ?_)
    refine yr_take C q hq 1 2 (by omega) (by omega) (nm_e (nm_r (nI_1 i) ?_))
    refine ih (i + 1) l (rd_tk c n 1 2 q) _ (by omega) (by omega) g1.2 (fun s' hs => h s' (fun ok xv e hxv => ?_))
    have ok1 := rd_G_tr (rd_G_n c n 1 2 r) (rd_G_tr (rd_G_K c n 1) ok)
    rcases rd_tk_or c n 1 2 q with ⟨e1, a1, a2, a3, a4⟩ | e1
    · have e2 : rd_tv c n 1 2 q = c q.2 := if_pos ⟨a1, a2, a3, a4⟩
      have h4 : 4 ^ (i + 1 + 1) = 4 * 4 ^ (i + 1) := by rw [Nat.pow_succ]; omega
      have := hs ok (xv + c q.2 * 4 ^ (i + 1)) (by rw [e2, e, sg_or i (by omega) xv (Nat.lt_of_lt_of_le hxv (Nat.le_trans (Nat.pow_le_pow_right (by omega) (show i + 1 ≤ 3 by omega)) (by decide))) _ (by omega) hxv]) (by
        have : c q.2 * 4 ^ (i + 1) ≤ 2 * 4 ^ (i + 1) := Nat.mul_le_mul_right _ a4
        omega)
      rw [e1] at this
      dsimp only at this
      rw [this, show q.2 + 1 + r = q.2 + (r + 1) by omega]; rfl
    · rw [e1] at ok1; exact ff_t ok1
theorem yr_type {post : Int32 → SY → Prop} (C : cy_ok y_count y_m y_bytes m c n) (q : Bool × Nat) (hq : q.2 ≤ n)
    (h : ∀ s', ((rd_T c n q).1 = true → s' = nI (sg c q.2)) → post s' (y_count, y_place, y_m, nI (rd_T c n q).2, bb_w (rd_T c n q).1, k, y_least, y_top, y_frames, y_invalid, y_sp, y_labels, y_active, y_fuel, y_outcome, y_trappedAt, y_result, y_used, y_waits, y_printed, y_bytes, y_there, y_types, y_typeSig, y_imports, y_functions, y_sig, y_what, y_typeAt, y_localsAt, y_globals, y_globalKind, y_globalFree, y_globalValue, y_entries, y_entriesAt, y_hasMemory, y_memory, y_nest, y_kinds, y_shape, y_gives, y_height, y_dead, y_stack, y_labelAt, y_labelHeight, y_labelGives, y_callModule, y_callFunction, y_callBack, y_callBase, y_callLabels, y_waiting, y_prints)) : wpY_takeType post (y_count, y_place, y_m, nI q.2, bb_w q.1, k, y_least, y_top, y_frames, y_invalid, y_sp, y_labels, y_active, y_fuel, y_outcome, y_trappedAt, y_result, y_used, y_waits, y_printed, y_bytes, y_there, y_types, y_typeSig, y_imports, y_functions, y_sig, y_what, y_typeAt, y_localsAt, y_globals, y_globalKind, y_globalFree, y_globalValue, y_entries, y_entriesAt, y_hasMemory, y_memory, y_nest, y_kinds, y_shape, y_gives, y_height, y_dead, y_stack, y_labelAt, y_labelHeight, y_labelGives, y_callModule, y_callFunction, y_callBack, y_callBase, y_callLabels, y_waiting, y_prints) := by
  have g1 := (rd_G_tk c n 0 3).1 q hq
  have hv := (rd_tv_le (c := c) (n := n) (lo := 0) (hi := 3) (q := q) (by omega)).2
  unfold wpY_takeType
  refine yr_take C q hq 0 3 (by omega) (by omega) ?_
  refine ⟨rd_tv c n 0 3 q + 1, yr_type_l C (rd_tv c n 0 3 q) hv (rd_tv c n 0 3 q) 0 _ (rd_tk c n 0 3 q) _ (by omega) (by omega) g1.2 (fun s' hs => h s' (fun ok => ?_))⟩
  have ok1 := rd_G_tr (rd_G_n c n 1 2 _) (rd_G_tr (rd_G_K c n 1) ok)
  rcases rd_tk_or c n 0 3 q with ⟨e1, a1, a2, a3, a4⟩ | e1
  · have e2 : rd_tv c n 0 3 q = c q.2 := if_pos ⟨a1, a2, a3, a4⟩
    have := hs ok _ rfl (by rw [e2]; omega)
    rw [e1, e2] at this
    exact this
  · rw [e1] at ok1; exact ff_t ok1
theorem yr_n_l {post : SY → Prop} (C : cy_ok y_count y_m y_bytes m c n) (K : Nat) (hK : K ≤ 4) : ∀ r i l (q : Bool × Nat), i + r = K + 1 → r < l → q.2 ≤ n → post (y_count, y_place, y_m, nI (rd_n c n 0 255 r q).2, bb_w (rd_n c n 0 255 r q).1, k, y_least, y_top, y_frames, y_invalid, y_sp, y_labels, y_active, y_fuel, y_outcome, y_trappedAt, y_result, y_used, y_waits, y_printed, y_bytes, y_there, y_types, y_typeSig, y_imports, y_functions, y_sig, y_what, y_typeAt, y_localsAt, y_globals, y_globalKind, y_globalFree, y_globalValue, y_entries, y_entriesAt, y_hasMemory, y_memory, y_nest, y_kinds, y_shape, y_gives, y_height, y_dead, y_stack, y_labelAt, y_labelHeight, y_labelGives, y_callModule, y_callFunction, y_callBack, y_callBase, y_callLabels, y_waiting, y_prints) →
    wY_takeRest_35 post (nI K) l (nI i) y_count y_place y_m (nI q.2) (bb_w q.1) k y_least y_top y_frames y_invalid y_sp y_labels y_active y_fuel y_outcome y_trappedAt y_result y_used y_waits y_printed y_bytes y_there y_types y_typeSig y_imports y_functions y_sig y_what y_typeAt y_localsAt y_globals y_globalKind y_globalFree y_globalValue y_entries y_entriesAt y_hasMemory y_memory y_nest y_kinds y_shape y_gives y_height y_dead y_stack y_labelAt y_labelHeight y_labelGives y_callModule y_callFunction y_callBack y_callBase y_callLabels y_waiting y_prints := by
  intro r
  induction r with
  | zero =>
    intro i l q hi hl hq h
    obtain ⟨l, rfl⟩ : ∃ j, l = j + 1 := ⟨l - 1, by omega⟩
    exact pk_lt K i (fun _ => h) (fun z => absurd z (by omega))
  | succ r ih =>
    intro i l q hi hl hq h
    obtain ⟨l, rfl⟩ : ∃ j, l = j + 1 := ⟨l - 1, by omega⟩
    refine pk_lt K i (fun z => absurd z (by omega)) (fun _ => ?_)
    refine yr_take C q hq 0 255 (by omega) (by omega) (nm_r (nI_1 i) ?_)
    exact ih (i + 1) l _ (by omega) (by omega) ((rd_G_tk c n 0 255).1 q hq).2 h
theorem yr_rest {post : SY → Prop} (C : cy_ok y_count y_m y_bytes m c n) (op : Nat) (hop : op < 256) (q : Bool × Nat) (hq : q.2 ≤ n)
    (h : ∀ k', ((rd_R c n op q).1 = true → op = 20 ∨ op = 21 → k' = cv c (op - 19) 10 q.2 0 0) → (op ≠ 20 → op ≠ 21 → k' = k) → post (y_count, y_place, y_m, nI (rd_R c n op q).2, bb_w (rd_R c n op q).1, k', y_least, y_top, y_frames, y_invalid, y_sp, y_labels, y_active, y_fuel, y_outcome, y_trappedAt, y_result, y_used, y_waits, y_printed, y_bytes, y_there, y_types, y_typeSig, y_imports, y_functions, y_sig, y_what, y_typeAt, y_localsAt, y_globals, y_globalKind, y_globalFree, y_globalValue, y_entries, y_entriesAt, y_hasMemory, y_memory, y_nest, y_kinds, y_shape, y_gives, y_height, y_dead, y_stack, y_labelAt, y_labelHeight, y_labelGives, y_callModule, y_callFunction, y_callBack, y_callBase, y_callLabels, y_waiting, y_prints)) :
    wpY_takeRest post (y_count, y_place, y_m, nI q.2, bb_w q.1, k, y_least, y_top, y_frames, y_invalid, y_sp, y_labels, y_active, y_fuel, y_outcome, y_trappedAt, y_result, y_used, y_waits, y_printed, y_bytes, y_there, y_types, y_typeSig, y_imports, y_functions, y_sig, y_what, y_typeAt, y_localsAt, y_globals, y_globalKind, y_globalFree, y_globalValue, y_entries, y_entriesAt, y_hasMemory, y_memory, y_nest, y_kinds, y_shape, y_gives, y_height, y_dead, y_stack, y_labelAt, y_labelHeight, y_labelGives, y_callModule, y_callFunction, y_callBack, y_callBase, y_callLabels, y_waiting, y_prints) (nI op) := by
  have w129 : ¬ (2 ≤ op ∧ op ≤ 4) → op ≠ 9 → op ≠ 20 → op ≠ 21 → rd_ho op → wY_takeRest_129 post y_count y_place y_m (nI q.2) (bb_w q.1) k y_least y_top y_frames y_invalid y_sp y_labels y_active y_fuel y_outcome y_trappedAt y_result y_used y_waits y_printed y_bytes y_there y_types y_typeSig y_imports y_functions y_sig y_what y_typeAt y_localsAt y_globals y_globalKind y_globalFree y_globalValue y_entries y_entriesAt y_hasMemory y_memory y_nest y_kinds y_shape y_gives y_height y_dead y_stack y_labelAt y_labelHeight y_labelGives y_callModule y_callFunction y_callBack y_callBase y_callLabels y_waiting y_prints := by
    intro a1 a2 a3 a4 a5
    have h' := h k (fun _ z => absurd z (by omega)) (fun _ _ => rfl)
    rw [rd_R, if_neg a1, if_neg a2, if_neg a3, if_neg a4, if_pos a5] at h'
    exact yr_take C q hq 0 255 (by omega) (by omega) h'
  have wno : ¬ (2 ≤ op ∧ op ≤ 4) → op ≠ 9 → op ≠ 20 → op ≠ 21 → ¬ rd_ho op → post (y_count, y_place, y_m, nI q.2, bb_w q.1, k, y_least, y_top, y_frames, y_invalid, y_sp, y_labels, y_active, y_fuel, y_outcome, y_trappedAt, y_result, y_used, y_waits, y_printed, y_bytes, y_there, y_types, y_typeSig, y_imports, y_functions, y_sig, y_what, y_typeAt, y_localsAt, y_globals, y_globalKind, y_globalFree, y_globalValue, y_entries, y_entriesAt, y_hasMemory, y_memory, y_nest, y_kinds, y_shape, y_gives, y_height, y_dead, y_stack, y_labelAt, y_labelHeight, y_labelGives, y_callModule, y_callFunction, y_callBack, y_callBase, y_callLabels, y_waiting, y_prints) := by
    intro a1 a2 a3 a4 a5
    have h' := h k (fun _ z => absurd z (by omega)) (fun _ _ => rfl)
    rw [rd_R, if_neg a1, if_neg a2, if_neg a3, if_neg a4, if_neg a5] at h'
    exact h'
  have w117 : ¬ (2 ≤ op ∧ op ≤ 4) → op ≠ 9 → op ≠ 20 → op ≠ 21 → op ≠ 7 → op ≠ 8 → op ≠ 11 → op ≠ 12 → ¬ (15 ≤ op ∧ op ≤ 19) → wY_takeRest_117 post (nI op) y_count y_place y_m (nI q.2) (bb_w q.1) k y_least y_top y_frames y_invalid y_sp y_labels y_active y_fuel y_outcome y_trappedAt y_result y_used y_waits y_printed y_bytes y_there y_types y_typeSig y_imports y_functions y_sig y_what y_typeAt y_localsAt y_globals y_globalKind y_globalFree y_globalValue y_entries y_entriesAt y_hasMemory y_memory y_nest y_kinds y_shape y_gives y_height y_dead y_stack y_labelAt y_labelHeight y_labelGives y_callModule y_callFunction y_callBack y_callBase y_callLabels y_waiting y_prints := by
    intro a1 a2 a3 a4 a5 a6 a7 a8 a9
    exact pk_lt op 22 (fun b => wno a1 a2 a3 a4 (by omega)) (fun b => pk_lt 27 op (fun b2 => wno a1 a2 a3 a4 (by omega)) (fun b2 => w129 a1 a2 a3 a4 (by omega)))
  have w70 : ∀ kd, op = kd + 19 → kd = 1 ∨ kd = 2 → wY_takeRest_70 post (nI op) y_count y_place y_m (nI q.2) (bb_w q.1) k y_least y_top y_frames y_invalid y_sp y_labels y_active y_fuel y_outcome y_trappedAt y_result y_used y_waits y_printed y_bytes y_there y_types y_typeSig y_imports y_functions y_sig y_what y_typeAt y_localsAt y_globals y_globalKind y_globalFree y_globalValue y_entries y_entriesAt y_hasMemory y_memory y_nest y_kinds y_shape y_gives y_height y_dead y_stack y_labelAt y_labelHeight y_labelGives y_callModule y_callFunction y_callBack y_callBase y_callLabels y_waiting y_prints := by
    intro kd e hkd
    have e2 : nI op - 19 = nI kd := by rw [e]; exact (pk_sub (a := kd + 19) (b := 19) (by omega)).trans (by rw [Nat.add_sub_cancel])
    show wpY_takeConstant _ _ (nI op - 19)
    rw [e2]
    refine yr_const C kd (by omega) q hq (fun k' hk' => ?_)
    have h' := h k' (fun ok _ => ?_) (fun b1 b2 => absurd e (by omega))
    · rcases hkd with z | z
      · subst z
        rw [e, rd_R, if_neg (by omega), if_neg (by omega), if_pos rfl] at h'
        exact h'
      · subst z
        rw [e, rd_R, if_neg (by omega), if_neg (by omega), if_neg (by omega), if_pos rfl] at h'
        exact h'
    · rcases hkd with z | z
      · subst z
        rw [e, rd_R, if_neg (by omega), if_neg (by omega), if_pos rfl] at ok
        rw [e]; exact hk' ok
      · subst z
        rw [e, rd_R, if_neg (by omega), if_neg (by omega), if_neg (by omega), if_pos rfl] at ok
        rw [e]; exact hk' ok
  have w20 : ¬ (2 ≤ op ∧ op ≤ 4) → wY_takeRest_20 post (nI op) y_count y_place y_m (nI q.2) (bb_w q.1) k y_least y_top y_frames y_invalid y_sp y_labels y_active y_fuel y_outcome y_trappedAt y_result y_used y_waits y_printed y_bytes y_there y_types y_typeSig y_imports y_functions y_sig y_what y_typeAt y_localsAt y_globals y_globalKind y_globalFree y_globalValue y_entries y_entriesAt y_hasMemory y_memory y_nest y_kinds y_shape y_gives y_height y_dead y_stack y_labelAt y_labelHeight y_labelGives y_callModule y_callFunction y_callBack y_callBase y_callLabels y_waiting y_prints := by
    intro a1
    refine pk_eq op 9 (fun z => ?_) (fun b9 => pk_eq op 20 (fun z => w70 1 (by omega) (by omega)) (fun b20 => pk_eq op 21 (fun z => w70 2 (by omega) (by omega)) (fun b21 => pk_eq op 7 (fun z => w129 a1 b9 b20 b21 (by omega)) (fun b7 => pk_eq op 8 (fun z => w129 a1 b9 b20 b21 (by omega)) (fun b8 => pk_eq op 11 (fun z => w129 a1 b9 b20 b21 (by omega)) (fun b11 => pk_eq op 12 (fun z => w129 a1 b9 b20 b21 (by omega)) (fun b12 => pk_lt op 15 (fun z => w117 a1 b9 b20 b21 b7 b8 b11 b12 (by omega)) (fun b15 => pk_le op 19 (fun z => w129 a1 b9 b20 b21 (by omega)) (fun b19 => w117 a1 b9 b20 b21 b7 b8 b11 b12 (by omega))))))))))
    have h' := h k (fun _ z => absurd z (by omega)) (fun _ _ => rfl)
    rw [rd_R, if_neg a1, if_pos z] at h'
    have hv := (rd_tv_le (c := c) (n := n) (lo := 0) (hi := 4) (q := q) (by omega)).2
    refine yr_take C q hq 0 4 (by omega) (by omega) ⟨rd_tv c n 0 4 q + 2, ?_⟩
    exact yr_n_l C _ hv (rd_tv c n 0 4 q + 1) 0 _ _ (by omega) (by omega) ((rd_G_tk c n 0 4).1 q hq).2 h'
  refine pk_lt op 2 (fun b => w20 (by omega)) (fun b => pk_lt 4 op (fun b2 => w20 (by omega)) (fun b2 => ?_))
  have h' := h k (fun _ z => absurd z (by omega)) (fun _ _ => rfl)
  rw [rd_R, if_pos (by omega)] at h'
  exact yr_take C q hq 0 2 (by omega) (by omega) h'
end
def yr_N (N : Nat → Int32) : List (Nat × Nat × Nat) → Prop
  | [] => True
  | (cd, _, _) :: T => N T.length = nI cd ∧ cd < 6 ∧ yr_N N T
theorem yr_N_ext {A A' : Nat → Int32} : ∀ T : List (Nat × Nat × Nat), yr_N A T → (∀ j, j < T.length → A' j = A j) → yr_N A' T := by
  intro T
  induction T with
  | nil => intro _ _; trivial
  | cons x T ih =>
    intro h e
    obtain ⟨cd, o, el⟩ := x
    obtain ⟨h1, h2, h3⟩ := h
    refine ⟨?_, h2, ih h3 (fun j hj => e j (by simp only [List.length_cons]; omega))⟩
    rw [e _ (by simp only [List.length_cons]; omega)]
    exact h1
section
variable {y_count y_place y_m y_pos y_wrong y_least y_top y_frames y_invalid y_sp y_labels y_active y_fuel y_outcome y_trappedAt y_used y_waits y_printed : Int32} {y_constant y_result : Int64} {y_bytes y_there y_types y_typeSig y_imports y_functions y_sig y_what y_typeAt y_localsAt y_globals y_globalKind y_globalFree y_entries y_entriesAt y_hasMemory y_memory y_nest y_kinds y_shape y_gives y_height y_dead y_labelAt y_labelHeight y_labelGives y_callModule y_callFunction y_callBack y_callBase y_callLabels y_waiting y_prints : Nat → Int32} {y_globalValue y_stack : Nat → Int64}
variable {m : Nat} {c : Nat → Nat} {n p : Nat}
theorem yr_body_l {post : SY → Prop} (C : cy_ok y_count y_m y_bytes m c n) : ∀ r l kf (q : Bool × Nat) T (N : Nat → Int32) (k : Int64), n - q.2 < r → r ≤ kf → r < l → q.2 ≤ n → 2 * T.length ≤ q.2 + 3 → (q.1 = true → 2 * T.length ≤ q.2 + 2) → yr_N N T →
    (∀ N' k', post (y_count, y_place, y_m, nI (rd_B c n kf q T).1.2, bb_w (rd_B c n kf q T).1.1, k', y_least, y_top, y_frames, y_invalid, y_sp, y_labels, y_active, y_fuel, y_outcome, y_trappedAt, y_result, y_used, y_waits, y_printed, y_bytes, y_there, y_types, y_typeSig, y_imports, y_functions, y_sig, y_what, y_typeAt, y_localsAt, y_globals, y_globalKind, y_globalFree, y_globalValue, y_entries, y_entriesAt, y_hasMemory, y_memory, N', y_kinds, y_shape, y_gives, y_height, y_dead, y_stack, y_labelAt, y_labelHeight, y_labelGives, y_callModule, y_callFunction, y_callBack, y_callBase, y_callLabels, y_waiting, y_prints)) →
    wY_takeBody_9 post l (nI T.length) y_count y_place y_m (nI q.2) (bb_w q.1) k y_least y_top y_frames y_invalid y_sp y_labels y_active y_fuel y_outcome y_trappedAt y_result y_used y_waits y_printed y_bytes y_there y_types y_typeSig y_imports y_functions y_sig y_what y_typeAt y_localsAt y_globals y_globalKind y_globalFree y_globalValue y_entries y_entriesAt y_hasMemory y_memory N y_kinds y_shape y_gives y_height y_dead y_stack y_labelAt y_labelHeight y_labelGives y_callModule y_callFunction y_callBack y_callBase y_callLabels y_waiting y_prints := by
  intro r
  induction r with
  | zero => intro l kf q T N k h; omega
  | succ r ih =>
    intro l kf q T N k hr hkf hl hq hlen hlen2 hN h
    obtain ⟨l, rfl⟩ : ∃ j, l = j + 1 := ⟨l - 1, by omega⟩
    obtain ⟨kf, rfl⟩ : ∃ j, kf = j + 1 := ⟨kf - 1, by omega⟩
    have h140 := C.2.1
    have h256 := C.2.2.2.2.2
    obtain ⟨b, p⟩ := q
    dsimp only at hr hq hlen hlen2 h ⊢
    cases T with
    | nil =>
      rw [rd_B_n] at h
      exact br_t (by decide) (h N k)
    | cons x T =>
      obtain ⟨cd, o, el⟩ := x
      obtain ⟨hN1, hN2, hN3⟩ := hN
      simp only [List.length_cons] at hlen hlen2 ⊢
      refine pk_le (T.length + 1) 0 (fun z => absurd z (by omega)) (fun _ => ?_)
      cases b with
      | false =>
        rw [rd_B_f _ _ _ rfl] at h
        exact br_f (by decide) (h N k)
      | true =>
        refine br_t rfl ?_
        have hl2 := hlen2 rfl
        have C' : cy_ok y_count y_m y_bytes m c n := C
        have em : nI (T.length + 1) - 1 = nI T.length := nI_pred T.length
        rw [rd_B, if_pos ⟨rfl, by simp⟩] at h
        refine yr_take C' (true, p) hq 0 66 (by omega) (by omega) ?_
        rcases rd_tk_or c n 0 66 (true, p) with ⟨e, _, hpn, _, h66⟩ | e
        · dsimp only at hpn h66 e
          have e1 : (rd_tk c n 0 66 (true, p)).1 = true := by rw [e]
          rw [rd_I, if_pos e1] at h
          rw [e, show rd_tv c n 0 66 (true, p) = c p from rd_tv_t hpn (by omega) h66]
          dsimp only at h ⊢
          have w104 : ∀ (T' : List (Nat × Nat × Nat)) (N' : Nat → Int32), yr_N N' T' → 2 * T'.length ≤ (rd_R c n (c p) (true, p + 1)).2 + 3 → ((rd_R c n (c p) (true, p + 1)).1 = true → 2 * T'.length ≤ (rd_R c n (c p) (true, p + 1)).2 + 2) → (∀ N'' k', post (y_count, y_place, y_m, nI (rd_B c n kf (rd_R c n (c p) (true, p + 1)) T').1.2, bb_w (rd_B c n kf (rd_R c n (c p) (true, p + 1)) T').1.1, k', y_least, y_top, y_frames, y_invalid, y_sp, y_labels, y_active, y_fuel, y_outcome, y_trappedAt, y_result, y_used, y_waits, y_printed, y_bytes, y_there, y_types, y_typeSig, y_imports, y_functions, y_sig, y_what, y_typeAt, y_localsAt, y_globals, y_globalKind, y_globalFree, y_globalValue, y_entries, y_entriesAt, y_hasMemory, y_memory, N'', y_kinds, y_shape, y_gives, y_height, y_dead, y_stack, y_labelAt, y_labelHeight, y_labelGives, y_callModule, y_callFunction, y_callBack, y_callBase, y_callLabels, y_waiting, y_prints)) →
              wY_takeBody_104 post (wY_takeBody_9 post l) (nI T'.length) (nI (c p)) y_count y_place y_m (nI (p + 1)) (bb_w true) k y_least y_top y_frames y_invalid y_sp y_labels y_active y_fuel y_outcome y_trappedAt y_result y_used y_waits y_printed y_bytes y_there y_types y_typeSig y_imports y_functions y_sig y_what y_typeAt y_localsAt y_globals y_globalKind y_globalFree y_globalValue y_entries y_entriesAt y_hasMemory y_memory N' y_kinds y_shape y_gives y_height y_dead y_stack y_labelAt y_labelHeight y_labelGives y_callModule y_callFunction y_callBack y_callBase y_callLabels y_waiting y_prints := by
            intro T' N' g1 g2 g2' g3
            have gr := (rd_G_R c n (c p)).1 (true, p + 1) (by dsimp only; omega)
            dsimp only at gr
            unfold wY_takeBody_104
            refine yr_rest (show cy_ok y_count y_m y_bytes m c n from C) (c p) (h256 p) (true, p + 1) (by dsimp only; omega) (fun k' _ _ => ?_)
            exact ih l kf _ T' N' k' (by omega) (by omega) (by omega) gr.2 g2 g2' g1 g3
          have gr := (rd_G_R c n (c p)).1 (true, p + 1) (by dsimp only; omega)
          dsimp only at gr
          have w95o : ¬ (2 ≤ c p ∧ c p ≤ 4) → c p ≠ 5 → wY_takeBody_95 post (wY_takeBody_9 post l) (nI (T.length + 1)) (nI (c p)) y_count y_place y_m (nI (p + 1)) (bb_w true) k y_least y_top y_frames y_invalid y_sp y_labels y_active y_fuel y_outcome y_trappedAt y_result y_used y_waits y_printed y_bytes y_there y_types y_typeSig y_imports y_functions y_sig y_what y_typeAt y_localsAt y_globals y_globalKind y_globalFree y_globalValue y_entries y_entriesAt y_hasMemory y_memory N y_kinds y_shape y_gives y_height y_dead y_stack y_labelAt y_labelHeight y_labelGives y_callModule y_callFunction y_callBack y_callBase y_callLabels y_waiting y_prints := by
            intro a1 a2
            simp only [if_neg a1, if_neg a2] at h
            refine pk_eq (c p) 6 (fun z => nm_r (pk_m1 T.length) ?_) (fun z => ?_) rfl rfl (by have := h256 p; omega)
            · simp only [if_pos z] at h
              have e6 : rd_R c n (c p) (true, p + 1) = (true, p + 1) := by rw [z]; rfl
              refine w104 T N hN3 (by rw [e6]; dsimp only; omega) (fun _ => by rw [e6]; dsimp only; omega) ?_
              rw [e6]; exact h
            · simp only [if_neg z] at h
              exact w104 ((cd, o, el) :: T) N ⟨hN1, hN2, hN3⟩ (by simp only [List.length_cons]; omega) (fun _ => by simp only [List.length_cons]; omega) h
          have w74 : c p ≠ 5 → wY_takeBody_74 post (wY_takeBody_9 post l) (nI (T.length + 1)) (nI (c p)) y_count y_place y_m (nI (p + 1)) (bb_w true) k y_least y_top y_frames y_invalid y_sp y_labels y_active y_fuel y_outcome y_trappedAt y_result y_used y_waits y_printed y_bytes y_there y_types y_typeSig y_imports y_functions y_sig y_what y_typeAt y_localsAt y_globals y_globalKind y_globalFree y_globalValue y_entries y_entriesAt y_hasMemory y_memory N y_kinds y_shape y_gives y_height y_dead y_stack y_labelAt y_labelHeight y_labelGives y_callModule y_callFunction y_callBack y_callBase y_callLabels y_waiting y_prints := by
            intro a5
            refine pk_lt (c p) 2 (fun z => w95o (by omega) a5) (fun z => pk_lt 4 (c p) (fun z2 => w95o (by omega) a5) (fun z2 => ?_) rfl rfl (by omega) (by have := h256 p; omega)) rfl rfl (by have := h256 p; omega)
            have ho : 2 ≤ c p ∧ c p ≤ 4 := ⟨z, z2⟩
            simp only [if_pos ho] at h
            refine nm_r (nI_1 (T.length + 1)) ⟨pk_in (T.length + 1) 140 (by omega), nm_r (show _ = upd N (T.length + 1) (nI (c p)) from by rw [pk_cl (T.length + 1), nr_b (by omega)]) ?_⟩
            refine pk_eq (c p) 6 (fun z => absurd z (by omega)) (fun z => ?_) rfl rfl (by omega)
            have eR : rd_R c n (c p) (true, p + 1) = rd_tk c n 0 2 (true, p + 1) := if_pos ho
            have gk := rd_tk_or c n 0 2 (true, p + 1)
            refine w104 ((c p, p, 0) :: (cd, o, el) :: T) _ ⟨pk_us, by omega, ?_⟩ (by simp only [List.length_cons]; omega) (fun y => by
              rw [eR] at y ⊢
              rcases gk with ⟨e5, _⟩ | e5
              · rw [e5]; simp only [List.length_cons]; omega
              · rw [e5] at y; exact ff_t y) (by rw [eR]; exact h)
            exact yr_N_ext ((cd, o, el) :: T) ⟨hN1, hN2, hN3⟩ (fun j hj => pk_un (by simp only [List.length_cons] at hj; omega))
          refine pk_eq (c p) 5 (fun z => ?_) (fun z => pk_eq (c p) 5 (fun y => absurd y z) (fun _ => w74 z) rfl rfl (by have := h256 p; omega)) rfl rfl (by have := h256 p; omega)
          simp only [if_neg (show ¬ (2 ≤ c p ∧ c p ≤ 4) by omega), if_pos z] at h
          refine ⟨pk_in T.length 140 (by omega) em, ?_⟩
          have eN : N (nI (T.length + 1) - 1).toNatClampNeg = nI cd := by rw [pk_cl T.length em]; exact hN1
          have w60 : ∀ (wr : Bool) (pp : Nat) (Y : Nat → Int32), (∀ N' , yr_N N' ((5, o, p) :: T) → wY_takeBody_104 post (wY_takeBody_9 post l) (nI (T.length + 1)) (nI (c p)) y_count y_place y_m (nI pp) (bb_w wr) k y_least y_top y_frames y_invalid y_sp y_labels y_active y_fuel y_outcome y_trappedAt y_result y_used y_waits y_printed y_bytes y_there y_types y_typeSig y_imports y_functions y_sig y_what y_typeAt y_localsAt y_globals y_globalKind y_globalFree y_globalValue y_entries y_entriesAt y_hasMemory y_memory N' y_kinds y_shape y_gives y_height y_dead y_stack y_labelAt y_labelHeight y_labelGives y_callModule y_callFunction y_callBack y_callBase y_callLabels y_waiting y_prints) →
              wY_takeBody_60 post (wY_takeBody_9 post l) (nI (T.length + 1)) (nI (c p)) y_count y_place y_m (nI pp) (bb_w wr) k y_least y_top y_frames y_invalid y_sp y_labels y_active y_fuel y_outcome y_trappedAt y_result y_used y_waits y_printed y_bytes y_there y_types y_typeSig y_imports y_functions y_sig y_what y_typeAt y_localsAt y_globals y_globalKind y_globalFree y_globalValue y_entries y_entriesAt y_hasMemory y_memory N y_kinds y_shape y_gives y_height y_dead y_stack y_labelAt y_labelHeight y_labelGives y_callModule y_callFunction y_callBack y_callBase y_callLabels y_waiting y_prints := by
            intro wr pp _ g
            refine pk_eq (c p) 5 (fun _ => ?_) (fun y => absurd z y) rfl rfl (by omega)
            refine ⟨pk_in T.length 140 (by omega) em, nm_r (show _ = upd N T.length (nI 5) from by rw [pk_cl T.length em]; exact congrArg _ (nr_b (k := 5) (by omega))) ?_⟩
            refine pk_lt (c p) 2 (fun y => absurd y (by omega)) (fun _ => pk_lt 4 (c p) (fun _ => ?_) (fun y => absurd y (by omega)) rfl rfl (by omega) (by omega)) rfl rfl (by omega)
            refine pk_eq (c p) 6 (fun y => absurd y (by omega)) (fun _ => ?_) rfl rfl (by omega)
            exact g _ ⟨pk_us, by omega, yr_N_ext T hN3 (fun j hj => pk_un (by omega))⟩
          refine pk_eq cd 4 (fun y => ?_) (fun y => ?_) eN rfl
          · subst y
            refine w60 true (p + 1) N (fun N' g => ?_)
            have e6 : rd_R c n (c p) (true, p + 1) = (true, p + 1) := by rw [z]; rfl
            have e4 : tp_cd ((4, o, el) :: T) = 4 := rfl
            simp only [if_pos e4] at h
            refine w104 ((5, o, p) :: T) N' g (by rw [e6]; simp only [List.length_cons]; omega) (fun _ => by rw [e6]; simp only [List.length_cons]; omega) ?_
            rw [e6]; exact h
          · have e4 : ¬ tp_cd ((cd, o, el) :: T) = 4 := y
            simp only [if_neg e4] at h
            rw [rd_B_f _ _ _ rfl] at h
            refine nm_r (nI_pred p) (w60 false p N (fun N' g => ?_))
            unfold wY_takeBody_104
            refine yr_rest (show cy_ok y_count y_m y_bytes m c n from C) (c p) (h256 p) (false, p) hq (fun k' _ _ => ?_)
            rw [(rd_G_R c n (c p)).2 (false, p) rfl]
            obtain ⟨l, rfl⟩ : ∃ j, l = j + 1 := ⟨l - 1, by omega⟩
            refine pk_le (T.length + 1) 0 (fun z => absurd z (by omega)) (fun _ => br_f bw_f ?_)
            exact h N' k'
        · dsimp only at e
          rw [rd_I, if_neg (by rw [e]; simp), e, rd_B_f _ _ _ rfl] at h
          rw [e, show rd_tv c n 0 66 (true, p) = 0 from by
            unfold rd_tv; split
            · rename_i hc; rw [rd_tk, if_pos hc] at e; exact ff_t (congrArg Prod.fst e).symm
            · rfl]
          refine br_f (by decide) (br_f (by decide) (br_t (by decide) (br_f (by decide) ?_)))
          refine br_t (by decide) (br_f (by decide) (br_f (by decide) (br_f (by decide) (br_f (by decide) (br_f (by decide) (br_f (by decide) (br_f (by decide) (br_t (by decide) (br_t (by decide) ?_)))))))))
          obtain ⟨l, rfl⟩ : ∃ j, l = j + 1 := ⟨l - 1, by omega⟩
          refine pk_le (T.length + 1) 0 (fun z => absurd z (by omega)) (fun _ => br_f bw_f ?_)
          exact h N k
theorem yr_body {post : SY → Prop} {k : Int64} (C : cy_ok y_count y_m y_bytes m c n) (q : Bool × Nat) (hq : q.2 ≤ n)
    (h : ∀ N' k', post (y_count, y_place, y_m, nI (rd_B c n 141 q [(0, 0, 0)]).1.2, bb_w (rd_B c n 141 q [(0, 0, 0)]).1.1, k', y_least, y_top, y_frames, y_invalid, y_sp, y_labels, y_active, y_fuel, y_outcome, y_trappedAt, y_result, y_used, y_waits, y_printed, y_bytes, y_there, y_types, y_typeSig, y_imports, y_functions, y_sig, y_what, y_typeAt, y_localsAt, y_globals, y_globalKind, y_globalFree, y_globalValue, y_entries, y_entriesAt, y_hasMemory, y_memory, N', y_kinds, y_shape, y_gives, y_height, y_dead, y_stack, y_labelAt, y_labelHeight, y_labelGives, y_callModule, y_callFunction, y_callBack, y_callBase, y_callLabels, y_waiting, y_prints)) : wpY_takeBody post (y_count, y_place, y_m, nI q.2, bb_w q.1, k, y_least, y_top, y_frames, y_invalid, y_sp, y_labels, y_active, y_fuel, y_outcome, y_trappedAt, y_result, y_used, y_waits, y_printed, y_bytes, y_there, y_types, y_typeSig, y_imports, y_functions, y_sig, y_what, y_typeAt, y_localsAt, y_globals, y_globalKind, y_globalFree, y_globalValue, y_entries, y_entriesAt, y_hasMemory, y_memory, y_nest, y_kinds, y_shape, y_gives, y_height, y_dead, y_stack, y_labelAt, y_labelHeight, y_labelGives, y_callModule, y_callFunction, y_callBack, y_callBase, y_callLabels, y_waiting, y_prints) := by
  have h140 := C.2.1
  refine nm_e ⟨142, ?_⟩
  exact yr_body_l C 141 142 141 q [(0, 0, 0)] _ k (by omega) (by omega) (by omega) hq (by simp) (fun _ => by simp) ⟨pk_us.trans (nr_b (k := 0) (by omega)), by omega, trivial⟩ h
end
