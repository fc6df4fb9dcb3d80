def cq_ok (ym : Int32) (by_ : Nat → Int32) (m : Nat) (c : Nat → Nat) (n : Nat) : Prop := ym = nI m ∧ m < 3 ∧ n ≤ 140 ∧ (∀ i, i < n → by_ (140 * m + i) = nI (c i)) ∧ ∀ i, c i < 256
theorem sv_len {c : Nat → Nat} {n : Nat} {b : Bool} : ∀ j p d e, sv c n b j p d e → p + j ≤ e ∧ e < n := by
  intro j
  induction j with
  | zero => intro p d e h; obtain ⟨h1, h2, h3, h4⟩ := h; omega
  | succ j ih => intro p d e h; obtain ⟨h1, h2, h3, h4, h5, h6, h7⟩ := h; have := ih _ _ _ h7; omega
section
variable {y_count y_place y_m y_pos y_wrong y_least y_top y_frames y_invalid y_sp y_labels y_active y_fuel y_outcome y_trappedAt y_used y_waits y_printed : Int32} {y_constant y_result : Int64} {y_bytes y_there y_types y_typeSig y_imports y_functions y_sig y_what y_typeAt y_localsAt y_globals y_globalKind y_globalFree y_entries y_entriesAt y_hasMemory y_memory y_nest y_kinds y_shape y_gives y_height y_dead y_labelAt y_labelHeight y_labelGives y_callModule y_callFunction y_callBack y_callBase y_callLabels y_waiting y_prints : Nat → Int32} {y_globalValue y_stack : Nat → Int64}
variable {m : Nat} {c : Nat → Nat} {n p : Nat} {k : Int64}
theorem yq_take {post : Int32 → SY → Prop} (Q : cq_ok y_m y_bytes m c n) (e : y_count = 140) (lo hi : Nat) (hp : p < n) (hl : lo ≤ c p) (hh : c p ≤ hi) (hi2 : hi < 256) (h : post (nI (c p)) (y_count, y_place, y_m, nI (p + 1), 0, k, y_least, y_top, y_frames, y_invalid, y_sp, y_labels, y_active, y_fuel, y_outcome, y_trappedAt, y_result, y_used, y_waits, y_printed, y_bytes, y_there, y_types, y_typeSig, y_imports, y_functions, y_sig, y_what, y_typeAt, y_localsAt, y_globals, y_globalKind, y_globalFree, y_globalValue, y_entries, y_entriesAt, y_hasMemory, y_memory, y_nest, y_kinds, y_shape, y_gives, y_height, y_dead, y_stack, y_labelAt, y_labelHeight, y_labelGives, y_callModule, y_callFunction, y_callBack, y_callBase, y_callLabels, y_waiting, y_prints)) : wpY_take post (y_count, y_place, y_m, nI p, 0, k, y_least, y_top, y_frames, y_invalid, y_sp, y_labels, y_active, y_fuel, y_outcome, y_trappedAt, y_result, y_used, y_waits, y_printed, y_bytes, y_there, y_types, y_typeSig, y_imports, y_functions, y_sig, y_what, y_typeAt, y_localsAt, y_globals, y_globalKind, y_globalFree, y_globalValue, y_entries, y_entriesAt, y_hasMemory, y_memory, y_nest, y_kinds, y_shape, y_gives, y_height, y_dead, y_stack, y_labelAt, y_labelHeight, y_labelGives, y_callModule, y_callFunction, y_callBack, y_callBase, y_callLabels, y_waiting, y_prints) (nI lo) (nI hi) := by
  obtain ⟨hm, h3, h140, hb, h256⟩ := Q
  have hcp := h256 p
  have at' : ∀ (w : Int32) (post : Int32 → Prop), post (nI (c p)) → wpY_at post (y_count, y_place, y_m, nI p, w, k, y_least, y_top, y_frames, y_invalid, y_sp, y_labels, y_active, y_fuel, y_outcome, y_trappedAt, y_result, y_used, y_waits, y_printed, y_bytes, y_there, y_types, y_typeSig, y_imports, y_functions, y_sig, y_what, y_typeAt, y_localsAt, y_globals, y_globalKind, y_globalFree, y_globalValue, y_entries, y_entriesAt, y_hasMemory, y_memory, y_nest, y_kinds, y_shape, y_gives, y_height, y_dead, y_stack, y_labelAt, y_labelHeight, y_labelGives, y_callModule, y_callFunction, y_callBack, y_callBase, y_callLabels, y_waiting, y_prints) (nI p) := fun w post h => yr_at hm h3 (by omega) (hb p hp) h
  have at2 : ∀ (w : Int32) (post : Int32 → Prop), post (nI (c p)) → wpY_at post (y_count, y_place, y_m, nI (p + 1), w, k, y_least, y_top, y_frames, y_invalid, y_sp, y_labels, y_active, y_fuel, y_outcome, y_trappedAt, y_result, y_used, y_waits, y_printed, y_bytes, y_there, y_types, y_typeSig, y_imports, y_functions, y_sig, y_what, y_typeAt, y_localsAt, y_globals, y_globalKind, y_globalFree, y_globalValue, y_entries, y_entriesAt, y_hasMemory, y_memory, y_nest, y_kinds, y_shape, y_gives, y_height, y_dead, y_stack, y_labelAt, y_labelHeight, y_labelGives, y_callModule, y_callFunction, y_callBack, y_callBase, y_callLabels, y_waiting, y_prints) (nI p) := fun w post h => yr_at hm h3 (by omega) (hb p hp) h
  refine br_t rfl (pk_eq p 140 (fun z => absurd z (by omega)) (fun _ => at' _ _ ?_) rfl e)
  refine pk_lt (c p) lo (fun z => absurd z (by omega)) (fun z1 => at' _ _ ?_)
  exact pk_le (c p) hi (fun z2 => nm_r (nI_1 p) (at2 _ _ h)) (fun z2 => absurd z2 (by omega))
theorem yq_const_l {post : SY → Prop} (Q : cq_ok y_m y_bytes m c n) (e : y_count = 140) (kind most : Nat) (hk : kind < 256) (hmost : most = if kind = 1 then 5 else 10) : ∀ r i p l R x b, i + r = most → r < l → r ≤ R → 127 < b → b < 256 → (rd_C c n r (true, p)).1 = true →
    post (y_count, y_place, y_m, nI (rd_C c n r (true, p)).2, 0, cv c kind R p x i, y_least, y_top, y_frames, y_invalid, y_sp, y_labels, y_active, y_fuel, y_outcome, y_trappedAt, y_result, y_used, y_waits, y_printed, y_bytes, y_there, y_types, y_typeSig, y_imports, y_functions, y_sig, y_what, y_typeAt, y_localsAt, y_globals, y_globalKind, y_globalFree, y_globalValue, y_entries, y_entriesAt, y_hasMemory, y_memory, y_nest, y_kinds, y_shape, y_gives, y_height, y_dead, y_stack, y_labelAt, y_labelHeight, y_labelGives, y_callModule, y_callFunction, y_callBack, y_callBase, y_callLabels, y_waiting, y_prints) →
    wY_takeConstant_10 post (nI kind) l x (nI i) (nI b) y_count y_place y_m (nI p) 0 k y_least y_top y_frames y_invalid y_sp y_labels y_active y_fuel y_outcome y_trappedAt y_result y_used y_waits y_printed y_bytes y_there y_types y_typeSig y_imports y_functions y_sig y_what y_typeAt y_localsAt y_globals y_globalKind y_globalFree y_globalValue y_entries y_entriesAt y_hasMemory y_memory y_nest y_kinds y_shape y_gives y_height y_dead y_stack y_labelAt y_labelHeight y_labelGives y_callModule y_callFunction y_callBack y_callBase y_callLabels y_waiting y_prints := by
  have hmost2 : most ≤ 10 := by rw [hmost]; split <;> omega
  intro r
  induction r with
  | zero => intro i p l R x b hi _ _ _ _ h; exact ff_t h
  | succ r ih =>
    intro i p l R x b hi hl hR hb1 hb2 ok h
    obtain ⟨l, rfl⟩ : ∃ j, l = j + 1 := ⟨l - 1, by omega⟩
    obtain ⟨R, rfl⟩ : ∃ j, R = j + 1 := ⟨R - 1, by omega⟩
    have h256 := Q.2.2.2.2
    have e7 : 7 * nI i = nI (7 * i) := pk_mul 7 i
    have key : ∀ hb, hb < 256 → (if r = 0 then 127 else 255) = hb → wY_takeConstant_50 post (wY_takeConstant_10 post (nI kind) l) (nI kind) x (nI i) (nI hb) 0 y_count y_place y_m (nI p) 0 k y_least y_top y_frames y_invalid y_sp y_labels y_active y_fuel y_outcome y_trappedAt y_result y_used y_waits y_printed y_bytes y_there y_types y_typeSig y_imports y_functions y_sig y_what y_typeAt y_localsAt y_globals y_globalKind y_globalFree y_globalValue y_entries y_entriesAt y_hasMemory y_memory y_nest y_kinds y_shape y_gives y_height y_dead y_stack y_labelAt y_labelHeight y_labelGives y_callModule y_callFunction y_callBack y_callBase y_callLabels y_waiting y_prints := by
      intro hb hbl eh
      rw [rd_C, eh] at h ok
      rcases rd_tk_or c n 0 hb (true, p) with ⟨t1, _, t2, _, t3⟩ | t1
      · rw [t1] at h ok
        dsimp only at t2 t3 h ok
        refine yq_take Q e 0 hb t2 (by omega) t3 hbl ?_
        refine nm_r (show _ = cv_st x i (c p) from by rw [e7]; rfl) (nm_r (nI_1 i) ?_)
        rw [cv] at h
        by_cases h4 : 127 < c p
        · rw [if_pos ⟨rfl, h4⟩] at h ok
          rw [if_pos h4] at h
          exact ih (i + 1) (p + 1) l R _ (c p) (by omega) (by omega) (by omega) h4 (h256 p) ok h
        · rw [if_neg (fun z => h4 z.2)] at h
          rw [if_neg h4] at h
          obtain ⟨l, rfl⟩ : ∃ j, l = j + 1 := ⟨l - 1, by omega⟩
          exact pk_le (c p) 127 (fun _ => yr_c76 kind hk _ (i + 1) (c p) (by omega) h) (fun z => absurd z h4) rfl rfl (by have := h256 p; omega)
      · rw [t1, if_neg (fun z => ff_t z.1)] at ok; exact ff_t ok
    have k39 : ∀ w, w + 1 = most → wY_takeConstant_39 post (wY_takeConstant_10 post (nI kind) l) (nI kind) x (nI i) (nI w) (nI i) 0 y_count y_place y_m (nI p) 0 k y_least y_top y_frames y_invalid y_sp y_labels y_active y_fuel y_outcome y_trappedAt y_result y_used y_waits y_printed y_bytes y_there y_types y_typeSig y_imports y_functions y_sig y_what y_typeAt y_localsAt y_globals y_globalKind y_globalFree y_globalValue y_entries y_entriesAt y_hasMemory y_memory y_nest y_kinds y_shape y_gives y_height y_dead y_stack y_labelAt y_labelHeight y_labelGives y_callModule y_callFunction y_callBack y_callBase y_callLabels y_waiting y_prints := by
      intro w hw
      exact pk_eq i w (fun z => key 127 (by omega) (if_pos (by omega))) (fun z => key 255 (by omega) (if_neg (by omega)))
    refine pk_le b 127 (fun z => absurd z (by omega)) (fun _ => br_t rfl ?_)
    refine pk_eq kind 1 (fun z => ?_) (fun z => ?_)
    · rw [if_pos z] at hmost; exact k39 4 (by omega)
    · rw [if_neg z] at hmost; exact k39 9 (by omega)
theorem yq_const {post : SY → Prop} (Q : cq_ok y_m y_bytes m c n) (e : y_count = 140) (kind : Nat) (hk : kind < 256) (ok : (rd_C c n (if kind = 1 then 5 else 10) (true, p)).1 = true)
    (h : post (y_count, y_place, y_m, nI (rd_C c n (if kind = 1 then 5 else 10) (true, p)).2, 0, cv c kind 10 p 0 0, y_least, y_top, y_frames, y_invalid, y_sp, y_labels, y_active, y_fuel, y_outcome, y_trappedAt, y_result, y_used, y_waits, y_printed, y_bytes, y_there, y_types, y_typeSig, y_imports, y_functions, y_sig, y_what, y_typeAt, y_localsAt, y_globals, y_globalKind, y_globalFree, y_globalValue, y_entries, y_entriesAt, y_hasMemory, y_memory, y_nest, y_kinds, y_shape, y_gives, y_height, y_dead, y_stack, y_labelAt, y_labelHeight, y_labelGives, y_callModule, y_callFunction, y_callBack, y_callBase, y_callLabels, y_waiting, y_prints)) : wpY_takeConstant post (y_count, y_place, y_m, nI p, 0, k, y_least, y_top, y_frames, y_invalid, y_sp, y_labels, y_active, y_fuel, y_outcome, y_trappedAt, y_result, y_used, y_waits, y_printed, y_bytes, y_there, y_types, y_typeSig, y_imports, y_functions, y_sig, y_what, y_typeAt, y_localsAt, y_globals, y_globalKind, y_globalFree, y_globalValue, y_entries, y_entriesAt, y_hasMemory, y_memory, y_nest, y_kinds, y_shape, y_gives, y_height, y_dead, y_stack, y_labelAt, y_labelHeight, y_labelGives, y_callModule, y_callFunction, y_callBack, y_callBase, y_callLabels, y_waiting, y_prints) (nI kind) :=
  ⟨11, yq_const_l Q e kind (if kind = 1 then 5 else 10) hk rfl (if kind = 1 then 5 else 10) 0 p 11 10 0 128 (by omega) (by split <;> omega) (by split <;> omega) (by omega) (by omega) ok h⟩
theorem yq_n_l {post : SY → Prop} (Q : cq_ok y_m y_bytes m c n) (e : y_count = 140) (K : Nat) (hK : K ≤ 4) : ∀ r i l p, i + r = K + 1 → r < l → p + r ≤ n → post (y_count, y_place, y_m, nI (p + r), 0, k, y_least, y_top, y_frames, y_invalid, y_sp, y_labels, y_active, y_fuel, y_outcome, y_trappedAt, y_result, y_used, y_waits, y_printed, y_bytes, y_there, y_types, y_typeSig, y_imports, y_functions, y_sig, y_what, y_typeAt, y_localsAt, y_globals, y_globalKind, y_globalFree, y_globalValue, y_entries, y_entriesAt, y_hasMemory, y_memory, y_nest, y_kinds, y_shape, y_gives, y_height, y_dead, y_stack, y_labelAt, y_labelHeight, y_labelGives, y_callModule, y_callFunction, y_callBack, y_callBase, y_callLabels, y_waiting, y_prints) →
    wY_takeRest_35 post (nI K) l (nI i) y_count y_place y_m (nI p) 0 k y_least y_top y_frames y_invalid y_sp y_labels y_active y_fuel y_outcome y_trappedAt y_result y_used y_waits y_printed y_bytes y_there y_types y_typeSig y_imports y_functions y_sig y_what y_typeAt y_localsAt y_globals y_globalKind y_globalFree y_globalValue y_entries y_entriesAt y_hasMemory y_memory y_nest y_kinds y_shape y_gives y_height y_dead y_stack y_labelAt y_labelHeight y_labelGives y_callModule y_callFunction y_callBack y_callBase y_callLabels y_waiting y_prints := by
  intro r
  induction r with
  | zero =>
    intro i l p hi hl hp h
    obtain ⟨l, rfl⟩ : ∃ j, l = j + 1 := ⟨l - 1, by omega⟩
    exact pk_lt K i (fun _ => h) (fun z => absurd z (by omega))
  | succ r ih =>
    intro i l p hi hl hp h
    obtain ⟨l, rfl⟩ : ∃ j, l = j + 1 := ⟨l - 1, by omega⟩
    have h256 := Q.2.2.2.2
    have := h256 p
    refine pk_lt K i (fun z => absurd z (by omega)) (fun _ => ?_)
    refine yq_take Q e 0 255 (by omega) (by omega) (by omega) (by omega) (nm_r (nI_1 i) ?_)
    exact ih (i + 1) l (p + 1) (by omega) (by omega) (by omega) (by rw [show p + 1 + r = p + (r + 1) by omega]; exact h)
theorem yq_rest {post : SY → Prop} (Q : cq_ok y_m y_bytes m c n) (e : y_count = 140) (op q : Nat) (hop : op < 256) (hR : rd_R c n op (true, p) = (true, q))
    (h : ∀ k', (op = 20 ∨ op = 21 → k' = cv c (op - 19) 10 p 0 0) → post (y_count, y_place, y_m, nI q, 0, k', y_least, y_top, y_frames, y_invalid, y_sp, y_labels, y_active, y_fuel, y_outcome, y_trappedAt, y_result, y_used, y_waits, y_printed, y_bytes, y_there, y_types, y_typeSig, y_imports, y_functions, y_sig, y_what, y_typeAt, y_localsAt, y_globals, y_globalKind, y_globalFree, y_globalValue, y_entries, y_entriesAt, y_hasMemory, y_memory, y_nest, y_kinds, y_shape, y_gives, y_height, y_dead, y_stack, y_labelAt, y_labelHeight, y_labelGives, y_callModule, y_callFunction, y_callBack, y_callBase, y_callLabels, y_waiting, y_prints)) :
    wpY_takeRest post (y_count, y_place, y_m, nI p, 0, k, y_least, y_top, y_frames, y_invalid, y_sp, y_labels, y_active, y_fuel, y_outcome, y_trappedAt, y_result, y_used, y_waits, y_printed, y_bytes, y_there, y_types, y_typeSig, y_imports, y_functions, y_sig, y_what, y_typeAt, y_localsAt, y_globals, y_globalKind, y_globalFree, y_globalValue, y_entries, y_entriesAt, y_hasMemory, y_memory, y_nest, y_kinds, y_shape, y_gives, y_height, y_dead, y_stack, y_labelAt, y_labelHeight, y_labelGives, y_callModule, y_callFunction, y_callBack, y_callBase, y_callLabels, y_waiting, y_prints) (nI op) := by
  have h256 := Q.2.2.2.2
  have hcp := h256 p
  have w129 : ¬ (2 ≤ op ∧ op ≤ 4) → op ≠ 9 → op ≠ 20 → op ≠ 21 → rd_ho op → wY_takeRest_129 post y_count y_place y_m (nI p) 0 k y_least y_top y_frames y_invalid y_sp y_labels y_active y_fuel y_outcome y_trappedAt y_result y_used y_waits y_printed y_bytes y_there y_types y_typeSig y_imports y_functions y_sig y_what y_typeAt y_localsAt y_globals y_globalKind y_globalFree y_globalValue y_entries y_entriesAt y_hasMemory y_memory y_nest y_kinds y_shape y_gives y_height y_dead y_stack y_labelAt y_labelHeight y_labelGives y_callModule y_callFunction y_callBack y_callBase y_callLabels y_waiting y_prints := by
    intro a1 a2 a3 a4 a5
    have h' := h k (fun z => absurd z (by omega))
    rw [rd_R, if_neg a1, if_neg a2, if_neg a3, if_neg a4, if_pos a5] at hR
    obtain ⟨t1, t2, t3, t4, t5, t6⟩ := rd_tk_ok (show (rd_tk c n 0 255 (true, p)).1 = true by rw [hR])
    rw [hR] at t2
    have t7 : q = p + 1 := congrArg Prod.snd t2
    rw [t7] at h'
    exact yq_take Q e 0 255 t6 (by omega) (by omega) (by omega) h'
  have wno : ¬ (2 ≤ op ∧ op ≤ 4) → op ≠ 9 → op ≠ 20 → op ≠ 21 → ¬ rd_ho op → post (y_count, y_place, y_m, nI p, 0, k, y_least, y_top, y_frames, y_invalid, y_sp, y_labels, y_active, y_fuel, y_outcome, y_trappedAt, y_result, y_used, y_waits, y_printed, y_bytes, y_there, y_types, y_typeSig, y_imports, y_functions, y_sig, y_what, y_typeAt, y_localsAt, y_globals, y_globalKind, y_globalFree, y_globalValue, y_entries, y_entriesAt, y_hasMemory, y_memory, y_nest, y_kinds, y_shape, y_gives, y_height, y_dead, y_stack, y_labelAt, y_labelHeight, y_labelGives, y_callModule, y_callFunction, y_callBack, y_callBase, y_callLabels, y_waiting, y_prints) := by
    intro a1 a2 a3 a4 a5
    have h' := h k (fun z => absurd z (by omega))
    rw [rd_R, if_neg a1, if_neg a2, if_neg a3, if_neg a4, if_neg a5] at hR
    have t7 : p = q := congrArg Prod.snd hR
    rw [t7]; exact h'
  have w117 : ¬ (2 ≤ op ∧ op ≤ 4) → op ≠ 9 → op ≠ 20 → op ≠ 21 → op ≠ 7 → op ≠ 8 → op ≠ 11 → op ≠ 12 → ¬ (15 ≤ op ∧ op ≤ 19) → wY_takeRest_117 post (nI op) y_count y_place y_m (nI p) 0 k y_least y_top y_frames y_invalid y_sp y_labels y_active y_fuel y_outcome y_trappedAt y_result y_used y_waits y_printed y_bytes y_there y_types y_typeSig y_imports y_functions y_sig y_what y_typeAt y_localsAt y_globals y_globalKind y_globalFree y_globalValue y_entries y_entriesAt y_hasMemory y_memory y_nest y_kinds y_shape y_gives y_height y_dead y_stack y_labelAt y_labelHeight y_labelGives y_callModule y_callFunction y_callBack y_callBase y_callLabels y_waiting y_prints := by
    intro a1 a2 a3 a4 a5 a6 a7 a8 a9
    exact pk_lt op 22 (fun b => wno a1 a2 a3 a4 (by omega)) (fun b => pk_lt 27 op (fun b2 => wno a1 a2 a3 a4 (by omega)) (fun b2 => w129 a1 a2 a3 a4 (by omega)))
  have w70 : ∀ kd, op = kd + 19 → kd = 1 ∨ kd = 2 → wY_takeRest_70 post (nI op) y_count y_place y_m (nI p) 0 k y_least y_top y_frames y_invalid y_sp y_labels y_active y_fuel y_outcome y_trappedAt y_result y_used y_waits y_printed y_bytes y_there y_types y_typeSig y_imports y_functions y_sig y_what y_typeAt y_localsAt y_globals y_globalKind y_globalFree y_globalValue y_entries y_entriesAt y_hasMemory y_memory y_nest y_kinds y_shape y_gives y_height y_dead y_stack y_labelAt y_labelHeight y_labelGives y_callModule y_callFunction y_callBack y_callBase y_callLabels y_waiting y_prints := by
    intro kd eo hkd
    have e2 : nI op - 19 = nI kd := by rw [eo]; exact (pk_sub (a := kd + 19) (b := 19) (by omega)).trans (by rw [Nat.add_sub_cancel])
    have hC : rd_C c n (if kd = 1 then 5 else 10) (true, p) = (true, q) := by
      rcases hkd with z | z
      · subst z; rw [eo, rd_R, if_neg (by omega), if_neg (by omega), if_pos rfl] at hR; exact hR
      · subst z; rw [eo, rd_R, if_neg (by omega), if_neg (by omega), if_neg (by omega), if_pos rfl] at hR; exact hR
    show wpY_takeConstant _ _ (nI op - 19)
    rw [e2]
    refine yq_const Q e kd (by omega) (by rw [hC]) ?_
    rw [hC]
    exact h _ (fun _ => by rw [show op - 19 = kd by omega])
  have w20 : ¬ (2 ≤ op ∧ op ≤ 4) → wY_takeRest_20 post (nI op) y_count y_place y_m (nI p) 0 k y_least y_top y_frames y_invalid y_sp y_labels y_active y_fuel y_outcome y_trappedAt y_result y_used y_waits y_printed y_bytes y_there y_types y_typeSig y_imports y_functions y_sig y_what y_typeAt y_localsAt y_globals y_globalKind y_globalFree y_globalValue y_entries y_entriesAt y_hasMemory y_memory y_nest y_kinds y_shape y_gives y_height y_dead y_stack y_labelAt y_labelHeight y_labelGives y_callModule y_callFunction y_callBack y_callBase y_callLabels y_waiting y_prints := by
    intro a1
    refine pk_eq op 9 (fun z => ?_) (fun b9 => pk_eq op 20 (fun z => w70 1 (by omega) (by omega)) (fun b20 => pk_eq op 21 (fun z => w70 2 (by omega) (by omega)) (fun b21 => pk_eq op 7 (fun z => w129 a1 b9 b20 b21 (by omega)) (fun b7 => pk_eq op 8 (fun z => w129 a1 b9 b20 b21 (by omega)) (fun b8 => pk_eq op 11 (fun z => w129 a1 b9 b20 b21 (by omega)) (fun b11 => pk_eq op 12 (fun z => w129 a1 b9 b20 b21 (by omega)) (fun b12 => pk_lt op 15 (fun z => w117 a1 b9 b20 b21 b7 b8 b11 b12 (by omega)) (fun b15 => pk_le op 19 (fun z => w129 a1 b9 b20 b21 (by omega)) (fun b19 => w117 a1 b9 b20 b21 b7 b8 b11 b12 (by omega))))))))))
    have h' := h k (fun z => absurd z (by omega))
    rw [rd_R, if_neg a1, if_pos z] at hR
    obtain ⟨a2, a3, a4, a5⟩ := rd_n_ok _ _ (show (rd_n c n 0 255 (rd_tv c n 0 4 (true, p) + 1) (rd_tk c n 0 4 (true, p))).1 = true by rw [hR])
    obtain ⟨t1, t2, t3, t4, t5, t6⟩ := rd_tk_ok a2
    rw [t3, t2] at hR a3 a5
    dsimp only at a3 t6 t5 a5
    rw [hR] at a3
    have a6 := a5 (by omega)
    have t7 : q = p + 1 + (c p + 1) := congrArg Prod.snd a3
    rw [t7] at h'
    exact yq_take Q e 0 4 t6 (by omega) t5 (by omega) ⟨c p + 2, yq_n_l Q e (c p) t5 (c p + 1) 0 _ (p + 1) (by omega) (by omega) a6 h'⟩
  refine pk_lt op 2 (fun b => w20 (by omega)) (fun b => pk_lt 4 op (fun b2 => w20 (by omega)) (fun b2 => ?_))
  have h' := h k (fun z => absurd z (by omega))
  rw [rd_R, if_pos (by omega)] at hR
  obtain ⟨t1, t2, t3, t4, t5, t6⟩ := rd_tk_ok (show (rd_tk c n 0 2 (true, p)).1 = true by rw [hR])
  rw [hR] at t2
  have t7 : q = p + 1 := congrArg Prod.snd t2
  rw [t7] at h'
  exact yq_take Q e 0 2 t6 (by omega) t5 (by omega) h'
theorem y_beyond {post : Int32 → SY → Prop} {a w : Int32} (Q : cq_ok y_m y_bytes m c n) (hp : p < n) (h66 : c p ≤ 66) (hR : rd_R c n (c p) (true, p + 1) = (true, nx c p))
    (h : ∀ k', (c p = 20 ∨ c p = 21 → k' = cv c (c p - 19) 10 (p + 1) 0 0) → post (nI (nx c p)) (y_count, y_place, y_m, nI (nx c p), 0, k', y_least, y_top, y_frames, y_invalid, y_sp, y_labels, y_active, y_fuel, y_outcome, y_trappedAt, y_result, y_used, y_waits, y_printed, y_bytes, y_there, y_types, y_typeSig, y_imports, y_functions, y_sig, y_what, y_typeAt, y_localsAt, y_globals, y_globalKind, y_globalFree, y_globalValue, y_entries, y_entriesAt, y_hasMemory, y_memory, y_nest, y_kinds, y_shape, y_gives, y_height, y_dead, y_stack, y_labelAt, y_labelHeight, y_labelGives, y_callModule, y_callFunction, y_callBack, y_callBase, y_callLabels, y_waiting, y_prints)) : wpY_beyond post (y_count, y_place, y_m, a, w, k, y_least, y_top, y_frames, y_invalid, y_sp, y_labels, y_active, y_fuel, y_outcome, y_trappedAt, y_result, y_used, y_waits, y_printed, y_bytes, y_there, y_types, y_typeSig, y_imports, y_functions, y_sig, y_what, y_typeAt, y_localsAt, y_globals, y_globalKind, y_globalFree, y_globalValue, y_entries, y_entriesAt, y_hasMemory, y_memory, y_nest, y_kinds, y_shape, y_gives, y_height, y_dead, y_stack, y_labelAt, y_labelHeight, y_labelGives, y_callModule, y_callFunction, y_callBack, y_callBase, y_callLabels, y_waiting, y_prints) (nI p) := by
  have Q' := Q
  obtain ⟨hm, h3, h140, hb, h256⟩ := Q
  refine nm_r (nI_1 p) ?_
  refine yr_at (c := c) hm h3 (by omega) (hb p hp) ?_
  exact yq_rest (y_count := 140) Q' rfl (c p) (nx c p) (by omega) hR h
theorem y_push {post : SY → Prop} {v : Int64} (i : Nat) (hi : i < 320) (e : y_sp = nI i) (h : post (y_count, y_place, y_m, y_pos, y_wrong, y_constant, y_least, y_top, y_frames, y_invalid, nI (i + 1), y_labels, y_active, y_fuel, y_outcome, y_trappedAt, y_result, y_used, y_waits, y_printed, y_bytes, y_there, y_types, y_typeSig, y_imports, y_functions, y_sig, y_what, y_typeAt, y_localsAt, y_globals, y_globalKind, y_globalFree, y_globalValue, y_entries, y_entriesAt, y_hasMemory, y_memory, y_nest, y_kinds, y_shape, y_gives, y_height, y_dead, vp_updL y_stack i v, y_labelAt, y_labelHeight, y_labelGives, y_callModule, y_callFunction, y_callBack, y_callBase, y_callLabels, y_waiting, y_prints)) : wpY_push post (y_count, y_place, y_m, y_pos, y_wrong, y_constant, y_least, y_top, y_frames, y_invalid, y_sp, y_labels, y_active, y_fuel, y_outcome, y_trappedAt, y_result, y_used, y_waits, y_printed, y_bytes, y_there, y_types, y_typeSig, y_imports, y_functions, y_sig, y_what, y_typeAt, y_localsAt, y_globals, y_globalKind, y_globalFree, y_globalValue, y_entries, y_entriesAt, y_hasMemory, y_memory, y_nest, y_kinds, y_shape, y_gives, y_height, y_dead, y_stack, y_labelAt, y_labelHeight, y_labelGives, y_callModule, y_callFunction, y_callBack, y_callBase, y_callLabels, y_waiting, y_prints) v := by
  subst e
  exact nm_r (nI_1 i) ⟨pk_in i 320 hi, nm_r (show _ = vp_updL y_stack i v from by rw [pk_cl i]) h⟩
theorem y_label {post : SY → Prop} {o r z : Int32} (i j g : Nat) (hi : i < 100) (hj : j < 30000) (hg : g < 128) (e : y_labels = nI i) (es : y_sp = nI j) (er : r = nI g) (eo : vp_nar .short o.toInt16.toInt32 = z) (h : post (y_count, y_place, y_m, y_pos, y_wrong, y_constant, y_least, y_top, y_frames, y_invalid, nI j, nI (i + 1), y_active, y_fuel, y_outcome, y_trappedAt, y_result, y_used, y_waits, y_printed, y_bytes, y_there, y_types, y_typeSig, y_imports, y_functions, y_sig, y_what, y_typeAt, y_localsAt, y_globals, y_globalKind, y_globalFree, y_globalValue, y_entries, y_entriesAt, y_hasMemory, y_memory, y_nest, y_kinds, y_shape, y_gives, y_height, y_dead, y_stack, upd y_labelAt i z, upd y_labelHeight i (nI j), upd y_labelGives i (nI g), y_callModule, y_callFunction, y_callBack, y_callBase, y_callLabels, y_waiting, y_prints)) : wpY_label post (y_count, y_place, y_m, y_pos, y_wrong, y_constant, y_least, y_top, y_frames, y_invalid, y_sp, y_labels, y_active, y_fuel, y_outcome, y_trappedAt, y_result, y_used, y_waits, y_printed, y_bytes, y_there, y_types, y_typeSig, y_imports, y_functions, y_sig, y_what, y_typeAt, y_localsAt, y_globals, y_globalKind, y_globalFree, y_globalValue, y_entries, y_entriesAt, y_hasMemory, y_memory, y_nest, y_kinds, y_shape, y_gives, y_height, y_dead, y_stack, y_labelAt, y_labelHeight, y_labelGives, y_callModule, y_callFunction, y_callBack, y_callBase, y_callLabels, y_waiting, y_prints) o r := by
  subst e es er eo
  refine ⟨pk_in i 100 hi, nm_r (show _ = upd y_labelAt i (vp_nar .short o.toInt16.toInt32) from by rw [pk_cl i]) ⟨pk_in i 100 hi, nm_r (show _ = upd y_labelHeight i (nI j) from by rw [pk_cl i, nr_s (by omega)]) (nm_r (nI_1 i) ⟨pk_in i 100 hi, nm_r (show _ = upd y_labelGives i (nI g) from by rw [pk_cl i, nr_b (by omega)]) h⟩)⟩⟩
theorem y_endOf_l {post : Int32 → SY → Prop} (Q : cq_ok y_m y_bytes m c n) (b : Bool) (z : Int32) (hz : z = bb_i b) (e : Nat) (h : ∀ a w k, post (nI e) (y_count, y_place, y_m, a, w, k, y_least, y_top, y_frames, y_invalid, y_sp, y_labels, y_active, y_fuel, y_outcome, y_trappedAt, y_result, y_used, y_waits, y_printed, y_bytes, y_there, y_types, y_typeSig, y_imports, y_functions, y_sig, y_what, y_typeAt, y_localsAt, y_globals, y_globalKind, y_globalFree, y_globalValue, y_entries, y_entriesAt, y_hasMemory, y_memory, y_nest, y_kinds, y_shape, y_gives, y_height, y_dead, y_stack, y_labelAt, y_labelHeight, y_labelGives, y_callModule, y_callFunction, y_callBack, y_callBase, y_callLabels, y_waiting, y_prints)) : ∀ j p d l (a w : Int32) (k : Int64), sv c n b j p d e → d + j < 1000000 → j < l →
    wY_endOf_5 post z l (nI p) (nI d) y_count y_place y_m a w k y_least y_top y_frames y_invalid y_sp y_labels y_active y_fuel y_outcome y_trappedAt y_result y_used y_waits y_printed y_bytes y_there y_types y_typeSig y_imports y_functions y_sig y_what y_typeAt y_localsAt y_globals y_globalKind y_globalFree y_globalValue y_entries y_entriesAt y_hasMemory y_memory y_nest y_kinds y_shape y_gives y_height y_dead y_stack y_labelAt y_labelHeight y_labelGives y_callModule y_callFunction y_callBack y_callBase y_callLabels y_waiting y_prints := by
  subst hz
  obtain ⟨hm, h3, h140, hb, h256⟩ := id Q
  intro j
  induction j with
  | zero =>
    intro p d l a w k q hd hl
    obtain ⟨l, rfl⟩ : ∃ i, l = i + 1 := ⟨l - 1, by omega⟩
    obtain ⟨q1, q2, q3, q4⟩ := q
    have hcp := h256 p
    have at' : ∀ (post : Int32 → Prop), post (nI (c p)) → wpY_at post (y_count, y_place, y_m, a, w, k, y_least, y_top, y_frames, y_invalid, y_sp, y_labels, y_active, y_fuel, y_outcome, y_trappedAt, y_result, y_used, y_waits, y_printed, y_bytes, y_there, y_types, y_typeSig, y_imports, y_functions, y_sig, y_what, y_typeAt, y_localsAt, y_globals, y_globalKind, y_globalFree, y_globalValue, y_entries, y_entriesAt, y_hasMemory, y_memory, y_nest, y_kinds, y_shape, y_gives, y_height, y_dead, y_stack, y_labelAt, y_labelHeight, y_labelGives, y_callModule, y_callFunction, y_callBack, y_callBase, y_callLabels, y_waiting, y_prints) (nI p) := fun post h => yr_at hm h3 (by omega) (hb p q1) h
    subst q2 q3
    refine pk_lt 0 0 (fun y => absurd y (by omega)) (fun _ => at' _ (pk_eq (c e) 6 (fun _ => h _ _ _) (fun h6 => ?_)))
    rcases q4 with y | ⟨y1, y2⟩
    · exact absurd y h6
    · subst y1
      exact br_f (by decide) (at' _ (pk_eq (c e) 5 (fun _ => h _ _ _) (fun y => absurd y2 y)))
  | succ j ih =>
    intro p d l a w k q hd hl
    obtain ⟨l, rfl⟩ : ∃ i, l = i + 1 := ⟨l - 1, by omega⟩
    obtain ⟨q1, q2, q3, q4, q5, q6, q7⟩ := q
    have hcp := h256 p
    have at' : ∀ (post : Int32 → Prop), post (nI (c p)) → wpY_at post (y_count, y_place, y_m, a, w, k, y_least, y_top, y_frames, y_invalid, y_sp, y_labels, y_active, y_fuel, y_outcome, y_trappedAt, y_result, y_used, y_waits, y_printed, y_bytes, y_there, y_types, y_typeSig, y_imports, y_functions, y_sig, y_what, y_typeAt, y_localsAt, y_globals, y_globalKind, y_globalFree, y_globalValue, y_entries, y_entriesAt, y_hasMemory, y_memory, y_nest, y_kinds, y_shape, y_gives, y_height, y_dead, y_stack, y_labelAt, y_labelHeight, y_labelGives, y_callModule, y_callFunction, y_callBack, y_callBase, y_callLabels, y_waiting, y_prints) (nI p) := fun post h => yr_at hm h3 (by omega) (hb p q1) h
    have g67 : ∀ d', d' = (if 2 ≤ c p ∧ c p ≤ 4 then d + 1 else if c p = 6 then d - 1 else d) → wY_endOf_67 post (wY_endOf_5 post (bb_i b) l) (bb_i b) (nI p) (nI d') y_count y_place y_m a w k y_least y_top y_frames y_invalid y_sp y_labels y_active y_fuel y_outcome y_trappedAt y_result y_used y_waits y_printed y_bytes y_there y_types y_typeSig y_imports y_functions y_sig y_what y_typeAt y_localsAt y_globals y_globalKind y_globalFree y_globalValue y_entries y_entriesAt y_hasMemory y_memory y_nest y_kinds y_shape y_gives y_height y_dead y_stack y_labelAt y_labelHeight y_labelGives y_callModule y_callFunction y_callBack y_callBase y_callLabels y_waiting y_prints := by
      intro d' ed
      rw [← ed] at q7
      have hd' : d' ≤ d + 1 := by rw [ed]; split; omega; split <;> omega
      refine y_beyond Q q1 q2 q3 (fun k' _ => ?_)
      exact ih (nx c p) d' l _ _ _ q7 (by omega) (by omega)
    have g54 : ∀ d', (c p = 6 → d' = d ∧ d ≠ 0) → (c p ≠ 6 → d' = (if 2 ≤ c p ∧ c p ≤ 4 then d + 1 else if c p = 6 then d - 1 else d)) → wY_endOf_54 post (wY_endOf_5 post (bb_i b) l) (bb_i b) (nI p) (nI d') y_count y_place y_m a w k y_least y_top y_frames y_invalid y_sp y_labels y_active y_fuel y_outcome y_trappedAt y_result y_used y_waits y_printed y_bytes y_there y_types y_typeSig y_imports y_functions y_sig y_what y_typeAt y_localsAt y_globals y_globalKind y_globalFree y_globalValue y_entries y_entriesAt y_hasMemory y_memory y_nest y_kinds y_shape y_gives y_height y_dead y_stack y_labelAt y_labelHeight y_labelGives y_callModule y_callFunction y_callBack y_callBase y_callLabels y_waiting y_prints := by
      intro d' e6 en
      refine at' _ (pk_eq (c p) 6 (fun h6 => ?_) (fun h6 => g67 d' (en h6)))
      obtain ⟨x1, x2⟩ := e6 h6
      subst x1
      refine nm_r (show nI d' + (-1) = nI (d' - 1) from ?_) (g67 (d' - 1) (by rw [if_neg (by omega), if_pos h6]))
      have := pk_m1 (d' - 1)
      rw [show d' - 1 + 1 = d' by omega] at this
      exact this
    have g33 : wY_endOf_33 post (wY_endOf_5 post (bb_i b) l) (bb_i b) (nI p) (nI d) y_count y_place y_m a w k y_least y_top y_frames y_invalid y_sp y_labels y_active y_fuel y_outcome y_trappedAt y_result y_used y_waits y_printed y_bytes y_there y_types y_typeSig y_imports y_functions y_sig y_what y_typeAt y_localsAt y_globals y_globalKind y_globalFree y_globalValue y_entries y_entriesAt y_hasMemory y_memory y_nest y_kinds y_shape y_gives y_height y_dead y_stack y_labelAt y_labelHeight y_labelGives y_callModule y_callFunction y_callBack y_callBase y_callLabels y_waiting y_prints := by
      have g : ¬ (2 ≤ c p ∧ c p ≤ 4) → wY_endOf_54 post (wY_endOf_5 post (bb_i b) l) (bb_i b) (nI p) (nI d) y_count y_place y_m a w k y_least y_top y_frames y_invalid y_sp y_labels y_active y_fuel y_outcome y_trappedAt y_result y_used y_waits y_printed y_bytes y_there y_types y_typeSig y_imports y_functions y_sig y_what y_typeAt y_localsAt y_globals y_globalKind y_globalFree y_globalValue y_entries y_entriesAt y_hasMemory y_memory y_nest y_kinds y_shape y_gives y_height y_dead y_stack y_labelAt y_labelHeight y_labelGives y_callModule y_callFunction y_callBack y_callBase y_callLabels y_waiting y_prints := by
        intro ho
        refine g54 d (fun h6 => ⟨rfl, fun y => q6 ⟨y, Or.inl h6⟩⟩) (fun h6 => ?_)
        rw [if_neg ho, if_neg h6]
      refine at' _ (pk_lt (c p) 2 (fun y => g (by omega)) (fun y => at' _ (pk_lt 4 (c p) (fun y2 => g (by omega)) (fun y2 => nm_r (nI_1 d) (g54 (d + 1) (fun h6 => absurd h6 (by omega)) (fun _ => ?_))))))
      rw [if_pos (by omega)]
    refine pk_lt 0 d (fun _ => g33) (fun y => at' _ (pk_eq (c p) 6 (fun h6 => absurd ⟨by omega, Or.inl h6⟩ q6) (fun h6 => ?_)))
    cases b with
    | false => exact br_t rfl g33
    | true => exact br_f (by decide) (at' _ (pk_eq (c p) 5 (fun h5 => absurd ⟨by omega, Or.inr ⟨rfl, h5⟩⟩ q6) (fun _ => g33)))
theorem y_endOf {post : Int32 → SY → Prop} {a w : Int32} (Q : cq_ok y_m y_bytes m c n) (b : Bool) (z : Int32) (hz : z = bb_i b) (j e : Nat) (q : sv c n b j p 0 e) (h : ∀ a w k, post (nI e) (y_count, y_place, y_m, a, w, k, y_least, y_top, y_frames, y_invalid, y_sp, y_labels, y_active, y_fuel, y_outcome, y_trappedAt, y_result, y_used, y_waits, y_printed, y_bytes, y_there, y_types, y_typeSig, y_imports, y_functions, y_sig, y_what, y_typeAt, y_localsAt, y_globals, y_globalKind, y_globalFree, y_globalValue, y_entries, y_entriesAt, y_hasMemory, y_memory, y_nest, y_kinds, y_shape, y_gives, y_height, y_dead, y_stack, y_labelAt, y_labelHeight, y_labelGives, y_callModule, y_callFunction, y_callBack, y_callBase, y_callLabels, y_waiting, y_prints)) : wpY_endOf post (y_count, y_place, y_m, a, w, k, y_least, y_top, y_frames, y_invalid, y_sp, y_labels, y_active, y_fuel, y_outcome, y_trappedAt, y_result, y_used, y_waits, y_printed, y_bytes, y_there, y_types, y_typeSig, y_imports, y_functions, y_sig, y_what, y_typeAt, y_localsAt, y_globals, y_globalKind, y_globalFree, y_globalValue, y_entries, y_entriesAt, y_hasMemory, y_memory, y_nest, y_kinds, y_shape, y_gives, y_height, y_dead, y_stack, y_labelAt, y_labelHeight, y_labelGives, y_callModule, y_callFunction, y_callBack, y_callBase, y_callLabels, y_waiting, y_prints) (nI p) z :=
  ⟨j + 1, y_endOf_l Q b z hz e h j p 0 (j + 1) a w k q (by have := sv_len _ _ _ _ q; have := Q.2.2.1; omega) (by omega)⟩
theorem y_pre {post : Int32 → SY → Prop} {pos wr : Int32} (Q : cq_ok y_m y_bytes m c n) (hp : p < n) (h : ∀ x z : Int32, (p + 1 < n → x = nI (c (p + 1)) ∧ z = nI (p + 1)) → vp_in (140 * y_m + z) 420 → y_bytes (140 * y_m + z).toNatClampNeg = x → wY_step_21 post (nI p) (nI (c p)) z y_count y_place y_m pos wr k y_least y_top y_frames y_invalid y_sp y_labels y_active y_fuel y_outcome y_trappedAt y_result y_used y_waits y_printed y_bytes y_there y_types y_typeSig y_imports y_functions y_sig y_what y_typeAt y_localsAt y_globals y_globalKind y_globalFree y_globalValue y_entries y_entriesAt y_hasMemory y_memory y_nest y_kinds y_shape y_gives y_height y_dead y_stack y_labelAt y_labelHeight y_labelGives y_callModule y_callFunction y_callBack y_callBase y_callLabels y_waiting y_prints) : wpY_step post (y_count, y_place, y_m, pos, wr, k, y_least, y_top, y_frames, y_invalid, y_sp, y_labels, y_active, y_fuel, y_outcome, y_trappedAt, y_result, y_used, y_waits, y_printed, y_bytes, y_there, y_types, y_typeSig, y_imports, y_functions, y_sig, y_what, y_typeAt, y_localsAt, y_globals, y_globalKind, y_globalFree, y_globalValue, y_entries, y_entriesAt, y_hasMemory, y_memory, y_nest, y_kinds, y_shape, y_gives, y_height, y_dead, y_stack, y_labelAt, y_labelHeight, y_labelGives, y_callModule, y_callFunction, y_callBack, y_callBase, y_callLabels, y_waiting, y_prints) (nI p) := by
  obtain ⟨hm, h3, h140, hb, h256⟩ := id Q
  unfold wpY_step
  refine yr_at hm h3 (by omega) (hb p hp) ?_
  have key : ∀ r : Nat, r < 140 → (140 * y_m + nI r) = nI (140 * m + r) := fun r hr => by rw [hm, show (140 : Int32) = nI 140 from rfl, pk_mul, nI_add]
  refine pk_le 139 p (fun y => h _ (nI p) (fun y2 => absurd y2 (by omega)) (pk_in (140 * m + p) 420 (by omega) (key p (by omega))) rfl) (fun y => ?_)
  rw [nI_1 p]
  refine h _ _ (fun y2 => ⟨?_, rfl⟩) (pk_in (140 * m + (p + 1)) 420 (by omega) (key (p + 1) (by omega))) rfl
  rw [key (p + 1) (by omega), pk_cl (140 * m + (p + 1))]
  exact hb (p + 1) y2
end
