section
variable {y_count y_place y_m y_pos y_wrong y_least y_top y_frames y_invalid y_sp y_labels y_active y_fuel y_outcome y_trappedAt y_used y_waits y_printed : Int32} {y_constant y_result : Int64} {y_bytes y_there y_types y_typeSig y_imports y_functions y_sig y_what y_typeAt y_localsAt y_globals y_globalKind y_globalFree y_entries y_entriesAt y_hasMemory y_memory y_nest y_kinds y_shape y_gives y_height y_dead y_labelAt y_labelHeight y_labelGives y_callModule y_callFunction y_callBack y_callBase y_callLabels y_waiting y_prints : Nat → Int32} {y_globalValue y_stack : Nat → Int64}
variable {KI SH GI HE DE : Nat → Int32} {S : vt_St} {c : Nat → Nat} {n p : Nat}
theorem y_mem {post : SY → Prop} (mp : mp_ok c n) (W : yw_ok c n y_types y_typeSig y_functions y_sig y_localsAt y_globals y_globalKind y_globalFree y_hasMemory) (op : Nat) (hop : 20 ≤ op) (hop2 : op < 28) (hF : S.2.1 ≠ []) (R : YV S KI SH GI HE DE)
    (h : ∀ KI SH GI HE DE, YV (vt_mem c n op S) KI SH GI HE DE → post (y_count, y_place, y_m, y_pos, y_wrong, y_constant, y_least, nI (vt_mem c n op S).1.length, nI (vt_mem c n op S).2.1.length, bb_i (vt_mem c n op S).2.2, y_sp, y_labels, y_active, y_fuel, y_outcome, y_trappedAt, y_result, y_used, y_waits, y_printed, y_bytes, y_there, y_types, y_typeSig, y_imports, y_functions, y_sig, y_what, y_typeAt, y_localsAt, y_globals, y_globalKind, y_globalFree, y_globalValue, y_entries, y_entriesAt, y_hasMemory, y_memory, y_nest, KI, SH, GI, HE, DE, y_stack, y_labelAt, y_labelHeight, y_labelGives, y_callModule, y_callFunction, y_callBack, y_callBase, y_callLabels, y_waiting, y_prints)) : wpY_checkMemory post (y_count, y_place, y_m, y_pos, y_wrong, y_constant, y_least, nI S.1.length, nI S.2.1.length, bb_i S.2.2, y_sp, y_labels, y_active, y_fuel, y_outcome, y_trappedAt, y_result, y_used, y_waits, y_printed, y_bytes, y_there, y_types, y_typeSig, y_imports, y_functions, y_sig, y_what, y_typeAt, y_localsAt, y_globals, y_globalKind, y_globalFree, y_globalValue, y_entries, y_entriesAt, y_hasMemory, y_memory, y_nest, KI, SH, GI, HE, DE, y_stack, y_labelAt, y_labelHeight, y_labelGives, y_callModule, y_callFunction, y_callBack, y_callBase, y_callLabels, y_waiting, y_prints) (nI op) := by
  obtain ⟨w1, w2, w3, w4, w5, w6, w7, w8⟩ := id W
  have hm1 : c (tl_m c n (m_pG c n)) ≤ 1 := mp.2.2.2.2.2.2.2.2.2.1
  refine pk_le 22 op (fun z => ?_) (fun z => ?_)
  · rw [vt_mem, if_neg (by omega)] at h
    have w51 : ∀ S1 : vt_St, S1.2.1 ≠ [] → YV S1 KI SH GI HE DE → (op < 25 → ∀ KI SH GI HE DE, YV (vt_gv (if op = 24 then 2 else 1) (vt_pl 1 S1)) KI SH GI HE DE → post (y_count, y_place, y_m, y_pos, y_wrong, y_constant, y_least, nI (vt_gv (if op = 24 then 2 else 1) (vt_pl 1 S1)).1.length, nI (vt_gv (if op = 24 then 2 else 1) (vt_pl 1 S1)).2.1.length, bb_i (vt_gv (if op = 24 then 2 else 1) (vt_pl 1 S1)).2.2, y_sp, y_labels, y_active, y_fuel, y_outcome, y_trappedAt, y_result, y_used, y_waits, y_printed, y_bytes, y_there, y_types, y_typeSig, y_imports, y_functions, y_sig, y_what, y_typeAt, y_localsAt, y_globals, y_globalKind, y_globalFree, y_globalValue, y_entries, y_entriesAt, y_hasMemory, y_memory, y_nest, KI, SH, GI, HE, DE, y_stack, y_labelAt, y_labelHeight, y_labelGives, y_callModule, y_callFunction, y_callBack, y_callBase, y_callLabels, y_waiting, y_prints)) → (25 ≤ op → ∀ KI SH GI HE DE, YV (vt_pl 1 S1) KI SH GI HE DE → post (y_count, y_place, y_m, y_pos, y_wrong, y_constant, y_least, nI (vt_pl 1 S1).1.length, nI (vt_pl 1 S1).2.1.length, bb_i (vt_pl 1 S1).2.2, y_sp, y_labels, y_active, y_fuel, y_outcome, y_trappedAt, y_result, y_used, y_waits, y_printed, y_bytes, y_there, y_types, y_typeSig, y_imports, y_functions, y_sig, y_what, y_typeAt, y_localsAt, y_globals, y_globalKind, y_globalFree, y_globalValue, y_entries, y_entriesAt, y_hasMemory, y_memory, y_nest, KI, SH, GI, HE, DE, y_stack, y_labelAt, y_labelHeight, y_labelGives, y_callModule, y_callFunction, y_callBack, y_callBase, y_callLabels, y_waiting, y_prints)) → wY_checkMemory_51 post (nI op) y_count y_place y_m y_pos y_wrong y_constant y_least (nI S1.1.length) (nI S1.2.1.length) (bb_i S1.2.2) y_sp y_labels y_active y_fuel y_outcome y_trappedAt y_result y_used y_waits y_printed y_bytes y_there y_types y_typeSig y_imports y_functions y_sig y_what y_typeAt y_localsAt y_globals y_globalKind y_globalFree y_globalValue y_entries y_entriesAt y_hasMemory y_memory y_nest KI SH GI HE DE y_stack y_labelAt y_labelHeight y_labelGives y_callModule y_callFunction y_callBack y_callBase y_callLabels y_waiting y_prints := by
      intro S1 hF1 R1 h1 h2
      unfold wY_checkMemory_51
      refine y_pull 1 (by omega) hF1 R1 (fun R2 _ _ => pk_le 25 op (fun z => h2 z _ _ _ _ _ R2) (fun z => pk_eq op 24 (fun z2 => ?_) (fun z2 => ?_)))
      · have h1' := h1 z
        rw [if_pos z2] at h1'
        unfold wY_checkMemory_75
        exact y_give 2 (by omega) R2 (fun KI SH GI HE DE a _ => h1' KI SH GI HE DE a)
      · have h1' := h1 z
        rw [if_neg z2] at h1'
        unfold wY_checkMemory_75
        exact y_give 1 (by omega) R2 (fun KI SH GI HE DE a _ => h1' KI SH GI HE DE a)
    have w29 : ∀ b, decide (c (tl_m c n (m_pG c n)) = 0) = b → ∀ iv, iv = bb_i (vt_bad S b).2.2 → wY_checkMemory_29 post (nI op) y_count y_place y_m y_pos y_wrong y_constant y_least (nI S.1.length) (nI S.2.1.length) iv y_sp y_labels y_active y_fuel y_outcome y_trappedAt y_result y_used y_waits y_printed y_bytes y_there y_types y_typeSig y_imports y_functions y_sig y_what y_typeAt y_localsAt y_globals y_globalKind y_globalFree y_globalValue y_entries y_entriesAt y_hasMemory y_memory y_nest KI SH GI HE DE y_stack y_labelAt y_labelHeight y_labelGives y_callModule y_callFunction y_callBack y_callBase y_callLabels y_waiting y_prints := by
      intro b eb iv eiv
      subst eiv
      rw [eb] at h
      have w47 : ∀ k, k ≤ 2 → 25 ≤ op → (if op = 27 then 2 else 1) = k → wY_checkMemory_47 post (nI op) (nI k) y_count y_place y_m y_pos y_wrong y_constant y_least (nI (vt_bad S b).1.length) (nI (vt_bad S b).2.1.length) (bb_i (vt_bad S b).2.2) y_sp y_labels y_active y_fuel y_outcome y_trappedAt y_result y_used y_waits y_printed y_bytes y_there y_types y_typeSig y_imports y_functions y_sig y_what y_typeAt y_localsAt y_globals y_globalKind y_globalFree y_globalValue y_entries y_entriesAt y_hasMemory y_memory y_nest KI SH GI HE DE y_stack y_labelAt y_labelHeight y_labelGives y_callModule y_callFunction y_callBack y_callBase y_callLabels y_waiting y_prints := by
        intro k hk ho ek
        rw [if_neg (by omega), ek] at h
        unfold wY_checkMemory_47
        refine y_pull (S := vt_bad S b) k hk hF R (fun R1 _ e1 => ?_)
        exact w51 _ (by rw [e1]; exact hF) R1 (fun y => absurd y (by omega)) (fun _ => h)
      refine pk_lt op 25 (fun y => ?_) (fun y => pk_eq op 27 (fun y2 => w47 2 (by omega) y (if_pos y2)) (fun y2 => w47 1 (by omega) y (if_neg y2)))
      rw [if_pos y] at h
      exact w51 (vt_bad S b) hF R (fun _ => h) (fun y2 => absurd y2 (by omega))
    exact pk_eq (c (tl_m c n (m_pG c n))) 0 (fun z2 => w29 true (decide_eq_true z2) _ (by rw [vb_t]; rfl)) (fun z2 => w29 false (decide_eq_false z2) _ (by rw [vb_f])) w8 rfl
  · rw [vt_mem, if_pos (by omega)] at h
    have e : nI op - 19 = nI (op - 19) := pk_sub (b := 19) (by omega)
    refine eq_p (P := fun z => wpY_give _ _ z) e ?_
    exact y_give (op - 19) (by omega) R (fun KI SH GI HE DE a _ => h KI SH GI HE DE a)
theorem y_num {post : SY → Prop} (op : Nat) (hop : 28 ≤ op) (hop2 : op ≤ 66) (hF : S.2.1 ≠ []) (R : YV S KI SH GI HE DE)
    (h : ∀ KI SH GI HE DE, YV (vt_num op S) KI SH GI HE DE → post (y_count, y_place, y_m, y_pos, y_wrong, y_constant, y_least, nI (vt_num op S).1.length, nI (vt_num op S).2.1.length, bb_i (vt_num op S).2.2, y_sp, y_labels, y_active, y_fuel, y_outcome, y_trappedAt, y_result, y_used, y_waits, y_printed, y_bytes, y_there, y_types, y_typeSig, y_imports, y_functions, y_sig, y_what, y_typeAt, y_localsAt, y_globals, y_globalKind, y_globalFree, y_globalValue, y_entries, y_entriesAt, y_hasMemory, y_memory, y_nest, KI, SH, GI, HE, DE, y_stack, y_labelAt, y_labelHeight, y_labelGives, y_callModule, y_callFunction, y_callBack, y_callBase, y_callLabels, y_waiting, y_prints)) : wpY_checkNumbers post (y_count, y_place, y_m, y_pos, y_wrong, y_constant, y_least, nI S.1.length, nI S.2.1.length, bb_i S.2.2, y_sp, y_labels, y_active, y_fuel, y_outcome, y_trappedAt, y_result, y_used, y_waits, y_printed, y_bytes, y_there, y_types, y_typeSig, y_imports, y_functions, y_sig, y_what, y_typeAt, y_localsAt, y_globals, y_globalKind, y_globalFree, y_globalValue, y_entries, y_entriesAt, y_hasMemory, y_memory, y_nest, KI, SH, GI, HE, DE, y_stack, y_labelAt, y_labelHeight, y_labelGives, y_callModule, y_callFunction, y_callBack, y_callBase, y_callLabels, y_waiting, y_prints) (nI op) := by
  have w90 : ∀ (k : Nat) (S1 : vt_St), k ≤ 2 → YV S1 KI SH GI HE DE → (∀ KI SH GI HE DE, YV (vt_gv k S1) KI SH GI HE DE → post (y_count, y_place, y_m, y_pos, y_wrong, y_constant, y_least, nI (vt_gv k S1).1.length, nI (vt_gv k S1).2.1.length, bb_i (vt_gv k S1).2.2, y_sp, y_labels, y_active, y_fuel, y_outcome, y_trappedAt, y_result, y_used, y_waits, y_printed, y_bytes, y_there, y_types, y_typeSig, y_imports, y_functions, y_sig, y_what, y_typeAt, y_localsAt, y_globals, y_globalKind, y_globalFree, y_globalValue, y_entries, y_entriesAt, y_hasMemory, y_memory, y_nest, KI, SH, GI, HE, DE, y_stack, y_labelAt, y_labelHeight, y_labelGives, y_callModule, y_callFunction, y_callBack, y_callBase, y_callLabels, y_waiting, y_prints)) → wY_checkNumbers_90 post (nI k) y_count y_place y_m y_pos y_wrong y_constant y_least (nI S1.1.length) (nI S1.2.1.length) (bb_i S1.2.2) y_sp y_labels y_active y_fuel y_outcome y_trappedAt y_result y_used y_waits y_printed y_bytes y_there y_types y_typeSig y_imports y_functions y_sig y_what y_typeAt y_localsAt y_globals y_globalKind y_globalFree y_globalValue y_entries y_entriesAt y_hasMemory y_memory y_nest KI SH GI HE DE y_stack y_labelAt y_labelHeight y_labelGives y_callModule y_callFunction y_callBack y_callBase y_callLabels y_waiting y_prints := by
    intro k S1 hk R1 h1
    unfold wY_checkNumbers_90
    exact y_give k hk R1 (fun KI SH GI HE DE a _ => h1 KI SH GI HE DE a)
  have w58 : ∀ S1 : vt_St, YV S1 KI SH GI HE DE → (∀ KI SH GI HE DE, YV (vt_gv (if op < 52 then 1 else if op < 64 then 2 else if op = 64 then 1 else 2) S1) KI SH GI HE DE → post (y_count, y_place, y_m, y_pos, y_wrong, y_constant, y_least, nI (vt_gv (if op < 52 then 1 else if op < 64 then 2 else if op = 64 then 1 else 2) S1).1.length, nI (vt_gv (if op < 52 then 1 else if op < 64 then 2 else if op = 64 then 1 else 2) S1).2.1.length, bb_i (vt_gv (if op < 52 then 1 else if op < 64 then 2 else if op = 64 then 1 else 2) S1).2.2, y_sp, y_labels, y_active, y_fuel, y_outcome, y_trappedAt, y_result, y_used, y_waits, y_printed, y_bytes, y_there, y_types, y_typeSig, y_imports, y_functions, y_sig, y_what, y_typeAt, y_localsAt, y_globals, y_globalKind, y_globalFree, y_globalValue, y_entries, y_entriesAt, y_hasMemory, y_memory, y_nest, KI, SH, GI, HE, DE, y_stack, y_labelAt, y_labelHeight, y_labelGives, y_callModule, y_callFunction, y_callBack, y_callBase, y_callLabels, y_waiting, y_prints)) → wY_checkNumbers_58 post (nI op) y_count y_place y_m y_pos y_wrong y_constant y_least (nI S1.1.length) (nI S1.2.1.length) (bb_i S1.2.2) y_sp y_labels y_active y_fuel y_outcome y_trappedAt y_result y_used y_waits y_printed y_bytes y_there y_types y_typeSig y_imports y_functions y_sig y_what y_typeAt y_localsAt y_globals y_globalKind y_globalFree y_globalValue y_entries y_entriesAt y_hasMemory y_memory y_nest KI SH GI HE DE y_stack y_labelAt y_labelHeight y_labelGives y_callModule y_callFunction y_callBack y_callBase y_callLabels y_waiting y_prints := by
    intro S1 R1 h1
    refine pk_le 52 op (fun z => pk_le 64 op (fun z2 => pk_eq op 64 (fun z3 => ?_) (fun z3 => ?_)) (fun z2 => ?_)) (fun z => ?_)
    · rw [if_neg (by omega), if_neg (by omega), if_pos z3] at h1; exact w90 1 S1 (by omega) R1 h1
    · rw [if_neg (by omega), if_neg (by omega), if_neg z3] at h1; exact w90 2 S1 (by omega) R1 h1
    · rw [if_neg (by omega), if_pos z2] at h1; exact w90 2 S1 (by omega) R1 h1
    · rw [if_pos z] at h1; exact w90 1 S1 (by omega) R1 h1
  rw [vt_num] at h
  have w36 : ∀ k, (if 46 ≤ op ∧ op ≤ 64 then 2 else 1) = k → k ≤ 2 → (op = 28 ∨ op = 46 ∨ 64 ≤ op) → wY_checkNumbers_36 post (nI op) (nI k) y_count y_place y_m y_pos y_wrong y_constant y_least (nI S.1.length) (nI S.2.1.length) (bb_i S.2.2) y_sp y_labels y_active y_fuel y_outcome y_trappedAt y_result y_used y_waits y_printed y_bytes y_there y_types y_typeSig y_imports y_functions y_sig y_what y_typeAt y_localsAt y_globals y_globalKind y_globalFree y_globalValue y_entries y_entriesAt y_hasMemory y_memory y_nest KI SH GI HE DE y_stack y_labelAt y_labelHeight y_labelGives y_callModule y_callFunction y_callBack y_callBase y_callLabels y_waiting y_prints := by
    intro k ek hk ho
    rw [if_pos ho, ek] at h
    unfold wY_checkNumbers_36 wY_checkNumbers_41
    exact y_pull k hk hF R (fun R1 _ _ => br_f (by decide) (w58 _ R1 h))
  have w17 : ∀ k, (if 46 ≤ op ∧ op ≤ 64 then 2 else 1) = k → k ≤ 2 → wY_checkNumbers_17 post (nI op) (nI k) y_count y_place y_m y_pos y_wrong y_constant y_least (nI S.1.length) (nI S.2.1.length) (bb_i S.2.2) y_sp y_labels y_active y_fuel y_outcome y_trappedAt y_result y_used y_waits y_printed y_bytes y_there y_types y_typeSig y_imports y_functions y_sig y_what y_typeAt y_localsAt y_globals y_globalKind y_globalFree y_globalValue y_entries y_entriesAt y_hasMemory y_memory y_nest KI SH GI HE DE y_stack y_labelAt y_labelHeight y_labelGives y_callModule y_callFunction y_callBack y_callBase y_callLabels y_waiting y_prints := by
    intro k ek hk
    refine pk_eq op 28 (fun z => w36 k ek hk (by omega)) (fun z => pk_eq op 46 (fun z2 => w36 k ek hk (by omega)) (fun z2 => pk_lt op 64 (fun z3 => ?_) (fun z3 => w36 k ek hk (by omega))))
    rw [if_neg (show ¬ (op = 28 ∨ op = 46 ∨ 64 ≤ op) by omega), ek] at h
    unfold wY_checkNumbers_41
    refine y_pull k hk hF R (fun R1 _ e1 => br_t rfl ?_)
    exact y_pull k hk (by rw [e1]; exact hF) R1 (fun R2 _ _ => w58 _ R2 h)
  exact pk_lt op 46 (fun z => w17 1 (if_neg (by omega)) (by omega)) (fun z => pk_lt 64 op (fun z2 => w17 1 (if_neg (by omega)) (by omega)) (fun z2 => w17 2 (if_pos (by omega)) (by omega)))
theorem y_check {post : SY → Prop} (C : cy_ok y_count y_m y_bytes 2 c n) (mp : mp_ok c n) (W : yw_ok c n y_types y_typeSig y_functions y_sig y_localsAt y_globals y_globalKind y_globalFree y_hasMemory) (f x : Nat) (hf : m_I c n ≤ f) (hf2 : f < m_I c n + m_F c n) (ht : c (m_fa c n f) < c 0)
    (h66 : c p ≤ 66) (hxo : rd_ho (c p) → x = c (p + 1)) (hx : x < 256) (h24 : 2 ≤ c p ∧ c p ≤ 4 → c (p + 1) ≤ 2) (h9 : c p = 9 → c (p + 1) ≤ 4 ∧ p + 1 + c (p + 1) + 1 < n) (hb : S.2.2 = false) (hF : S.2.1 ≠ []) (R : YV S KI SH GI HE DE)
    (h : ∀ KI SH GI HE DE, YV (v_st c n f p S) KI SH GI HE DE → post (y_count, y_place, y_m, y_pos, y_wrong, y_constant, y_least, nI (v_st c n f p S).1.length, nI (v_st c n f p S).2.1.length, bb_i (v_st c n f p S).2.2, y_sp, y_labels, y_active, y_fuel, y_outcome, y_trappedAt, y_result, y_used, y_waits, y_printed, y_bytes, y_there, y_types, y_typeSig, y_imports, y_functions, y_sig, y_what, y_typeAt, y_localsAt, y_globals, y_globalKind, y_globalFree, y_globalValue, y_entries, y_entriesAt, y_hasMemory, y_memory, y_nest, KI, SH, GI, HE, DE, y_stack, y_labelAt, y_labelHeight, y_labelGives, y_callModule, y_callFunction, y_callBack, y_callBase, y_callLabels, y_waiting, y_prints)) : wpY_check post (y_count, y_place, y_m, y_pos, y_wrong, y_constant, y_least, nI S.1.length, nI S.2.1.length, bb_i S.2.2, y_sp, y_labels, y_active, y_fuel, y_outcome, y_trappedAt, y_result, y_used, y_waits, y_printed, y_bytes, y_there, y_types, y_typeSig, y_imports, y_functions, y_sig, y_what, y_typeAt, y_localsAt, y_globals, y_globalKind, y_globalFree, y_globalValue, y_entries, y_entriesAt, y_hasMemory, y_memory, y_nest, KI, SH, GI, HE, DE, y_stack, y_labelAt, y_labelHeight, y_labelGives, y_callModule, y_callFunction, y_callBack, y_callBase, y_callLabels, y_waiting, y_prints) (nI f) (nI (c p)) (nI x) (nI p) := by
  have h31 : c p < 2 ^ 31 := by omega
  have h256 := C.2.2.2.2.2
  unfold v_st at h
  have k0 : c p = 0 → wpY_die (fun u => post u) (y_count, y_place, y_m, y_pos, y_wrong, y_constant, y_least, nI S.1.length, nI S.2.1.length, bb_i S.2.2, y_sp, y_labels, y_active, y_fuel, y_outcome, y_trappedAt, y_result, y_used, y_waits, y_printed, y_bytes, y_there, y_types, y_typeSig, y_imports, y_functions, y_sig, y_what, y_typeAt, y_localsAt, y_globals, y_globalKind, y_globalFree, y_globalValue, y_entries, y_entriesAt, y_hasMemory, y_memory, y_nest, KI, SH, GI, HE, DE, y_stack, y_labelAt, y_labelHeight, y_labelGives, y_callModule, y_callFunction, y_callBack, y_callBase, y_callLabels, y_waiting, y_prints) := by
    intro z; rw [if_pos z] at h; exact y_die hF R h
  have k1 : c p = 1 → post (y_count, y_place, y_m, y_pos, y_wrong, y_constant, y_least, nI S.1.length, nI S.2.1.length, bb_i S.2.2, y_sp, y_labels, y_active, y_fuel, y_outcome, y_trappedAt, y_result, y_used, y_waits, y_printed, y_bytes, y_there, y_types, y_typeSig, y_imports, y_functions, y_sig, y_what, y_typeAt, y_localsAt, y_globals, y_globalKind, y_globalFree, y_globalValue, y_entries, y_entriesAt, y_hasMemory, y_memory, y_nest, KI, SH, GI, HE, DE, y_stack, y_labelAt, y_labelHeight, y_labelGives, y_callModule, y_callFunction, y_callBack, y_callBase, y_callLabels, y_waiting, y_prints) := by
    intro z; rw [if_neg (by omega), if_pos z] at h; exact h _ _ _ _ _ R
  have k23 : c p = 2 ∨ c p = 3 → wY_check_82 post (nI (c p)) (nI x) y_count y_place y_m y_pos y_wrong y_constant y_least (nI S.1.length) (nI S.2.1.length) (bb_i S.2.2) y_sp y_labels y_active y_fuel y_outcome y_trappedAt y_result y_used y_waits y_printed y_bytes y_there y_types y_typeSig y_imports y_functions y_sig y_what y_typeAt y_localsAt y_globals y_globalKind y_globalFree y_globalValue y_entries y_entriesAt y_hasMemory y_memory y_nest KI SH GI HE DE y_stack y_labelAt y_labelHeight y_labelGives y_callModule y_callFunction y_callBack y_callBase y_callLabels y_waiting y_prints := by
    intro z
    rw [if_neg (by omega), if_neg (by omega), if_pos z] at h
    rw [hxo (by omega)]
    unfold wY_check_82
    exact y_open (c p) (c p) (c (p + 1)) p (by unfold y_sh; rw [if_neg (by omega)]) (by omega) (h24 (by omega)) R h
  have k4 : c p = 4 → wpY_pull (fun r u => wpY_open (fun u => post u) u (nI (c p)) (nI x)) (y_count, y_place, y_m, y_pos, y_wrong, y_constant, y_least, nI S.1.length, nI S.2.1.length, bb_i S.2.2, y_sp, y_labels, y_active, y_fuel, y_outcome, y_trappedAt, y_result, y_used, y_waits, y_printed, y_bytes, y_there, y_types, y_typeSig, y_imports, y_functions, y_sig, y_what, y_typeAt, y_localsAt, y_globals, y_globalKind, y_globalFree, y_globalValue, y_entries, y_entriesAt, y_hasMemory, y_memory, y_nest, KI, SH, GI, HE, DE, y_stack, y_labelAt, y_labelHeight, y_labelGives, y_callModule, y_callFunction, y_callBack, y_callBase, y_callLabels, y_waiting, y_prints) 1 := by
    intro z
    rw [if_neg (by omega), if_neg (by omega), if_neg (by omega), if_pos z] at h
    rw [hxo (by omega)]
    refine y_pull 1 (by omega) hF R (fun R1 _ _ => ?_)
    exact y_open 4 (c p) (c (p + 1)) p (by rw [z]; rfl) (by omega) (h24 (by omega)) R1 h
  have k56 : c p = 5 ∨ c p = 6 → wY_check_102 post (nI (c p)) y_count y_place y_m y_pos y_wrong y_constant y_least (nI S.1.length) (nI S.2.1.length) (bb_i S.2.2) y_sp y_labels y_active y_fuel y_outcome y_trappedAt y_result y_used y_waits y_printed y_bytes y_there y_types y_typeSig y_imports y_functions y_sig y_what y_typeAt y_localsAt y_globals y_globalKind y_globalFree y_globalValue y_entries y_entriesAt y_hasMemory y_memory y_nest KI SH GI HE DE y_stack y_labelAt y_labelHeight y_labelGives y_callModule y_callFunction y_callBack y_callBase y_callLabels y_waiting y_prints := by
    intro z
    rw [if_neg (by omega), if_neg (by omega), if_neg (by omega), if_neg (by omega), if_pos z] at h
    unfold wY_check_102
    exact y_close (c p) z hF R h
  have k7 : c p = 7 → wpY_wants (fun r u => wpY_pullResult (fun u => wpY_die (fun u => post u) u) u r) (y_count, y_place, y_m, y_pos, y_wrong, y_constant, y_least, nI S.1.length, nI S.2.1.length, bb_i S.2.2, y_sp, y_labels, y_active, y_fuel, y_outcome, y_trappedAt, y_result, y_used, y_waits, y_printed, y_bytes, y_there, y_types, y_typeSig, y_imports, y_functions, y_sig, y_what, y_typeAt, y_localsAt, y_globals, y_globalKind, y_globalFree, y_globalValue, y_entries, y_entriesAt, y_hasMemory, y_memory, y_nest, KI, SH, GI, HE, DE, y_stack, y_labelAt, y_labelHeight, y_labelGives, y_callModule, y_callFunction, y_callBack, y_callBase, y_callLabels, y_waiting, y_prints) (nI x) := by
    intro z
    rw [if_neg (by omega), if_neg (by omega), if_neg (by omega), if_neg (by omega), if_neg (by omega), if_pos z] at h
    rw [hxo (by omega)]
    refine y_wants _ (h256 _) hF R (fun R1 hw => ?_)
    refine y_pullResult _ hw hF R1 (fun R2 e2 => ?_)
    exact y_die (by rw [e2]; exact hF) R2 h
  have k8 : c p = 8 → wpY_pull (fun r u => wpY_wants (fun r u => wpY_pullResult (fun u => wpY_giveResult (fun u => post u) u r) u r) u (nI x)) (y_count, y_place, y_m, y_pos, y_wrong, y_constant, y_least, nI S.1.length, nI S.2.1.length, bb_i S.2.2, y_sp, y_labels, y_active, y_fuel, y_outcome, y_trappedAt, y_result, y_used, y_waits, y_printed, y_bytes, y_there, y_types, y_typeSig, y_imports, y_functions, y_sig, y_what, y_typeAt, y_localsAt, y_globals, y_globalKind, y_globalFree, y_globalValue, y_entries, y_entriesAt, y_hasMemory, y_memory, y_nest, KI, SH, GI, HE, DE, y_stack, y_labelAt, y_labelHeight, y_labelGives, y_callModule, y_callFunction, y_callBack, y_callBase, y_callLabels, y_waiting, y_prints) 1 := by
    intro z
    rw [if_neg (by omega), if_neg (by omega), if_neg (by omega), if_neg (by omega), if_neg (by omega), if_neg (by omega), if_pos z] at h
    rw [hxo (by omega)]
    refine y_pull 1 (by omega) hF R (fun R1 _ e1 => ?_)
    have hF1 : (vt_pl 1 S).2.1 ≠ [] := by rw [e1]; exact hF
    refine y_wants _ (h256 _) hF1 R1 (fun R2 hw => ?_)
    refine y_pullResult _ hw hF1 R2 (fun R3 e3 => ?_)
    exact y_giveResult _ hw R3 (fun KI SH GI HE DE a _ => h KI SH GI HE DE a)
  have k9 : c p = 9 → wpY_branchTable (fun u => post u) (y_count, y_place, y_m, y_pos, y_wrong, y_constant, y_least, nI S.1.length, nI S.2.1.length, bb_i S.2.2, y_sp, y_labels, y_active, y_fuel, y_outcome, y_trappedAt, y_result, y_used, y_waits, y_printed, y_bytes, y_there, y_types, y_typeSig, y_imports, y_functions, y_sig, y_what, y_typeAt, y_localsAt, y_globals, y_globalKind, y_globalFree, y_globalValue, y_entries, y_entriesAt, y_hasMemory, y_memory, y_nest, KI, SH, GI, HE, DE, y_stack, y_labelAt, y_labelHeight, y_labelGives, y_callModule, y_callFunction, y_callBack, y_callBase, y_callLabels, y_waiting, y_prints) (nI p + 1) := by
    intro z
    rw [if_neg (by omega), if_neg (by omega), if_neg (by omega), if_neg (by omega), if_neg (by omega), if_neg (by omega), if_neg (by omega), if_pos z] at h
    rw [nI_1]
    exact y_table C (h9 z).1 (h9 z).2 hF R h
  have k10 : c p = 10 → wpY_pullResult (fun u => wpY_die (fun u => post u) u) (y_count, y_place, y_m, y_pos, y_wrong, y_constant, y_least, nI S.1.length, nI S.2.1.length, bb_i S.2.2, y_sp, y_labels, y_active, y_fuel, y_outcome, y_trappedAt, y_result, y_used, y_waits, y_printed, y_bytes, y_there, y_types, y_typeSig, y_imports, y_functions, y_sig, y_what, y_typeAt, y_localsAt, y_globals, y_globalKind, y_globalFree, y_globalValue, y_entries, y_entriesAt, y_hasMemory, y_memory, y_nest, KI, SH, GI, HE, DE, y_stack, y_labelAt, y_labelHeight, y_labelGives, y_callModule, y_callFunction, y_callBack, y_callBase, y_callLabels, y_waiting, y_prints) (GI 0) := by
    intro z
    rw [if_neg (by omega), if_neg (by omega), if_neg (by omega), if_neg (by omega), if_neg (by omega), if_neg (by omega), if_neg (by omega), if_neg (by omega), if_pos z] at h
    rw [yv_bot _ hF R.2.1]
    refine y_pullResult _ (sn_bot _ _ R.2.2.2.2.2) hF R (fun R1 e1 => ?_)
    exact y_die (by rw [e1]; exact hF) R1 h
  have k11 : c p = 11 ∨ c p = 12 → wY_check_176 post (nI (c p)) (nI x) y_count y_place y_m y_pos y_wrong y_constant y_least (nI S.1.length) (nI S.2.1.length) (bb_i S.2.2) y_sp y_labels y_active y_fuel y_outcome y_trappedAt y_result y_used y_waits y_printed y_bytes y_there y_types y_typeSig y_imports y_functions y_sig y_what y_typeAt y_localsAt y_globals y_globalKind y_globalFree y_globalValue y_entries y_entriesAt y_hasMemory y_memory y_nest KI SH GI HE DE y_stack y_labelAt y_labelHeight y_labelGives y_callModule y_callFunction y_callBack y_callBase y_callLabels y_waiting y_prints := by
    intro z
    rw [if_neg (by omega), if_neg (by omega), if_neg (by omega), if_neg (by omega), if_neg (by omega), if_neg (by omega), if_neg (by omega), if_neg (by omega), if_neg (by omega), if_pos z] at h
    rw [hxo (by omega)]
    unfold wY_check_176
    exact y_call mp W (c p) _ z (h256 _) hF R h
  have k13 : c p = 13 → wpY_pull (fun r u => post u) (y_count, y_place, y_m, y_pos, y_wrong, y_constant, y_least, nI S.1.length, nI S.2.1.length, bb_i S.2.2, y_sp, y_labels, y_active, y_fuel, y_outcome, y_trappedAt, y_result, y_used, y_waits, y_printed, y_bytes, y_there, y_types, y_typeSig, y_imports, y_functions, y_sig, y_what, y_typeAt, y_localsAt, y_globals, y_globalKind, y_globalFree, y_globalValue, y_entries, y_entriesAt, y_hasMemory, y_memory, y_nest, KI, SH, GI, HE, DE, y_stack, y_labelAt, y_labelHeight, y_labelGives, y_callModule, y_callFunction, y_callBack, y_callBase, y_callLabels, y_waiting, y_prints) 0 := by
    intro z
    rw [if_neg (by omega), if_neg (by omega), if_neg (by omega), if_neg (by omega), if_neg (by omega), if_neg (by omega), if_neg (by omega), if_neg (by omega), if_neg (by omega), if_neg (by omega), if_pos z] at h
    exact y_pull 0 (by omega) hF R (fun R1 _ _ => h _ _ _ _ _ R1)
  have k14 : c p = 14 → wpY_checkSelect (fun u => post u) (y_count, y_place, y_m, y_pos, y_wrong, y_constant, y_least, nI S.1.length, nI S.2.1.length, bb_i S.2.2, y_sp, y_labels, y_active, y_fuel, y_outcome, y_trappedAt, y_result, y_used, y_waits, y_printed, y_bytes, y_there, y_types, y_typeSig, y_imports, y_functions, y_sig, y_what, y_typeAt, y_localsAt, y_globals, y_globalKind, y_globalFree, y_globalValue, y_entries, y_entriesAt, y_hasMemory, y_memory, y_nest, KI, SH, GI, HE, DE, y_stack, y_labelAt, y_labelHeight, y_labelGives, y_callModule, y_callFunction, y_callBack, y_callBase, y_callLabels, y_waiting, y_prints) := by
    intro z
    rw [if_neg (by omega), if_neg (by omega), if_neg (by omega), if_neg (by omega), if_neg (by omega), if_neg (by omega), if_neg (by omega), if_neg (by omega), if_neg (by omega), if_neg (by omega), if_neg (by omega), if_pos z] at h
    exact y_sel hF R h
  refine pk_lt (c p) 0 (fun z => absurd z (by omega)) (fun _ => ?_)
  refine pk_lt 14 (c p) (fun b14 => ?_) (fun b15 => ?_)
  · rw [if_neg (by omega), if_neg (by omega), if_neg (by omega), if_neg (by omega), if_neg (by omega), if_neg (by omega), if_neg (by omega), if_neg (by omega), if_neg (by omega), if_neg (by omega), if_neg (by omega), if_neg (by omega)] at h
    refine pk_le 20 (c p) (fun z => pk_le 28 (c p) (fun z2 => ?_) (fun z2 => ?_)) (fun z => ?_)
    · rw [if_neg (by omega), if_neg (by omega)] at h; exact y_num (c p) z2 h66 hF R h
    · rw [if_neg (by omega), if_pos z2] at h; exact y_mem mp W (c p) z z2 hF R h
    · rw [if_pos z] at h; rw [hxo (by omega)]; exact y_var C mp W f (c p) _ hf hf2 ht (by omega) z (h256 _) hb hF R h
  · exact pk_eq (c p) 0 (fun z => k0 z) (fun b0 => pk_eq (c p) 1 (fun z => k1 z) (fun b1 => pk_eq (c p) 2 (fun z => k23 (Or.inl z)) (fun b2 => pk_eq (c p) 3 (fun z => k23 (Or.inr z)) (fun b3 => pk_eq (c p) 4 (fun z => k4 z) (fun b4 => pk_eq (c p) 5 (fun z => k56 (Or.inl z)) (fun b5 => pk_eq (c p) 6 (fun z => k56 (Or.inr z)) (fun b6 => pk_eq (c p) 7 (fun z => k7 z) (fun b7 => pk_eq (c p) 8 (fun z => k8 z) (fun b8 => pk_eq (c p) 9 (fun z => k9 z) (fun b9 => pk_eq (c p) 10 (fun z => k10 z) (fun b10 => pk_eq (c p) 11 (fun z => k11 (Or.inl z)) (fun b11 => pk_eq (c p) 12 (fun z => k11 (Or.inr z)) (fun b12 => pk_eq (c p) 13 (fun z => k13 z) (fun b13 => pk_eq (c p) 14 (fun z => k14 z) (fun b14 => absurd b15 (by omega)) rfl rfl h31) rfl rfl h31) rfl rfl h31) rfl rfl h31) rfl rfl h31) rfl rfl h31) rfl rfl h31) rfl rfl h31) rfl rfl h31) rfl rfl h31) rfl rfl h31) rfl rfl h31) rfl rfl h31) rfl rfl h31) rfl rfl h31
end
