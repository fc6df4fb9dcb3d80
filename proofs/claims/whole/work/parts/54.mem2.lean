def ln (op : Nat) : Nat := if op = 22 ∨ op = 25 then 1 else if op = 23 ∨ op = 26 then 4 else 8
theorem ln_le (op : Nat) : 1 ≤ ln op ∧ ln op ≤ 8 := by unfold ln; split; omega; split <;> omega
theorem v_mem {c : Nat → Nat} {n f p : Nat} {S : vt_St} (h : 20 ≤ c p) (h2 : c p < 28) : v_st c n f p S = vt_mem c n (c p) S := by
  unfold v_st
  rw [if_neg (by omega), if_neg (by omega), if_neg (by omega), if_neg (by omega), if_neg (by omega), if_neg (by omega), if_neg (by omega), if_neg (by omega), if_neg (by omega), if_neg (by omega), if_neg (by omega), if_neg (by omega), if_neg (by omega), if_pos h2]
theorem ld8_sx : ∀ b, b < 256 → ((0 : Int64) ||| ((nI b).toInt64 <<< ((nI (8 * 0)).toInt64 &&& 63))).toInt32.toInt64 = ((0 : Int64) ||| ((nI b).toInt64 <<< ((nI (8 * 0)).toInt64 &&& 63))) := by decide +kernel
theorem md_b {s : Nat} {c : Nat → Nat} {n : Nat} {XG YG : Nat → Int64} {XM YM : Nat → Int32} (h : sd_ok s c n XG YG XM YM) : ∃ b : Nat → Nat, ∀ j, j < 48 → b j < 256 ∧ XM (s * 48 + j) = nI (b j) ∧ YM (48 * s + j) = sb_v (b j) := by
  refine ⟨fun j => (XM (s * 48 + j)).toBitVec.toNat, fun j hj => ?_⟩
  obtain ⟨b, h1, h2, h3⟩ := h.2 j hj
  dsimp only
  rw [h2, pk_tn (by omega)]
  exact ⟨h1, rfl, h3⟩
theorem lLe {A l : Nat} (h : A < 2 ^ 40) (hl : l < 256) : lN A + (nI l).toInt64 ≤ 48 ↔ A + l ≤ 48 := by
  have e : lN A + (nI l).toInt64 = lN (A + l) := by
    rw [nI_l (by omega)]
    refine uN_inj ?_
    rw [uN_add, uN_of (by omega), uN_of (by omega), uN_of (by omega)]
    omega
  rw [e, show (48 : Int64) = lN 48 from rfl, pk_lLE (by omega) (by omega)]
section
variable {x_byteCount x_wrongPlace x_at x_frameCount x_kindCount x_valueCount x_activeCount x_goesOn x_outcome x_trapPlace x_fuelUsed x_firstWaiting x_waitingCount x_printCount : Int32} {x_resultValue : Int64} {x_code x_facts x_partner x_loaded x_memories x_frameAt x_frameHeight x_frameResult x_frameDead x_kinds x_activeSlot x_activeGives x_activeFrame x_activeResume x_waiting x_prints : Nat → Int32} {x_globals x_values x_variables : Nat → Int64}
variable {post : SX → Prop} {s op o i : Nat} {r z0 : Int64} {x4 : Int32}
theorem x_a26 (hop : op < 256) (ho : o < 256) (e : x_valueCount = nI (i + 1)) (hi : i < 256) (hv : x_values i = r) (h : wX_runAccess_75 post (nI s) (nI op) x4 z0 (lN (uN r % 4294967296 + o)) (nI (ln op)) x_byteCount x_wrongPlace x_at x_frameCount x_kindCount (nI i) x_activeCount x_goesOn x_outcome x_resultValue x_trapPlace x_fuelUsed x_firstWaiting x_waitingCount x_printCount x_code x_facts x_partner x_loaded x_globals x_memories x_frameAt x_frameHeight x_frameResult x_frameDead x_kinds x_values x_variables x_activeSlot x_activeGives x_activeFrame x_activeResume x_waiting x_prints) : wX_runAccess_26 post (nI s) (nI op) (nI o) x4 z0 x_byteCount x_wrongPlace x_at x_frameCount x_kindCount x_valueCount x_activeCount x_goesOn x_outcome x_resultValue x_trapPlace x_fuelUsed x_firstWaiting x_waitingCount x_printCount x_code x_facts x_partner x_loaded x_globals x_memories x_frameAt x_frameHeight x_frameResult x_frameDead x_kinds x_values x_variables x_activeSlot x_activeGives x_activeFrame x_activeResume x_waiting x_prints := by
  unfold wX_runAccess_26
  refine r_popv i r hi e hv (nm_r (adr r ho) ?_)
  unfold ln at h
  refine pk_eq op 22 (fun z => ?_) (fun z => pk_eq op 25 (fun z1 => ?_) (fun z1 => pk_eq op 23 (fun z2 => ?_) (fun z2 => pk_eq op 26 (fun z3 => ?_) (fun z3 => ?_))))
  · rw [if_pos (Or.inl z)] at h; exact h
  · rw [if_pos (Or.inr z1)] at h; exact h
  · rw [if_neg (by omega), if_pos (Or.inl z2)] at h; exact h
  · rw [if_neg (by omega), if_pos (Or.inr z3)] at h; exact h
  · rw [if_neg (by omega), if_neg (by omega)] at h; exact h
end
section
variable {y_count y_place y_m y_pos y_wrong y_least y_top y_frames y_invalid y_sp y_labels y_active y_fuel y_outcome y_trappedAt y_used y_waits y_printed : Int32} {y_constant y_result : Int64} {y_bytes y_there y_types y_typeSig y_imports y_functions y_sig y_what y_typeAt y_localsAt y_globals y_globalKind y_globalFree y_entries y_entriesAt y_hasMemory y_memory y_nest y_kinds y_shape y_gives y_height y_dead y_labelAt y_labelHeight y_labelGives y_callModule y_callFunction y_callBack y_callBase y_callLabels y_waiting y_prints : Nat → Int32} {y_globalValue y_stack : Nat → Int64}
variable {post : SY → Prop} {op o i m : Nat} {r v : Int64} {x z : Int32}
theorem y_b34 (hop : 22 ≤ op) (hop2 : op ≤ 27) (h : wY_bytesOf_34 post (nI op) x z (nI (ln op)) y_count y_place y_m y_pos y_wrong y_constant y_least y_top y_frames y_invalid y_sp y_labels y_active y_fuel y_outcome y_trappedAt y_result y_used y_waits y_printed y_bytes y_there y_types y_typeSig y_imports y_functions y_sig y_what y_typeAt y_localsAt y_globals y_globalKind y_globalFree y_globalValue y_entries y_entriesAt y_hasMemory y_memory y_nest y_kinds y_shape y_gives y_height y_dead y_stack y_labelAt y_labelHeight y_labelGives y_callModule y_callFunction y_callBack y_callBase y_callLabels y_waiting y_prints) : wpY_bytesOf post (y_count, y_place, y_m, y_pos, y_wrong, y_constant, y_least, y_top, y_frames, y_invalid, y_sp, y_labels, y_active, y_fuel, y_outcome, y_trappedAt, y_result, y_used, y_waits, y_printed, y_bytes, y_there, y_types, y_typeSig, y_imports, y_functions, y_sig, y_what, y_typeAt, y_localsAt, y_globals, y_globalKind, y_globalFree, y_globalValue, y_entries, y_entriesAt, y_hasMemory, y_memory, y_nest, y_kinds, y_shape, y_gives, y_height, y_dead, y_stack, y_labelAt, y_labelHeight, y_labelGives, y_callModule, y_callFunction, y_callBack, y_callBase, y_callLabels, y_waiting, y_prints) (nI op) x z := by
  unfold ln at h
  refine pk_eq op 22 (fun q => ?_) (fun q => pk_eq op 25 (fun q1 => ?_) (fun q1 => pk_eq op 24 (fun q2 => ?_) (fun q2 => pk_eq op 27 (fun q3 => ?_) (fun q3 => ?_))))
  · rw [if_pos (Or.inl q)] at h; exact h
  · rw [if_pos (Or.inr q1)] at h; exact h
  · rw [if_neg (by omega), if_neg (by omega)] at h; exact h
  · rw [if_neg (by omega), if_neg (by omega)] at h; exact h
  · by_cases w : op = 23 ∨ op = 26
    · rw [if_neg (by omega), if_pos w] at h; exact h
    · exact absurd (show op = 23 ∨ op = 26 by omega) w
theorem y_b64 {x5 : Int32} {len : Nat} (ho : o < 256) (hlen : len < 256) (hm : m < 2) (em : y_m = nI m) (es : y_sp = nI (i + 1)) (hi : i + 1 < 320) (hr : y_stack i = r) (hv : y_stack (i + 1) = v)
    (h : uN r % 4294967296 + o + len ≤ 48 → ∃ l, wY_bytesOf_134 post (nI len) x5 v (nI (48 * m + (uN r % 4294967296 + o))) y_count y_place y_m y_pos y_wrong y_constant y_least y_top y_frames y_invalid (nI (i + 1)) y_labels y_active y_fuel y_outcome y_trappedAt y_result y_used y_waits y_printed l 0 (nI 0) y_bytes y_there y_types y_typeSig y_imports y_functions y_sig y_what y_typeAt y_localsAt y_globals y_globalKind y_globalFree y_globalValue y_entries y_entriesAt y_hasMemory y_memory y_nest y_kinds y_shape y_gives y_height y_dead y_stack y_labelAt y_labelHeight y_labelGives y_callModule y_callFunction y_callBack y_callBase y_callLabels y_waiting y_prints) (ht : ¬ uN r % 4294967296 + o + len ≤ 48 → post (y_count, y_place, y_m, y_pos, y_wrong, y_constant, y_least, y_top, y_frames, y_invalid, nI (i + 1), y_labels, y_active, y_fuel, nI 4, 1000 * nI m + z, y_result, y_used, y_waits, y_printed, y_bytes, y_there, y_types, y_typeSig, y_imports, y_functions, y_sig, y_what, y_typeAt, y_localsAt, y_globals, y_globalKind, y_globalFree, y_globalValue, y_entries, y_entriesAt, y_hasMemory, y_memory, y_nest, y_kinds, y_shape, y_gives, y_height, y_dead, y_stack, y_labelAt, y_labelHeight, y_labelGives, y_callModule, y_callFunction, y_callBack, y_callBase, y_callLabels, y_waiting, y_prints)) : wY_bytesOf_64 post (nI o) z (nI len) x5 y_count y_place y_m y_pos y_wrong y_constant y_least y_top y_frames y_invalid y_sp y_labels y_active y_fuel y_outcome y_trappedAt y_result y_used y_waits y_printed y_bytes y_there y_types y_typeSig y_imports y_functions y_sig y_what y_typeAt y_localsAt y_globals y_globalKind y_globalFree y_globalValue y_entries y_entriesAt y_hasMemory y_memory y_nest y_kinds y_shape y_gives y_height y_dead y_stack y_labelAt y_labelHeight y_labelGives y_callModule y_callFunction y_callBack y_callBase y_callLabels y_waiting y_prints := by
  subst es
  have e1 : nI (i + 1) - 1 = nI i := pk_sub (a := i + 1) (b := 1) (by omega)
  refine ⟨pk_in (i + 1) 320 hi, nm_r (show _ = v from by rw [pk_cl (i + 1)]; exact hv) ⟨pk_in i 320 (by omega) e1, nm_r (show _ = lN (uN r % 4294967296 + o) from by rw [pk_cl i e1, hr, adr r ho]) ?_⟩⟩
  by_cases q : uN r % 4294967296 + o + len ≤ 48
  · refine br_t ((lLe (by omega) hlen).mpr q) (nm_r (show _ = nI (48 * m + (uN r % 4294967296 + o)) from ?_) (h q))
    rw [lN_i, em, show (48 : Int32) = nI 48 from rfl, pk_mul, nI_add]
  · exact br_f (fun y => q ((lLe (by omega) hlen).mp y)) (y_trap m em (ht q))
end
