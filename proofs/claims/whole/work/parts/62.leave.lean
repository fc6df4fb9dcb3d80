theorem nI_p (a : Nat) (h : a ≠ 0) : nI a - 1 = nI (a - 1) := pk_sub (a := a) (b := 1) (by omega)
section
variable {x_byteCount x_wrongPlace x_at x_frameCount x_kindCount x_valueCount x_activeCount x_goesOn x_outcome x_trapPlace x_fuelUsed x_firstWaiting x_waitingCount x_printCount : Int32} {x_resultValue : Int64} {x_code x_facts x_partner x_loaded x_memories x_frameAt x_frameHeight x_frameResult x_frameDead x_kinds x_activeSlot x_activeGives x_activeFrame x_activeResume x_waiting x_prints : Nat → Int32} {x_globals x_values x_variables : Nat → Int64}
theorem r_leave {post : SX → Prop} {a g b hh i : Nat} {v : Int64} (ha : a < 10) (eA : x_activeCount = nI (a + 1)) (eG : x_activeGives a = nI g) (hg : g ≤ 2) (eF : x_activeFrame a = nI b) (hb : b < 140) (eH : x_frameHeight b = nI hh) (h256 : hh < 256) (hi : i < 256) (eV : g ≠ 0 → x_valueCount = nI (i + 1) ∧ x_values i = v)
    (h0 : a = 0 → post (x_byteCount, x_wrongPlace, x_at, nI b, x_kindCount, nI hh, nI a, x_goesOn, 0, if g = 0 then 0 else v, x_trapPlace, x_fuelUsed, x_firstWaiting, x_waitingCount, x_printCount, x_code, x_facts, x_partner, x_loaded, x_globals, x_memories, x_frameAt, x_frameHeight, x_frameResult, x_frameDead, x_kinds, x_values, x_variables, x_activeSlot, x_activeGives, x_activeFrame, x_activeResume, x_waiting, x_prints))
    (h1 : a ≠ 0 → g = 0 → post (x_byteCount, x_wrongPlace, x_at, nI b, x_kindCount, nI hh, nI a, x_activeResume (a - 1), x_outcome, x_resultValue, x_trapPlace, x_fuelUsed, x_firstWaiting, x_waitingCount, x_printCount, x_code, x_facts, x_partner, x_loaded, x_globals, x_memories, x_frameAt, x_frameHeight, x_frameResult, x_frameDead, x_kinds, x_values, x_variables, x_activeSlot, x_activeGives, x_activeFrame, x_activeResume, x_waiting, x_prints))
    (h2 : a ≠ 0 → g ≠ 0 → post (x_byteCount, x_wrongPlace, x_at, nI b, x_kindCount, nI (hh + 1), nI a, x_activeResume (a - 1), x_outcome, x_resultValue, x_trapPlace, x_fuelUsed, x_firstWaiting, x_waitingCount, x_printCount, x_code, x_facts, x_partner, x_loaded, x_globals, x_memories, x_frameAt, x_frameHeight, x_frameResult, x_frameDead, x_kinds, vp_updL x_values hh v, x_variables, x_activeSlot, x_activeGives, x_activeFrame, x_activeResume, x_waiting, x_prints)) : wpX_leave post (x_byteCount, x_wrongPlace, x_at, x_frameCount, x_kindCount, x_valueCount, x_activeCount, x_goesOn, x_outcome, x_resultValue, x_trapPlace, x_fuelUsed, x_firstWaiting, x_waitingCount, x_printCount, x_code, x_facts, x_partner, x_loaded, x_globals, x_memories, x_frameAt, x_frameHeight, x_frameResult, x_frameDead, x_kinds, x_values, x_variables, x_activeSlot, x_activeGives, x_activeFrame, x_activeResume, x_waiting, x_prints) := by
  subst eA
  unfold wpX_leave
  have e1 : a ≠ 0 → nI a - 1 = nI (a - 1) := nI_p a
  have g37 : ∀ (z : Int32) (k : Int64) (vc : Int32), (z = 0 → g = 0 ∧ k = 0) → (¬ z = 0 → g ≠ 0 ∧ k = v) → wX_leave_37 post (nI a) z k x_byteCount x_wrongPlace x_at x_frameCount x_kindCount vc (nI (a + 1)) x_goesOn x_outcome x_resultValue x_trapPlace x_fuelUsed x_firstWaiting x_waitingCount x_printCount x_code x_facts x_partner x_loaded x_globals x_memories x_frameAt x_frameHeight x_frameResult x_frameDead x_kinds x_values x_variables x_activeSlot x_activeGives x_activeFrame x_activeResume x_waiting x_prints := by
    intro z k vc hz hz'
    refine ⟨pk_in a 10 ha, nm_r (show _ = nI b from by rw [pk_cl a]; exact eF) ⟨pk_in b 140 hb, nm_r (show _ = nI hh from by rw [pk_cl b]; exact eH) ?_⟩⟩
    refine pk_eq a 0 (fun y => ?_) (fun y => br_c (fun q => ?_) (fun q => ?_))
    · have : k = if g = 0 then 0 else v := by
        by_cases q : z = 0
        · obtain ⟨q1, q2⟩ := hz q; rw [if_pos q1]; exact q2
        · obtain ⟨q1, q2⟩ := hz' q; rw [if_neg q1]; exact q2
      subst this
      exact h0 y
    · exact ⟨pk_in (a - 1) 10 (by omega) (e1 y), nm_r (show _ = x_activeResume (a - 1) from by rw [pk_cl (a - 1) (e1 y)]) (h1 y (hz q).1)⟩
    · obtain ⟨q1, q2⟩ := hz' q
      subst q2
      exact r_push hh h256 rfl ⟨pk_in (a - 1) 10 (by omega) (e1 y), nm_r (show _ = x_activeResume (a - 1) from by rw [pk_cl (a - 1) (e1 y)]) (h2 y q1)⟩
  refine xx_last (k := a + 1) (l := 10) (by omega) (by omega) (by omega) ⟨pk_in a 10 ha, ?_⟩
  have eG' : x_activeGives (nI (a + 1 - 1)).toNatClampNeg = nI g := by rw [show a + 1 - 1 = a from rfl, pk_cl a]; exact eG
  refine pk_eq g 0 (fun y => ?_) (fun y => ?_) eG' rfl
  · exact br_t rfl (g37 0 0 _ (fun _ => ⟨y, rfl⟩) (fun q => absurd rfl q))
  · obtain ⟨v1, v2⟩ := eV y
    exact br_f (by decide) (r_popv i v hi v1 v2 (g37 1 v _ (fun q => absurd q (by decide)) (fun _ => ⟨y, rfl⟩)))
end
section
variable {y_count y_place y_m y_pos y_wrong y_least y_top y_frames y_invalid y_sp y_labels y_active y_fuel y_outcome y_trappedAt y_used y_waits y_printed : Int32} {y_constant y_result : Int64} {y_bytes y_there y_types y_typeSig y_imports y_functions y_sig y_what y_typeAt y_localsAt y_globals y_globalKind y_globalFree y_entries y_entriesAt y_hasMemory y_memory y_nest y_kinds y_shape y_gives y_height y_dead y_labelAt y_labelHeight y_labelGives y_callModule y_callFunction y_callBack y_callBase y_callLabels y_waiting y_prints : Nat → Int32} {y_globalValue y_stack : Nat → Int64}
theorem y_leave {post : Int32 → SY → Prop} {a s f g b lb bk i : Nat} {v : Int64} {sgv : Nat} (ha : a < 10) (eA : y_active = nI (a + 1)) (eM : y_callModule a = nI s) (eF : y_callFunction a = nI f) (hs : s < 2) (hf : f < 7) (eS : y_sig (7 * s + f) = nI sgv) (hsg : sgv < 1024) (eg : sgv / 256 = g) (eB : y_callBase a = nI b) (hb : b < 320) (eL : y_callLabels a = nI lb) (eK : y_callBack a = nI bk) (hi : i < 320) (eV : g ≠ 0 → y_sp = nI (i + 1) ∧ y_stack i = v)
    (h0 : a = 0 → g = 0 → post (nI bk) (y_count, y_place, y_m, y_pos, y_wrong, y_constant, y_least, y_top, y_frames, y_invalid, nI b, nI lb, nI a, y_fuel, y_outcome, y_trappedAt, y_result, y_used, y_waits, y_printed, y_bytes, y_there, y_types, y_typeSig, y_imports, y_functions, y_sig, y_what, y_typeAt, y_localsAt, y_globals, y_globalKind, y_globalFree, y_globalValue, y_entries, y_entriesAt, y_hasMemory, y_memory, y_nest, y_kinds, y_shape, y_gives, y_height, y_dead, y_stack, y_labelAt, y_labelHeight, y_labelGives, y_callModule, y_callFunction, y_callBack, y_callBase, y_callLabels, y_waiting, y_prints))
    (h0' : a = 0 → g ≠ 0 → post (nI bk) (y_count, y_place, y_m, y_pos, y_wrong, y_constant, y_least, y_top, y_frames, y_invalid, nI (b + 1), nI lb, nI a, y_fuel, y_outcome, y_trappedAt, y_result, y_used, y_waits, y_printed, y_bytes, y_there, y_types, y_typeSig, y_imports, y_functions, y_sig, y_what, y_typeAt, y_localsAt, y_globals, y_globalKind, y_globalFree, y_globalValue, y_entries, y_entriesAt, y_hasMemory, y_memory, y_nest, y_kinds, y_shape, y_gives, y_height, y_dead, vp_updL y_stack b v, y_labelAt, y_labelHeight, y_labelGives, y_callModule, y_callFunction, y_callBack, y_callBase, y_callLabels, y_waiting, y_prints))
    (h1 : a ≠ 0 → g = 0 → post (nI bk) (y_count, y_place, y_callModule (a - 1), y_pos, y_wrong, y_constant, y_least, y_top, y_frames, y_invalid, nI b, nI lb, nI a, y_fuel, y_outcome, y_trappedAt, y_result, y_used, y_waits, y_printed, y_bytes, y_there, y_types, y_typeSig, y_imports, y_functions, y_sig, y_what, y_typeAt, y_localsAt, y_globals, y_globalKind, y_globalFree, y_globalValue, y_entries, y_entriesAt, y_hasMemory, y_memory, y_nest, y_kinds, y_shape, y_gives, y_height, y_dead, y_stack, y_labelAt, y_labelHeight, y_labelGives, y_callModule, y_callFunction, y_callBack, y_callBase, y_callLabels, y_waiting, y_prints))
    (h1' : a ≠ 0 → g ≠ 0 → post (nI bk) (y_count, y_place, y_callModule (a - 1), y_pos, y_wrong, y_constant, y_least, y_top, y_frames, y_invalid, nI (b + 1), nI lb, nI a, y_fuel, y_outcome, y_trappedAt, y_result, y_used, y_waits, y_printed, y_bytes, y_there, y_types, y_typeSig, y_imports, y_functions, y_sig, y_what, y_typeAt, y_localsAt, y_globals, y_globalKind, y_globalFree, y_globalValue, y_entries, y_entriesAt, y_hasMemory, y_memory, y_nest, y_kinds, y_shape, y_gives, y_height, y_dead, vp_updL y_stack b v, y_labelAt, y_labelHeight, y_labelGives, y_callModule, y_callFunction, y_callBack, y_callBase, y_callLabels, y_waiting, y_prints)) : wpY_leave post (y_count, y_place, y_m, y_pos, y_wrong, y_constant, y_least, y_top, y_frames, y_invalid, y_sp, y_labels, y_active, y_fuel, y_outcome, y_trappedAt, y_result, y_used, y_waits, y_printed, y_bytes, y_there, y_types, y_typeSig, y_imports, y_functions, y_sig, y_what, y_typeAt, y_localsAt, y_globals, y_globalKind, y_globalFree, y_globalValue, y_entries, y_entriesAt, y_hasMemory, y_memory, y_nest, y_kinds, y_shape, y_gives, y_height, y_dead, y_stack, y_labelAt, y_labelHeight, y_labelGives, y_callModule, y_callFunction, y_callBack, y_callBase, y_callLabels, y_waiting, y_prints) := by
  subst eA
  have ea : nI (a + 1) - 1 = nI a := nI_p (a + 1) (by omega)
  have e7 : 7 * y_callModule (nI a).toNatClampNeg + y_callFunction (nI a).toNatClampNeg = nI (7 * s + f) := by
    rw [pk_cl a, eM, eF, show (7 : Int32) = nI 7 from rfl, pk_mul, nI_add]
  have g104 : ∀ (sp lb' : Int32) (st : Nat → Int64), (a = 0 → post (nI bk) (y_count, y_place, y_m, y_pos, y_wrong, y_constant, y_least, y_top, y_frames, y_invalid, sp, lb', nI a, y_fuel, y_outcome, y_trappedAt, y_result, y_used, y_waits, y_printed, y_bytes, y_there, y_types, y_typeSig, y_imports, y_functions, y_sig, y_what, y_typeAt, y_localsAt, y_globals, y_globalKind, y_globalFree, y_globalValue, y_entries, y_entriesAt, y_hasMemory, y_memory, y_nest, y_kinds, y_shape, y_gives, y_height, y_dead, st, y_labelAt, y_labelHeight, y_labelGives, y_callModule, y_callFunction, y_callBack, y_callBase, y_callLabels, y_waiting, y_prints)) → (a ≠ 0 → post (nI bk) (y_count, y_place, y_callModule (a - 1), y_pos, y_wrong, y_constant, y_least, y_top, y_frames, y_invalid, sp, lb', nI a, y_fuel, y_outcome, y_trappedAt, y_result, y_used, y_waits, y_printed, y_bytes, y_there, y_types, y_typeSig, y_imports, y_functions, y_sig, y_what, y_typeAt, y_localsAt, y_globals, y_globalKind, y_globalFree, y_globalValue, y_entries, y_entriesAt, y_hasMemory, y_memory, y_nest, y_kinds, y_shape, y_gives, y_height, y_dead, st, y_labelAt, y_labelHeight, y_labelGives, y_callModule, y_callFunction, y_callBack, y_callBase, y_callLabels, y_waiting, y_prints)) → wY_leave_104 post y_count y_place y_m y_pos y_wrong y_constant y_least y_top y_frames y_invalid sp lb' (nI a) y_fuel y_outcome y_trappedAt y_result y_used y_waits y_printed y_bytes y_there y_types y_typeSig y_imports y_functions y_sig y_what y_typeAt y_localsAt y_globals y_globalKind y_globalFree y_globalValue y_entries y_entriesAt y_hasMemory y_memory y_nest y_kinds y_shape y_gives y_height y_dead st y_labelAt y_labelHeight y_labelGives y_callModule y_callFunction y_callBack y_callBase y_callLabels y_waiting y_prints := by
    intro sp lb' st k0 k1
    have eK' : y_callBack (nI a).toNatClampNeg = nI bk := by rw [pk_cl a]; exact eK
    refine pk_le a 0 (fun y => ⟨pk_in a 11 (by omega), ?_⟩) (fun y => ⟨pk_in (a - 1) 11 (by omega) (nI_p a (by omega)), nm_r (show _ = y_callModule (a - 1) from by rw [pk_cl (a - 1) (nI_p a (by omega))]) ⟨pk_in a 11 (by omega), ?_⟩⟩)
    · exact eq_p (P := fun z => post z _) eK' (k0 (by omega))
    · exact eq_p (P := fun z => post z _) eK' (k1 (by omega))
  have g68 : ∀ (z : Int32) (k : Int64), (z = 0 → g = 0) → (¬ z = 0 → g ≠ 0 ∧ k = v) → wY_leave_68 post z k y_count y_place y_m y_pos y_wrong y_constant y_least y_top y_frames y_invalid y_sp y_labels (nI a) y_fuel y_outcome y_trappedAt y_result y_used y_waits y_printed y_bytes y_there y_types y_typeSig y_imports y_functions y_sig y_what y_typeAt y_localsAt y_globals y_globalKind y_globalFree y_globalValue y_entries y_entriesAt y_hasMemory y_memory y_nest y_kinds y_shape y_gives y_height y_dead y_stack y_labelAt y_labelHeight y_labelGives y_callModule y_callFunction y_callBack y_callBase y_callLabels y_waiting y_prints := by
    intro z k hz hz'
    refine ⟨pk_in a 11 (by omega), nm_r (show _ = nI b from by rw [pk_cl a]; exact eB) ⟨pk_in a 11 (by omega), nm_r (show _ = nI lb from by rw [pk_cl a]; exact eL) (br_c (fun q => ?_) (fun q => ?_))⟩⟩
    · exact g104 _ _ _ (fun y => h0 y (hz q)) (fun y => h1 y (hz q))
    · obtain ⟨q1, q2⟩ := hz' q
      subst q2
      exact y_push b hb rfl (g104 _ _ _ (fun y => h0' y q1) (fun y => h1' y q1))
  refine nm_r ea ⟨pk_in a 11 (by omega), pk_in a 11 (by omega), pk_in (7 * s + f) 21 (by omega) e7, ?_⟩
  have es : y_sig (7 * y_callModule (nI a).toNatClampNeg + y_callFunction (nI a).toNatClampNeg).toNatClampNeg = nI sgv := by rw [pk_cl (7 * s + f) e7]; exact eS
  refine eq_p (P := fun z => wpY_gift _ z) es ?_
  refine y_gift hsg ?_
  refine pk_eq (sgv / 256) 0 (fun y => ?_) (fun y => ?_)
  · exact br_t rfl (g68 0 0 (fun _ => eg.symm.trans y) (fun q => absurd rfl q))
  · have hg : g ≠ 0 := by omega
    obtain ⟨v1, v2⟩ := eV hg
    subst v1
    have e2 : nI (i + 1) - 1 = nI i := nI_p (i + 1) (by omega)
    refine br_f (by decide) ⟨pk_in i 320 hi e2, ?_⟩
    exact g68 1 _ (fun q => absurd q (by decide)) (fun _ => ⟨hg, by rw [pk_cl i e2]; exact v2⟩)
end
