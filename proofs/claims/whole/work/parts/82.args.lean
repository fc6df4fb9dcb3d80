def agr (a b d : Int64) (i : Nat) : Int64 := if i = 0 then a else if i = 1 then b else d
def agv (c : Nat → Nat) (t : Nat) (a b d : Int64) (i : Nat) : Int64 := if c (t + 1 + i) = 1 then (agr a b d i).toInt32.toInt64 else agr a b d i
section
variable {x_byteCount x_wrongPlace x_at x_frameCount x_kindCount x_valueCount x_activeCount x_goesOn x_outcome x_trapPlace x_fuelUsed x_firstWaiting x_waitingCount x_printCount : Int32} {x_resultValue : Int64} {x_code x_facts x_partner x_loaded x_memories x_frameAt x_frameHeight x_frameResult x_frameDead x_kinds x_activeSlot x_activeGives x_activeFrame x_activeResume x_waiting x_prints : Nat → Int32} {x_globals x_values x_variables : Nat → Int64}
variable {post : SX → Prop} {c : Nat → Nat} {n s f : Nat} {a b d : Int64}
theorem r_args_l {t np : Nat} (hs : s < 3) (M : mx_c x_code s c) (ht : t < 200) (hnp : np ≤ 3) (h : post (x_byteCount, x_wrongPlace, x_at, x_frameCount, x_kindCount, nI np, x_activeCount, x_goesOn, x_outcome, x_resultValue, x_trapPlace, x_fuelUsed, x_firstWaiting, x_waitingCount, x_printCount, x_code, x_facts, x_partner, x_loaded, x_globals, x_memories, x_frameAt, x_frameHeight, x_frameResult, x_frameDead, x_kinds, pfill x_values 0 (agv c t a b d) np, x_variables, x_activeSlot, x_activeGives, x_activeFrame, x_activeResume, x_waiting, x_prints)) : ∀ r i l, i + r = np → r < l → wX_pushArguments_32 post (nI s) a b d (nI t) (nI np) l (nI i) x_byteCount x_wrongPlace x_at x_frameCount x_kindCount (nI i) x_activeCount x_goesOn x_outcome x_resultValue x_trapPlace x_fuelUsed x_firstWaiting x_waitingCount x_printCount x_code x_facts x_partner x_loaded x_globals x_memories x_frameAt x_frameHeight x_frameResult x_frameDead x_kinds (pfill x_values 0 (agv c t a b d) i) x_variables x_activeSlot x_activeGives x_activeFrame x_activeResume x_waiting x_prints := by
  intro r
  induction r with
  | zero =>
    intro i l hi hl
    obtain ⟨l, rfl⟩ : ∃ j, l = j + 1 := ⟨l - 1, by omega⟩
    have : i = np := by omega
    subst this
    exact pk_le i i (fun _ => h) (fun z => absurd z (by omega))
  | succ r ih =>
    intro i l hi hl
    obtain ⟨l, rfl⟩ : ∃ j, l = j + 1 := ⟨l - 1, by omega⟩
    have hc := M.2.1 (t + 1 + i)
    have g93 : ∀ v, v = agv c t a b d i → wX_pushArguments_93 post (wX_pushArguments_32 post (nI s) a b d (nI t) (nI np) l) (nI s) a b d (nI t) (nI np) (nI i) v x_byteCount x_wrongPlace x_at x_frameCount x_kindCount (nI i) x_activeCount x_goesOn x_outcome x_resultValue x_trapPlace x_fuelUsed x_firstWaiting x_waitingCount x_printCount x_code x_facts x_partner x_loaded x_globals x_memories x_frameAt x_frameHeight x_frameResult x_frameDead x_kinds (pfill x_values 0 (agv c t a b d) i) x_variables x_activeSlot x_activeGives x_activeFrame x_activeResume x_waiting x_prints := by
      intro v hv
      subst hv
      have ih' := ih (i + 1) l (by omega) (by omega)
      rw [pfill, Nat.zero_add] at ih'
      exact r_push i (by omega) rfl (nm_r (nI_1 i) ih')
    have g75 : ∀ v, v = agr a b d i → wX_pushArguments_75 post (wX_pushArguments_32 post (nI s) a b d (nI t) (nI np) l) (nI s) a b d (nI t) (nI np) (nI i) (nI (c (t + 1 + i))) v x_byteCount x_wrongPlace x_at x_frameCount x_kindCount (nI i) x_activeCount x_goesOn x_outcome x_resultValue x_trapPlace x_fuelUsed x_firstWaiting x_waitingCount x_printCount x_code x_facts x_partner x_loaded x_globals x_memories x_frameAt x_frameHeight x_frameResult x_frameDead x_kinds (pfill x_values 0 (agv c t a b d) i) x_variables x_activeSlot x_activeGives x_activeFrame x_activeResume x_waiting x_prints := by
      intro v hv
      subst hv
      exact pk_eq (c (t + 1 + i)) 1 (fun z => g93 _ (by unfold agv; rw [if_pos z])) (fun z => g93 _ (by unfold agv; rw [if_neg z]))
    refine pk_le np i (fun z => absurd z (by omega)) (fun _ => ?_)
    rw [nI_1, nI_add]
    refine xx_byte (c := c) (show mx_ok (x_byteCount, x_wrongPlace, x_at, x_frameCount, x_kindCount, nI i, x_activeCount, x_goesOn, x_outcome, x_resultValue, x_trapPlace, x_fuelUsed, x_firstWaiting, x_waitingCount, x_printCount, x_code, x_facts, x_partner, x_loaded, x_globals, x_memories, x_frameAt, x_frameHeight, x_frameResult, x_frameDead, x_kinds, pfill x_values 0 (agv c t a b d) i, x_variables, x_activeSlot, x_activeGives, x_activeFrame, x_activeResume, x_waiting, x_prints) s c from M) hs (by omega) ?_
    refine pk_eq i 0 (fun z => g75 _ (by unfold agr; rw [if_pos z])) (fun z => pk_eq i 1 (fun z2 => g75 _ (by unfold agr; rw [if_neg z, if_pos z2])) (fun z2 => g75 _ (by unfold agr; rw [if_neg z, if_neg z2])))
theorem r_args (hs : s < 2) (M : mx_c x_code s c) (Fx : xf_ok (s * 22) c n x_facts) (mp : mp_ok c n) (hn : n ≤ 140) (hf : f < m_I c n + m_F c n) (hty : c (m_fa c n f) < c 0) (eV : x_valueCount = nI 0)
    (h : post (x_byteCount, x_wrongPlace, x_at, x_frameCount, x_kindCount, nI (c (m_ty c n (c (m_fa c n f)))), x_activeCount, x_goesOn, x_outcome, x_resultValue, x_trapPlace, x_fuelUsed, x_firstWaiting, x_waitingCount, x_printCount, x_code, x_facts, x_partner, x_loaded, x_globals, x_memories, x_frameAt, x_frameHeight, x_frameResult, x_frameDead, x_kinds, pfill x_values 0 (agv c (m_ty c n (c (m_fa c n f))) a b d) (c (m_ty c n (c (m_fa c n f)))), x_variables, x_activeSlot, x_activeGives, x_activeFrame, x_activeResume, x_waiting, x_prints)) : wpX_pushArguments post (x_byteCount, x_wrongPlace, x_at, x_frameCount, x_kindCount, x_valueCount, x_activeCount, x_goesOn, x_outcome, x_resultValue, x_trapPlace, x_fuelUsed, x_firstWaiting, x_waitingCount, x_printCount, x_code, x_facts, x_partner, x_loaded, x_globals, x_memories, x_frameAt, x_frameHeight, x_frameResult, x_frameDead, x_kinds, x_values, x_variables, x_activeSlot, x_activeGives, x_activeFrame, x_activeResume, x_waiting, x_prints) (nI s) (nI f) a b d := by
  subst eV
  have t1 := mp.2.1 _ hty
  have hp3 := t1.1.1
  have h0 := mp.1
  unfold wpX_pushArguments
  refine xm_typeOf (w := (x_byteCount, x_wrongPlace, x_at, x_frameCount, x_kindCount, nI 0, x_activeCount, x_goesOn, x_outcome, x_resultValue, x_trapPlace, x_fuelUsed, x_firstWaiting, x_waitingCount, x_printCount, x_code, x_facts, x_partner, x_loaded, x_globals, x_memories, x_frameAt, x_frameHeight, x_frameResult, x_frameDead, x_kinds, x_values, x_variables, x_activeSlot, x_activeGives, x_activeFrame, x_activeResume, x_waiting, x_prints)) (c := c) (n := n) (by omega) M Fx mp hn f hf ?_
  refine eq_p (P := fun z => wpX_fact _ _ _ z) (show (8 : Int32) + nI (c (m_fa c n f)) = nI (8 + c (m_fa c n f)) from nI_add 8 _) ?_
  refine xx_fact (m := s) (w := 8 + c (m_fa c n f)) (z := nI (m_ty c n (c (m_fa c n f)))) (by have := Fx.2.2.2.2.2.2.2.2.1 _ hty; rw [show s * 22 + (8 + c (m_fa c n f)) = s * 22 + 8 + c (m_fa c n f) by omega]; exact this) (by omega) (by omega) ?_
  refine xx_byte (c := c) (show mx_ok (x_byteCount, x_wrongPlace, x_at, x_frameCount, x_kindCount, nI 0, x_activeCount, x_goesOn, x_outcome, x_resultValue, x_trapPlace, x_fuelUsed, x_firstWaiting, x_waitingCount, x_printCount, x_code, x_facts, x_partner, x_loaded, x_globals, x_memories, x_frameAt, x_frameHeight, x_frameResult, x_frameDead, x_kinds, x_values, x_variables, x_activeSlot, x_activeGives, x_activeFrame, x_activeResume, x_waiting, x_prints) s c from M) (by omega) (by omega) ⟨c (m_ty c n (c (m_fa c n f))) + 1, ?_⟩
  exact r_args_l (by omega) M (by omega) hp3 h (c (m_ty c n (c (m_fa c n f)))) 0 _ (by omega) (by omega)
end
section
variable {y_count y_place y_m y_pos y_wrong y_least y_top y_frames y_invalid y_sp y_labels y_active y_fuel y_outcome y_trappedAt y_used y_waits y_printed : Int32} {y_constant y_result : Int64} {y_bytes y_there y_types y_typeSig y_imports y_functions y_sig y_what y_typeAt y_localsAt y_globals y_globalKind y_globalFree y_entries y_entriesAt y_hasMemory y_memory y_nest y_kinds y_shape y_gives y_height y_dead y_labelAt y_labelHeight y_labelGives y_callModule y_callFunction y_callBack y_callBase y_callLabels y_waiting y_prints : Nat → Int32} {y_globalValue y_stack : Nat → Int64}
variable {post : Int32 → SY → Prop} {c : Nat → Nat} {s f t : Nat} {a b d : Int64}
theorem y_args (ht : ty_ok c t) (h : wpY_begin (fun r u => match u with | (y_count, y_place, y_m, y_pos, y_wrong, y_constant, y_least, y_top, y_frames, y_invalid, y_sp, y_labels, y_active, y_fuel, y_outcome, y_trappedAt, y_result, y_used, y_waits, y_printed, y_bytes, y_there, y_types, y_typeSig, y_imports, y_functions, y_sig, y_what, y_typeAt, y_localsAt, y_globals, y_globalKind, y_globalFree, y_globalValue, y_entries, y_entriesAt, y_hasMemory, y_memory, y_nest, y_kinds, y_shape, y_gives, y_height, y_dead, y_stack, y_labelAt, y_labelHeight, y_labelGives, y_callModule, y_callFunction, y_callBack, y_callBase, y_callLabels, y_waiting, y_prints) => ∃ n162 : Nat, wY_invoke_162 post (nI (sg c t)) n162 r 0 y_count y_place y_m y_pos y_wrong y_constant y_least y_top y_frames y_invalid y_sp y_labels y_active y_fuel y_outcome y_trappedAt y_result y_used y_waits y_printed y_bytes y_there y_types y_typeSig y_imports y_functions y_sig y_what y_typeAt y_localsAt y_globals y_globalKind y_globalFree y_globalValue y_entries y_entriesAt y_hasMemory y_memory y_nest y_kinds y_shape y_gives y_height y_dead y_stack y_labelAt y_labelHeight y_labelGives y_callModule y_callFunction y_callBack y_callBase y_callLabels y_waiting y_prints) (y_count, y_place, y_m, y_pos, y_wrong, y_constant, y_least, y_top, y_frames, y_invalid, nI (c t), y_labels, y_active, y_fuel, y_outcome, y_trappedAt, y_result, y_used, y_waits, y_printed, y_bytes, y_there, y_types, y_typeSig, y_imports, y_functions, y_sig, y_what, y_typeAt, y_localsAt, y_globals, y_globalKind, y_globalFree, y_globalValue, y_entries, y_entriesAt, y_hasMemory, y_memory, y_nest, y_kinds, y_shape, y_gives, y_height, y_dead, pfill y_stack 0 (agv c t a b d) (c t), y_labelAt, y_labelHeight, y_labelGives, y_callModule, y_callFunction, y_callBack, y_callBase, y_callLabels, y_waiting, y_prints) (nI s) (nI f) 0) : ∀ r i l, i + r = c t → r < l → wY_invoke_87 post (nI s) (nI f) a b d (nI (sg c t)) l (nI i) y_count y_place y_m y_pos y_wrong y_constant y_least y_top y_frames y_invalid (nI i) y_labels y_active y_fuel y_outcome y_trappedAt y_result y_used y_waits y_printed y_bytes y_there y_types y_typeSig y_imports y_functions y_sig y_what y_typeAt y_localsAt y_globals y_globalKind y_globalFree y_globalValue y_entries y_entriesAt y_hasMemory y_memory y_nest y_kinds y_shape y_gives y_height y_dead (pfill y_stack 0 (agv c t a b d) i) y_labelAt y_labelHeight y_labelGives y_callModule y_callFunction y_callBack y_callBase y_callLabels y_waiting y_prints := by
  have hl := sg_lt ht
  have n4 := sg_np ht
  have h3 := ht.1
  intro r
  induction r with
  | zero =>
    intro i l hi hl2
    obtain ⟨l, rfl⟩ : ∃ j, l = j + 1 := ⟨l - 1, by omega⟩
    have hi' : i = c t := by omega
    subst hi'
    unfold wY_invoke_87
    refine y_params hl ?_
    rw [n4.1]
    exact pk_le (c t) (c t) (fun _ => h) (fun z => absurd z (by omega))
  | succ r ih =>
    intro i l hi hl2
    obtain ⟨l, rfl⟩ : ∃ j, l = j + 1 := ⟨l - 1, by omega⟩
    have hk := ht.2.1 i (by omega)
    have g138 : ∀ v, v = agv c t a b d i → wY_invoke_138 post (wY_invoke_87 post (nI s) (nI f) a b d (nI (sg c t)) l) (nI s) (nI f) a b d (nI (sg c t)) (nI i) v y_count y_place y_m y_pos y_wrong y_constant y_least y_top y_frames y_invalid (nI i) y_labels y_active y_fuel y_outcome y_trappedAt y_result y_used y_waits y_printed y_bytes y_there y_types y_typeSig y_imports y_functions y_sig y_what y_typeAt y_localsAt y_globals y_globalKind y_globalFree y_globalValue y_entries y_entriesAt y_hasMemory y_memory y_nest y_kinds y_shape y_gives y_height y_dead (pfill y_stack 0 (agv c t a b d) i) y_labelAt y_labelHeight y_labelGives y_callModule y_callFunction y_callBack y_callBase y_callLabels y_waiting y_prints := by
      intro v hv
      subst hv
      have ih' := ih (i + 1) l (by omega) (by omega)
      rw [pfill, Nat.zero_add] at ih'
      exact y_push i (by omega) rfl (nm_r (nI_1 i) ih')
    have g119 : ∀ v, v = agr a b d i → wY_invoke_119 post (wY_invoke_87 post (nI s) (nI f) a b d (nI (sg c t)) l) (nI s) (nI f) a b d (nI (sg c t)) (nI i) v y_count y_place y_m y_pos y_wrong y_constant y_least y_top y_frames y_invalid (nI i) y_labels y_active y_fuel y_outcome y_trappedAt y_result y_used y_waits y_printed y_bytes y_there y_types y_typeSig y_imports y_functions y_sig y_what y_typeAt y_localsAt y_globals y_globalKind y_globalFree y_globalValue y_entries y_entriesAt y_hasMemory y_memory y_nest y_kinds y_shape y_gives y_height y_dead (pfill y_stack 0 (agv c t a b d) i) y_labelAt y_labelHeight y_labelGives y_callModule y_callFunction y_callBack y_callBase y_callLabels y_waiting y_prints := by
      intro v hv
      subst hv
      refine y_param hl (by omega) ?_
      rw [n4.2.2 i (by omega)]
      exact pk_eq (c (t + 1 + i)) 1 (fun z => g138 _ (by unfold agv; rw [if_pos z])) (fun z => g138 _ (by unfold agv; rw [if_neg z]))
    unfold wY_invoke_87
    refine y_params hl ?_
    rw [n4.1]
    refine pk_le (c t) i (fun z => absurd z (by omega)) (fun _ => ?_)
    refine pk_eq i 0 (fun z => g119 _ (by unfold agr; rw [if_pos z])) (fun z => pk_eq i 1 (fun z2 => g119 _ (by unfold agr; rw [if_neg z, if_pos z2])) (fun z2 => g119 _ (by unfold agr; rw [if_neg z, if_neg z2])))
end
