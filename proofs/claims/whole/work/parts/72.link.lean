section
variable {x_byteCount x_wrongPlace x_at x_frameCount x_kindCount x_valueCount x_activeCount x_goesOn x_outcome x_trapPlace x_fuelUsed x_firstWaiting x_waitingCount x_printCount : Int32} {x_resultValue : Int64} {x_code x_facts x_partner x_loaded x_memories x_frameAt x_frameHeight x_frameResult x_frameDead x_kinds x_activeSlot x_activeGives x_activeFrame x_activeResume x_waiting x_prints : Nat → Int32} {x_globals x_values x_variables : Nat → Int64}
variable {y_count y_place y_m y_pos y_wrong y_least y_top y_frames y_invalid y_sp y_labels y_active y_fuel y_outcome y_trappedAt y_used y_waits y_printed : Int32} {y_constant y_result : Int64} {y_bytes y_there y_types y_typeSig y_imports y_functions y_sig y_what y_typeAt y_localsAt y_globals y_globalKind y_globalFree y_entries y_entriesAt y_hasMemory y_memory y_nest y_kinds y_shape y_gives y_height y_dead y_labelAt y_labelHeight y_labelGives y_callModule y_callFunction y_callBack y_callBase y_callLabels y_waiting y_prints : Nat → Int32} {y_globalValue y_stack : Nat → Int64}
variable {B : Nat → Bool} {C : Nat → Nat → Nat} {N : Nat → Nat} {PP : Nat → Nat → Nat} {n : Nat} {cd : Nat → Nat} {s x t f : Nat}
theorem y_beh {post : Int32 → Prop} (W : wo_ok B C N PP n cd x_byteCount x_wrongPlace x_firstWaiting x_waitingCount x_printCount x_code x_facts x_partner x_loaded x_globals x_memories x_waiting x_prints y_count y_place y_waits y_printed y_bytes y_there y_types y_typeSig y_imports y_functions y_sig y_what y_localsAt y_globals y_globalValue y_entries y_entriesAt y_hasMemory y_memory y_waiting y_prints) (hs : s < 2) (hB : B s = true) (T : tg B C N s x t f) (h0 : m_I (C t) (N t) ≤ f → post (nI (16 * t + f))) (h1 : f < m_I (C t) (N t) → post (nI (240 + C t (m_im (C t) (N t) f + 1)))) : wpY_behind post (y_count, y_place, y_m, y_pos, y_wrong, y_constant, y_least, y_top, y_frames, y_invalid, y_sp, y_labels, y_active, y_fuel, y_outcome, y_trappedAt, y_result, y_used, y_waits, y_printed, y_bytes, y_there, y_types, y_typeSig, y_imports, y_functions, y_sig, y_what, y_typeAt, y_localsAt, y_globals, y_globalKind, y_globalFree, y_globalValue, y_entries, y_entriesAt, y_hasMemory, y_memory, y_nest, y_kinds, y_shape, y_gives, y_height, y_dead, y_stack, y_labelAt, y_labelHeight, y_labelGives, y_callModule, y_callFunction, y_callBack, y_callBase, y_callLabels, y_waiting, y_prints) (nI s) (nI x) := by
  obtain ⟨w1, w2, w3, w4, w5, w6, w7, w8, w9, w10, w11, w12⟩ := W
  obtain ⟨t1, t2, t3, t4, t5, t6⟩ := T
  have im : ∀ s, s < 2 → B s = true → y_imports s = nI (m_I (C s) (N s)) ∧ (∀ k, k < m_I (C s) (N s) → y_what (3 * s + k) = nI (C s (m_im (C s) (N s) k + 1))) ∧ m_I (C s) (N s) ≤ 3 ∧ m_F (C s) (N s) ≤ 4 ∧ ∀ i, C s i < 256 := by
    intro s hs hB
    obtain ⟨s1, s2, s3, s4⟩ := w11 s hs hB
    have mp := (mp_of s1.2.1).1
    exact ⟨s3.2.2.2.1, s3.2.2.2.2.2.2.1, mp.2.2.1, mp.2.2.2.1, s2.1.2.1⟩
  obtain ⟨a1, a2, a3, a4, a5⟩ := im t t1 t2
  have e3 : ∀ s k, 3 * nI s + nI k = nI (3 * s + k) := fun s k => by rw [show (3 : Int32) = nI 3 from rfl, pk_mul, nI_add]
  have fin : ∀ l, wY_behind_5 post y_count y_place y_m y_pos y_wrong y_constant y_least y_top y_frames y_invalid y_sp y_labels y_active y_fuel y_outcome y_trappedAt y_result y_used y_waits y_printed y_bytes y_there y_types y_typeSig y_imports y_functions y_sig y_what y_typeAt y_localsAt y_globals y_globalKind y_globalFree y_globalValue y_entries y_entriesAt y_hasMemory y_memory y_nest y_kinds y_shape y_gives y_height y_dead y_stack y_labelAt y_labelHeight y_labelGives y_callModule y_callFunction y_callBack y_callBase y_callLabels y_waiting y_prints (l + 1) (nI t) (nI f) := by
    intro l
    have a1' : y_imports (nI t).toNatClampNeg = nI (m_I (C t) (N t)) := by rw [pk_cl t]; exact a1
    refine ⟨pk_in t 3 (by omega), pk_le (m_I (C t) (N t)) f (fun z => ?_) (fun z => ?_) a1' rfl⟩
    · rw [show (16 : Int32) = nI 16 from rfl, pk_mul, nI_add]; exact h0 z
    · have h5 := a5 (m_im (C t) (N t) f + 1)
      refine ⟨pk_in (3 * t + f) 9 (by omega) (e3 t f), nm_r (show _ = nI (C t (m_im (C t) (N t) f + 1)) from by rw [pk_cl (3 * t + f) (e3 t f)]; exact a2 f z) (pk_lt (C t (m_im (C t) (N t) f + 1)) 16 (fun y => absurd y (by rcases t6 z with q | q <;> omega)) (fun _ => ?_))⟩
      rw [show (240 : Int32) = nI 240 from rfl, nI_add]; exact h1 z
  rcases t5 with ⟨z1, z2⟩ | ⟨z1, z2, z3, z4, z5⟩
  · subst z1 z2
    exact ⟨1, fin 0⟩
  · subst z1 z2
    obtain ⟨b1, b2, b3, b4, b5⟩ := im 1 hs hB
    refine ⟨2, pk_in 1 3 (by omega), pk_le (m_I (C 1) (N 1)) x (fun y => absurd y (by omega)) (fun _ => ?_) b1 rfl⟩
    refine ⟨pk_in (3 * 1 + x) 9 (by omega) (e3 1 x), nm_r (show _ = nI f from by rw [pk_cl (3 * 1 + x) (e3 1 x), z4]; exact b2 x z3) (pk_lt f 16 (fun _ => fin 0) (fun y => absurd y (by omega)))⟩
theorem r_cl {post : SX → Prop} (W : wo_ok B C N PP n cd x_byteCount x_wrongPlace x_firstWaiting x_waitingCount x_printCount x_code x_facts x_partner x_loaded x_globals x_memories x_waiting x_prints y_count y_place y_waits y_printed y_bytes y_there y_types y_typeSig y_imports y_functions y_sig y_what y_localsAt y_globals y_globalValue y_entries y_entriesAt y_hasMemory y_memory y_waiting y_prints) (hs : s < 2) (hB : B s = true) (hx : x < m_I (C s) (N s) + m_F (C s) (N s)) (T : tg B C N s x t f) (h0 : m_I (C t) (N t) ≤ f → wX_runCall_66 post (nI f) (nI t) (-1) x_byteCount x_wrongPlace x_at x_frameCount x_kindCount x_valueCount x_activeCount x_goesOn x_outcome x_resultValue x_trapPlace x_fuelUsed x_firstWaiting x_waitingCount x_printCount x_code x_facts x_partner x_loaded x_globals x_memories x_frameAt x_frameHeight x_frameResult x_frameDead x_kinds x_values x_variables x_activeSlot x_activeGives x_activeFrame x_activeResume x_waiting x_prints) (h1 : f < m_I (C t) (N t) → wX_runCall_66 post (nI f) (nI t) (nI (C t (m_im (C t) (N t) f + 1))) x_byteCount x_wrongPlace x_at x_frameCount x_kindCount x_valueCount x_activeCount x_goesOn x_outcome x_resultValue x_trapPlace x_fuelUsed x_firstWaiting x_waitingCount x_printCount x_code x_facts x_partner x_loaded x_globals x_memories x_frameAt x_frameHeight x_frameResult x_frameDead x_kinds x_values x_variables x_activeSlot x_activeGives x_activeFrame x_activeResume x_waiting x_prints) : wX_runCall_16 post (nI s) (nI x) x_byteCount x_wrongPlace x_at x_frameCount x_kindCount x_valueCount x_activeCount x_goesOn x_outcome x_resultValue x_trapPlace x_fuelUsed x_firstWaiting x_waitingCount x_printCount x_code x_facts x_partner x_loaded x_globals x_memories x_frameAt x_frameHeight x_frameResult x_frameDead x_kinds x_values x_variables x_activeSlot x_activeGives x_activeFrame x_activeResume x_waiting x_prints := by
  obtain ⟨w1, w2, w3, w4, w5, w6, w7, w8, w9, w10, w11, w12⟩ := W
  obtain ⟨t1, t2, t3, t4, t5, t6⟩ := T
  obtain ⟨s1, s2, s3, s4⟩ := w11 s hs hB
  have mp := (mp_of s1.2.1).1
  have hI := mp.2.2.1
  have hF := mp.2.2.2.1
  obtain ⟨t7, t8, t9, t10⟩ := w11 t t1 t2
  have mp' := (mp_of t7.2.1).1
  have h256 := t8.1.2.1 (m_im (C t) (N t) f + 1)
  refine pk_le 0 x (fun _ => ?_) (fun z => absurd z (by omega))
  rcases t5 with ⟨z1, z2⟩ | ⟨z1, z2, z3, z4, z5⟩
  · subst z1 z2
    refine xm_foreign (w := (x_byteCount, x_wrongPlace, x_at, x_frameCount, x_kindCount, x_valueCount, x_activeCount, x_goesOn, x_outcome, x_resultValue, x_trapPlace, x_fuelUsed, x_firstWaiting, x_waitingCount, x_printCount, x_code, x_facts, x_partner, x_loaded, x_globals, x_memories, x_frameAt, x_frameHeight, x_frameResult, x_frameDead, x_kinds, x_values, x_variables, x_activeSlot, x_activeGives, x_activeFrame, x_activeResume, x_waiting, x_prints)) (c := C t) (n := N t) (by omega) s2.1 s2.2.1 mp s1.1 f hx (fun z => ?_) (fun z => ?_)
    · refine pk_lt (C t (m_im (C t) (N t) f + 1)) 0 (fun y => absurd y (by omega)) (fun _ => pk_lt 6 (C t (m_im (C t) (N t) f + 1)) (fun _ => h1 z) (fun y => absurd y (by rcases t6 z with q | q <;> omega)))
    · exact br_t (by decide) (h0 z)
  · subst z1 z2
    refine xm_foreign (w := (x_byteCount, x_wrongPlace, x_at, x_frameCount, x_kindCount, x_valueCount, x_activeCount, x_goesOn, x_outcome, x_resultValue, x_trapPlace, x_fuelUsed, x_firstWaiting, x_waitingCount, x_printCount, x_code, x_facts, x_partner, x_loaded, x_globals, x_memories, x_frameAt, x_frameHeight, x_frameResult, x_frameDead, x_kinds, x_values, x_variables, x_activeSlot, x_activeGives, x_activeFrame, x_activeResume, x_waiting, x_prints)) (c := C 1) (n := N 1) (by omega) s2.1 s2.2.1 mp s1.1 x hx (fun z => ?_) (fun z => absurd z (by omega))
    rw [← z4]
    refine pk_lt f 0 (fun y => absurd y (by omega)) (fun _ => pk_lt 6 f (fun y => absurd y (by omega)) (fun _ => ?_))
    refine xm_foreign (m := 0) (w := (x_byteCount, x_wrongPlace, x_at, x_frameCount, x_kindCount, x_valueCount, x_activeCount, x_goesOn, x_outcome, x_resultValue, x_trapPlace, x_fuelUsed, x_firstWaiting, x_waitingCount, x_printCount, x_code, x_facts, x_partner, x_loaded, x_globals, x_memories, x_frameAt, x_frameHeight, x_frameResult, x_frameDead, x_kinds, x_values, x_variables, x_activeSlot, x_activeGives, x_activeFrame, x_activeResume, x_waiting, x_prints)) (c := C 0) (n := N 0) (by omega) t8.1 t8.2.1 mp' t7.1 f t3 (fun z => h1 z) (fun z => h0 z)
end
section
variable {x_byteCount x_wrongPlace x_at x_frameCount x_kindCount x_valueCount x_activeCount x_goesOn x_outcome x_trapPlace x_fuelUsed x_firstWaiting x_waitingCount x_printCount : Int32} {x_resultValue : Int64} {x_code x_facts x_partner x_loaded x_memories x_frameAt x_frameHeight x_frameResult x_frameDead x_kinds x_activeSlot x_activeGives x_activeFrame x_activeResume x_waiting x_prints : Nat → Int32} {x_globals x_values x_variables : Nat → Int64}
variable {post : SX → Prop} {i fw w : Nat} {v : Int64}
theorem r_print (e : x_valueCount = nI (i + 1)) (hi : i < 256) (hv : x_values i = v) (h : post (x_byteCount, x_wrongPlace, x_at, x_frameCount, x_kindCount, nI i, x_activeCount, x_goesOn, x_outcome, x_resultValue, x_trapPlace, x_fuelUsed, x_firstWaiting, x_waitingCount, x_printCount + 1, x_code, x_facts, x_partner, x_loaded, x_globals, x_memories, x_frameAt, x_frameHeight, x_frameResult, x_frameDead, x_kinds, x_values, x_variables, x_activeSlot, x_activeGives, x_activeFrame, x_activeResume, x_waiting, upd x_prints (x_printCount &&& 15).toNatClampNeg v.toInt32)) : wpX_runHost post (x_byteCount, x_wrongPlace, x_at, x_frameCount, x_kindCount, x_valueCount, x_activeCount, x_goesOn, x_outcome, x_resultValue, x_trapPlace, x_fuelUsed, x_firstWaiting, x_waitingCount, x_printCount, x_code, x_facts, x_partner, x_loaded, x_globals, x_memories, x_frameAt, x_frameHeight, x_frameResult, x_frameDead, x_kinds, x_values, x_variables, x_activeSlot, x_activeGives, x_activeFrame, x_activeResume, x_waiting, x_prints) (nI 16) :=
  br_t rfl (r_popv i v hi e hv ⟨pk_andIn x_printCount 4 (by decide) (by omega), nm_r rfl (nm_r rfl h)⟩)
theorem r_input (e : x_valueCount = nI i) (hi : i < 256) (hw : w ≤ 8) (eW : x_waitingCount = nI w) (hf : fw < 8) (eF : x_firstWaiting = nI fw) (h0 : w = 0 → post (x_byteCount, x_wrongPlace, x_at, x_frameCount, x_kindCount, nI (i + 1), x_activeCount, x_goesOn, x_outcome, x_resultValue, x_trapPlace, x_fuelUsed, x_firstWaiting, x_waitingCount, x_printCount, x_code, x_facts, x_partner, x_loaded, x_globals, x_memories, x_frameAt, x_frameHeight, x_frameResult, x_frameDead, x_kinds, vp_updL x_values i (-1), x_variables, x_activeSlot, x_activeGives, x_activeFrame, x_activeResume, x_waiting, x_prints)) (h1 : w ≠ 0 → post (x_byteCount, x_wrongPlace, x_at, x_frameCount, x_kindCount, nI (i + 1), x_activeCount, x_goesOn, x_outcome, x_resultValue, x_trapPlace, x_fuelUsed, nI ((fw + 1) % 8), nI (w - 1), x_printCount, x_code, x_facts, x_partner, x_loaded, x_globals, x_memories, x_frameAt, x_frameHeight, x_frameResult, x_frameDead, x_kinds, vp_updL x_values i (x_waiting fw).toInt64, x_variables, x_activeSlot, x_activeGives, x_activeFrame, x_activeResume, x_waiting, x_prints)) : wpX_runHost post (x_byteCount, x_wrongPlace, x_at, x_frameCount, x_kindCount, x_valueCount, x_activeCount, x_goesOn, x_outcome, x_resultValue, x_trapPlace, x_fuelUsed, x_firstWaiting, x_waitingCount, x_printCount, x_code, x_facts, x_partner, x_loaded, x_globals, x_memories, x_frameAt, x_frameHeight, x_frameResult, x_frameDead, x_kinds, x_values, x_variables, x_activeSlot, x_activeGives, x_activeFrame, x_activeResume, x_waiting, x_prints) (nI 17) := by
  subst eW eF
  refine br_f (by decide) (pk_eq w 0 (fun z => r_push i hi e (h0 z)) (fun z => ⟨pk_in fw 8 hf, ?_⟩))
  rw [pk_cl fw]
  refine r_push i hi e ⟨by decide, nm_r (show _ = nI ((fw + 1) % 8) from ?_) (nm_r (nI_p w z) (h1 z))⟩
  rw [nI_1]
  exact pk_rem (d := 8) (by omega) (by omega) (by omega)
end
