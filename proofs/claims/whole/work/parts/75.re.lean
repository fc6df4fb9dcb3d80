section
variable {x_byteCount x_wrongPlace x_at x_frameCount x_kindCount x_valueCount x_activeCount x_goesOn x_outcome x_trapPlace x_fuelUsed x_firstWaiting x_waitingCount x_printCount : Int32} {x_resultValue : Int64} {x_code x_facts x_partner x_loaded x_memories x_frameAt x_frameHeight x_frameResult x_frameDead x_kinds x_activeSlot x_activeGives x_activeFrame x_activeResume x_waiting x_prints : Nat → Int32} {x_globals x_values x_variables : Nat → Int64}
theorem r_en {post : SX → Prop} {c : Nat → Nat} {s e a b l : Nat} (hs : s < 2) (M : mx_c x_code s c) (he : e < 140) (ha : a < 10) (eA : x_activeCount = nI (a + 1)) (eS : x_activeSlot a = nI s) (eat : x_at = nI e) (h6 : c e = 6) (eF : x_activeFrame a = nI b) (eC : x_frameCount = nI (b + l + 1)) (hl : 0 < l) (hb : b + l < 1000) (eo : x_outcome = -1) (h : post (x_byteCount, x_wrongPlace, nI (e + 1), nI (b + l), x_kindCount, x_valueCount, x_activeCount, nI (e + 1), x_outcome, x_resultValue, x_trapPlace, x_fuelUsed, x_firstWaiting, x_waitingCount, x_printCount, x_code, x_facts, x_partner, x_loaded, x_globals, x_memories, x_frameAt, x_frameHeight, x_frameResult, x_frameDead, x_kinds, x_values, x_variables, x_activeSlot, x_activeGives, x_activeFrame, x_activeResume, x_waiting, x_prints)) : wpX_step post (x_byteCount, x_wrongPlace, x_at, x_frameCount, x_kindCount, x_valueCount, x_activeCount, x_goesOn, x_outcome, x_resultValue, x_trapPlace, x_fuelUsed, x_firstWaiting, x_waitingCount, x_printCount, x_code, x_facts, x_partner, x_loaded, x_globals, x_memories, x_frameAt, x_frameHeight, x_frameResult, x_frameDead, x_kinds, x_values, x_variables, x_activeSlot, x_activeGives, x_activeFrame, x_activeResume, x_waiting, x_prints) := by
  have enx : nx c e = e + 1 := nx_1 (by omega)
  refine r_ctl hs M he ha eA eS eat (by omega) ?_
  rw [h6, enx]
  have ab : ∀ {P : Prop} {x y : Nat}, x ≠ y → x = y → P := fun h1 h2 => absurd h2 h1
  refine pk_lt 6 0 (fun y => absurd y (by omega)) (fun _ => pk_lt 10 6 (fun y => absurd y (by omega)) (fun _ => pk_eq 6 0 (ab (by omega)) (fun _ => pk_eq 6 1 (ab (by omega)) (fun _ => pk_eq 6 2 (ab (by omega)) (fun _ => pk_eq 6 3 (ab (by omega)) (fun _ => pk_eq 6 4 (ab (by omega)) (fun _ => pk_eq 6 5 (ab (by omega)) (fun _ => pk_eq 6 6 (fun _ => ?_) (fun y => absurd rfl y)))))))))
  subst eA eC
  have eF' : x_activeFrame (nI (a + 1 - 1)).toNatClampNeg = nI b := by rw [show a + 1 - 1 = a from rfl, pk_cl a]; exact eF
  have ec : (nI (b + l + 1) : Int32) - 1 = nI (b + l) := nI_p (b + l + 1) (by omega)
  unfold wpX_runEnd
  refine xx_last (k := a + 1) (l := 10) (by omega) (by omega) (by omega) ⟨pk_in a 10 ha, pk_le (b + l) b (fun y => absurd y (by omega)) (fun _ => nm_r ec (r_140 eo h)) ec eF'⟩
end
section
variable {B : Nat → Bool} {C : Nat → Nat → Nat} {N : Nat → Nat} {PP : Nat → Nat → Nat} {n : Nat} {cd : Nat → Nat} {g0 : Nat}
theorem stE {post : SX → Prop} {A : List ac} {fu e : Nat} {u : SX} {v : SY} (h : re B C N PP n cd g0 A fu e (gx_byteCount u) (gx_wrongPlace u) (gx_at u) (gx_frameCount u) (gx_valueCount u) (gx_activeCount u) (gx_outcome u) (gx_resultValue u) (gx_trapPlace u) (gx_fuelUsed u) (gx_firstWaiting u) (gx_waitingCount u) (gx_printCount u) (gx_code u) (gx_facts u) (gx_partner u) (gx_loaded u) (gx_globals u) (gx_memories u) (gx_frameAt u) (gx_frameHeight u) (gx_values u) (gx_variables u) (gx_activeSlot u) (gx_activeGives u) (gx_activeFrame u) (gx_activeResume u) (gx_waiting u) (gx_prints u) (gy_count v) (gy_place v) (gy_m v) (gy_sp v) (gy_labels v) (gy_active v) (gy_fuel v) (gy_outcome v) (gy_trappedAt v) (gy_waits v) (gy_printed v) (gy_bytes v) (gy_there v) (gy_types v) (gy_typeSig v) (gy_imports v) (gy_functions v) (gy_sig v) (gy_what v) (gy_localsAt v) (gy_globals v) (gy_globalValue v) (gy_entries v) (gy_entriesAt v) (gy_hasMemory v) (gy_memory v) (gy_stack v) (gy_labelAt v) (gy_labelHeight v) (gy_labelGives v) (gy_callModule v) (gy_callFunction v) (gy_callBack v) (gy_callBase v) (gy_callLabels v) (gy_waiting v) (gy_prints v)) (H : ∀ u', rn B C N PP n cd g0 A fu (gx_byteCount u') (gx_wrongPlace u') (gx_at u') (gx_frameCount u') (gx_valueCount u') (gx_activeCount u') (gx_outcome u') (gx_resultValue u') (gx_trapPlace u') (gx_fuelUsed u') (gx_firstWaiting u') (gx_waitingCount u') (gx_printCount u') (gx_code u') (gx_facts u') (gx_partner u') (gx_loaded u') (gx_globals u') (gx_memories u') (gx_frameAt u') (gx_frameHeight u') (gx_values u') (gx_variables u') (gx_activeSlot u') (gx_activeGives u') (gx_activeFrame u') (gx_activeResume u') (gx_waiting u') (gx_prints u') (gy_count v) (gy_place v) (gy_m v) (gy_sp v) (gy_labels v) (gy_active v) (gy_fuel v) (gy_outcome v) (gy_trappedAt v) (gy_waits v) (gy_printed v) (gy_bytes v) (gy_there v) (gy_types v) (gy_typeSig v) (gy_imports v) (gy_functions v) (gy_sig v) (gy_what v) (gy_localsAt v) (gy_globals v) (gy_globalValue v) (gy_entries v) (gy_entriesAt v) (gy_hasMemory v) (gy_memory v) (gy_stack v) (gy_labelAt v) (gy_labelHeight v) (gy_labelGives v) (gy_callModule v) (gy_callFunction v) (gy_callBack v) (gy_callBase v) (gy_callLabels v) (gy_waiting v) (gy_prints v) → post u') : gx_outcome u = -1 ∧ wpX_step post u := by
  obtain ⟨h, x1', x2', ap, c6⟩ := h
  have h' := h
  obtain ⟨W, ⟨f1, f2, f3⟩, ⟨o1, o2, o3, o4, o5⟩, hA, hl, hc, ⟨x1, x2, x3, x4, x5, x6⟩, ⟨y1, y2, y3, y4, y5⟩⟩ := h
  refine ⟨o1, ?_⟩
  cases A with
  | nil => exact absurd rfl hA
  | cons a R =>
    obtain ⟨s, f, nv, g, p, E, L, F⟩ := a
    obtain ⟨AO, CR⟩ := hc
    obtain ⟨x_byteCount, x_wrongPlace, x_at, x_frameCount, x_kindCount, x_valueCount, x_activeCount, x_goesOn, x_outcome, x_resultValue, x_trapPlace, x_fuelUsed, x_firstWaiting, x_waitingCount, x_printCount, x_code, x_facts, x_partner, x_loaded, x_globals, x_memories, x_frameAt, x_frameHeight, x_frameResult, x_frameDead, x_kinds, x_values, x_variables, x_activeSlot, x_activeGives, x_activeFrame, x_activeResume, x_waiting, x_prints⟩ := u
    have ap' : p = e + 1 := ap
    have c6' : C s e = 6 := c6
    have hlt : F ≠ [] := AO.2.2.2.2.2.2.2.2.1
    have h8 := AO.2.2.2.2.2.2.2.2.2.1
    have hp : p < 140 := AO.2.2.2.2.2.2.2.2.2.2.2.2.2.2.1
    have cle := ch_le B C N PP R g CR
    rw [List.length_cons] at hl
    have W11 := W.2.2.2.2.2.2.2.2.2.2.1 s AO.1 AO.2.1
    refine r_en (c := C s) (s := s) (e := e) (a := R.length) (b := fb R) (l := F.length) AO.1 W11.2.1.1 (by omega) (by omega) x4 x5.2.2.2.1 x1' c6' x5.2.2.2.2.2.1 x2' (List.length_pos_iff.mpr hlt) (by omega) o1 (H _ ?_)
    have e1 : nI (e + 1) = nI (a_p ((s, f, nv, g, p, E, L, F) :: R)) := by show nI (e + 1) = nI p; rw [ap']
    have h2 := h'
    rw [← e1] at h2
    exact h2
end
