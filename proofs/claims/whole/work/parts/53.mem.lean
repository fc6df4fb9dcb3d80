theorem sb_and : ∀ b, b < 256 → (sb_v b).toInt64 &&& 255 = (nI b).toInt64 := by decide +kernel
def wbt (v : Int64) (i : Nat) : Nat := uN v / 2 ^ (8 * i) % 256
theorem wbt_lt (v : Int64) (i : Nat) : wbt v i < 256 := by unfold wbt; omega
theorem nI_a255 (m : Nat) : nI m &&& 255 = nI (m % 256) := by
  rw [nI_mod, pk_andN (by omega) 8 (by decide)]
  congr 1
  omega
theorem nI_i8 (m : Nat) : (nI m).toInt8 = (nI (m % 256)).toInt8 := by
  apply Int8.toInt_inj.mp
  rw [Int32.toInt_toInt8, Int32.toInt_toInt8]
  have e : ∀ k : Nat, (nI k).toInt = (k : Int).bmod (2 ^ 32) := fun k => by
    unfold nI; exact Int32.toInt_ofNat
  rw [e, e]
  simp only [Int.bmod_def]
  omega
theorem x_byte (v : Int64) {i : Nat} (hi : i < 8) : ((v.toUInt64 >>> ((8 * nI i).toInt64.toUInt64 &&& Int64.toUInt64 63)).toInt64.toInt32) &&& 255 = nI (wbt v i) := by
  have e : 8 * nI i = nI (8 * i) := pk_mul 8 i
  rw [e]
  have h := uN_sk v (k := 8 * i) (by omega)
  generalize (v.toUInt64 >>> ((nI (8 * i)).toInt64.toUInt64 &&& Int64.toUInt64 63)).toInt64 = t at h
  rw [uN_l t, h, lN_i, nI_a255]
  rfl
theorem y_byte (v : Int64) {i : Nat} (hi : i < 8) : vp_nar .byte ((v >>> ((8 * nI i).toInt64 &&& 63)).toInt32.toInt8.toInt32) = sb_v (wbt v i) := by
  have e : 8 * nI i = nI (8 * i) := pk_mul 8 i
  rw [pk_vb, e]
  have hs : ∀ k, k < 64 → (((nI k).toInt64 &&& 63).toBitVec.smod 64).toNat = k := by decide +kernel
  have h : (v >>> ((nI (8 * i)).toInt64 &&& 63)).toInt = v.toInt >>> (8 * i) := by
    show (v.toBitVec.sshiftRight _).toInt = _
    rw [BitVec.toInt_sshiftRight, hs _ (by omega)]
    rfl
  generalize v >>> ((nI (8 * i)).toInt64 &&& 63) = t at h
  rw [uN_int, uN_int, Int.shiftRight_eq_div_pow] at h
  rw [uN_l t, lN_i, nI_i8]
  unfold sb_v wbt
  congr 2
  have h1 := uN_lt t
  have h2 := uN_lt v
  have z : i = 0 ∨ i = 1 ∨ i = 2 ∨ i = 3 ∨ i = 4 ∨ i = 5 ∨ i = 6 ∨ i = 7 := by omega
  congr 1
  rcases z with rfl | rfl | rfl | rfl | rfl | rfl | rfl | rfl <;> simp at h ⊢ <;> omega
theorem adr (r : Int64) {o : Nat} (ho : o < 256) : (r &&& 4294967295) + (nI o).toInt64 = lN (uN r % 4294967296 + o) := by
  have h : uN (r &&& 4294967295) = uN r % 4294967296 := uN_lo r
  rw [uN_l (r &&& 4294967295), h, nI_l (by omega)]
  refine uN_inj ?_
  rw [uN_add, uN_of (by omega), uN_of (by omega), uN_of (by omega)]
  omega
def gm (b : Nat → Nat) : Nat → Nat → Int64 → Int64
  | 0, _, a => a
  | r + 1, i, a => gm b r (i + 1) (a ||| ((nI (b i)).toInt64 <<< ((nI (8 * i)).toInt64 &&& 63)))
section
variable {x_byteCount x_wrongPlace x_at x_frameCount x_kindCount x_valueCount x_activeCount x_goesOn x_outcome x_trapPlace x_fuelUsed x_firstWaiting x_waitingCount x_printCount : Int32} {x_resultValue : Int64} {x_code x_facts x_partner x_loaded x_memories x_frameAt x_frameHeight x_frameResult x_frameDead x_kinds x_activeSlot x_activeGives x_activeFrame x_activeResume x_waiting x_prints : Nat → Int32} {x_globals x_values x_variables : Nat → Int64}
variable {post : SX → Prop} {b : Nat → Nat} {base len op : Nat} {v : Int64}
theorem x_ld (hlen : len ≤ 8) (hb : base + len ≤ 96) (hm : ∀ j, j < len → x_memories (base + j) = nI (b j)) (hop : op < 256) (e : ∀ acc : Int64, acc = gm b len 0 v → (op = 23 → wpX_push (fun u => match u with | (x_byteCount, x_wrongPlace, x_at, x_frameCount, x_kindCount, x_valueCount, x_activeCount, x_goesOn, x_outcome, x_resultValue, x_trapPlace, x_fuelUsed, x_firstWaiting, x_waitingCount, x_printCount, x_code, x_facts, x_partner, x_loaded, x_globals, x_memories, x_frameAt, x_frameHeight, x_frameResult, x_frameDead, x_kinds, x_values, x_variables, x_activeSlot, x_activeGives, x_activeFrame, x_activeResume, x_waiting, x_prints) => post (x_byteCount, x_wrongPlace, x_at, x_frameCount, x_kindCount, x_valueCount, x_activeCount, x_goesOn, x_outcome, x_resultValue, x_trapPlace, x_fuelUsed, x_firstWaiting, x_waitingCount, x_printCount, x_code, x_facts, x_partner, x_loaded, x_globals, x_memories, x_frameAt, x_frameHeight, x_frameResult, x_frameDead, x_kinds, x_values, x_variables, x_activeSlot, x_activeGives, x_activeFrame, x_activeResume, x_waiting, x_prints)) (x_byteCount, x_wrongPlace, x_at, x_frameCount, x_kindCount, x_valueCount, x_activeCount, x_goesOn, x_outcome, x_resultValue, x_trapPlace, x_fuelUsed, x_firstWaiting, x_waitingCount, x_printCount, x_code, x_facts, x_partner, x_loaded, x_globals, x_memories, x_frameAt, x_frameHeight, x_frameResult, x_frameDead, x_kinds, x_values, x_variables, x_activeSlot, x_activeGives, x_activeFrame, x_activeResume, x_waiting, x_prints) acc.toInt32.toInt64) ∧ (op ≠ 23 → wpX_push (fun u => match u with | (x_byteCount, x_wrongPlace, x_at, x_frameCount, x_kindCount, x_valueCount, x_activeCount, x_goesOn, x_outcome, x_resultValue, x_trapPlace, x_fuelUsed, x_firstWaiting, x_waitingCount, x_printCount, x_code, x_facts, x_partner, x_loaded, x_globals, x_memories, x_frameAt, x_frameHeight, x_frameResult, x_frameDead, x_kinds, x_values, x_variables, x_activeSlot, x_activeGives, x_activeFrame, x_activeResume, x_waiting, x_prints) => post (x_byteCount, x_wrongPlace, x_at, x_frameCount, x_kindCount, x_valueCount, x_activeCount, x_goesOn, x_outcome, x_resultValue, x_trapPlace, x_fuelUsed, x_firstWaiting, x_waitingCount, x_printCount, x_code, x_facts, x_partner, x_loaded, x_globals, x_memories, x_frameAt, x_frameHeight, x_frameResult, x_frameDead, x_kinds, x_values, x_variables, x_activeSlot, x_activeGives, x_activeFrame, x_activeResume, x_waiting, x_prints)) (x_byteCount, x_wrongPlace, x_at, x_frameCount, x_kindCount, x_valueCount, x_activeCount, x_goesOn, x_outcome, x_resultValue, x_trapPlace, x_fuelUsed, x_firstWaiting, x_waitingCount, x_printCount, x_code, x_facts, x_partner, x_loaded, x_globals, x_memories, x_frameAt, x_frameHeight, x_frameResult, x_frameDead, x_kinds, x_values, x_variables, x_activeSlot, x_activeGives, x_activeFrame, x_activeResume, x_waiting, x_prints) acc)) : ∀ r i l acc, i + r = len → r < l → gm b r i acc = gm b len 0 v → wX_runAccess_154 post (nI op) (nI len) (nI base) x_byteCount x_wrongPlace x_at x_frameCount x_kindCount x_valueCount x_activeCount x_goesOn x_outcome x_resultValue x_trapPlace x_fuelUsed x_firstWaiting x_waitingCount x_printCount x_code x_facts x_partner x_loaded x_globals x_memories x_frameAt x_frameHeight x_frameResult x_frameDead x_kinds x_values x_variables x_activeSlot x_activeGives x_activeFrame x_activeResume x_waiting x_prints l acc (nI i) := by
  intro r
  induction r with
  | zero =>
    intro i l acc hi hl hg
    obtain ⟨l, rfl⟩ : ∃ j, l = j + 1 := ⟨l - 1, by omega⟩
    obtain ⟨e1, e2⟩ := e acc hg
    exact pk_le len i (fun _ => pk_eq op 23 (fun z => e1 z) (fun z => e2 z)) (fun z => absurd z (by omega))
  | succ r ih =>
    intro i l acc hi hl hg
    obtain ⟨l, rfl⟩ : ∃ j, l = j + 1 := ⟨l - 1, by omega⟩
    have e1 : nI base + nI i = nI (base + i) := nI_add base i
    refine pk_le len i (fun z => absurd z (by omega)) (fun _ => ⟨pk_in (base + i) 96 (by omega) e1, nm_r (show _ = acc ||| ((nI (b i)).toInt64 <<< ((nI (8 * i)).toInt64 &&& 63)) from ?_) (nm_r (nI_1 i) (ih (i + 1) l _ (by omega) (by omega) hg))⟩)
    rw [pk_cl (base + i) e1, hm i (by omega), show 8 * nI i = nI (8 * i) from pk_mul 8 i]
theorem x_st (hlen : len ≤ 8) (hb : base + len ≤ 96) (e : ∀ M', (∀ j, j < len → M' (base + j) = nI (wbt v j)) → (∀ j, ¬ (base ≤ j ∧ j < base + len) → M' j = x_memories j) → post (x_byteCount, x_wrongPlace, x_at, x_frameCount, x_kindCount, x_valueCount, x_activeCount, x_goesOn, x_outcome, x_resultValue, x_trapPlace, x_fuelUsed, x_firstWaiting, x_waitingCount, x_printCount, x_code, x_facts, x_partner, x_loaded, x_globals, M', x_frameAt, x_frameHeight, x_frameResult, x_frameDead, x_kinds, x_values, x_variables, x_activeSlot, x_activeGives, x_activeFrame, x_activeResume, x_waiting, x_prints)) : ∀ r i l (M : Nat → Int32), i + r = len → r < l → (∀ j, j < i → M (base + j) = nI (wbt v j)) → (∀ j, ¬ (base ≤ j ∧ j < base + i) → M j = x_memories j) → wX_runAccess_114 post v (nI len) (nI base) x_byteCount x_wrongPlace x_at x_frameCount x_kindCount x_valueCount x_activeCount x_goesOn x_outcome x_resultValue x_trapPlace x_fuelUsed x_firstWaiting x_waitingCount x_printCount l (nI i) x_code x_facts x_partner x_loaded x_globals M x_frameAt x_frameHeight x_frameResult x_frameDead x_kinds x_values x_variables x_activeSlot x_activeGives x_activeFrame x_activeResume x_waiting x_prints := by
  intro r
  induction r with
  | zero =>
    intro i l M hi hl h1 h2
    obtain ⟨l, rfl⟩ : ∃ j, l = j + 1 := ⟨l - 1, by omega⟩
    have : i = len := by omega
    subst this
    exact pk_le i i (fun _ => e M h1 h2) (fun z => absurd z (by omega))
  | succ r ih =>
    intro i l M hi hl h1 h2
    obtain ⟨l, rfl⟩ : ∃ j, l = j + 1 := ⟨l - 1, by omega⟩
    have e1 : nI base + nI i = nI (base + i) := nI_add base i
    refine pk_le len i (fun z => absurd z (by omega)) (fun _ => ⟨pk_in (base + i) 96 (by omega) e1, nm_r (show _ = upd M (base + i) (nI (wbt v i)) from by rw [pk_cl (base + i) e1, x_byte v (by omega)]) (nm_r (nI_1 i) (ih (i + 1) l _ (by omega) (by omega) (fun j hj => ?_) (fun j hj => ?_)))⟩)
    · by_cases z : j = i
      · subst z; exact pk_us
      · rw [pk_un (by omega)]; exact h1 j (by omega)
    · rw [pk_un (by omega)]; exact h2 j (by omega)
end
section
variable {y_count y_place y_m y_pos y_wrong y_least y_top y_frames y_invalid y_sp y_labels y_active y_fuel y_outcome y_trappedAt y_used y_waits y_printed : Int32} {y_constant y_result : Int64} {y_bytes y_there y_types y_typeSig y_imports y_functions y_sig y_what y_typeAt y_localsAt y_globals y_globalKind y_globalFree y_entries y_entriesAt y_hasMemory y_memory y_nest y_kinds y_shape y_gives y_height y_dead y_labelAt y_labelHeight y_labelGives y_callModule y_callFunction y_callBack y_callBase y_callLabels y_waiting y_prints : Nat → Int32} {y_globalValue y_stack : Nat → Int64}
variable {post : SY → Prop} {b : Nat → Nat} {base len : Nat} {v v0 : Int64} {i0 : Nat}
theorem y_ld (hlen : len ≤ 8) (hb : base + len ≤ 144) (hm : ∀ j, j < len → y_memory (base + j) = sb_v (b j) ∧ b j < 256) (es : y_sp = nI (i0 + 1)) (hi0 : i0 < 320) (e : post (y_count, y_place, y_m, y_pos, y_wrong, y_constant, y_least, y_top, y_frames, y_invalid, nI (i0 + 1), y_labels, y_active, y_fuel, y_outcome, y_trappedAt, y_result, y_used, y_waits, y_printed, y_bytes, y_there, y_types, y_typeSig, y_imports, y_functions, y_sig, y_what, y_typeAt, y_localsAt, y_globals, y_globalKind, y_globalFree, y_globalValue, y_entries, y_entriesAt, y_hasMemory, y_memory, y_nest, y_kinds, y_shape, y_gives, y_height, y_dead, vp_updL y_stack i0 (if len = 4 then (gm b len 0 v).toInt32.toInt64 else gm b len 0 v), y_labelAt, y_labelHeight, y_labelGives, y_callModule, y_callFunction, y_callBack, y_callBase, y_callLabels, y_waiting, y_prints)) : ∀ r i l acc, i + r = len → r < l → gm b r i acc = gm b len 0 v → wY_bytesOf_134 post (nI len) 0 v0 (nI base) y_count y_place y_m y_pos y_wrong y_constant y_least y_top y_frames y_invalid y_sp y_labels y_active y_fuel y_outcome y_trappedAt y_result y_used y_waits y_printed l acc (nI i) y_bytes y_there y_types y_typeSig y_imports y_functions y_sig y_what y_typeAt y_localsAt y_globals y_globalKind y_globalFree y_globalValue y_entries y_entriesAt y_hasMemory y_memory y_nest y_kinds y_shape y_gives y_height y_dead y_stack y_labelAt y_labelHeight y_labelGives y_callModule y_callFunction y_callBack y_callBase y_callLabels y_waiting y_prints := by
  subst es
  have e0 : nI (i0 + 1) - 1 = nI i0 := pk_sub (a := i0 + 1) (b := 1) (by omega)
  intro r
  induction r with
  | zero =>
    intro i l acc hi hl hg
    obtain ⟨l, rfl⟩ : ∃ j, l = j + 1 := ⟨l - 1, by omega⟩
    have hg' : acc = gm b len 0 v := hg
    rw [← hg'] at e
    refine pk_le len i (fun _ => br_t rfl (pk_eq len 4 (fun z => ?_) (fun z => ?_))) (fun z => absurd z (by omega))
    · rw [if_pos z] at e
      exact ⟨pk_in i0 320 hi0 e0, nm_r (by rw [pk_cl i0 e0]) e⟩
    · rw [if_neg z] at e
      exact ⟨pk_in i0 320 hi0 e0, nm_r (by rw [pk_cl i0 e0]) e⟩
  | succ r ih =>
    intro i l acc hi hl hg
    obtain ⟨l, rfl⟩ : ∃ j, l = j + 1 := ⟨l - 1, by omega⟩
    have e1 : nI base + nI i = nI (base + i) := nI_add base i
    obtain ⟨m1, m2⟩ := hm i (by omega)
    refine pk_le len i (fun z => absurd z (by omega)) (fun _ => br_t rfl ⟨pk_in (base + i) 144 (by omega) e1, nm_r (show _ = acc ||| ((nI (b i)).toInt64 <<< ((nI (8 * i)).toInt64 &&& 63)) from ?_) (nm_r (nI_1 i) (ih (i + 1) l _ (by omega) (by omega) hg))⟩)
    rw [pk_cl (base + i) e1, m1, sb_and _ m2, show 8 * nI i = nI (8 * i) from pk_mul 8 i]
theorem y_st {acc : Int64} (hlen : len ≤ 8) (hb : base + len ≤ 144) (es : y_sp = nI (i0 + 1)) (e : ∀ M', (∀ j, j < len → M' (base + j) = sb_v (wbt v j)) → (∀ j, ¬ (base ≤ j ∧ j < base + len) → M' j = y_memory j) → post (y_count, y_place, y_m, y_pos, y_wrong, y_constant, y_least, y_top, y_frames, y_invalid, nI i0, y_labels, y_active, y_fuel, y_outcome, y_trappedAt, y_result, y_used, y_waits, y_printed, y_bytes, y_there, y_types, y_typeSig, y_imports, y_functions, y_sig, y_what, y_typeAt, y_localsAt, y_globals, y_globalKind, y_globalFree, y_globalValue, y_entries, y_entriesAt, y_hasMemory, M', y_nest, y_kinds, y_shape, y_gives, y_height, y_dead, y_stack, y_labelAt, y_labelHeight, y_labelGives, y_callModule, y_callFunction, y_callBack, y_callBase, y_callLabels, y_waiting, y_prints)) : ∀ r i l (M : Nat → Int32), i + r = len → r < l → (∀ j, j < i → M (base + j) = sb_v (wbt v j)) → (∀ j, ¬ (base ≤ j ∧ j < base + i) → M j = y_memory j) → wY_bytesOf_134 post (nI len) 1 v (nI base) y_count y_place y_m y_pos y_wrong y_constant y_least y_top y_frames y_invalid y_sp y_labels y_active y_fuel y_outcome y_trappedAt y_result y_used y_waits y_printed l acc (nI i) y_bytes y_there y_types y_typeSig y_imports y_functions y_sig y_what y_typeAt y_localsAt y_globals y_globalKind y_globalFree y_globalValue y_entries y_entriesAt y_hasMemory M y_nest y_kinds y_shape y_gives y_height y_dead y_stack y_labelAt y_labelHeight y_labelGives y_callModule y_callFunction y_callBack y_callBase y_callLabels y_waiting y_prints := by
  subst es
  intro r
  induction r with
  | zero =>
    intro i l M hi hl h1 h2
    obtain ⟨l, rfl⟩ : ∃ j, l = j + 1 := ⟨l - 1, by omega⟩
    have : i = len := by omega
    subst this
    exact pk_le i i (fun _ => br_f (by decide) (nm_r (pk_sub (a := i0 + 1) (b := 1) (by omega)) (e M h1 h2))) (fun z => absurd z (by omega))
  | succ r ih =>
    intro i l M hi hl h1 h2
    obtain ⟨l, rfl⟩ : ∃ j, l = j + 1 := ⟨l - 1, by omega⟩
    have e1 : nI base + nI i = nI (base + i) := nI_add base i
    refine pk_le len i (fun z => absurd z (by omega)) (fun _ => br_f (by decide) ⟨pk_in (base + i) 144 (by omega) e1, nm_r (show _ = upd M (base + i) (sb_v (wbt v i)) from by rw [pk_cl (base + i) e1, y_byte v (by omega)]) (nm_r (nI_1 i) (ih (i + 1) l _ (by omega) (by omega) (fun j hj => ?_) (fun j hj => ?_)))⟩)
    · by_cases z : j = i
      · subst z; exact pk_us
      · rw [pk_un (by omega)]; exact h1 j (by omega)
    · rw [pk_un (by omega)]; exact h2 j (by omega)
end
