section
variable {B : Nat → Bool} {C : Nat → Nat → Nat} {N : Nat → Nat} {PP : Nat → Nat → Nat} {n : Nat} {cd : Nat → Nat} {g0 : Nat}
theorem stR {post : SX → Prop} {A : List ac} {fu : Nat} {u : SX} {v : SY} (h : rn B C N PP n cd g0 A fu (gx_byteCount u) (gx_wrongPlace u) (gx_at u) (gx_frameCount u) (gx_valueCount u) (gx_activeCount u) (gx_outcome u) (gx_resultValue u) (gx_trapPlace u) (gx_fuelUsed u) (gx_firstWaiting u) (gx_waitingCount u) (gx_printCount u) (gx_code u) (gx_facts u) (gx_partner u) (gx_loaded u) (gx_globals u) (gx_memories u) (gx_frameAt u) (gx_frameHeight u) (gx_values u) (gx_variables u) (gx_activeSlot u) (gx_activeGives u) (gx_activeFrame u) (gx_activeResume u) (gx_waiting u) (gx_prints u) (gy_count v) (gy_place v) (gy_m v) (gy_sp v) (gy_labels v) (gy_active v) (gy_fuel v) (gy_outcome v) (gy_trappedAt v) (gy_waits v) (gy_printed v) (gy_bytes v) (gy_there v) (gy_types v) (gy_typeSig v) (gy_imports v) (gy_functions v) (gy_sig v) (gy_what v) (gy_localsAt v) (gy_globals v) (gy_globalValue v) (gy_entries v) (gy_entriesAt v) (gy_hasMemory v) (gy_memory v) (gy_stack v) (gy_labelAt v) (gy_labelHeight v) (gy_labelGives v) (gy_callModule v) (gy_callFunction v) (gy_callBack v) (gy_callBase v) (gy_callLabels v) (gy_waiting v) (gy_prints v)) (H : ∀ u' v' q, nxt B C N PP n cd g0 (mu A fu) u' v' q → ystep v v' (nI (a_p A)) q → post u') : wpX_step post u := by
  obtain ⟨W, ⟨f1, f2, f3⟩, ⟨o1, o2, o3, o4, o5⟩, hA, hl, hc, ⟨x1, x2, x3, x4, x5, x6⟩, ⟨y1, y2, y3, y4, y5⟩⟩ := h
  cases A with
  | nil => exact absurd rfl hA
  | cons a R =>
    obtain ⟨s, f, nv, g, p, E, L, F⟩ := a
    obtain ⟨AO, CR⟩ := hc
    obtain ⟨x_byteCount, x_wrongPlace, x_at, x_frameCount, x_kindCount, x_valueCount, x_activeCount, x_goesOn, x_outcome, x_resultValue, x_trapPlace, x_fuelUsed, x_firstWaiting, x_waitingCount, x_printCount, x_code, x_facts, x_partner, x_loaded, x_globals, x_memories, x_frameAt, x_frameHeight, x_frameResult, x_frameDead, x_kinds, x_values, x_variables, x_activeSlot, x_activeGives, x_activeFrame, x_activeResume, x_waiting, x_prints⟩ := u
    obtain ⟨y_count, y_place, y_m, y_pos, y_wrong, y_constant, y_least, y_top, y_frames, y_invalid, y_sp, y_labels, y_active, y_fuel, y_outcome, y_trappedAt, y_result, y_used, y_waits, y_printed, y_bytes, y_there, y_types, y_typeSig, y_imports, y_functions, y_sig, y_what, y_typeAt, y_localsAt, y_globals, y_globalKind, y_globalFree, y_globalValue, y_entries, y_entriesAt, y_hasMemory, y_memory, y_nest, y_kinds, y_shape, y_gives, y_height, y_dead, y_stack, y_labelAt, y_labelHeight, y_labelGives, y_callModule, y_callFunction, y_callBack, y_callBase, y_callLabels, y_waiting, y_prints⟩ := v
    replace f1 : x_fuelUsed = nI fu := f1
    replace f2 : y_fuel = nI (120 - fu) := f2
    replace o1 : x_outcome = -1 := o1
    replace o2 : x_resultValue = 0 := o2
    replace o3 : x_trapPlace = -1 := o3
    replace o4 : y_outcome = 0 := o4
    replace o5 : y_trappedAt = -1 := o5
    replace x1 : x_at = nI p := x1
    replace x2 : x_frameCount = nI (fb R + F.length) := x2
    replace x3 : x_valueCount = nI (vb R + E.length) := x3
    replace x4 : x_activeCount = nI (R.length + 1) := x4
    replace y1 : y_m = nI s := y1
    replace y2 : y_sp = nI (yb R + nv + E.length) := y2
    replace y3 : y_labels = nI (fb R + F.length) := y3
    replace y4 : y_active = nI (R.length + 1) := y4
    subst f1 f2 o1 o2 o3 o4 o5 x1 x2 x3 x4 y1 y2 y3 y4
    exact stp W f3 (by rw [List.length_cons] at hl; omega) AO CR x5 x6 y5 H
def yrun : Nat → SY → Int32 → SY → Int32 → Prop
  | 0, v, p, v', p' => v = v' ∧ p = p'
  | j + 1, v, p, v', p' => 0 < gy_active v ∧ gy_outcome v = 0 ∧ ∃ v1 q, ystep v v1 p q ∧ yrun j v1 q v' p'
def fin (B : Nat → Bool) (C : Nat → Nat → Nat) (N : Nat → Nat) (PP : Nat → Nat → Nat) (n : Nat) (cd : Nat → Nat) (g0 : Nat) (u : SX) (v : SY) : Prop := (∃ fu t s p a, tr B C N PP n cd fu t s p a (gx_byteCount u) (gx_wrongPlace u) (gx_at u) (gx_frameCount u) (gx_valueCount u) (gx_activeCount u) (gx_outcome u) (gx_resultValue u) (gx_trapPlace u) (gx_fuelUsed u) (gx_firstWaiting u) (gx_waitingCount u) (gx_printCount u) (gx_code u) (gx_facts u) (gx_partner u) (gx_loaded u) (gx_globals u) (gx_memories u) (gx_frameAt u) (gx_frameHeight u) (gx_values u) (gx_variables u) (gx_activeSlot u) (gx_activeGives u) (gx_activeFrame u) (gx_activeResume u) (gx_waiting u) (gx_prints u) (gy_count v) (gy_place v) (gy_m v) (gy_sp v) (gy_labels v) (gy_active v) (gy_fuel v) (gy_outcome v) (gy_trappedAt v) (gy_waits v) (gy_printed v) (gy_bytes v) (gy_there v) (gy_types v) (gy_typeSig v) (gy_imports v) (gy_functions v) (gy_sig v) (gy_what v) (gy_localsAt v) (gy_globals v) (gy_globalValue v) (gy_entries v) (gy_entriesAt v) (gy_hasMemory v) (gy_memory v) (gy_stack v) (gy_labelAt v) (gy_labelHeight v) (gy_labelGives v) (gy_callModule v) (gy_callFunction v) (gy_callBack v) (gy_callBase v) (gy_callLabels v) (gy_waiting v) (gy_prints v)) ∨ (∃ fu, dn B C N PP n cd g0 fu (gx_byteCount u) (gx_wrongPlace u) (gx_at u) (gx_frameCount u) (gx_valueCount u) (gx_activeCount u) (gx_outcome u) (gx_resultValue u) (gx_trapPlace u) (gx_fuelUsed u) (gx_firstWaiting u) (gx_waitingCount u) (gx_printCount u) (gx_code u) (gx_facts u) (gx_partner u) (gx_loaded u) (gx_globals u) (gx_memories u) (gx_frameAt u) (gx_frameHeight u) (gx_values u) (gx_variables u) (gx_activeSlot u) (gx_activeGives u) (gx_activeFrame u) (gx_activeResume u) (gx_waiting u) (gx_prints u) (gy_count v) (gy_place v) (gy_m v) (gy_sp v) (gy_labels v) (gy_active v) (gy_fuel v) (gy_outcome v) (gy_trappedAt v) (gy_waits v) (gy_printed v) (gy_bytes v) (gy_there v) (gy_types v) (gy_typeSig v) (gy_imports v) (gy_functions v) (gy_sig v) (gy_what v) (gy_localsAt v) (gy_globals v) (gy_globalValue v) (gy_entries v) (gy_entriesAt v) (gy_hasMemory v) (gy_memory v) (gy_stack v) (gy_labelAt v) (gy_labelHeight v) (gy_labelGives v) (gy_callModule v) (gy_callFunction v) (gy_callBack v) (gy_callBase v) (gy_callLabels v) (gy_waiting v) (gy_prints v))
theorem nI_p1 : ∀ k, k ≤ 10 → 0 < k → (0 : Int32) < nI k := by decide
theorem nI_m1 : ∀ k, k < 10 → ¬ nI k = -1 := by decide
theorem rn_y {A : List ac} {fu : Nat} {u : SX} {v : SY} (h : rn B C N PP n cd g0 A fu (gx_byteCount u) (gx_wrongPlace u) (gx_at u) (gx_frameCount u) (gx_valueCount u) (gx_activeCount u) (gx_outcome u) (gx_resultValue u) (gx_trapPlace u) (gx_fuelUsed u) (gx_firstWaiting u) (gx_waitingCount u) (gx_printCount u) (gx_code u) (gx_facts u) (gx_partner u) (gx_loaded u) (gx_globals u) (gx_memories u) (gx_frameAt u) (gx_frameHeight u) (gx_values u) (gx_variables u) (gx_activeSlot u) (gx_activeGives u) (gx_activeFrame u) (gx_activeResume u) (gx_waiting u) (gx_prints u) (gy_count v) (gy_place v) (gy_m v) (gy_sp v) (gy_labels v) (gy_active v) (gy_fuel v) (gy_outcome v) (gy_trappedAt v) (gy_waits v) (gy_printed v) (gy_bytes v) (gy_there v) (gy_types v) (gy_typeSig v) (gy_imports v) (gy_functions v) (gy_sig v) (gy_what v) (gy_localsAt v) (gy_globals v) (gy_globalValue v) (gy_entries v) (gy_entriesAt v) (gy_hasMemory v) (gy_memory v) (gy_stack v) (gy_labelAt v) (gy_labelHeight v) (gy_labelGives v) (gy_callModule v) (gy_callFunction v) (gy_callBack v) (gy_callBase v) (gy_callLabels v) (gy_waiting v) (gy_prints v)) : 0 < gy_active v ∧ gy_outcome v = 0 ∧ gx_outcome u = -1 := by
  obtain ⟨W, ⟨f1, f2, f3⟩, ⟨o1, o2, o3, o4, o5⟩, hA, hl, hc, ⟨x1, x2, x3, x4, x5, x6⟩, ⟨y1, y2, y3, y4, y5⟩⟩ := h
  refine ⟨?_, o4, o1⟩
  rw [y4]
  exact nI_p1 _ hl (List.length_pos_iff.mpr hA)
theorem fin_x {u : SX} {v : SY} (h : fin B C N PP n cd g0 u v) : ¬ gx_outcome u = -1 := by
  rcases h with ⟨fu, t, s, p, a, W, f1, o1, t1, t2, _⟩ | ⟨fu, W, f1, o1, _⟩
  · rw [o1]; exact nI_m1 t t2
  · rw [o1]; decide
theorem gox {LX KX : Nat → Nat → SX → Prop} {EX : SX → Prop} (hK : ∀ l i u, LX l (i + 1) u → KX l i u) (hs : ∀ l i u, i < 1000000 → gx_outcome u = -1 → wpX_step (KX l i) u → LX (l + 1) i u) (he : ∀ l i u, i < 1000000 → ¬ gx_outcome u = -1 → EX u → LX (l + 1) i u)
    (hE : ∀ {post : SX → Prop} {A : List ac} {fu e : Nat} {u : SX} {v : SY}, re B C N PP n cd g0 A fu e (gx_byteCount u) (gx_wrongPlace u) (gx_at u) (gx_frameCount u) (gx_valueCount u) (gx_activeCount u) (gx_outcome u) (gx_resultValue u) (gx_trapPlace u) (gx_fuelUsed u) (gx_firstWaiting u) (gx_waitingCount u) (gx_printCount u) (gx_code u) (gx_facts u) (gx_partner u) (gx_loaded u) (gx_globals u) (gx_memories u) (gx_frameAt u) (gx_frameHeight u) (gx_values u) (gx_variables u) (gx_activeSlot u) (gx_activeGives u) (gx_activeFrame u) (gx_activeResume u) (gx_waiting u) (gx_prints u) (gy_count v) (gy_place v) (gy_m v) (gy_sp v) (gy_labels v) (gy_active v) (gy_fuel v) (gy_outcome v) (gy_trappedAt v) (gy_waits v) (gy_printed v) (gy_bytes v) (gy_there v) (gy_types v) (gy_typeSig v) (gy_imports v) (gy_functions v) (gy_sig v) (gy_what v) (gy_localsAt v) (gy_globals v) (gy_globalValue v) (gy_entries v) (gy_entriesAt v) (gy_hasMemory v) (gy_memory v) (gy_stack v) (gy_labelAt v) (gy_labelHeight v) (gy_labelGives v) (gy_callModule v) (gy_callFunction v) (gy_callBack v) (gy_callBase v) (gy_callLabels v) (gy_waiting v) (gy_prints v) → (∀ u', rn B C N PP n cd g0 A fu (gx_byteCount u') (gx_wrongPlace u') (gx_at u') (gx_frameCount u') (gx_valueCount u') (gx_activeCount u') (gx_outcome u') (gx_resultValue u') (gx_trapPlace u') (gx_fuelUsed u') (gx_firstWaiting u') (gx_waitingCount u') (gx_printCount u') (gx_code u') (gx_facts u') (gx_partner u') (gx_loaded u') (gx_globals u') (gx_memories u') (gx_frameAt u') (gx_frameHeight u') (gx_values u') (gx_variables u') (gx_activeSlot u') (gx_activeGives u') (gx_activeFrame u') (gx_activeResume u') (gx_waiting u') (gx_prints u') (gy_count v) (gy_place v) (gy_m v) (gy_sp v) (gy_labels v) (gy_active v) (gy_fuel v) (gy_outcome v) (gy_trappedAt v) (gy_waits v) (gy_printed v) (gy_bytes v) (gy_there v) (gy_types v) (gy_typeSig v) (gy_imports v) (gy_functions v) (gy_sig v) (gy_what v) (gy_localsAt v) (gy_globals v) (gy_globalValue v) (gy_entries v) (gy_entriesAt v) (gy_hasMemory v) (gy_memory v) (gy_stack v) (gy_labelAt v) (gy_labelHeight v) (gy_labelGives v) (gy_callModule v) (gy_callFunction v) (gy_callBack v) (gy_callBase v) (gy_callLabels v) (gy_waiting v) (gy_prints v) → post u') → gx_outcome u = -1 ∧ wpX_step post u) :
    ∀ m A fu u v i l, rn B C N PP n cd g0 A fu (gx_byteCount u) (gx_wrongPlace u) (gx_at u) (gx_frameCount u) (gx_valueCount u) (gx_activeCount u) (gx_outcome u) (gx_resultValue u) (gx_trapPlace u) (gx_fuelUsed u) (gx_firstWaiting u) (gx_waitingCount u) (gx_printCount u) (gx_code u) (gx_facts u) (gx_partner u) (gx_loaded u) (gx_globals u) (gx_memories u) (gx_frameAt u) (gx_frameHeight u) (gx_values u) (gx_variables u) (gx_activeSlot u) (gx_activeGives u) (gx_activeFrame u) (gx_activeResume u) (gx_waiting u) (gx_prints u) (gy_count v) (gy_place v) (gy_m v) (gy_sp v) (gy_labels v) (gy_active v) (gy_fuel v) (gy_outcome v) (gy_trappedAt v) (gy_waits v) (gy_printed v) (gy_bytes v) (gy_there v) (gy_types v) (gy_typeSig v) (gy_imports v) (gy_functions v) (gy_sig v) (gy_what v) (gy_localsAt v) (gy_globals v) (gy_globalValue v) (gy_entries v) (gy_entriesAt v) (gy_hasMemory v) (gy_memory v) (gy_stack v) (gy_labelAt v) (gy_labelHeight v) (gy_labelGives v) (gy_callModule v) (gy_callFunction v) (gy_callBack v) (gy_callBase v) (gy_callLabels v) (gy_waiting v) (gy_prints v) → mu A fu ≤ m → i + 2 * m + 3 < 1000000 → 2 * m + 3 < l → (∀ u' v' q j, fin B C N PP n cd g0 u' v' → j ≤ m + 1 → yrun j v (nI (a_p A)) v' q → EX u') → LX l i u := by
  intro m
  induction m with
  | zero =>
    intro A fu u v i l h hm
    exfalso
    obtain ⟨W, ⟨f1, f2, f3⟩, ⟨o1, o2, o3, o4, o5⟩, hA, hl, hc, _⟩ := h
    cases A with
    | nil => exact hA rfl
    | cons a R =>
      obtain ⟨s, f, nv, g, p, E, L, F⟩ := a
      have hp : p < 140 := hc.1.2.2.2.2.2.2.2.2.2.2.2.2.2.2.1
      simp only [mu, msum] at hm
      omega
  | succ m ih =>
    intro A fu u v i l h hm hi hl H
    obtain ⟨r1, r2, r3⟩ := rn_y h
    obtain ⟨l, rfl⟩ : ∃ k, l = k + 1 := ⟨l - 1, by omega⟩
    refine hs l i u (by omega) r3 (stR h (fun u' v' q hn hy => hK _ _ _ ?_))
    rcases hn with ⟨A', fu', hr, hq, hmu⟩ | ⟨A', fu', e, hr, hq, hmu⟩ | ht | hd
    · subst hq
      exact ih A' fu' u' v' (i + 1) l hr (by omega) (by omega) (by omega) (fun u2 v2 q2 j hf hj hyr => H u2 v2 q2 (j + 1) hf (by omega) ⟨r1, r2, v', _, hy, hyr⟩)
    · subst hq
      obtain ⟨l, rfl⟩ : ∃ k, l = k + 1 := ⟨l - 1, by omega⟩
      obtain ⟨e1, e2⟩ := hE (post := KX l (i + 1)) hr (fun u2 hr2 => hK _ _ _ (ih A' fu' u2 v' (i + 1 + 1) l hr2 (by omega) (by omega) (by omega) (fun u3 v3 q3 j hf hj hyr => H u3 v3 q3 (j + 1) hf (by omega) ⟨r1, r2, v', _, hy, hyr⟩)))
      exact hs l (i + 1) u' (by omega) e1 e2
    · obtain ⟨l, rfl⟩ : ∃ k, l = k + 1 := ⟨l - 1, by omega⟩
      have hf : fin B C N PP n cd g0 u' v' := Or.inl ht
      exact he l (i + 1) u' (by omega) (fin_x hf) (H u' v' q 1 hf (by omega) ⟨r1, r2, v', q, hy, rfl, rfl⟩)
    · obtain ⟨l, rfl⟩ : ∃ k, l = k + 1 := ⟨l - 1, by omega⟩
      have hf : fin B C N PP n cd g0 u' v' := Or.inr hd
      exact he l (i + 1) u' (by omega) (fin_x hf) (H u' v' q 1 hf (by omega) ⟨r1, r2, v', q, hy, rfl, rfl⟩)
theorem goy {LY KY : Nat → Nat → Int32 → SY → Prop} (hK : ∀ l i p v, LY l (i + 1) p v → KY l i p v) (hs : ∀ l i v p, i < 100000 → 0 < gy_active v → gy_outcome v = 0 → wpY_step (KY l i) v p → LY (l + 1) i p v) :
    ∀ j i l v p v' q, yrun j v p v' q → i + j ≤ 100000 → (∀ a w k, LY l (i + j) q (sy3 v' a w k)) → ∀ a w k, LY (l + j) i p (sy3 v a w k) := by
  intro j
  induction j with
  | zero =>
    intro i l v p v' q h _ H
    obtain ⟨h1, h2⟩ := h
    subst h1 h2
    exact H
  | succ j ih =>
    intro i l v p v' q h hi H a w k
    obtain ⟨h1, h2, v1, q1, h3, h4⟩ := h
    rw [show l + (j + 1) = (l + j) + 1 by omega]
    refine hs (l + j) i _ p (by omega) h1 h2 (h3 _ (fun a w k => hK _ _ _ _ (ih (i + 1) l v1 q1 v' q h4 (by omega) (fun a w k => ?_) a w k)) a w k)
    rw [show i + 1 + j = i + (j + 1) by omega]
    exact H a w k
end
