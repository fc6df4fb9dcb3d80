theorem v_num {c : Nat → Nat} {n f p : Nat} {S : vt_St} (h : 28 ≤ c p) : v_st c n f p S = vt_num (c p) S := by
  unfold v_st
  rw [if_neg (by omega), if_neg (by omega), if_neg (by omega), if_neg (by omega), if_neg (by omega), if_neg (by omega), if_neg (by omega), if_neg (by omega), if_neg (by omega), if_neg (by omega), if_neg (by omega), if_neg (by omega), if_neg (by omega), if_neg (by omega)]
theorem sx_01 (b : Prop) [Decidable b] : sx64 (if b then 1 else 0) := by
  split
  · unfold sx64; decide
  · unfold sx64; decide
theorem sx_10 (b : Prop) [Decidable b] : sx64 (if b then 0 else 1) := by
  split
  · unfold sx64; decide
  · unfold sx64; decide
theorem nr_sx {w : Bool} {o : Nat} {x y : Int64} (h1 : 29 ≤ o) (h2 : o ≤ 33) : sx64 (nr w o x y) := by
  have z : o = 29 ∨ o = 30 ∨ o = 31 ∨ o = 32 ∨ o = 33 := by omega
  rcases z with rfl | rfl | rfl | rfl | rfl
  · rw [nr_29]; exact sx_01 _
  · rw [nr_30]; exact sx_10 _
  · rw [nr_31]; exact sx_10 _
  · rw [nr_32]; exact sx_10 _
  · rw [nr_33]; exact sx_10 _
section
variable {x_byteCount x_wrongPlace x_at x_frameCount x_kindCount x_valueCount x_activeCount x_goesOn x_outcome x_trapPlace x_fuelUsed x_firstWaiting x_waitingCount x_printCount : Int32} {x_resultValue : Int64} {x_code x_facts x_partner x_loaded x_memories x_frameAt x_frameHeight x_frameResult x_frameDead x_kinds x_activeSlot x_activeGives x_activeFrame x_activeResume x_waiting x_prints : Nat → Int32} {x_globals x_values x_variables : Nat → Int64}
variable {y_count y_place y_m y_pos y_wrong y_least y_top y_frames y_invalid y_sp y_labels y_active y_fuel y_outcome y_trappedAt y_used y_waits y_printed : Int32} {y_constant y_result : Int64} {y_bytes y_there y_types y_typeSig y_imports y_functions y_sig y_what y_typeAt y_localsAt y_globals y_globalKind y_globalFree y_entries y_entriesAt y_hasMemory y_memory y_nest y_kinds y_shape y_gives y_height y_dead y_labelAt y_labelHeight y_labelGives y_callModule y_callFunction y_callBack y_callBase y_callLabels y_waiting y_prints : Nat → Int32} {y_globalValue y_stack : Nat → Int64}
variable {B : Nat → Bool} {C : Nat → Nat → Nat} {N : Nat → Nat} {PP : Nat → Nat → Nat} {n : Nat} {cd : Nat → Nat} {g0 fu s f nv g p : Nat} {E : List ev} {L : Nat → Int64} {F : List vt_Fr} {R : List ac}
variable {post : SX → Prop}
theorem fin_t {m t : Nat} {q : Int32} (W : wo_ok B C N PP n cd x_byteCount x_wrongPlace x_firstWaiting x_waitingCount x_printCount x_code x_facts x_partner x_loaded x_globals x_memories x_waiting x_prints y_count y_place y_waits y_printed y_bytes y_there y_types y_typeSig y_imports y_functions y_sig y_what y_localsAt y_globals y_globalValue y_entries y_entriesAt y_hasMemory y_memory y_waiting y_prints) (hfu : fu ≤ 120) (hR : R.length < 10) (eS : x_activeSlot R.length = nI s) (hs : s < 2) (hp : p < 140) (h0 : 0 < t) (h10 : t < 10) : nxt B C N PP n cd g0 m (x_byteCount, x_wrongPlace, nI p, x_frameCount, x_kindCount, x_valueCount, nI (R.length + 1), x_goesOn, nI t, 0, x_trapPlace, nI fu, x_firstWaiting, x_waitingCount, x_printCount, x_code, x_facts, x_partner, x_loaded, x_globals, x_memories, x_frameAt, x_frameHeight, x_frameResult, x_frameDead, x_kinds, x_values, x_variables, x_activeSlot, x_activeGives, x_activeFrame, x_activeResume, x_waiting, x_prints) (y_count, y_place, y_m, y_pos, y_wrong, y_constant, y_least, y_top, y_frames, y_invalid, y_sp, y_labels, y_active, nI (120 - fu), nI t, 1000 * nI s + nI p, y_result, y_used, y_waits, y_printed, y_bytes, y_there, y_types, y_typeSig, y_imports, y_functions, y_sig, y_what, y_typeAt, y_localsAt, y_globals, y_globalKind, y_globalFree, y_globalValue, y_entries, y_entriesAt, y_hasMemory, y_memory, y_nest, y_kinds, y_shape, y_gives, y_height, y_dead, y_stack, y_labelAt, y_labelHeight, y_labelGives, y_callModule, y_callFunction, y_callBack, y_callBase, y_callLabels, y_waiting, y_prints) q :=
  Or.inr (Or.inr (Or.inl ⟨fu, t, s, p, R.length, W, ⟨rfl, rfl, hfu⟩, rfl, h0, h10, rfl, rfl, hp, rfl, hR, eS, hs, rfl, rfl⟩))
theorem op_num (W : wo_ok B C N PP n cd x_byteCount x_wrongPlace x_firstWaiting x_waitingCount x_printCount x_code x_facts x_partner x_loaded x_globals x_memories x_waiting x_prints y_count y_place y_waits y_printed y_bytes y_there y_types y_typeSig y_imports y_functions y_sig y_what y_localsAt y_globals y_globalValue y_entries y_entriesAt y_hasMemory y_memory y_waiting y_prints) (hfu : fu ≤ 120) (hR : R.length < 10) (AO : a_ok B C N PP 0 s f nv g p E L F) (CR : ch_ok B C N PP g0 g R) (XA : xa_ok x_frameAt x_frameHeight x_values x_variables x_activeSlot x_activeGives x_activeFrame ((s, f, nv, g, p, E, L, F) :: R)) (AR : ar_ok x_activeResume R) (YA : ya_ok y_stack y_labelAt y_labelHeight y_labelGives y_callModule y_callFunction y_callBack y_callBase y_callLabels ((s, f, nv, g, p, E, L, F) :: R)) (hop : 28 ≤ C s p) (hop2 : C s p ≤ 63) (hno : C s p ≠ 28) (hno2 : C s p ≠ 46) (h : ∀ u' v' q, nxt B C N PP n cd g0 (mu ((s, f, nv, g, p, E, L, F) :: R) fu) u' v' q → ystep (y_count, y_place, nI s, y_pos, y_wrong, y_constant, y_least, y_top, y_frames, y_invalid, nI (yb R + nv + E.length), nI (fb R + F.length), nI (R.length + 1), nI (120 - fu), 0, -1, y_result, y_used, y_waits, y_printed, y_bytes, y_there, y_types, y_typeSig, y_imports, y_functions, y_sig, y_what, y_typeAt, y_localsAt, y_globals, y_globalKind, y_globalFree, y_globalValue, y_entries, y_entriesAt, y_hasMemory, y_memory, y_nest, y_kinds, y_shape, y_gives, y_height, y_dead, y_stack, y_labelAt, y_labelHeight, y_labelGives, y_callModule, y_callFunction, y_callBack, y_callBase, y_callLabels, y_waiting, y_prints) v' (nI p) q → post u') : wpX_step post (x_byteCount, x_wrongPlace, nI p, nI (fb R + F.length), x_kindCount, nI (vb R + E.length), nI (R.length + 1), x_goesOn, -1, 0, -1, nI fu, x_firstWaiting, x_waitingCount, x_printCount, x_code, x_facts, x_partner, x_loaded, x_globals, x_memories, x_frameAt, x_frameHeight, x_frameResult, x_frameDead, x_kinds, x_values, x_variables, x_activeSlot, x_activeGives, x_activeFrame, x_activeResume, x_waiting, x_prints) := by
  obtain ⟨sm, mp, hN, M, Q, ⟨k, wkk⟩, eS, b1, b2, b3, b4, hs, hpn, h66, hRd, htv, hE20, hh, hd, hnv, hp⟩ := op_f W hfu hR AO CR XA AR YA
  obtain ⟨ok, okn⟩ := wk_s wkk
  have hv := v_num (n := N s) (f := f) (S := (ek E, F, false)) hop
  unfold vt_num at hv
  rw [if_neg (show ¬ (C s p = 28 ∨ C s p = 46 ∨ 64 ≤ C s p) by omega)] at hv
  obtain ⟨kd, hkd⟩ : ∃ kd, kd = (if 46 ≤ C s p ∧ C s p ≤ 64 then 2 else 1) := ⟨_, rfl⟩
  obtain ⟨K, hK⟩ : ∃ K, K = (if C s p < 52 then 1 else if C s p < 64 then 2 else if C s p = 64 then 1 else 2) := ⟨_, rfl⟩
  have hkd0 : kd ≠ 0 := by rw [hkd]; split <;> omega
  have hK0 : K ≠ 0 := by rw [hK]; split; omega; split; omega; split <;> omega
  rw [← hkd, ← hK] at hv
  rw [hv] at ok
  have o2 := bf_gv ok
  have o1 := bf_pl o2
  obtain ⟨x1, y, E1, rfl, hh1, hx1, e1, _, ht1, htv1, _⟩ := pe o1 hd htv hh
  rw [e1] at ok o2 hv
  obtain ⟨x2, x, E3, rfl, hh3, hx2, e3, _, ht2, htv3, _⟩ := pe o2 hd htv1 hh1
  rw [e3] at ok hv
  have hx1' := hx1 hkd0
  have hx2' := hx2 hkd0
  subst hx1' 
  obtain ⟨hl, e4⟩ := ge ok
  rw [e4] at hv
  rw [ek_len] at hl
  simp only [List.length_cons] at hE20
  obtain ⟨q0, q1, q2⟩ := XA.1
  obtain ⟨r0, r1, r2⟩ := YA.1
  refine r_num hs M hp hR rfl eS rfl (by omega) (by omega) (x_num _ hop hop2 (fun w o ho hw => ?_))
  have ho28 : 29 ≤ o := by
    rw [ho]; cases w with
    | false => simp; omega
    | true => have := hw.mp rfl; simp; omega
  have ho45 : o ≤ 45 := by
    rw [ho]; cases w with
    | false =>
      have : ¬ 46 ≤ C s p := fun z => by have := hw.mpr z; exact ff_t this
      simp; omega
    | true => simp; omega
  have hsx : o = 38 → w = false → sx64 y := by
    intro z1 z2
    subst z2
    have z3 : C s p = 38 := by rw [ho] at z1; simpa using z1
    exact ht1 (by rw [hkd, if_neg (by omega)])
  have hKs : K = 1 → sx64 (pv w (nr w o x y)) := by
    intro z
    cases w with
    | false => exact sx_i _
    | true =>
      have h46 := hw.mp rfl
      have ho' : o = C s p - 18 := by rw [ho]; simp
      have : C s p < 52 := by
        by_cases q : C s p < 52
        · exact q
        · rw [hK, if_neg q, if_pos (by omega)] at z; omega
      exact nr_sx (w := true) ho28 (by omega)
  have hww : ∀ w' o', o' = C s p - (if w' = true then 18 else 0) → (w' = true ↔ 46 ≤ C s p) → w' = w ∧ o' = o := by
    intro w' o' ho' hw'
    have : w' = w := by
      cases w with
      | false =>
        cases w' with
        | false => rfl
        | true => exact (hw.mpr (hw'.mp rfl)).symm
      | true =>
        cases w' with
        | false => exact hw'.mpr (hw.mp rfl)
        | true => rfl
    subst this
    exact ⟨rfl, by rw [ho, ho']⟩
  have AO' := a_nx (X := [(x1, y), (x2, x)]) (X' := [(K, pv w (nr w o x y))]) (E0 := E3) AO hN hh3 hv ⟨hK0, hKs, htv3⟩ (by show E3.length + 1 ≤ 20; omega) AO.2.2.2.2.2.2.2.2.2.2.2.2.2.1
  refine x_n25 (i := vb R + E3.length) (x := x) (y := y) ho28 ho45 rfl (by omega) q1 q0 hsx (fun d1 d2 d3 => ?_) (fun d1 d2 d3 => ?_) (fun d1 d2 => ?_)
  · refine r_140t 2 (by omega) rfl ?_
    refine h _ (y_count, y_place, nI s, y_pos, y_wrong, y_constant, y_least, y_top, y_frames, y_invalid, nI (yb R + nv + E3.length + 1), nI (fb R + F.length), nI (R.length + 1), nI (120 - fu), nI 2, 1000 * nI s + nI p, y_result, y_used, y_waits, y_printed, y_bytes, y_there, y_types, y_typeSig, y_imports, y_functions, y_sig, y_what, y_typeAt, y_localsAt, y_globals, y_globalKind, y_globalFree, y_globalValue, y_entries, y_entriesAt, y_hasMemory, y_memory, y_nest, y_kinds, y_shape, y_gives, y_height, y_dead, y_stack, y_labelAt, y_labelHeight, y_labelGives, y_callModule, y_callFunction, y_callBack, y_callBase, y_callLabels, y_waiting, y_prints) (nI (nx (C s) p)) (fin_t (t := 2) W hfu hR eS hs hp (by omega) (by omega)) (fun QQ hQ a w' kk => ?_)
    show wpY_step QQ (y_count, y_place, nI s, a, w', kk, y_least, y_top, y_frames, y_invalid, nI (yb R + nv + E3.length + 2), nI (fb R + F.length), nI (R.length + 1), nI (120 - fu), 0, -1, y_result, y_used, y_waits, y_printed, y_bytes, y_there, y_types, y_typeSig, y_imports, y_functions, y_sig, y_what, y_typeAt, y_localsAt, y_globals, y_globalKind, y_globalFree, y_globalValue, y_entries, y_entriesAt, y_hasMemory, y_memory, y_nest, y_kinds, y_shape, y_gives, y_height, y_dead, y_stack, y_labelAt, y_labelHeight, y_labelGives, y_callModule, y_callFunction, y_callBack, y_callBase, y_callLabels, y_waiting, y_prints) (nI p)
    refine y_dat Q hpn h66 hRd (by omega) (fun k' x1 hx hk => ?_)
    refine yd_num (C s p) hop (by omega) hR rfl YA.2.2.2.2.2.1 rfl (yn_num _ hop hop2 (fun w' o' ho' hw' => ?_))
    obtain ⟨rfl, rfl⟩ := hww w' o' ho' hw'
    exact y_n85 s rfl ho28 ho45 rfl (by omega) r1 r0 hsx (fun _ _ _ => hQ _ _ _) (fun z1 z2 _ => absurd (d3.symm.trans z2) (by decide)) (fun z1 _ => absurd ⟨d1, d2, d3⟩ z1)
  · refine r_140t 3 (by omega) rfl ?_
    refine h _ (y_count, y_place, nI s, y_pos, y_wrong, y_constant, y_least, y_top, y_frames, y_invalid, nI (yb R + nv + E3.length + 1), nI (fb R + F.length), nI (R.length + 1), nI (120 - fu), nI 3, 1000 * nI s + nI p, y_result, y_used, y_waits, y_printed, y_bytes, y_there, y_types, y_typeSig, y_imports, y_functions, y_sig, y_what, y_typeAt, y_localsAt, y_globals, y_globalKind, y_globalFree, y_globalValue, y_entries, y_entriesAt, y_hasMemory, y_memory, y_nest, y_kinds, y_shape, y_gives, y_height, y_dead, y_stack, y_labelAt, y_labelHeight, y_labelGives, y_callModule, y_callFunction, y_callBack, y_callBase, y_callLabels, y_waiting, y_prints) (nI (nx (C s) p)) (fin_t (t := 3) W hfu hR eS hs hp (by omega) (by omega)) (fun QQ hQ a w' kk => ?_)
    show wpY_step QQ (y_count, y_place, nI s, a, w', kk, y_least, y_top, y_frames, y_invalid, nI (yb R + nv + E3.length + 2), nI (fb R + F.length), nI (R.length + 1), nI (120 - fu), 0, -1, y_result, y_used, y_waits, y_printed, y_bytes, y_there, y_types, y_typeSig, y_imports, y_functions, y_sig, y_what, y_typeAt, y_localsAt, y_globals, y_globalKind, y_globalFree, y_globalValue, y_entries, y_entriesAt, y_hasMemory, y_memory, y_nest, y_kinds, y_shape, y_gives, y_height, y_dead, y_stack, y_labelAt, y_labelHeight, y_labelGives, y_callModule, y_callFunction, y_callBack, y_callBase, y_callLabels, y_waiting, y_prints) (nI p)
    refine y_dat Q hpn h66 hRd (by omega) (fun k' x1 hx hk => ?_)
    refine yd_num (C s p) hop (by omega) hR rfl YA.2.2.2.2.2.1 rfl (yn_num _ hop hop2 (fun w' o' ho' hw' => ?_))
    obtain ⟨rfl, rfl⟩ := hww w' o' ho' hw'
    exact y_n85 s rfl ho28 ho45 rfl (by omega) r1 r0 hsx (fun _ _ z => absurd (d2.symm.trans z) (by decide)) (fun _ _ _ => hQ _ _ _) (fun _ z1 => absurd ⟨d1, d2, d3⟩ z1)
  · refine r_140 rfl ?_
    refine h _ (y_count, y_place, nI s, y_pos, y_wrong, y_constant, y_least, y_top, y_frames, y_invalid, nI (yb R + nv + E3.length + 1), nI (fb R + F.length), nI (R.length + 1), nI (120 - fu), 0, -1, y_result, y_used, y_waits, y_printed, y_bytes, y_there, y_types, y_typeSig, y_imports, y_functions, y_sig, y_what, y_typeAt, y_localsAt, y_globals, y_globalKind, y_globalFree, y_globalValue, y_entries, y_entriesAt, y_hasMemory, y_memory, y_nest, y_kinds, y_shape, y_gives, y_height, y_dead, vp_updL y_stack (yb R + nv + E3.length) (pv w (nr w o x y)), y_labelAt, y_labelHeight, y_labelGives, y_callModule, y_callFunction, y_callBack, y_callBase, y_callLabels, y_waiting, y_prints) (nI (nx (C s) p)) (fin_c W hfu hR AO'.1 CR (xa_1 (X := [(x1, y), (x2, x)]) XA b4) AR (ya_1 (X := [(x1, y), (x2, x)]) YA) (mu_s AO'.2 (by omega))) (fun QQ hQ a w' kk => ?_)
    show wpY_step QQ (y_count, y_place, nI s, a, w', kk, y_least, y_top, y_frames, y_invalid, nI (yb R + nv + E3.length + 2), nI (fb R + F.length), nI (R.length + 1), nI (120 - fu), 0, -1, y_result, y_used, y_waits, y_printed, y_bytes, y_there, y_types, y_typeSig, y_imports, y_functions, y_sig, y_what, y_typeAt, y_localsAt, y_globals, y_globalKind, y_globalFree, y_globalValue, y_entries, y_entriesAt, y_hasMemory, y_memory, y_nest, y_kinds, y_shape, y_gives, y_height, y_dead, y_stack, y_labelAt, y_labelHeight, y_labelGives, y_callModule, y_callFunction, y_callBack, y_callBase, y_callLabels, y_waiting, y_prints) (nI p)
    refine y_dat Q hpn h66 hRd (by omega) (fun k' x1 hx hk => ?_)
    refine yd_num (C s p) hop (by omega) hR rfl YA.2.2.2.2.2.1 rfl (yn_num _ hop hop2 (fun w' o' ho' hw' => ?_))
    obtain ⟨rfl, rfl⟩ := hww w' o' ho' hw'
    exact y_n85 s rfl ho28 ho45 rfl (by omega) r1 r0 hsx (fun z1 z2 z3 => absurd ⟨z1, z2, z3⟩ d1) (fun z1 z2 z3 => absurd ⟨z1, z2, z3⟩ d2) (fun _ _ => hQ _ _ _)
theorem op_28 (W : wo_ok B C N PP n cd x_byteCount x_wrongPlace x_firstWaiting x_waitingCount x_printCount x_code x_facts x_partner x_loaded x_globals x_memories x_waiting x_prints y_count y_place y_waits y_printed y_bytes y_there y_types y_typeSig y_imports y_functions y_sig y_what y_localsAt y_globals y_globalValue y_entries y_entriesAt y_hasMemory y_memory y_waiting y_prints) (hfu : fu ≤ 120) (hR : R.length < 10) (AO : a_ok B C N PP 0 s f nv g p E L F) (CR : ch_ok B C N PP g0 g R) (XA : xa_ok x_frameAt x_frameHeight x_values x_variables x_activeSlot x_activeGives x_activeFrame ((s, f, nv, g, p, E, L, F) :: R)) (AR : ar_ok x_activeResume R) (YA : ya_ok y_stack y_labelAt y_labelHeight y_labelGives y_callModule y_callFunction y_callBack y_callBase y_callLabels ((s, f, nv, g, p, E, L, F) :: R)) (hop : C s p = 28 ∨ C s p = 46) (h : ∀ u' v' q, nxt B C N PP n cd g0 (mu ((s, f, nv, g, p, E, L, F) :: R) fu) u' v' q → ystep (y_count, y_place, nI s, y_pos, y_wrong, y_constant, y_least, y_top, y_frames, y_invalid, nI (yb R + nv + E.length), nI (fb R + F.length), nI (R.length + 1), nI (120 - fu), 0, -1, y_result, y_used, y_waits, y_printed, y_bytes, y_there, y_types, y_typeSig, y_imports, y_functions, y_sig, y_what, y_typeAt, y_localsAt, y_globals, y_globalKind, y_globalFree, y_globalValue, y_entries, y_entriesAt, y_hasMemory, y_memory, y_nest, y_kinds, y_shape, y_gives, y_height, y_dead, y_stack, y_labelAt, y_labelHeight, y_labelGives, y_callModule, y_callFunction, y_callBack, y_callBase, y_callLabels, y_waiting, y_prints) v' (nI p) q → post u') : wpX_step post (x_byteCount, x_wrongPlace, nI p, nI (fb R + F.length), x_kindCount, nI (vb R + E.length), nI (R.length + 1), x_goesOn, -1, 0, -1, nI fu, x_firstWaiting, x_waitingCount, x_printCount, x_code, x_facts, x_partner, x_loaded, x_globals, x_memories, x_frameAt, x_frameHeight, x_frameResult, x_frameDead, x_kinds, x_values, x_variables, x_activeSlot, x_activeGives, x_activeFrame, x_activeResume, x_waiting, x_prints) := by
  obtain ⟨sm, mp, hN, M, Q, ⟨k, wkk⟩, eS, b1, b2, b3, b4, hs, hpn, h66, hRd, htv, hE20, hh, hd, hnv, hp⟩ := op_f W hfu hR AO CR XA AR YA
  obtain ⟨ok, okn⟩ := wk_s wkk
  have hv := v_num (n := N s) (f := f) (p := p) (S := (ek E, F, false)) (c := C s) (by omega)
  unfold vt_num at hv
  rw [if_pos (show (C s p = 28 ∨ C s p = 46 ∨ 64 ≤ C s p) by omega), if_pos (show C s p < 52 by omega)] at hv
  rw [hv] at ok
  have o1 := bf_gv ok
  obtain ⟨x1, y, E3, rfl, hh3, hx1, e1, _, ht1, htv3, _⟩ := pe o1 hd htv hh
  rw [e1] at ok hv
  obtain ⟨hl, e4⟩ := ge ok
  rw [e4] at hv
  rw [ek_len] at hl
  simp only [List.length_cons] at hE20
  obtain ⟨q0, q2⟩ := XA.1
  obtain ⟨r0, r2⟩ := YA.1
  have AO' := a_nx (X := [(x1, y)]) (X' := [(1, if y = 0 then 1 else 0)]) (E0 := E3) AO hN hh3 hv ⟨by omega, fun _ => sx_01 _, htv3⟩ (by show E3.length + 1 ≤ 20; omega) AO.2.2.2.2.2.2.2.2.2.2.2.2.2.1
  refine r_num hs M hp hR rfl eS rfl (by omega) (by omega) (x_num _ (by omega) (by omega) (fun w o ho hw => ?_))
  have hoo : ∀ (w : Bool) (o : Nat), o = C s p - (if w = true then 18 else 0) → (w = true ↔ 46 ≤ C s p) → o = 28 := by
    intro w o ho hw
    cases w with
    | false =>
      have : ¬ 46 ≤ C s p := fun z => ff_t (hw.mpr z)
      simp at ho; omega
    | true => have := hw.mp rfl; simp at ho; omega
  have := hoo w o ho hw
  subst this
  refine x_n28 (i := vb R + E3.length) rfl (by omega) q0 ?_
  refine r_140 rfl ?_
  refine h _ (y_count, y_place, nI s, y_pos, y_wrong, y_constant, y_least, y_top, y_frames, y_invalid, nI (yb R + nv + E3.length + 1), nI (fb R + F.length), nI (R.length + 1), nI (120 - fu), 0, -1, y_result, y_used, y_waits, y_printed, y_bytes, y_there, y_types, y_typeSig, y_imports, y_functions, y_sig, y_what, y_typeAt, y_localsAt, y_globals, y_globalKind, y_globalFree, y_globalValue, y_entries, y_entriesAt, y_hasMemory, y_memory, y_nest, y_kinds, y_shape, y_gives, y_height, y_dead, vp_updL y_stack (yb R + nv + E3.length) (if y = 0 then 1 else 0), y_labelAt, y_labelHeight, y_labelGives, y_callModule, y_callFunction, y_callBack, y_callBase, y_callLabels, y_waiting, y_prints) (nI (nx (C s) p)) (fin_c W hfu hR AO'.1 CR (xa_1 (X := [(x1, y)]) XA b4) AR (ya_1 (X := [(x1, y)]) YA) (mu_s AO'.2 (by omega))) (fun QQ hQ a w' kk => ?_)
  show wpY_step QQ (y_count, y_place, nI s, a, w', kk, y_least, y_top, y_frames, y_invalid, nI (yb R + nv + E3.length + 1), nI (fb R + F.length), nI (R.length + 1), nI (120 - fu), 0, -1, y_result, y_used, y_waits, y_printed, y_bytes, y_there, y_types, y_typeSig, y_imports, y_functions, y_sig, y_what, y_typeAt, y_localsAt, y_globals, y_globalKind, y_globalFree, y_globalValue, y_entries, y_entriesAt, y_hasMemory, y_memory, y_nest, y_kinds, y_shape, y_gives, y_height, y_dead, y_stack, y_labelAt, y_labelHeight, y_labelGives, y_callModule, y_callFunction, y_callBack, y_callBase, y_callLabels, y_waiting, y_prints) (nI p)
  refine y_dat Q hpn h66 hRd (by omega) (fun k' x1 hx hk => ?_)
  refine yd_num (C s p) (by omega) (by omega) hR rfl YA.2.2.2.2.2.1 rfl (yn_num _ (by omega) (by omega) (fun w' o' ho' hw' => ?_))
  have := hoo w' o' ho' hw'
  subst this
  exact y_n28 rfl (by omega) r0 (hQ _ _ _)
theorem op_cnv (W : wo_ok B C N PP n cd x_byteCount x_wrongPlace x_firstWaiting x_waitingCount x_printCount x_code x_facts x_partner x_loaded x_globals x_memories x_waiting x_prints y_count y_place y_waits y_printed y_bytes y_there y_types y_typeSig y_imports y_functions y_sig y_what y_localsAt y_globals y_globalValue y_entries y_entriesAt y_hasMemory y_memory y_waiting y_prints) (hfu : fu ≤ 120) (hR : R.length < 10) (AO : a_ok B C N PP 0 s f nv g p E L F) (CR : ch_ok B C N PP g0 g R) (XA : xa_ok x_frameAt x_frameHeight x_values x_variables x_activeSlot x_activeGives x_activeFrame ((s, f, nv, g, p, E, L, F) :: R)) (AR : ar_ok x_activeResume R) (YA : ya_ok y_stack y_labelAt y_labelHeight y_labelGives y_callModule y_callFunction y_callBack y_callBase y_callLabels ((s, f, nv, g, p, E, L, F) :: R)) (hop : 64 ≤ C s p) (h : ∀ u' v' q, nxt B C N PP n cd g0 (mu ((s, f, nv, g, p, E, L, F) :: R) fu) u' v' q → ystep (y_count, y_place, nI s, y_pos, y_wrong, y_constant, y_least, y_top, y_frames, y_invalid, nI (yb R + nv + E.length), nI (fb R + F.length), nI (R.length + 1), nI (120 - fu), 0, -1, y_result, y_used, y_waits, y_printed, y_bytes, y_there, y_types, y_typeSig, y_imports, y_functions, y_sig, y_what, y_typeAt, y_localsAt, y_globals, y_globalKind, y_globalFree, y_globalValue, y_entries, y_entriesAt, y_hasMemory, y_memory, y_nest, y_kinds, y_shape, y_gives, y_height, y_dead, y_stack, y_labelAt, y_labelHeight, y_labelGives, y_callModule, y_callFunction, y_callBack, y_callBase, y_callLabels, y_waiting, y_prints) v' (nI p) q → post u') : wpX_step post (x_byteCount, x_wrongPlace, nI p, nI (fb R + F.length), x_kindCount, nI (vb R + E.length), nI (R.length + 1), x_goesOn, -1, 0, -1, nI fu, x_firstWaiting, x_waitingCount, x_printCount, x_code, x_facts, x_partner, x_loaded, x_globals, x_memories, x_frameAt, x_frameHeight, x_frameResult, x_frameDead, x_kinds, x_values, x_variables, x_activeSlot, x_activeGives, x_activeFrame, x_activeResume, x_waiting, x_prints) := by
  obtain ⟨sm, mp, hN, M, Q, ⟨k, wkk⟩, eS, b1, b2, b3, b4, hs, hpn, h66, hRd, htv, hE20, hh, hd, hnv, hp⟩ := op_f W hfu hR AO CR XA AR YA
  obtain ⟨ok, okn⟩ := wk_s wkk
  have hv := v_num (n := N s) (f := f) (p := p) (S := (ek E, F, false)) (c := C s) (by omega)
  unfold vt_num at hv
  rw [if_pos (show (C s p = 28 ∨ C s p = 46 ∨ 64 ≤ C s p) by omega), if_neg (show ¬ C s p < 52 by omega), if_neg (show ¬ C s p < 64 by omega)] at hv
  rw [hv] at ok
  have o1 := bf_gv ok
  obtain ⟨x1, y, E3, rfl, hh3, hx1, e1, _, ht1, htv3, _⟩ := pe o1 hd htv hh
  rw [e1] at ok hv
  obtain ⟨hl, e4⟩ := ge ok
  rw [e4] at hv
  rw [ek_len] at hl
  simp only [List.length_cons] at hE20
  obtain ⟨q0, q2⟩ := XA.1
  obtain ⟨r0, r2⟩ := YA.1
  have AO' := a_nx (X := [(x1, y)]) (X' := [(if C s p = 64 then 1 else 2, if C s p = 64 then y.toInt32.toInt64 else if C s p = 66 then y &&& 4294967295 else y)]) (E0 := E3) AO hN hh3 hv ⟨by split <;> omega, fun z => by
    by_cases q : C s p = 64
    · rw [if_pos q]; exact sx_i _
    · rw [if_neg q] at z; omega, htv3⟩ (by show E3.length + 1 ≤ 20; omega) AO.2.2.2.2.2.2.2.2.2.2.2.2.2.1
  refine r_conv hs M hp hR rfl eS rfl (by omega) (by omega) (x_cnv (i := vb R + E3.length) _ hop h66 rfl (by omega) q0 ?_)
  refine r_140 rfl ?_
  by_cases h65 : C s p = 65
  · have ey : (if C s p = 64 then y.toInt32.toInt64 else if C s p = 66 then y &&& 4294967295 else y) = y := by rw [if_neg (by omega), if_neg (by omega)]
    rw [ey] at AO' ⊢
    refine h _ (y_count, y_place, nI s, y_pos, y_wrong, y_constant, y_least, y_top, y_frames, y_invalid, nI (yb R + nv + E3.length + 1), nI (fb R + F.length), nI (R.length + 1), nI (120 - fu), 0, -1, y_result, y_used, y_waits, y_printed, y_bytes, y_there, y_types, y_typeSig, y_imports, y_functions, y_sig, y_what, y_typeAt, y_localsAt, y_globals, y_globalKind, y_globalFree, y_globalValue, y_entries, y_entriesAt, y_hasMemory, y_memory, y_nest, y_kinds, y_shape, y_gives, y_height, y_dead, y_stack, y_labelAt, y_labelHeight, y_labelGives, y_callModule, y_callFunction, y_callBack, y_callBase, y_callLabels, y_waiting, y_prints) (nI (nx (C s) p)) (fin_c W hfu hR AO'.1 CR (xa_1 (X := [(x1, y)]) XA b4) AR (ya_2 (X := [(x1, y)]) YA r0) (mu_s AO'.2 (by omega))) (fun QQ hQ a w' kk => ?_)
    show wpY_step QQ (y_count, y_place, nI s, a, w', kk, y_least, y_top, y_frames, y_invalid, nI (yb R + nv + E3.length + 1), nI (fb R + F.length), nI (R.length + 1), nI (120 - fu), 0, -1, y_result, y_used, y_waits, y_printed, y_bytes, y_there, y_types, y_typeSig, y_imports, y_functions, y_sig, y_what, y_typeAt, y_localsAt, y_globals, y_globalKind, y_globalFree, y_globalValue, y_entries, y_entriesAt, y_hasMemory, y_memory, y_nest, y_kinds, y_shape, y_gives, y_height, y_dead, y_stack, y_labelAt, y_labelHeight, y_labelGives, y_callModule, y_callFunction, y_callBack, y_callBase, y_callLabels, y_waiting, y_prints) (nI p)
    refine y_dat Q hpn h66 hRd (by omega) (fun k' x1 hx hk => ?_)
    exact yd_num (C s p) (by omega) (by omega) hR rfl YA.2.2.2.2.2.1 rfl (y_cnv _ hop h66 rfl (by omega) r0 (fun _ => hQ _ _ _) (fun z => absurd h65 z))
  · refine h _ (y_count, y_place, nI s, y_pos, y_wrong, y_constant, y_least, y_top, y_frames, y_invalid, nI (yb R + nv + E3.length + 1), nI (fb R + F.length), nI (R.length + 1), nI (120 - fu), 0, -1, y_result, y_used, y_waits, y_printed, y_bytes, y_there, y_types, y_typeSig, y_imports, y_functions, y_sig, y_what, y_typeAt, y_localsAt, y_globals, y_globalKind, y_globalFree, y_globalValue, y_entries, y_entriesAt, y_hasMemory, y_memory, y_nest, y_kinds, y_shape, y_gives, y_height, y_dead, vp_updL y_stack (yb R + nv + E3.length) (if C s p = 64 then y.toInt32.toInt64 else if C s p = 66 then y &&& 4294967295 else y), y_labelAt, y_labelHeight, y_labelGives, y_callModule, y_callFunction, y_callBack, y_callBase, y_callLabels, y_waiting, y_prints) (nI (nx (C s) p)) (fin_c W hfu hR AO'.1 CR (xa_1 (X := [(x1, y)]) XA b4) AR (ya_1 (X := [(x1, y)]) YA) (mu_s AO'.2 (by omega))) (fun QQ hQ a w' kk => ?_)
    show wpY_step QQ (y_count, y_place, nI s, a, w', kk, y_least, y_top, y_frames, y_invalid, nI (yb R + nv + E3.length + 1), nI (fb R + F.length), nI (R.length + 1), nI (120 - fu), 0, -1, y_result, y_used, y_waits, y_printed, y_bytes, y_there, y_types, y_typeSig, y_imports, y_functions, y_sig, y_what, y_typeAt, y_localsAt, y_globals, y_globalKind, y_globalFree, y_globalValue, y_entries, y_entriesAt, y_hasMemory, y_memory, y_nest, y_kinds, y_shape, y_gives, y_height, y_dead, y_stack, y_labelAt, y_labelHeight, y_labelGives, y_callModule, y_callFunction, y_callBack, y_callBase, y_callLabels, y_waiting, y_prints) (nI p)
    refine y_dat Q hpn h66 hRd (by omega) (fun k' x1 hx hk => ?_)
    exact yd_num (C s p) (by omega) (by omega) hR rfl YA.2.2.2.2.2.1 rfl (y_cnv _ hop h66 rfl (by omega) r0 (fun z => absurd z h65) (fun _ => hQ _ _ _))
end
