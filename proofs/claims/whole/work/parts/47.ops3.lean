theorem vk_lt {c : Nat → Nat} {n f x : Nat} (h : vk c n f x ≠ 0) : x < nvf c n f := by
  unfold vk at h
  unfold nvf
  by_cases z : x < c (m_ty c n (c (m_fa c n f)))
  · omega
  · rw [if_neg z] at h
    by_cases z2 : x - c (m_ty c n (c (m_fa c n f))) < c (m_fa c n f + 1)
    · omega
    · rw [if_neg z2] at h; exact absurd rfl h
section
variable {FA FH : Nat → Int32} {V VR : Nat → Int64} {AS AG AF : Nat → Int32} {ST : Nat → Int64} {LA LH LG CM CF CB CS CL : Nat → Int32} {s f nv g p p' k x : Nat} {v : Int64} {X E0 : List ev} {L : Nat → Int64} {F : List vt_Fr} {R : List ac}
theorem xa_v (h : xa_ok FA FH V VR AS AG AF ((s, f, nv, g, p, X ++ E0, L, F) :: R)) (h6 : ∀ a, a ∈ R → a.2.2.1 ≤ 6) : xa_ok FA FH V (vp_updL VR (R.length * 6 + x) v) AS AG AF ((s, f, nv, g, p', E0, vp_updL L x v, F) :: R) := by
  obtain ⟨h1, h2, h3, h4, h5, h6', h7⟩ := h
  refine ⟨el_app X E0 h1, fun j hj => ?_, h3, h4, h5, h6', xa_ext R h7 (fun _ _ => rfl) (fun _ _ => rfl) (fun _ _ => rfl) (fun j hj => pk_uLn (by omega)) (fun _ _ => rfl) (fun _ _ => rfl) (fun _ _ => rfl) h6⟩
  by_cases z : j = x
  · subst z; rw [pk_uLs, pk_uLs]
  · rw [pk_uLn (by omega), pk_uLn z]; exact h2 j hj
theorem ya_v (h : ya_ok ST LA LH LG CM CF CB CS CL ((s, f, nv, g, p, X ++ E0, L, F) :: R)) (hx : x < nv) : ya_ok (vp_updL ST (yb R + x) v) LA LH LG CM CF CB CS CL ((s, f, nv, g, p', E0, vp_updL L x v, F) :: R) := by
  obtain ⟨h1, h2, h3, h5, h6, h7, h8, h9, h10⟩ := h
  refine ⟨el_ext E0 (el_app X E0 h1) (fun j a b => pk_uLn (by omega)), fun j hj => ?_, h3, h5, h6, h7, h8, h9, ya_ext R h10 (fun j hj => pk_uLn (by omega)) (fun _ _ => rfl) (fun _ _ => rfl) (fun _ _ => rfl) (fun _ _ => rfl) (fun _ _ => rfl) (fun _ _ => rfl) (fun _ _ => rfl) (fun _ _ => rfl)⟩
  by_cases z : j = x
  · subst z; rw [pk_uLs, pk_uLs]
  · rw [pk_uLn (by omega), pk_uLn z]; exact h2 j hj
theorem sx_upd {B : Nat → Bool} {C : Nat → Nat → Nat} {N : Nat → Nat} {PP : Nat → Nat → Nat} {pend : Nat} {E : List ev} (AO : a_ok B C N PP pend s f nv g p E L F) (hv : vk (C s) (N s) f x = 1 → sx64 v) : ∀ j, j < nv → vk (C s) (N s) f j = 1 → sx64 (vp_updL L x v j) := by
  intro j hj h1
  by_cases z : j = x
  · subst z; rw [pk_uLs]; exact hv h1
  · rw [pk_uLn z]; exact AO.2.2.2.2.2.2.2.2.2.2.2.2.2.1 j hj h1
end
section
variable {x_byteCount x_wrongPlace x_at x_frameCount x_kindCount x_valueCount x_activeCount x_goesOn x_outcome x_trapPlace x_fuelUsed x_firstWaiting x_waitingCount x_printCount : Int32} {x_resultValue : Int64} {x_code x_facts x_partner x_loaded x_memories x_frameAt x_frameHeight x_frameResult x_frameDead x_kinds x_activeSlot x_activeGives x_activeFrame x_activeResume x_waiting x_prints : Nat → Int32} {x_globals x_values x_variables : Nat → Int64}
variable {y_count y_place y_m y_pos y_wrong y_least y_top y_frames y_invalid y_sp y_labels y_active y_fuel y_outcome y_trappedAt y_used y_waits y_printed : Int32} {y_constant y_result : Int64} {y_bytes y_there y_types y_typeSig y_imports y_functions y_sig y_what y_typeAt y_localsAt y_globals y_globalKind y_globalFree y_entries y_entriesAt y_hasMemory y_memory y_nest y_kinds y_shape y_gives y_height y_dead y_labelAt y_labelHeight y_labelGives y_callModule y_callFunction y_callBack y_callBase y_callLabels y_waiting y_prints : Nat → Int32} {y_globalValue y_stack : Nat → Int64}
variable {B : Nat → Bool} {C : Nat → Nat → Nat} {N : Nat → Nat} {PP : Nat → Nat → Nat} {n : Nat} {cd : Nat → Nat} {g0 fu s f nv g p : Nat} {E : List ev} {L : Nat → Int64} {F : List vt_Fr} {R : List ac}
variable {post : SX → Prop}
theorem y_dat {post : Int32 → SY → Prop} {pos wr : Int32} {k : Int64} {m : Nat} {c : Nat → Nat} {n' : Nat} (Q : cq_ok y_m y_bytes m c n') (hp : p < n') (h66 : c p ≤ 66) (hR : rd_R c n' (c p) (true, p + 1) = (true, nx c p)) (hop : 12 < c p)
    (h : ∀ k' x, (p + 1 < n' → x = nI (c (p + 1))) → (c p = 20 ∨ c p = 21 → k' = cv c (c p - 19) 10 (p + 1) 0 0) → wpY_data (fun u => match u with | (y_count, y_place, y_m, y_pos, y_wrong, y_constant, y_least, y_top, y_frames, y_invalid, y_sp, y_labels, y_active, y_fuel, y_outcome, y_trappedAt, y_result, y_used, y_waits, y_printed, y_bytes, y_there, y_types, y_typeSig, y_imports, y_functions, y_sig, y_what, y_typeAt, y_localsAt, y_globals, y_globalKind, y_globalFree, y_globalValue, y_entries, y_entriesAt, y_hasMemory, y_memory, y_nest, y_kinds, y_shape, y_gives, y_height, y_dead, y_stack, y_labelAt, y_labelHeight, y_labelGives, y_callModule, y_callFunction, y_callBack, y_callBase, y_callLabels, y_waiting, y_prints) => post (nI (nx c p)) (y_count, y_place, y_m, y_pos, y_wrong, y_constant, y_least, y_top, y_frames, y_invalid, y_sp, y_labels, y_active, y_fuel, y_outcome, y_trappedAt, y_result, y_used, y_waits, y_printed, y_bytes, y_there, y_types, y_typeSig, y_imports, y_functions, y_sig, y_what, y_typeAt, y_localsAt, y_globals, y_globalKind, y_globalFree, y_globalValue, y_entries, y_entriesAt, y_hasMemory, y_memory, y_nest, y_kinds, y_shape, y_gives, y_height, y_dead, y_stack, y_labelAt, y_labelHeight, y_labelGives, y_callModule, y_callFunction, y_callBack, y_callBase, y_callLabels, y_waiting, y_prints)) (y_count, y_place, y_m, nI (nx c p), 0, k', y_least, y_top, y_frames, y_invalid, y_sp, y_labels, y_active, y_fuel, y_outcome, y_trappedAt, y_result, y_used, y_waits, y_printed, y_bytes, y_there, y_types, y_typeSig, y_imports, y_functions, y_sig, y_what, y_typeAt, y_localsAt, y_globals, y_globalKind, y_globalFree, y_globalValue, y_entries, y_entriesAt, y_hasMemory, y_memory, y_nest, y_kinds, y_shape, y_gives, y_height, y_dead, y_stack, y_labelAt, y_labelHeight, y_labelGives, y_callModule, y_callFunction, y_callBack, y_callBase, y_callLabels, y_waiting, y_prints) (nI (c p)) x (nI p)) : wpY_step post (y_count, y_place, y_m, pos, wr, k, y_least, y_top, y_frames, y_invalid, y_sp, y_labels, y_active, y_fuel, y_outcome, y_trappedAt, y_result, y_used, y_waits, y_printed, y_bytes, y_there, y_types, y_typeSig, y_imports, y_functions, y_sig, y_what, y_typeAt, y_localsAt, y_globals, y_globalKind, y_globalFree, y_globalValue, y_entries, y_entriesAt, y_hasMemory, y_memory, y_nest, y_kinds, y_shape, y_gives, y_height, y_dead, y_stack, y_labelAt, y_labelHeight, y_labelGives, y_callModule, y_callFunction, y_callBack, y_callBase, y_callLabels, y_waiting, y_prints) (nI p) :=
  y_pre Q hp (fun x z hx hin hv => y_21 Q hp h66 hR hin (fun k' hk' => pk_lt (c p) 0 (fun y => absurd y (by omega)) (fun _ => pk_lt 12 (c p) (fun _ => h k' _ (fun q => by rw [hv]; exact (hx q).1) hk') (fun y => absurd y (by omega)))))
theorem op_13 (W : wo_ok B C N PP n cd x_byteCount x_wrongPlace x_firstWaiting x_waitingCount x_printCount x_code x_facts x_partner x_loaded x_globals x_memories x_waiting x_prints y_count y_place y_waits y_printed y_bytes y_there y_types y_typeSig y_imports y_functions y_sig y_what y_localsAt y_globals y_globalValue y_entries y_entriesAt y_hasMemory y_memory y_waiting y_prints) (hfu : fu ≤ 120) (hR : R.length < 10) (AO : a_ok B C N PP 0 s f nv g p E L F) (CR : ch_ok B C N PP g0 g R) (XA : xa_ok x_frameAt x_frameHeight x_values x_variables x_activeSlot x_activeGives x_activeFrame ((s, f, nv, g, p, E, L, F) :: R)) (AR : ar_ok x_activeResume R) (YA : ya_ok y_stack y_labelAt y_labelHeight y_labelGives y_callModule y_callFunction y_callBack y_callBase y_callLabels ((s, f, nv, g, p, E, L, F) :: R)) (hop : C s p = 13) (h : ∀ u' v' q, nxt B C N PP n cd g0 (mu ((s, f, nv, g, p, E, L, F) :: R) fu) u' v' q → ystep (y_count, y_place, nI s, y_pos, y_wrong, y_constant, y_least, y_top, y_frames, y_invalid, nI (yb R + nv + E.length), nI (fb R + F.length), nI (R.length + 1), nI (120 - fu), 0, -1, y_result, y_used, y_waits, y_printed, y_bytes, y_there, y_types, y_typeSig, y_imports, y_functions, y_sig, y_what, y_typeAt, y_localsAt, y_globals, y_globalKind, y_globalFree, y_globalValue, y_entries, y_entriesAt, y_hasMemory, y_memory, y_nest, y_kinds, y_shape, y_gives, y_height, y_dead, y_stack, y_labelAt, y_labelHeight, y_labelGives, y_callModule, y_callFunction, y_callBack, y_callBase, y_callLabels, y_waiting, y_prints) v' (nI p) q → post u') : wpX_step post (x_byteCount, x_wrongPlace, nI p, nI (fb R + F.length), x_kindCount, nI (vb R + E.length), nI (R.length + 1), x_goesOn, -1, 0, -1, nI fu, x_firstWaiting, x_waitingCount, x_printCount, x_code, x_facts, x_partner, x_loaded, x_globals, x_memories, x_frameAt, x_frameHeight, x_frameResult, x_frameDead, x_kinds, x_values, x_variables, x_activeSlot, x_activeGives, x_activeFrame, x_activeResume, x_waiting, x_prints) := by
  obtain ⟨sm, mp, hN, M, Q, ⟨k, wkk⟩, eS, b1, b2, b3, b4, hs, hpn, h66, hRd, htv, hE20, hh, hd, hnv, hp⟩ := op_f W hfu hR AO CR XA AR YA
  obtain ⟨ok, okn⟩ := wk_s wkk
  have hv : v_st (C s) (N s) f p (ek E, F, false) = vt_pl 0 (ek E, F, false) := by unfold v_st; rw [hop]; rfl
  rw [hv] at ok
  obtain ⟨x, v, E', rfl, hh', _, e1, hx0, hx1, htv', _⟩ := pe ok hd htv hh
  simp only [List.length_cons] at hE20
  have AO' := a_nx (X := [(x, v)]) (X' := []) (E0 := E') AO hN hh' (hv.trans e1) htv' (by show E'.length ≤ 20; omega) AO.2.2.2.2.2.2.2.2.2.2.2.2.2.1
  refine r_simple hs M hp hR rfl eS rfl (by omega) (by omega) ?_
  refine xs_13 hR rfl (M.2.1 _) (i := vb R + E'.length) rfl (by omega) (by rw [hop]) ?_
  refine r_140 rfl ?_
  refine h _ (y_count, y_place, nI s, y_pos, y_wrong, y_constant, y_least, y_top, y_frames, y_invalid, nI (yb R + nv + E'.length), nI (fb R + F.length), nI (R.length + 1), nI (120 - fu), 0, -1, y_result, y_used, y_waits, y_printed, y_bytes, y_there, y_types, y_typeSig, y_imports, y_functions, y_sig, y_what, y_typeAt, y_localsAt, y_globals, y_globalKind, y_globalFree, y_globalValue, y_entries, y_entriesAt, y_hasMemory, y_memory, y_nest, y_kinds, y_shape, y_gives, y_height, y_dead, y_stack, y_labelAt, y_labelHeight, y_labelGives, y_callModule, y_callFunction, y_callBack, y_callBase, y_callLabels, y_waiting, y_prints) (nI (nx (C s) p)) (fin_c W hfu hR AO'.1 CR (xa_0 (X := [(x, v)]) XA) AR (ya_0 (X := [(x, v)]) YA) (mu_s AO'.2 (by omega))) (fun QQ hQ a w kk => ?_)
  show wpY_step QQ (y_count, y_place, nI s, a, w, kk, y_least, y_top, y_frames, y_invalid, nI (yb R + nv + E'.length + 1), nI (fb R + F.length), nI (R.length + 1), nI (120 - fu), 0, -1, y_result, y_used, y_waits, y_printed, y_bytes, y_there, y_types, y_typeSig, y_imports, y_functions, y_sig, y_what, y_typeAt, y_localsAt, y_globals, y_globalKind, y_globalFree, y_globalValue, y_entries, y_entriesAt, y_hasMemory, y_memory, y_nest, y_kinds, y_shape, y_gives, y_height, y_dead, y_stack, y_labelAt, y_labelHeight, y_labelGives, y_callModule, y_callFunction, y_callBack, y_callBase, y_callLabels, y_waiting, y_prints) (nI p)
  refine y_dat Q hpn h66 hRd (by omega) (fun k' x1 hx hk => ?_)
  exact yd_13 hR rfl YA.2.2.2.2.2.1 rfl (by omega) (by rw [hop]) (hQ _ _ _)
theorem op_14 (W : wo_ok B C N PP n cd x_byteCount x_wrongPlace x_firstWaiting x_waitingCount x_printCount x_code x_facts x_partner x_loaded x_globals x_memories x_waiting x_prints y_count y_place y_waits y_printed y_bytes y_there y_types y_typeSig y_imports y_functions y_sig y_what y_localsAt y_globals y_globalValue y_entries y_entriesAt y_hasMemory y_memory y_waiting y_prints) (hfu : fu ≤ 120) (hR : R.length < 10) (AO : a_ok B C N PP 0 s f nv g p E L F) (CR : ch_ok B C N PP g0 g R) (XA : xa_ok x_frameAt x_frameHeight x_values x_variables x_activeSlot x_activeGives x_activeFrame ((s, f, nv, g, p, E, L, F) :: R)) (AR : ar_ok x_activeResume R) (YA : ya_ok y_stack y_labelAt y_labelHeight y_labelGives y_callModule y_callFunction y_callBack y_callBase y_callLabels ((s, f, nv, g, p, E, L, F) :: R)) (hop : C s p = 14) (h : ∀ u' v' q, nxt B C N PP n cd g0 (mu ((s, f, nv, g, p, E, L, F) :: R) fu) u' v' q → ystep (y_count, y_place, nI s, y_pos, y_wrong, y_constant, y_least, y_top, y_frames, y_invalid, nI (yb R + nv + E.length), nI (fb R + F.length), nI (R.length + 1), nI (120 - fu), 0, -1, y_result, y_used, y_waits, y_printed, y_bytes, y_there, y_types, y_typeSig, y_imports, y_functions, y_sig, y_what, y_typeAt, y_localsAt, y_globals, y_globalKind, y_globalFree, y_globalValue, y_entries, y_entriesAt, y_hasMemory, y_memory, y_nest, y_kinds, y_shape, y_gives, y_height, y_dead, y_stack, y_labelAt, y_labelHeight, y_labelGives, y_callModule, y_callFunction, y_callBack, y_callBase, y_callLabels, y_waiting, y_prints) v' (nI p) q → post u') : wpX_step post (x_byteCount, x_wrongPlace, nI p, nI (fb R + F.length), x_kindCount, nI (vb R + E.length), nI (R.length + 1), x_goesOn, -1, 0, -1, nI fu, x_firstWaiting, x_waitingCount, x_printCount, x_code, x_facts, x_partner, x_loaded, x_globals, x_memories, x_frameAt, x_frameHeight, x_frameResult, x_frameDead, x_kinds, x_values, x_variables, x_activeSlot, x_activeGives, x_activeFrame, x_activeResume, x_waiting, x_prints) := by
  obtain ⟨sm, mp, hN, M, Q, ⟨k, wkk⟩, eS, b1, b2, b3, b4, hs, hpn, h66, hRd, htv, hE20, hh, hd, hnv, hp⟩ := op_f W hfu hR AO CR XA AR YA
  obtain ⟨ok, okn⟩ := wk_s wkk
  have hv : v_st (C s) (N s) f p (ek E, F, false) = vt_sel (ek E, F, false) := by unfold v_st; rw [hop]; rfl
  rw [hv] at ok
  unfold vt_sel at hv ok
  have o3 := bf_gv ok
  have o2 := bf_pl o3
  have o1 := bf_pl o2
  obtain ⟨x0, v0, E1, rfl, hh1, hx0, e1, _, _, htv1, _⟩ := pe o1 hd htv hh
  rw [e1] at ok o2 o3 hv
  obtain ⟨x1, v1, E2, rfl, hh2, _, e2, hn1, ht1, htv2, p2⟩ := pe o2 hd htv1 hh1
  rw [e2, p2] at ok o3 hv
  obtain ⟨x2, v2, E3, rfl, hh3, hx2, e3, hn2, ht2, htv3, p3⟩ := pe o3 hd htv2 hh2
  have hx2' := hx2 hn1
  subst hx2'
  rw [if_neg hn2, e3] at ok hv
  obtain ⟨hl, e4⟩ := ge ok
  rw [e4] at hv
  rw [ek_len] at hl
  simp only [List.length_cons] at hE20
  have AO' := fun v (hvx : x2 = 1 → sx64 v) => a_nx (X := [(x0, v0), (x2, v1), (x2, v2)]) (X' := [(x2, v)]) (E0 := E3) AO hN hh3 hv ⟨hn2, hvx, htv3⟩ (by show E3.length + 1 ≤ 20; omega) AO.2.2.2.2.2.2.2.2.2.2.2.2.2.1
  obtain ⟨q0, q1, q2, q3⟩ := XA.1
  obtain ⟨r0, r1, r2, r3⟩ := YA.1
  refine r_simple hs M hp hR rfl eS rfl (by omega) (by omega) ?_
  refine xs_14 hR rfl (M.2.1 _) (i := vb R + E3.length) rfl (by omega) (by rw [hop]) (fun z => ?_) (fun z => ?_)
  · have z' : v0 = 0 := by rw [← z]; exact q0.symm
    rw [show x_values (vb R + E3.length + 1) = v1 from q1]
    refine r_140 rfl ?_
    refine h _ (y_count, y_place, nI s, y_pos, y_wrong, y_constant, y_least, y_top, y_frames, y_invalid, nI (yb R + nv + E3.length + 1), nI (fb R + F.length), nI (R.length + 1), nI (120 - fu), 0, -1, y_result, y_used, y_waits, y_printed, y_bytes, y_there, y_types, y_typeSig, y_imports, y_functions, y_sig, y_what, y_typeAt, y_localsAt, y_globals, y_globalKind, y_globalFree, y_globalValue, y_entries, y_entriesAt, y_hasMemory, y_memory, y_nest, y_kinds, y_shape, y_gives, y_height, y_dead, vp_updL y_stack (yb R + nv + E3.length) v1, y_labelAt, y_labelHeight, y_labelGives, y_callModule, y_callFunction, y_callBack, y_callBase, y_callLabels, y_waiting, y_prints) (nI (nx (C s) p)) (fin_c W hfu hR (AO' v1 ht1).1 CR (xa_1 (X := [(x0, v0), (x2, v1), (x2, v2)]) XA b4) AR (ya_1 (X := [(x0, v0), (x2, v1), (x2, v2)]) YA) (mu_s (AO' v1 ht1).2 (by omega))) (fun QQ hQ a w kk => ?_)
    show wpY_step QQ (y_count, y_place, nI s, a, w, kk, y_least, y_top, y_frames, y_invalid, nI (yb R + nv + E3.length + 3), nI (fb R + F.length), nI (R.length + 1), nI (120 - fu), 0, -1, y_result, y_used, y_waits, y_printed, y_bytes, y_there, y_types, y_typeSig, y_imports, y_functions, y_sig, y_what, y_typeAt, y_localsAt, y_globals, y_globalKind, y_globalFree, y_globalValue, y_entries, y_entriesAt, y_hasMemory, y_memory, y_nest, y_kinds, y_shape, y_gives, y_height, y_dead, y_stack, y_labelAt, y_labelHeight, y_labelGives, y_callModule, y_callFunction, y_callBack, y_callBase, y_callLabels, y_waiting, y_prints) (nI p)
    refine y_dat Q hpn h66 hRd (by omega) (fun k' x1 hx hk => ?_)
    refine yd_14 hR rfl YA.2.2.2.2.2.1 rfl (by omega) (by rw [hop]) (fun z2 => ?_) (fun z2 => absurd (show y_stack (yb R + nv + E3.length + 2) = 0 from r0.trans z') z2)
    rw [show y_stack (yb R + nv + E3.length + 1) = v1 from r1]
    exact hQ _ _ _
  · have z' : ¬ v0 = 0 := fun y => z (q0.trans y)
    rw [show x_values (vb R + E3.length) = v2 from q2]
    refine r_140 rfl ?_
    refine h _ (y_count, y_place, nI s, y_pos, y_wrong, y_constant, y_least, y_top, y_frames, y_invalid, nI (yb R + nv + E3.length + 1), nI (fb R + F.length), nI (R.length + 1), nI (120 - fu), 0, -1, y_result, y_used, y_waits, y_printed, y_bytes, y_there, y_types, y_typeSig, y_imports, y_functions, y_sig, y_what, y_typeAt, y_localsAt, y_globals, y_globalKind, y_globalFree, y_globalValue, y_entries, y_entriesAt, y_hasMemory, y_memory, y_nest, y_kinds, y_shape, y_gives, y_height, y_dead, y_stack, y_labelAt, y_labelHeight, y_labelGives, y_callModule, y_callFunction, y_callBack, y_callBase, y_callLabels, y_waiting, y_prints) (nI (nx (C s) p)) (fin_c W hfu hR (AO' v2 ht2).1 CR (xa_1 (X := [(x0, v0), (x2, v1), (x2, v2)]) XA b4) AR (ya_2 (X := [(x0, v0), (x2, v1), (x2, v2)]) YA r2) (mu_s (AO' v2 ht2).2 (by omega))) (fun QQ hQ a w kk => ?_)
    show wpY_step QQ (y_count, y_place, nI s, a, w, kk, y_least, y_top, y_frames, y_invalid, nI (yb R + nv + E3.length + 3), nI (fb R + F.length), nI (R.length + 1), nI (120 - fu), 0, -1, y_result, y_used, y_waits, y_printed, y_bytes, y_there, y_types, y_typeSig, y_imports, y_functions, y_sig, y_what, y_typeAt, y_localsAt, y_globals, y_globalKind, y_globalFree, y_globalValue, y_entries, y_entriesAt, y_hasMemory, y_memory, y_nest, y_kinds, y_shape, y_gives, y_height, y_dead, y_stack, y_labelAt, y_labelHeight, y_labelGives, y_callModule, y_callFunction, y_callBack, y_callBase, y_callLabels, y_waiting, y_prints) (nI p)
    refine y_dat Q hpn h66 hRd (by omega) (fun k' x1 hx hk => ?_)
    exact yd_14 hR rfl YA.2.2.2.2.2.1 rfl (by omega) (by rw [hop]) (fun z2 => absurd (r0.symm.trans z2) z') (fun z2 => hQ _ _ _)
end
