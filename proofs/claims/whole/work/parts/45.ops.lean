abbrev sy3 (u : SY) (z0 : Int32) (z1 : Int32) (z2 : Int64) : SY := (gy_count u, gy_place u, gy_m u, z0, z1, z2, gy_least u, gy_top u, gy_frames u, gy_invalid u, gy_sp u, gy_labels u, gy_active u, gy_fuel u, gy_outcome u, gy_trappedAt u, gy_result u, gy_used u, gy_waits u, gy_printed u, gy_bytes u, gy_there u, gy_types u, gy_typeSig u, gy_imports u, gy_functions u, gy_sig u, gy_what u, gy_typeAt u, gy_localsAt u, gy_globals u, gy_globalKind u, gy_globalFree u, gy_globalValue u, gy_entries u, gy_entriesAt u, gy_hasMemory u, gy_memory u, gy_nest u, gy_kinds u, gy_shape u, gy_gives u, gy_height u, gy_dead u, gy_stack u, gy_labelAt u, gy_labelHeight u, gy_labelGives u, gy_callModule u, gy_callFunction u, gy_callBack u, gy_callBase u, gy_callLabels u, gy_waiting u, gy_prints u)
def ystep (v v' : SY) (p q : Int32) : Prop := ∀ Q : Int32 → SY → Prop, (∀ a w k, Q q (sy3 v' a w k)) → ∀ a w k, wpY_step Q (sy3 v a w k) p
theorem lo_app {h : Nat} {K : List Nat} : ∀ X : List Nat, h ≤ K.length → lo h (X ++ K) = lo h K := by
  intro X
  induction X with
  | nil => intro _; rfl
  | cons x X ih => intro e; rw [List.cons_append, lo_cons (by rw [List.length_append]; omega), ih e]
theorem ek_app (X E : List ev) : ek (X ++ E) = ek X ++ ek E := List.map_append
theorem tv_app : ∀ (X E : List ev), tv (X ++ E) → tv E := by
  intro X E
  induction X with
  | nil => exact id
  | cons x X ih => intro h; obtain ⟨k, v⟩ := x; exact ih h.2.2
theorem el_app {V : Nat → Int64} {b : Nat} : ∀ (X E : List ev), el_ok V b (X ++ E) → el_ok V b E := by
  intro X E
  induction X with
  | nil => exact id
  | cons x X ih => intro h; exact ih h.2
theorem mu_s {fu s f nv g p p' : Nat} {E E' : List ev} {L L' : Nat → Int64} {F F' : List vt_Fr} {R : List ac} (h : p < p') (h2 : p < 141) : mu ((s, f, nv, g, p', E', L', F') :: R) fu < mu ((s, f, nv, g, p, E, L, F) :: R) fu := by
  simp only [mu, msum]; omega
section
variable {B : Nat → Bool} {C : Nat → Nat → Nat} {N : Nat → Nat} {PP : Nat → Nat → Nat} {g0 fu s f nv g p : Nat} {X X' E0 : List ev} {L L' : Nat → Int64} {F : List vt_Fr} {R : List ac}
theorem a_nx (AO : a_ok B C N PP 0 s f nv g p (X ++ E0) L F) (hN : N s ≤ 140) (hh : f_h F ≤ E0.length) (hv : v_st (C s) (N s) f p (ek (X ++ E0), F, false) = (ek (X' ++ E0), F, false)) (ht : tv (X' ++ E0)) (hl : (X' ++ E0).length ≤ 20) (hL : ∀ v, v < nv → vk (C s) (N s) f v = 1 → sx64 (L' v)) :
    a_ok B C N PP 0 s f nv g (nx (C s) p) (X' ++ E0) L' F ∧ p < nx (C s) p := by
  obtain ⟨a1, a2, a3, a4, a5, a6, a7, a8, a9, a10, a11, a12, ⟨k, a13⟩, a14, a15⟩ := AO
  have a13' : wk (C s) (N s) (PP s) f k p (ek (X ++ E0), F, false) := a13
  obtain ⟨w1, w2⟩ := wk_s a13'
  obtain ⟨n1, n2, n3, n4, n5, n6⟩ := wk_n a13'
  have hh0 := fo_h a11
  have hfr : ¬ (2 ≤ C s p ∧ C s p ≤ 4) ∧ C s p ≠ 6 := by
    refine ⟨fun ho => ?_, fun h6 => ?_⟩
    · obtain ⟨K', e1, _⟩ := vl_o ho hh0 w1
      rw [e1] at hv
      have e := congrArg (fun S : vt_St => S.2.1.length) hv
      simp at e
    · obtain ⟨z1, z2, _⟩ := vl_6 h6 hh0 w1
      by_cases hT : F.tail = []
      · rw [hv] at z1; exact a9 (z1 hT)
      · have e := congrArg (fun S : vt_St => S.2.1.length) (hv.symm.trans (z2 hT))
        dsimp only at e
        rw [fk_gr] at e
        dsimp only at e
        rw [List.length_tail] at e
        have := List.length_pos_iff.mpr a9
        omega
  rw [hv] at w2
  rcases w2 with w2 | ⟨k', w2⟩
  · exact absurd w2 a9
  refine ⟨⟨a1, a2, a3, a4, a5, a6, ht, hl, a9, a10, fo_ext a11 ?_ ?_, a12, ⟨k', w2⟩, hL, ?_, dp_n hfr.1 hfr.2 a15.2⟩, n4⟩
  · rw [ek_len, List.length_append]; omega
  · rw [ek_app, ek_app, lo_app _ (by rw [ek_len]; exact hh), lo_app _ (by rw [ek_len]; exact hh)]
  · have := (wk_n w2).1; omega
end
section
variable {FA FH : Nat → Int32} {V VR : Nat → Int64} {AS AG AF : Nat → Int32} {ST : Nat → Int64} {LA LH LG CM CF CB CS CL : Nat → Int32} {s f nv g p p' k : Nat} {v : Int64} {X E0 : List ev} {L : Nat → Int64} {F : List vt_Fr} {R : List ac}
theorem xa_0 (h : xa_ok FA FH V VR AS AG AF ((s, f, nv, g, p, X ++ E0, L, F) :: R)) : xa_ok FA FH V VR AS AG AF ((s, f, nv, g, p', E0, L, F) :: R) := ⟨el_app X E0 h.1, h.2⟩
theorem xa_1 (h : xa_ok FA FH V VR AS AG AF ((s, f, nv, g, p, X ++ E0, L, F) :: R)) (h6 : ∀ a, a ∈ R → a.2.2.1 ≤ 6) : xa_ok FA FH (vp_updL V (vb R + E0.length) v) VR AS AG AF ((s, f, nv, g, p', (k, v) :: E0, L, F) :: R) := by
  obtain ⟨h1, h2, h3, h4, h5, h6', h7⟩ := h
  exact ⟨el_push (el_app X E0 h1), h2, h3, h4, h5, h6', xa_ext R h7 (fun _ _ => rfl) (fun _ _ => rfl) (fun j hj => pk_uLn (by omega)) (fun _ _ => rfl) (fun _ _ => rfl) (fun _ _ => rfl) (fun _ _ => rfl) h6⟩
theorem ya_0 (h : ya_ok ST LA LH LG CM CF CB CS CL ((s, f, nv, g, p, X ++ E0, L, F) :: R)) : ya_ok ST LA LH LG CM CF CB CS CL ((s, f, nv, g, p', E0, L, F) :: R) := ⟨el_app X E0 h.1, h.2⟩
theorem ya_1 (h : ya_ok ST LA LH LG CM CF CB CS CL ((s, f, nv, g, p, X ++ E0, L, F) :: R)) : ya_ok (vp_updL ST (yb R + nv + E0.length) v) LA LH LG CM CF CB CS CL ((s, f, nv, g, p', (k, v) :: E0, L, F) :: R) := by
  obtain ⟨h1, h2, h3, h4⟩ := h
  obtain ⟨h5, h6, h7, h8, h9, h10⟩ := h4
  exact ⟨el_push (el_app X E0 h1), fun i hi => by rw [pk_uLn (by omega)]; exact h2 i hi, h3, h5, h6, h7, h8, h9, ya_ext R h10 (fun j hj => pk_uLn (by omega)) (fun _ _ => rfl) (fun _ _ => rfl) (fun _ _ => rfl) (fun _ _ => rfl) (fun _ _ => rfl) (fun _ _ => rfl) (fun _ _ => rfl) (fun _ _ => rfl)⟩
theorem ya_2 (h : ya_ok ST LA LH LG CM CF CB CS CL ((s, f, nv, g, p, X ++ E0, L, F) :: R)) (hv : ST (yb R + nv + E0.length) = v) : ya_ok ST LA LH LG CM CF CB CS CL ((s, f, nv, g, p', (k, v) :: E0, L, F) :: R) := ⟨⟨hv, el_app X E0 h.1⟩, h.2⟩
end
section
variable {x_byteCount x_wrongPlace x_at x_frameCount x_kindCount x_valueCount x_activeCount x_goesOn x_outcome x_trapPlace x_fuelUsed x_firstWaiting x_waitingCount x_printCount : Int32} {x_resultValue : Int64} {x_code x_facts x_partner x_loaded x_memories x_frameAt x_frameHeight x_frameResult x_frameDead x_kinds x_activeSlot x_activeGives x_activeFrame x_activeResume x_waiting x_prints : Nat → Int32} {x_globals x_values x_variables : Nat → Int64}
variable {y_count y_place y_m y_pos y_wrong y_least y_top y_frames y_invalid y_sp y_labels y_active y_fuel y_outcome y_trappedAt y_used y_waits y_printed : Int32} {y_constant y_result : Int64} {y_bytes y_there y_types y_typeSig y_imports y_functions y_sig y_what y_typeAt y_localsAt y_globals y_globalKind y_globalFree y_entries y_entriesAt y_hasMemory y_memory y_nest y_kinds y_shape y_gives y_height y_dead y_labelAt y_labelHeight y_labelGives y_callModule y_callFunction y_callBack y_callBase y_callLabels y_waiting y_prints : Nat → Int32} {y_globalValue y_stack : Nat → Int64}
variable {B : Nat → Bool} {C : Nat → Nat → Nat} {N : Nat → Nat} {PP : Nat → Nat → Nat} {n : Nat} {cd : Nat → Nat} {g0 fu s f nv g p : Nat} {E : List ev} {L : Nat → Int64} {F : List vt_Fr} {R : List ac}
theorem y_21 {D : Int32 → Int32 → SY → Prop} {pos wr z : Int32} {k : Int64} {m : Nat} {c : Nat → Nat} {n' : Nat} (Q : cq_ok y_m y_bytes m c n') (hp : p < n') (h66 : c p ≤ 66) (hR : rd_R c n' (c p) (true, p + 1) = (true, nx c p)) (hin : vp_in (140 * y_m + z) 420)
    (h : ∀ k', (c p = 20 ∨ c p = 21 → k' = cv c (c p - 19) 10 (p + 1) 0 0) → D (y_bytes (140 * y_m + z).toNatClampNeg) (nI (nx c p)) (y_count, y_place, y_m, nI (nx c p), 0, k', y_least, y_top, y_frames, y_invalid, y_sp, y_labels, y_active, y_fuel, y_outcome, y_trappedAt, y_result, y_used, y_waits, y_printed, y_bytes, y_there, y_types, y_typeSig, y_imports, y_functions, y_sig, y_what, y_typeAt, y_localsAt, y_globals, y_globalKind, y_globalFree, y_globalValue, y_entries, y_entriesAt, y_hasMemory, y_memory, y_nest, y_kinds, y_shape, y_gives, y_height, y_dead, y_stack, y_labelAt, y_labelHeight, y_labelGives, y_callModule, y_callFunction, y_callBack, y_callBase, y_callLabels, y_waiting, y_prints)) :
    wpY_at (fun r => wpY_beyond (fun r2 u => D r r2 u) (y_count, y_place, y_m, pos, wr, k, y_least, y_top, y_frames, y_invalid, y_sp, y_labels, y_active, y_fuel, y_outcome, y_trappedAt, y_result, y_used, y_waits, y_printed, y_bytes, y_there, y_types, y_typeSig, y_imports, y_functions, y_sig, y_what, y_typeAt, y_localsAt, y_globals, y_globalKind, y_globalFree, y_globalValue, y_entries, y_entriesAt, y_hasMemory, y_memory, y_nest, y_kinds, y_shape, y_gives, y_height, y_dead, y_stack, y_labelAt, y_labelHeight, y_labelGives, y_callModule, y_callFunction, y_callBack, y_callBase, y_callLabels, y_waiting, y_prints) (nI p)) (y_count, y_place, y_m, pos, wr, k, y_least, y_top, y_frames, y_invalid, y_sp, y_labels, y_active, y_fuel, y_outcome, y_trappedAt, y_result, y_used, y_waits, y_printed, y_bytes, y_there, y_types, y_typeSig, y_imports, y_functions, y_sig, y_what, y_typeAt, y_localsAt, y_globals, y_globalKind, y_globalFree, y_globalValue, y_entries, y_entriesAt, y_hasMemory, y_memory, y_nest, y_kinds, y_shape, y_gives, y_height, y_dead, y_stack, y_labelAt, y_labelHeight, y_labelGives, y_callModule, y_callFunction, y_callBack, y_callBase, y_callLabels, y_waiting, y_prints) z :=
  ⟨hin, y_beyond Q hp h66 hR h⟩
theorem op_f (W : wo_ok B C N PP n cd x_byteCount x_wrongPlace x_firstWaiting x_waitingCount x_printCount x_code x_facts x_partner x_loaded x_globals x_memories x_waiting x_prints y_count y_place y_waits y_printed y_bytes y_there y_types y_typeSig y_imports y_functions y_sig y_what y_localsAt y_globals y_globalValue y_entries y_entriesAt y_hasMemory y_memory y_waiting y_prints) (hfu : fu ≤ 120) (hR : R.length < 10) (AO : a_ok B C N PP 0 s f nv g p E L F) (CR : ch_ok B C N PP g0 g R) (XA : xa_ok x_frameAt x_frameHeight x_values x_variables x_activeSlot x_activeGives x_activeFrame ((s, f, nv, g, p, E, L, F) :: R)) (AR : ar_ok x_activeResume R) (YA : ya_ok y_stack y_labelAt y_labelHeight y_labelGives y_callModule y_callFunction y_callBack y_callBase y_callLabels ((s, f, nv, g, p, E, L, F) :: R)) : sm_ok (C s) (N s) (PP s) ∧ mp_ok (C s) (N s) ∧ N s ≤ 140 ∧ mx_c x_code s (C s) ∧ cq_ok (nI s) y_bytes s (C s) (N s) ∧ (∃ k, wk (C s) (N s) (PP s) f k p (ek E, F, false)) ∧ x_activeSlot R.length = nI s ∧ vb R ≤ 20 * R.length ∧ fb R ≤ 8 * R.length ∧ yb R ≤ 26 * R.length ∧ (∀ a, a ∈ R → a.2.2.1 ≤ 6) ∧ s < 2 ∧ p < N s ∧ C s p ≤ 66 ∧ rd_R (C s) (N s) (C s p) (true, p + 1) = (true, nx (C s) p) ∧ tv E ∧ E.length ≤ 20 ∧ f_h F ≤ E.length ∧ f_d F = false ∧ nv ≤ 6 ∧ p < 140 := by
  obtain ⟨a1, a2, a3, a4, a5, a6, a7, a8, a9, a10, a11, a12, ⟨k, a13⟩, a14, a15⟩ := AO
  obtain ⟨w1, w2, w3, w4, w5, w6, w7, w8, w9, w10, w11, w12⟩ := W
  obtain ⟨s1, s2, s3, s4⟩ := w11 s a1 a2
  obtain ⟨c1, c2, c3, c4, c5⟩ := ch_le B C N PP R g CR
  obtain ⟨n1, n2, n3, n4, n5, n6⟩ := wk_n a13
  have hh := fo_h a11
  rw [ek_len] at hh
  exact ⟨s1, (mp_of s1.2.1).1, s1.1, s2.1, ⟨rfl, by omega, s1.1, s3.1, s2.1.2.1⟩, ⟨k, a13⟩, XA.2.2.2.1, c1, c2, c3, c4, a1, n1, n2, n5, a7, a8, hh, fo_d a11, a5.2, a15.1⟩
theorem fin_c {m : Nat} (W : wo_ok B C N PP n cd x_byteCount x_wrongPlace x_firstWaiting x_waitingCount x_printCount x_code x_facts x_partner x_loaded x_globals x_memories x_waiting x_prints y_count y_place y_waits y_printed y_bytes y_there y_types y_typeSig y_imports y_functions y_sig y_what y_localsAt y_globals y_globalValue y_entries y_entriesAt y_hasMemory y_memory y_waiting y_prints) (hfu : fu ≤ 120) (hR : R.length < 10) (AO : a_ok B C N PP 0 s f nv g p E L F) (CR : ch_ok B C N PP g0 g R) (XA : xa_ok x_frameAt x_frameHeight x_values x_variables x_activeSlot x_activeGives x_activeFrame ((s, f, nv, g, p, E, L, F) :: R)) (AR : ar_ok x_activeResume R) (YA : ya_ok y_stack y_labelAt y_labelHeight y_labelGives y_callModule y_callFunction y_callBack y_callBase y_callLabels ((s, f, nv, g, p, E, L, F) :: R)) (hm : mu ((s, f, nv, g, p, E, L, F) :: R) fu < m) : nxt B C N PP n cd g0 m (x_byteCount, x_wrongPlace, nI p, nI (fb R + F.length), x_kindCount, nI (vb R + E.length), nI (R.length + 1), x_goesOn, -1, 0, -1, nI fu, x_firstWaiting, x_waitingCount, x_printCount, x_code, x_facts, x_partner, x_loaded, x_globals, x_memories, x_frameAt, x_frameHeight, x_frameResult, x_frameDead, x_kinds, x_values, x_variables, x_activeSlot, x_activeGives, x_activeFrame, x_activeResume, x_waiting, x_prints) (y_count, y_place, nI s, y_pos, y_wrong, y_constant, y_least, y_top, y_frames, y_invalid, nI (yb R + nv + E.length), nI (fb R + F.length), nI (R.length + 1), nI (120 - fu), 0, -1, y_result, y_used, y_waits, y_printed, y_bytes, y_there, y_types, y_typeSig, y_imports, y_functions, y_sig, y_what, y_typeAt, y_localsAt, y_globals, y_globalKind, y_globalFree, y_globalValue, y_entries, y_entriesAt, y_hasMemory, y_memory, y_nest, y_kinds, y_shape, y_gives, y_height, y_dead, y_stack, y_labelAt, y_labelHeight, y_labelGives, y_callModule, y_callFunction, y_callBack, y_callBase, y_callLabels, y_waiting, y_prints) (nI p) :=
  Or.inl ⟨(s, f, nv, g, p, E, L, F) :: R, fu, ⟨W, ⟨rfl, rfl, hfu⟩, ⟨rfl, rfl, rfl, rfl, rfl⟩, by simp, hR, ⟨AO, CR⟩, ⟨rfl, rfl, rfl, rfl, XA, AR⟩, rfl, rfl, rfl, rfl, YA⟩, rfl, hm⟩
end
