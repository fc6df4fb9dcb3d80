theorem yv_K_drop {KI : Nat → Int32} : ∀ (K : List Nat) j, yv_K KI K → yv_K KI (K.drop j) := by
  intro K
  induction K with
  | nil => intro j _; simp [yv_K]
  | cons x K ih =>
    intro j h
    cases j with
    | zero => exact h
    | succ j => exact ih j h.2
theorem sn_K_drop {K : List Nat} (h : sn_K K) (j : Nat) : sn_K (K.drop j) := fun k hk => h k (List.mem_of_mem_drop hk)
theorem bb_or1 (b : Bool) : bb_i (b || true) = 1 := by cases b <;> rfl
theorem bb_or0 (b : Bool) : bb_i (b || false) = bb_i b := by cases b <;> rfl
section
variable {y_count y_place y_m y_pos y_wrong y_least y_top y_frames y_invalid y_sp y_labels y_active y_fuel y_outcome y_trappedAt y_used y_waits y_printed : Int32} {y_constant y_result : Int64} {y_bytes y_there y_types y_typeSig y_imports y_functions y_sig y_what y_typeAt y_localsAt y_globals y_globalKind y_globalFree y_entries y_entriesAt y_hasMemory y_memory y_nest y_kinds y_shape y_gives y_height y_dead y_labelAt y_labelHeight y_labelGives y_callModule y_callFunction y_callBack y_callBase y_callLabels y_waiting y_prints : Nat → Int32} {y_globalValue y_stack : Nat → Int64}
variable {KI SH GI HE DE : Nat → Int32} {S : vt_St}
theorem y_pull {post : Int32 → SY → Prop} (k : Nat) (hk : k ≤ 2) (hF : S.2.1 ≠ []) (R : YV S KI SH GI HE DE)
    (h : YV (vt_pl k S) KI SH GI HE DE → vt_px k S ≤ 2 → (vt_pl k S).2.1 = S.2.1 → post (nI (vt_px k S)) (y_count, y_place, y_m, y_pos, y_wrong, y_constant, y_least, nI (vt_pl k S).1.length, nI (vt_pl k S).2.1.length, bb_i (vt_pl k S).2.2, y_sp, y_labels, y_active, y_fuel, y_outcome, y_trappedAt, y_result, y_used, y_waits, y_printed, y_bytes, y_there, y_types, y_typeSig, y_imports, y_functions, y_sig, y_what, y_typeAt, y_localsAt, y_globals, y_globalKind, y_globalFree, y_globalValue, y_entries, y_entriesAt, y_hasMemory, y_memory, y_nest, KI, SH, GI, HE, DE, y_stack, y_labelAt, y_labelHeight, y_labelGives, y_callModule, y_callFunction, y_callBack, y_callBase, y_callLabels, y_waiting, y_prints)) : wpY_pull post (y_count, y_place, y_m, y_pos, y_wrong, y_constant, y_least, nI S.1.length, nI S.2.1.length, bb_i S.2.2, y_sp, y_labels, y_active, y_fuel, y_outcome, y_trappedAt, y_result, y_used, y_waits, y_printed, y_bytes, y_there, y_types, y_typeSig, y_imports, y_functions, y_sig, y_what, y_typeAt, y_localsAt, y_globals, y_globalKind, y_globalFree, y_globalValue, y_entries, y_entriesAt, y_hasMemory, y_memory, y_nest, KI, SH, GI, HE, DE, y_stack, y_labelAt, y_labelHeight, y_labelGives, y_callModule, y_callFunction, y_callBack, y_callBase, y_callLabels, y_waiting, y_prints) (nI k) := by
  obtain ⟨K, F, b⟩ := S
  dsimp only at hF
  cases F with
  | nil => exact absurd rfl hF
  | cons x F =>
    obtain ⟨cd, g, hh, d, o⟩ := x
    obtain ⟨rk, ⟨r1, r2, r3, r4, r5⟩, s1, s2, s3, s4, s5, s6, s7⟩ := R
    dsimp only at rk s1 s2 s3 s4
    simp only [List.length_cons] at s2
    have e1 : nI (F.length + 1) - 1 = nI F.length := nI_pred F.length
    refine nm_r e1 ⟨pk_in F.length 9 (by omega), ?_⟩
    have eH : HE (nI F.length).toNatClampNeg = nI hh := by rw [pk_cl F.length]; exact r3
    have eD : DE (nI F.length).toNatClampNeg = bb_i d := by rw [pk_cl F.length]; exact r4
    by_cases hc : K.length = hh
    · have hS : vt_pl k (K, (cd, g, hh, d, o) :: F, b) = (K, (cd, g, hh, d, o) :: F, b || !d) := if_pos hc
      have hx : vt_px k (K, (cd, g, hh, d, o) :: F, b) = k := if_pos hc
      rw [hS, hx] at h
      have h' := h ⟨rk, ⟨r1, r2, r3, r4, r5⟩, s1, by simp only [List.length_cons]; omega, s3, s4, s5, s6, s7⟩ hk rfl
      refine pk_eq K.length hh (fun _ => ⟨pk_in F.length 9 (by omega), ?_⟩) (fun z => absurd hc z) rfl eH
      cases d with
      | false =>
        refine br_t eD ?_
        rw [show bb_i (b || !false) = 1 from bb_or1 b] at h'
        exact h'
      | true =>
        refine br_f (by rw [eD]; decide) ?_
        rw [show bb_i (b || !true) = bb_i b from bb_or0 b] at h'
        exact h'
    · have hS : vt_pl k (K, (cd, g, hh, d, o) :: F, b) = (K.tail, (cd, g, hh, d, o) :: F, b || pl_f (K.headD 0) k) := if_neg hc
      have hx : vt_px k (K, (cd, g, hh, d, o) :: F, b) = K.headD 0 := if_neg hc
      rw [hS, hx] at h
      cases K with
      | nil => exact absurd (show (0 : Nat) = hh from by simp only [List.length_nil] at s4; omega) hc
      | cons x K =>
        simp only [List.length_cons] at s1 s4 hc
        have hx2 : x ≤ 2 := s3 x (by simp)
        have h' := h ⟨rk.2, ⟨r1, r2, r3, r4, r5⟩, by simp only [List.tail_cons]; omega, by simp only [List.length_cons]; omega, sn_K_t s3, by simp only [List.tail_cons]; omega, s5, s6, s7⟩ hx2 rfl
        simp only [List.headD_cons, List.tail_cons] at h'
        have e2 : nI (K.length + 1) - 1 = nI K.length := nI_pred K.length
        refine pk_eq (K.length + 1) hh (fun z => absurd z hc) (fun _ => nm_r e2 ⟨pk_in K.length 24 (by omega) e2, nm_r (show KI (nI (K.length + 1) - 1).toNatClampNeg = nI x from by rw [pk_cl K.length e2]; exact rk.1) ?_⟩) rfl eH
        refine pk_eq x 0 (fun z => ?_) (fun z => pk_eq k 0 (fun z2 => ?_) (fun z2 => pk_eq x k (fun z3 => ?_) (fun z3 => ?_)))
        · rw [show pl_f x k = false from if_neg (by omega), bb_or0] at h'; exact h'
        · rw [show pl_f x k = false from if_neg (by omega), bb_or0] at h'; exact h'
        · rw [show pl_f x k = false from if_neg (by omega), bb_or0] at h'; exact h'
        · rw [show pl_f x k = true from if_pos ⟨z, z2, z3⟩, bb_or1] at h'; exact h'
theorem y_give {post : SY → Prop} (k : Nat) (hk : k ≤ 2) (R : YV S KI SH GI HE DE)
    (h : ∀ KI SH GI HE DE, YV (vt_gv k S) KI SH GI HE DE → (vt_gv k S).2.1 = S.2.1 → post (y_count, y_place, y_m, y_pos, y_wrong, y_constant, y_least, nI (vt_gv k S).1.length, nI (vt_gv k S).2.1.length, bb_i (vt_gv k S).2.2, y_sp, y_labels, y_active, y_fuel, y_outcome, y_trappedAt, y_result, y_used, y_waits, y_printed, y_bytes, y_there, y_types, y_typeSig, y_imports, y_functions, y_sig, y_what, y_typeAt, y_localsAt, y_globals, y_globalKind, y_globalFree, y_globalValue, y_entries, y_entriesAt, y_hasMemory, y_memory, y_nest, KI, SH, GI, HE, DE, y_stack, y_labelAt, y_labelHeight, y_labelGives, y_callModule, y_callFunction, y_callBack, y_callBase, y_callLabels, y_waiting, y_prints)) : wpY_give post (y_count, y_place, y_m, y_pos, y_wrong, y_constant, y_least, nI S.1.length, nI S.2.1.length, bb_i S.2.2, y_sp, y_labels, y_active, y_fuel, y_outcome, y_trappedAt, y_result, y_used, y_waits, y_printed, y_bytes, y_there, y_types, y_typeSig, y_imports, y_functions, y_sig, y_what, y_typeAt, y_localsAt, y_globals, y_globalKind, y_globalFree, y_globalValue, y_entries, y_entriesAt, y_hasMemory, y_memory, y_nest, KI, SH, GI, HE, DE, y_stack, y_labelAt, y_labelHeight, y_labelGives, y_callModule, y_callFunction, y_callBack, y_callBase, y_callLabels, y_waiting, y_prints) (nI k) := by
  obtain ⟨K, F, b⟩ := S
  obtain ⟨rk, rf, s1, s2, s3, s4⟩ := R
  dsimp only at rk rf s1 s2 s3 s4
  by_cases hc : K.length = 20
  · have hS : vt_gv k (K, F, b) = (K, F, true) := if_pos hc
    rw [hS] at h
    exact pk_eq K.length 20 (fun _ => h KI SH GI HE DE ⟨rk, rf, s1, s2, s3, s4⟩ rfl) (fun z => absurd hc z)
  · have hS : vt_gv k (K, F, b) = (k :: K, F, b) := if_neg hc
    rw [hS] at h
    refine pk_eq K.length 20 (fun z => absurd z hc) (fun _ => nm_r (nI_1 K.length) ⟨pk_in K.length 24 (by omega), nm_r (show _ = upd KI K.length (nI k) from by rw [pk_cl K.length, nr_b (by omega)]) ?_⟩)
    refine h (upd KI K.length (nI k)) SH GI HE DE ⟨⟨pk_us, yv_K_ext K rk (fun j hj => pk_un (by omega))⟩, rf, ?_, s2, ?_, ?_⟩ rfl
    · simp only [List.length_cons]; omega
    · intro j hj
      rcases List.mem_cons.mp hj with e | e
      · omega
      · exact s3 j e
    · exact sn_F_mono s4 (by simp only [List.length_cons]; omega)
theorem y_pullResult {post : SY → Prop} (k : Nat) (hk : k ≤ 2) (hF : S.2.1 ≠ []) (R : YV S KI SH GI HE DE)
    (h : YV (vt_pr k S) KI SH GI HE DE → (vt_pr k S).2.1 = S.2.1 → post (y_count, y_place, y_m, y_pos, y_wrong, y_constant, y_least, nI (vt_pr k S).1.length, nI (vt_pr k S).2.1.length, bb_i (vt_pr k S).2.2, y_sp, y_labels, y_active, y_fuel, y_outcome, y_trappedAt, y_result, y_used, y_waits, y_printed, y_bytes, y_there, y_types, y_typeSig, y_imports, y_functions, y_sig, y_what, y_typeAt, y_localsAt, y_globals, y_globalKind, y_globalFree, y_globalValue, y_entries, y_entriesAt, y_hasMemory, y_memory, y_nest, KI, SH, GI, HE, DE, y_stack, y_labelAt, y_labelHeight, y_labelGives, y_callModule, y_callFunction, y_callBack, y_callBase, y_callLabels, y_waiting, y_prints)) : wpY_pullResult post (y_count, y_place, y_m, y_pos, y_wrong, y_constant, y_least, nI S.1.length, nI S.2.1.length, bb_i S.2.2, y_sp, y_labels, y_active, y_fuel, y_outcome, y_trappedAt, y_result, y_used, y_waits, y_printed, y_bytes, y_there, y_types, y_typeSig, y_imports, y_functions, y_sig, y_what, y_typeAt, y_localsAt, y_globals, y_globalKind, y_globalFree, y_globalValue, y_entries, y_entriesAt, y_hasMemory, y_memory, y_nest, KI, SH, GI, HE, DE, y_stack, y_labelAt, y_labelHeight, y_labelGives, y_callModule, y_callFunction, y_callBack, y_callBase, y_callLabels, y_waiting, y_prints) (nI k) := by
  refine pk_eq k 0 (fun z => ?_) (fun z => ?_)
  · have e : vt_pr k S = S := if_pos z
    rw [e] at h; exact h R rfl
  · have e : vt_pr k S = vt_pl k S := if_neg z
    rw [e] at h
    exact y_pull k hk hF R (fun a _ b => h a b)
theorem y_giveResult {post : SY → Prop} (k : Nat) (hk : k ≤ 2) (R : YV S KI SH GI HE DE)
    (h : ∀ KI SH GI HE DE, YV (vt_gr k S) KI SH GI HE DE → (vt_gr k S).2.1 = S.2.1 → post (y_count, y_place, y_m, y_pos, y_wrong, y_constant, y_least, nI (vt_gr k S).1.length, nI (vt_gr k S).2.1.length, bb_i (vt_gr k S).2.2, y_sp, y_labels, y_active, y_fuel, y_outcome, y_trappedAt, y_result, y_used, y_waits, y_printed, y_bytes, y_there, y_types, y_typeSig, y_imports, y_functions, y_sig, y_what, y_typeAt, y_localsAt, y_globals, y_globalKind, y_globalFree, y_globalValue, y_entries, y_entriesAt, y_hasMemory, y_memory, y_nest, KI, SH, GI, HE, DE, y_stack, y_labelAt, y_labelHeight, y_labelGives, y_callModule, y_callFunction, y_callBack, y_callBase, y_callLabels, y_waiting, y_prints)) : wpY_giveResult post (y_count, y_place, y_m, y_pos, y_wrong, y_constant, y_least, nI S.1.length, nI S.2.1.length, bb_i S.2.2, y_sp, y_labels, y_active, y_fuel, y_outcome, y_trappedAt, y_result, y_used, y_waits, y_printed, y_bytes, y_there, y_types, y_typeSig, y_imports, y_functions, y_sig, y_what, y_typeAt, y_localsAt, y_globals, y_globalKind, y_globalFree, y_globalValue, y_entries, y_entriesAt, y_hasMemory, y_memory, y_nest, KI, SH, GI, HE, DE, y_stack, y_labelAt, y_labelHeight, y_labelGives, y_callModule, y_callFunction, y_callBack, y_callBase, y_callLabels, y_waiting, y_prints) (nI k) := by
  refine pk_eq k 0 (fun z => ?_) (fun z => ?_)
  · have e : vt_gr k S = S := if_pos z
    rw [e] at h; exact h _ _ _ _ _ R rfl
  · have e : vt_gr k S = vt_gv k S := if_neg z
    rw [e] at h
    exact y_give k hk R h
theorem y_die {post : SY → Prop} (hF : S.2.1 ≠ []) (R : YV S KI SH GI HE DE)
    (h : ∀ KI SH GI HE DE, YV (vt_die S) KI SH GI HE DE → post (y_count, y_place, y_m, y_pos, y_wrong, y_constant, y_least, nI (vt_die S).1.length, nI (vt_die S).2.1.length, bb_i (vt_die S).2.2, y_sp, y_labels, y_active, y_fuel, y_outcome, y_trappedAt, y_result, y_used, y_waits, y_printed, y_bytes, y_there, y_types, y_typeSig, y_imports, y_functions, y_sig, y_what, y_typeAt, y_localsAt, y_globals, y_globalKind, y_globalFree, y_globalValue, y_entries, y_entriesAt, y_hasMemory, y_memory, y_nest, KI, SH, GI, HE, DE, y_stack, y_labelAt, y_labelHeight, y_labelGives, y_callModule, y_callFunction, y_callBack, y_callBase, y_callLabels, y_waiting, y_prints)) : wpY_die post (y_count, y_place, y_m, y_pos, y_wrong, y_constant, y_least, nI S.1.length, nI S.2.1.length, bb_i S.2.2, y_sp, y_labels, y_active, y_fuel, y_outcome, y_trappedAt, y_result, y_used, y_waits, y_printed, y_bytes, y_there, y_types, y_typeSig, y_imports, y_functions, y_sig, y_what, y_typeAt, y_localsAt, y_globals, y_globalKind, y_globalFree, y_globalValue, y_entries, y_entriesAt, y_hasMemory, y_memory, y_nest, KI, SH, GI, HE, DE, y_stack, y_labelAt, y_labelHeight, y_labelGives, y_callModule, y_callFunction, y_callBack, y_callBase, y_callLabels, y_waiting, y_prints) := by
  obtain ⟨K, F, b⟩ := S
  dsimp only at hF
  cases F with
  | nil => exact absurd rfl hF
  | cons x F =>
    obtain ⟨cd, g, hh, d, o⟩ := x
    obtain ⟨rk, ⟨r1, r2, r3, r4, r5⟩, s1, s2, s3, s4, s5, s6, s7⟩ := R
    dsimp only at rk s1 s2 s3 s4
    simp only [List.length_cons] at s2
    have e1 : nI (F.length + 1) - 1 = nI F.length := nI_pred F.length
    have hl : (K.drop (K.length - hh)).length = hh := by rw [List.length_drop]; omega
    refine ⟨pk_in F.length 9 (by omega) e1, nm_r (show HE (nI (F.length + 1) - 1).toNatClampNeg = nI (K.drop (K.length - hh)).length from by rw [pk_cl F.length e1, hl]; exact r3) ⟨pk_in F.length 9 (by omega) e1, nm_r (show upd DE (nI (F.length + 1) - 1).toNatClampNeg (vp_nar .boolean 1) = upd DE F.length (bb_i true) from by rw [pk_cl F.length e1]; rfl) ?_⟩⟩
    refine h KI SH GI HE _ ⟨yv_K_drop K _ rk, ⟨r1, r2, r3, pk_us, yv_F_ext F r5 (fun _ _ => rfl) (fun _ _ => rfl) (fun _ _ => rfl) (fun j hj => pk_un (by omega))⟩, ?_, ?_, sn_K_drop s3 _, ?_⟩
    · show (K.drop (K.length - hh)).length ≤ 20; omega
    · show (List.length ((cd, g, hh, true, o) :: F)) ≤ 8; simp only [List.length_cons]; omega
    · show sn_F (K.drop (K.length - hh)).length ((cd, g, hh, true, o) :: F); rw [hl]; exact ⟨by omega, s5, s6, s7⟩
theorem y_open {post : SY → Prop} (cd op x o : Nat) (hop : y_sh cd = op) (hcd : cd ≤ 5) (hx : x ≤ 2) (R : YV S KI SH GI HE DE)
    (h : ∀ KI SH GI HE DE, YV (vt_open cd x o S) KI SH GI HE DE → post (y_count, y_place, y_m, y_pos, y_wrong, y_constant, y_least, nI (vt_open cd x o S).1.length, nI (vt_open cd x o S).2.1.length, bb_i (vt_open cd x o S).2.2, y_sp, y_labels, y_active, y_fuel, y_outcome, y_trappedAt, y_result, y_used, y_waits, y_printed, y_bytes, y_there, y_types, y_typeSig, y_imports, y_functions, y_sig, y_what, y_typeAt, y_localsAt, y_globals, y_globalKind, y_globalFree, y_globalValue, y_entries, y_entriesAt, y_hasMemory, y_memory, y_nest, KI, SH, GI, HE, DE, y_stack, y_labelAt, y_labelHeight, y_labelGives, y_callModule, y_callFunction, y_callBack, y_callBase, y_callLabels, y_waiting, y_prints)) : wpY_open post (y_count, y_place, y_m, y_pos, y_wrong, y_constant, y_least, nI S.1.length, nI S.2.1.length, bb_i S.2.2, y_sp, y_labels, y_active, y_fuel, y_outcome, y_trappedAt, y_result, y_used, y_waits, y_printed, y_bytes, y_there, y_types, y_typeSig, y_imports, y_functions, y_sig, y_what, y_typeAt, y_localsAt, y_globals, y_globalKind, y_globalFree, y_globalValue, y_entries, y_entriesAt, y_hasMemory, y_memory, y_nest, KI, SH, GI, HE, DE, y_stack, y_labelAt, y_labelHeight, y_labelGives, y_callModule, y_callFunction, y_callBack, y_callBase, y_callLabels, y_waiting, y_prints) (nI op) (nI x) := by
  obtain ⟨K, F, b⟩ := S
  obtain ⟨rk, rf, s1, s2, s3, s4⟩ := R
  dsimp only at rk rf s1 s2 s3 s4
  have hop2 : op < 6 := by rw [← hop]; unfold y_sh; split <;> omega
  by_cases hc : F.length = 8
  · have hS : vt_open cd x o (K, F, b) = (K, F, true) := if_pos hc
    rw [hS] at h
    exact pk_eq F.length 8 (fun _ => h KI SH GI HE DE ⟨rk, rf, s1, s2, s3, s4⟩) (fun z => absurd hc z)
  · have hS : vt_open cd x o (K, F, b) = (K, (cd, x, K.length, false, o) :: F, b) := if_neg hc
    rw [hS] at h
    refine pk_eq F.length 8 (fun z => absurd z hc) (fun _ => ⟨pk_in F.length 9 (by omega), nm_r (show _ = upd SH F.length (nI op) from by rw [pk_cl F.length, nr_b (by omega)]) ⟨pk_in F.length 9 (by omega), nm_r (show _ = upd GI F.length (nI x) from by rw [pk_cl F.length, nr_b (by omega)]) ⟨pk_in F.length 9 (by omega), nm_r (show upd HE (nI F.length).toNatClampNeg (vp_nar .byte (nI K.length).toInt8.toInt32) = upd HE F.length (nI K.length) from by rw [pk_cl F.length, nr_b (by omega)]) (nm_r (nI_1 F.length) ⟨pk_in F.length 9 (by omega), nm_r (show _ = upd DE F.length (bb_i false) from by rw [pk_cl F.length]; rfl) ?_⟩)⟩⟩⟩)
    refine h KI _ _ _ _ ⟨rk, ⟨by rw [pk_us, hop], pk_us, pk_us, pk_us, yv_F_ext F rf (fun j hj => pk_un (by omega)) (fun j hj => pk_un (by omega)) (fun j hj => pk_un (by omega)) (fun j hj => pk_un (by omega))⟩, s1, ?_, s3, Nat.le_refl _, hx, hcd, s4⟩
    simp only [List.length_cons]; omega
theorem y_wants {post : Int32 → SY → Prop} (d : Nat) (hd : d < 256) (hF : S.2.1 ≠ []) (R : YV S KI SH GI HE DE)
    (h : YV (vt_ws d S) KI SH GI HE DE → vt_w d S ≤ 2 → post (nI (vt_w d S)) (y_count, y_place, y_m, y_pos, y_wrong, y_constant, y_least, nI (vt_ws d S).1.length, nI (vt_ws d S).2.1.length, bb_i (vt_ws d S).2.2, y_sp, y_labels, y_active, y_fuel, y_outcome, y_trappedAt, y_result, y_used, y_waits, y_printed, y_bytes, y_there, y_types, y_typeSig, y_imports, y_functions, y_sig, y_what, y_typeAt, y_localsAt, y_globals, y_globalKind, y_globalFree, y_globalValue, y_entries, y_entriesAt, y_hasMemory, y_memory, y_nest, KI, SH, GI, HE, DE, y_stack, y_labelAt, y_labelHeight, y_labelGives, y_callModule, y_callFunction, y_callBack, y_callBase, y_callLabels, y_waiting, y_prints)) : wpY_wants post (y_count, y_place, y_m, y_pos, y_wrong, y_constant, y_least, nI S.1.length, nI S.2.1.length, bb_i S.2.2, y_sp, y_labels, y_active, y_fuel, y_outcome, y_trappedAt, y_result, y_used, y_waits, y_printed, y_bytes, y_there, y_types, y_typeSig, y_imports, y_functions, y_sig, y_what, y_typeAt, y_localsAt, y_globals, y_globalKind, y_globalFree, y_globalValue, y_entries, y_entriesAt, y_hasMemory, y_memory, y_nest, KI, SH, GI, HE, DE, y_stack, y_labelAt, y_labelHeight, y_labelGives, y_callModule, y_callFunction, y_callBack, y_callBase, y_callLabels, y_waiting, y_prints) (nI d) := by
  obtain ⟨K, F, b⟩ := S
  obtain ⟨rk, rf, s1, s2, s3, s4⟩ := R
  dsimp only at rk rf s1 s2 s3 s4 hF
  have hl : 0 < F.length := List.length_pos_iff.mpr hF
  have hw : vt_ws d (K, F, b) = (K, F, b || decide (F.length ≤ d)) := rfl
  rw [hw] at h
  by_cases hc : F.length ≤ d
  · have e : vt_w d (K, F, b) = 0 := if_pos hc
    rw [e, decide_eq_true hc] at h
    have h' := h ⟨rk, rf, s1, s2, s3, s4⟩ (by omega)
    dsimp only at h'
    rw [bb_or1] at h'
    exact pk_lt d F.length (fun z => absurd hc (by omega)) (fun _ => h')
  · have e : vt_w d (K, F, b) = if f_c (F.drop d) = 3 then 0 else f_g (F.drop d) := if_neg hc
    obtain ⟨a1, a2⟩ := yv_drop F d (by omega) rf
    obtain ⟨b1, b2⟩ := sn_drop F d _ s4
    rw [e, decide_eq_false hc] at h
    have h' := h ⟨rk, rf, s1, s2, s3, s4⟩ (by split <;> omega)
    dsimp only at h'
    rw [bb_or0] at h'
    have e2 : (nI F.length - 1) - nI d = nI (F.length - 1 - d) := by rw [show (1 : Int32) = nI 1 from rfl, pk_sub (by omega), pk_sub (by omega)]
    have hs : y_sh (f_c (F.drop d)) < 10 := by unfold y_sh; split <;> omega
    refine pk_lt d F.length (fun _ => nm_r e2 ⟨pk_in (F.length - 1 - d) 9 (by omega), ?_⟩) (fun z => absurd z hc)
    refine pk_eq (y_sh (f_c (F.drop d))) 3 (fun z => ?_) (fun z => ⟨pk_in (F.length - 1 - d) 9 (by omega), ?_⟩) (by rw [pk_cl (F.length - 1 - d)]; exact a1) rfl
    · rw [if_pos (by unfold y_sh at z; split at z <;> omega)] at h'; exact h'
    · have e3 : GI (nI (F.length - 1 - d)).toNatClampNeg = nI (f_g (F.drop d)) := by rw [pk_cl (F.length - 1 - d)]; exact a2
      rw [if_neg (fun y => z (by unfold y_sh; rw [if_neg (by omega)]; exact y))] at h'
      exact eq_p (P := fun w => post w _) e3 h'
theorem y_close {post : SY → Prop} (op : Nat) (hop : op = 5 ∨ op = 6) (hF : S.2.1 ≠ []) (R : YV S KI SH GI HE DE)
    (h : ∀ KI SH GI HE DE, YV (vt_close op S) KI SH GI HE DE → post (y_count, y_place, y_m, y_pos, y_wrong, y_constant, y_least, nI (vt_close op S).1.length, nI (vt_close op S).2.1.length, bb_i (vt_close op S).2.2, y_sp, y_labels, y_active, y_fuel, y_outcome, y_trappedAt, y_result, y_used, y_waits, y_printed, y_bytes, y_there, y_types, y_typeSig, y_imports, y_functions, y_sig, y_what, y_typeAt, y_localsAt, y_globals, y_globalKind, y_globalFree, y_globalValue, y_entries, y_entriesAt, y_hasMemory, y_memory, y_nest, KI, SH, GI, HE, DE, y_stack, y_labelAt, y_labelHeight, y_labelGives, y_callModule, y_callFunction, y_callBack, y_callBase, y_callLabels, y_waiting, y_prints)) : wpY_close post (y_count, y_place, y_m, y_pos, y_wrong, y_constant, y_least, nI S.1.length, nI S.2.1.length, bb_i S.2.2, y_sp, y_labels, y_active, y_fuel, y_outcome, y_trappedAt, y_result, y_used, y_waits, y_printed, y_bytes, y_there, y_types, y_typeSig, y_imports, y_functions, y_sig, y_what, y_typeAt, y_localsAt, y_globals, y_globalKind, y_globalFree, y_globalValue, y_entries, y_entriesAt, y_hasMemory, y_memory, y_nest, KI, SH, GI, HE, DE, y_stack, y_labelAt, y_labelHeight, y_labelGives, y_callModule, y_callFunction, y_callBack, y_callBase, y_callLabels, y_waiting, y_prints) (nI op) := by
  obtain ⟨K, F, b⟩ := S
  dsimp only at hF
  cases F with
  | nil => exact absurd rfl hF
  | cons x F =>
    obtain ⟨cd, g, hh, d, o⟩ := x
    obtain ⟨rk, ⟨r1, r2, r3, r4, r5⟩, s1, s2, s3, s4, s5, s6, s7⟩ := id R
    dsimp only at rk s1 s2 s3 s4
    simp only [List.length_cons] at s2
    have e1 : nI (F.length + 1) - 1 = nI F.length := nI_pred F.length
    have eG : GI (nI F.length).toNatClampNeg = nI g := by rw [pk_cl F.length]; exact r2
    have eH : HE (nI F.length).toNatClampNeg = nI hh := by rw [pk_cl F.length]; exact r3
    have eS : SH (nI F.length).toNatClampNeg = nI (y_sh cd) := by rw [pk_cl F.length]; exact r1
    have hys : y_sh cd < 10 := by unfold y_sh; split <;> omega
    have hy4 : y_sh cd = 4 ↔ cd = 4 := by unfold y_sh; split <;> omega
    refine nm_r e1 ⟨pk_in F.length 9 (by omega), ?_⟩
    refine eq_p (P := fun w => wpY_pullResult _ _ w) eG ?_
    refine y_pullResult g (by omega) (by simp) R (fun R1 eF1 => ⟨pk_in F.length 9 (by omega), ?_⟩)
    have eF2 : (vt_pr g (K, (cd, g, hh, d, o) :: F, b)).2.1 = (cd, g, hh, d, o) :: F := eF1
    have ecl : ∀ B, decide ((vt_pr g (K, (cd, g, hh, d, o) :: F, b)).1.length ≠ hh ∨ (op = 6 ∧ cd = 4 ∧ g ≠ 0)) = B → vt_cl op (K, (cd, g, hh, d, o) :: F, b) = ((vt_pr g (K, (cd, g, hh, d, o) :: F, b)).1, (cd, g, hh, d, o) :: F, (vt_pr g (K, (cd, g, hh, d, o) :: F, b)).2.2 || B) := by
      intro B hB
      show vt_bad (vt_pr g (K, (cd, g, hh, d, o) :: F, b)) (decide ((vt_pr g (K, (cd, g, hh, d, o) :: F, b)).1.length ≠ hh ∨ (op = 6 ∧ cd = 4 ∧ g ≠ 0))) = _
      rw [hB]
      show ((vt_pr g (K, (cd, g, hh, d, o) :: F, b)).1, (vt_pr g (K, (cd, g, hh, d, o) :: F, b)).2.1, _) = _
      rw [eF2]
    generalize eS1 : vt_pr g (K, (cd, g, hh, d, o) :: F, b) = S1 at R1 eF2 ecl
    obtain ⟨K1, F1, b1⟩ := S1
    dsimp only at eF2 ecl
    subst eF2
    obtain ⟨rk1, ⟨p1, p2, p3, p4, p5⟩, q1, q2, q3, q4, q5, q6, q7⟩ := id R1
    dsimp only at rk1 q1 q2 q3 q4
    simp only [List.length_cons] at q2
    have w60 : ∀ B, decide (K1.length ≠ hh ∨ (op = 6 ∧ cd = 4 ∧ g ≠ 0)) = B → ∀ iv, iv = bb_i (b1 || B) → wY_close_60 post (nI op) (nI F.length) y_count y_place y_m y_pos y_wrong y_constant y_least (nI ((K1, (cd, g, hh, d, o) :: F, b1)).1.length) (nI ((K1, (cd, g, hh, d, o) :: F, b1)).2.1.length) iv y_sp y_labels y_active y_fuel y_outcome y_trappedAt y_result y_used y_waits y_printed y_bytes y_there y_types y_typeSig y_imports y_functions y_sig y_what y_typeAt y_localsAt y_globals y_globalKind y_globalFree y_globalValue y_entries y_entriesAt y_hasMemory y_memory y_nest KI SH GI HE DE y_stack y_labelAt y_labelHeight y_labelGives y_callModule y_callFunction y_callBack y_callBase y_callLabels y_waiting y_prints := by
      intro B hB iv hiv
      subst hiv
      have hcl := ecl B hB
      rcases hop with rfl | rfl
      · have hc : vt_close 5 (K, (cd, g, hh, d, o) :: F, b) = (K1, (5, g, hh, false, o) :: F, b1 || B) := by
          rw [vt_close, if_pos rfl, hcl]; rfl
        rw [hc] at h
        refine br_t rfl ⟨pk_in F.length 9 (by omega), nm_r (show upd SH (nI F.length).toNatClampNeg (vp_nar .byte 2) = upd SH F.length (nI 2) from by rw [pk_cl F.length]; exact congrArg _ (nr_b (k := 2) (by omega))) ⟨pk_in F.length 9 (by omega), nm_r (show upd DE (nI F.length).toNatClampNeg (vp_nar .boolean 0) = upd DE F.length (bb_i false) from by rw [pk_cl F.length]; rfl) ?_⟩⟩
        refine h KI _ GI HE _ ⟨rk1, ⟨pk_us, p2, p3, pk_us, yv_F_ext F p5 (fun j hj => pk_un (by omega)) (fun _ _ => rfl) (fun _ _ => rfl) (fun j hj => pk_un (by omega))⟩, q1, by simp only [List.length_cons]; omega, q3, q4, q5, by omega, q7⟩
      · refine br_f (by decide) (nm_r (show nI (F.length + 1) - 1 = nI F.length from nI_pred F.length) ?_)
        by_cases hT : F = []
        · have hc : vt_close 6 (K, (cd, g, hh, d, o) :: F, b) = (K1, [], b1 || B) := by
            rw [vt_close, if_neg (by decide), if_pos (by exact hT), hcl]
          rw [hc] at h
          subst hT
          exact br_t (by decide) (h KI SH GI HE DE ⟨rk1, trivial, q1, by simp, q3, trivial⟩)
        · have hc : vt_close 6 (K, (cd, g, hh, d, o) :: F, b) = vt_gr g (K1, F, b1 || B) := by
            rw [vt_close, if_neg (by decide), if_neg (by exact hT), hcl]; rfl
          rw [hc] at h
          have hl : 0 < F.length := List.length_pos_iff.mpr hT
          refine pk_le F.length 0 (fun z => absurd z (by omega)) (fun _ => ⟨pk_in F.length 9 (by omega), ?_⟩)
          refine eq_p (P := fun w => wpY_giveResult _ _ w) eG ?_
          exact y_giveResult g (by omega) ⟨rk1, p5, q1, show F.length ≤ 8 by omega, q3, sn_F_mono q7 q4⟩ (fun KI SH GI HE DE a _ => h KI SH GI HE DE a)
    refine pk_eq K1.length hh (fun z => ?_) (fun z => ?_) rfl eH
    · refine pk_eq op 6 (fun z2 => ⟨pk_in F.length 9 (by omega), pk_eq (y_sh cd) 4 (fun z3 => ⟨pk_in F.length 9 (by omega), pk_eq g 0 (fun z4 => ?_) (fun z4 => ?_) eG rfl⟩) (fun z3 => ?_) eS rfl⟩) (fun z2 => ?_)
      · exact w60 false (decide_eq_false (by omega)) _ (bb_or0 b1).symm
      · exact w60 true (decide_eq_true (Or.inr ⟨z2, hy4.mp z3, z4⟩)) _ (bb_or1 b1).symm
      · exact w60 false (decide_eq_false (fun y => y.elim (fun a => a z) (fun a => z3 (hy4.mpr a.2.1)))) _ (bb_or0 b1).symm
      · exact w60 false (decide_eq_false (by omega)) _ (bb_or0 b1).symm
    · exact w60 true (decide_eq_true (Or.inl z)) _ (bb_or1 b1).symm
end
