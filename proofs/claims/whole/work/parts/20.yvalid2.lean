def yw_ok (c : Nat → Nat) (n : Nat) (TY TS FU SI LA GL GK GF H : Nat → Int32) : Prop :=
  TY 2 = nI (c 0) ∧ (∀ t, t < c 0 → TS (8 + t) = nI (sg c (m_ty c n t))) ∧ FU 2 = nI (m_I c n + m_F c n) ∧ (∀ f, f < m_I c n + m_F c n → SI (14 + f) = sg_i c (c 0) (m_ty c n) (m_fa c n f)) ∧
  (∀ f, m_I c n ≤ f → f < m_I c n + m_F c n → LA (14 + f) = nI (m_fa c n f + 1)) ∧ GL 2 = nI (c (m_pG c n)) ∧ (∀ g, g < c (m_pG c n) → GK (6 + g) = nI (c (m_ga c n g)) ∧ GF (6 + g) = nI (c (m_ga c n g + 1))) ∧ H 2 = nI (c (tl_m c n (m_pG c n)))
theorem sh_28 : ∀ k, k < 3 → (((2 + 2 * nI k) &&& 31 : Int32).toBitVec.smod 32).toNat = 2 + 2 * k := by decide +kernel
theorem sh_8 : (((8 : Int32) &&& 31).toBitVec.smod 32).toNat = 8 := by decide +kernel
theorem y_params {post : Int32 → Prop} {s : Nat} (hs : s < 1024) (h : post (nI (s % 4))) : wpY_params post (nI s) := by
  have e : nI s &&& 3 = nI (s % 4) := pk_andN (k := 2) (by omega) (by decide)
  exact eq_p (P := post) e h
theorem y_param {post : Int32 → Prop} {s k : Nat} (hs : s < 1024) (hk : k < 3) (h : post (nI (s / 4 ^ (k + 1) % 4))) : wpY_param post (nI s) (nI k) := by
  have e : (nI s >>> ((2 + 2 * nI k) &&& 31)) &&& 3 = nI (s / 4 ^ (k + 1) % 4) := by
    rw [pk_shrN (by omega) _ (2 + 2 * k) (sh_28 k hk)]
    have e2 : (2 : Nat) ^ (2 + 2 * k) = 4 ^ (k + 1) := by rw [show (4 : Nat) = 2 ^ 2 from rfl, ← Nat.pow_mul]; congr 1; omega
    rw [e2]
    exact pk_andN (k := 2) (Nat.lt_of_le_of_lt (Nat.div_le_self _ _) (by omega)) (by decide)
  exact eq_p (P := post) e h
theorem y_gift {post : Int32 → Prop} {s : Nat} (hs : s < 1024) (h : post (nI (s / 256))) : wpY_gift post (nI s) := by
  have e : nI s >>> ((8 : Int32) &&& 31) = nI (s / 256) := pk_shrN (by omega) _ 8 sh_8
  exact eq_p (P := post) e h
section
variable {y_count y_place y_m y_pos y_wrong y_least y_top y_frames y_invalid y_sp y_labels y_active y_fuel y_outcome y_trappedAt y_used y_waits y_printed : Int32} {y_constant y_result : Int64} {y_bytes y_there y_types y_typeSig y_imports y_functions y_sig y_what y_typeAt y_localsAt y_globals y_globalKind y_globalFree y_entries y_entriesAt y_hasMemory y_memory y_nest y_kinds y_shape y_gives y_height y_dead y_labelAt y_labelHeight y_labelGives y_callModule y_callFunction y_callBack y_callBase y_callLabels y_waiting y_prints : Nat → Int32} {y_globalValue y_stack : Nat → Int64}
variable {KI SH GI HE DE : Nat → Int32} {S : vt_St} {c : Nat → Nat} {n p : Nat}
theorem y_tb {post : SY → Prop} {x1 : Int32} (C : cy_ok y_count y_m y_bytes 2 c n) (w N P : Nat) (hw : w ≤ 2) (hN : N ≤ 4) (hP : P + N < n) (hx : x1 + 1 = nI P) : ∀ r i l (S : vt_St), i + r = N → r < l → S.2.1 ≠ [] → YV S KI SH GI HE DE →
    (∀ KI SH GI HE DE, YV (vt_die (vt_pr w (vt_tb c w r (P + i) S))) KI SH GI HE DE → post (y_count, y_place, y_m, y_pos, y_wrong, y_constant, y_least, nI (vt_die (vt_pr w (vt_tb c w r (P + i) S))).1.length, nI (vt_die (vt_pr w (vt_tb c w r (P + i) S))).2.1.length, bb_i (vt_die (vt_pr w (vt_tb c w r (P + i) S))).2.2, y_sp, y_labels, y_active, y_fuel, y_outcome, y_trappedAt, y_result, y_used, y_waits, y_printed, y_bytes, y_there, y_types, y_typeSig, y_imports, y_functions, y_sig, y_what, y_typeAt, y_localsAt, y_globals, y_globalKind, y_globalFree, y_globalValue, y_entries, y_entriesAt, y_hasMemory, y_memory, y_nest, KI, SH, GI, HE, DE, y_stack, y_labelAt, y_labelHeight, y_labelGives, y_callModule, y_callFunction, y_callBack, y_callBase, y_callLabels, y_waiting, y_prints)) →
    wY_branchTable_32 post x1 (nI N) (nI w) l (nI i) y_count y_place y_m y_pos y_wrong y_constant y_least (nI S.1.length) (nI S.2.1.length) (bb_i S.2.2) y_sp y_labels y_active y_fuel y_outcome y_trappedAt y_result y_used y_waits y_printed y_bytes y_there y_types y_typeSig y_imports y_functions y_sig y_what y_typeAt y_localsAt y_globals y_globalKind y_globalFree y_globalValue y_entries y_entriesAt y_hasMemory y_memory y_nest KI SH GI HE DE y_stack y_labelAt y_labelHeight y_labelGives y_callModule y_callFunction y_callBack y_callBase y_callLabels y_waiting y_prints := by
  obtain ⟨hn, h140, hm, h3, hb, h256⟩ := id C
  intro r
  induction r with
  | zero =>
    intro i l S hi hl hF R h
    obtain ⟨l, rfl⟩ : ∃ j, l = j + 1 := ⟨l - 1, by omega⟩
    refine pk_le N i (fun _ => ?_) (fun z => absurd z (by omega))
    refine y_pullResult w hw hF R (fun R1 e1 => ?_)
    exact y_die (by rw [e1]; exact hF) R1 h
  | succ r ih =>
    intro i l S hi hl hF R h
    obtain ⟨l, rfl⟩ : ∃ j, l = j + 1 := ⟨l - 1, by omega⟩
    refine pk_le N i (fun z => absurd z (by omega)) (fun _ => ?_)
    have e : (x1 + 1) + nI i = nI (P + i) := by rw [hx, nI_add]
    refine eq_p (P := fun z => wpY_at _ _ z) e ?_
    refine yr_at hm h3 (by omega) (hb _ (by omega)) ?_
    refine y_wants (c (P + i)) (h256 _) hF R (fun R1 hw1 => ?_)
    rw [vt_tb] at h
    rw [show P + i + 1 = P + (i + 1) by omega] at h
    have hF1 : (vt_ws (c (P + i)) S).2.1 ≠ [] := hF
    refine pk_eq (vt_w (c (P + i)) S) w (fun z => nm_r (nI_1 i) ?_) (fun z => nm_r (nI_1 i) ?_)
    · rw [decide_eq_false (fun y => y z)] at h
      have e2 : vt_bad (vt_ws (c (P + i)) S) false = vt_ws (c (P + i)) S := by
        show (_, _, _ || false) = _
        rw [Bool.or_false]
      rw [e2] at h
      exact ih (i + 1) l _ (by omega) (by omega) hF1 R1 h
    · rw [decide_eq_true z] at h
      have := ih (i + 1) l (vt_bad (vt_ws (c (P + i)) S) true) (by omega) (by omega) hF1 R1 h
      rw [show (vt_bad (vt_ws (c (P + i)) S) true).2.2 = true from by show (_ || true) = true; rw [Bool.or_true]] at this
      exact this
theorem y_table {post : SY → Prop} (C : cy_ok y_count y_m y_bytes 2 c n) (h4 : c (p + 1) ≤ 4) (hp : p + 1 + c (p + 1) + 1 < n) (hF : S.2.1 ≠ []) (R : YV S KI SH GI HE DE)
    (h : ∀ KI SH GI HE DE, YV (vt_table c p S) KI SH GI HE DE → post (y_count, y_place, y_m, y_pos, y_wrong, y_constant, y_least, nI (vt_table c p S).1.length, nI (vt_table c p S).2.1.length, bb_i (vt_table c p S).2.2, y_sp, y_labels, y_active, y_fuel, y_outcome, y_trappedAt, y_result, y_used, y_waits, y_printed, y_bytes, y_there, y_types, y_typeSig, y_imports, y_functions, y_sig, y_what, y_typeAt, y_localsAt, y_globals, y_globalKind, y_globalFree, y_globalValue, y_entries, y_entriesAt, y_hasMemory, y_memory, y_nest, KI, SH, GI, HE, DE, y_stack, y_labelAt, y_labelHeight, y_labelGives, y_callModule, y_callFunction, y_callBack, y_callBase, y_callLabels, y_waiting, y_prints)) : wpY_branchTable post (y_count, y_place, y_m, y_pos, y_wrong, y_constant, y_least, nI S.1.length, nI S.2.1.length, bb_i S.2.2, y_sp, y_labels, y_active, y_fuel, y_outcome, y_trappedAt, y_result, y_used, y_waits, y_printed, y_bytes, y_there, y_types, y_typeSig, y_imports, y_functions, y_sig, y_what, y_typeAt, y_localsAt, y_globals, y_globalKind, y_globalFree, y_globalValue, y_entries, y_entriesAt, y_hasMemory, y_memory, y_nest, KI, SH, GI, HE, DE, y_stack, y_labelAt, y_labelHeight, y_labelGives, y_callModule, y_callFunction, y_callBack, y_callBase, y_callLabels, y_waiting, y_prints) (nI (p + 1)) := by
  obtain ⟨hn, h140, hm, h3, hb, h256⟩ := id C
  unfold wpY_branchTable
  refine y_pull 1 (by omega) hF R (fun R1 _ e1 => ?_)
  have hF1 : (vt_pl 1 S).2.1 ≠ [] := by rw [e1]; exact hF
  refine yr_at hm h3 (by omega) (hb _ (by omega)) ?_
  have e2 : (nI (p + 1) + nI (c (p + 1))) + 1 = nI (p + 1 + c (p + 1) + 1) := by rw [nI_add, nI_1]
  refine eq_p (P := fun z => wpY_at _ _ z) e2 ?_
  refine yr_at hm h3 (by omega) (hb _ (by omega)) ?_
  refine y_wants (c (p + 1 + c (p + 1) + 1)) (h256 _) hF1 R1 (fun R2 hw => ⟨c (p + 1) + 1, ?_⟩)
  exact y_tb C _ (c (p + 1)) (p + 2) hw h4 (by omega) (nI_1 (p + 1)) (c (p + 1)) 0 _ _ (Nat.zero_add _) (by omega) hF1 R2 h
theorem y_ps {post : SY → Prop} (t : Nat) (ht : ty_ok c t) : ∀ k l (S : vt_St) KI SH GI HE DE, k ≤ c t → k < l → S.2.1 ≠ [] → YV S KI SH GI HE DE →
    (∀ KI SH GI HE DE, YV (vt_gr (ty_r c t) (vt_ps c t k S)) KI SH GI HE DE → post (y_count, y_place, y_m, y_pos, y_wrong, y_constant, y_least, nI (vt_gr (ty_r c t) (vt_ps c t k S)).1.length, nI (vt_gr (ty_r c t) (vt_ps c t k S)).2.1.length, bb_i (vt_gr (ty_r c t) (vt_ps c t k S)).2.2, y_sp, y_labels, y_active, y_fuel, y_outcome, y_trappedAt, y_result, y_used, y_waits, y_printed, y_bytes, y_there, y_types, y_typeSig, y_imports, y_functions, y_sig, y_what, y_typeAt, y_localsAt, y_globals, y_globalKind, y_globalFree, y_globalValue, y_entries, y_entriesAt, y_hasMemory, y_memory, y_nest, KI, SH, GI, HE, DE, y_stack, y_labelAt, y_labelHeight, y_labelGives, y_callModule, y_callFunction, y_callBack, y_callBase, y_callLabels, y_waiting, y_prints)) →
    wY_checkCall_86 post (nI (sg c t)) l (nI k - 1) y_count y_place y_m y_pos y_wrong y_constant y_least (nI S.1.length) (nI S.2.1.length) (bb_i S.2.2) y_sp y_labels y_active y_fuel y_outcome y_trappedAt y_result y_used y_waits y_printed y_bytes y_there y_types y_typeSig y_imports y_functions y_sig y_what y_typeAt y_localsAt y_globals y_globalKind y_globalFree y_globalValue y_entries y_entriesAt y_hasMemory y_memory y_nest KI SH GI HE DE y_stack y_labelAt y_labelHeight y_labelGives y_callModule y_callFunction y_callBack y_callBase y_callLabels y_waiting y_prints := by
  have hs := sg_lt ht
  obtain ⟨n1, n2, n3⟩ := sg_np ht
  have h3 := ht.1
  intro k
  induction k with
  | zero =>
    intro l S KI SH GI HE DE hk hl hF R h
    obtain ⟨l, rfl⟩ : ∃ j, l = j + 1 := ⟨l - 1, by omega⟩
    refine br_t (by decide) ?_
    refine y_gift hs ?_
    rw [n2]
    exact y_giveResult _ (ty_r_le ht) R (fun KI SH GI HE DE a _ => h KI SH GI HE DE a)
  | succ k ih =>
    intro l S KI SH GI HE DE hk hl hF R h
    obtain ⟨l, rfl⟩ : ∃ j, l = j + 1 := ⟨l - 1, by omega⟩
    have e : nI (k + 1) - 1 = nI k := nI_pred k
    have kk := ht.2.1 k (by omega)
    rw [e]
    refine pk_lt k 0 (fun z => absurd z (by omega)) (fun _ => ?_)
    refine y_param hs (by omega) ?_
    rw [n3 k (by omega)]
    refine y_pull (c (t + 1 + k)) (by omega) hF R (fun R1 _ e1 => ?_)
    refine nm_r (show nI k + (-1) = nI k - 1 from by rw [Int32.sub_eq_add_neg]) ?_
    exact ih l (vt_pl (c (t + 1 + k)) S) KI SH GI HE DE (by omega) (by omega) (by rw [e1]; exact hF) R1 h
theorem y_call {post : SY → Prop} (mp : mp_ok c n) (W : yw_ok c n y_types y_typeSig y_functions y_sig y_localsAt y_globals y_globalKind y_globalFree y_hasMemory) (op x : Nat) (hop : op = 11 ∨ op = 12) (hx : x < 256) (hF : S.2.1 ≠ []) (R : YV S KI SH GI HE DE)
    (h : ∀ KI SH GI HE DE, YV (vt_call c n op x S) KI SH GI HE DE → post (y_count, y_place, y_m, y_pos, y_wrong, y_constant, y_least, nI (vt_call c n op x S).1.length, nI (vt_call c n op x S).2.1.length, bb_i (vt_call c n op x S).2.2, y_sp, y_labels, y_active, y_fuel, y_outcome, y_trappedAt, y_result, y_used, y_waits, y_printed, y_bytes, y_there, y_types, y_typeSig, y_imports, y_functions, y_sig, y_what, y_typeAt, y_localsAt, y_globals, y_globalKind, y_globalFree, y_globalValue, y_entries, y_entriesAt, y_hasMemory, y_memory, y_nest, KI, SH, GI, HE, DE, y_stack, y_labelAt, y_labelHeight, y_labelGives, y_callModule, y_callFunction, y_callBack, y_callBase, y_callLabels, y_waiting, y_prints)) : wpY_checkCall post (y_count, y_place, y_m, y_pos, y_wrong, y_constant, y_least, nI S.1.length, nI S.2.1.length, bb_i S.2.2, y_sp, y_labels, y_active, y_fuel, y_outcome, y_trappedAt, y_result, y_used, y_waits, y_printed, y_bytes, y_there, y_types, y_typeSig, y_imports, y_functions, y_sig, y_what, y_typeAt, y_localsAt, y_globals, y_globalKind, y_globalFree, y_globalValue, y_entries, y_entriesAt, y_hasMemory, y_memory, y_nest, KI, SH, GI, HE, DE, y_stack, y_labelAt, y_labelHeight, y_labelGives, y_callModule, y_callFunction, y_callBack, y_callBase, y_callLabels, y_waiting, y_prints) (nI op) (nI x) := by
  obtain ⟨w1, w2, w3, w4, w5, w6, w7, w8⟩ := W
  obtain ⟨m1, m2, m3, m4, m5, _⟩ := mp
  have w55n : cl_t c n op x = none → wY_checkCall_55 post (nI op) (-1) y_count y_place y_m y_pos y_wrong y_constant y_least (nI S.1.length) (nI S.2.1.length) (bb_i S.2.2) y_sp y_labels y_active y_fuel y_outcome y_trappedAt y_result y_used y_waits y_printed y_bytes y_there y_types y_typeSig y_imports y_functions y_sig y_what y_typeAt y_localsAt y_globals y_globalKind y_globalFree y_globalValue y_entries y_entriesAt y_hasMemory y_memory y_nest KI SH GI HE DE y_stack y_labelAt y_labelHeight y_labelGives y_callModule y_callFunction y_callBack y_callBase y_callLabels y_waiting y_prints := by
    intro z
    rw [vt_call, z] at h
    refine br_f (by decide) ?_
    have := h KI SH GI HE DE R
    rw [show (vt_bad S true).2.2 = true from by show (_ || true) = true; rw [Bool.or_true]] at this
    exact this
  have w55s : ∀ t, cl_t c n op x = some t → ty_ok c t → ∀ z, z = nI (sg c t) → wY_checkCall_55 post (nI op) z y_count y_place y_m y_pos y_wrong y_constant y_least (nI S.1.length) (nI S.2.1.length) (bb_i S.2.2) y_sp y_labels y_active y_fuel y_outcome y_trappedAt y_result y_used y_waits y_printed y_bytes y_there y_types y_typeSig y_imports y_functions y_sig y_what y_typeAt y_localsAt y_globals y_globalKind y_globalFree y_globalValue y_entries y_entriesAt y_hasMemory y_memory y_nest KI SH GI HE DE y_stack y_labelAt y_labelHeight y_labelGives y_callModule y_callFunction y_callBack y_callBase y_callLabels y_waiting y_prints := by
    intro t z ht s0 es
    subst es
    rw [vt_call, z] at h
    dsimp only at h
    have hs := sg_lt ht
    obtain ⟨n1, n2, n3⟩ := sg_np ht
    refine br_t (nI_pos' (by omega)) ?_
    have w78 : ∀ S1 : vt_St, S1.2.1 ≠ [] → YV S1 KI SH GI HE DE → (∀ KI SH GI HE DE, YV (vt_gr (ty_r c t) (vt_ps c t (c t) S1)) KI SH GI HE DE → post (y_count, y_place, y_m, y_pos, y_wrong, y_constant, y_least, nI (vt_gr (ty_r c t) (vt_ps c t (c t) S1)).1.length, nI (vt_gr (ty_r c t) (vt_ps c t (c t) S1)).2.1.length, bb_i (vt_gr (ty_r c t) (vt_ps c t (c t) S1)).2.2, y_sp, y_labels, y_active, y_fuel, y_outcome, y_trappedAt, y_result, y_used, y_waits, y_printed, y_bytes, y_there, y_types, y_typeSig, y_imports, y_functions, y_sig, y_what, y_typeAt, y_localsAt, y_globals, y_globalKind, y_globalFree, y_globalValue, y_entries, y_entriesAt, y_hasMemory, y_memory, y_nest, KI, SH, GI, HE, DE, y_stack, y_labelAt, y_labelHeight, y_labelGives, y_callModule, y_callFunction, y_callBack, y_callBase, y_callLabels, y_waiting, y_prints)) → wY_checkCall_78 post (nI (sg c t)) y_count y_place y_m y_pos y_wrong y_constant y_least (nI S1.1.length) (nI S1.2.1.length) (bb_i S1.2.2) y_sp y_labels y_active y_fuel y_outcome y_trappedAt y_result y_used y_waits y_printed y_bytes y_there y_types y_typeSig y_imports y_functions y_sig y_what y_typeAt y_localsAt y_globals y_globalKind y_globalFree y_globalValue y_entries y_entriesAt y_hasMemory y_memory y_nest KI SH GI HE DE y_stack y_labelAt y_labelHeight y_labelGives y_callModule y_callFunction y_callBack y_callBase y_callLabels y_waiting y_prints := by
      intro S1 hF1 R1 h1
      unfold wY_checkCall_78
      refine y_params hs ?_
      rw [n1]
      refine nm_e ⟨c t + 1, ?_⟩
      exact y_ps t ht (c t) _ S1 KI SH GI HE DE (Nat.le_refl _) (by omega) hF1 R1 h1
    rcases hop with rfl | rfl
    · rw [if_neg (by decide)] at h
      exact br_f (by decide) (w78 S hF R h)
    · rw [if_pos rfl] at h
      refine br_t rfl (y_pull 1 (by omega) hF R (fun R1 _ e1 => ?_))
      exact w78 _ (by rw [e1]; exact hF) R1 h
  rcases hop with rfl | rfl
  · refine br_t rfl (pk_le (m_I c n + m_F c n) x (fun z => ?_) (fun z => ?_) w3 rfl)
    · refine w55n ?_
      rw [cl_t, if_pos rfl, if_neg (by omega)]
    · have e14 : (14 : Int32) + nI x = nI (14 + x) := nI_add 14 x
      refine ⟨pk_in (14 + x) 21 (by omega) e14, ?_⟩
      have es : y_sig ((14 : Int32) + nI x).toNatClampNeg = sg_i c (c 0) (m_ty c n) (m_fa c n x) := by rw [pk_cl (14 + x) e14]; exact w4 x z
      refine eq_p (P := fun s => wY_checkCall_55 post _ s y_count y_place y_m y_pos y_wrong y_constant y_least (nI S.1.length) (nI S.2.1.length) (bb_i S.2.2) y_sp y_labels y_active y_fuel y_outcome y_trappedAt y_result y_used y_waits y_printed y_bytes y_there y_types y_typeSig y_imports y_functions y_sig y_what y_typeAt y_localsAt y_globals y_globalKind y_globalFree y_globalValue y_entries y_entriesAt y_hasMemory y_memory y_nest KI SH GI HE DE y_stack y_labelAt y_labelHeight y_labelGives y_callModule y_callFunction y_callBack y_callBase y_callLabels y_waiting y_prints) es ?_
      unfold sg_i
      by_cases z2 : c (m_fa c n x) < c 0
      · rw [if_pos z2]
        exact w55s _ (by rw [cl_t, if_pos rfl, if_pos ⟨z, z2⟩]) (m2 _ z2).1 _ rfl
      · rw [if_neg z2]
        exact w55n (by rw [cl_t, if_pos rfl, if_neg (fun y => z2 y.2)])
  · refine br_f (by decide) (pk_le (c 0) x (fun z => ?_) (fun z => ?_) w1 rfl)
    · refine w55n ?_
      rw [cl_t, if_neg (by decide), if_neg (by omega)]
    · have e8 : (8 : Int32) + nI x = nI (8 + x) := nI_add 8 x
      refine ⟨pk_in (8 + x) 12 (by omega) e8, ?_⟩
      have es : y_typeSig ((8 : Int32) + nI x).toNatClampNeg = nI (sg c (m_ty c n x)) := by rw [pk_cl (8 + x) e8]; exact w2 x z
      refine eq_p (P := fun s => wY_checkCall_55 post _ s y_count y_place y_m y_pos y_wrong y_constant y_least (nI S.1.length) (nI S.2.1.length) (bb_i S.2.2) y_sp y_labels y_active y_fuel y_outcome y_trappedAt y_result y_used y_waits y_printed y_bytes y_there y_types y_typeSig y_imports y_functions y_sig y_what y_typeAt y_localsAt y_globals y_globalKind y_globalFree y_globalValue y_entries y_entriesAt y_hasMemory y_memory y_nest KI SH GI HE DE y_stack y_labelAt y_labelHeight y_labelGives y_callModule y_callFunction y_callBack y_callBase y_callLabels y_waiting y_prints) es ?_
      exact w55s _ (by rw [cl_t, if_neg (by decide), if_pos z]) (m2 _ z).1 _ rfl
theorem y_sel {post : SY → Prop} (hF : S.2.1 ≠ []) (R : YV S KI SH GI HE DE)
    (h : ∀ KI SH GI HE DE, YV (vt_sel S) KI SH GI HE DE → post (y_count, y_place, y_m, y_pos, y_wrong, y_constant, y_least, nI (vt_sel S).1.length, nI (vt_sel S).2.1.length, bb_i (vt_sel S).2.2, y_sp, y_labels, y_active, y_fuel, y_outcome, y_trappedAt, y_result, y_used, y_waits, y_printed, y_bytes, y_there, y_types, y_typeSig, y_imports, y_functions, y_sig, y_what, y_typeAt, y_localsAt, y_globals, y_globalKind, y_globalFree, y_globalValue, y_entries, y_entriesAt, y_hasMemory, y_memory, y_nest, KI, SH, GI, HE, DE, y_stack, y_labelAt, y_labelHeight, y_labelGives, y_callModule, y_callFunction, y_callBack, y_callBase, y_callLabels, y_waiting, y_prints)) : wpY_checkSelect post (y_count, y_place, y_m, y_pos, y_wrong, y_constant, y_least, nI S.1.length, nI S.2.1.length, bb_i S.2.2, y_sp, y_labels, y_active, y_fuel, y_outcome, y_trappedAt, y_result, y_used, y_waits, y_printed, y_bytes, y_there, y_types, y_typeSig, y_imports, y_functions, y_sig, y_what, y_typeAt, y_localsAt, y_globals, y_globalKind, y_globalFree, y_globalValue, y_entries, y_entriesAt, y_hasMemory, y_memory, y_nest, KI, SH, GI, HE, DE, y_stack, y_labelAt, y_labelHeight, y_labelGives, y_callModule, y_callFunction, y_callBack, y_callBase, y_callLabels, y_waiting, y_prints) := by
  unfold wpY_checkSelect
  refine y_pull 1 (by omega) hF R (fun R1 _ e1 => ?_)
  have hF1 : (vt_pl 1 S).2.1 ≠ [] := by rw [e1]; exact hF
  refine y_pull 0 (by omega) hF1 R1 (fun R2 k2 e2 => ?_)
  have hF2 : (vt_pl 0 (vt_pl 1 S)).2.1 ≠ [] := by rw [e2]; exact hF1
  refine y_pull (vt_px 0 (vt_pl 1 S)) k2 hF2 R2 (fun R3 k3 e3 => ?_)
  unfold vt_sel at h
  refine pk_eq (vt_px 0 (vt_pl 1 S)) 0 (fun z => ?_) (fun z => ?_)
  · rw [if_pos z] at h
    unfold wY_checkSelect_28
    exact y_give _ k3 R3 (fun KI SH GI HE DE a _ => h KI SH GI HE DE a)
  · rw [if_neg z] at h
    unfold wY_checkSelect_28
    exact y_give _ k2 R3 (fun KI SH GI HE DE a _ => h KI SH GI HE DE a)
end
