theorem vb_f (S : vt_St) : vt_bad S false = S := by
  show (S.1, S.2.1, S.2.2 || false) = S
  rw [Bool.or_false]
theorem vb_t (S : vt_St) : (vt_bad S true).2.2 = true := by
  show (S.2.2 || true) = true
  rw [Bool.or_true]
section
variable {y_count y_place y_m y_pos y_wrong y_least y_top y_frames y_invalid y_sp y_labels y_active y_fuel y_outcome y_trappedAt y_used y_waits y_printed : Int32} {y_constant y_result : Int64} {y_bytes y_there y_types y_typeSig y_imports y_functions y_sig y_what y_typeAt y_localsAt y_globals y_globalKind y_globalFree y_entries y_entriesAt y_hasMemory y_memory y_nest y_kinds y_shape y_gives y_height y_dead y_labelAt y_labelHeight y_labelGives y_callModule y_callFunction y_callBack y_callBase y_callLabels y_waiting y_prints : Nat → Int32} {y_globalValue y_stack : Nat → Int64}
variable {KI SH GI HE DE : Nat → Int32} {S : vt_St} {c : Nat → Nat} {n p : Nat}
theorem y_b {Q : Int32 → Prop} (b : Bool) (h : Q (bb_i (vt_bad S b).2.2)) : (b = true → Q 1) ∧ (b = false → Q (bb_i S.2.2)) := by
  constructor
  · intro e; subst e; rw [vb_t] at h; exact h
  · intro e; subst e; rw [vb_f] at h; exact h
theorem y_variable {post : Int32 → SY → Prop} (C : cy_ok y_count y_m y_bytes 2 c n) (mp : mp_ok c n) (W : yw_ok c n y_types y_typeSig y_functions y_sig y_localsAt y_globals y_globalKind y_globalFree y_hasMemory) (f v : Nat) (hf : m_I c n ≤ f) (hf2 : f < m_I c n + m_F c n) (ht : c (m_fa c n f) < c 0) (hv : v < 256) (R : YV S KI SH GI HE DE)
    (h : YV (vt_bad S (decide (vk c n f v = 0))) KI SH GI HE DE → vk c n f v ≤ 2 → post (nI (vk c n f v)) (y_count, y_place, y_m, y_pos, y_wrong, y_constant, y_least, nI (vt_bad S (decide (vk c n f v = 0))).1.length, nI (vt_bad S (decide (vk c n f v = 0))).2.1.length, bb_i (vt_bad S (decide (vk c n f v = 0))).2.2, y_sp, y_labels, y_active, y_fuel, y_outcome, y_trappedAt, y_result, y_used, y_waits, y_printed, y_bytes, y_there, y_types, y_typeSig, y_imports, y_functions, y_sig, y_what, y_typeAt, y_localsAt, y_globals, y_globalKind, y_globalFree, y_globalValue, y_entries, y_entriesAt, y_hasMemory, y_memory, y_nest, KI, SH, GI, HE, DE, y_stack, y_labelAt, y_labelHeight, y_labelGives, y_callModule, y_callFunction, y_callBack, y_callBase, y_callLabels, y_waiting, y_prints)) : wpY_variable post (y_count, y_place, y_m, y_pos, y_wrong, y_constant, y_least, nI S.1.length, nI S.2.1.length, bb_i S.2.2, y_sp, y_labels, y_active, y_fuel, y_outcome, y_trappedAt, y_result, y_used, y_waits, y_printed, y_bytes, y_there, y_types, y_typeSig, y_imports, y_functions, y_sig, y_what, y_typeAt, y_localsAt, y_globals, y_globalKind, y_globalFree, y_globalValue, y_entries, y_entriesAt, y_hasMemory, y_memory, y_nest, KI, SH, GI, HE, DE, y_stack, y_labelAt, y_labelHeight, y_labelGives, y_callModule, y_callFunction, y_callBack, y_callBase, y_callLabels, y_waiting, y_prints) (nI f) (nI v) := by
  obtain ⟨w1, w2, w3, w4, w5, w6, w7, w8⟩ := W
  obtain ⟨m1, m2, m3, m4, m5, m6, _⟩ := mp
  obtain ⟨hn, h140, hm, h3, hb, h256⟩ := id C
  obtain ⟨f1, f2, f3⟩ := m6 f hf hf2
  obtain ⟨t1, t2⟩ := m2 _ ht
  unfold m_bo at f3
  have hfa := m5 f hf2
  have hs := sg_lt t1
  obtain ⟨n1, n2, n3⟩ := sg_np t1
  have t0 := t1.1
  have e14 : (14 : Int32) + nI f = nI (14 + f) := nI_add 14 f
  have es : y_sig ((14 : Int32) + nI f).toNatClampNeg = nI (sg c (m_ty c n (c (m_fa c n f)))) := by
    rw [pk_cl (14 + f) e14, w4 f hf2, sg_i, if_pos ht]
  have el : y_localsAt ((14 : Int32) + nI f).toNatClampNeg = nI (m_fa c n f + 1) := by rw [pk_cl (14 + f) e14]; exact w5 f hf hf2
  have hin : vp_in ((14 : Int32) + nI f) 21 := pk_in (14 + f) 21 (by omega) e14
  have R' : ∀ b, YV (vt_bad S b) KI SH GI HE DE := fun _ => R
  refine ⟨hin, ?_⟩
  refine eq_p (P := fun z => wpY_params _ z) es ?_
  refine y_params hs ?_
  rw [n1]
  refine pk_le (c (m_ty c n (c (m_fa c n f)))) v (fun z => ⟨hin, ?_⟩) (fun z => ⟨hin, ?_⟩)
  · refine eq_p (P := fun z => wpY_at _ _ z) el ?_
    refine yr_at hm h3 (by omega) (hb _ (by omega)) ?_
    have e2 : nI v - nI (c (m_ty c n (c (m_fa c n f)))) = nI (v - c (m_ty c n (c (m_fa c n f)))) := pk_sub z
    refine pk_lt (v - c (m_ty c n (c (m_fa c n f)))) (c (m_fa c n f + 1)) (fun z2 => ⟨hin, ?_⟩) (fun z2 => ?_) e2 rfl
    · have hvk : vk c n f v = c (m_fa c n f + 2 + (v - c (m_ty c n (c (m_fa c n f))))) := by rw [vk, if_neg (by omega), if_pos z2]
      have kk := f2 _ z2
      have e3 : ((y_localsAt ((14 : Int32) + nI f).toNatClampNeg + 1) + nI v) - nI (c (m_ty c n (c (m_fa c n f)))) = nI (m_fa c n f + 2 + (v - c (m_ty c n (c (m_fa c n f))))) := by
        rw [el, nI_1, nI_add, pk_sub (by omega)]
        congr 1; omega
      refine eq_p (P := fun z => wpY_at _ _ z) e3 ?_
      refine yr_at hm h3 (by omega) (hb _ (by omega)) ?_
      rw [hvk, decide_eq_false (by omega), vb_f] at h
      exact h R (by omega)
    · have hvk : vk c n f v = 0 := by rw [vk, if_neg (by omega), if_neg (by omega)]
      rw [hvk, decide_eq_true rfl] at h
      have h' := h (R' true) (by omega)
      rw [vb_t] at h'
      exact h'
  · have hvk : vk c n f v = c (m_ty c n (c (m_fa c n f)) + 1 + v) := by rw [vk, if_pos z]
    have kk := t1.2.1 v z
    refine eq_p (P := fun z => wpY_param _ z _) es ?_
    refine y_param hs (by omega) ?_
    rw [n3 v z]
    rw [hvk, decide_eq_false (by omega), vb_f] at h
    exact h R (by omega)
theorem y_var {post : SY → Prop} (C : cy_ok y_count y_m y_bytes 2 c n) (mp : mp_ok c n) (W : yw_ok c n y_types y_typeSig y_functions y_sig y_localsAt y_globals y_globalKind y_globalFree y_hasMemory) (f op x : Nat) (hf : m_I c n ≤ f) (hf2 : f < m_I c n + m_F c n) (ht : c (m_fa c n f) < c 0) (hop : 15 ≤ op) (hop2 : op < 20) (hx : x < 256) (hb : S.2.2 = false) (hF : S.2.1 ≠ []) (R : YV S KI SH GI HE DE)
    (h : ∀ KI SH GI HE DE, YV (vt_var c n f op x S) KI SH GI HE DE → post (y_count, y_place, y_m, y_pos, y_wrong, y_constant, y_least, nI (vt_var c n f op x S).1.length, nI (vt_var c n f op x S).2.1.length, bb_i (vt_var c n f op x S).2.2, y_sp, y_labels, y_active, y_fuel, y_outcome, y_trappedAt, y_result, y_used, y_waits, y_printed, y_bytes, y_there, y_types, y_typeSig, y_imports, y_functions, y_sig, y_what, y_typeAt, y_localsAt, y_globals, y_globalKind, y_globalFree, y_globalValue, y_entries, y_entriesAt, y_hasMemory, y_memory, y_nest, KI, SH, GI, HE, DE, y_stack, y_labelAt, y_labelHeight, y_labelGives, y_callModule, y_callFunction, y_callBack, y_callBase, y_callLabels, y_waiting, y_prints)) : wpY_checkVariable post (y_count, y_place, y_m, y_pos, y_wrong, y_constant, y_least, nI S.1.length, nI S.2.1.length, bb_i S.2.2, y_sp, y_labels, y_active, y_fuel, y_outcome, y_trappedAt, y_result, y_used, y_waits, y_printed, y_bytes, y_there, y_types, y_typeSig, y_imports, y_functions, y_sig, y_what, y_typeAt, y_localsAt, y_globals, y_globalKind, y_globalFree, y_globalValue, y_entries, y_entriesAt, y_hasMemory, y_memory, y_nest, KI, SH, GI, HE, DE, y_stack, y_labelAt, y_labelHeight, y_labelGives, y_callModule, y_callFunction, y_callBack, y_callBase, y_callLabels, y_waiting, y_prints) (nI f) (nI op) (nI x) := by
  obtain ⟨w1, w2, w3, w4, w5, w6, w7, w8⟩ := id W
  obtain ⟨m1, m2, m3, m4, m5, m6, m7, m8, _⟩ := id mp
  have w122 : ∀ (k : Nat) (S1 : vt_St), k ≤ 2 → YV S1 KI SH GI HE DE → (∀ KI SH GI HE DE, YV (vt_gv k S1) KI SH GI HE DE → post (y_count, y_place, y_m, y_pos, y_wrong, y_constant, y_least, nI (vt_gv k S1).1.length, nI (vt_gv k S1).2.1.length, bb_i (vt_gv k S1).2.2, y_sp, y_labels, y_active, y_fuel, y_outcome, y_trappedAt, y_result, y_used, y_waits, y_printed, y_bytes, y_there, y_types, y_typeSig, y_imports, y_functions, y_sig, y_what, y_typeAt, y_localsAt, y_globals, y_globalKind, y_globalFree, y_globalValue, y_entries, y_entriesAt, y_hasMemory, y_memory, y_nest, KI, SH, GI, HE, DE, y_stack, y_labelAt, y_labelHeight, y_labelGives, y_callModule, y_callFunction, y_callBack, y_callBase, y_callLabels, y_waiting, y_prints)) → wY_checkVariable_122 post (nI k) y_count y_place y_m y_pos y_wrong y_constant y_least (nI S1.1.length) (nI S1.2.1.length) (bb_i S1.2.2) y_sp y_labels y_active y_fuel y_outcome y_trappedAt y_result y_used y_waits y_printed y_bytes y_there y_types y_typeSig y_imports y_functions y_sig y_what y_typeAt y_localsAt y_globals y_globalKind y_globalFree y_globalValue y_entries y_entriesAt y_hasMemory y_memory y_nest KI SH GI HE DE y_stack y_labelAt y_labelHeight y_labelGives y_callModule y_callFunction y_callBack y_callBase y_callLabels y_waiting y_prints := by
    intro k S1 hk R1 h1
    unfold wY_checkVariable_122
    exact y_give k hk R1 (fun KI SH GI HE DE a _ => h1 KI SH GI HE DE a)
  refine pk_le 18 op (fun z => ?_) (fun z => ?_)
  · have e6 : (6 : Int32) + nI x = nI (6 + x) := nI_add 6 x
    rw [vt_var, if_neg (by omega), if_neg (by omega), if_neg (by omega)] at h
    refine pk_lt x (c (m_pG c n)) (fun z2 => ⟨pk_in (6 + x) 9 (by omega) e6, nm_r (show y_globalKind ((6 : Int32) + nI x).toNatClampNeg = nI (c (m_ga c n x)) from by rw [pk_cl (6 + x) e6]; exact (w7 x z2).1) ?_⟩) (fun z2 => ?_) rfl w6
    · rw [if_pos z2] at h
      obtain ⟨g1, g2, g3, g4, g5⟩ := m8 x z2
      by_cases z3 : op = 19
      · subst z3
        rw [if_neg (by decide)] at h
        have eF : y_globalFree ((6 : Int32) + nI x).toNatClampNeg = nI (c (m_ga c n x + 1)) := by rw [pk_cl (6 + x) e6]; exact (w7 x z2).2
        have k79 : ∀ b, decide (c (m_ga c n x + 1) = 0) = b → ∀ iv, iv = bb_i (vt_bad S b).2.2 → wY_checkVariable_79 post (nI 19) (nI (c (m_ga c n x))) y_count y_place y_m y_pos y_wrong y_constant y_least (nI S.1.length) (nI S.2.1.length) iv y_sp y_labels y_active y_fuel y_outcome y_trappedAt y_result y_used y_waits y_printed y_bytes y_there y_types y_typeSig y_imports y_functions y_sig y_what y_typeAt y_localsAt y_globals y_globalKind y_globalFree y_globalValue y_entries y_entriesAt y_hasMemory y_memory y_nest KI SH GI HE DE y_stack y_labelAt y_labelHeight y_labelGives y_callModule y_callFunction y_callBack y_callBase y_callLabels y_waiting y_prints := by
          intro b eb iv eiv
          subst eiv
          rw [eb] at h
          refine br_f (by decide) (br_f (by decide) (br_t rfl ?_))
          unfold wY_checkVariable_97
          refine y_pull (S := vt_bad S b) (c (m_ga c n x)) g2 hF R (fun R1 _ e1 => ?_)
          exact br_f (by decide) (br_f (by decide) (br_f (by decide) (h _ _ _ _ _ R1)))
        refine br_t rfl (br_t (by rw [hb]; rfl) ⟨pk_in (6 + x) 9 (by omega) e6, ?_⟩)
        refine pk_eq (c (m_ga c n x + 1)) 0 (fun z4 => k79 true (decide_eq_true z4) _ (by rw [vb_t]; rfl)) (fun z4 => k79 false (decide_eq_false z4) _ (by rw [vb_f])) eF rfl
      · have z4 : op = 18 := by omega
        subst z4
        rw [if_pos rfl] at h
        refine br_f (by decide) (br_f (by decide) (br_f (by decide) (br_f (by decide) (br_f (by decide) (br_f (by decide) (br_t rfl ?_))))))
        exact w122 _ S g2 R h
    · rw [if_neg (by omega)] at h
      have e1 : (vt_bad S true).2.2 = true := vb_t S
      by_cases z3 : op = 19
      · subst z3
        rw [if_neg (by decide)] at h
        refine br_t rfl (br_f (by decide) (br_f (by decide) (br_f (by decide) (br_t rfl ?_))))
        unfold wY_checkVariable_97
        have := y_pull (S := vt_bad S true) (post := fun r u => wY_checkVariable_104 post (nI 19) 0 (gy_count u) (gy_place u) (gy_m u) (gy_pos u) (gy_wrong u) (gy_constant u) (gy_least u) (gy_top u) (gy_frames u) (gy_invalid u) (gy_sp u) (gy_labels u) (gy_active u) (gy_fuel u) (gy_outcome u) (gy_trappedAt u) (gy_result u) (gy_used u) (gy_waits u) (gy_printed u) (gy_bytes u) (gy_there u) (gy_types u) (gy_typeSig u) (gy_imports u) (gy_functions u) (gy_sig u) (gy_what u) (gy_typeAt u) (gy_localsAt u) (gy_globals u) (gy_globalKind u) (gy_globalFree u) (gy_globalValue u) (gy_entries u) (gy_entriesAt u) (gy_hasMemory u) (gy_memory u) (gy_nest u) (gy_kinds u) (gy_shape u) (gy_gives u) (gy_height u) (gy_dead u) (gy_stack u) (gy_labelAt u) (gy_labelHeight u) (gy_labelGives u) (gy_callModule u) (gy_callFunction u) (gy_callBack u) (gy_callBase u) (gy_callLabels u) (gy_waiting u) (gy_prints u)) (y_count := y_count) (y_place := y_place) 0 (by omega) hF R (fun R1 _ e2 => br_f (by decide) (br_f (by decide) (br_f (by decide) (h _ _ _ _ _ R1))))
        rw [e1] at this
        exact this
      · have z4 : op = 18 := by omega
        subst z4
        rw [if_pos rfl] at h
        refine br_f (by decide) (br_f (by decide) (br_f (by decide) (br_f (by decide) (br_f (by decide) (br_f (by decide) (br_t rfl ?_))))))
        have := w122 0 (vt_bad S true) (by omega) R h
        rw [e1] at this
        exact this
  · unfold wpY_checkVariable at *
    refine y_variable C mp W f x hf hf2 ht hx R (fun R1 hk => ?_)
    refine pk_eq op 19 (fun y => absurd y (by omega)) (fun _ => ?_)
    rw [vt_var] at h
    by_cases z15 : op = 15
    · subst z15
      rw [if_pos rfl] at h
      refine br_f (by decide) (br_f (by decide) (br_f (by decide) (br_t rfl ?_)))
      exact w122 _ _ hk R1 h
    · rw [if_neg z15] at h
      by_cases z16 : op = 16
      · subst z16
        rw [if_pos rfl] at h
        refine br_t rfl ?_
        unfold wY_checkVariable_97
        exact y_pull _ hk hF R1 (fun R2 _ _ => br_f (by decide) (br_f (by decide) (br_f (by decide) (h _ _ _ _ _ R2))))
      · have z17 : op = 17 := by omega
        subst z17
        rw [if_neg (by decide), if_pos rfl] at h
        refine br_f (by decide) (br_t rfl ?_)
        unfold wY_checkVariable_97
        refine y_pull _ hk hF R1 (fun R2 _ _ => br_f (by decide) (br_t rfl ?_))
        exact w122 _ _ hk R2 h
end
