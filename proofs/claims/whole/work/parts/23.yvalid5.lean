theorem fk_pl (k : Nat) (S : vt_St) : (vt_pl k S).2.1 = S.2.1 := by unfold vt_pl; split <;> rfl
theorem fk_gv (k : Nat) (S : vt_St) : (vt_gv k S).2.1 = S.2.1 := by unfold vt_gv; split <;> rfl
theorem fk_pr (k : Nat) (S : vt_St) : (vt_pr k S).2.1 = S.2.1 := by unfold vt_pr; split; rfl; exact fk_pl k S
theorem fk_gr (k : Nat) (S : vt_St) : (vt_gr k S).2.1 = S.2.1 := by unfold vt_gr; split; rfl; exact fk_gv k S
theorem fk_ws (d : Nat) (S : vt_St) : (vt_ws d S).2.1 = S.2.1 := rfl
theorem fk_bad (S : vt_St) (b : Bool) : (vt_bad S b).2.1 = S.2.1 := rfl
theorem fk_ps (c : Nat → Nat) (t : Nat) : ∀ k S, (vt_ps c t k S).2.1 = S.2.1 := by
  intro k
  induction k with
  | zero => intro S; rfl
  | succ k ih => intro S; rw [vt_ps, ih, fk_pl]
theorem fk_tb (c : Nat → Nat) (w : Nat) : ∀ r p S, (vt_tb c w r p S).2.1 = S.2.1 := by
  intro r
  induction r with
  | zero => intro p S; rfl
  | succ r ih => intro p S; rw [vt_tb, ih, fk_bad, fk_ws]
theorem fk_call (c : Nat → Nat) (n op x : Nat) (S : vt_St) : (vt_call c n op x S).2.1 = S.2.1 := by
  unfold vt_call
  split
  · rfl
  · rw [fk_gr, fk_ps]; split; exact fk_pl 1 S; rfl
theorem fk_var (c : Nat → Nat) (n f op x : Nat) (S : vt_St) : (vt_var c n f op x S).2.1 = S.2.1 := by
  unfold vt_var
  repeat' split
  all_goals simp only [fk_gv, fk_pl, fk_bad]
theorem fk_mem (c : Nat → Nat) (n op : Nat) (S : vt_St) : (vt_mem c n op S).2.1 = S.2.1 := by
  unfold vt_mem
  split
  · exact fk_gv _ _
  · split
    · simp only [fk_gv, fk_pl, fk_bad]
    · simp only [fk_gv, fk_pl, fk_bad]
theorem fk_num (op : Nat) (S : vt_St) : (vt_num op S).2.1 = S.2.1 := by
  unfold vt_num
  rw [fk_gv]
  split <;> simp only [fk_pl]
theorem fk_sel (S : vt_St) : (vt_sel S).2.1 = S.2.1 := by
  unfold vt_sel
  simp only [fk_gv, fk_pl]
theorem fk_die {S : vt_St} (h : S.2.1 ≠ []) : (vt_die S).2.1.map (·.1) = S.2.1.map (·.1) := by
  obtain ⟨K, F, b⟩ := S
  cases F with
  | nil => exact absurd rfl h
  | cons x F => rfl
def cod (c : Nat → Nat) (p : Nat) (T : List Nat) : List Nat := if 2 ≤ c p ∧ c p ≤ 4 then c p :: T else if c p = 5 then 5 :: T.tail else if c p = 6 then T.tail else T
theorem v_codes {c : Nat → Nat} {n f p : Nat} {S : vt_St} (hF : S.2.1 ≠ []) (h : (v_st c n f p S).2.2 = false) : (v_st c n f p S).2.1.map (·.1) = cod c p (S.2.1.map (·.1)) := by
  unfold v_st at h ⊢
  unfold cod
  by_cases h0 : c p = 0
  · rw [if_pos h0, if_neg (by omega), if_neg (by omega), if_neg (by omega)]; exact fk_die hF
  rw [if_neg h0] at h ⊢
  by_cases h1 : c p = 1
  · rw [if_pos h1, if_neg (by omega), if_neg (by omega), if_neg (by omega)]
  rw [if_neg h1] at h ⊢
  by_cases h2 : c p = 2 ∨ c p = 3
  · rw [if_pos h2] at h ⊢
    rw [if_pos (by omega)]
    unfold vt_open at h ⊢
    by_cases h8 : S.2.1.length = 8
    · rw [if_pos h8] at h; exact ff_t h.symm
    · rw [if_neg h8]; rfl
  rw [if_neg h2] at h ⊢
  by_cases h4 : c p = 4
  · rw [if_pos h4] at h ⊢
    rw [if_pos (by omega)]
    unfold vt_open at h ⊢
    by_cases h8 : (vt_pl 1 S).2.1.length = 8
    · rw [if_pos h8] at h; exact ff_t h.symm
    · rw [if_neg h8, fk_pl, h4]; rfl
  rw [if_neg h4] at h ⊢
  by_cases h5 : c p = 5 ∨ c p = 6
  · rw [if_pos h5] at h ⊢
    rw [if_neg (by omega)]
    obtain ⟨K, F, b⟩ := S
    cases F with
    | nil => exact absurd rfl hF
    | cons x F =>
      unfold vt_close
      by_cases z : c p = 5
      · rw [if_pos z, if_pos z]; rfl
      · have h6 : c p = 6 := by omega
        simp only [if_neg z, if_pos h6]
        by_cases hT : F = []
        · subst hT; rfl
        · rw [if_neg (by exact hT), fk_gr]; rfl
  rw [if_neg h5] at h ⊢
  rw [if_neg (show ¬ (2 ≤ c p ∧ c p ≤ 4) by omega), if_neg (show ¬ c p = 5 by omega), if_neg (show ¬ c p = 6 by omega)]
  have dd : ∀ S' : vt_St, S'.2.1 = S.2.1 → (vt_die S').2.1.map (·.1) = S.2.1.map (·.1) := by
    intro S' e
    rw [fk_die (by rw [e]; exact hF), e]
  repeat' split
  · exact dd _ (by rw [fk_pr, fk_ws])
  · rw [fk_gr, fk_pr, fk_ws, fk_pl]
  · exact dd _ (by rw [fk_pr, fk_tb, fk_ws, fk_pl])
  · exact dd _ (by rw [fk_pr])
  · rw [fk_call]
  · rw [fk_pl]
  · rw [fk_sel]
  · rw [fk_var]
  · rw [fk_mem]
  · rw [fk_num]
theorem iw_of {c : Nat → Nat} {n p : Nat} (h : (rd_R c n (c p) (true, p + 1)).1 = true) (hp : p + 1 ≤ n) :
    (2 ≤ c p ∧ c p ≤ 4 → c (p + 1) ≤ 2) ∧ (c p = 9 → c (p + 1) ≤ 4 ∧ p + 1 + c (p + 1) + 1 < n) ∧ (rd_ho (c p) → p + 1 < n) := by
  unfold rd_R at h
  refine ⟨fun z => ?_, fun z => ?_, fun z => ?_⟩
  · rw [if_pos z] at h
    exact (rd_tk_ok h).2.2.2.2.1
  · rw [if_neg (by omega), if_pos z] at h
    obtain ⟨a1, a2, a3, a4⟩ := rd_n_ok _ _ h
    obtain ⟨b1, b2, b3, b4, b5, b6⟩ := rd_tk_ok a1
    rw [b2, b3] at a4
    dsimp only at a4 b5 b6
    exact ⟨b5, by have := a4 (by omega); omega⟩
  · by_cases z2 : 2 ≤ c p ∧ c p ≤ 4
    · rw [if_pos z2] at h
      exact (rd_tk_ok h).2.2.2.2.2
    · rw [if_neg z2, if_neg (by omega), if_neg (by omega), if_neg (by omega), if_pos z] at h
      exact (rd_tk_ok h).2.2.2.2.2
section
variable {y_count y_place y_m y_pos y_wrong y_least y_top y_frames y_invalid y_sp y_labels y_active y_fuel y_outcome y_trappedAt y_used y_waits y_printed : Int32} {y_constant y_result : Int64} {y_bytes y_there y_types y_typeSig y_imports y_functions y_sig y_what y_typeAt y_localsAt y_globals y_globalKind y_globalFree y_entries y_entriesAt y_hasMemory y_memory y_nest y_kinds y_shape y_gives y_height y_dead y_labelAt y_labelHeight y_labelGives y_callModule y_callFunction y_callBack y_callBase y_callLabels y_waiting y_prints : Nat → Int32} {y_globalValue y_stack : Nat → Int64}
variable {c : Nat → Nat} {n : Nat}
theorem y_val_l {post : Int32 → SY → Prop} {P : Nat → Nat} (C : cy_ok y_count y_m y_bytes 2 c n) (mp : mp_ok c n) (W : yw_ok c n y_types y_typeSig y_functions y_sig y_localsAt y_globals y_globalKind y_globalFree y_hasMemory) (f : Nat) (hf : m_I c n ≤ f) (hf2 : f < m_I c n + m_F c n) (ht : c (m_fa c n f) < c 0) :
    ∀ k p l (S : vt_St) (KI SH GI HE DE : Nat → Int32) (kk : Int64), ib c n P k p (S.2.1.map (·.1)) → S.2.1 ≠ [] → S.2.2 = false → YV S KI SH GI HE DE → k < l →
    (∀ a k' tp fr iv KI SH GI HE DE, post (nI ((v_go c n f k p S).getD 1000)) (y_count, y_place, y_m, a, bb_w true, k', y_least, tp, fr, iv, y_sp, y_labels, y_active, y_fuel, y_outcome, y_trappedAt, y_result, y_used, y_waits, y_printed, y_bytes, y_there, y_types, y_typeSig, y_imports, y_functions, y_sig, y_what, y_typeAt, y_localsAt, y_globals, y_globalKind, y_globalFree, y_globalValue, y_entries, y_entriesAt, y_hasMemory, y_memory, y_nest, KI, SH, GI, HE, DE, y_stack, y_labelAt, y_labelHeight, y_labelGives, y_callModule, y_callFunction, y_callBack, y_callBase, y_callLabels, y_waiting, y_prints)) →
    wY_validate_63 post (nI f) l y_count y_place y_m (nI p) (bb_w true) kk y_least (nI S.1.length) (nI S.2.1.length) (bb_i S.2.2) y_sp y_labels y_active y_fuel y_outcome y_trappedAt y_result y_used y_waits y_printed y_bytes y_there y_types y_typeSig y_imports y_functions y_sig y_what y_typeAt y_localsAt y_globals y_globalKind y_globalFree y_globalValue y_entries y_entriesAt y_hasMemory y_memory y_nest KI SH GI HE DE y_stack y_labelAt y_labelHeight y_labelGives y_callModule y_callFunction y_callBack y_callBase y_callLabels y_waiting y_prints := by
  obtain ⟨hn, h140, hm, h3, hbb, h256⟩ := id C
  intro k
  induction k with
  | zero => intro p l S KI SH GI HE DE kk hib; exact hib.elim
  | succ k ih =>
    intro p l S KI SH GI HE DE kk hib hF hb R hl h
    obtain ⟨l, rfl⟩ : ∃ j, l = j + 1 := ⟨l - 1, by omega⟩
    obtain ⟨i1, i2, i3, i4, i5, i6, i7⟩ := hib
    obtain ⟨x1, x2, x3⟩ := iw_of (by rw [i3]) i1
    have hlen : 0 < S.2.1.length := List.length_pos_iff.mpr hF
    have hsz : S.2.1.length ≤ 8 := R.2.2.2.1
    refine pk_le S.2.1.length 0 (fun z => absurd z (by omega)) (fun _ => nm_r (nI_1 p) ?_)
    refine yr_at hm h3 (by omega) (hbb p i1) ?_
    rw [v_go, if_neg hF] at h
    have w126 : ∀ x, x < 256 → (rd_ho (c p) → x = c (p + 1)) → wY_validate_126 post (wY_validate_63 post (nI f) l) (nI f) (nI p) (nI (c p)) (nI x) y_count y_place y_m (nI (p + 1)) (bb_w true) kk y_least (nI S.1.length) (nI S.2.1.length) (bb_i S.2.2) y_sp y_labels y_active y_fuel y_outcome y_trappedAt y_result y_used y_waits y_printed y_bytes y_there y_types y_typeSig y_imports y_functions y_sig y_what y_typeAt y_localsAt y_globals y_globalKind y_globalFree y_globalValue y_entries y_entriesAt y_hasMemory y_memory y_nest KI SH GI HE DE y_stack y_labelAt y_labelHeight y_labelGives y_callModule y_callFunction y_callBack y_callBase y_callLabels y_waiting y_prints := by
      intro x hx hxo
      unfold wY_validate_126
      refine y_check C mp W f x hf hf2 ht i2 hxo hx x1 x2 hb hF R (fun KI SH GI HE DE R1 => ?_)
      cases hbad : (v_st c n f p S).2.2 with
      | true =>
        refine br_f (by decide) ?_
        rw [if_pos hbad] at h
        exact h _ _ _ _ _ _ _ _ _ _
      | false =>
        refine br_t rfl ?_
        rw [if_neg (by rw [hbad]; simp)] at h
        refine yr_rest C (c p) (h256 p) (true, p + 1) (by dsimp only; omega) (fun k' _ _ => ?_)
        rw [i3]
        dsimp only
        have hcod := v_codes hF hbad
        by_cases hend : (v_st c n f p S).2.1 = []
        · obtain ⟨l, rfl⟩ : ∃ j, l = j + 1 := ⟨l - 1, by omega⟩
          refine br_t (by rw [hend]; decide) ?_
          have e : v_go c n f k (nx c p) (v_st c n f p S) = none := by
            cases k with
            | zero => rfl
            | succ k => rw [v_go, if_pos hend]
          rw [e] at h
          exact h _ _ _ _ _ _ _ _ _ _
        · have hib' : ib c n P k (nx c p) ((v_st c n f p S).2.1.map (·.1)) := by
            rw [hcod]
            unfold cod
            by_cases ho : 2 ≤ c p ∧ c p ≤ 4
            · rw [if_pos ho] at i7 ⊢; exact i7
            · rw [if_neg ho] at i7 ⊢
              by_cases h5 : c p = 5
              · rw [if_pos h5] at i7 ⊢; exact i7.2
              · rw [if_neg h5] at i7 ⊢
                by_cases h6 : c p = 6
                · rw [if_pos h6] at i7 ⊢
                  rcases i7 with z | z
                  · exfalso
                    apply hend
                    rw [cod, if_neg ho, if_neg h5, if_pos h6, z] at hcod
                    exact List.map_eq_nil_iff.mp hcod
                  · exact z
                · rw [if_neg h6] at i7 ⊢; exact i7
          have hh := ih (nx c p) l (v_st c n f p S) KI SH GI HE DE k' hib' hend hbad R1 (by omega) h
          rw [hbad] at hh
          exact hh
    refine pk_eq (c p) 9 (fun z => w126 0 (by omega) (fun y => absurd y (by omega))) (fun z => ?_) rfl rfl (by have := h256 p; omega)
    refine pk_le n (p + 1) (fun z2 => ?_) (fun z2 => ?_) hn rfl
    · unfold wY_validate_123
      refine yr_at hm h3 (by omega) (hbb p i1) ?_
      exact w126 (c p) (h256 _) (fun y => absurd (x3 y) (by omega))
    · unfold wY_validate_123
      refine yr_at hm h3 (by omega) (hbb _ z2) ?_
      exact w126 (c (p + 1)) (h256 _) (fun _ => rfl)
theorem y_validate {post : Int32 → SY → Prop} {P : Nat → Nat} {kk : Int64} {a : Int32} {KI SH GI HE DE : Nat → Int32} (C : cy_ok y_count y_m y_bytes 2 c n) (mp : mp_ok c n) (W : yw_ok c n y_types y_typeSig y_functions y_sig y_localsAt y_globals y_globalKind y_globalFree y_hasMemory) (f : Nat) (hf : m_I c n ≤ f) (hf2 : f < m_I c n + m_F c n) (ht : c (m_fa c n f) < c 0) (k : Nat) (hib : ib c n P k (m_bo c n f) [0])
    (h : ∀ a k' tp fr iv KI SH GI HE DE, post (nI ((v_go c n f k (m_bo c n f) (v_0 c n f)).getD 1000)) (y_count, y_place, y_m, a, bb_w true, k', y_least, tp, fr, iv, y_sp, y_labels, y_active, y_fuel, y_outcome, y_trappedAt, y_result, y_used, y_waits, y_printed, y_bytes, y_there, y_types, y_typeSig, y_imports, y_functions, y_sig, y_what, y_typeAt, y_localsAt, y_globals, y_globalKind, y_globalFree, y_globalValue, y_entries, y_entriesAt, y_hasMemory, y_memory, y_nest, KI, SH, GI, HE, DE, y_stack, y_labelAt, y_labelHeight, y_labelGives, y_callModule, y_callFunction, y_callBack, y_callBase, y_callLabels, y_waiting, y_prints)) :
    wpY_validate post (y_count, y_place, y_m, a, bb_w true, kk, y_least, y_top, y_frames, y_invalid, y_sp, y_labels, y_active, y_fuel, y_outcome, y_trappedAt, y_result, y_used, y_waits, y_printed, y_bytes, y_there, y_types, y_typeSig, y_imports, y_functions, y_sig, y_what, y_typeAt, y_localsAt, y_globals, y_globalKind, y_globalFree, y_globalValue, y_entries, y_entriesAt, y_hasMemory, y_memory, y_nest, KI, SH, GI, HE, DE, y_stack, y_labelAt, y_labelHeight, y_labelGives, y_callModule, y_callFunction, y_callBack, y_callBase, y_callLabels, y_waiting, y_prints) (nI f) := by
  obtain ⟨w1, w2, w3, w4, w5, w6, w7, w8⟩ := id W
  obtain ⟨m1, m2, m3, m4, m5, m6, _⟩ := id mp
  obtain ⟨hn, h140, hm, h3, hbb, h256⟩ := id C
  have hfa := m5 f hf2
  obtain ⟨f1, f2, f3⟩ := m6 f hf hf2
  obtain ⟨t1, t2⟩ := m2 _ ht
  have hs := sg_lt t1
  obtain ⟨n1, n2, n3⟩ := sg_np t1
  have e14 : (14 : Int32) + nI f = nI (14 + f) := nI_add 14 f
  have es : y_sig ((14 : Int32) + nI f).toNatClampNeg = nI (sg c (m_ty c n (c (m_fa c n f)))) := by
    rw [pk_cl (14 + f) e14, w4 f hf2, sg_i, if_pos ht]
  have el : y_localsAt ((14 : Int32) + nI f).toNatClampNeg = nI (m_fa c n f + 1) := by rw [pk_cl (14 + f) e14]; exact w5 f hf hf2
  have hin : vp_in ((14 : Int32) + nI f) 21 := pk_in (14 + f) 21 (by omega) e14
  refine ⟨hin, hin, ?_⟩
  refine eq_p (P := fun z => wpY_at _ _ z) el ?_
  refine yr_at hm h3 (by omega) (hbb _ (by omega)) ?_
  refine nm_r (show (y_localsAt ((14 : Int32) + nI f).toNatClampNeg + 1) + nI (c (m_fa c n f + 1)) = nI (m_bo c n f) from by rw [el, nI_1, nI_add]; rfl) ⟨hin, ?_⟩
  refine eq_p (P := fun z => wpY_gift _ z) es ?_
  refine y_gift hs ?_
  rw [n2]
  refine y_open (S := ([], [], false)) 0 2 (ty_r c (m_ty c n (c (m_fa c n f)))) (m_bo c n f) rfl (by omega) (ty_r_le t1) ⟨trivial, trivial, by simp, by simp, fun _ hk => absurd hk (by simp), trivial⟩ (fun KI SH GI HE DE R => ⟨k + 1, ?_⟩)
  exact y_val_l C mp W f hf hf2 ht k (m_bo c n f) (k + 1) (v_0 c n f) KI SH GI HE DE kk hib (by simp [v_0]) rfl R (by omega) h
end
