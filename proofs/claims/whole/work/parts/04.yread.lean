def cy_ok (cnt ym : Int32) (by_ : Nat → Int32) (m : Nat) (c : Nat → Nat) (n : Nat) : Prop :=
  cnt = nI n ∧ n ≤ 140 ∧ ym = nI m ∧ m < 3 ∧ (∀ i, i < n → by_ (140 * m + i) = nI (c i)) ∧ ∀ i, c i < 256
theorem nr_s {k : Nat} (h : k < 32768) : vp_nar .short (nI k).toInt16.toInt32 = nI k := by
  rw [pk_vs]
  exact lg_i2s_small (by rw [nI_toInt (by omega)]; omega) (by rw [nI_toInt (by omega)]; omega)
theorem nr_s' {k : Nat} (h : k < 32768) : vp_nar .short (nI k) = nI k := by
  rw [vp_nar_short]
  exact lg_i2s_small (by rw [nI_toInt (by omega)]; omega) (by rw [nI_toInt (by omega)]; omega)
theorem nr_b {k : Nat} (h : k < 128) : vp_nar .byte (nI k).toInt8.toInt32 = nI k := by
  rw [pk_vb]
  exact lg_i2b_small (by rw [nI_toInt (by omega)]; omega) (by rw [nI_toInt (by omega)]; omega)
def cv_st (x : Int64) (i b : Nat) : Int64 := x ||| (((nI b &&& 127).toInt64) <<< ((nI (7 * i)).toInt64 &&& 63))
def cv_fin (kind : Nat) (x : Int64) (i b : Nat) : Int64 :=
  if kind = 1 then (if 7 * i < 64 ∧ ¬ (nI b &&& 64) = 0 then x ||| ((-1 : Int64) <<< ((nI (7 * i)).toInt64 &&& 63)) else x).toInt32.toInt64
  else (if 7 * i < 64 ∧ ¬ (nI b &&& 64) = 0 then x ||| ((-1 : Int64) <<< ((nI (7 * i)).toInt64 &&& 63)) else x)
def cv (c : Nat → Nat) (kind : Nat) : Nat → Nat → Int64 → Nat → Int64
  | 0, _, x, _ => x
  | r + 1, p, x, i => if 127 < c p then cv c kind r (p + 1) (cv_st x i (c p)) (i + 1) else cv_fin kind (cv_st x i (c p)) (i + 1) (c p)
section
variable {y_count y_place y_m y_pos y_wrong y_least y_top y_frames y_invalid y_sp y_labels y_active y_fuel y_outcome y_trappedAt y_used y_waits y_printed : Int32} {y_constant y_result : Int64} {y_bytes y_there y_types y_typeSig y_imports y_functions y_sig y_what y_typeAt y_localsAt y_globals y_globalKind y_globalFree y_entries y_entriesAt y_hasMemory y_memory y_nest y_kinds y_shape y_gives y_height y_dead y_labelAt y_labelHeight y_labelGives y_callModule y_callFunction y_callBack y_callBase y_callLabels y_waiting y_prints : Nat → Int32} {y_globalValue y_stack : Nat → Int64}
variable {m : Nat} {c : Nat → Nat} {n p : Nat} {k : Int64}
theorem yr_at {post : Int32 → Prop} (hm : y_m = nI m) (h3 : m < 3) (hp : p < 140) (hb : y_bytes (140 * m + p) = nI (c p)) (h : post (nI (c p))) : wpY_at post (y_count, y_place, y_m, y_pos, y_wrong, y_constant, y_least, y_top, y_frames, y_invalid, y_sp, y_labels, y_active, y_fuel, y_outcome, y_trappedAt, y_result, y_used, y_waits, y_printed, y_bytes, y_there, y_types, y_typeSig, y_imports, y_functions, y_sig, y_what, y_typeAt, y_localsAt, y_globals, y_globalKind, y_globalFree, y_globalValue, y_entries, y_entriesAt, y_hasMemory, y_memory, y_nest, y_kinds, y_shape, y_gives, y_height, y_dead, y_stack, y_labelAt, y_labelHeight, y_labelGives, y_callModule, y_callFunction, y_callBack, y_callBase, y_callLabels, y_waiting, y_prints) (nI p) := by
  have e : 140 * y_m + nI p = nI (140 * m + p) := by rw [hm, show (140 : Int32) = nI 140 from rfl, pk_mul, nI_add]
  refine ⟨pk_in (140 * m + p) 420 (by omega) e, ?_⟩
  have e2 : y_bytes (140 * y_m + nI p).toNatClampNeg = nI (c p) := by rw [pk_cl (140 * m + p) e]; exact hb
  exact eq_p (P := post) e2 h
theorem yr_take {post : Int32 → SY → Prop} (C : cy_ok y_count y_m y_bytes m c n) (q : Bool × Nat) (hq : q.2 ≤ n) (lo hi : Nat) (hl : lo < 256) (hh : hi < 256)
    (h : post (nI (rd_tv c n lo hi q)) (y_count, y_place, y_m, nI (rd_tk c n lo hi q).2, bb_w (rd_tk c n lo hi q).1, k, y_least, y_top, y_frames, y_invalid, y_sp, y_labels, y_active, y_fuel, y_outcome, y_trappedAt, y_result, y_used, y_waits, y_printed, y_bytes, y_there, y_types, y_typeSig, y_imports, y_functions, y_sig, y_what, y_typeAt, y_localsAt, y_globals, y_globalKind, y_globalFree, y_globalValue, y_entries, y_entriesAt, y_hasMemory, y_memory, y_nest, y_kinds, y_shape, y_gives, y_height, y_dead, y_stack, y_labelAt, y_labelHeight, y_labelGives, y_callModule, y_callFunction, y_callBack, y_callBase, y_callLabels, y_waiting, y_prints)) : wpY_take post (y_count, y_place, y_m, nI q.2, bb_w q.1, k, y_least, y_top, y_frames, y_invalid, y_sp, y_labels, y_active, y_fuel, y_outcome, y_trappedAt, y_result, y_used, y_waits, y_printed, y_bytes, y_there, y_types, y_typeSig, y_imports, y_functions, y_sig, y_what, y_typeAt, y_localsAt, y_globals, y_globalKind, y_globalFree, y_globalValue, y_entries, y_entriesAt, y_hasMemory, y_memory, y_nest, y_kinds, y_shape, y_gives, y_height, y_dead, y_stack, y_labelAt, y_labelHeight, y_labelGives, y_callModule, y_callFunction, y_callBack, y_callBase, y_callLabels, y_waiting, y_prints) (nI lo) (nI hi) := by
  obtain ⟨hn, h140, hm, h3, hb, h256⟩ := C
  obtain ⟨b, p⟩ := q
  dsimp only at hq
  have hcp := h256 p
  cases b with
  | false =>
    rw [rd_tk_f rfl, rd_tv_f rfl] at h
    exact br_f bw_f h
  | true =>
    refine br_t rfl ?_
    refine pk_eq p n (fun z => ?_) (fun z => ?_) rfl hn
    · rw [rd_tk_n (by omega), rd_tv_n (by omega)] at h; exact h
    · have hpn : p < n := by omega
      have at' : ∀ (w : Int32) (post : Int32 → Prop), post (nI (c p)) → wpY_at post (y_count, y_place, y_m, nI p, w, k, y_least, y_top, y_frames, y_invalid, y_sp, y_labels, y_active, y_fuel, y_outcome, y_trappedAt, y_result, y_used, y_waits, y_printed, y_bytes, y_there, y_types, y_typeSig, y_imports, y_functions, y_sig, y_what, y_typeAt, y_localsAt, y_globals, y_globalKind, y_globalFree, y_globalValue, y_entries, y_entriesAt, y_hasMemory, y_memory, y_nest, y_kinds, y_shape, y_gives, y_height, y_dead, y_stack, y_labelAt, y_labelHeight, y_labelGives, y_callModule, y_callFunction, y_callBack, y_callBase, y_callLabels, y_waiting, y_prints) (nI p) := fun w post h => yr_at hm h3 (by omega) (hb p hpn) h
      have at2 : ∀ (w : Int32) (post : Int32 → Prop), post (nI (c p)) → wpY_at post (y_count, y_place, y_m, nI (p + 1), w, k, y_least, y_top, y_frames, y_invalid, y_sp, y_labels, y_active, y_fuel, y_outcome, y_trappedAt, y_result, y_used, y_waits, y_printed, y_bytes, y_there, y_types, y_typeSig, y_imports, y_functions, y_sig, y_what, y_typeAt, y_localsAt, y_globals, y_globalKind, y_globalFree, y_globalValue, y_entries, y_entriesAt, y_hasMemory, y_memory, y_nest, y_kinds, y_shape, y_gives, y_height, y_dead, y_stack, y_labelAt, y_labelHeight, y_labelGives, y_callModule, y_callFunction, y_callBack, y_callBase, y_callLabels, y_waiting, y_prints) (nI p) := fun w post h => yr_at hm h3 (by omega) (hb p hpn) h
      refine at' _ _ ?_
      refine pk_lt (c p) lo (fun z => ?_) (fun z1 => at' _ _ ?_)
      · rw [rd_tk_n (by omega), rd_tv_n (by omega)] at h; exact h
      · refine pk_le (c p) hi (fun z2 => ?_) (fun z2 => ?_)
        · rw [rd_tk_t hpn z1 z2, rd_tv_t hpn z1 z2] at h
          refine nm_r (nI_1 p) ?_
          exact at2 _ _ h
        · rw [rd_tk_n (by omega), rd_tv_n (by omega)] at h; exact h
theorem yr_c106 {post : SY → Prop} {a w : Int32} (kind : Nat) (hk : kind < 256) (x : Int64) (h : post (y_count, y_place, y_m, a, w, if kind = 1 then x.toInt32.toInt64 else x, y_least, y_top, y_frames, y_invalid, y_sp, y_labels, y_active, y_fuel, y_outcome, y_trappedAt, y_result, y_used, y_waits, y_printed, y_bytes, y_there, y_types, y_typeSig, y_imports, y_functions, y_sig, y_what, y_typeAt, y_localsAt, y_globals, y_globalKind, y_globalFree, y_globalValue, y_entries, y_entriesAt, y_hasMemory, y_memory, y_nest, y_kinds, y_shape, y_gives, y_height, y_dead, y_stack, y_labelAt, y_labelHeight, y_labelGives, y_callModule, y_callFunction, y_callBack, y_callBase, y_callLabels, y_waiting, y_prints)) :
    wY_takeConstant_106 post (nI kind) x y_count y_place y_m a w k y_least y_top y_frames y_invalid y_sp y_labels y_active y_fuel y_outcome y_trappedAt y_result y_used y_waits y_printed y_bytes y_there y_types y_typeSig y_imports y_functions y_sig y_what y_typeAt y_localsAt y_globals y_globalKind y_globalFree y_globalValue y_entries y_entriesAt y_hasMemory y_memory y_nest y_kinds y_shape y_gives y_height y_dead y_stack y_labelAt y_labelHeight y_labelGives y_callModule y_callFunction y_callBack y_callBase y_callLabels y_waiting y_prints := by
  refine pk_eq kind 1 (fun z => ?_) (fun z => ?_)
  · rw [if_pos z] at h; exact h
  · rw [if_neg z] at h; exact h
theorem yr_c76 {post : SY → Prop} {a w : Int32} (kind : Nat) (hk : kind < 256) (x : Int64) (i b : Nat) (hi : i < 100) (h : post (y_count, y_place, y_m, a, w, cv_fin kind x i b, y_least, y_top, y_frames, y_invalid, y_sp, y_labels, y_active, y_fuel, y_outcome, y_trappedAt, y_result, y_used, y_waits, y_printed, y_bytes, y_there, y_types, y_typeSig, y_imports, y_functions, y_sig, y_what, y_typeAt, y_localsAt, y_globals, y_globalKind, y_globalFree, y_globalValue, y_entries, y_entriesAt, y_hasMemory, y_memory, y_nest, y_kinds, y_shape, y_gives, y_height, y_dead, y_stack, y_labelAt, y_labelHeight, y_labelGives, y_callModule, y_callFunction, y_callBack, y_callBase, y_callLabels, y_waiting, y_prints)) :
    wY_takeConstant_76 post (nI kind) x (nI i) (nI b) y_count y_place y_m a w k y_least y_top y_frames y_invalid y_sp y_labels y_active y_fuel y_outcome y_trappedAt y_result y_used y_waits y_printed y_bytes y_there y_types y_typeSig y_imports y_functions y_sig y_what y_typeAt y_localsAt y_globals y_globalKind y_globalFree y_globalValue y_entries y_entriesAt y_hasMemory y_memory y_nest y_kinds y_shape y_gives y_height y_dead y_stack y_labelAt y_labelHeight y_labelGives y_callModule y_callFunction y_callBack y_callBase y_callLabels y_waiting y_prints := by
  have e : 7 * nI i = nI (7 * i) := pk_mul 7 i
  refine pk_le 64 (7 * i) (fun z => yr_c106 kind hk x ?_) (fun z => ?_) rfl e
  · rw [cv_fin, if_neg (show ¬ (7 * i < 64 ∧ ¬ (nI b &&& 64) = 0) by omega)] at h; exact h
  · refine br_c (fun z2 => yr_c106 kind hk x ?_) (fun z2 => nm_r (show _ = x ||| ((-1 : Int64) <<< ((nI (7 * i)).toInt64 &&& 63)) from by rw [e]) (yr_c106 kind hk _ ?_))
    · rw [cv_fin, if_neg (show ¬ (7 * i < 64 ∧ ¬ (nI b &&& 64) = 0) from fun y => y.2 z2)] at h; exact h
    · rw [cv_fin, if_pos (show 7 * i < 64 ∧ ¬ (nI b &&& 64) = 0 from ⟨z, z2⟩)] at h; exact h
theorem yr_const_l {post : SY → Prop} (C : cy_ok y_count y_m y_bytes m c n) (kind most : Nat) (hk : kind < 256) (hmost : most = if kind = 1 then 5 else 10) : ∀ r i p l R x b, i + r = most → 0 < r → r < l → r ≤ R → p ≤ n → 127 < b → b < 256 →
    (∀ k', ((rd_C c n r (true, p)).1 = true → k' = cv c kind R p x i) → post (y_count, y_place, y_m, nI (rd_C c n r (true, p)).2, bb_w (rd_C c n r (true, p)).1, k', y_least, y_top, y_frames, y_invalid, y_sp, y_labels, y_active, y_fuel, y_outcome, y_trappedAt, y_result, y_used, y_waits, y_printed, y_bytes, y_there, y_types, y_typeSig, y_imports, y_functions, y_sig, y_what, y_typeAt, y_localsAt, y_globals, y_globalKind, y_globalFree, y_globalValue, y_entries, y_entriesAt, y_hasMemory, y_memory, y_nest, y_kinds, y_shape, y_gives, y_height, y_dead, y_stack, y_labelAt, y_labelHeight, y_labelGives, y_callModule, y_callFunction, y_callBack, y_callBase, y_callLabels, y_waiting, y_prints)) →
    wY_takeConstant_10 post (nI kind) l x (nI i) (nI b) y_count y_place y_m (nI p) (bb_w true) k y_least y_top y_frames y_invalid y_sp y_labels y_active y_fuel y_outcome y_trappedAt y_result y_used y_waits y_printed y_bytes y_there y_types y_typeSig y_imports y_functions y_sig y_what y_typeAt y_localsAt y_globals y_globalKind y_globalFree y_globalValue y_entries y_entriesAt y_hasMemory y_memory y_nest y_kinds y_shape y_gives y_height y_dead y_stack y_labelAt y_labelHeight y_labelGives y_callModule y_callFunction y_callBack y_callBase y_callLabels y_waiting y_prints := by
  have hmost2 : most ≤ 10 := by rw [hmost]; split <;> omega
  intro r
  induction r with
  | zero => intro i p l R x b hi h0; omega
  | succ r ih =>
    intro i p l R x b hi _ hl hR hp hb1 hb2 h
    obtain ⟨l, rfl⟩ : ∃ j, l = j + 1 := ⟨l - 1, by omega⟩
    obtain ⟨R, rfl⟩ : ∃ j, R = j + 1 := ⟨R - 1, by omega⟩
    have h256 := C.2.2.2.2.2
    have e7 : 7 * nI i = nI (7 * i) := pk_mul 7 i
    have key : ∀ hb, hb < 256 → (if r = 0 then 127 else 255) = hb → wY_takeConstant_50 post (wY_takeConstant_10 post (nI kind) l) (nI kind) x (nI i) (nI hb) 0 y_count y_place y_m (nI p) (bb_w true) k y_least y_top y_frames y_invalid y_sp y_labels y_active y_fuel y_outcome y_trappedAt y_result y_used y_waits y_printed y_bytes y_there y_types y_typeSig y_imports y_functions y_sig y_what y_typeAt y_localsAt y_globals y_globalKind y_globalFree y_globalValue y_entries y_entriesAt y_hasMemory y_memory y_nest y_kinds y_shape y_gives y_height y_dead y_stack y_labelAt y_labelHeight y_labelGives y_callModule y_callFunction y_callBack y_callBase y_callLabels y_waiting y_prints := by
      intro hb hbl e
      rw [rd_C, e] at h
      refine yr_take C (true, p) hp 0 hb (by omega) hbl ?_
      refine nm_r (show _ = cv_st x i (rd_tv c n 0 hb (true, p)) from by rw [e7]; rfl) (nm_r (nI_1 i) ?_)
      by_cases hc : p < n ∧ 0 ≤ c p ∧ c p ≤ hb
      · rw [rd_tk_t hc.1 hc.2.1 hc.2.2, rd_tv_t hc.1 hc.2.1 hc.2.2]
        rw [rd_tk_t hc.1 hc.2.1 hc.2.2] at h
        by_cases h4 : 127 < c p
        · rw [if_pos ⟨rfl, h4⟩] at h
          have hr : 0 < r := by
            rcases Nat.eq_zero_or_pos r with z | z
            · rw [if_pos z] at e; omega
            · exact z
          refine ih (i + 1) (p + 1) l R _ (c p) (by omega) hr (by omega) (by omega) (by omega) h4 (h256 p) (fun k' hk' => h k' (fun z => ?_))
          rw [cv, if_pos h4]; exact hk' z
        · rw [if_neg (fun z => h4 z.2)] at h
          obtain ⟨l, rfl⟩ : ∃ j, l = j + 1 := ⟨l - 1, by omega⟩
          refine pk_le (c p) 127 (fun _ => yr_c76 kind hk _ (i + 1) (c p) (by omega) (h _ (fun _ => ?_))) (fun z => absurd z h4) rfl rfl (by have := h256 p; omega)
          rw [cv, if_neg h4]
      · rw [rd_tk_n hc, rd_tv_n hc]
        rw [rd_tk_n hc, if_neg (fun z => ff_t z.1)] at h
        obtain ⟨l, rfl⟩ : ∃ j, l = j + 1 := ⟨l - 1, by omega⟩
        exact pk_le 0 127 (fun _ => yr_c76 kind hk _ (i + 1) 0 (by omega) (h _ (fun z => ff_t z))) (fun z => absurd z (by omega))
    have k39 : ∀ w, w + 1 = most → wY_takeConstant_39 post (wY_takeConstant_10 post (nI kind) l) (nI kind) x (nI i) (nI w) (nI i) 0 y_count y_place y_m (nI p) (bb_w true) k y_least y_top y_frames y_invalid y_sp y_labels y_active y_fuel y_outcome y_trappedAt y_result y_used y_waits y_printed y_bytes y_there y_types y_typeSig y_imports y_functions y_sig y_what y_typeAt y_localsAt y_globals y_globalKind y_globalFree y_globalValue y_entries y_entriesAt y_hasMemory y_memory y_nest y_kinds y_shape y_gives y_height y_dead y_stack y_labelAt y_labelHeight y_labelGives y_callModule y_callFunction y_callBack y_callBase y_callLabels y_waiting y_prints := by
      intro w hw
      exact pk_eq i w (fun z => key 127 (by omega) (if_pos (by omega))) (fun z => key 255 (by omega) (if_neg (by omega)))
    refine pk_le b 127 (fun z => absurd z (by omega)) (fun _ => br_t rfl ?_)
    refine pk_eq kind 1 (fun z => ?_) (fun z => ?_)
    · rw [if_pos z] at hmost; exact k39 4 (by omega)
    · rw [if_neg z] at hmost; exact k39 9 (by omega)
theorem yr_const {post : SY → Prop} (C : cy_ok y_count y_m y_bytes m c n) (kind : Nat) (hk : kind < 256) (q : Bool × Nat) (hq : q.2 ≤ n)
    (h : ∀ k', ((rd_C c n (if kind = 1 then 5 else 10) q).1 = true → k' = cv c kind 10 q.2 0 0) → post (y_count, y_place, y_m, nI (rd_C c n (if kind = 1 then 5 else 10) q).2, bb_w (rd_C c n (if kind = 1 then 5 else 10) q).1, k', y_least, y_top, y_frames, y_invalid, y_sp, y_labels, y_active, y_fuel, y_outcome, y_trappedAt, y_result, y_used, y_waits, y_printed, y_bytes, y_there, y_types, y_typeSig, y_imports, y_functions, y_sig, y_what, y_typeAt, y_localsAt, y_globals, y_globalKind, y_globalFree, y_globalValue, y_entries, y_entriesAt, y_hasMemory, y_memory, y_nest, y_kinds, y_shape, y_gives, y_height, y_dead, y_stack, y_labelAt, y_labelHeight, y_labelGives, y_callModule, y_callFunction, y_callBack, y_callBase, y_callLabels, y_waiting, y_prints)) :
    wpY_takeConstant post (y_count, y_place, y_m, nI q.2, bb_w q.1, k, y_least, y_top, y_frames, y_invalid, y_sp, y_labels, y_active, y_fuel, y_outcome, y_trappedAt, y_result, y_used, y_waits, y_printed, y_bytes, y_there, y_types, y_typeSig, y_imports, y_functions, y_sig, y_what, y_typeAt, y_localsAt, y_globals, y_globalKind, y_globalFree, y_globalValue, y_entries, y_entriesAt, y_hasMemory, y_memory, y_nest, y_kinds, y_shape, y_gives, y_height, y_dead, y_stack, y_labelAt, y_labelHeight, y_labelGives, y_callModule, y_callFunction, y_callBack, y_callBase, y_callLabels, y_waiting, y_prints) (nI kind) := by
  obtain ⟨b, p⟩ := q
  dsimp only at hq h ⊢
  cases b with
  | false =>
    rw [(rd_G_C c n (if kind = 1 then 5 else 10) (by split <;> omega)).2 (false, p) rfl] at h
    refine ⟨1, pk_le 128 127 (fun z => absurd z (by omega)) (fun _ => br_f (by decide) ?_)⟩
    exact yr_c76 kind hk 0 0 128 (by omega) (h _ (fun z => ff_t z))
  | true =>
    refine ⟨11, yr_const_l C kind (if kind = 1 then 5 else 10) hk rfl (if kind = 1 then 5 else 10) 0 p 11 10 0 128 (by omega) (by split <;> omega) (by split <;> omega) (by split <;> omega) hq (by omega) (by omega) h⟩
end
