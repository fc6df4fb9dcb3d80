def rd_Z (c : Nat → Nat) (n : Nat) (q : Bool × Nat) : Bool × Nat := rd_E c n (rd_it (rd_g c n) (rd_tv c n 0 3 q) (rd_tk c n 0 3 q))
def tl_q (c : Nat → Nat) (n p : Nat) : Nat := (rd_it (rd_g c n) (c p) (true, p + 1)).2
def tl_m (c : Nat → Nat) (n p : Nat) : Nat := tl_q c n p + 1 + c (tl_q c n p)
def tl_mem (c : Nat → Nat) (n p : Nat) : Nat → Nat := if c (tl_m c n p) = 1 then md_k c n (c (tl_m c n p + 1)) (true, tl_m c n p + 2) (fun _ => 0) else fun _ => 0
def tl_ok (m : Nat) (c : Nat → Nat) (n fn : Nat) (S : Nat → Prop) (p : Nat) (L : Int32) (GL GK GF : Nat → Int32) (GV : Nat → Int64) (EN EA H M : Nat → Int32) : Prop :=
  GL m = nI (c p) ∧ c p ≤ 3 ∧ gl_ok m c n 0 (c p) (true, p + 1) GK GF GV ∧ EN m = nI (c (tl_q c n p)) ∧ EA m = nI (tl_q c n p + 1) ∧ c (tl_q c n p) ≤ 5 ∧ H m = nI (c (tl_m c n p)) ∧
  lm L (fun x => (S x ∨ en_S c fn (c (tl_q c n p)) (tl_q c n p + 1) x) ∨ me_S c n (tl_m c n p) x) ∧ ∀ j, j < 48 → M (48 * m + j) = sb_v (tl_mem c n p j)
def tl_fr (m : Nat) (GL GK GF : Nat → Int32) (GV : Nat → Int64) (EN EA H M GL' GK' GF' : Nat → Int32) (GV' : Nat → Int64) (EN' EA' H' M' : Nat → Int32) : Prop :=
  (∀ j, j ≠ m → GL' j = GL j) ∧ fr_i (3 * m) (3 * m + 3) GK GK' ∧ fr_i (3 * m) (3 * m + 3) GF GF' ∧ fr_l (3 * m) (3 * m + 3) GV GV' ∧ (∀ j, j ≠ m → EN' j = EN j) ∧ (∀ j, j ≠ m → EA' j = EA j) ∧ (∀ j, j ≠ m → H' j = H j) ∧ fr_i (48 * m) (48 * m + 48) M M'
theorem rd_Z_ok {c : Nat → Nat} {n : Nat} {q : Bool × Nat} (h : (rd_Z c n q).1 = true) : q.1 = true ∧ rd_tk c n 0 3 q = (true, q.2 + 1) ∧ rd_tv c n 0 3 q = c q.2 ∧ c q.2 ≤ 3 := by
  have a := (rd_e_ok h).1
  have b : (rd_tk c n 0 3 q).1 = true := by
    cases e : (rd_tk c n 0 3 q).1 with
    | true => rfl
    | false =>
      have e2 : rd_it (rd_g c n) (rd_tv c n 0 3 q) (rd_tk c n 0 3 q) = rd_tk c n 0 3 q := (rd_G_it (rd_G_g c n) _).2 _ e
      rw [e2, rd_tv_f e, rd_tk_f e] at a
      have e3 : rd_n c n 0 255 0 (false, (rd_tk c n 0 3 q).2) = (false, (rd_tk c n 0 3 q).2) := rfl
      rw [e3, rd_M, rd_tv_f rfl, if_neg (by decide), rd_tk_f rfl] at a
      exact ff_t a
  rcases rd_tk_or c n 0 3 q with ⟨e1, a⟩ | e1
  · exact ⟨a.1, e1, if_pos a, a.2.2.2⟩
  · rw [e1] at b; exact ff_t b
theorem rd_n_ok {c : Nat → Nat} {n lo hi : Nat} : ∀ k q, (rd_n c n lo hi k q).1 = true → q.1 = true ∧ rd_n c n lo hi k q = (true, q.2 + k) ∧ (∀ i, i < k → lo ≤ c (q.2 + i) ∧ c (q.2 + i) ≤ hi) ∧ (q.2 ≤ n → q.2 + k ≤ n) := by
  intro k
  induction k with
  | zero => intro q h; exact ⟨h, tt_eq h, fun i hi => absurd hi (by omega), fun h => h⟩
  | succ k ih =>
    intro q h
    rw [rd_n] at h ⊢
    obtain ⟨h1, h2, h3, h4⟩ := ih _ h
    rcases rd_tk_or c n lo hi q with ⟨e, a1, a2, a3, a4⟩ | e
    · rw [e] at h2 h3 h4 ⊢
      dsimp only at h2 h3 h4 ⊢
      refine ⟨a1, by rw [h2, show q.2 + 1 + k = q.2 + (k + 1) by omega], fun i hi => ?_, fun _ => by have := h4 (by omega); omega⟩
      cases i with
      | zero => exact ⟨a3, a4⟩
      | succ i => have := h3 i (by omega); rw [show q.2 + (i + 1) = q.2 + 1 + i by omega]; exact this
    · rw [e] at h1; exact ff_t h1
theorem rd_K_ok {c : Nat → Nat} {n most : Nat} {q : Bool × Nat} (h : (rd_K c n most q).1 = true) : q.1 = true ∧ rd_K c n most q = (true, q.2 + 1 + c q.2) ∧ c q.2 ≤ most ∧ (∀ i, i < c q.2 → 1 ≤ c (q.2 + 1 + i) ∧ c (q.2 + 1 + i) ≤ 2) ∧ q.2 + 1 + c q.2 ≤ n := by
  unfold rd_K at h ⊢
  obtain ⟨h1, h2, h3, h4⟩ := rd_n_ok _ _ h
  rcases rd_tk_or c n 0 most q with ⟨e, a1, a2, a3, a4⟩ | e
  · have e2 : rd_tv c n 0 most q = c q.2 := if_pos ⟨a1, a2, a3, a4⟩
    rw [e2] at h2 h3 h4 ⊢
    rw [e] at h2 h3 h4 ⊢
    exact ⟨a1, h2, a4, h3, h4 (by dsimp only; omega)⟩
  · rw [e] at h1; exact ff_t h1
def ty_ok (c : Nat → Nat) (p : Nat) : Prop := c p ≤ 3 ∧ (∀ i, i < c p → 1 ≤ c (p + 1 + i) ∧ c (p + 1 + i) ≤ 2) ∧ c (p + 1 + c p) ≤ 1 ∧ (c (p + 1 + c p) = 1 → 1 ≤ c (p + 1 + c p + 1) ∧ c (p + 1 + c p + 1) ≤ 2)
theorem rd_T_ok {c : Nat → Nat} {n : Nat} {q : Bool × Nat} (h : (rd_T c n q).1 = true) : q.1 = true ∧ ty_ok c q.2 ∧ (rd_T c n q).2 = q.2 + 1 + c q.2 + 1 + c (q.2 + 1 + c q.2) ∧ (rd_T c n q).2 ≤ n := by
  unfold rd_T at h ⊢
  obtain ⟨h1, h2, h3, h4, h5⟩ := rd_K_ok h
  obtain ⟨g1, g2, g3, g4, g5⟩ := rd_K_ok h1
  rw [g2] at h2 h3 h4 h5 ⊢
  dsimp only at h2 h3 h4 h5 ⊢
  refine ⟨g1, ⟨g3, g4, h3, fun z => ?_⟩, by rw [h2], by rw [h2]; exact h5⟩
  have := h4 0 (by omega)
  rw [Nat.add_zero] at this
  exact this
theorem sg_lt {c : Nat → Nat} {p : Nat} (h : ty_ok c p) : sg c p < 1024 := by
  obtain ⟨h1, h2, h3, h4⟩ := h
  have hr : (if c (p + 1 + c p) = 0 then 0 else c (p + 1 + c p + 1) * 256) ≤ 512 := by
    split
    · omega
    · have := h4 (by omega); omega
  have hl : sg_l c (c p) 0 (p + 1) (c p) ≤ 171 := by
    have z : c p = 0 ∨ c p = 1 ∨ c p = 2 ∨ c p = 3 := by omega
    rcases z with z | z | z | z <;> rw [z] at h2 ⊢ <;> simp only [sg_l]
    · omega
    · have a := h2 0 (by omega); simp only [Nat.add_zero] at a; omega
    · have a := h2 0 (by omega); have b := h2 1 (by omega); simp only [Nat.add_zero] at a; omega
    · have a := h2 0 (by omega); have b := h2 1 (by omega); have d := h2 2 (by omega); rw [show p + 1 + 2 = p + 1 + 1 + 1 by omega] at d; simp only [Nat.add_zero] at a; omega
  unfold sg
  omega
section
variable {y_count y_place y_m y_pos y_wrong y_least y_top y_frames y_invalid y_sp y_labels y_active y_fuel y_outcome y_trappedAt y_used y_waits y_printed : Int32} {y_constant y_result : Int64} {y_bytes y_there y_types y_typeSig y_imports y_functions y_sig y_what y_typeAt y_localsAt y_globals y_globalKind y_globalFree y_entries y_entriesAt y_hasMemory y_memory y_nest y_kinds y_shape y_gives y_height y_dead y_labelAt y_labelHeight y_labelGives y_callModule y_callFunction y_callBack y_callBase y_callLabels y_waiting y_prints : Nat → Int32} {y_globalValue y_stack : Nat → Int64}
variable {m : Nat} {c : Nat → Nat} {n p : Nat}
theorem y_260 {post : SY → Prop} (C : cy_ok y_count y_m y_bytes m c n) (fn : Nat) (hfn : fn < 100) (efn : y_functions m = nI fn) (S : Nat → Prop) (q : Bool × Nat) (hq : q.2 ≤ n) (hL : q.1 = true → lm y_least S)
    (h : ∀ k L GL GK GF GV EN EA H M, tl_fr m y_globals y_globalKind y_globalFree y_globalValue y_entries y_entriesAt y_hasMemory y_memory GL GK GF GV EN EA H M →
      ((rd_Z c n q).1 = true → tl_ok m c n fn S q.2 L GL GK GF GV EN EA H M) →
      post (y_count, y_place, y_m, nI (rd_Z c n q).2, bb_w (rd_Z c n q).1, k, L, y_top, y_frames, y_invalid, y_sp, y_labels, y_active, y_fuel, y_outcome, y_trappedAt, y_result, y_used, y_waits, y_printed, y_bytes, y_there, y_types, y_typeSig, y_imports, y_functions, y_sig, y_what, y_typeAt, y_localsAt, GL, GK, GF, GV, EN, EA, H, M, y_nest, y_kinds, y_shape, y_gives, y_height, y_dead, y_stack, y_labelAt, y_labelHeight, y_labelGives, y_callModule, y_callFunction, y_callBack, y_callBase, y_callLabels, y_waiting, y_prints)) :
    wY_read_260 post y_count y_place y_m (nI q.2) (bb_w q.1) y_constant y_least y_top y_frames y_invalid y_sp y_labels y_active y_fuel y_outcome y_trappedAt y_result y_used y_waits y_printed y_bytes y_there y_types y_typeSig y_imports y_functions y_sig y_what y_typeAt y_localsAt y_globals y_globalKind y_globalFree y_globalValue y_entries y_entriesAt y_hasMemory y_memory y_nest y_kinds y_shape y_gives y_height y_dead y_stack y_labelAt y_labelHeight y_labelGives y_callModule y_callFunction y_callBack y_callBase y_callLabels y_waiting y_prints := by
  obtain ⟨hn, h140, hm, h3, hb, h256⟩ := id C
  have em : y_m.toNatClampNeg = m := by rw [hm]; exact nI_clamp (by omega)
  have g1 := (rd_G_tk c n 0 3).1 q hq
  have v1 := (rd_tv_le (c := c) (n := n) (lo := 0) (hi := 3) (q := q) (by omega)).2
  unfold wY_read_260
  refine yr_take C q hq 0 3 (by omega) (by omega) ?_
  refine ⟨pk_in m 3 h3 hm, nm_r (show _ = upd y_globals m (nI (rd_tv c n 0 3 q)) from by rw [em, nr_b (by omega)]) ⟨rd_tv c n 0 3 q + 1, ?_⟩⟩
  refine yg_278 C (rd_tv c n 0 3 q) fn v1 hfn pk_us efn S (rd_tv c n 0 3 q) 0 _ (rd_tk c n 0 3 q) _ _ _ _ (Nat.zero_add _) (by omega) g1.2 (fun y => hL (rd_G_tr (rd_G_tk c n 0 3) y)) (fun k' L' GK' GF' GV' EN EA H' M' f1 f2 f3 f4 f5 f6 f7 f8 => ?_)
  refine h k' L' _ GK' GF' GV' EN EA H' M' ⟨fun j hj => pk_un hj, f1, f2, f3, f4, f5, f6, f7⟩ (fun y => ?_)
  obtain ⟨o1, o2, o3, o4⟩ := rd_Z_ok y
  obtain ⟨y1, y2, y3, y4, y5, y6, y7⟩ := f8 y
  rw [o2, o3] at y1 y2 y3 y4 y5 y6 y7
  refine ⟨by rw [pk_us, o3], o4, y1, y2, y3, y4, y5, y6, fun j hj => ?_⟩
  rw [y7 j hj]
  unfold tl_mem tl_m tl_q
  split <;> rfl
def sg_i (c : Nat → Nat) (nT : Nat) (ty : Nat → Nat) (p : Nat) : Int32 := if c p < nT then nI (sg c (ty (c p))) else -1
theorem yf_type {post : SY → Prop} {L : Int32} {SI TA : Nat → Int32} (C : cy_ok y_count y_m y_bytes m c n) (j nT : Nat) (hj : j < 7) (hT : nT ≤ 4) (eT : y_types m = nI nT) (ty : Nat → Nat) (S : Nat → Prop) (q : Bool × Nat) (hq : q.2 ≤ n)
    (hts : q.1 = true → ∀ t, t < nT → y_typeSig (4 * m + t) = nI (sg c (ty t)) ∧ sg c (ty t) < 1024) (hL : q.1 = true → lm L S)
    (h : ∀ L' s', ((rd_tk c n 0 255 q).1 = true → s' = sg_i c nT ty q.2 ∧ lm L' (fun x => S x ∨ (nT ≤ c q.2 ∧ x = q.2))) →
      post (y_count, y_place, y_m, nI (rd_tk c n 0 255 q).2, bb_w (rd_tk c n 0 255 q).1, y_constant, L', y_top, y_frames, y_invalid, y_sp, y_labels, y_active, y_fuel, y_outcome, y_trappedAt, y_result, y_used, y_waits, y_printed, y_bytes, y_there, y_types, y_typeSig, y_imports, y_functions, upd SI (7 * m + j) s', y_what, upd TA (7 * m + j) (nI q.2), y_localsAt, y_globals, y_globalKind, y_globalFree, y_globalValue, y_entries, y_entriesAt, y_hasMemory, y_memory, y_nest, y_kinds, y_shape, y_gives, y_height, y_dead, y_stack, y_labelAt, y_labelHeight, y_labelGives, y_callModule, y_callFunction, y_callBack, y_callBase, y_callLabels, y_waiting, y_prints)) :
    wpY_takeFunctionType post (y_count, y_place, y_m, nI q.2, bb_w q.1, y_constant, L, y_top, y_frames, y_invalid, y_sp, y_labels, y_active, y_fuel, y_outcome, y_trappedAt, y_result, y_used, y_waits, y_printed, y_bytes, y_there, y_types, y_typeSig, y_imports, y_functions, SI, y_what, TA, y_localsAt, y_globals, y_globalKind, y_globalFree, y_globalValue, y_entries, y_entriesAt, y_hasMemory, y_memory, y_nest, y_kinds, y_shape, y_gives, y_height, y_dead, y_stack, y_labelAt, y_labelHeight, y_labelGives, y_callModule, y_callFunction, y_callBack, y_callBase, y_callLabels, y_waiting, y_prints) (nI j) := by
  obtain ⟨hn, h140, hm, h3, hb, h256⟩ := id C
  have em : y_m.toNatClampNeg = m := by rw [hm]; exact nI_clamp (by omega)
  have ej : 7 * y_m + nI j = nI (7 * m + j) := by rw [hm, show (7 : Int32) = nI 7 from rfl, pk_mul, nI_add]
  have eT' : y_types y_m.toNatClampNeg = nI nT := by rw [em]; exact eT
  have v1 := (rd_tv_le (c := c) (n := n) (lo := 0) (hi := 255) (q := q) (by omega)).2
  have ok : (rd_tk c n 0 255 q).1 = true → q.1 = true ∧ rd_tk c n 0 255 q = (true, q.2 + 1) ∧ rd_tv c n 0 255 q = c q.2 := by
    intro z
    rcases rd_tk_or c n 0 255 q with ⟨e1, a⟩ | e1
    · exact ⟨a.1, e1, if_pos a⟩
    · rw [e1] at z; exact ff_t z
  refine ⟨pk_in (7 * m + j) 21 (by omega) ej, nm_r (show _ = upd TA (7 * m + j) (nI q.2) from by rw [pk_cl (7 * m + j) ej, nr_s (by omega)]) ?_⟩
  refine yr_take C q hq 0 255 (by omega) (by omega) ⟨pk_in m 3 h3 hm, ?_⟩
  have k91 : ∀ (s' z : Int32), (z = 0 ∨ z = 1) → ((rd_tk c n 0 255 q).1 = true → s' = sg_i c nT ty q.2 ∧ (z = 1 ↔ nT ≤ c q.2)) →
      wY_takeFunctionType_91 post z y_count y_place y_m (nI (rd_tk c n 0 255 q).2) (bb_w (rd_tk c n 0 255 q).1) y_constant L y_top y_frames y_invalid y_sp y_labels y_active y_fuel y_outcome y_trappedAt y_result y_used y_waits y_printed y_bytes y_there y_types y_typeSig y_imports y_functions (upd SI (7 * m + j) s') y_what (upd TA (7 * m + j) (nI q.2)) y_localsAt y_globals y_globalKind y_globalFree y_globalValue y_entries y_entriesAt y_hasMemory y_memory y_nest y_kinds y_shape y_gives y_height y_dead y_stack y_labelAt y_labelHeight y_labelGives y_callModule y_callFunction y_callBack y_callBase y_callLabels y_waiting y_prints := by
    intro s' z hz hzi
    unfold wY_takeFunctionType_91
    refine ym_note (rd_tk c n 0 255 q).1 z hz _ q.2 (by omega) S (fun y => ?_) (fun y => hL (ok y).1) (fun L' hL' => h L' s' (fun y => ⟨(hzi y).1, lm_ext (hL' y) (fun x => ?_)⟩))
    · rw [(ok y).2.1]; exact nI_pred q.2
    · rw [(hzi y).2]
  have k71 : ∀ (s0 s' : Int32), vp_nar .short s0 = s' → ((rd_tk c n 0 255 q).1 = true → s' = sg_i c nT ty q.2) →
      wY_takeFunctionType_71 post (nI (rd_tv c n 0 255 q)) s0 (7 * y_m + nI j) y_count y_place y_m (nI (rd_tk c n 0 255 q).2) (bb_w (rd_tk c n 0 255 q).1) y_constant L y_top y_frames y_invalid y_sp y_labels y_active y_fuel y_outcome y_trappedAt y_result y_used y_waits y_printed y_bytes y_there y_types y_typeSig y_imports y_functions SI y_what (upd TA (7 * m + j) (nI q.2)) y_localsAt y_globals y_globalKind y_globalFree y_globalValue y_entries y_entriesAt y_hasMemory y_memory y_nest y_kinds y_shape y_gives y_height y_dead y_stack y_labelAt y_labelHeight y_labelGives y_callModule y_callFunction y_callBack y_callBase y_callLabels y_waiting y_prints := by
    intro s0 s' e1 e2
    refine ⟨pk_in (7 * m + j) 21 (by omega) ej, nm_r (show _ = upd SI (7 * m + j) s' from by rw [pk_cl (7 * m + j) ej, e1]) ⟨pk_in m 3 h3 hm, ?_⟩⟩
    refine pk_lt (rd_tv c n 0 255 q) nT (fun z => k91 s' 0 (Or.inl rfl) (fun y => ⟨e2 y, fun a => absurd a (by decide), fun a => ?_⟩)) (fun z => k91 s' 1 (Or.inr rfl) (fun y => ⟨e2 y, fun _ => ?_, fun _ => rfl⟩)) rfl eT'
    · rw [(ok y).2.2] at z; omega
    · rw [(ok y).2.2] at z; exact z
  refine pk_le nT (rd_tv c n 0 255 q) (fun z => k71 (-1) (-1) (by rw [vp_nar_short]; decide) (fun y => ?_)) (fun z => ?_) eT' rfl
  · rw [(ok y).2.2] at z
    exact (if_neg (by omega)).symm
  · have e4 : 4 * y_m + nI (rd_tv c n 0 255 q) = nI (4 * m + rd_tv c n 0 255 q) := by rw [hm, show (4 : Int32) = nI 4 from rfl, pk_mul, nI_add]
    refine ⟨pk_in (4 * m + rd_tv c n 0 255 q) 12 (by omega) e4, ?_⟩
    refine k71 _ _ rfl (fun y => ?_)
    obtain ⟨o1, o2, o3⟩ := ok y
    rw [pk_cl (4 * m + rd_tv c n 0 255 q) e4, (hts o1 _ z).1, nr_s' (by have := (hts o1 _ z).2; omega), o3]
    exact (if_pos (by rw [← o3]; exact z)).symm
theorem y_231 {post : SY → Prop} {J : Int32 → Int32 → Int32 → Int32 → Int32 → Int32 → Int64 → Int32 → Int32 → Int32 → Int32 → Int32 → Int32 → Int32 → Int32 → Int32 → Int32 → Int64 → Int32 → Int32 → Int32 → (Nat → Int32) → (Nat → Int32) → (Nat → Int32) → (Nat → Int32) → (Nat → Int32) → (Nat → Int32) → (Nat → Int32) → (Nat → Int32) → (Nat → Int32) → (Nat → Int32) → (Nat → Int32) → (Nat → Int32) → (Nat → Int32) → (Nat → Int64) → (Nat → Int32) → (Nat → Int32) → (Nat → Int32) → (Nat → Int32) → (Nat → Int32) → (Nat → Int32) → (Nat → Int32) → (Nat → Int32) → (Nat → Int32) → (Nat → Int32) → (Nat → Int64) → (Nat → Int32) → (Nat → Int32) → (Nat → Int32) → (Nat → Int32) → (Nat → Int32) → (Nat → Int32) → (Nat → Int32) → (Nat → Int32) → (Nat → Int32) → (Nat → Int32) → Prop} (C : cy_ok y_count y_m y_bytes m c n) (x2 : Int32) (N : Nat) (hN : N ≤ 3) : ∀ r i l (q : Bool × Nat) (k : Int64), i + r = N → r < l → q.2 ≤ n →
    (∀ NE k', J (x2 + 1) y_count y_place y_m (nI (rd_B c n 141 (rd_n c n 1 2 r q) [(0, 0, 0)]).1.2) (bb_w (rd_B c n 141 (rd_n c n 1 2 r q) [(0, 0, 0)]).1.1) k' y_least y_top y_frames y_invalid y_sp y_labels y_active y_fuel y_outcome y_trappedAt y_result y_used y_waits y_printed y_bytes y_there y_types y_typeSig y_imports y_functions y_sig y_what y_typeAt y_localsAt y_globals y_globalKind y_globalFree y_globalValue y_entries y_entriesAt y_hasMemory y_memory NE y_kinds y_shape y_gives y_height y_dead y_stack y_labelAt y_labelHeight y_labelGives y_callModule y_callFunction y_callBack y_callBase y_callLabels y_waiting y_prints) →
    wY_read_231 post J x2 (nI N) l (nI i) y_count y_place y_m (nI q.2) (bb_w q.1) k y_least y_top y_frames y_invalid y_sp y_labels y_active y_fuel y_outcome y_trappedAt y_result y_used y_waits y_printed y_bytes y_there y_types y_typeSig y_imports y_functions y_sig y_what y_typeAt y_localsAt y_globals y_globalKind y_globalFree y_globalValue y_entries y_entriesAt y_hasMemory y_memory y_nest y_kinds y_shape y_gives y_height y_dead y_stack y_labelAt y_labelHeight y_labelGives y_callModule y_callFunction y_callBack y_callBase y_callLabels y_waiting y_prints := by
  intro r
  induction r with
  | zero =>
    intro i l q k hi hl hq h
    obtain ⟨l, rfl⟩ : ∃ j, l = j + 1 := ⟨l - 1, by omega⟩
    refine pk_le N i (fun _ => ?_) (fun z => absurd z (by omega))
    exact yr_body C q hq (fun NE k' => nm_e (h NE k'))
  | succ r ih =>
    intro i l q k hi hl hq h
    obtain ⟨l, rfl⟩ : ∃ j, l = j + 1 := ⟨l - 1, by omega⟩
    refine pk_le N i (fun z => absurd z (by omega)) (fun _ => ?_)
    refine yr_take C q hq 1 2 (by omega) (by omega) (nm_r (nI_1 i) ?_)
    exact ih (i + 1) l _ k (by omega) (by omega) ((rd_G_tk c n 1 2).1 q hq).2 h
def fn_ok (m : Nat) (c : Nat → Nat) (n nT : Nat) (ty : Nat → Nat) (i r : Nat) (q : Bool × Nat) (SI TA LA : Nat → Int32) : Prop :=
  ∀ g, g < r → SI (7 * m + (i + g)) = sg_i c nT ty (rd_it (rd_F c n) g q).2 ∧ TA (7 * m + (i + g)) = nI (rd_it (rd_F c n) g q).2 ∧ LA (7 * m + (i + g)) = nI ((rd_it (rd_F c n) g q).2 + 1)
def ft_S (c : Nat → Nat) (nT : Nat) (f : Bool × Nat → Bool × Nat) (r : Nat) (q : Bool × Nat) (x : Nat) : Prop := ∃ g, g < r ∧ x = (rd_it f g q).2 ∧ nT ≤ c x
theorem rd_F_ok {q : Bool × Nat} (h : (rd_F c n q).1 = true) : q.1 = true ∧ rd_tk c n 0 255 q = (true, q.2 + 1) ∧ rd_tv c n 0 255 q = c q.2 := by
  have h1 := rd_G_tr (rd_G_K c n 3) (rd_G_tr (rd_G_B c n 141 [(0, 0, 0)]) h)
  rcases rd_tk_or c n 0 255 q with ⟨e1, a⟩ | e1
  · exact ⟨a.1, e1, if_pos a⟩
  · rw [e1] at h1; exact ff_t h1
theorem y_177 {post : SY → Prop} (C : cy_ok y_count y_m y_bytes m c n) (fn nT : Nat) (hfn : fn ≤ 7) (hT : nT ≤ 4) (efn : y_functions m = nI fn) (eT : y_types m = nI nT) (ty : Nat → Nat) (b0 : Bool) (hts : b0 = true → ∀ t, t < nT → y_typeSig (4 * m + t) = nI (sg c (ty t)) ∧ sg c (ty t) < 1024) :
    ∀ r i l (q : Bool × Nat) (k : Int64) (L : Int32) (SI TA LA NE : Nat → Int32) (S : Nat → Prop), i + r = fn → r < l → q.2 ≤ n → (q.1 = true → b0 = true) → (q.1 = true → lm L S) →
    (∀ k' L' SI' TA' LA' NE' GL GK GF GV EN EA H M, fr_i (7 * m + i) (7 * m + 7) SI SI' → fr_i (7 * m + i) (7 * m + 7) TA TA' → fr_i (7 * m + i) (7 * m + 7) LA LA' →
      tl_fr m y_globals y_globalKind y_globalFree y_globalValue y_entries y_entriesAt y_hasMemory y_memory GL GK GF GV EN EA H M →
      ((rd_Z c n (rd_it (rd_F c n) r q)).1 = true → fn_ok m c n nT ty i r q SI' TA' LA' ∧ tl_ok m c n fn (fun x => S x ∨ ft_S c nT (rd_F c n) r q x) (rd_it (rd_F c n) r q).2 L' GL GK GF GV EN EA H M) →
      post (y_count, y_place, y_m, nI (rd_Z c n (rd_it (rd_F c n) r q)).2, bb_w (rd_Z c n (rd_it (rd_F c n) r q)).1, k', L', y_top, y_frames, y_invalid, y_sp, y_labels, y_active, y_fuel, y_outcome, y_trappedAt, y_result, y_used, y_waits, y_printed, y_bytes, y_there, y_types, y_typeSig, y_imports, y_functions, SI', y_what, TA', LA', GL, GK, GF, GV, EN, EA, H, M, NE', y_kinds, y_shape, y_gives, y_height, y_dead, y_stack, y_labelAt, y_labelHeight, y_labelGives, y_callModule, y_callFunction, y_callBack, y_callBase, y_callLabels, y_waiting, y_prints)) →
    wY_read_177 post l (nI i) y_count y_place y_m (nI q.2) (bb_w q.1) k L y_top y_frames y_invalid y_sp y_labels y_active y_fuel y_outcome y_trappedAt y_result y_used y_waits y_printed y_bytes y_there y_types y_typeSig y_imports y_functions SI y_what TA LA y_globals y_globalKind y_globalFree y_globalValue y_entries y_entriesAt y_hasMemory y_memory NE y_kinds y_shape y_gives y_height y_dead y_stack y_labelAt y_labelHeight y_labelGives y_callModule y_callFunction y_callBack y_callBase y_callLabels y_waiting y_prints := by
  obtain ⟨hn, h140, hm, h3, hb, h256⟩ := id C
  have em : y_m.toNatClampNeg = m := by rw [hm]; exact nI_clamp (by omega)
  have efn' : y_functions y_m.toNatClampNeg = nI fn := by rw [em]; exact efn
  intro r
  induction r with
  | zero =>
    intro i l q k L SI TA LA NE S hi hl hq hb0 hL h
    obtain ⟨l, rfl⟩ : ∃ j, l = j + 1 := ⟨l - 1, by omega⟩
    rw [show rd_it (rd_F c n) 0 q = q from rfl] at h
    refine ⟨pk_in m 3 h3 hm, pk_le fn i (fun _ => ?_) (fun z => absurd z (by omega)) efn' rfl⟩
    refine y_260 C fn (by omega) efn S q hq hL (fun k' L' GL GK GF GV EN EA H M f1 f2 => h k' L' SI TA LA NE GL GK GF GV EN EA H M (fun _ _ => rfl) (fun _ _ => rfl) (fun _ _ => rfl) f1 (fun y => ⟨fun g hg => absurd hg (by omega), ?_⟩))
    obtain ⟨y1, y2, y3, y4, y5, y6, y7, y8, y9⟩ := f2 y
    exact ⟨y1, y2, y3, y4, y5, y6, y7, lm_ext y8 (fun x => ⟨fun a => a.imp (fun b => b.imp Or.inl id) id, fun a => a.imp (fun b => b.imp (fun d => d.elim id (fun ⟨g, hg, _⟩ => absurd hg (by omega))) id) id⟩), y9⟩
  | succ r ih =>
    intro i l q k L SI TA LA NE S hi hl hq hb0 hL h
    obtain ⟨l, rfl⟩ : ∃ j, l = j + 1 := ⟨l - 1, by omega⟩
    refine ⟨pk_in m 3 h3 hm, pk_le fn i (fun z => absurd z (by omega)) (fun _ => ?_) efn' rfl⟩
    obtain ⟨b, p⟩ := q
    cases b with
    | false =>
      rw [(rd_G_it (rd_G_F c n) (r + 1)).2 (false, p) rfl] at h
      refine br_f bw_f ?_
      exact y_260 C fn (by omega) efn S (false, p) hq (fun y => ff_t y) (fun k' L' GL GK GF GV EN EA H M f1 f2 => h k' L' SI TA LA NE GL GK GF GV EN EA H M (fun _ _ => rfl) (fun _ _ => rfl) (fun _ _ => rfl) f1 (fun y => ff_t (rd_Z_ok y).1))
    | true =>
      rw [rd_it] at h
      have g1 := (rd_G_tk c n 0 255).1 (true, p) hq
      have g2 := (rd_G_tk c n 0 3).1 _ g1.2
      have gF := (rd_G_F c n).1 (true, p) hq
      have ei : 7 * y_m + nI i = nI (7 * m + i) := by rw [hm, show (7 : Int32) = nI 7 from rfl, pk_mul, nI_add]
      have v2 := (rd_tv_le (c := c) (n := n) (lo := 0) (hi := 3) (q := rd_tk c n 0 255 (true, p)) (by omega)).2
      refine br_t rfl ?_
      refine yf_type C i nT (by omega) hT eT ty S (true, p) hq (fun y => hts (hb0 y)) hL (fun L1 s1 hs1 => ?_)
      refine ⟨pk_in (7 * m + i) 21 (by omega) ei, nm_r (show _ = upd LA (7 * m + i) (nI (rd_tk c n 0 255 (true, p)).2) from by rw [pk_cl (7 * m + i) ei, nr_s (by omega)]) ?_⟩
      refine yr_take C _ g1.2 0 3 (by omega) (by omega) ⟨rd_tv c n 0 3 (rd_tk c n 0 255 (true, p)) + 1, ?_⟩
      refine y_231 C (nI i) _ v2 _ 0 _ _ k (Nat.zero_add _) (by omega) g2.2 (fun NE1 k1 => ?_)
      have eF : (rd_B c n 141 (rd_n c n 1 2 (rd_tv c n 0 3 (rd_tk c n 0 255 (true, p))) (rd_tk c n 0 3 (rd_tk c n 0 255 (true, p)))) [(0, 0, 0)]).1 = rd_F c n (true, p) := rfl
      rw [eF, nI_1 i]
      refine ih (i + 1) l (rd_F c n (true, p)) k1 L1 _ _ _ NE1 (fun x => S x ∨ (nT ≤ c p ∧ x = p)) (by omega) (by omega) gF.2 (fun _ => hb0 rfl) (fun y => (hs1 (rd_G_tr (rd_G_K c n 3) (rd_G_tr (rd_G_B c n 141 [(0, 0, 0)]) y))).2) (fun k2 L2 SI2 TA2 LA2 NE2 GL GK GF GV EN EA H M f1 f2 f3 f4 f5 => ?_)
      refine h k2 L2 SI2 TA2 LA2 NE2 GL GK GF GV EN EA H M (fun j hj => (f1 j (by omega)).trans (pk_un (by omega))) (fun j hj => (f2 j (by omega)).trans (pk_un (by omega))) (fun j hj => (f3 j (by omega)).trans (pk_un (by omega))) f4 (fun y => ?_)
      have yF := rd_G_tr (rd_G_it (rd_G_F c n) r) (rd_Z_ok y).1
      obtain ⟨o1, o2, o3⟩ := rd_F_ok yF
      obtain ⟨y1, y2⟩ := f5 y
      obtain ⟨s2, s3⟩ := hs1 (by rw [o2])
      refine ⟨fun g hg => ?_, ?_⟩
      · cases g with
        | zero =>
          refine ⟨?_, ?_, ?_⟩
          · rw [Nat.add_zero, f1 _ (by omega), pk_us, s2]; rfl
          · rw [Nat.add_zero, f2 _ (by omega), pk_us]; rfl
          · rw [Nat.add_zero, f3 _ (by omega), pk_us, o2]; rfl
        | succ g =>
          have := y1 g (by omega)
          rw [show i + (g + 1) = i + 1 + g by omega]
          exact this
      · obtain ⟨z1, z2, z3, z4, z5, z6, z7, z8, z9⟩ := y2
        refine ⟨z1, z2, z3, z4, z5, z6, z7, lm_ext z8 (fun x => ⟨?_, ?_⟩), z9⟩
        · rintro ((((a | ⟨a, rfl⟩) | ⟨g, a1, a2, a3⟩) | a) | a)
          · exact Or.inl (Or.inl (Or.inl a))
          · exact Or.inl (Or.inl (Or.inr ⟨0, by omega, rfl, a⟩))
          · exact Or.inl (Or.inl (Or.inr ⟨g + 1, by omega, a2, a3⟩))
          · exact Or.inl (Or.inr a)
          · exact Or.inr a
        · rintro (((a | ⟨g, a1, a2, a3⟩) | a) | a)
          · exact Or.inl (Or.inl (Or.inl (Or.inl a)))
          · cases g with
            | zero =>
              have a2' : x = p := a2
              subst a2'
              exact Or.inl (Or.inl (Or.inl (Or.inr ⟨a3, rfl⟩)))
            | succ g => exact Or.inl (Or.inl (Or.inr ⟨g, by omega, a2, a3⟩))
          · exact Or.inl (Or.inr a)
          · exact Or.inr a
end
