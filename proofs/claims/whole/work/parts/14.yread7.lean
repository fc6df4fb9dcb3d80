def m_ty (c : Nat → Nat) (n t : Nat) : Nat := (rd_it (rd_T c n) t (true, 1)).2
def m_pI (c : Nat → Nat) (n : Nat) : Nat := m_ty c n (c 0)
def m_im (c : Nat → Nat) (n i : Nat) : Nat := (rd_it (rd_J c n) i (true, m_pI c n + 1)).2
def m_I (c : Nat → Nat) (n : Nat) : Nat := c (m_pI c n)
def m_pF (c : Nat → Nat) (n : Nat) : Nat := m_im c n (m_I c n)
def m_fn (c : Nat → Nat) (n f : Nat) : Nat := (rd_it (rd_F c n) f (true, m_pF c n + 1)).2
def m_F (c : Nat → Nat) (n : Nat) : Nat := c (m_pF c n)
def m_pG (c : Nat → Nat) (n : Nat) : Nat := m_fn c n (m_F c n)
def m_fa (c : Nat → Nat) (n f : Nat) : Nat := if f < m_I c n then m_im c n f else m_fn c n (f - m_I c n)
def ry_ok (m : Nat) (c : Nat → Nat) (n : Nat) (L : Int32) (TY TS IM FU SI WH TA LA GL GK GF : Nat → Int32) (GV : Nat → Int64) (EN EA H M : Nat → Int32) : Prop :=
  TY m = nI (c 0) ∧ c 0 ≤ 4 ∧ (∀ t, t < c 0 → TS (4 * m + t) = nI (sg c (m_ty c n t)) ∧ sg c (m_ty c n t) < 1024) ∧ i2_ok m c n (c 0) (m_ty c n) (m_pI c n) L IM FU SI WH TA LA GL GK GF GV EN EA H M
theorem rd_V_ok {c : Nat → Nat} {n : Nat} (h : (rd_V c n).1 = true) : rd_tk c n 0 4 (true, 0) = (true, 1) ∧ rd_tv c n 0 4 (true, 0) = c 0 ∧ c 0 ≤ 4 ∧ (rd_it (rd_T c n) (c 0) (true, 1)).1 = true := by
  have a := (rd_X_ok h).1
  obtain ⟨b1, b2, b3, b4, b5, b6⟩ := rd_tk_ok (rd_G_tr (rd_G_it (rd_G_T c n) _) a)
  rw [b3, b2] at a
  exact ⟨b2, b3, b5, a⟩
section
variable {y_count y_place y_m y_pos y_wrong y_least y_top y_frames y_invalid y_sp y_labels y_active y_fuel y_outcome y_trappedAt y_used y_waits y_printed : Int32} {y_constant y_result : Int64} {y_bytes y_there y_types y_typeSig y_imports y_functions y_sig y_what y_typeAt y_localsAt y_globals y_globalKind y_globalFree y_entries y_entriesAt y_hasMemory y_memory y_nest y_kinds y_shape y_gives y_height y_dead y_labelAt y_labelHeight y_labelGives y_callModule y_callFunction y_callBack y_callBase y_callLabels y_waiting y_prints : Nat → Int32} {y_globalValue y_stack : Nat → Int64}
variable {m : Nat} {c : Nat → Nat} {n p : Nat}
theorem y_read {post : SY → Prop} (C : cy_ok y_count (nI m) y_bytes m c n)
    (h : ∀ k L TY TS IM FU SI TA LA WH NE GL GK GF GV EN EA H M, (∀ j, j ≠ m → TY j = y_types j) → fr_i (4 * m) (4 * m + 4) y_typeSig TS → i2_fr m y_imports y_functions y_sig y_what y_typeAt y_localsAt IM FU SI WH TA LA →
      tl_fr m y_globals y_globalKind y_globalFree y_globalValue y_entries y_entriesAt y_hasMemory y_memory GL GK GF GV EN EA H M →
      ((rd_V c n).1 = true → ry_ok m c n L TY TS IM FU SI WH TA LA GL GK GF GV EN EA H M) →
      post (y_count, y_place, nI m, nI (rd_V c n).2, bb_w (rd_V c n).1, k, L, y_top, y_frames, y_invalid, y_sp, y_labels, y_active, y_fuel, y_outcome, y_trappedAt, y_result, y_used, y_waits, y_printed, y_bytes, y_there, TY, TS, IM, FU, SI, WH, TA, LA, GL, GK, GF, GV, EN, EA, H, M, NE, y_kinds, y_shape, y_gives, y_height, y_dead, y_stack, y_labelAt, y_labelHeight, y_labelGives, y_callModule, y_callFunction, y_callBack, y_callBase, y_callLabels, y_waiting, y_prints)) :
    wpY_read post (y_count, y_place, y_m, y_pos, y_wrong, y_constant, y_least, y_top, y_frames, y_invalid, y_sp, y_labels, y_active, y_fuel, y_outcome, y_trappedAt, y_result, y_used, y_waits, y_printed, y_bytes, y_there, y_types, y_typeSig, y_imports, y_functions, y_sig, y_what, y_typeAt, y_localsAt, y_globals, y_globalKind, y_globalFree, y_globalValue, y_entries, y_entriesAt, y_hasMemory, y_memory, y_nest, y_kinds, y_shape, y_gives, y_height, y_dead, y_stack, y_labelAt, y_labelHeight, y_labelGives, y_callModule, y_callFunction, y_callBack, y_callBase, y_callLabels, y_waiting, y_prints) (nI m) := by
  obtain ⟨hn, h140, hm, h3, hb, h256⟩ := id C
  have v1 := (rd_tv_le (c := c) (n := n) (lo := 0) (hi := 4) (q := (true, 0)) (by omega)).2
  have g1 := (rd_G_tk c n 0 4).1 (true, 0) (by dsimp only; omega)
  unfold wpY_read
  refine yr_take C (true, 0) (by dsimp only; omega) 0 4 (by omega) (by omega) ?_
  refine ⟨pk_in m 3 h3, nm_r (show _ = upd y_types m (nI (rd_tv c n 0 4 (true, 0))) from by rw [pk_cl m, nr_b (by omega)]) ⟨rd_tv c n 0 4 (true, 0) + 1, ?_⟩⟩
  refine y_40 C (rd_tv c n 0 4 (true, 0)) v1 pk_us rfl (fun t => (rd_it (rd_T c n) t (rd_tk c n 0 4 (true, 0))).2) (rd_tv c n 0 4 (true, 0)) 0 _ (rd_tk c n 0 4 (true, 0)) _ _ (Nat.zero_add _) (by omega) g1.2 (fun g hg => by rw [Nat.zero_add]) (fun _ t ht => absurd ht (by omega)) (fun k' L' TS' IM FU SI TA LA WH NE GL GK GF GV EN EA H M f1 f2 f3 f4 => ?_)
  refine h k' L' _ TS' IM FU SI TA LA WH NE GL GK GF GV EN EA H M (fun j hj => pk_un hj) f1 f2 f3 (fun y => ?_)
  obtain ⟨o1, o2, o3, o4⟩ := rd_V_ok y
  obtain ⟨y1, y2⟩ := f4 y
  rw [o2] at y1
  rw [o1, o2] at y2
  exact ⟨by rw [pk_us, o2], o3, fun t ht => by have := y1 t ht; rw [o1] at this; exact this, y2⟩
end
def xf_ok (b : Nat) (c : Nat → Nat) (n : Nat) (F : Nat → Int32) : Prop :=
  F b = nI (c 0) ∧ F (b + 1) = nI (m_I c n) ∧ F (b + 2) = nI (m_I c n + m_F c n) ∧ F (b + 3) = nI (c (m_pG c n)) ∧ F (b + 4) = nI (c (tl_q c n (m_pG c n))) ∧ F (b + 5) = nI (c (tl_m c n (m_pG c n))) ∧
  F (b + 6) = nI (tl_q c n (m_pG c n) + 1) ∧ F (b + 7) = nI (tl_m c n (m_pG c n) + 1) ∧ (∀ t, t < c 0 → F (b + 8 + t) = nI (m_ty c n t)) ∧ (∀ f, f < m_I c n + m_F c n → F (b + 12 + f) = nI (m_fa c n f)) ∧
  (∀ g, g < c (m_pG c n) → F (b + 19 + g) = nI (rd_it (rd_g c n) g (true, m_pG c n + 1)).2)
def m_P (c : Nat → Nat) (n : Nat) (P : Nat → Nat) : Nat → Nat := rd_FPs c n (m_F c n) (true, m_pF c n + 1) P
