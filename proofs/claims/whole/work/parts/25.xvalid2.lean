section
variable {u : SX} {c : Nat → Nat} {n p : Nat} {WP a : Int32} {F Pa A FH FR FD KI : Nat → Int32} {S : vt_St}
theorem x_label {post : Int32 → Prop} (M : mx_ok u 2 c) (d : Nat) (hd : d < 256) (hF : S.2.1 ≠ []) (R : XV c S A FH FR FD KI)
    (hs : d < S.2.1.length → vt_w d S ≤ 2 → post (nI (vt_w d S))) (hf : S.2.1.length ≤ d → post (-1)) : wpX_labelWants post (xl u WP a (nI S.2.1.length) (nI S.1.length) F Pa A FH FR FD KI) (nI d) := by
  obtain ⟨K, Fr, b⟩ := S
  obtain ⟨rk, rf, s1, s2, s3, s4⟩ := R
  dsimp only at rk rf s1 s2 s3 s4 hF hs hf
  have hl : 0 < Fr.length := List.length_pos_iff.mpr hF
  have e0 : nI Fr.length - 1 = nI (Fr.length - 1) := pk_sub (b := 1) hl
  by_cases hc : Fr.length ≤ d
  · refine nm_r (show (nI Fr.length - 1) - nI d = nI (Fr.length - 1) - nI d from by rw [e0]) ?_
    exact br_t (pk_sneg (by omega) (by omega)) (hf hc)
  · have e2 : (nI Fr.length - 1) - nI d = nI (Fr.length - 1 - d) := by rw [e0, pk_sub (by omega)]
    have e : vt_w d (K, Fr, b) = if f_c (Fr.drop d) = 3 then 0 else f_g (Fr.drop d) := if_neg hc
    obtain ⟨a1, a2, a3, a4, a5⟩ := xv_drop Fr d (by omega) rf
    obtain ⟨b1, b2⟩ := sn_drop Fr d _ s4
    have h' := hs (by omega) (by rw [e]; split <;> omega)
    rw [e] at h'
    have eR : FR (nI (Fr.length - 1 - d)).toNatClampNeg = nI (f_g (Fr.drop d)) := by rw [pk_cl (Fr.length - 1 - d)]; exact a1
    have eA : A (nI (Fr.length - 1 - d)).toNatClampNeg = nI (f_o (Fr.drop d)) := by rw [pk_cl (Fr.length - 1 - d)]; exact a2
    refine nm_r e2 (pk_lt (Fr.length - 1 - d) 0 (fun z => absurd z (by omega)) (fun _ => pk_lt (Fr.length - 1 - d) 8 (fun _ => ?_) (fun z => absurd z (by omega))))
    have w44 : ¬ f_c (Fr.drop d) = 3 → wX_labelWants_44 post (nI (Fr.length - 1 - d)) (gx_byteCount u) WP a (nI ((K, Fr, b)).2.1.length) (nI ((K, Fr, b)).1.length) (gx_valueCount u) (gx_activeCount u) (gx_goesOn u) (gx_outcome u) (gx_resultValue u) (gx_trapPlace u) (gx_fuelUsed u) (gx_firstWaiting u) (gx_waitingCount u) (gx_printCount u) (gx_code u) F Pa (gx_loaded u) (gx_globals u) (gx_memories u) A FH FR FD KI (gx_values u) (gx_variables u) (gx_activeSlot u) (gx_activeGives u) (gx_activeFrame u) (gx_activeResume u) (gx_waiting u) (gx_prints u) := by
      intro z
      rw [if_neg z] at h'
      exact br_t rfl ⟨pk_in (Fr.length - 1 - d) 8 (by omega), eq_p (P := post) eR h'⟩
    refine pk_le (Fr.length - 1 - d) 0 (fun z => w44 (by rw [a4 (by omega)]; decide)) (fun z => ⟨pk_in (Fr.length - 1 - d) 140 (by omega), ?_⟩)
    refine eq_p (P := fun w => wpX_byteAt _ _ _ w) eA ?_
    refine xx_byte (m := 2) M (by omega) (by omega) ?_
    refine pk_eq (c (f_o (Fr.drop d))) 3 (fun y => ?_) (fun y => w44 (fun q => y ((a5 z).mp q))) rfl rfl (by have := M.2.1 (f_o (Fr.drop d)); omega)
    rw [if_pos ((a5 z).mpr y)] at h'
    exact br_f (by decide) h'
theorem x_end {post : Int32 → SX → Prop} {P : Nat → Nat} (M : mx_ok u 2 c) (hPa : xr_Pa Pa P) (op : Nat) (hop : op = 5 ∨ op = 6) (ha : a = nI p) (hp : p < 140) (hPo : op = 6 → c (f_o S.2.1) = 4 → P (f_o S.2.1) < 140) (hE : op = 6 → (c (f_o S.2.1) = 4 ∧ P (f_o S.2.1) = p ↔ f_c S.2.1 = 4)) (h54 : op = 5 → f_c S.2.1 = 4) (hF : S.2.1 ≠ []) (hb : S.2.2 = false) (R : XV c S A FH FR FD KI)
    (hs : (vt_close op S).2.2 = false → ∀ kc FD KI, ((vt_close op S).2.1 ≠ [] → kc = nI (vt_close op S).1.length ∧ XV c (vt_close op S) A FH FR FD KI) → post 1 (xl u WP a (nI (vt_close op S).2.1.length) kc F Pa A FH FR FD KI))
    (hf : (vt_close op S).2.2 = true → ∀ fc kc FD KI, post 0 (xl u WP a fc kc F Pa A FH FR FD KI)) : wpX_checkEnd post (xl u WP a (nI S.2.1.length) (nI S.1.length) F Pa A FH FR FD KI) (nI op) := by
  obtain ⟨K, Fr, b⟩ := S
  dsimp only at hF hb
  subst hb
  subst ha
  cases Fr with
  | nil => exact absurd rfl hF
  | cons x Fr =>
    obtain ⟨cd, g, hh, d, o⟩ := x
    obtain ⟨rk, ⟨r1, r2, r3, r4, r5, r6, r7, r8⟩, s1, s2, s3, s4, s5, s6, s7⟩ := id R
    dsimp only at rk s1 s2 s3 s4
    simp only [List.length_cons] at s2
    have hE' : op = 6 → (c o = 4 ∧ P o = p ↔ cd = 4) := hE
    have hPo' : op = 6 → c o = 4 → P o < 140 := hPo
    have h54' : op = 5 → cd = 4 := h54
    have eR : FR (nI Fr.length).toNatClampNeg = nI g := by rw [pk_cl Fr.length]; exact r2
    have eH : FH (nI Fr.length).toNatClampNeg = nI hh := by rw [pk_cl Fr.length]; exact r1
    have eA : A (nI Fr.length).toNatClampNeg = nI o := by rw [pk_cl Fr.length]; exact r4
    unfold wpX_checkEnd
    refine xx_last (k := Fr.length + 1) (l := 8) (by omega) (by omega) (by omega) ?_
    rw [Nat.add_sub_cancel]
    refine ⟨pk_in Fr.length 8 (by omega), nm_r eR ?_⟩
    have ecl : vt_cl op (K, (cd, g, hh, d, o) :: Fr, false) = vt_bad (vt_pr g (K, (cd, g, hh, d, o) :: Fr, false)) (decide ((vt_pr g (K, (cd, g, hh, d, o) :: Fr, false)).1.length ≠ hh ∨ (op = 6 ∧ cd = 4 ∧ g ≠ 0))) := rfl
    have ebad : (vt_cl op (K, (cd, g, hh, d, o) :: Fr, false)).2.2 = true → (vt_close op (K, (cd, g, hh, d, o) :: Fr, false)).2.2 = true := by
      intro z
      unfold vt_close
      split
      · exact z
      · split
        · exact z
        · unfold vt_gr vt_gv
          repeat' split
          all_goals first | exact z | rfl
    refine x_take g (by omega) (by simp) rfl R (fun h1 R1 => br_f (by decide) ⟨pk_in Fr.length 140 (by omega), ?_⟩) (fun h1 kc => br_t rfl ?_)
    · have eF2 : (vt_pr g (K, (cd, g, hh, d, o) :: Fr, false)).2.1 = (cd, g, hh, d, o) :: Fr := fk_pr g _
      generalize eS1 : vt_pr g (K, (cd, g, hh, d, o) :: Fr, false) = S1 at R1 eF2 ecl h1
      obtain ⟨K1, F1, b1⟩ := S1
      dsimp only at eF2 h1
      subst eF2
      subst h1
      obtain ⟨rk1, ⟨p1, p2, p3, p4, p5, p6, p7, p8⟩, q1, q2, q3, q4, q5, q6, q7⟩ := id R1
      dsimp only at rk1 q1 q2 q3 q4
      refine pk_eq K1.length hh (fun z => ?_) (fun z => ?_) rfl eH
      · rcases hop with rfl | rfl
        · have hc : vt_close 5 (K, (cd, g, hh, d, o) :: Fr, false) = (K1, (5, g, hh, false, o) :: Fr, false) := by
            rw [vt_close, if_pos rfl, ecl]
            show (K1, _, false || _) = _
            rw [decide_eq_false (fun y => y.elim (fun w => w z) (fun w => absurd w.1 (by decide)))]
            rfl
          rw [hc] at hs
          refine br_t rfl ⟨pk_in Fr.length 8 (by omega), nm_r (show upd FD (nI Fr.length).toNatClampNeg (vp_nar .boolean 0) = upd FD Fr.length (bb_i false) from by rw [pk_cl Fr.length]; rfl) ?_⟩
          refine hs rfl _ _ KI (fun _ => ⟨rfl, rk1, ⟨p1, p2, pk_us, p4, p5, fun y => ?_, fun y => ?_, xv_F_ext Fr p8 (fun _ _ => rfl) (fun _ _ => rfl) (fun _ _ => rfl) (fun j hj => pk_un (by omega))⟩, q1, by simp only [List.length_cons]; omega, q3, q4, q5, by omega, q7⟩)
          · have := (p6 y).1; have := h54' rfl; omega
          · have := p7 y; have := h54' rfl; omega
        · refine br_f (by decide) ⟨pk_in Fr.length 140 (by omega), nm_r eA ?_⟩
          have hE2 := hE' rfl
          have w93 : ¬ (cd = 4 ∧ g ≠ 0) → wX_checkEnd_93 post (nI g) (gx_byteCount u) WP (nI p) (nI ((K1, (cd, g, hh, d, o) :: Fr, false)).2.1.length) (nI ((K1, (cd, g, hh, d, o) :: Fr, false)).1.length) (gx_valueCount u) (gx_activeCount u) (gx_goesOn u) (gx_outcome u) (gx_resultValue u) (gx_trapPlace u) (gx_fuelUsed u) (gx_firstWaiting u) (gx_waitingCount u) (gx_printCount u) (gx_code u) F Pa (gx_loaded u) (gx_globals u) (gx_memories u) A FH FR FD KI (gx_values u) (gx_variables u) (gx_activeSlot u) (gx_activeGives u) (gx_activeFrame u) (gx_activeResume u) (gx_waiting u) (gx_prints u) := by
            intro z2
            have ecl2 : vt_cl 6 (K, (cd, g, hh, d, o) :: Fr, false) = (K1, (cd, g, hh, d, o) :: Fr, false) := by
              rw [ecl]
              show (K1, _, false || _) = _
              rw [decide_eq_false (fun y => y.elim (fun w => w z) (fun w => z2 w.2))]
              rfl
            refine nm_r (show nI (Fr.length + 1) - 1 = nI Fr.length from nI_pred Fr.length) ?_
            by_cases hT : Fr = []
            · have hc : vt_close 6 (K, (cd, g, hh, d, o) :: Fr, false) = (K1, [], false) := by
                rw [vt_close, if_neg (by decide), if_pos (by exact hT), ecl2]
              rw [hc] at hs
              subst hT
              have hs' := fun kc KI => hs rfl kc FD KI (fun y => absurd rfl y)
              refine pk_eq g 0 (fun y => ⟨bb_nar true, hs' _ KI⟩) (fun y => pk_lt K1.length 20 (fun y2 => ⟨pk_in K1.length 20 y2, nm_e (nm_e ⟨bb_nar true, hs' _ _⟩)⟩) (fun y2 => ?_))
              have := (r6 rfl).2
              exact absurd y2 (by omega)
            · have hc : vt_close 6 (K, (cd, g, hh, d, o) :: Fr, false) = vt_gr g (K1, Fr, false) := by
                rw [vt_close, if_neg (by decide), if_neg (by exact hT), ecl2]; rfl
              rw [hc] at hs hf
              simp only [List.length_cons] at q2
              refine x_gr (S := (K1, Fr, false)) g (by omega) rfl ⟨rk1, p8, q1, by dsimp only; omega, q3, sn_F_mono q7 q4⟩ (fun y KI R2 => ⟨bb_nar true, hs y _ FD KI (fun _ => ⟨rfl, R2⟩)⟩) (fun y => ⟨bb_nar false, hf y _ _ FD KI⟩)
          refine pk_eq g 0 (fun y => w93 (fun q => q.2 y)) (fun y => ?_)
          refine xx_byte (m := 2) M (by omega) (by omega) ?_
          refine pk_eq (c o) 4 (fun y2 => ?_) (fun y2 => w93 (fun q => y2 (hE2.mpr q.1).1)) rfl rfl (by have := M.2.1 o; omega)
          refine xx_part (m := 2) (P := P) (hPa o r5) (by omega) r5 ?_
          refine pk_eq (P o) p (fun y3 => ?_) (fun y3 => w93 (fun q => y3 (hE2.mpr q.1).2)) rfl rfl (by have := hPo' rfl y2; omega)
          refine hf (ebad ?_) _ _ FD KI
          rw [ecl]
          show (false || _) = true
          rw [decide_eq_true (Or.inr ⟨rfl, hE2.mp ⟨y2, y3⟩, y⟩)]
          rfl
      · refine hf (ebad ?_) _ _ FD KI
        rw [ecl]
        show (false || _) = true
        rw [decide_eq_true (Or.inl z)]
        rfl
    · refine hf (ebad ?_) _ _ FD KI
      rw [ecl]
      show ((vt_pr g (K, (cd, g, hh, d, o) :: Fr, false)).2.2 || _) = true
      rw [h1]; rfl
end
