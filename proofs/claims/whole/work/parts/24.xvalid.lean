def xk (k : Nat) : Nat := if k = 0 then 3 else k
def xv_K (KI : Nat → Int32) : List Nat → Prop
  | [] => True
  | k :: K => KI K.length = nI (xk k) ∧ xv_K KI K
def xv_F (c : Nat → Nat) (A FH FR FD : Nat → Int32) : List vt_Fr → Prop
  | [] => True
  | (cd, g, h, d, o) :: F => FH F.length = nI h ∧ FR F.length = nI g ∧ FD F.length = bb_i d ∧ A F.length = nI o ∧ o < 140 ∧ (F = [] → cd = 0 ∧ h = 0) ∧ (F ≠ [] → (cd = 2 ∧ c o = 2) ∨ (cd = 3 ∧ c o = 3) ∨ ((cd = 4 ∨ cd = 5) ∧ c o = 4)) ∧ xv_F c A FH FR FD F
def XV (c : Nat → Nat) (S : vt_St) (A FH FR FD KI : Nat → Int32) : Prop := xv_K KI S.1 ∧ xv_F c A FH FR FD S.2.1 ∧ sn S
theorem xv_K_ext {A A' : Nat → Int32} : ∀ K : List Nat, xv_K A K → (∀ j, j < K.length → A' j = A j) → xv_K A' K := by
  intro K
  induction K with
  | nil => intro _ _; trivial
  | cons x K ih =>
    intro h e
    obtain ⟨h1, h2⟩ := h
    refine ⟨?_, ih h2 (fun j hj => e j (by simp only [List.length_cons]; omega))⟩
    rw [e _ (by simp only [List.length_cons]; omega)]
    exact h1
theorem xv_K_drop {KI : Nat → Int32} : ∀ (K : List Nat) j, xv_K KI K → xv_K KI (K.drop j) := by
  intro K
  induction K with
  | nil => intro j _; simp [xv_K]
  | cons x K ih =>
    intro j h
    cases j with
    | zero => exact h
    | succ j => exact ih j h.2
theorem xv_F_ext {c : Nat → Nat} {A FH FR FD A' FH' FR' FD' : Nat → Int32} : ∀ F : List vt_Fr, xv_F c A FH FR FD F → (∀ j, j < F.length → A' j = A j) → (∀ j, j < F.length → FH' j = FH j) → (∀ j, j < F.length → FR' j = FR j) → (∀ j, j < F.length → FD' j = FD j) → xv_F c A' FH' FR' FD' F := by
  intro F
  induction F with
  | nil => intro _ _ _ _ _; trivial
  | cons x F ih =>
    intro h e1 e2 e3 e4
    obtain ⟨cd, g, hh, d, o⟩ := x
    obtain ⟨h1, h2, h3, h4, h5, h6, h7, h8⟩ := h
    have hl : F.length < (List.length ((cd, g, hh, d, o) :: F)) := by simp only [List.length_cons]; omega
    exact ⟨by rw [e2 _ hl]; exact h1, by rw [e3 _ hl]; exact h2, by rw [e4 _ hl]; exact h3, by rw [e1 _ hl]; exact h4, h5, h6, h7, ih h8 (fun j hj => e1 j (by omega)) (fun j hj => e2 j (by omega)) (fun j hj => e3 j (by omega)) (fun j hj => e4 j (by omega))⟩
theorem xv_bot {c : Nat → Nat} {A FH FR FD : Nat → Int32} : ∀ F : List vt_Fr, F ≠ [] → xv_F c A FH FR FD F → FR 0 = nI (f_b F) := by
  intro F
  induction F with
  | nil => intro h; exact absurd rfl h
  | cons x F ih =>
    intro _ h
    obtain ⟨cd, g, hh, d, o⟩ := x
    obtain ⟨h1, h2, h3, h4, h5, h6, h7, h8⟩ := h
    rw [f_b]
    by_cases e : F = []
    · rw [if_pos e]; subst e; exact h2
    · rw [if_neg e]; exact ih e h8
theorem xv_drop {c : Nat → Nat} {A FH FR FD : Nat → Int32} : ∀ (F : List vt_Fr) d, d < F.length → xv_F c A FH FR FD F → FR (F.length - 1 - d) = nI (f_g (F.drop d)) ∧ A (F.length - 1 - d) = nI (f_o (F.drop d)) ∧ f_o (F.drop d) < 140 ∧ (F.length - 1 - d = 0 → f_c (F.drop d) = 0) ∧ (0 < F.length - 1 - d → (f_c (F.drop d) = 3 ↔ c (f_o (F.drop d)) = 3)) := by
  intro F
  induction F with
  | nil => intro d hd; simp at hd
  | cons x F ih =>
    intro d hd h
    obtain ⟨cd, g, hh, dd, o⟩ := x
    obtain ⟨h1, h2, h3, h4, h5, h6, h7, h8⟩ := h
    cases d with
    | zero =>
      simp only [List.length_cons, Nat.add_sub_cancel, Nat.sub_zero]
      refine ⟨h2, h4, h5, fun z => (h6 (List.length_eq_zero_iff.mp z)).1, fun z => ?_⟩
      have := h7 (List.length_pos_iff.mp z)
      show cd = 3 ↔ c o = 3
      omega
    | succ d =>
      simp only [List.length_cons] at hd ⊢
      have := ih d (by omega) h8
      rw [show F.length + 1 - 1 - (d + 1) = F.length - 1 - d by omega]
      exact this
section
variable {u : SX} {c : Nat → Nat} {WP a : Int32} {F Pa A FH FR FD KI : Nat → Int32} {S : vt_St}
theorem x_take {post : Int32 → SX → Prop} (k : Nat) (hk : k ≤ 2) (hF : S.2.1 ≠ []) (hb : S.2.2 = false) (R : XV c S A FH FR FD KI)
    (hs : (vt_pr k S).2.2 = false → XV c (vt_pr k S) A FH FR FD KI → post 1 (xl u WP a (nI (vt_pr k S).2.1.length) (nI (vt_pr k S).1.length) F Pa A FH FR FD KI)) (hf : (vt_pr k S).2.2 = true → ∀ kc, post 0 (xl u WP a (nI S.2.1.length) kc F Pa A FH FR FD KI)) : wpX_take post (xl u WP a (nI S.2.1.length) (nI S.1.length) F Pa A FH FR FD KI) (nI k) := by
  refine pk_eq k 0 (fun z => ?_) (fun z => ?_)
  · have e : vt_pr k S = S := if_pos z
    rw [e] at hs; exact hs hb R
  · have e : vt_pr k S = vt_pl k S := if_neg z
    rw [e] at hs hf
    obtain ⟨K, Fr, b⟩ := S
    dsimp only at hF hb
    subst hb
    cases Fr with
    | nil => exact absurd rfl hF
    | cons x Fr =>
      obtain ⟨cd, g, hh, d, o⟩ := x
      obtain ⟨rk, ⟨r1, r2, r3, r4, r5, r6, r7, r8⟩, s1, s2, s3, s4, s5, s6, s7⟩ := R
      dsimp only at rk s1 s2 s3 s4
      simp only [List.length_cons] at s2
      have eH : FH (nI Fr.length).toNatClampNeg = nI hh := by rw [pk_cl Fr.length]; exact r1
      have eD : FD (nI Fr.length).toNatClampNeg = bb_i d := by rw [pk_cl Fr.length]; exact r3
      refine xx_last (k := Fr.length + 1) (l := 8) (by omega) (by omega) (by omega) ?_
      rw [Nat.add_sub_cancel]
      refine ⟨pk_in Fr.length 140 (by omega), ?_⟩
      by_cases hc : K.length = hh
      · have hS : vt_pl k (K, (cd, g, hh, d, o) :: Fr, false) = (K, (cd, g, hh, d, o) :: Fr, !d) := if_pos hc
        rw [hS] at hs hf
        refine pk_lt hh K.length (fun y => absurd y (by omega)) (fun _ => ⟨pk_in Fr.length 8 (by omega), ?_⟩) eH rfl
        refine eq_p (P := fun w => narrow .boolean (.int w) = .int w ∧ post w _) eD ⟨bb_nar d, ?_⟩
        cases d with
        | false => exact hf rfl _
        | true => exact hs rfl ⟨rk, ⟨r1, r2, r3, r4, r5, r6, r7, r8⟩, s1, by simp only [List.length_cons]; omega, s3, s4, s5, s6, s7⟩
      · cases K with
        | nil => exact absurd (show (0 : Nat) = hh from by simp only [List.length_nil] at s4; omega) hc
        | cons x K =>
          have hS : vt_pl k (x :: K, (cd, g, hh, d, o) :: Fr, false) = (K, (cd, g, hh, d, o) :: Fr, pl_f x k) := if_neg hc
          rw [hS] at hs hf
          simp only [List.length_cons] at s1 s4 hc
          have hx2 : x ≤ 2 := s3 x (by simp)
          have e2 : nI (K.length + 1) - 1 = nI K.length := nI_pred K.length
          have eK : KI (nI K.length).toNatClampNeg = nI (xk x) := by rw [pk_cl K.length]; exact rk.1
          have hxk : xk x ≤ 3 := by unfold xk; split <;> omega
          have R' : XV c (K, (cd, g, hh, d, o) :: Fr, pl_f x k) A FH FR FD KI := ⟨rk.2, ⟨r1, r2, r3, r4, r5, r6, r7, r8⟩, by dsimp only; omega, by simp only [List.length_cons]; omega, sn_K_t s3, by dsimp only; omega, s5, s6, s7⟩
          refine pk_lt hh (K.length + 1) (fun _ => nm_r e2 ⟨pk_in K.length 20 (by omega), ?_⟩) (fun y => absurd y (by omega)) eH rfl
          refine pk_eq (xk x) k (fun y => ?_) (fun y => ⟨pk_in K.length 20 (by omega), pk_eq (xk x) 3 (fun y2 => ?_) (fun y2 => ?_) eK rfl⟩) eK rfl
          · exact hs (if_neg (by unfold xk at y; split at y <;> omega)) R'
          · exact hs (if_neg (by unfold xk at y2; split at y2 <;> omega)) R'
          · refine hf (if_pos ?_) _
            by_cases x0 : x = 0
            · exact absurd (show xk x = 3 from if_pos x0) y2
            · rw [show xk x = x from if_neg x0] at y
              exact ⟨x0, z, y⟩
theorem x_take1 {post : Int32 → SX → Prop} (k : Nat) (hk1 : 1 ≤ k) (hk : k ≤ 2) (hF : S.2.1 ≠ []) (hb : S.2.2 = false) (R : XV c S A FH FR FD KI)
    (hs : (vt_pl k S).2.2 = false → XV c (vt_pl k S) A FH FR FD KI → post 1 (xl u WP a (nI (vt_pl k S).2.1.length) (nI (vt_pl k S).1.length) F Pa A FH FR FD KI)) (hf : (vt_pl k S).2.2 = true → ∀ kc, post 0 (xl u WP a (nI S.2.1.length) kc F Pa A FH FR FD KI)) : wpX_take post (xl u WP a (nI S.2.1.length) (nI S.1.length) F Pa A FH FR FD KI) (nI k) := by
  have e : vt_pr k S = vt_pl k S := if_neg (by omega)
  exact x_take k hk hF hb R (by rw [e]; exact hs) (by rw [e]; exact hf)
theorem x_top {post : Int32 → SX → Prop} (hF : S.2.1 ≠ []) (hb : S.2.2 = false) (R : XV c S A FH FR FD KI)
    (hs : (vt_pl 0 S).2.2 = false → XV c (vt_pl 0 S) A FH FR FD KI → vt_px 0 S ≤ 2 → post (nI (xk (vt_px 0 S))) (xl u WP a (nI (vt_pl 0 S).2.1.length) (nI (vt_pl 0 S).1.length) F Pa A FH FR FD KI)) (hf : (vt_pl 0 S).2.2 = true → vt_pl 0 S = (S.1, S.2.1, true) → post 0 (xl u WP a (nI S.2.1.length) (nI S.1.length) F Pa A FH FR FD KI)) : wpX_takeTop post (xl u WP a (nI S.2.1.length) (nI S.1.length) F Pa A FH FR FD KI) := by
  obtain ⟨K, Fr, b⟩ := S
  dsimp only at hF hb
  subst hb
  cases Fr with
  | nil => exact absurd rfl hF
  | cons x Fr =>
    obtain ⟨cd, g, hh, d, o⟩ := x
    obtain ⟨rk, ⟨r1, r2, r3, r4, r5, r6, r7, r8⟩, s1, s2, s3, s4, s5, s6, s7⟩ := R
    dsimp only at rk s1 s2 s3 s4
    simp only [List.length_cons] at s2
    have eH : FH (nI Fr.length).toNatClampNeg = nI hh := by rw [pk_cl Fr.length]; exact r1
    have eD : FD (nI Fr.length).toNatClampNeg = bb_i d := by rw [pk_cl Fr.length]; exact r3
    unfold wpX_takeTop
    refine xx_last (k := Fr.length + 1) (l := 8) (by omega) (by omega) (by omega) ?_
    rw [Nat.add_sub_cancel]
    refine ⟨pk_in Fr.length 140 (by omega), ?_⟩
    by_cases hc : K.length = hh
    · have hS : vt_pl 0 (K, (cd, g, hh, d, o) :: Fr, false) = (K, (cd, g, hh, d, o) :: Fr, !d) := if_pos hc
      have hx : vt_px 0 (K, (cd, g, hh, d, o) :: Fr, false) = 0 := if_pos hc
      rw [hS, hx] at hs
      rw [hS] at hf
      refine pk_lt hh K.length (fun y => absurd y (by omega)) (fun _ => ⟨pk_in Fr.length 8 (by omega), ?_⟩) eH rfl
      cases d with
      | false => exact br_t eD (hf rfl rfl)
      | true => exact br_f (by rw [eD]; decide) (hs rfl ⟨rk, ⟨r1, r2, r3, r4, r5, r6, r7, r8⟩, s1, by simp only [List.length_cons]; omega, s3, s4, s5, s6, s7⟩ (by omega))
    · cases K with
      | nil => exact absurd (show (0 : Nat) = hh from by simp only [List.length_nil] at s4; omega) hc
      | cons x K =>
        have hS : vt_pl 0 (x :: K, (cd, g, hh, d, o) :: Fr, false) = (K, (cd, g, hh, d, o) :: Fr, pl_f x 0) := if_neg hc
        have hx : vt_px 0 (x :: K, (cd, g, hh, d, o) :: Fr, false) = x := if_neg hc
        rw [hS, hx] at hs
        simp only [List.length_cons] at s1 s4 hc
        have hx2 : x ≤ 2 := s3 x (by simp)
        have e2 : nI (K.length + 1) - 1 = nI K.length := nI_pred K.length
        have eK : KI (nI K.length).toNatClampNeg = nI (xk x) := by rw [pk_cl K.length]; exact rk.1
        have R' : XV c (K, (cd, g, hh, d, o) :: Fr, pl_f x 0) A FH FR FD KI := ⟨rk.2, ⟨r1, r2, r3, r4, r5, r6, r7, r8⟩, by dsimp only; omega, by simp only [List.length_cons]; omega, sn_K_t s3, by dsimp only; omega, s5, s6, s7⟩
        refine pk_lt hh (K.length + 1) (fun _ => nm_r e2 ⟨pk_in K.length 20 (by omega), ?_⟩) (fun y => absurd y (by omega)) eH rfl
        exact eq_p (P := fun w => post w _) eK (hs (if_neg (by omega)) R' hx2)
theorem x_gv {post : Int32 → SX → Prop} (k : Nat) (hk : k ≤ 2) (hb : S.2.2 = false) (R : XV c S A FH FR FD KI)
    (hs : (vt_gv k S).2.2 = false → ∀ KI, XV c (vt_gv k S) A FH FR FD KI → post 1 (xl u WP a (nI (vt_gv k S).2.1.length) (nI (vt_gv k S).1.length) F Pa A FH FR FD KI)) (hf : (vt_gv k S).2.2 = true → post 0 (xl u WP a (nI S.2.1.length) (nI S.1.length) F Pa A FH FR FD KI)) : wpX_give post (xl u WP a (nI S.2.1.length) (nI S.1.length) F Pa A FH FR FD KI) (nI (xk k)) := by
  obtain ⟨K, Fr, b⟩ := S
  obtain ⟨rk, rf, s1, s2, s3, s4⟩ := R
  dsimp only at rk rf s1 s2 s3 s4 hb
  subst hb
  have hxk : 1 ≤ xk k ∧ xk k ≤ 3 := by unfold xk; split <;> omega
  refine pk_eq (xk k) 0 (fun z => absurd z (by omega)) (fun _ => ?_)
  by_cases hc : K.length = 20
  · have hS : vt_gv k (K, Fr, false) = (K, Fr, true) := if_pos hc
    rw [hS] at hf
    exact pk_lt K.length 20 (fun z => absurd z (by omega)) (fun _ => hf rfl)
  · have hS : vt_gv k (K, Fr, false) = (k :: K, Fr, false) := if_neg hc
    rw [hS] at hs
    refine pk_lt K.length 20 (fun z => ⟨pk_in K.length 20 z, nm_r (show upd KI (nI K.length).toNatClampNeg (nI (xk k)) = upd KI K.length (nI (xk k)) from by rw [pk_cl K.length]) (nm_r (nI_1 K.length) ?_)⟩) (fun z => absurd z (by omega))
    refine hs rfl _ ⟨⟨pk_us, xv_K_ext K rk (fun j hj => pk_un (by omega))⟩, rf, ?_, s2, ?_, ?_⟩
    · simp only [List.length_cons]; omega
    · intro j hj
      rcases List.mem_cons.mp hj with e | e
      · omega
      · exact s3 j e
    · exact sn_F_mono s4 (by simp only [List.length_cons]; omega)
theorem x_gr {post : Int32 → SX → Prop} (k : Nat) (hk : k ≤ 2) (hb : S.2.2 = false) (R : XV c S A FH FR FD KI)
    (hs : (vt_gr k S).2.2 = false → ∀ KI, XV c (vt_gr k S) A FH FR FD KI → post 1 (xl u WP a (nI (vt_gr k S).2.1.length) (nI (vt_gr k S).1.length) F Pa A FH FR FD KI)) (hf : (vt_gr k S).2.2 = true → post 0 (xl u WP a (nI S.2.1.length) (nI S.1.length) F Pa A FH FR FD KI)) : wpX_give post (xl u WP a (nI S.2.1.length) (nI S.1.length) F Pa A FH FR FD KI) (nI k) := by
  by_cases z : k = 0
  · have e : vt_gr k S = S := if_pos z
    rw [e] at hs
    exact pk_eq k 0 (fun _ => hs hb KI R) (fun y => absurd z y)
  · have e : vt_gr k S = vt_gv k S := if_neg z
    rw [e] at hs hf
    have e2 : xk k = k := if_neg z
    have := x_gv (u := u) (WP := WP) (a := a) (F := F) (Pa := Pa) (post := post) k hk hb R hs hf
    rw [e2] at this
    exact this
theorem x_die {post : Int32 → SX → Prop} (hF : S.2.1 ≠ []) (R : XV c S A FH FR FD KI)
    (h : ∀ FD, XV c (vt_die S) A FH FR FD KI → post 1 (xl u WP a (nI (vt_die S).2.1.length) (nI (vt_die S).1.length) F Pa A FH FR FD KI)) : wpX_goDead post (xl u WP a (nI S.2.1.length) (nI S.1.length) F Pa A FH FR FD KI) := by
  obtain ⟨K, Fr, b⟩ := S
  dsimp only at hF
  cases Fr with
  | nil => exact absurd rfl hF
  | cons x Fr =>
    obtain ⟨cd, g, hh, d, o⟩ := x
    obtain ⟨rk, ⟨r1, r2, r3, r4, r5, r6, r7, r8⟩, s1, s2, s3, s4, s5, s6, s7⟩ := R
    dsimp only at rk s1 s2 s3 s4
    simp only [List.length_cons] at s2
    have hl : (K.drop (K.length - hh)).length = hh := by rw [List.length_drop]; omega
    unfold wpX_goDead
    refine xx_last (k := Fr.length + 1) (l := 8) (by omega) (by omega) (by omega) ?_
    rw [Nat.add_sub_cancel]
    refine ⟨pk_in Fr.length 8 (by omega), nm_r (show upd FD (nI Fr.length).toNatClampNeg (vp_nar .boolean 1) = upd FD Fr.length (bb_i true) from by rw [pk_cl Fr.length]; rfl) ⟨pk_in Fr.length 140 (by omega), nm_r (show FH (nI Fr.length).toNatClampNeg = nI (K.drop (K.length - hh)).length from by rw [pk_cl Fr.length, hl]; exact r1) ?_⟩⟩
    refine h _ ⟨xv_K_drop K _ rk, ⟨r1, r2, pk_us, r4, r5, r6, r7, xv_F_ext Fr r8 (fun _ _ => rfl) (fun _ _ => rfl) (fun _ _ => rfl) (fun j hj => pk_un (by omega))⟩, ?_, ?_, sn_K_drop s3 _, ?_⟩
    · show (K.drop (K.length - hh)).length ≤ 20; omega
    · show (List.length ((cd, g, hh, true, o) :: Fr)) ≤ 8; simp only [List.length_cons]; omega
    · show sn_F (K.drop (K.length - hh)).length ((cd, g, hh, true, o) :: Fr); rw [hl]; exact ⟨by omega, s5, s6, s7⟩
theorem x_open {post : Int32 → SX → Prop} (cd x o : Nat) (hcd : cd ≤ 5) (hx : x ≤ 2) (ha : a = nI o) (ho : o < 140) (h0 : S.2.1 = [] → cd = 0 ∧ S.1 = []) (hn : S.2.1 ≠ [] → (cd = 2 ∧ c o = 2) ∨ (cd = 3 ∧ c o = 3) ∨ (cd = 4 ∧ c o = 4)) (hb : S.2.2 = false) (R : XV c S A FH FR FD KI)
    (hs : (vt_open cd x o S).2.2 = false → ∀ A FH FR FD, XV c (vt_open cd x o S) A FH FR FD KI → post 1 (xl u WP a (nI (vt_open cd x o S).2.1.length) (nI (vt_open cd x o S).1.length) F Pa A FH FR FD KI)) (hf : (vt_open cd x o S).2.2 = true → post 0 (xl u WP a (nI S.2.1.length) (nI S.1.length) F Pa A FH FR FD KI)) : wpX_openChecked post (xl u WP a (nI S.2.1.length) (nI S.1.length) F Pa A FH FR FD KI) (nI x) := by
  obtain ⟨K, Fr, b⟩ := S
  obtain ⟨rk, rf, s1, s2, s3, s4⟩ := R
  dsimp only at rk rf s1 s2 s3 s4 hb h0 hn
  subst hb
  subst ha
  by_cases hc : Fr.length = 8
  · have hS : vt_open cd x o (K, Fr, false) = (K, Fr, true) := if_pos hc
    rw [hS] at hf
    exact pk_lt Fr.length 8 (fun z => absurd z (by omega)) (fun _ => hf rfl)
  · have hS : vt_open cd x o (K, Fr, false) = (K, (cd, x, K.length, false, o) :: Fr, false) := if_neg hc
    rw [hS] at hs
    refine pk_lt Fr.length 8 (fun z => ⟨pk_in Fr.length 140 (by omega), nm_r (show upd A (nI Fr.length).toNatClampNeg (nI o) = upd A Fr.length (nI o) from by rw [pk_cl Fr.length]) ⟨pk_in Fr.length 140 (by omega), nm_r (show upd FH (nI Fr.length).toNatClampNeg (nI K.length) = upd FH Fr.length (nI K.length) from by rw [pk_cl Fr.length]) ⟨pk_in Fr.length 8 (by omega), nm_r (show upd FR (nI Fr.length).toNatClampNeg (nI x) = upd FR Fr.length (nI x) from by rw [pk_cl Fr.length]) ⟨pk_in Fr.length 8 (by omega), nm_r (show upd FD (nI Fr.length).toNatClampNeg (vp_nar .boolean 0) = upd FD Fr.length (bb_i false) from by rw [pk_cl Fr.length]; rfl) (nm_r (nI_1 Fr.length) ?_)⟩⟩⟩⟩) (fun z => absurd z (by omega))
    refine hs rfl _ _ _ _ ⟨rk, ⟨pk_us, pk_us, pk_us, pk_us, ho, fun z => ⟨(h0 z).1, by rw [(h0 z).2]; rfl⟩, fun z => ?_, xv_F_ext Fr rf (fun j hj => pk_un (by omega)) (fun j hj => pk_un (by omega)) (fun j hj => pk_un (by omega)) (fun j hj => pk_un (by omega))⟩, s1, ?_, s3, Nat.le_refl _, hx, hcd, s4⟩
    · have := hn z; omega
    · simp only [List.length_cons]; omega
end
