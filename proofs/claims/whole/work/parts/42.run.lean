abbrev ac : Type := Nat × Nat × Nat × Nat × Nat × List ev × (Nat → Int64) × List vt_Fr
def vb : List ac → Nat
  | [] => 0
  | (_, _, _, _, _, E, _, _) :: R => vb R + E.length
def fb : List ac → Nat
  | [] => 0
  | (_, _, _, _, _, _, _, F) :: R => fb R + F.length
def yb : List ac → Nat
  | [] => 0
  | (_, _, nv, _, _, E, _, _) :: R => yb R + nv + E.length
def a_p : List ac → Nat
  | [] => 0
  | (_, _, _, _, p, _, _, _) :: _ => p
def a_s : List ac → Nat
  | [] => 0
  | (s, _, _, _, _, _, _, _) :: _ => s
def el_ok (V : Nat → Int64) (b : Nat) : List ev → Prop
  | [] => True
  | x :: E => V (b + E.length) = x.2 ∧ el_ok V b E
def xfr (FA FH : Nat → Int32) (b v : Nat) : List vt_Fr → Prop
  | [] => True
  | (_, _, h, _, o) :: F => FA (b + F.length) = nI o ∧ FH (b + F.length) = nI (v + h) ∧ xfr FA FH b v F
def yfr (LA LH LG : Nat → Int32) (b v : Nat) : List vt_Fr → Prop
  | [] => True
  | (cd, g, h, _, o) :: F => LA (b + F.length) = (if F = [] then -1 else nI o) ∧ LH (b + F.length) = nI (v + h) ∧ LG (b + F.length) = nI (if cd = 3 then 0 else g) ∧ yfr LA LH LG b v F
def xa_ok (FA FH : Nat → Int32) (V VR : Nat → Int64) (AS AG AF : Nat → Int32) : List ac → Prop
  | [] => True
  | (s, _, nv, g, _, E, L, F) :: R => el_ok V (vb R) E ∧ (∀ v, v < nv → VR (R.length * 6 + v) = L v) ∧ xfr FA FH (fb R) (vb R) F ∧ AS R.length = nI s ∧ AG R.length = nI g ∧ AF R.length = nI (fb R) ∧ xa_ok FA FH V VR AS AG AF R
def ar_ok (AR : Nat → Int32) : List ac → Prop
  | [] => True
  | (_, _, _, _, p, _, _, _) :: R => AR R.length = nI p ∧ ar_ok AR R
def ya_ok (ST : Nat → Int64) (LA LH LG CM CF CB CS CL : Nat → Int32) : List ac → Prop
  | [] => True
  | (s, f, nv, _, _, E, L, F) :: R => el_ok ST (yb R + nv) E ∧ (∀ v, v < nv → ST (yb R + v) = L v) ∧ yfr LA LH LG (fb R) (yb R + nv) F ∧ CM R.length = nI s ∧ CF R.length = nI f ∧ CS R.length = nI (yb R) ∧ CL R.length = nI (fb R) ∧ CB R.length = nI (a_p R) ∧ ya_ok ST LA LH LG CM CF CB CS CL R
theorem el_ext {V V' : Nat → Int64} {b : Nat} : ∀ E : List ev, el_ok V b E → (∀ j, b ≤ j → j < b + E.length → V' j = V j) → el_ok V' b E := by
  intro E
  induction E with
  | nil => intro _ _; trivial
  | cons x E ih =>
    intro h e
    obtain ⟨h1, h2⟩ := h
    simp only [List.length_cons] at e
    exact ⟨by rw [e _ (by omega) (by omega)]; exact h1, ih h2 (fun j a b => e j a (by omega))⟩
theorem el_drop {V : Nat → Int64} {b : Nat} : ∀ (E : List ev) j, el_ok V b E → el_ok V b (E.drop j) := by
  intro E
  induction E with
  | nil => intro j _; rw [List.drop_nil]; trivial
  | cons x E ih =>
    intro j h
    cases j with
    | zero => exact h
    | succ j => exact ih j h.2
theorem el_push {V : Nat → Int64} {b : Nat} {E : List ev} {k : Nat} {v : Int64} (h : el_ok V b E) : el_ok (vp_updL V (b + E.length) v) b ((k, v) :: E) := ⟨pk_uLs, el_ext E h (fun j _ hj => pk_uLn (by omega))⟩
theorem xfr_ext {FA FH FA' FH' : Nat → Int32} {b v : Nat} : ∀ F : List vt_Fr, xfr FA FH b v F → (∀ j, b ≤ j → j < b + F.length → FA' j = FA j) → (∀ j, b ≤ j → j < b + F.length → FH' j = FH j) → xfr FA' FH' b v F := by
  intro F
  induction F with
  | nil => intro _ _ _; trivial
  | cons x F ih =>
    intro h e1 e2
    obtain ⟨cd, g, hh, dd, o⟩ := x
    obtain ⟨h1, h2, h3⟩ := h
    simp only [List.length_cons] at e1 e2
    exact ⟨by rw [e1 _ (by omega) (by omega)]; exact h1, by rw [e2 _ (by omega) (by omega)]; exact h2, ih h3 (fun j a b => e1 j a (by omega)) (fun j a b => e2 j a (by omega))⟩
theorem xfr_drop {FA FH : Nat → Int32} {b v : Nat} : ∀ (F : List vt_Fr) j, xfr FA FH b v F → xfr FA FH b v (F.drop j) := by
  intro F
  induction F with
  | nil => intro j _; rw [List.drop_nil]; trivial
  | cons x F ih =>
    intro j h
    cases j with
    | zero => exact h
    | succ j => obtain ⟨cd, g, hh, dd, o⟩ := x; exact ih j h.2.2
theorem xfr_at {FA FH : Nat → Int32} {b v : Nat} {F : List vt_Fr} (h : xfr FA FH b v F) (hF : F ≠ []) : FA (b + (F.length - 1)) = nI (f_o F) ∧ FH (b + (F.length - 1)) = nI (v + f_h F) := by
  cases F with
  | nil => exact absurd rfl hF
  | cons x F => obtain ⟨cd, g, hh, dd, o⟩ := x; exact ⟨h.1, h.2.1⟩
theorem yfr_ext {LA LH LG LA' LH' LG' : Nat → Int32} {b v : Nat} : ∀ F : List vt_Fr, yfr LA LH LG b v F → (∀ j, b ≤ j → j < b + F.length → LA' j = LA j) → (∀ j, b ≤ j → j < b + F.length → LH' j = LH j) → (∀ j, b ≤ j → j < b + F.length → LG' j = LG j) → yfr LA' LH' LG' b v F := by
  intro F
  induction F with
  | nil => intro _ _ _ _; trivial
  | cons x F ih =>
    intro h e1 e2 e3
    obtain ⟨cd, g, hh, dd, o⟩ := x
    obtain ⟨h1, h2, h3, h4⟩ := h
    simp only [List.length_cons] at e1 e2 e3
    exact ⟨by rw [e1 _ (by omega) (by omega)]; exact h1, by rw [e2 _ (by omega) (by omega)]; exact h2, by rw [e3 _ (by omega) (by omega)]; exact h3, ih h4 (fun j a b => e1 j a (by omega)) (fun j a b => e2 j a (by omega)) (fun j a b => e3 j a (by omega))⟩
theorem yfr_drop {LA LH LG : Nat → Int32} {b v : Nat} : ∀ (F : List vt_Fr) j, yfr LA LH LG b v F → yfr LA LH LG b v (F.drop j) := by
  intro F
  induction F with
  | nil => intro j _; rw [List.drop_nil]; trivial
  | cons x F ih =>
    intro j h
    cases j with
    | zero => exact h
    | succ j => obtain ⟨cd, g, hh, dd, o⟩ := x; exact ih j h.2.2.2
theorem yfr_at {LA LH LG : Nat → Int32} {b v : Nat} {F : List vt_Fr} (h : yfr LA LH LG b v F) (hF : F ≠ []) : LA (b + (F.length - 1)) = (if F.tail = [] then -1 else nI (f_o F)) ∧ LH (b + (F.length - 1)) = nI (v + f_h F) ∧ LG (b + (F.length - 1)) = nI (if f_c F = 3 then 0 else f_g F) := by
  cases F with
  | nil => exact absurd rfl hF
  | cons x F => obtain ⟨cd, g, hh, dd, o⟩ := x; exact ⟨h.1, h.2.1, h.2.2.1⟩
theorem xa_ext {FA FH FA' FH' : Nat → Int32} {V VR V' VR' : Nat → Int64} {AS AG AF AS' AG' AF' : Nat → Int32} : ∀ R : List ac, xa_ok FA FH V VR AS AG AF R → (∀ j, j < fb R → FA' j = FA j) → (∀ j, j < fb R → FH' j = FH j) → (∀ j, j < vb R → V' j = V j) → (∀ j, j < R.length * 6 → VR' j = VR j) → (∀ j, j < R.length → AS' j = AS j) → (∀ j, j < R.length → AG' j = AG j) → (∀ j, j < R.length → AF' j = AF j) → (∀ a, a ∈ R → a.2.2.1 ≤ 6) → xa_ok FA' FH' V' VR' AS' AG' AF' R := by
  intro R
  induction R with
  | nil => intro _ _ _ _ _ _ _ _ _; trivial
  | cons a R ih =>
    intro h e1 e2 e3 e4 e5 e6 e7 e8
    obtain ⟨s, f, nv, g, p, E, L, F⟩ := a
    obtain ⟨h1, h2, h3, h4, h5, h6, h7⟩ := h
    have hnv : nv ≤ 6 := e8 _ (List.mem_cons_self ..)
    simp only [fb, vb, List.length_cons] at e1 e2 e3 e4 e5 e6 e7
    refine ⟨el_ext E h1 (fun j _ b => e3 j b), fun v hv => ?_, xfr_ext F h3 (fun j _ b => e1 j b) (fun j _ b => e2 j b), ?_, ?_, ?_, ih h7 (fun j b => e1 j (by omega)) (fun j b => e2 j (by omega)) (fun j b => e3 j (by omega)) (fun j b => e4 j (by omega)) (fun j b => e5 j (by omega)) (fun j b => e6 j (by omega)) (fun j b => e7 j (by omega)) (fun a ha => e8 a (List.mem_cons_of_mem _ ha))⟩
    · rw [e4 _ (by omega)]; exact h2 v hv
    · rw [e5 _ (by omega)]; exact h4
    · rw [e6 _ (by omega)]; exact h5
    · rw [e7 _ (by omega)]; exact h6
theorem ar_ext {AR AR' : Nat → Int32} : ∀ R : List ac, ar_ok AR R → (∀ j, j < R.length → AR' j = AR j) → ar_ok AR' R := by
  intro R
  induction R with
  | nil => intro _ _; trivial
  | cons a R ih =>
    intro h e
    obtain ⟨s, f, nv, g, p, E, L, F⟩ := a
    simp only [List.length_cons] at e
    exact ⟨by rw [e _ (by omega)]; exact h.1, ih h.2 (fun j b => e j (by omega))⟩
theorem ya_ext {ST ST' : Nat → Int64} {LA LH LG CM CF CB CS CL LA' LH' LG' CM' CF' CB' CS' CL' : Nat → Int32} : ∀ R : List ac, ya_ok ST LA LH LG CM CF CB CS CL R → (∀ j, j < yb R → ST' j = ST j) → (∀ j, j < fb R → LA' j = LA j) → (∀ j, j < fb R → LH' j = LH j) → (∀ j, j < fb R → LG' j = LG j) → (∀ j, j < R.length → CM' j = CM j) → (∀ j, j < R.length → CF' j = CF j) → (∀ j, j < R.length → CB' j = CB j) → (∀ j, j < R.length → CS' j = CS j) → (∀ j, j < R.length → CL' j = CL j) → ya_ok ST' LA' LH' LG' CM' CF' CB' CS' CL' R := by
  intro R
  induction R with
  | nil => intro _ _ _ _ _ _ _ _ _ _; trivial
  | cons a R ih =>
    intro h e1 e2 e3 e4 e5 e6 e7 e8 e9
    obtain ⟨s, f, nv, g, p, E, L, F⟩ := a
    obtain ⟨h1, h2, h3, h4, h5, h6, h7, h8, h9⟩ := h
    simp only [fb, yb, List.length_cons] at e1 e2 e3 e4 e5 e6 e7 e8 e9
    refine ⟨el_ext E h1 (fun j _ b => e1 j b), fun v hv => ?_, yfr_ext F h3 (fun j _ b => e2 j b) (fun j _ b => e3 j b) (fun j _ b => e4 j b), ?_, ?_, ?_, ?_, ?_, ih h9 (fun j b => e1 j (by omega)) (fun j b => e2 j (by omega)) (fun j b => e3 j (by omega)) (fun j b => e4 j (by omega)) (fun j b => e5 j (by omega)) (fun j b => e6 j (by omega)) (fun j b => e7 j (by omega)) (fun j b => e8 j (by omega)) (fun j b => e9 j (by omega))⟩
    · rw [e1 _ (by omega)]; exact h2 v hv
    · rw [e5 _ (by omega)]; exact h4
    · rw [e6 _ (by omega)]; exact h5
    · rw [e8 _ (by omega)]; exact h6
    · rw [e9 _ (by omega)]; exact h7
    · rw [e7 _ (by omega)]; exact h8
def nvf (c : Nat → Nat) (n f : Nat) : Nat := c (m_ty c n (c (m_fa c n f))) + c (m_fa c n f + 1)
def rsf (c : Nat → Nat) (n f : Nat) : Nat := ty_r c (m_ty c n (c (m_fa c n f)))
section
variable (B : Nat → Bool) (C : Nat → Nat → Nat) (N : Nat → Nat) (PP : Nat → Nat → Nat)
def a_ok (pend s f nv g p : Nat) (E : List ev) (L : Nat → Int64) (F : List vt_Fr) : Prop :=
  s < 2 ∧ B s = true ∧ m_I (C s) (N s) ≤ f ∧ f < m_I (C s) (N s) + m_F (C s) (N s) ∧ (nv = nvf (C s) (N s) f ∧ nv ≤ 6) ∧ (g = rsf (C s) (N s) f ∧ g ≤ 2) ∧ tv E ∧ E.length ≤ 20 ∧ F ≠ [] ∧ F.length ≤ 8 ∧ fo (C s) (N s) (PP s) f (ek E) F ∧ f_b F = g ∧ (∃ k, wk (C s) (N s) (PP s) f k p (vt_gr pend (ek E, F, false))) ∧ (∀ v, v < nv → vk (C s) (N s) f v = 1 → sx64 (L v)) ∧ p < 140 ∧ dp (C s) p F
def ch_ok (g0 : Nat) : Nat → List ac → Prop
  | pend, [] => pend = g0
  | pend, (s, f, nv, g, p, E, L, F) :: R => a_ok B C N PP pend s f nv g p E L F ∧ ch_ok g0 g R
theorem ch_le {g0 : Nat} : ∀ (R : List ac) pend, ch_ok B C N PP g0 pend R → vb R ≤ 20 * R.length ∧ fb R ≤ 8 * R.length ∧ yb R ≤ 26 * R.length ∧ (∀ a, a ∈ R → a.2.2.1 ≤ 6) ∧ a_p R < 140 := by
  intro R
  induction R with
  | nil => intro _ _; exact ⟨Nat.le_refl _, Nat.le_refl _, Nat.le_refl _, fun a ha => absurd ha (List.not_mem_nil), by show 0 < 140; omega⟩
  | cons a R ih =>
    intro pend h
    obtain ⟨s, f, nv, g, p, E, L, F⟩ := a
    obtain ⟨⟨a1, a2, a3, a4, ⟨a5, a5'⟩, a6, a7, a8, a9, a10, a11, a12, a13, a14, a15⟩, h2⟩ := h
    obtain ⟨i1, i2, i3, i4, i5⟩ := ih g h2
    simp only [vb, fb, yb, List.length_cons, a_p]
    refine ⟨by omega, by omega, by omega, fun a ha => ?_, a15.1⟩
    rcases List.mem_cons.mp ha with rfl | ha
    · exact a5'
    · exact i4 a ha
def wo_ok (n : Nat) (cd : Nat → Nat) (x_byteCount : Int32) (x_wrongPlace : Int32) (x_firstWaiting : Int32) (x_waitingCount : Int32) (x_printCount : Int32) (x_code : Nat → Int32) (x_facts : Nat → Int32) (x_partner : Nat → Int32) (x_loaded : Nat → Int32) (x_globals : Nat → Int64) (x_memories : Nat → Int32) (x_waiting : Nat → Int32) (x_prints : Nat → Int32) (y_count : Int32) (y_place : Int32) (y_waits : Int32) (y_printed : Int32) (y_bytes : Nat → Int32) (y_there : Nat → Int32) (y_types : Nat → Int32) (y_typeSig : Nat → Int32) (y_imports : Nat → Int32) (y_functions : Nat → Int32) (y_sig : Nat → Int32) (y_what : Nat → Int32) (y_localsAt : Nat → Int32) (y_globals : Nat → Int32) (y_globalValue : Nat → Int64) (y_entries : Nat → Int32) (y_entriesAt : Nat → Int32) (y_hasMemory : Nat → Int32) (y_memory : Nat → Int32) (y_waiting : Nat → Int32) (y_prints : Nat → Int32) : Prop :=
  x_byteCount = nI n ∧ y_count = nI n ∧ n ≤ 140 ∧ mx_c x_code 2 cd ∧ (∀ i, i < n → y_bytes (280 + i) = nI (cd i)) ∧ x_wrongPlace = y_place ∧ x_printCount = y_printed ∧ x_prints = y_prints ∧ wq_ok x_firstWaiting x_waitingCount y_waits x_waiting y_waiting ∧ (∀ s, s < 2 → x_loaded s = bb_i (B s) ∧ y_there s = bb_i (B s)) ∧
  (∀ s, s < 2 → B s = true → sm_ok (C s) (N s) (PP s) ∧ sx_ok s (C s) (N s) (PP s) x_code x_facts x_partner ∧ sk_ok s (C s) (N s) y_bytes y_types y_typeSig y_imports y_functions y_sig y_what y_localsAt y_globals y_entries y_entriesAt y_hasMemory ∧ ∀ k, k < m_I (C s) (N s) → lk_ok s (B 0) (C s) (N s) (C 0) (N 0) k) ∧
  ∀ s, s < 2 → B s = true → sd_ok s (C s) (N s) x_globals y_globalValue x_memories y_memory
def xp_ok (A : List ac) (x_at : Int32) (x_frameCount : Int32) (x_valueCount : Int32) (x_activeCount : Int32) (x_frameAt : Nat → Int32) (x_frameHeight : Nat → Int32) (x_values : Nat → Int64) (x_variables : Nat → Int64) (x_activeSlot : Nat → Int32) (x_activeGives : Nat → Int32) (x_activeFrame : Nat → Int32) (x_activeResume : Nat → Int32) : Prop :=
  x_at = nI (a_p A) ∧ x_frameCount = nI (fb A) ∧ x_valueCount = nI (vb A) ∧ x_activeCount = nI A.length ∧ xa_ok x_frameAt x_frameHeight x_values x_variables x_activeSlot x_activeGives x_activeFrame A ∧ ar_ok x_activeResume A.tail
def yp_ok (A : List ac) (y_m : Int32) (y_sp : Int32) (y_labels : Int32) (y_active : Int32) (y_stack : Nat → Int64) (y_labelAt : Nat → Int32) (y_labelHeight : Nat → Int32) (y_labelGives : Nat → Int32) (y_callModule : Nat → Int32) (y_callFunction : Nat → Int32) (y_callBack : Nat → Int32) (y_callBase : Nat → Int32) (y_callLabels : Nat → Int32) : Prop :=
  y_m = nI (a_s A) ∧ y_sp = nI (yb A) ∧ y_labels = nI (fb A) ∧ y_active = nI A.length ∧ ya_ok y_stack y_labelAt y_labelHeight y_labelGives y_callModule y_callFunction y_callBack y_callBase y_callLabels A
def fu_ok (fu : Nat) (x y : Int32) : Prop := x = nI fu ∧ y = nI (120 - fu) ∧ fu ≤ 120
def rn (n : Nat) (cd : Nat → Nat) (g0 : Nat) (A : List ac) (fu : Nat) (x_byteCount : Int32) (x_wrongPlace : Int32) (x_at : Int32) (x_frameCount : Int32) (x_valueCount : Int32) (x_activeCount : Int32) (x_outcome : Int32) (x_resultValue : Int64) (x_trapPlace : Int32) (x_fuelUsed : Int32) (x_firstWaiting : Int32) (x_waitingCount : Int32) (x_printCount : Int32) (x_code : Nat → Int32) (x_facts : Nat → Int32) (x_partner : Nat → Int32) (x_loaded : Nat → Int32) (x_globals : Nat → Int64) (x_memories : Nat → Int32) (x_frameAt : Nat → Int32) (x_frameHeight : Nat → Int32) (x_values : Nat → Int64) (x_variables : Nat → Int64) (x_activeSlot : Nat → Int32) (x_activeGives : Nat → Int32) (x_activeFrame : Nat → Int32) (x_activeResume : Nat → Int32) (x_waiting : Nat → Int32) (x_prints : Nat → Int32) (y_count : Int32) (y_place : Int32) (y_m : Int32) (y_sp : Int32) (y_labels : Int32) (y_active : Int32) (y_fuel : Int32) (y_outcome : Int32) (y_trappedAt : Int32) (y_waits : Int32) (y_printed : Int32) (y_bytes : Nat → Int32) (y_there : Nat → Int32) (y_types : Nat → Int32) (y_typeSig : Nat → Int32) (y_imports : Nat → Int32) (y_functions : Nat → Int32) (y_sig : Nat → Int32) (y_what : Nat → Int32) (y_localsAt : Nat → Int32) (y_globals : Nat → Int32) (y_globalValue : Nat → Int64) (y_entries : Nat → Int32) (y_entriesAt : Nat → Int32) (y_hasMemory : Nat → Int32) (y_memory : Nat → Int32) (y_stack : Nat → Int64) (y_labelAt : Nat → Int32) (y_labelHeight : Nat → Int32) (y_labelGives : Nat → Int32) (y_callModule : Nat → Int32) (y_callFunction : Nat → Int32) (y_callBack : Nat → Int32) (y_callBase : Nat → Int32) (y_callLabels : Nat → Int32) (y_waiting : Nat → Int32) (y_prints : Nat → Int32) : Prop :=
  wo_ok B C N PP n cd x_byteCount x_wrongPlace x_firstWaiting x_waitingCount x_printCount x_code x_facts x_partner x_loaded x_globals x_memories x_waiting x_prints y_count y_place y_waits y_printed y_bytes y_there y_types y_typeSig y_imports y_functions y_sig y_what y_localsAt y_globals y_globalValue y_entries y_entriesAt y_hasMemory y_memory y_waiting y_prints ∧ fu_ok fu x_fuelUsed y_fuel ∧ (x_outcome = -1 ∧ x_resultValue = 0 ∧ x_trapPlace = -1 ∧ y_outcome = 0 ∧ y_trappedAt = -1) ∧ A ≠ [] ∧ A.length ≤ 10 ∧ ch_ok B C N PP g0 0 A ∧ xp_ok A x_at x_frameCount x_valueCount x_activeCount x_frameAt x_frameHeight x_values x_variables x_activeSlot x_activeGives x_activeFrame x_activeResume ∧ yp_ok A y_m y_sp y_labels y_active y_stack y_labelAt y_labelHeight y_labelGives y_callModule y_callFunction y_callBack y_callBase y_callLabels
def tr (n : Nat) (cd : Nat → Nat) (fu t s p a : Nat) (x_byteCount : Int32) (x_wrongPlace : Int32) (x_at : Int32) (x_frameCount : Int32) (x_valueCount : Int32) (x_activeCount : Int32) (x_outcome : Int32) (x_resultValue : Int64) (x_trapPlace : Int32) (x_fuelUsed : Int32) (x_firstWaiting : Int32) (x_waitingCount : Int32) (x_printCount : Int32) (x_code : Nat → Int32) (x_facts : Nat → Int32) (x_partner : Nat → Int32) (x_loaded : Nat → Int32) (x_globals : Nat → Int64) (x_memories : Nat → Int32) (x_frameAt : Nat → Int32) (x_frameHeight : Nat → Int32) (x_values : Nat → Int64) (x_variables : Nat → Int64) (x_activeSlot : Nat → Int32) (x_activeGives : Nat → Int32) (x_activeFrame : Nat → Int32) (x_activeResume : Nat → Int32) (x_waiting : Nat → Int32) (x_prints : Nat → Int32) (y_count : Int32) (y_place : Int32) (y_m : Int32) (y_sp : Int32) (y_labels : Int32) (y_active : Int32) (y_fuel : Int32) (y_outcome : Int32) (y_trappedAt : Int32) (y_waits : Int32) (y_printed : Int32) (y_bytes : Nat → Int32) (y_there : Nat → Int32) (y_types : Nat → Int32) (y_typeSig : Nat → Int32) (y_imports : Nat → Int32) (y_functions : Nat → Int32) (y_sig : Nat → Int32) (y_what : Nat → Int32) (y_localsAt : Nat → Int32) (y_globals : Nat → Int32) (y_globalValue : Nat → Int64) (y_entries : Nat → Int32) (y_entriesAt : Nat → Int32) (y_hasMemory : Nat → Int32) (y_memory : Nat → Int32) (y_stack : Nat → Int64) (y_labelAt : Nat → Int32) (y_labelHeight : Nat → Int32) (y_labelGives : Nat → Int32) (y_callModule : Nat → Int32) (y_callFunction : Nat → Int32) (y_callBack : Nat → Int32) (y_callBase : Nat → Int32) (y_callLabels : Nat → Int32) (y_waiting : Nat → Int32) (y_prints : Nat → Int32) : Prop :=
  wo_ok B C N PP n cd x_byteCount x_wrongPlace x_firstWaiting x_waitingCount x_printCount x_code x_facts x_partner x_loaded x_globals x_memories x_waiting x_prints y_count y_place y_waits y_printed y_bytes y_there y_types y_typeSig y_imports y_functions y_sig y_what y_localsAt y_globals y_globalValue y_entries y_entriesAt y_hasMemory y_memory y_waiting y_prints ∧ fu_ok fu x_fuelUsed y_fuel ∧ x_outcome = nI t ∧ 0 < t ∧ t < 10 ∧ x_resultValue = 0 ∧ x_at = nI p ∧ p < 140 ∧ x_activeCount = nI (a + 1) ∧ a < 10 ∧ x_activeSlot a = nI s ∧ s < 2 ∧ y_outcome = nI t ∧ y_trappedAt = 1000 * nI s + nI p
def dn (n : Nat) (cd : Nat → Nat) (g0 fu : Nat) (x_byteCount : Int32) (x_wrongPlace : Int32) (x_at : Int32) (x_frameCount : Int32) (x_valueCount : Int32) (x_activeCount : Int32) (x_outcome : Int32) (x_resultValue : Int64) (x_trapPlace : Int32) (x_fuelUsed : Int32) (x_firstWaiting : Int32) (x_waitingCount : Int32) (x_printCount : Int32) (x_code : Nat → Int32) (x_facts : Nat → Int32) (x_partner : Nat → Int32) (x_loaded : Nat → Int32) (x_globals : Nat → Int64) (x_memories : Nat → Int32) (x_frameAt : Nat → Int32) (x_frameHeight : Nat → Int32) (x_values : Nat → Int64) (x_variables : Nat → Int64) (x_activeSlot : Nat → Int32) (x_activeGives : Nat → Int32) (x_activeFrame : Nat → Int32) (x_activeResume : Nat → Int32) (x_waiting : Nat → Int32) (x_prints : Nat → Int32) (y_count : Int32) (y_place : Int32) (y_m : Int32) (y_sp : Int32) (y_labels : Int32) (y_active : Int32) (y_fuel : Int32) (y_outcome : Int32) (y_trappedAt : Int32) (y_waits : Int32) (y_printed : Int32) (y_bytes : Nat → Int32) (y_there : Nat → Int32) (y_types : Nat → Int32) (y_typeSig : Nat → Int32) (y_imports : Nat → Int32) (y_functions : Nat → Int32) (y_sig : Nat → Int32) (y_what : Nat → Int32) (y_localsAt : Nat → Int32) (y_globals : Nat → Int32) (y_globalValue : Nat → Int64) (y_entries : Nat → Int32) (y_entriesAt : Nat → Int32) (y_hasMemory : Nat → Int32) (y_memory : Nat → Int32) (y_stack : Nat → Int64) (y_labelAt : Nat → Int32) (y_labelHeight : Nat → Int32) (y_labelGives : Nat → Int32) (y_callModule : Nat → Int32) (y_callFunction : Nat → Int32) (y_callBack : Nat → Int32) (y_callBase : Nat → Int32) (y_callLabels : Nat → Int32) (y_waiting : Nat → Int32) (y_prints : Nat → Int32) : Prop :=
  wo_ok B C N PP n cd x_byteCount x_wrongPlace x_firstWaiting x_waitingCount x_printCount x_code x_facts x_partner x_loaded x_globals x_memories x_waiting x_prints y_count y_place y_waits y_printed y_bytes y_there y_types y_typeSig y_imports y_functions y_sig y_what y_localsAt y_globals y_globalValue y_entries y_entriesAt y_hasMemory y_memory y_waiting y_prints ∧ fu_ok fu x_fuelUsed y_fuel ∧ x_outcome = 0 ∧ x_trapPlace = -1 ∧ y_outcome = 0 ∧ y_trappedAt = -1 ∧ y_active = 0 ∧ (g0 = 0 → x_resultValue = 0) ∧ (g0 ≠ 0 → x_resultValue = y_stack 0)
def re (n : Nat) (cd : Nat → Nat) (g0 : Nat) (A : List ac) (fu e : Nat) (x_byteCount : Int32) (x_wrongPlace : Int32) (x_at : Int32) (x_frameCount : Int32) (x_valueCount : Int32) (x_activeCount : Int32) (x_outcome : Int32) (x_resultValue : Int64) (x_trapPlace : Int32) (x_fuelUsed : Int32) (x_firstWaiting : Int32) (x_waitingCount : Int32) (x_printCount : Int32) (x_code : Nat → Int32) (x_facts : Nat → Int32) (x_partner : Nat → Int32) (x_loaded : Nat → Int32) (x_globals : Nat → Int64) (x_memories : Nat → Int32) (x_frameAt : Nat → Int32) (x_frameHeight : Nat → Int32) (x_values : Nat → Int64) (x_variables : Nat → Int64) (x_activeSlot : Nat → Int32) (x_activeGives : Nat → Int32) (x_activeFrame : Nat → Int32) (x_activeResume : Nat → Int32) (x_waiting : Nat → Int32) (x_prints : Nat → Int32) (y_count : Int32) (y_place : Int32) (y_m : Int32) (y_sp : Int32) (y_labels : Int32) (y_active : Int32) (y_fuel : Int32) (y_outcome : Int32) (y_trappedAt : Int32) (y_waits : Int32) (y_printed : Int32) (y_bytes : Nat → Int32) (y_there : Nat → Int32) (y_types : Nat → Int32) (y_typeSig : Nat → Int32) (y_imports : Nat → Int32) (y_functions : Nat → Int32) (y_sig : Nat → Int32) (y_what : Nat → Int32) (y_localsAt : Nat → Int32) (y_globals : Nat → Int32) (y_globalValue : Nat → Int64) (y_entries : Nat → Int32) (y_entriesAt : Nat → Int32) (y_hasMemory : Nat → Int32) (y_memory : Nat → Int32) (y_stack : Nat → Int64) (y_labelAt : Nat → Int32) (y_labelHeight : Nat → Int32) (y_labelGives : Nat → Int32) (y_callModule : Nat → Int32) (y_callFunction : Nat → Int32) (y_callBack : Nat → Int32) (y_callBase : Nat → Int32) (y_callLabels : Nat → Int32) (y_waiting : Nat → Int32) (y_prints : Nat → Int32) : Prop :=
  rn B C N PP n cd g0 A fu x_byteCount x_wrongPlace (nI (a_p A)) (nI (fb A)) x_valueCount x_activeCount x_outcome x_resultValue x_trapPlace x_fuelUsed x_firstWaiting x_waitingCount x_printCount x_code x_facts x_partner x_loaded x_globals x_memories x_frameAt x_frameHeight x_values x_variables x_activeSlot x_activeGives x_activeFrame x_activeResume x_waiting x_prints y_count y_place y_m y_sp y_labels y_active y_fuel y_outcome y_trappedAt y_waits y_printed y_bytes y_there y_types y_typeSig y_imports y_functions y_sig y_what y_localsAt y_globals y_globalValue y_entries y_entriesAt y_hasMemory y_memory y_stack y_labelAt y_labelHeight y_labelGives y_callModule y_callFunction y_callBack y_callBase y_callLabels y_waiting y_prints ∧ x_at = nI e ∧ x_frameCount = nI (fb A + 1) ∧ a_p A = e + 1 ∧ C (a_s A) e = 6
def msum : List ac → Nat
  | [] => 0
  | (_, _, _, _, p, _, _, _) :: R => (141 - p) + msum R
def mu (A : List ac) (fu : Nat) : Nat := 141 * (120 - fu) + msum A
def nxt (n : Nat) (cd : Nat → Nat) (g0 m : Nat) (u : SX) (v : SY) (q : Int32) : Prop :=
  (∃ A fu, rn B C N PP n cd g0 A fu (gx_byteCount u) (gx_wrongPlace u) (gx_at u) (gx_frameCount u) (gx_valueCount u) (gx_activeCount u) (gx_outcome u) (gx_resultValue u) (gx_trapPlace u) (gx_fuelUsed u) (gx_firstWaiting u) (gx_waitingCount u) (gx_printCount u) (gx_code u) (gx_facts u) (gx_partner u) (gx_loaded u) (gx_globals u) (gx_memories u) (gx_frameAt u) (gx_frameHeight u) (gx_values u) (gx_variables u) (gx_activeSlot u) (gx_activeGives u) (gx_activeFrame u) (gx_activeResume u) (gx_waiting u) (gx_prints u) (gy_count v) (gy_place v) (gy_m v) (gy_sp v) (gy_labels v) (gy_active v) (gy_fuel v) (gy_outcome v) (gy_trappedAt v) (gy_waits v) (gy_printed v) (gy_bytes v) (gy_there v) (gy_types v) (gy_typeSig v) (gy_imports v) (gy_functions v) (gy_sig v) (gy_what v) (gy_localsAt v) (gy_globals v) (gy_globalValue v) (gy_entries v) (gy_entriesAt v) (gy_hasMemory v) (gy_memory v) (gy_stack v) (gy_labelAt v) (gy_labelHeight v) (gy_labelGives v) (gy_callModule v) (gy_callFunction v) (gy_callBack v) (gy_callBase v) (gy_callLabels v) (gy_waiting v) (gy_prints v) ∧ q = nI (a_p A) ∧ mu A fu < m) ∨ (∃ A fu e, re B C N PP n cd g0 A fu e (gx_byteCount u) (gx_wrongPlace u) (gx_at u) (gx_frameCount u) (gx_valueCount u) (gx_activeCount u) (gx_outcome u) (gx_resultValue u) (gx_trapPlace u) (gx_fuelUsed u) (gx_firstWaiting u) (gx_waitingCount u) (gx_printCount u) (gx_code u) (gx_facts u) (gx_partner u) (gx_loaded u) (gx_globals u) (gx_memories u) (gx_frameAt u) (gx_frameHeight u) (gx_values u) (gx_variables u) (gx_activeSlot u) (gx_activeGives u) (gx_activeFrame u) (gx_activeResume u) (gx_waiting u) (gx_prints u) (gy_count v) (gy_place v) (gy_m v) (gy_sp v) (gy_labels v) (gy_active v) (gy_fuel v) (gy_outcome v) (gy_trappedAt v) (gy_waits v) (gy_printed v) (gy_bytes v) (gy_there v) (gy_types v) (gy_typeSig v) (gy_imports v) (gy_functions v) (gy_sig v) (gy_what v) (gy_localsAt v) (gy_globals v) (gy_globalValue v) (gy_entries v) (gy_entriesAt v) (gy_hasMemory v) (gy_memory v) (gy_stack v) (gy_labelAt v) (gy_labelHeight v) (gy_labelGives v) (gy_callModule v) (gy_callFunction v) (gy_callBack v) (gy_callBase v) (gy_callLabels v) (gy_waiting v) (gy_prints v) ∧ q = nI (a_p A) ∧ mu A fu < m) ∨ (∃ fu t s p a, tr B C N PP n cd fu t s p a (gx_byteCount u) (gx_wrongPlace u) (gx_at u) (gx_frameCount u) (gx_valueCount u) (gx_activeCount u) (gx_outcome u) (gx_resultValue u) (gx_trapPlace u) (gx_fuelUsed u) (gx_firstWaiting u) (gx_waitingCount u) (gx_printCount u) (gx_code u) (gx_facts u) (gx_partner u) (gx_loaded u) (gx_globals u) (gx_memories u) (gx_frameAt u) (gx_frameHeight u) (gx_values u) (gx_variables u) (gx_activeSlot u) (gx_activeGives u) (gx_activeFrame u) (gx_activeResume u) (gx_waiting u) (gx_prints u) (gy_count v) (gy_place v) (gy_m v) (gy_sp v) (gy_labels v) (gy_active v) (gy_fuel v) (gy_outcome v) (gy_trappedAt v) (gy_waits v) (gy_printed v) (gy_bytes v) (gy_there v) (gy_types v) (gy_typeSig v) (gy_imports v) (gy_functions v) (gy_sig v) (gy_what v) (gy_localsAt v) (gy_globals v) (gy_globalValue v) (gy_entries v) (gy_entriesAt v) (gy_hasMemory v) (gy_memory v) (gy_stack v) (gy_labelAt v) (gy_labelHeight v) (gy_labelGives v) (gy_callModule v) (gy_callFunction v) (gy_callBack v) (gy_callBase v) (gy_callLabels v) (gy_waiting v) (gy_prints v)) ∨ (∃ fu, dn B C N PP n cd g0 fu (gx_byteCount u) (gx_wrongPlace u) (gx_at u) (gx_frameCount u) (gx_valueCount u) (gx_activeCount u) (gx_outcome u) (gx_resultValue u) (gx_trapPlace u) (gx_fuelUsed u) (gx_firstWaiting u) (gx_waitingCount u) (gx_printCount u) (gx_code u) (gx_facts u) (gx_partner u) (gx_loaded u) (gx_globals u) (gx_memories u) (gx_frameAt u) (gx_frameHeight u) (gx_values u) (gx_variables u) (gx_activeSlot u) (gx_activeGives u) (gx_activeFrame u) (gx_activeResume u) (gx_waiting u) (gx_prints u) (gy_count v) (gy_place v) (gy_m v) (gy_sp v) (gy_labels v) (gy_active v) (gy_fuel v) (gy_outcome v) (gy_trappedAt v) (gy_waits v) (gy_printed v) (gy_bytes v) (gy_there v) (gy_types v) (gy_typeSig v) (gy_imports v) (gy_functions v) (gy_sig v) (gy_what v) (gy_localsAt v) (gy_globals v) (gy_globalValue v) (gy_entries v) (gy_entriesAt v) (gy_hasMemory v) (gy_memory v) (gy_stack v) (gy_labelAt v) (gy_labelHeight v) (gy_labelGives v) (gy_callModule v) (gy_callFunction v) (gy_callBack v) (gy_callBase v) (gy_callLabels v) (gy_waiting v) (gy_prints v))
end
