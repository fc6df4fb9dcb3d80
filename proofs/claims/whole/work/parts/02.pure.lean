abbrev xr (u : SX) (z0 : Int32) (z1 : Int32) (z2 : Nat → Int32) (z3 : Nat → Int32) (z4 : Nat → Int32) : SX := (gx_byteCount u, gx_wrongPlace u, z0, z1, gx_kindCount u, gx_valueCount u, gx_activeCount u, gx_goesOn u, gx_outcome u, gx_resultValue u, gx_trapPlace u, gx_fuelUsed u, gx_firstWaiting u, gx_waitingCount u, gx_printCount u, gx_code u, z2, z3, gx_loaded u, gx_globals u, gx_memories u, z4, gx_frameHeight u, gx_frameResult u, gx_frameDead u, gx_kinds u, gx_values u, gx_variables u, gx_activeSlot u, gx_activeGives u, gx_activeFrame u, gx_activeResume u, gx_waiting u, gx_prints u)

theorem ff_t {P : Prop} (h : false = true) : P := Bool.noConfusion h
theorem eq_p {α : Type} {P : α → Prop} {a b : α} (e : a = b) (h : P b) : P a := e ▸ h
def bb_i (b : Bool) : Int32 := if b = true then 1 else 0
def bb_w (b : Bool) : Int32 := if b = true then 0 else 1
theorem bi_t : ¬ bb_i true = 0 := by decide
theorem bw_f : ¬ bb_w false = 0 := by decide
def rd_tk (c : Nat → Nat) (n lo hi : Nat) (q : Bool × Nat) : Bool × Nat :=
  if q.1 = true ∧ q.2 < n ∧ lo ≤ c q.2 ∧ c q.2 ≤ hi then (true, q.2 + 1) else (false, q.2)
def rd_tv (c : Nat → Nat) (n lo hi : Nat) (q : Bool × Nat) : Nat :=
  if q.1 = true ∧ q.2 < n ∧ lo ≤ c q.2 ∧ c q.2 ≤ hi then c q.2 else lo
def rd_n (c : Nat → Nat) (n lo hi : Nat) : Nat → Bool × Nat → Bool × Nat
  | 0, q => q
  | k + 1, q => rd_n c n lo hi k (rd_tk c n lo hi q)
def rd_K (c : Nat → Nat) (n most : Nat) (q : Bool × Nat) : Bool × Nat := rd_n c n 1 2 (rd_tv c n 0 most q) (rd_tk c n 0 most q)
def rd_T (c : Nat → Nat) (n : Nat) (q : Bool × Nat) : Bool × Nat := rd_K c n 1 (rd_K c n 3 q)
def rd_C (c : Nat → Nat) (n : Nat) : Nat → Bool × Nat → Bool × Nat
  | 0, q => (false, q.2)
  | k + 1, q => if (rd_tk c n 0 (if k = 0 then 127 else 255) q).1 = true ∧ 127 < c q.2 then rd_C c n k (rd_tk c n 0 (if k = 0 then 127 else 255) q) else rd_tk c n 0 (if k = 0 then 127 else 255) q
abbrev rd_ho (op : Nat) : Prop := (2 ≤ op ∧ op ≤ 4) ∨ op = 7 ∨ op = 8 ∨ op = 11 ∨ op = 12 ∨ (15 ≤ op ∧ op ≤ 19) ∨ (22 ≤ op ∧ op ≤ 27)
def rd_R (c : Nat → Nat) (n op : Nat) (q : Bool × Nat) : Bool × Nat :=
  if 2 ≤ op ∧ op ≤ 4 then rd_tk c n 0 2 q
  else if op = 9 then rd_n c n 0 255 (rd_tv c n 0 4 q + 1) (rd_tk c n 0 4 q)
  else if op = 20 then rd_C c n 5 q
  else if op = 21 then rd_C c n 10 q
  else if rd_ho op then rd_tk c n 0 255 q else q
theorem rd_tk_f {c : Nat → Nat} {n lo hi : Nat} {q : Bool × Nat} (h : q.1 = false) : rd_tk c n lo hi q = (false, q.2) := if_neg (by simp [h])
theorem rd_tk_t {c : Nat → Nat} {n lo hi p : Nat} (h : p < n) (hl : lo ≤ c p) (hh : c p ≤ hi) : rd_tk c n lo hi (true, p) = (true, p + 1) := if_pos ⟨rfl, h, hl, hh⟩
theorem rd_tk_n {c : Nat → Nat} {n lo hi p : Nat} (h : ¬ (p < n ∧ lo ≤ c p ∧ c p ≤ hi)) : rd_tk c n lo hi (true, p) = (false, p) := if_neg (fun z => h z.2)
theorem rd_tv_t {c : Nat → Nat} {n lo hi p : Nat} (h : p < n) (hl : lo ≤ c p) (hh : c p ≤ hi) : rd_tv c n lo hi (true, p) = c p := if_pos ⟨rfl, h, hl, hh⟩
theorem rd_tv_n {c : Nat → Nat} {n lo hi p : Nat} (h : ¬ (p < n ∧ lo ≤ c p ∧ c p ≤ hi)) : rd_tv c n lo hi (true, p) = lo := if_neg (fun z => h z.2)
theorem rd_tv_f {c : Nat → Nat} {n lo hi : Nat} {q : Bool × Nat} (h : q.1 = false) : rd_tv c n lo hi q = lo := if_neg (by simp [h])
theorem rd_tv_le {c : Nat → Nat} {n lo hi : Nat} {q : Bool × Nat} (h : lo ≤ hi) : lo ≤ rd_tv c n lo hi q ∧ rd_tv c n lo hi q ≤ hi := by
  unfold rd_tv; split <;> omega
theorem tt_eq {q : Bool × Nat} (h : q.1 = true) : q = (true, q.2) := by
  obtain ⟨a, b⟩ := q
  have h' : a = true := h
  rw [h']
theorem rd_ff (q : Bool × Nat) (h : q.1 = false) : (false, q.2) = q := by rw [← h]
theorem rd_n_f {c : Nat → Nat} {n lo hi : Nat} : ∀ k q, q.1 = false → rd_n c n lo hi k q = q := by
  intro k
  induction k with
  | zero => intro q _; rfl
  | succ k ih => intro q h; rw [rd_n, rd_tk_f h, ih _ rfl, rd_ff q h]
theorem rd_tk_or (c : Nat → Nat) (n lo hi : Nat) (q : Bool × Nat) : (rd_tk c n lo hi q = (true, q.2 + 1) ∧ q.1 = true ∧ q.2 < n ∧ lo ≤ c q.2 ∧ c q.2 ≤ hi) ∨ rd_tk c n lo hi q = (false, q.2) := by
  unfold rd_tk; split
  · exact Or.inl ⟨rfl, by assumption⟩
  · exact Or.inr rfl
def rd_G (n : Nat) (f : Bool × Nat → Bool × Nat) : Prop := (∀ q, q.2 ≤ n → q.2 ≤ (f q).2 ∧ (f q).2 ≤ n) ∧ ∀ q, q.1 = false → f q = q
theorem rd_G_id (n : Nat) : rd_G n (fun q => q) := ⟨fun q h => ⟨Nat.le_refl _, h⟩, fun _ _ => rfl⟩
theorem rd_G_tk (c : Nat → Nat) (n lo hi : Nat) : rd_G n (rd_tk c n lo hi) := by
  constructor
  · intro q h
    rcases rd_tk_or c n lo hi q with ⟨e, _, h2, _⟩ | e <;> rw [e] <;> dsimp only <;> omega
  · intro q h; rw [rd_tk_f h, rd_ff q h]
theorem rd_G_c {n : Nat} {f g : Bool × Nat → Bool × Nat} (hf : rd_G n f) (hg : rd_G n g) : rd_G n (fun q => g (f q)) := by
  constructor
  · intro q h
    have a := hf.1 q h
    have b := hg.1 _ a.2
    exact ⟨Nat.le_trans a.1 b.1, b.2⟩
  · intro q h
    show g (f q) = q
    rw [hf.2 q h, hg.2 q h]
theorem rd_G_d {n : Nat} {f : Bool × Nat → Bool × Nat} {g : Nat → Bool × Nat → Bool × Nat} (v : Bool × Nat → Nat) (hf : rd_G n f) (hg : ∀ k, rd_G n (g k)) : rd_G n (fun q => g (v q) (f q)) := by
  constructor
  · intro q h
    have a := hf.1 q h
    have b := (hg (v q)).1 _ a.2
    exact ⟨Nat.le_trans a.1 b.1, b.2⟩
  · intro q h
    show g (v q) (f q) = q
    rw [hf.2 q h, (hg _).2 q h]
theorem rd_G_n (c : Nat → Nat) (n lo hi : Nat) : ∀ k, rd_G n (rd_n c n lo hi k)
  | 0 => rd_G_id n
  | k + 1 => rd_G_c (f := rd_tk c n lo hi) (g := rd_n c n lo hi k) (rd_G_tk c n lo hi) (rd_G_n c n lo hi k)
theorem rd_G_K (c : Nat → Nat) (n most : Nat) : rd_G n (rd_K c n most) := rd_G_d (g := fun k => rd_n c n 1 2 k) (rd_tv c n 0 most) (rd_G_tk c n 0 most) (rd_G_n c n 1 2)
theorem rd_G_T (c : Nat → Nat) (n : Nat) : rd_G n (rd_T c n) := rd_G_c (f := rd_K c n 3) (g := rd_K c n 1) (rd_G_K c n 3) (rd_G_K c n 1)
theorem rd_G_C (c : Nat → Nat) (n : Nat) : ∀ k, 0 < k → rd_G n (rd_C c n k) := by
  intro k
  induction k with
  | zero => intro h; omega
  | succ k ih =>
    intro _
    have hz : k = 0 → (if k = 0 then 127 else 255) ≤ 127 := fun z => by rw [if_pos z]; exact Nat.le_refl _
    generalize eh : (if k = 0 then 127 else 255) = hb at hz
    have t := rd_G_tk c n 0 hb
    have er : ∀ q, rd_C c n (k + 1) q = if (rd_tk c n 0 hb q).1 = true ∧ 127 < c q.2 then rd_C c n k (rd_tk c n 0 hb q) else rd_tk c n 0 hb q := by
      intro q; rw [rd_C, eh]
    constructor
    · intro q h
      have a := t.1 q h
      rw [er]
      by_cases hc : (rd_tk c n 0 hb q).1 = true ∧ 127 < c q.2
      · rw [if_pos hc]
        by_cases hk : k = 0
        · have h5 := hz hk
          rcases rd_tk_or c n 0 hb q with ⟨e, _, _, _, h6⟩ | e
          · omega
          · rw [e] at hc; exact ff_t hc.1
        · have b := (ih (by omega)).1 _ a.2
          exact ⟨Nat.le_trans a.1 b.1, b.2⟩
      · rw [if_neg hc]; exact a
    · intro q h
      rw [er, if_neg (by rw [t.2 q h, h]; simp), t.2 q h]
theorem rd_G_R (c : Nat → Nat) (n op : Nat) : rd_G n (rd_R c n op) := by
  have key : ∀ (b : Prop) [Decidable b] (f g : Bool × Nat → Bool × Nat), rd_G n f → rd_G n g → rd_G n (fun q => if b then f q else g q) := by
    intro b _ f g hf hg
    by_cases h : b
    · simp only [if_pos h]; exact hf
    · simp only [if_neg h]; exact hg
  exact key _ _ _ (rd_G_tk c n 0 2) (key _ _ _ (rd_G_d (g := fun k => rd_n c n 0 255 (k + 1)) (rd_tv c n 0 4) (rd_G_tk c n 0 4) (fun k => rd_G_n c n 0 255 (k + 1))) (key _ _ _ (rd_G_C c n 5 (by omega)) (key _ _ _ (rd_G_C c n 10 (by omega)) (key _ _ _ (rd_G_tk c n 0 255) (rd_G_id n)))))
def rd_it (f : Bool × Nat → Bool × Nat) : Nat → Bool × Nat → Bool × Nat
  | 0, q => q
  | k + 1, q => rd_it f k (f q)
theorem rd_G_it {n : Nat} {f : Bool × Nat → Bool × Nat} (hf : rd_G n f) : ∀ k, rd_G n (rd_it f k)
  | 0 => rd_G_id n
  | k + 1 => rd_G_c (f := f) (g := rd_it f k) hf (rd_G_it hf k)
theorem rd_it_s (f : Bool × Nat → Bool × Nat) : ∀ k q, rd_it f (k + 1) q = f (rd_it f k q) := by
  intro k
  induction k with
  | zero => intro q; rfl
  | succ k ih => intro q; exact ih (f q)
theorem rd_it_ok {n : Nat} {f : Bool × Nat → Bool × Nat} (hf : rd_G n f) : ∀ k q, (rd_it f k q).1 = true → ∀ j, j ≤ k → (rd_it f j q).1 = true := by
  intro k
  induction k with
  | zero => intro q h j hj; rw [show j = 0 by omega]; exact h
  | succ k ih =>
    intro q h j hj
    rcases Nat.lt_or_ge j (k + 1) with h2 | h2
    · refine ih q ?_ j (by omega)
      rw [rd_it_s] at h
      cases e : (rd_it f k q).1 with
      | true => rfl
      | false => rw [hf.2 _ e, e] at h; exact ff_t h
    · rw [show j = k + 1 by omega]; exact h
theorem rd_G_tr {n : Nat} {f : Bool × Nat → Bool × Nat} (hf : rd_G n f) {q : Bool × Nat} (h : (f q).1 = true) : q.1 = true := by
  cases e : q.1 with
  | true => rfl
  | false => rw [hf.2 _ e, e] at h; exact ff_t h
theorem bb_nar (b : Bool) : narrow .boolean (.int (bb_i b)) = .int (bb_i b) := by cases b <;> rfl
theorem bb_0 {b : Bool} (h : b = false) : bb_i b = 0 := by rw [h]; rfl
theorem bb_1 {b : Bool} (h : b = true) : bb_i b = 1 := by rw [h]; rfl
theorem bb_br {b : Bool} {A B : Prop} (f : b = false → A) (g : b = true → B) : (bb_i b = 0 → A) ∧ (¬ bb_i b = 0 → B) := by
  cases b with
  | false => exact br_t rfl (f rfl)
  | true => exact br_f (by decide) (g rfl)
def tp_cd (T : List (Nat × Nat × Nat)) : Nat := (T.headD (0, 0, 0)).1
def tp_o (T : List (Nat × Nat × Nat)) : Nat := (T.headD (0, 0, 0)).2.1
def tp_el (T : List (Nat × Nat × Nat)) : Nat := (T.headD (0, 0, 0)).2.2
def rd_I (c : Nat → Nat) (n : Nat) (q : Bool × Nat) (T : List (Nat × Nat × Nat)) : (Bool × Nat) × List (Nat × Nat × Nat) :=
  if (rd_tk c n 0 66 q).1 = true then
    if 2 ≤ c q.2 ∧ c q.2 ≤ 4 then (rd_tk c n 0 2 (true, q.2 + 1), (c q.2, q.2, 0) :: T)
    else if c q.2 = 5 then (if tp_cd T = 4 then ((true, q.2 + 1), (5, tp_o T, q.2) :: T.tail) else ((false, q.2), T))
    else if c q.2 = 6 then ((true, q.2 + 1), T.tail)
    else (rd_R c n (c q.2) (true, q.2 + 1), T)
  else (rd_tk c n 0 66 q, T)
def up_n (P : Nat → Nat) (i v : Nat) : Nat → Nat := fun j => if j = i then v else P j
theorem up_s {P : Nat → Nat} {i v : Nat} : up_n P i v i = v := if_pos rfl
theorem up_d {P : Nat → Nat} {i j v : Nat} (h : j ≠ i) : up_n P i v j = P j := if_neg h
def rd_P (c : Nat → Nat) (n : Nat) (q : Bool × Nat) (T : List (Nat × Nat × Nat)) (P : Nat → Nat) : Nat → Nat :=
  if (rd_tk c n 0 66 q).1 = true then
    if 2 ≤ c q.2 ∧ c q.2 ≤ 4 then up_n P q.2 0
    else if c q.2 = 5 then (if tp_cd T = 4 then up_n P (tp_o T) q.2 else P)
    else if c q.2 = 6 then (if tp_cd T = 0 then P else if tp_cd T = 5 then up_n P (tp_el T) q.2 else up_n P (tp_o T) q.2)
    else P
  else P
def rd_B (c : Nat → Nat) (n : Nat) : Nat → Bool × Nat → List (Nat × Nat × Nat) → (Bool × Nat) × List (Nat × Nat × Nat)
  | 0, q, T => (q, T)
  | k + 1, q, T => if q.1 = true ∧ T ≠ [] then rd_B c n k (rd_I c n q T).1 (rd_I c n q T).2 else (q, T)
def rd_BP (c : Nat → Nat) (n : Nat) : Nat → Bool × Nat → List (Nat × Nat × Nat) → (Nat → Nat) → (Nat → Nat)
  | 0, _, _, P => P
  | k + 1, q, T, P => if q.1 = true ∧ T ≠ [] then rd_BP c n k (rd_I c n q T).1 (rd_I c n q T).2 (rd_P c n q T P) else P
def rd_F (c : Nat → Nat) (n : Nat) (q : Bool × Nat) : Bool × Nat := (rd_B c n 141 (rd_K c n 3 (rd_tk c n 0 255 q)) [(0, 0, 0)]).1
def rd_FP (c : Nat → Nat) (n : Nat) (q : Bool × Nat) (P : Nat → Nat) : Nat → Nat := rd_BP c n 141 (rd_K c n 3 (rd_tk c n 0 255 q)) [(0, 0, 0)] P
def rd_TI (c : Nat → Nat) (P : Nat → Nat) : Nat → List (Nat × Nat × Nat) → Prop
  | _, [] => True
  | p, (cd, o, el) :: T => (T = [] → cd = 0) ∧ (T ≠ [] → o + 2 ≤ p ∧ (((cd = 2 ∨ cd = 3 ∨ cd = 4) ∧ c o = cd ∧ P o = 0) ∨ (cd = 5 ∧ c o = 4 ∧ P o = el ∧ o < el ∧ el < p))) ∧ (T ≠ [] → rd_TI c P o T)
theorem rd_TI_len {c P : Nat → Nat} : ∀ T p, rd_TI c P p T → 2 * T.length ≤ p + 2 := by
  intro T
  induction T with
  | nil => intro p _; simp
  | cons x T ih =>
    intro p h
    obtain ⟨cd, o, el⟩ := x
    obtain ⟨_, h2, h3⟩ := h
    by_cases e : T = []
    · subst e; simp
    · have a := ih o (h3 e)
      have b := (h2 e).1
      simp only [List.length_cons]
      omega
theorem rd_TI_mono {c P : Nat → Nat} {T : List (Nat × Nat × Nat)} {p p' : Nat} (h : rd_TI c P p T) (hp : p ≤ p') : rd_TI c P p' T := by
  cases T with
  | nil => trivial
  | cons x T =>
    obtain ⟨cd, o, el⟩ := x
    obtain ⟨h1, h2, h3⟩ := h
    refine ⟨h1, fun e => ?_, h3⟩
    obtain ⟨a, b⟩ := h2 e
    refine ⟨by omega, ?_⟩
    rcases b with b | ⟨b1, b2, b3, b4, b5⟩
    · exact Or.inl b
    · exact Or.inr ⟨b1, b2, b3, b4, by omega⟩
theorem rd_TI_ext {c P P' : Nat → Nat} : ∀ T p, rd_TI c P p T → (∀ j, j < p → P' j = P j) → rd_TI c P' p T := by
  intro T
  induction T with
  | nil => intro p _ _; trivial
  | cons x T ih =>
    intro p h hP
    obtain ⟨cd, o, el⟩ := x
    obtain ⟨h1, h2, h3⟩ := h
    refine ⟨h1, fun e => ?_, fun e => ih o (h3 e) (fun j hj => hP j (by have := (h2 e).1; omega))⟩
    obtain ⟨a, b⟩ := h2 e
    refine ⟨a, ?_⟩
    rw [hP o (by omega)]
    exact b
