def mk (w : Bool) : Int32 := if w = true then 63 else 31
def nr (w : Bool) (o : Nat) (x y : Int64) : Int64 :=
  if o = 29 then (if x = y then 1 else 0) else if o = 30 then (if x = y then 0 else 1) else if o = 31 then (if y ≤ x then 0 else 1) else if o = 32 then (if (y ^^^ (-9223372036854775808)) ≤ (x ^^^ (-9223372036854775808)) then 0 else 1) else if o = 33 then (if y < x then 0 else 1) else if o = 34 then (x + y) else if o = 35 then (x - y) else if o = 36 then (x * y) else if o = 37 then (x / y) else if o = 38 then (if w = true then lN (uN x / uN y) else (x &&& 4294967295) / (y &&& 4294967295)) else if o = 39 then (x - x / y * y) else if o = 40 then (x &&& y) else if o = 41 then (x ||| y) else if o = 42 then (x ^^^ y) else if o = 43 then (x <<< ((y.toInt32 &&& mk w).toInt64 &&& 63)) else if o = 44 then (x >>> ((y.toInt32 &&& mk w).toInt64 &&& 63)) else (((if w = true then x else x &&& 4294967295).toUInt64 >>> ((y.toInt32 &&& mk w).toInt64.toUInt64 &&& Int64.toUInt64 63)).toInt64)
theorem nr_29 (w : Bool) (x y : Int64) : nr w 29 x y = (if x = y then 1 else 0) := rfl
theorem nr_30 (w : Bool) (x y : Int64) : nr w 30 x y = (if x = y then 0 else 1) := rfl
theorem nr_31 (w : Bool) (x y : Int64) : nr w 31 x y = (if y ≤ x then 0 else 1) := rfl
theorem nr_32 (w : Bool) (x y : Int64) : nr w 32 x y = (if (y ^^^ (-9223372036854775808)) ≤ (x ^^^ (-9223372036854775808)) then 0 else 1) := rfl
theorem nr_33 (w : Bool) (x y : Int64) : nr w 33 x y = (if y < x then 0 else 1) := rfl
theorem nr_34 (w : Bool) (x y : Int64) : nr w 34 x y = (x + y) := rfl
theorem nr_35 (w : Bool) (x y : Int64) : nr w 35 x y = (x - y) := rfl
theorem nr_36 (w : Bool) (x y : Int64) : nr w 36 x y = (x * y) := rfl
theorem nr_37 (w : Bool) (x y : Int64) : nr w 37 x y = (x / y) := rfl
theorem nr_38 (w : Bool) (x y : Int64) : nr w 38 x y = (if w = true then lN (uN x / uN y) else (x &&& 4294967295) / (y &&& 4294967295)) := rfl
theorem nr_39 (w : Bool) (x y : Int64) : nr w 39 x y = (x - x / y * y) := rfl
theorem nr_40 (w : Bool) (x y : Int64) : nr w 40 x y = (x &&& y) := rfl
theorem nr_41 (w : Bool) (x y : Int64) : nr w 41 x y = (x ||| y) := rfl
theorem nr_42 (w : Bool) (x y : Int64) : nr w 42 x y = (x ^^^ y) := rfl
theorem nr_43 (w : Bool) (x y : Int64) : nr w 43 x y = (x <<< ((y.toInt32 &&& mk w).toInt64 &&& 63)) := rfl
theorem nr_44 (w : Bool) (x y : Int64) : nr w 44 x y = (x >>> ((y.toInt32 &&& mk w).toInt64 &&& 63)) := rfl
theorem nr_45 (w : Bool) (x y : Int64) : nr w 45 x y = (((if w = true then x else x &&& 4294967295).toUInt64 >>> ((y.toInt32 &&& mk w).toInt64.toUInt64 &&& Int64.toUInt64 63)).toInt64) := rfl
theorem y_c_29 {post : Int64 → Prop} {w : Bool} {x y : Int64} (h : post (nr w 29 x y)) : wpY_calculate post (nI 29) x y (bb_i w) := by
  rw [nr_29] at h
  cases w with
  | false =>
    exact br_t rfl (nm_r rfl (pk_lt 29 29 (fun y => absurd y (by omega)) (fun _ => pk_lt 44 29 (fun y => absurd y (by omega)) (fun _ => pk_eq 29 29 (fun _ => br_c (fun z => by rw [if_pos z] at h; exact h) (fun z => by rw [if_neg z] at h; exact h)) (fun y => absurd y (by omega))))))
  | true =>
    exact br_f (by decide) (nm_r rfl (pk_lt 29 29 (fun y => absurd y (by omega)) (fun _ => pk_lt 44 29 (fun y => absurd y (by omega)) (fun _ => pk_eq 29 29 (fun _ => br_c (fun z => by rw [if_pos z] at h; exact h) (fun z => by rw [if_neg z] at h; exact h)) (fun y => absurd y (by omega))))))
theorem y_c_30 {post : Int64 → Prop} {w : Bool} {x y : Int64} (h : post (nr w 30 x y)) : wpY_calculate post (nI 30) x y (bb_i w) := by
  rw [nr_30] at h
  cases w with
  | false =>
    exact br_t rfl (nm_r rfl (pk_lt 30 29 (fun y => absurd y (by omega)) (fun _ => pk_lt 44 30 (fun y => absurd y (by omega)) (fun _ => pk_eq 30 29 (fun y => absurd y (by omega)) (fun _ => pk_eq 30 30 (fun _ => br_c (fun z => by rw [if_pos z] at h; exact h) (fun z => by rw [if_neg z] at h; exact h)) (fun y => absurd y (by omega)))))))
  | true =>
    exact br_f (by decide) (nm_r rfl (pk_lt 30 29 (fun y => absurd y (by omega)) (fun _ => pk_lt 44 30 (fun y => absurd y (by omega)) (fun _ => pk_eq 30 29 (fun y => absurd y (by omega)) (fun _ => pk_eq 30 30 (fun _ => br_c (fun z => by rw [if_pos z] at h; exact h) (fun z => by rw [if_neg z] at h; exact h)) (fun y => absurd y (by omega)))))))
theorem y_c_31 {post : Int64 → Prop} {w : Bool} {x y : Int64} (h : post (nr w 31 x y)) : wpY_calculate post (nI 31) x y (bb_i w) := by
  rw [nr_31] at h
  cases w with
  | false =>
    exact br_t rfl (nm_r rfl (pk_lt 31 29 (fun y => absurd y (by omega)) (fun _ => pk_lt 44 31 (fun y => absurd y (by omega)) (fun _ => pk_eq 31 29 (fun y => absurd y (by omega)) (fun _ => pk_eq 31 30 (fun y => absurd y (by omega)) (fun _ => pk_eq 31 31 (fun _ => br_c (fun z => by rw [if_pos z] at h; exact h) (fun z => by rw [if_neg z] at h; exact h)) (fun y => absurd y (by omega))))))))
  | true =>
    exact br_f (by decide) (nm_r rfl (pk_lt 31 29 (fun y => absurd y (by omega)) (fun _ => pk_lt 44 31 (fun y => absurd y (by omega)) (fun _ => pk_eq 31 29 (fun y => absurd y (by omega)) (fun _ => pk_eq 31 30 (fun y => absurd y (by omega)) (fun _ => pk_eq 31 31 (fun _ => br_c (fun z => by rw [if_pos z] at h; exact h) (fun z => by rw [if_neg z] at h; exact h)) (fun y => absurd y (by omega))))))))
theorem y_c_32 {post : Int64 → Prop} {w : Bool} {x y : Int64} (h : post (nr w 32 x y)) : wpY_calculate post (nI 32) x y (bb_i w) := by
  rw [nr_32] at h
  cases w with
  | false =>
    exact br_t rfl (nm_r rfl (pk_lt 32 29 (fun y => absurd y (by omega)) (fun _ => pk_lt 44 32 (fun y => absurd y (by omega)) (fun _ => pk_eq 32 29 (fun y => absurd y (by omega)) (fun _ => pk_eq 32 30 (fun y => absurd y (by omega)) (fun _ => pk_eq 32 31 (fun y => absurd y (by omega)) (fun _ => pk_eq 32 32 (fun _ => br_c (fun z => by rw [if_pos z] at h; exact h) (fun z => by rw [if_neg z] at h; exact h)) (fun y => absurd y (by omega)))))))))
  | true =>
    exact br_f (by decide) (nm_r rfl (pk_lt 32 29 (fun y => absurd y (by omega)) (fun _ => pk_lt 44 32 (fun y => absurd y (by omega)) (fun _ => pk_eq 32 29 (fun y => absurd y (by omega)) (fun _ => pk_eq 32 30 (fun y => absurd y (by omega)) (fun _ => pk_eq 32 31 (fun y => absurd y (by omega)) (fun _ => pk_eq 32 32 (fun _ => br_c (fun z => by rw [if_pos z] at h; exact h) (fun z => by rw [if_neg z] at h; exact h)) (fun y => absurd y (by omega)))))))))
theorem y_c_33 {post : Int64 → Prop} {w : Bool} {x y : Int64} (h : post (nr w 33 x y)) : wpY_calculate post (nI 33) x y (bb_i w) := by
  rw [nr_33] at h
  cases w with
  | false =>
    exact br_t rfl (nm_r rfl (pk_lt 33 29 (fun y => absurd y (by omega)) (fun _ => pk_lt 44 33 (fun y => absurd y (by omega)) (fun _ => pk_eq 33 29 (fun y => absurd y (by omega)) (fun _ => pk_eq 33 30 (fun y => absurd y (by omega)) (fun _ => pk_eq 33 31 (fun y => absurd y (by omega)) (fun _ => pk_eq 33 32 (fun y => absurd y (by omega)) (fun _ => pk_eq 33 33 (fun _ => br_c (fun z => by rw [if_pos z] at h; exact h) (fun z => by rw [if_neg z] at h; exact h)) (fun y => absurd y (by omega))))))))))
  | true =>
    exact br_f (by decide) (nm_r rfl (pk_lt 33 29 (fun y => absurd y (by omega)) (fun _ => pk_lt 44 33 (fun y => absurd y (by omega)) (fun _ => pk_eq 33 29 (fun y => absurd y (by omega)) (fun _ => pk_eq 33 30 (fun y => absurd y (by omega)) (fun _ => pk_eq 33 31 (fun y => absurd y (by omega)) (fun _ => pk_eq 33 32 (fun y => absurd y (by omega)) (fun _ => pk_eq 33 33 (fun _ => br_c (fun z => by rw [if_pos z] at h; exact h) (fun z => by rw [if_neg z] at h; exact h)) (fun y => absurd y (by omega))))))))))
theorem y_c_34 {post : Int64 → Prop} {w : Bool} {x y : Int64} (h : post (nr w 34 x y)) : wpY_calculate post (nI 34) x y (bb_i w) := by
  rw [nr_34] at h
  cases w with
  | false =>
    exact br_t rfl (nm_r rfl (pk_lt 34 29 (fun y => absurd y (by omega)) (fun _ => pk_lt 44 34 (fun y => absurd y (by omega)) (fun _ => pk_eq 34 29 (fun y => absurd y (by omega)) (fun _ => pk_eq 34 30 (fun y => absurd y (by omega)) (fun _ => pk_eq 34 31 (fun y => absurd y (by omega)) (fun _ => pk_eq 34 32 (fun y => absurd y (by omega)) (fun _ => pk_eq 34 33 (fun y => absurd y (by omega)) (fun _ => pk_eq 34 34 (fun _ => h) (fun y => absurd y (by omega)))))))))))
  | true =>
    exact br_f (by decide) (nm_r rfl (pk_lt 34 29 (fun y => absurd y (by omega)) (fun _ => pk_lt 44 34 (fun y => absurd y (by omega)) (fun _ => pk_eq 34 29 (fun y => absurd y (by omega)) (fun _ => pk_eq 34 30 (fun y => absurd y (by omega)) (fun _ => pk_eq 34 31 (fun y => absurd y (by omega)) (fun _ => pk_eq 34 32 (fun y => absurd y (by omega)) (fun _ => pk_eq 34 33 (fun y => absurd y (by omega)) (fun _ => pk_eq 34 34 (fun _ => h) (fun y => absurd y (by omega)))))))))))
theorem y_c_35 {post : Int64 → Prop} {w : Bool} {x y : Int64} (h : post (nr w 35 x y)) : wpY_calculate post (nI 35) x y (bb_i w) := by
  rw [nr_35] at h
  cases w with
  | false =>
    exact br_t rfl (nm_r rfl (pk_lt 35 29 (fun y => absurd y (by omega)) (fun _ => pk_lt 44 35 (fun y => absurd y (by omega)) (fun _ => pk_eq 35 29 (fun y => absurd y (by omega)) (fun _ => pk_eq 35 30 (fun y => absurd y (by omega)) (fun _ => pk_eq 35 31 (fun y => absurd y (by omega)) (fun _ => pk_eq 35 32 (fun y => absurd y (by omega)) (fun _ => pk_eq 35 33 (fun y => absurd y (by omega)) (fun _ => pk_eq 35 34 (fun y => absurd y (by omega)) (fun _ => pk_eq 35 35 (fun _ => h) (fun y => absurd y (by omega))))))))))))
  | true =>
    exact br_f (by decide) (nm_r rfl (pk_lt 35 29 (fun y => absurd y (by omega)) (fun _ => pk_lt 44 35 (fun y => absurd y (by omega)) (fun _ => pk_eq 35 29 (fun y => absurd y (by omega)) (fun _ => pk_eq 35 30 (fun y => absurd y (by omega)) (fun _ => pk_eq 35 31 (fun y => absurd y (by omega)) (fun _ => pk_eq 35 32 (fun y => absurd y (by omega)) (fun _ => pk_eq 35 33 (fun y => absurd y (by omega)) (fun _ => pk_eq 35 34 (fun y => absurd y (by omega)) (fun _ => pk_eq 35 35 (fun _ => h) (fun y => absurd y (by omega))))))))))))
theorem y_c_36 {post : Int64 → Prop} {w : Bool} {x y : Int64} (h : post (nr w 36 x y)) : wpY_calculate post (nI 36) x y (bb_i w) := by
  rw [nr_36] at h
  cases w with
  | false =>
    exact br_t rfl (nm_r rfl (pk_lt 36 29 (fun y => absurd y (by omega)) (fun _ => pk_lt 44 36 (fun y => absurd y (by omega)) (fun _ => pk_eq 36 29 (fun y => absurd y (by omega)) (fun _ => pk_eq 36 30 (fun y => absurd y (by omega)) (fun _ => pk_eq 36 31 (fun y => absurd y (by omega)) (fun _ => pk_eq 36 32 (fun y => absurd y (by omega)) (fun _ => pk_eq 36 33 (fun y => absurd y (by omega)) (fun _ => pk_eq 36 34 (fun y => absurd y (by omega)) (fun _ => pk_eq 36 35 (fun y => absurd y (by omega)) (fun _ => pk_eq 36 36 (fun _ => h) (fun y => absurd y (by omega)))))))))))))
  | true =>
    exact br_f (by decide) (nm_r rfl (pk_lt 36 29 (fun y => absurd y (by omega)) (fun _ => pk_lt 44 36 (fun y => absurd y (by omega)) (fun _ => pk_eq 36 29 (fun y => absurd y (by omega)) (fun _ => pk_eq 36 30 (fun y => absurd y (by omega)) (fun _ => pk_eq 36 31 (fun y => absurd y (by omega)) (fun _ => pk_eq 36 32 (fun y => absurd y (by omega)) (fun _ => pk_eq 36 33 (fun y => absurd y (by omega)) (fun _ => pk_eq 36 34 (fun y => absurd y (by omega)) (fun _ => pk_eq 36 35 (fun y => absurd y (by omega)) (fun _ => pk_eq 36 36 (fun _ => h) (fun y => absurd y (by omega)))))))))))))
theorem y_c_37 {post : Int64 → Prop} {w : Bool} {x y : Int64} (hy : ¬ y = 0) (h : post (nr w 37 x y)) : wpY_calculate post (nI 37) x y (bb_i w) := by
  rw [nr_37] at h
  cases w with
  | false =>
    exact br_t rfl (nm_r rfl (pk_lt 37 29 (fun y => absurd y (by omega)) (fun _ => pk_lt 44 37 (fun y => absurd y (by omega)) (fun _ => pk_eq 37 29 (fun y => absurd y (by omega)) (fun _ => pk_eq 37 30 (fun y => absurd y (by omega)) (fun _ => pk_eq 37 31 (fun y => absurd y (by omega)) (fun _ => pk_eq 37 32 (fun y => absurd y (by omega)) (fun _ => pk_eq 37 33 (fun y => absurd y (by omega)) (fun _ => pk_eq 37 34 (fun y => absurd y (by omega)) (fun _ => pk_eq 37 35 (fun y => absurd y (by omega)) (fun _ => pk_eq 37 36 (fun y => absurd y (by omega)) (fun _ => pk_eq 37 37 (fun _ => br_f hy ⟨hy, h⟩) (fun y => absurd y (by omega))))))))))))))
  | true =>
    exact br_f (by decide) (nm_r rfl (pk_lt 37 29 (fun y => absurd y (by omega)) (fun _ => pk_lt 44 37 (fun y => absurd y (by omega)) (fun _ => pk_eq 37 29 (fun y => absurd y (by omega)) (fun _ => pk_eq 37 30 (fun y => absurd y (by omega)) (fun _ => pk_eq 37 31 (fun y => absurd y (by omega)) (fun _ => pk_eq 37 32 (fun y => absurd y (by omega)) (fun _ => pk_eq 37 33 (fun y => absurd y (by omega)) (fun _ => pk_eq 37 34 (fun y => absurd y (by omega)) (fun _ => pk_eq 37 35 (fun y => absurd y (by omega)) (fun _ => pk_eq 37 36 (fun y => absurd y (by omega)) (fun _ => pk_eq 37 37 (fun _ => br_f hy ⟨hy, h⟩) (fun y => absurd y (by omega))))))))))))))
theorem y_c_38 {post : Int64 → Prop} {w : Bool} {x y : Int64} (hy : ¬ y = 0) (hs : w = false → sx64 y) (h : post (nr w 38 x y)) : wpY_calculate post (nI 38) x y (bb_i w) := by
  rw [nr_38] at h
  cases w with
  | false =>
    exact br_t rfl (nm_r rfl (pk_lt 38 29 (fun y => absurd y (by omega)) (fun _ => pk_lt 44 38 (fun y => absurd y (by omega)) (fun _ => pk_eq 38 29 (fun y => absurd y (by omega)) (fun _ => pk_eq 38 30 (fun y => absurd y (by omega)) (fun _ => pk_eq 38 31 (fun y => absurd y (by omega)) (fun _ => pk_eq 38 32 (fun y => absurd y (by omega)) (fun _ => pk_eq 38 33 (fun y => absurd y (by omega)) (fun _ => pk_eq 38 34 (fun y => absurd y (by omega)) (fun _ => pk_eq 38 35 (fun y => absurd y (by omega)) (fun _ => pk_eq 38 36 (fun y => absurd y (by omega)) (fun _ => pk_eq 38 37 (fun y => absurd y (by omega)) (fun _ => pk_eq 38 38 (fun _ => br_t rfl (br_f hy ⟨sx_lo (hs rfl) hy, h⟩)) (fun y => absurd y (by omega)))))))))))))))
  | true =>
    exact br_f (by decide) (nm_r rfl (pk_lt 38 29 (fun y => absurd y (by omega)) (fun _ => pk_lt 44 38 (fun y => absurd y (by omega)) (fun _ => pk_eq 38 29 (fun y => absurd y (by omega)) (fun _ => pk_eq 38 30 (fun y => absurd y (by omega)) (fun _ => pk_eq 38 31 (fun y => absurd y (by omega)) (fun _ => pk_eq 38 32 (fun y => absurd y (by omega)) (fun _ => pk_eq 38 33 (fun y => absurd y (by omega)) (fun _ => pk_eq 38 34 (fun y => absurd y (by omega)) (fun _ => pk_eq 38 35 (fun y => absurd y (by omega)) (fun _ => pk_eq 38 36 (fun y => absurd y (by omega)) (fun _ => pk_eq 38 37 (fun y => absurd y (by omega)) (fun _ => pk_eq 38 38 (fun _ => br_f (by decide) (y_uns hy h)) (fun y => absurd y (by omega)))))))))))))))
theorem y_c_39 {post : Int64 → Prop} {w : Bool} {x y : Int64} (hy : ¬ y = 0) (h : post (nr w 39 x y)) : wpY_calculate post (nI 39) x y (bb_i w) := by
  rw [nr_39] at h
  cases w with
  | false =>
    exact br_t rfl (nm_r rfl (pk_lt 39 29 (fun y => absurd y (by omega)) (fun _ => pk_lt 44 39 (fun y => absurd y (by omega)) (fun _ => pk_eq 39 29 (fun y => absurd y (by omega)) (fun _ => pk_eq 39 30 (fun y => absurd y (by omega)) (fun _ => pk_eq 39 31 (fun y => absurd y (by omega)) (fun _ => pk_eq 39 32 (fun y => absurd y (by omega)) (fun _ => pk_eq 39 33 (fun y => absurd y (by omega)) (fun _ => pk_eq 39 34 (fun y => absurd y (by omega)) (fun _ => pk_eq 39 35 (fun y => absurd y (by omega)) (fun _ => pk_eq 39 36 (fun y => absurd y (by omega)) (fun _ => pk_eq 39 37 (fun y => absurd y (by omega)) (fun _ => pk_eq 39 38 (fun y => absurd y (by omega)) (fun _ => pk_eq 39 39 (fun _ => br_f hy ⟨hy, h⟩) (fun y => absurd y (by omega))))))))))))))))
  | true =>
    exact br_f (by decide) (nm_r rfl (pk_lt 39 29 (fun y => absurd y (by omega)) (fun _ => pk_lt 44 39 (fun y => absurd y (by omega)) (fun _ => pk_eq 39 29 (fun y => absurd y (by omega)) (fun _ => pk_eq 39 30 (fun y => absurd y (by omega)) (fun _ => pk_eq 39 31 (fun y => absurd y (by omega)) (fun _ => pk_eq 39 32 (fun y => absurd y (by omega)) (fun _ => pk_eq 39 33 (fun y => absurd y (by omega)) (fun _ => pk_eq 39 34 (fun y => absurd y (by omega)) (fun _ => pk_eq 39 35 (fun y => absurd y (by omega)) (fun _ => pk_eq 39 36 (fun y => absurd y (by omega)) (fun _ => pk_eq 39 37 (fun y => absurd y (by omega)) (fun _ => pk_eq 39 38 (fun y => absurd y (by omega)) (fun _ => pk_eq 39 39 (fun _ => br_f hy ⟨hy, h⟩) (fun y => absurd y (by omega))))))))))))))))
theorem y_c_40 {post : Int64 → Prop} {w : Bool} {x y : Int64} (h : post (nr w 40 x y)) : wpY_calculate post (nI 40) x y (bb_i w) := by
  rw [nr_40] at h
  cases w with
  | false =>
    exact br_t rfl (nm_r rfl (pk_lt 40 29 (fun y => absurd y (by omega)) (fun _ => pk_lt 44 40 (fun y => absurd y (by omega)) (fun _ => pk_eq 40 29 (fun y => absurd y (by omega)) (fun _ => pk_eq 40 30 (fun y => absurd y (by omega)) (fun _ => pk_eq 40 31 (fun y => absurd y (by omega)) (fun _ => pk_eq 40 32 (fun y => absurd y (by omega)) (fun _ => pk_eq 40 33 (fun y => absurd y (by omega)) (fun _ => pk_eq 40 34 (fun y => absurd y (by omega)) (fun _ => pk_eq 40 35 (fun y => absurd y (by omega)) (fun _ => pk_eq 40 36 (fun y => absurd y (by omega)) (fun _ => pk_eq 40 37 (fun y => absurd y (by omega)) (fun _ => pk_eq 40 38 (fun y => absurd y (by omega)) (fun _ => pk_eq 40 39 (fun y => absurd y (by omega)) (fun _ => pk_eq 40 40 (fun _ => h) (fun y => absurd y (by omega)))))))))))))))))
  | true =>
    exact br_f (by decide) (nm_r rfl (pk_lt 40 29 (fun y => absurd y (by omega)) (fun _ => pk_lt 44 40 (fun y => absurd y (by omega)) (fun _ => pk_eq 40 29 (fun y => absurd y (by omega)) (fun _ => pk_eq 40 30 (fun y => absurd y (by omega)) (fun _ => pk_eq 40 31 (fun y => absurd y (by omega)) (fun _ => pk_eq 40 32 (fun y => absurd y (by omega)) (fun _ => pk_eq 40 33 (fun y => absurd y (by omega)) (fun _ => pk_eq 40 34 (fun y => absurd y (by omega)) (fun _ => pk_eq 40 35 (fun y => absurd y (by omega)) (fun _ => pk_eq 40 36 (fun y => absurd y (by omega)) (fun _ => pk_eq 40 37 (fun y => absurd y (by omega)) (fun _ => pk_eq 40 38 (fun y => absurd y (by omega)) (fun _ => pk_eq 40 39 (fun y => absurd y (by omega)) (fun _ => pk_eq 40 40 (fun _ => h) (fun y => absurd y (by omega)))))))))))))))))
theorem y_c_41 {post : Int64 → Prop} {w : Bool} {x y : Int64} (h : post (nr w 41 x y)) : wpY_calculate post (nI 41) x y (bb_i w) := by
  rw [nr_41] at h
  cases w with
  | false =>
    exact br_t rfl (nm_r rfl (pk_lt 41 29 (fun y => absurd y (by omega)) (fun _ => pk_lt 44 41 (fun y => absurd y (by omega)) (fun _ => pk_eq 41 29 (fun y => absurd y (by omega)) (fun _ => pk_eq 41 30 (fun y => absurd y (by omega)) (fun _ => pk_eq 41 31 (fun y => absurd y (by omega)) (fun _ => pk_eq 41 32 (fun y => absurd y (by omega)) (fun _ => pk_eq 41 33 (fun y => absurd y (by omega)) (fun _ => pk_eq 41 34 (fun y => absurd y (by omega)) (fun _ => pk_eq 41 35 (fun y => absurd y (by omega)) (fun _ => pk_eq 41 36 (fun y => absurd y (by omega)) (fun _ => pk_eq 41 37 (fun y => absurd y (by omega)) (fun _ => pk_eq 41 38 (fun y => absurd y (by omega)) (fun _ => pk_eq 41 39 (fun y => absurd y (by omega)) (fun _ => pk_eq 41 40 (fun y => absurd y (by omega)) (fun _ => pk_eq 41 41 (fun _ => h) (fun y => absurd y (by omega))))))))))))))))))
  | true =>
    exact br_f (by decide) (nm_r rfl (pk_lt 41 29 (fun y => absurd y (by omega)) (fun _ => pk_lt 44 41 (fun y => absurd y (by omega)) (fun _ => pk_eq 41 29 (fun y => absurd y (by omega)) (fun _ => pk_eq 41 30 (fun y => absurd y (by omega)) (fun _ => pk_eq 41 31 (fun y => absurd y (by omega)) (fun _ => pk_eq 41 32 (fun y => absurd y (by omega)) (fun _ => pk_eq 41 33 (fun y => absurd y (by omega)) (fun _ => pk_eq 41 34 (fun y => absurd y (by omega)) (fun _ => pk_eq 41 35 (fun y => absurd y (by omega)) (fun _ => pk_eq 41 36 (fun y => absurd y (by omega)) (fun _ => pk_eq 41 37 (fun y => absurd y (by omega)) (fun _ => pk_eq 41 38 (fun y => absurd y (by omega)) (fun _ => pk_eq 41 39 (fun y => absurd y (by omega)) (fun _ => pk_eq 41 40 (fun y => absurd y (by omega)) (fun _ => pk_eq 41 41 (fun _ => h) (fun y => absurd y (by omega))))))))))))))))))
theorem y_c_42 {post : Int64 → Prop} {w : Bool} {x y : Int64} (h : post (nr w 42 x y)) : wpY_calculate post (nI 42) x y (bb_i w) := by
  rw [nr_42] at h
  cases w with
  | false =>
    exact br_t rfl (nm_r rfl (pk_lt 42 29 (fun y => absurd y (by omega)) (fun _ => pk_lt 44 42 (fun y => absurd y (by omega)) (fun _ => pk_eq 42 29 (fun y => absurd y (by omega)) (fun _ => pk_eq 42 30 (fun y => absurd y (by omega)) (fun _ => pk_eq 42 31 (fun y => absurd y (by omega)) (fun _ => pk_eq 42 32 (fun y => absurd y (by omega)) (fun _ => pk_eq 42 33 (fun y => absurd y (by omega)) (fun _ => pk_eq 42 34 (fun y => absurd y (by omega)) (fun _ => pk_eq 42 35 (fun y => absurd y (by omega)) (fun _ => pk_eq 42 36 (fun y => absurd y (by omega)) (fun _ => pk_eq 42 37 (fun y => absurd y (by omega)) (fun _ => pk_eq 42 38 (fun y => absurd y (by omega)) (fun _ => pk_eq 42 39 (fun y => absurd y (by omega)) (fun _ => pk_eq 42 40 (fun y => absurd y (by omega)) (fun _ => pk_eq 42 41 (fun y => absurd y (by omega)) (fun _ => pk_eq 42 42 (fun _ => h) (fun y => absurd y (by omega)))))))))))))))))))
  | true =>
    exact br_f (by decide) (nm_r rfl (pk_lt 42 29 (fun y => absurd y (by omega)) (fun _ => pk_lt 44 42 (fun y => absurd y (by omega)) (fun _ => pk_eq 42 29 (fun y => absurd y (by omega)) (fun _ => pk_eq 42 30 (fun y => absurd y (by omega)) (fun _ => pk_eq 42 31 (fun y => absurd y (by omega)) (fun _ => pk_eq 42 32 (fun y => absurd y (by omega)) (fun _ => pk_eq 42 33 (fun y => absurd y (by omega)) (fun _ => pk_eq 42 34 (fun y => absurd y (by omega)) (fun _ => pk_eq 42 35 (fun y => absurd y (by omega)) (fun _ => pk_eq 42 36 (fun y => absurd y (by omega)) (fun _ => pk_eq 42 37 (fun y => absurd y (by omega)) (fun _ => pk_eq 42 38 (fun y => absurd y (by omega)) (fun _ => pk_eq 42 39 (fun y => absurd y (by omega)) (fun _ => pk_eq 42 40 (fun y => absurd y (by omega)) (fun _ => pk_eq 42 41 (fun y => absurd y (by omega)) (fun _ => pk_eq 42 42 (fun _ => h) (fun y => absurd y (by omega)))))))))))))))))))
theorem y_c_43 {post : Int64 → Prop} {w : Bool} {x y : Int64} (h : post (nr w 43 x y)) : wpY_calculate post (nI 43) x y (bb_i w) := by
  rw [nr_43] at h
  cases w with
  | false =>
    exact br_t rfl (nm_r rfl (pk_lt 43 29 (fun y => absurd y (by omega)) (fun _ => pk_lt 44 43 (fun y => absurd y (by omega)) (fun _ => pk_eq 43 29 (fun y => absurd y (by omega)) (fun _ => pk_eq 43 30 (fun y => absurd y (by omega)) (fun _ => pk_eq 43 31 (fun y => absurd y (by omega)) (fun _ => pk_eq 43 32 (fun y => absurd y (by omega)) (fun _ => pk_eq 43 33 (fun y => absurd y (by omega)) (fun _ => pk_eq 43 34 (fun y => absurd y (by omega)) (fun _ => pk_eq 43 35 (fun y => absurd y (by omega)) (fun _ => pk_eq 43 36 (fun y => absurd y (by omega)) (fun _ => pk_eq 43 37 (fun y => absurd y (by omega)) (fun _ => pk_eq 43 38 (fun y => absurd y (by omega)) (fun _ => pk_eq 43 39 (fun y => absurd y (by omega)) (fun _ => pk_eq 43 40 (fun y => absurd y (by omega)) (fun _ => pk_eq 43 41 (fun y => absurd y (by omega)) (fun _ => pk_eq 43 42 (fun y => absurd y (by omega)) (fun _ => pk_eq 43 43 (fun _ => h) (fun y => absurd y (by omega))))))))))))))))))))
  | true =>
    exact br_f (by decide) (nm_r rfl (pk_lt 43 29 (fun y => absurd y (by omega)) (fun _ => pk_lt 44 43 (fun y => absurd y (by omega)) (fun _ => pk_eq 43 29 (fun y => absurd y (by omega)) (fun _ => pk_eq 43 30 (fun y => absurd y (by omega)) (fun _ => pk_eq 43 31 (fun y => absurd y (by omega)) (fun _ => pk_eq 43 32 (fun y => absurd y (by omega)) (fun _ => pk_eq 43 33 (fun y => absurd y (by omega)) (fun _ => pk_eq 43 34 (fun y => absurd y (by omega)) (fun _ => pk_eq 43 35 (fun y => absurd y (by omega)) (fun _ => pk_eq 43 36 (fun y => absurd y (by omega)) (fun _ => pk_eq 43 37 (fun y => absurd y (by omega)) (fun _ => pk_eq 43 38 (fun y => absurd y (by omega)) (fun _ => pk_eq 43 39 (fun y => absurd y (by omega)) (fun _ => pk_eq 43 40 (fun y => absurd y (by omega)) (fun _ => pk_eq 43 41 (fun y => absurd y (by omega)) (fun _ => pk_eq 43 42 (fun y => absurd y (by omega)) (fun _ => pk_eq 43 43 (fun _ => h) (fun y => absurd y (by omega))))))))))))))))))))
theorem y_c_44 {post : Int64 → Prop} {w : Bool} {x y : Int64} (h : post (nr w 44 x y)) : wpY_calculate post (nI 44) x y (bb_i w) := by
  rw [nr_44] at h
  cases w with
  | false =>
    exact br_t rfl (nm_r rfl (pk_lt 44 29 (fun y => absurd y (by omega)) (fun _ => pk_lt 44 44 (fun y => absurd y (by omega)) (fun _ => pk_eq 44 29 (fun y => absurd y (by omega)) (fun _ => pk_eq 44 30 (fun y => absurd y (by omega)) (fun _ => pk_eq 44 31 (fun y => absurd y (by omega)) (fun _ => pk_eq 44 32 (fun y => absurd y (by omega)) (fun _ => pk_eq 44 33 (fun y => absurd y (by omega)) (fun _ => pk_eq 44 34 (fun y => absurd y (by omega)) (fun _ => pk_eq 44 35 (fun y => absurd y (by omega)) (fun _ => pk_eq 44 36 (fun y => absurd y (by omega)) (fun _ => pk_eq 44 37 (fun y => absurd y (by omega)) (fun _ => pk_eq 44 38 (fun y => absurd y (by omega)) (fun _ => pk_eq 44 39 (fun y => absurd y (by omega)) (fun _ => pk_eq 44 40 (fun y => absurd y (by omega)) (fun _ => pk_eq 44 41 (fun y => absurd y (by omega)) (fun _ => pk_eq 44 42 (fun y => absurd y (by omega)) (fun _ => pk_eq 44 43 (fun y => absurd y (by omega)) (fun _ => pk_eq 44 44 (fun _ => h) (fun y => absurd y (by omega)))))))))))))))))))))
  | true =>
    exact br_f (by decide) (nm_r rfl (pk_lt 44 29 (fun y => absurd y (by omega)) (fun _ => pk_lt 44 44 (fun y => absurd y (by omega)) (fun _ => pk_eq 44 29 (fun y => absurd y (by omega)) (fun _ => pk_eq 44 30 (fun y => absurd y (by omega)) (fun _ => pk_eq 44 31 (fun y => absurd y (by omega)) (fun _ => pk_eq 44 32 (fun y => absurd y (by omega)) (fun _ => pk_eq 44 33 (fun y => absurd y (by omega)) (fun _ => pk_eq 44 34 (fun y => absurd y (by omega)) (fun _ => pk_eq 44 35 (fun y => absurd y (by omega)) (fun _ => pk_eq 44 36 (fun y => absurd y (by omega)) (fun _ => pk_eq 44 37 (fun y => absurd y (by omega)) (fun _ => pk_eq 44 38 (fun y => absurd y (by omega)) (fun _ => pk_eq 44 39 (fun y => absurd y (by omega)) (fun _ => pk_eq 44 40 (fun y => absurd y (by omega)) (fun _ => pk_eq 44 41 (fun y => absurd y (by omega)) (fun _ => pk_eq 44 42 (fun y => absurd y (by omega)) (fun _ => pk_eq 44 43 (fun y => absurd y (by omega)) (fun _ => pk_eq 44 44 (fun _ => h) (fun y => absurd y (by omega)))))))))))))))))))))
theorem y_c_45 {post : Int64 → Prop} {w : Bool} {x y : Int64} (h : post (nr w 45 x y)) : wpY_calculate post (nI 45) x y (bb_i w) := by
  rw [nr_45] at h
  cases w with
  | false =>
    exact br_t rfl (nm_r rfl (pk_lt 45 29 (fun y => absurd y (by omega)) (fun _ => pk_lt 44 45 (fun _ => br_t rfl h) (fun y => absurd y (by omega)))))
  | true =>
    exact br_f (by decide) (nm_r rfl (pk_lt 45 29 (fun y => absurd y (by omega)) (fun _ => pk_lt 44 45 (fun _ => br_f (by decide) h) (fun y => absurd y (by omega)))))
theorem x_c_29 {post : Int32 → Prop} {w : Bool} {x y : Int64} (h : ∀ b : Bool, nr w 29 x y = (if b = true then 1 else 0) → post (bb_i b)) : wpX_compare post (nI 29) x y := by
  have h1 := h true
  have h0 := h false
  rw [nr_29] at h1 h0
  exact pk_lt 29 29 (fun y => absurd y (by omega)) (fun _ => pk_lt 32 29 (fun y => absurd y (by omega)) (fun _ => pk_eq 29 29 (fun _ => br_c (fun z => h1 (if_pos z)) (fun z => h0 (if_neg z))) (fun y => absurd y (by omega))))
theorem x_c_30 {post : Int32 → Prop} {w : Bool} {x y : Int64} (h : ∀ b : Bool, nr w 30 x y = (if b = true then 1 else 0) → post (bb_i b)) : wpX_compare post (nI 30) x y := by
  have h1 := h true
  have h0 := h false
  rw [nr_30] at h1 h0
  exact pk_lt 30 29 (fun y => absurd y (by omega)) (fun _ => pk_lt 32 30 (fun y => absurd y (by omega)) (fun _ => pk_eq 30 29 (fun y => absurd y (by omega)) (fun _ => pk_eq 30 30 (fun _ => br_c (fun z => h0 (if_pos z)) (fun z => h1 (if_neg z))) (fun y => absurd y (by omega)))))
theorem x_c_31 {post : Int32 → Prop} {w : Bool} {x y : Int64} (h : ∀ b : Bool, nr w 31 x y = (if b = true then 1 else 0) → post (bb_i b)) : wpX_compare post (nI 31) x y := by
  have h1 := h true
  have h0 := h false
  rw [nr_31] at h1 h0
  exact pk_lt 31 29 (fun y => absurd y (by omega)) (fun _ => pk_lt 32 31 (fun y => absurd y (by omega)) (fun _ => pk_eq 31 29 (fun y => absurd y (by omega)) (fun _ => pk_eq 31 30 (fun y => absurd y (by omega)) (fun _ => pk_eq 31 31 (fun _ => br_c (fun z => h0 (if_pos z)) (fun z => h1 (if_neg z))) (fun y => absurd y (by omega))))))
theorem x_c_32 {post : Int32 → Prop} {w : Bool} {x y : Int64} (h : ∀ b : Bool, nr w 32 x y = (if b = true then 1 else 0) → post (bb_i b)) : wpX_compare post (nI 32) x y := by
  have h1 := h true
  have h0 := h false
  rw [nr_32] at h1 h0
  exact pk_lt 32 29 (fun y => absurd y (by omega)) (fun _ => pk_lt 32 32 (fun y => absurd y (by omega)) (fun _ => pk_eq 32 29 (fun y => absurd y (by omega)) (fun _ => pk_eq 32 30 (fun y => absurd y (by omega)) (fun _ => pk_eq 32 31 (fun y => absurd y (by omega)) (fun _ => pk_eq 32 32 (fun _ => br_c (fun z => ⟨rfl, h0 (if_pos z)⟩) (fun z => ⟨rfl, h1 (if_neg z)⟩)) (fun y => absurd y (by omega)))))))
theorem x_c_33 {post : Int32 → Prop} {w : Bool} {x y : Int64} (h : ∀ b : Bool, nr w 33 x y = (if b = true then 1 else 0) → post (bb_i b)) : wpX_compare post (nI 33) x y := by
  have h1 := h true
  have h0 := h false
  rw [nr_33] at h1 h0
  exact pk_lt 33 29 (fun y => absurd y (by omega)) (fun _ => pk_lt 32 33 (fun _ => br_c (fun z => h0 (if_pos z)) (fun z => h1 (if_neg z))) (fun y => absurd y (by omega)))
def kn (w : Bool) : Nat := if w = true then 2 else 1
theorem x_c_34 {post : Int64 → Prop} {w : Bool} {x y : Int64} (h : post (nr w 34 x y)) : wpX_compute post (nI 34) (nI (kn w)) x y := by
  rw [nr_34] at h
  exact pk_lt 34 34 (fun y => absurd y (by omega)) (fun _ => pk_lt 41 34 (fun y => absurd y (by omega)) (fun _ => pk_eq 34 34 (fun _ => h) (fun y => absurd y (by omega))))
theorem x_c_35 {post : Int64 → Prop} {w : Bool} {x y : Int64} (h : post (nr w 35 x y)) : wpX_compute post (nI 35) (nI (kn w)) x y := by
  rw [nr_35] at h
  exact pk_lt 35 34 (fun y => absurd y (by omega)) (fun _ => pk_lt 41 35 (fun y => absurd y (by omega)) (fun _ => pk_eq 35 34 (fun y => absurd y (by omega)) (fun _ => pk_eq 35 35 (fun _ => h) (fun y => absurd y (by omega)))))
theorem x_c_36 {post : Int64 → Prop} {w : Bool} {x y : Int64} (h : post (nr w 36 x y)) : wpX_compute post (nI 36) (nI (kn w)) x y := by
  rw [nr_36] at h
  exact pk_lt 36 34 (fun y => absurd y (by omega)) (fun _ => pk_lt 41 36 (fun y => absurd y (by omega)) (fun _ => pk_eq 36 34 (fun y => absurd y (by omega)) (fun _ => pk_eq 36 35 (fun y => absurd y (by omega)) (fun _ => pk_eq 36 36 (fun _ => h) (fun y => absurd y (by omega))))))
theorem x_c_37 {post : Int64 → Prop} {w : Bool} {x y : Int64} (hy : ¬ y = 0) (h : post (nr w 37 x y)) : wpX_compute post (nI 37) (nI (kn w)) x y := by
  rw [nr_37] at h
  exact pk_lt 37 34 (fun y => absurd y (by omega)) (fun _ => pk_lt 41 37 (fun y => absurd y (by omega)) (fun _ => pk_eq 37 34 (fun y => absurd y (by omega)) (fun _ => pk_eq 37 35 (fun y => absurd y (by omega)) (fun _ => pk_eq 37 36 (fun y => absurd y (by omega)) (fun _ => pk_eq 37 37 (fun _ => br_f hy ⟨hy, h⟩) (fun y => absurd y (by omega)))))))
theorem x_c_38 {post : Int64 → Prop} {w : Bool} {x y : Int64} (hy : ¬ y = 0) (hs : w = false → sx64 y) (h : post (nr w 38 x y)) : wpX_compute post (nI 38) (nI (kn w)) x y := by
  rw [nr_38] at h
  cases w with
  | false =>
    refine pk_lt 38 34 (fun y => absurd y (by omega)) (fun _ => pk_lt 41 38 (fun y => absurd y (by omega)) (fun _ => pk_eq 38 34 (fun y => absurd y (by omega)) (fun _ => pk_eq 38 35 (fun y => absurd y (by omega)) (fun _ => pk_eq 38 36 (fun y => absurd y (by omega)) (fun _ => pk_eq 38 37 (fun y => absurd y (by omega)) (fun _ => pk_eq 38 38 (fun _ => br_t rfl (x_du (sx_lo (hs rfl) hy) ?_)) (fun y => absurd y (by omega))))))))
    have e : (x &&& 4294967295) / (y &&& 4294967295) = lN (uN (x &&& 4294967295) / uN (y &&& 4294967295)) := by
      have h1 := uN_lo x
      have h2 := uN_lo y
      have := pk_lDiv (a := uN (x &&& 4294967295)) (b := uN (y &&& 4294967295)) (by omega) (uN_pos (sx_lo (hs rfl) hy)) (by omega)
      rw [← uN_l (x &&& 4294967295), ← uN_l (y &&& 4294967295)] at this
      exact this
    rw [if_neg (by decide), e] at h
    exact h
  | true =>
    exact pk_lt 38 34 (fun y => absurd y (by omega)) (fun _ => pk_lt 41 38 (fun y => absurd y (by omega)) (fun _ => pk_eq 38 34 (fun y => absurd y (by omega)) (fun _ => pk_eq 38 35 (fun y => absurd y (by omega)) (fun _ => pk_eq 38 36 (fun y => absurd y (by omega)) (fun _ => pk_eq 38 37 (fun y => absurd y (by omega)) (fun _ => pk_eq 38 38 (fun _ => br_f (by decide) (x_du hy h)) (fun y => absurd y (by omega))))))))
theorem x_c_39 {post : Int64 → Prop} {w : Bool} {x y : Int64} (hy : ¬ y = 0) (h : post (nr w 39 x y)) : wpX_compute post (nI 39) (nI (kn w)) x y := by
  rw [nr_39] at h
  exact pk_lt 39 34 (fun y => absurd y (by omega)) (fun _ => pk_lt 41 39 (fun y => absurd y (by omega)) (fun _ => pk_eq 39 34 (fun y => absurd y (by omega)) (fun _ => pk_eq 39 35 (fun y => absurd y (by omega)) (fun _ => pk_eq 39 36 (fun y => absurd y (by omega)) (fun _ => pk_eq 39 37 (fun y => absurd y (by omega)) (fun _ => pk_eq 39 38 (fun y => absurd y (by omega)) (fun _ => pk_eq 39 39 (fun _ => br_f hy ⟨hy, h⟩) (fun y => absurd y (by omega)))))))))
theorem x_c_40 {post : Int64 → Prop} {w : Bool} {x y : Int64} (h : post (nr w 40 x y)) : wpX_compute post (nI 40) (nI (kn w)) x y := by
  rw [nr_40] at h
  exact pk_lt 40 34 (fun y => absurd y (by omega)) (fun _ => pk_lt 41 40 (fun y => absurd y (by omega)) (fun _ => pk_eq 40 34 (fun y => absurd y (by omega)) (fun _ => pk_eq 40 35 (fun y => absurd y (by omega)) (fun _ => pk_eq 40 36 (fun y => absurd y (by omega)) (fun _ => pk_eq 40 37 (fun y => absurd y (by omega)) (fun _ => pk_eq 40 38 (fun y => absurd y (by omega)) (fun _ => pk_eq 40 39 (fun y => absurd y (by omega)) (fun _ => pk_eq 40 40 (fun _ => h) (fun y => absurd y (by omega))))))))))
theorem x_c_41 {post : Int64 → Prop} {w : Bool} {x y : Int64} (h : post (nr w 41 x y)) : wpX_compute post (nI 41) (nI (kn w)) x y := by
  rw [nr_41] at h
  exact pk_lt 41 34 (fun y => absurd y (by omega)) (fun _ => pk_lt 41 41 (fun y => absurd y (by omega)) (fun _ => pk_eq 41 34 (fun y => absurd y (by omega)) (fun _ => pk_eq 41 35 (fun y => absurd y (by omega)) (fun _ => pk_eq 41 36 (fun y => absurd y (by omega)) (fun _ => pk_eq 41 37 (fun y => absurd y (by omega)) (fun _ => pk_eq 41 38 (fun y => absurd y (by omega)) (fun _ => pk_eq 41 39 (fun y => absurd y (by omega)) (fun _ => pk_eq 41 40 (fun y => absurd y (by omega)) (fun _ => pk_eq 41 41 (fun _ => h) (fun y => absurd y (by omega)))))))))))
theorem x_c_42 {post : Int64 → Prop} {w : Bool} {x y : Int64} (h : post (nr w 42 x y)) : wpX_compute post (nI 42) (nI (kn w)) x y := by
  rw [nr_42] at h
  exact pk_lt 42 34 (fun y => absurd y (by omega)) (fun _ => pk_lt 41 42 (fun _ => h) (fun y => absurd y (by omega)))
def pv (w : Bool) (z : Int64) : Int64 := if w = true then z else z.toInt32.toInt64
theorem x_c_43 {post : Int64 → Prop} {w : Bool} {x y : Int64} (h : post (pv w (nr w 43 x y))) : wpX_shift post (nI 43) (nI (kn w)) x y := by
  rw [nr_43] at h
  cases w with
  | false => exact br_t rfl (nm_r rfl (pk_eq 43 43 (fun _ => nm_r rfl (br_t rfl h)) (fun y => absurd y (by omega))))
  | true => exact br_f (by decide) (nm_r rfl (pk_eq 43 43 (fun _ => nm_r rfl (br_f (by decide) h)) (fun y => absurd y (by omega))))
theorem x_c_44 {post : Int64 → Prop} {w : Bool} {x y : Int64} (h : post (pv w (nr w 44 x y))) : wpX_shift post (nI 44) (nI (kn w)) x y := by
  rw [nr_44] at h
  cases w with
  | false => exact br_t rfl (nm_r rfl (pk_eq 44 43 (fun y => absurd y (by omega)) (fun _ => pk_eq 44 44 (fun _ => nm_r rfl (br_t rfl h)) (fun y => absurd y (by omega)))))
  | true => exact br_f (by decide) (nm_r rfl (pk_eq 44 43 (fun y => absurd y (by omega)) (fun _ => pk_eq 44 44 (fun _ => nm_r rfl (br_f (by decide) h)) (fun y => absurd y (by omega)))))
theorem x_c_45 {post : Int64 → Prop} {w : Bool} {x y : Int64} (h : post (pv w (nr w 45 x y))) : wpX_shift post (nI 45) (nI (kn w)) x y := by
  rw [nr_45] at h
  cases w with
  | false => exact br_t rfl (nm_r rfl (pk_eq 45 43 (fun y => absurd y (by omega)) (fun _ => pk_eq 45 44 (fun y => absurd y (by omega)) (fun _ => br_t rfl (nm_r rfl (br_t rfl h))))))
  | true => exact br_f (by decide) (nm_r rfl (pk_eq 45 43 (fun y => absurd y (by omega)) (fun _ => pk_eq 45 44 (fun y => absurd y (by omega)) (fun _ => br_f (by decide) (nm_r rfl (br_f (by decide) h))))))
