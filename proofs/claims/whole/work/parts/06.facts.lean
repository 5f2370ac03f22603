/-! the heap: fields and arrays -/
theorem zt_sh : ∀ k, k < 403 → (zSh k).1 = 0 → (zSh k).2.1 < 13 ∧ (zSh k).2.2.1 = (zCl (zSh k).2.1).2.2 := by decide +kernel
theorem zt_vw : ∀ c, c < 13 → vwCl[c]? = some (zCl c) := by
  intro c hc
  have : c = 0 ∨ c = 1 ∨ c = 2 ∨ c = 3 ∨ c = 4 ∨ c = 5 ∨ c = 6 ∨ c = 7 ∨ c = 8 ∨ c = 9 ∨ c = 10 ∨ c = 11 ∨ c = 12 := by omega
  rcases this with rfl | rfl | rfl | rfl | rfl | rfl | rfl | rfl | rfl | rfl | rfl | rfl | rfl <;> rfl
/-- the type of a slot -/
def zTf (ci j : Nat) : FieldType := match ci with
  | 0 => tyX0 j
  | 1 => tyX1 j
  | 2 => tyX2 j
  | 3 => tyX3 j
  | 4 => tyX4 j
  | 5 => tyX5 j
  | 6 => tyX6 j
  | 7 => tyX7 j
  | 8 => tyX8 j
  | 9 => tyX9 j
  | 10 => tyX10 j
  | 11 => tyX11 j
  | _ => tyX12 j
theorem zt_ty : ∀ ci, ci < 13 → ∀ k, k < (zCl ci).2.2 → parseFieldDescriptor ((zCl ci).2.1 k).2.2.1 = some (zTf ci k) := by decide +kernel
theorem zt_nm : ∀ ci, ci < 13 → ∀ a, a < (zCl ci).2.2 → ∀ b, b < (zCl ci).2.2 → a ≠ b → ((zCl ci).2.1 a).2.1 ≠ ((zCl ci).2.1 b).2.1 := by decide +kernel
theorem zt_in : ∀ ci, ci < 13 → ∀ w ∈ u_ws (zCl ci).1 (zCl ci).2.1 (zCl ci).2.2, w ∈ zgood := by decide +kernel
theorem zt_row3b : ∀ o, o < 403 → ((zSh o).1 ≠ 3 ∨ ∀ i, i < (zSh o).2.2.1 → (zSh ((zSh o).2.1 + i) = (5, o, i, (zSh o).2.2.2) ∧ (zSh o).2.1 + i < 403)) := by decide +kernel
theorem zt_row3 (o : Nat) (h : o < 403) (h2 : (zSh o).1 = 3) (i : Nat) (hi : i < (zSh o).2.2.1) : zSh ((zSh o).2.1 + i) = (5, o, i, (zSh o).2.2.2) ∧ (zSh o).2.1 + i < 403 := (zt_row3b o h).elim (fun q => absurd h2 q) (fun q => q i hi)
theorem zt_row4b : ∀ o, o < 403 → ((zSh o).1 ≠ 4 ∨ ∀ i, i < (zSh o).2.2.1 → (zSh ((zSh o).2.1 + i) = (6, o, i, (zSh o).2.2.2) ∧ (zSh o).2.1 + i < 403)) := by decide +kernel
theorem zt_row4 (o : Nat) (h : o < 403) (h2 : (zSh o).1 = 4) (i : Nat) (hi : i < (zSh o).2.2.1) : zSh ((zSh o).2.1 + i) = (6, o, i, (zSh o).2.2.2) ∧ (zSh o).2.1 + i < 403 := (zt_row4b o h).elim (fun q => absurd h2 q) (fun q => q i hi)
/-- kinds and types agree -/
def zTq (t : Nat) (ty : FieldType) : Bool := match t, ty with
  | 0, .int => true
  | 1, .long => true
  | 3, .boolean => true
  | 2, .object _ => true
  | 2, .array _ => true
  | _, _ => false
theorem zt_kd : ∀ ci, ci < 13 → ∀ j, j < (zCl ci).2.2 → zTq ((zTy ci).getD j 0) (zTf ci j) = true := by decide +kernel
theorem zt_len : ∀ k, k < 403 → (zSh k).1 = 5 ∨ (zSh k).1 = 6 → (zSh k).2.1 < 403 ∧ ((zSh k).1 = 5 → (zSh (zSh k).2.1).1 = 3) ∧ ((zSh k).1 = 6 → (zSh (zSh k).2.1).1 = 4) ∧ (zSh k).2.2.2 = (zSh (zSh k).2.1).2.2.2 ∧ k = (zSh (zSh k).2.1).2.1 + (zSh k).2.2.1 ∧ (zSh k).2.2.1 < (zSh (zSh k).2.1).2.2.1 := by decide +kernel
theorem zt_rf : ∀ k, k < 403 → ∀ j, j < (zSh k).2.2.1 → (zRf k).getD j 0 < 403 := by decide +kernel
theorem zt_out : ∀ o, o < 403 → (zSh o).1 = 3 ∨ (zSh o).1 = 4 → (zSh o).2.1 = o + 1 := by decide +kernel
theorem zt_le : ∀ k, k < 403 → (zSh k).1 ≤ 6 := by decide +kernel
