theorem mCd_0 : (List.range 16).all (fun j => mCd (16 * 0 + j)) = true := by decide +kernel
theorem mCe_0 : (List.range 16).all (fun j => mCe (16 * 0 + j)) = true := by decide +kernel
theorem mCd_1 : (List.range 16).all (fun j => mCd (16 * 1 + j)) = true := by decide +kernel
theorem mCe_1 : (List.range 16).all (fun j => mCe (16 * 1 + j)) = true := by decide +kernel
theorem mCd_2 : (List.range 16).all (fun j => mCd (16 * 2 + j)) = true := by decide +kernel
theorem mCe_2 : (List.range 16).all (fun j => mCe (16 * 2 + j)) = true := by decide +kernel
theorem mCd_3 : (List.range 16).all (fun j => mCd (16 * 3 + j)) = true := by decide +kernel
theorem mCe_3 : (List.range 16).all (fun j => mCe (16 * 3 + j)) = true := by decide +kernel
theorem mCd_4 : (List.range 16).all (fun j => mCd (16 * 4 + j)) = true := by decide +kernel
theorem mCe_4 : (List.range 16).all (fun j => mCe (16 * 4 + j)) = true := by decide +kernel
theorem mCd_5 : (List.range 16).all (fun j => mCd (16 * 5 + j)) = true := by decide +kernel
theorem mCe_5 : (List.range 16).all (fun j => mCe (16 * 5 + j)) = true := by decide +kernel
theorem mCd_6 : (List.range 16).all (fun j => mCd (16 * 6 + j)) = true := by decide +kernel
theorem mCe_6 : (List.range 16).all (fun j => mCe (16 * 6 + j)) = true := by decide +kernel
theorem mCd_7 : (List.range 16).all (fun j => mCd (16 * 7 + j)) = true := by decide +kernel
theorem mCe_7 : (List.range 16).all (fun j => mCe (16 * 7 + j)) = true := by decide +kernel
theorem mCd_8 : (List.range 16).all (fun j => mCd (16 * 8 + j)) = true := by decide +kernel
theorem mCe_8 : (List.range 16).all (fun j => mCe (16 * 8 + j)) = true := by decide +kernel
theorem mCd_9 : (List.range 16).all (fun j => mCd (16 * 9 + j)) = true := by decide +kernel
theorem mCe_9 : (List.range 16).all (fun j => mCe (16 * 9 + j)) = true := by decide +kernel
theorem mCd_10 : (List.range 16).all (fun j => mCd (16 * 10 + j)) = true := by decide +kernel
theorem mCe_10 : (List.range 16).all (fun j => mCe (16 * 10 + j)) = true := by decide +kernel
theorem mCd_11 : (List.range 16).all (fun j => mCd (16 * 11 + j)) = true := by decide +kernel
theorem mCe_11 : (List.range 16).all (fun j => mCe (16 * 11 + j)) = true := by decide +kernel
theorem mCd_12 : (List.range 16).all (fun j => mCd (16 * 12 + j)) = true := by decide +kernel
theorem mCe_12 : (List.range 16).all (fun j => mCe (16 * 12 + j)) = true := by decide +kernel
theorem mCd_13 : (List.range 16).all (fun j => mCd (16 * 13 + j)) = true := by decide +kernel
theorem mCe_13 : (List.range 16).all (fun j => mCe (16 * 13 + j)) = true := by decide +kernel
theorem mCd_14 : (List.range 16).all (fun j => mCd (16 * 14 + j)) = true := by decide +kernel
theorem mCe_14 : (List.range 16).all (fun j => mCe (16 * 14 + j)) = true := by decide +kernel
theorem mCd_15 : (List.range 16).all (fun j => mCd (16 * 15 + j)) = true := by decide +kernel
theorem mCe_15 : (List.range 16).all (fun j => mCe (16 * 15 + j)) = true := by decide +kernel
theorem mCk_all (i : Nat) (h : i < 256) : mCk i = true := by
  have hj : i % 16 ∈ List.range 16 := List.mem_range.mpr (Nat.mod_lt _ (by decide))
  have e : i = 16 * (i / 16) + i % 16 := (Nat.div_add_mod i 16).symm
  unfold mCk
  rw [Bool.and_eq_true, e]
  rcases (by omega : i / 16 = 0 ∨ i / 16 = 1 ∨ i / 16 = 2 ∨ i / 16 = 3 ∨ i / 16 = 4 ∨ i / 16 = 5 ∨ i / 16 = 6 ∨ i / 16 = 7 ∨ i / 16 = 8 ∨ i / 16 = 9 ∨ i / 16 = 10 ∨ i / 16 = 11 ∨ i / 16 = 12 ∨ i / 16 = 13 ∨ i / 16 = 14 ∨ i / 16 = 15) with h1 | h1 | h1 | h1 | h1 | h1 | h1 | h1 | h1 | h1 | h1 | h1 | h1 | h1 | h1 | h1 <;> rw [h1]
  · exact ⟨List.all_eq_true.mp mCd_0 _ hj, List.all_eq_true.mp mCe_0 _ hj⟩
  · exact ⟨List.all_eq_true.mp mCd_1 _ hj, List.all_eq_true.mp mCe_1 _ hj⟩
  · exact ⟨List.all_eq_true.mp mCd_2 _ hj, List.all_eq_true.mp mCe_2 _ hj⟩
  · exact ⟨List.all_eq_true.mp mCd_3 _ hj, List.all_eq_true.mp mCe_3 _ hj⟩
  · exact ⟨List.all_eq_true.mp mCd_4 _ hj, List.all_eq_true.mp mCe_4 _ hj⟩
  · exact ⟨List.all_eq_true.mp mCd_5 _ hj, List.all_eq_true.mp mCe_5 _ hj⟩
  · exact ⟨List.all_eq_true.mp mCd_6 _ hj, List.all_eq_true.mp mCe_6 _ hj⟩
  · exact ⟨List.all_eq_true.mp mCd_7 _ hj, List.all_eq_true.mp mCe_7 _ hj⟩
  · exact ⟨List.all_eq_true.mp mCd_8 _ hj, List.all_eq_true.mp mCe_8 _ hj⟩
  · exact ⟨List.all_eq_true.mp mCd_9 _ hj, List.all_eq_true.mp mCe_9 _ hj⟩
  · exact ⟨List.all_eq_true.mp mCd_10 _ hj, List.all_eq_true.mp mCe_10 _ hj⟩
  · exact ⟨List.all_eq_true.mp mCd_11 _ hj, List.all_eq_true.mp mCe_11 _ hj⟩
  · exact ⟨List.all_eq_true.mp mCd_12 _ hj, List.all_eq_true.mp mCe_12 _ hj⟩
  · exact ⟨List.all_eq_true.mp mCd_13 _ hj, List.all_eq_true.mp mCe_13 _ hj⟩
  · exact ⟨List.all_eq_true.mp mCd_14 _ hj, List.all_eq_true.mp mCe_14 _ hj⟩
  · exact ⟨List.all_eq_true.mp mCd_15 _ hj, List.all_eq_true.mp mCe_15 _ hj⟩
