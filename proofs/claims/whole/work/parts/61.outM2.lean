/-! PURE: a CALL from outside, in the reference, from its beginning. -/
theorem M_early {u : Ug} (x : Int32) (w : Ug) (A : AO) {v1 v2 v3 v4 v5 : Int32} (hx : ThOk x) (w14 : w 14 0 = nI 0) (w0 : w 0 = A.2.1.1) (w6 : w 6 = A.2.1.2.1) (w8 : w 8 0 = nI A.2.1.2.2.1) (w21 : w 21 0 = nI A.2.1.2.2.2) (ax : A.2.2.1 = x) (ac : A.2.2.2 = x) (xn : x ≠ 0) (hw : ∀ r, r ≠ 0 → r ≠ 6 → r ≠ 8 → ¬ (14 ≤ r ∧ r ≤ 29) → w r = u r) : ∃ u1 : Ug, ((fM_raise x x w).bind fun q => kM_outside 4096 v1 v2 v3 v4 v5 q.2) = some (0, u1) ∧ MO u u1 A := by
  rw [M_raise (tr := fun _ => 0) (fun _ _ => Nat.zero_le _) (d := 0) (by decide) w14 (fun g hg => by omega)]
  simp only [Option.bind_some]
  show ∃ u1, kM_outside (4095 + 1) _ _ _ _ _ (wr (wr (wr w 22 0 x) 23 0 x) 25 0 1) = _ ∧ _
  refine M_fin ?_ ?_ ?_ ?_ ?_ ?_ (fun q => absurd (ax.symm.trans q) xn) ?_ (fun r a b c d => ?_) (by rw [ax]; exact hx)
  · rw [wr_n (by decide), wr_n (by decide), wr_n (by decide)]; exact w0
  · rw [wr_n (by decide), wr_n (by decide), wr_n (by decide)]; exact w6
  · rw [wr_n (by decide), wr_n (by decide), wr_n (by decide)]; exact w8
  · rw [wr_n (by decide), wr_n (by decide), wr_n (by decide)]; exact w21
  · rw [wr_n (by decide), wr_n (by decide), wr_s, upd_s, ax]
  · rw [wr_n (by decide), wr_s, upd_s, ac]
  · rw [wr_s]; exact upd_s
  · rw [wr_n (by omega), wr_n (by omega), wr_n (by omega)]; exact hw r a b c d
theorem pu_sb00 {u : Ug} {k : Nat} : sbO u k 0 = some (wr u k 0 0) := rfl
theorem M_keep0 {u : Ug} : fM_keep 0 u = some (0, wrA u 20 (va_cpy (u 0) (u 20) 0 (70 * 0) 70)) := M_keep (r := 0) (by decide)
/-- the reference's start of a CALL from outside -/
def uS (u : Ug) : Ug := wr (wr (wr (wr (wr (wr u 21 0 0) 22 0 0) 23 0 0) 24 0 0) 25 0 0) 14 0 0
def uK (u : Ug) : Ug := wrA (uS u) 20 (va_cpy (uS u 0) (uS u 20) 0 (70 * 0) 70)
theorem uS_r {u : Ug} {r : Nat} (h : ¬ (14 ≤ r ∧ r ≤ 29)) : uS u r = u r := by
  unfold uS
  rw [wr_n (by omega), wr_n (by omega), wr_n (by omega), wr_n (by omega), wr_n (by omega), wr_n (by omega)]
theorem uK_r {u : Ug} {r : Nat} (h : ¬ (14 ≤ r ∧ r ≤ 29)) : uK u r = u r := by
  unfold uK
  rw [wrA_n (by omega)]; exact uS_r h
theorem uK_z {u : Ug} {r : Nat} (h : r = 14 ∨ r = 21 ∨ r = 22 ∨ r = 23 ∨ r = 24 ∨ r = 25) : uK u r 0 = 0 := by
  unfold uK
  rw [wrA_n (by omega)]
  unfold uS
  rcases h with rfl | rfl | rfl | rfl | rfl | rfl <;> simp [wr, upd]
theorem uK_k {u : Ug} : ∀ j, j < 70 → uK u 20 (70 * 0 + j) = u 0 j := fun j hj => by
  unfold uK
  rw [wrA_s, pk_cpy_in (by omega) (by omega), uS_r (by omega), show 0 + (70 * 0 + j - 70 * 0) = j by omega]
