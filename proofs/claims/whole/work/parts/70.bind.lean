/-! PURE: bind, event alike. -/
theorem Inv.bind {uC uM : Ug} (h : Inv uC uM) {f : Nat} {x : Int32} (hf : f < 4) (hx : x = -1 ∨ ∃ m : Nat, m < 12 ∧ x = nI m) : Inv (wr uC 6 f x) (wr uM 7 f x) := by
  refine ⟨h.1.of (wr_n (by decide)) (wr_n (by decide)), ?_, h.2.2.1.of (fun r hr => wr_n (by omega)) (fun r hr => wr_n (by omega)), h.2.2.2.1.of (fun r hr => wr_n (by omega)) (fun r hr => wr_n (by omega)), h.2.2.2.2.1.of (fun r hr => wr_n (by omega)) (fun r hr => wr_n (by omega)), h.2.2.2.2.2.of (fun r hr => wr_n (by omega)) (fun r hr => wr_n (by omega))⟩
  obtain ⟨a, b, c, d, e⟩ := h.2.1
  unfold IvC
  rw [wr_n (show (18 : Nat) ≠ 6 by decide), wr_n (show (1 : Nat) ≠ 6 by decide), wr_n (show (3 : Nat) ≠ 6 by decide), wr_n (show (4 : Nat) ≠ 6 by decide), wr_n (show (5 : Nat) ≠ 6 by decide), wr_n (show (1 : Nat) ≠ 7 by decide), wr_n (show (2 : Nat) ≠ 7 by decide), wr_n (show (3 : Nat) ≠ 7 by decide), wr_n (show (4 : Nat) ≠ 7 by decide), wr_n (show (5 : Nat) ≠ 7 by decide), wr_s, wr_s, e.1]
  refine ⟨a, b, c, d, rfl, fun g hg => ?_⟩
  by_cases z : g = f
  · rw [z, upd_s]; exact hx
  · rw [upd_n z, ← e.1]; exact e.2 g hg
theorem C_bindTo {u : Ug} {f : Nat} {x : Int32} (hf : f < 4) : fC_Faces_bindTo (nI f) x u = some (0, wr u 6 f x) := by
  unfold fC_Faces_bindTo
  rw [if_neg (by rw [lit_0]; exact nI_nlt (Nat.zero_le _) (by omega)), if_neg (by rw [lit_4]; exact nI_ge hf (by omega)), pu_wr hf (by omega)]
  rfl
theorem Alike_bind (x1 x2 x3 : Int32) : Alike (fC_bind x1 x2 x3) (fM_bind x1 x2 x3) := by
  intro uC uM h
  obtain ⟨⟨k, hk4, hkC, hkM⟩, -⟩ := id h.2.1
  have hpl : ∃ y : Int32, fC_Code_placeOf x2 x3 uC = some (y, uC) := by
    rcases mem_ix (x2 := x2) (x3 := x3) hk4 with hno | ⟨c, m, hc, hm, rfl, rfl⟩
    · exact ⟨_, C_placeOf_no hkC hno⟩
    · exact ⟨_, C_placeOf_ok hkC hk4 hc hm⟩
  unfold fC_bind fM_bind
  rcases arg_ix x1 4 (by decide) with hx | ⟨f, hf, rfl⟩
  · rw [M_in_no (lo := 0) (hi := 3) (a := 0) (b := 3) rfl rfl (by decide) (by decide) hx]
    by_cases q : x2 = -1
    · rw [if_pos q, C_isFace_no hx]
      exact ⟨_, _, _, rfl, rfl, h⟩
    · obtain ⟨y, hy⟩ := hpl
      rw [if_neg q, hy]
      simp only [Option.bind_some]
      rw [C_isFace_no hx]
      exact ⟨_, _, _, rfl, rfl, h⟩
  · rw [M_in_ok (lo := 0) (hi := 3) (a := 0) (b := 3) rfl rfl (by decide) (Nat.zero_le _) (by omega)]
    simp only [Option.bind_some]
    rw [if_neg (show ¬ ((1 : Int32) = 0) by decide)]
    by_cases q : x2 = -1
    · subst q
      rw [if_pos rfl, if_pos rfl, if_neg (show ¬ ((0 : Int32) ≤ -1) by decide), C_isFace_ok hf]
      simp only [Option.bind_some]
      rw [if_neg (show ¬ ((1 : Int32) = 0) by decide), C_bindTo hf, pu_wr hf (by omega)]
      exact ⟨_, _, _, rfl, rfl, h.bind hf (Or.inl rfl)⟩
    · rw [if_neg q, if_neg q]
      rcases mem_ix (x2 := x2) (x3 := x3) hk4 with hno | ⟨c, m, hc, hm, rfl, rfl⟩
      · rw [C_placeOf_no hkC hno, M_isMember_no hkM hk4 hno]
        simp only [Option.bind_some]
        rw [C_isFace_ok hf]
        simp only [Option.bind_some]
        rw [if_neg (show ¬ ((1 : Int32) = 0) by decide), if_neg q, if_neg (show ¬ ((0 : Int32) ≤ -1) by decide)]
        exact ⟨_, _, _, rfl, rfl, h⟩
      · rw [C_placeOf_ok hkC hk4 hc hm, M_isMember_ok hkM hk4 hc hm]
        simp only [Option.bind_some]
        rw [C_isFace_ok hf]
        simp only [Option.bind_some]
        rw [if_neg (show ¬ ((1 : Int32) = 0) by decide), if_neg (show ¬ ((1 : Int32) = 0) by decide), if_neg q, if_pos (show (0 : Int32) ≤ nI (3 * c + m) by rw [lit_0]; exact nI_le (Nat.zero_le _) (by omega)), if_pos (show (0 : Int32) ≤ nI c by rw [lit_0]; exact nI_le (Nat.zero_le _) (by omega)), C_bindTo hf, lit_3, pk_mul, nI_add, pu_wr hf (by omega)]
        exact ⟨_, _, _, rfl, rfl, h.bind hf (Or.inr ⟨3 * c + m, by omega, rfl⟩)⟩
