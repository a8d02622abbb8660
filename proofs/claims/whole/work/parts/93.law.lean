/-! PURE: the law: call after call. -/
theorem step_of {fC fM : Ug → Option (Int32 × Ug)} {u w : Ug} {k : Ug → Ug → Option Int32} (a : Alike fC fM) (h : Inv u w) : ∃ u' w' : Ug, Inv u' w' ∧ ((fC u).bind fun q => (fM w).bind fun q' => if q.1 = q'.1 then k q.2 q'.2 else some (0 : Int32)) = k u' w' := by
  obtain ⟨r, vC, vM, e1, e2, e3⟩ := a u w h
  refine ⟨vC, vM, e3, ?_⟩
  rw [e1, Option.bind_some, e2, Option.bind_some]
  exact if_pos rfl
theorem sL_end {L p : Nat} {xs : Nat → Int32} {k : Int32 → Ug → Ug → Option Int32} {u w : Ug} (hL : L ≤ 3584) (hp : p ≤ L) (h : L < p + 7) : sL L xs k (nI p) u w = some 1 := by
  unfold sL
  refine if_pos ?_
  show nI L - nI 7 < nI p
  rw [Int32.lt_iff_toInt_lt, pk_sub_toInt (by omega) (by decide), nI_toInt (by omega)]
  omega
theorem sL_go {L p : Nat} {xs : Nat → Int32} {k : Int32 → Ug → Ug → Option Int32} {u w : Ug} (hL : L ≤ 3584) (hp : p + 7 ≤ L) (h : Inv u w) : ∃ u' w' : Ug, Inv u' w' ∧ sL L xs k (nI p) u w = k (nI (p + 7)) u' w' := by
  have r0 : rdO xs L (nI p) = some (xs p) := pu_rd (by omega) (by omega)
  have r7 : nI p + (7 : Int32) = nI (p + 7) := nI_add p 7
  have r1 : rdO xs L (nI p + (1 : Int32)) = some (xs (p + 1)) := by rw [show nI p + (1 : Int32) = nI (p + 1) from nI_add p 1]; exact pu_rd (by omega) (by omega)
  have r2 : rdO xs L (nI p + (2 : Int32)) = some (xs (p + 2)) := by rw [show nI p + (2 : Int32) = nI (p + 2) from nI_add p 2]; exact pu_rd (by omega) (by omega)
  have r3 : rdO xs L (nI p + (3 : Int32)) = some (xs (p + 3)) := by rw [show nI p + (3 : Int32) = nI (p + 3) from nI_add p 3]; exact pu_rd (by omega) (by omega)
  have r4 : rdO xs L (nI p + (4 : Int32)) = some (xs (p + 4)) := by rw [show nI p + (4 : Int32) = nI (p + 4) from nI_add p 4]; exact pu_rd (by omega) (by omega)
  have r5 : rdO xs L (nI p + (5 : Int32)) = some (xs (p + 5)) := by rw [show nI p + (5 : Int32) = nI (p + 5) from nI_add p 5]; exact pu_rd (by omega) (by omega)
  have r6 : rdO xs L (nI p + (6 : Int32)) = some (xs (p + 6)) := by rw [show nI p + (6 : Int32) = nI (p + 6) from nI_add p 6]; exact pu_rd (by omega) (by omega)
  unfold sL
  rw [if_neg (show ¬ (Int32.ofNat L - (7 : Int32)) < nI p by
    show ¬ nI L - nI 7 < nI p
    rw [Int32.lt_iff_toInt_lt, pk_sub_toInt (by omega) (by decide), nI_toInt (by omega)]
    omega), r0, Option.bind_some, r7]
  generalize xs p &&& (31 : Int32) = y0
  by_cases c0 : y0 = (0 : Int32)
  · rw [if_pos c0]
    simp only [r1, r2, Option.bind_some]
    exact step_of (k := k (nI (p + 7))) (Alike_account _ _) h
  rw [if_neg c0]
  by_cases c1 : y0 = (1 : Int32)
  · rw [if_pos c1]
    exact step_of (k := k (nI (p + 7))) (Alike_contract) h
  rw [if_neg c1]
  by_cases c2 : y0 = (2 : Int32)
  · rw [if_pos c2]
    simp only [r1, r2, r3, r4, r5, Option.bind_some]
    exact step_of (k := k (nI (p + 7))) (Alike_step _ _ _ _ _) h
  rw [if_neg c2]
  by_cases c3 : y0 = (3 : Int32)
  · rw [if_pos c3]
    simp only [r1, r2, r3, Option.bind_some]
    exact step_of (k := k (nI (p + 7))) (Alike_bind _ _ _) h
  rw [if_neg c3]
  by_cases c4 : y0 = (4 : Int32)
  · rw [if_pos c4]
    simp only [r1, Option.bind_some]
    exact step_of (k := k (nI (p + 7))) (Alike_time _) h
  rw [if_neg c4]
  by_cases c5 : y0 = (5 : Int32)
  · rw [if_pos c5]
    simp only [r1, r2, r3, r4, r5, Option.bind_some]
    exact step_of (k := k (nI (p + 7))) (Alike_call _ _ _ _ _) h
  rw [if_neg c5]
  by_cases c6 : y0 = (6 : Int32)
  · rw [if_pos c6]
    simp only [r1, Option.bind_some]
    exact step_of (k := k (nI (p + 7))) (Alike_told _) h
  rw [if_neg c6]
  by_cases c7 : y0 = (7 : Int32)
  · rw [if_pos c7]
    simp only [r1, r2, r3, r4, r5, r6, Option.bind_some]
    exact step_of (k := k (nI (p + 7))) (Alike_line _ _ _ _ _) h
  rw [if_neg c7]
  by_cases c8 : y0 = (8 : Int32)
  · rw [if_pos c8]
    simp only [r1, Option.bind_some]
    exact step_of (k := k (nI (p + 7))) (Alike_clear _) h
  rw [if_neg c8]
  by_cases c9 : y0 = (9 : Int32)
  · rw [if_pos c9]
    simp only [r1, Option.bind_some]
    exact step_of (k := k (nI (p + 7))) (Alike_run _) h
  rw [if_neg c9]
  by_cases c10 : y0 = (10 : Int32)
  · rw [if_pos c10]
    simp only [r1, Option.bind_some]
    exact step_of (k := k (nI (p + 7))) (Alike_mutants _) h
  rw [if_neg c10]
  by_cases c11 : y0 = (11 : Int32)
  · rw [if_pos c11]
    simp only [r1, r2, r3, Option.bind_some]
    exact step_of (k := k (nI (p + 7))) (Alike_mutant _ _ _) h
  rw [if_neg c11]
  by_cases c12 : y0 = (12 : Int32)
  · rw [if_pos c12]
    simp only [r1, Option.bind_some]
    exact step_of (k := k (nI (p + 7))) (Alike_judge _) h
  rw [if_neg c12]
  by_cases c13 : y0 = (13 : Int32)
  · rw [if_pos c13]
    simp only [r1, r2, Option.bind_some]
    exact step_of (k := k (nI (p + 7))) (Alike_killer _ _) h
  rw [if_neg c13]
  by_cases c14 : y0 = (14 : Int32)
  · rw [if_pos c14]
    simp only [r1, Option.bind_some]
    exact step_of (k := k (nI (p + 7))) (Alike_shrink _) h
  rw [if_neg c14]
  by_cases c15 : y0 = (15 : Int32)
  · rw [if_pos c15]
    simp only [r1, r2, r3, Option.bind_some]
    exact step_of (k := k (nI (p + 7))) (Alike_lineOf _ _ _) h
  rw [if_neg c15]
  by_cases c16 : y0 = (16 : Int32)
  · rw [if_pos c16]
    simp only [r1, r2, Option.bind_some]
    exact step_of (k := k (nI (p + 7))) (Alike_covered _ _) h
  rw [if_neg c16]
  by_cases c17 : y0 = (17 : Int32)
  · rw [if_pos c17]
    simp only [r1, Option.bind_some]
    exact step_of (k := k (nI (p + 7))) (Alike_coins _) h
  rw [if_neg c17]
  by_cases c18 : y0 = (18 : Int32)
  · rw [if_pos c18]
    simp only [r1, r2, Option.bind_some]
    exact step_of (k := k (nI (p + 7))) (Alike_cell _ _) h
  rw [if_neg c18]
  by_cases c19 : y0 = (19 : Int32)
  · rw [if_pos c19]
    simp only [r1, Option.bind_some]
    exact step_of (k := k (nI (p + 7))) (Alike_event _) h
  rw [if_neg c19]
  by_cases c20 : y0 = (20 : Int32)
  · rw [if_pos c20]
    simp only [r1, Option.bind_some]
    exact step_of (k := k (nI (p + 7))) (Alike_count _) h
  rw [if_neg c20]
  exact ⟨u, w, h, rfl⟩
theorem kL_all {L : Nat} {xs : Nat → Int32} (hL : L ≤ 3584) : ∀ (n p : Nat) (u w : Ug), p ≤ L → L < p + 7 * n → Inv u w → kL L xs n (nI p) u w = some 1 := by
  intro n
  induction n with
  | zero => intro p u w h1 h2 _; omega
  | succ n ih =>
    intro p u w h1 h2 h
    show sL L xs (kL L xs n) (nI p) u w = some 1
    by_cases c : L < p + 7
    · exact sL_end hL h1 c
    · obtain ⟨u', w', hI, e⟩ := sL_go (k := kL L xs n) (xs := xs) hL (show p + 7 ≤ L by omega) h
      rw [e]
      exact ih (p + 7) u' w' (by omega) (by omega) hI
theorem u0C_z {r : Nat} (h1 : r ≠ 6) (h2 : r ≠ 29) : u0C r = fun _ => 0 := by
  unfold u0C; rw [if_neg h1, if_neg h2]
theorem u0M_z {r : Nat} (h1 : r ≠ 7) (h2 : r ≠ 40) : u0M r = fun _ => 0 := by
  unfold u0M; rw [if_neg h1, if_neg h2]
theorem u0_67 : u0C 6 = u0M 7 := rfl
theorem u0C_6 : ∀ f : Nat, f < 4 → u0C 6 f = -1 := by
  intro f hf
  rcases (show f = 0 ∨ f = 1 ∨ f = 2 ∨ f = 3 by omega) with rfl | rfl | rfl | rfl <;> decide
theorem u0M_40 : ∀ f : Nat, f < 4 → u0M 40 f = -1 := by
  intro f hf
  rcases (show f = 0 ∨ f = 1 ∨ f = 2 ∨ f = 3 by omega) with rfl | rfl | rfl | rfl <;> decide
theorem Inv0 : Inv u0C u0M := by
  have z0 : (0 : Int32) = nI 0 := rfl
  refine ⟨⟨?_, ?_⟩, ⟨⟨0, by decide, ?_, ?_⟩, ⟨?_, fun m hm => ⟨0, by decide, ?_⟩⟩, ⟨?_, ?_, ?_⟩, fun s hs => ⟨⟨0, by decide, ?_⟩, ?_, ?_⟩, u0_67, fun f hf => Or.inl (u0C_6 f hf)⟩, ⟨?_, ⟨0, by decide, ?_, ?_⟩, fun f hf => ⟨?_, ?_⟩, ?_⟩, ⟨?_, ?_, ?_, ?_, ?_⟩, fun t ht => ⟨0, by decide, ?_, ?_, fun i hi => absurd hi (Nat.not_lt_zero _)⟩, fun c hc => ⟨0, by decide, ?_, Or.inr ⟨rfl, u0M_40 c hc⟩, fun _ _ _ => rfl, fun i hi => absurd hi (Nat.not_lt_zero _)⟩⟩
  · rw [u0C_z (by decide) (by decide), u0M_z (by decide) (by decide)]
  · rw [u0C_z (by decide) (by decide)]
    exact ⟨fun i _ => ⟨0, Nat.zero_le _, z0⟩, ⟨0, Nat.zero_le _, z0⟩, fun j _ => rfl⟩
  · rw [u0C_z (by decide) (by decide)]; exact z0
  · rw [u0M_z (by decide) (by decide)]; exact z0
  · rw [u0C_z (by decide) (by decide), u0M_z (by decide) (by decide)]
  · rw [u0C_z (by decide) (by decide)]; exact z0
  · rw [u0C_z (by decide) (by decide), u0M_z (by decide) (by decide)]
  · rw [u0C_z (by decide) (by decide), u0M_z (by decide) (by decide)]
  · rw [u0C_z (by decide) (by decide), u0M_z (by decide) (by decide)]
  · rw [u0C_z (by decide) (by decide)]; exact z0
  · rw [u0C_z (show (3 : Nat) ≠ 6 by decide) (by decide), u0C_z (show (4 : Nat) ≠ 6 by decide) (by decide)]
    exact ⟨fun _ => ⟨0, by decide, z0⟩, fun _ => ⟨0, by decide, z0⟩, fun _ => ⟨0, by decide, z0⟩, fun _ => ⟨0, by decide, z0⟩⟩
  · intro _
    rw [u0C_z (show (4 : Nat) ≠ 6 by decide) (by decide)]
    exact ⟨0, by decide, z0⟩
  · rw [u0C_z (by decide) (by decide), u0M_z (by decide) (by decide)]
  · rw [u0C_z (by decide) (by decide)]; exact z0
  · rw [u0M_z (by decide) (by decide)]; exact z0
  · rw [u0C_z (by decide) (by decide)]
  · rw [u0M_z (by decide) (by decide)]
  · rw [u0M_z (by decide) (by decide)]
  · rw [u0C_z (by decide) (by decide), u0M_z (by decide) (by decide)]
  · rw [u0C_z (by decide) (by decide), u0M_z (by decide) (by decide)]
  · rw [u0C_z (by decide) (by decide), u0M_z (by decide) (by decide)]
  · rw [u0C_z (by decide) (by decide), u0M_z (by decide) (by decide)]
  · rw [u0C_z (by decide) (by decide)]; exact Or.inl rfl
  · rw [u0C_z (by decide) (by decide)]; exact z0
  · rw [u0M_z (by decide) (by decide)]; exact z0
  · rw [u0C_z (by decide) (by decide)]; exact z0
