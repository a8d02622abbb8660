/-! PURE: a plain STEP, in the reference, with a MUTANT or without. -/
/-- a STEP in whose place a MUTANT is (w: 0 none, 1 the first, 2 the second) -/
def mutS (w : Nat) (k a b : Int32) : Int32 × Int32 × Int32 :=
  if w = 0 then (k, a, b) else
  if k = 2 then (2, a, if w = 1 then b + 1 else -b) else
  if k = 4 then (if w = 1 then (4, a, b + 1) else (12, a, b)) else
  if k = 7 then (if w = 1 then (7, a + 1, b) else (13, a, b)) else
  if k = 5 then (5, (a + 1) - (a + 1) / 12 * 12, b) else
  (12, a, b)
theorem wr16_id {u : Ug} {f : Nat} {v : Int32} (h : u 16 f = v) : wr u 16 f v = u := by
  funext q
  by_cases hq : q = 16
  · subst hq
    rw [wr_s]
    funext j
    by_cases hj : j = f
    · subst hj; rw [upd_s, h]
    · rw [upd_n hj]
  · rw [wr_n hq]
theorem wrA_wr16 {u : Ug} {f : Nat} {v : Int32} : wrA (wr u 16 f v) 0 (u 0) = wr u 16 f v := by
  have e : u 0 = (wr u 16 f v) 0 := by rw [wr_n (by decide)]
  rw [e]; exact wrA_id
/-- what a plain STEP leaves in the reference -/
def aDone (tr : Nat → Nat) (f : Nat) (u : Ug) (q : Int32 × (Nat → Int32) × Int32) : Ug := if q.2.2 = 0 then wrA (wr u 16 f q.1) 0 q.2.1 else aRaise tr (f + 1) q.2.2 q.2.2 (wrA u 0 q.2.1)
theorem M_plain {u : Ug} {f s pl w k : Nat} {v : Int32} {tr : Nat → Nat} (hf : f < 4) (hs : s < 96) (hw : w ≤ 2) (hv : u 16 f = v) (hp : u 15 f = nI pl) (hp2 : pl < 12) (hk : u 3 s = nI k) (hk2 : k ≤ 11) (wf : WfS (mutS w (u 3 s) (u 4 s) (u 5 s)).1 (mutS w (u 3 s) (u 4 s) (u 5 s)).2.1) (hS : SgOk (u 0)) (htr : ∀ g, g < 4 → tr g ≤ 8) (h14 : u 14 0 = nI (f + 1)) (h18 : ∀ g, g ≤ f → u 18 g = nI (tr g)) (n7 : k ≠ 7) (n8 : k ≠ 8 ∨ 0 < w) (n9 : k ≠ 9 ∨ 0 < w) : fM_work (nI f) (nI s) (nI w) u = some (0, aDone tr f u (aPlain (mutS w (u 3 s) (u 4 s) (u 5 s)).1 (mutS w (u 3 s) (u 4 s) (u 5 s)).2.1 (mutS w (u 3 s) (u 4 s) (u 5 s)).2.2 pl v (u 0))) := by
  unfold fM_work
  rw [pu_rd hs (by omega)]
  simp only [Option.bind_some]
  rw [pu_rd hs (by omega)]
  simp only [Option.bind_some]
  rw [pu_rd hs (by omega)]
  simp only [Option.bind_some]
  rw [pu_rd hf (by omega)]
  simp only [Option.bind_some]
  rw [pu_rd hf (by omega)]
  simp only [Option.bind_some]
  rw [hp, hv]
  generalize u 4 s = a at wf ⊢
  generalize u 5 s = b at wf ⊢
  rw [hk] at wf ⊢
  have ec : ∀ j : Nat, ((12 : Int32) + (4 : Int32) * (nI pl / (3 : Int32))) + nI j = nI (12 + (4 * (pl / 3) + j)) := fun j => by
    rw [lit_12, lit_4, lit_3, pu_div (by omega) (by omega) (by omega), pk_mul, nI_add, nI_add, Nat.add_assoc]
  have cl : ∀ j : Nat, j < 4 → aCell pl (nI j) = 12 + (4 * (pl / 3) + j) := fun j hj => by unfold aCell; rw [nI_clamp (by omega)]
  have same : ∀ q0 : Int32, (if (0 : Int32) = 0 then wrA (wr u 16 f q0) 0 (u 0) else aRaise tr (f + 1) 0 0 (wrA u 0 (u 0))) = wr u 16 f q0 := fun q0 => by rw [if_pos rfl, wrA_wr16]
  by_cases w0 : w = 0
  · subst w0
    rw [if_pos (by decide)]
    have em : ∀ x y z : Int32, mutS 0 x y z = (x, y, z) := fun _ _ _ => rfl
    rw [em] at wf ⊢
    dsimp only at wf ⊢
    have n8 : k ≠ 8 := n8.resolve_right (by decide)
    have n9 : k ≠ 9 := n9.resolve_right (by decide)
    rcases (show k = 0 ∨ k = 1 ∨ k = 2 ∨ k = 3 ∨ k = 4 ∨ k = 5 ∨ k = 6 ∨ k = 10 ∨ k = 11 by omega) with rfl | rfl | rfl | rfl | rfl | rfl | rfl | rfl | rfl
    · obtain ⟨j, hj, rfl⟩ := wf.1 (Or.inl rfl)
      rw [ec, jM_0 hf (by omega)]
      show _ = some (0, if (0 : Int32) = 0 then wrA (wr u 16 f v) 0 (upd (u 0) (aCell pl (nI j)) v) else _)
      rw [if_pos rfl, wr16_id hv, cl j hj]
      rfl
    · obtain ⟨j, hj, rfl⟩ := wf.1 (Or.inr (Or.inl rfl))
      rw [ec, jM_1 hf (by omega)]
      show _ = some (0, if (0 : Int32) = 0 then wrA (wr u 16 f (u 0 (aCell pl (nI j)))) 0 (u 0) else _)
      rw [if_pos rfl, wrA_wr16, cl j hj]
    · rw [jM_2 hf 0 (by decide)]
      show _ = some (0, if (0 : Int32) = 0 then wrA (wr u 16 f (v + b)) 0 (u 0) else _)
      rw [if_pos rfl, wrA_wr16, if_pos rfl]
    · obtain ⟨j, hj, rfl⟩ := wf.1 (Or.inr (Or.inr (Or.inl rfl)))
      rw [ec, jM_3 hf (by omega)]
      show _ = some (0, if (0 : Int32) = 0 then wrA (wr u 16 f (v - u 0 (aCell pl (nI j)))) 0 (u 0) else _)
      rw [if_pos rfl, wrA_wr16, cl j hj]
    · obtain ⟨j, hj, rfl⟩ := wf.2.2.2 rfl
      rw [jM_4 hf htr h14 h18 0 (by decide), if_neg (show ¬ ((0 : Nat) = 1) by decide)]
      show _ = some (0, if (if b ≤ v then (0 : Int32) else 10 + nI j) = 0 then wrA (wr u 16 f v) 0 (u 0) else aRaise tr (f + 1) (if b ≤ v then (0 : Int32) else 10 + nI j) (if b ≤ v then (0 : Int32) else 10 + nI j) (wrA u 0 (u 0)))
      by_cases q : b ≤ v
      · rw [if_pos q, if_pos q, if_pos rfl, wr16_id hv, wrA_id]
      · rw [if_neg q, if_neg q, if_neg (by rw [lit_10, nI_add, lit_0]; exact fun z => by have := (nI_eq (by omega) (by omega)).mp z; omega), wrA_id]
    · obtain ⟨j, hj, rfl⟩ := wf.2.1 rfl
      rw [jM_5 hf htr h14 h18 hp hp2 hS 0 (by decide) (j := j) (by rw [if_pos rfl]) hj]
      show _ = some (0, if (aPay (u 0) (8 + pl / 3) (nI j).toNatClampNeg v).1 = 0 then wrA (wr u 16 f v) 0 (aPay (u 0) (8 + pl / 3) (nI j).toNatClampNeg v).2 else aRaise tr (f + 1) (aPay (u 0) (8 + pl / 3) (nI j).toNatClampNeg v).1 (aPay (u 0) (8 + pl / 3) (nI j).toNatClampNeg v).1 (wrA u 0 (aPay (u 0) (8 + pl / 3) (nI j).toNatClampNeg v).2))
      rw [nI_clamp (by omega), wr16_id hv]
    · rw [jM_6 hS]
      show _ = some (0, if (0 : Int32) = 0 then wrA (wr u 16 f v) 0 (aEv (u 0) v) else _)
      rw [if_pos rfl, wr16_id hv]
    · rw [jM_10 hf]
      show _ = some (0, if (0 : Int32) = 0 then wrA (wr u 16 f (u 0 28)) 0 (u 0) else _)
      rw [if_pos rfl, wrA_wr16]
    · obtain ⟨j, hj, rfl⟩ := wf.1 (Or.inr (Or.inr (Or.inr (Or.inl rfl))))
      rw [ec, jM_11 hf htr h14 h18 (by omega)]
      show _ = some (0, aDone tr f u (if u 0 (aCell pl (nI j)) = 0 then (v, u 0, 6) else (v / u 0 (aCell pl (nI j)), u 0, 0)))
      rw [cl j hj]
      by_cases z : u 0 (12 + (4 * (pl / 3) + j)) = 0
      · rw [if_pos z, if_pos z]
        show _ = some (0, if (6 : Int32) = 0 then _ else aRaise tr (f + 1) 6 6 (wrA u 0 (u 0)))
        rw [if_neg (by decide), wrA_id]
      · rw [if_neg z, if_neg z]
        show _ = some (0, if (0 : Int32) = 0 then wrA (wr u 16 f _) 0 (u 0) else _)
        rw [if_pos rfl, wrA_wr16]
  · rw [if_neg (by rw [lit_0]; exact nI_ge (by omega) (by omega))]
    have nothing : ∀ (a b : Int32), some ((0 : Int32), u) = some (0, aDone tr f u (aPlain 12 a b pl v (u 0))) := by
      intro a b
      show _ = some (0, if (0 : Int32) = 0 then wrA (wr u 16 f v) 0 (u 0) else _)
      rw [if_pos rfl, wr16_id hv, wrA_id]
    have e2 : ∀ q : Nat, q < 100 → ((nI k = nI q) ↔ k = q) := fun q hq => nI_eq (by omega) (by omega)
    rcases (show w = 1 ∨ w = 2 by omega) with rfl | rfl
    all_goals
      rcases (show k = 2 ∨ k = 4 ∨ k = 5 ∨ (k ≠ 2 ∧ k ≠ 4 ∧ k ≠ 5) by omega) with rfl | rfl | rfl | ⟨x2, x4, x5⟩
    · rw [if_pos (by decide), jM_2 hf 1 (by decide)]
      show _ = some (0, if (0 : Int32) = 0 then wrA (wr u 16 f (v + (b + 1))) 0 (u 0) else _)
      rw [if_pos rfl, wrA_wr16, if_neg (by decide), if_pos rfl]
    · rw [if_neg (by decide), if_pos (by decide), jM_4 hf htr h14 h18 1 (by decide), if_pos rfl]
      obtain ⟨j, hj, rfl⟩ := wf.2.2.2 rfl
      show _ = some (0, if (if b + 1 ≤ v then (0 : Int32) else 10 + nI j) = 0 then wrA (wr u 16 f v) 0 (u 0) else aRaise tr (f + 1) (if b + 1 ≤ v then (0 : Int32) else 10 + nI j) (if b + 1 ≤ v then (0 : Int32) else 10 + nI j) (wrA u 0 (u 0)))
      by_cases q : b + 1 ≤ v
      · rw [if_pos q, if_pos q, if_pos rfl, wr16_id hv, wrA_id]
      · rw [if_neg q, if_neg q, if_neg (by rw [lit_10, nI_add, lit_0]; exact fun z => by have := (nI_eq (by omega) (by omega)).mp z; omega), wrA_id]
    · rw [if_neg (by decide), if_neg (by decide), if_neg (by decide), if_pos (by decide)]
      obtain ⟨j, hj, ej⟩ := wf.2.1 rfl
      have ej2 : (a + 1) - (a + 1) / 12 * 12 = nI j := ej
      rw [jM_5 hf htr h14 h18 hp hp2 hS 1 (by decide) (j := j) (by rw [if_neg (by decide)]; exact ej2) hj]
      show _ = some (0, if (aPay (u 0) (8 + pl / 3) ((a + 1) - (a + 1) / 12 * 12).toNatClampNeg v).1 = 0 then wrA (wr u 16 f v) 0 (aPay (u 0) (8 + pl / 3) ((a + 1) - (a + 1) / 12 * 12).toNatClampNeg v).2 else aRaise tr (f + 1) (aPay (u 0) (8 + pl / 3) ((a + 1) - (a + 1) / 12 * 12).toNatClampNeg v).1 (aPay (u 0) (8 + pl / 3) ((a + 1) - (a + 1) / 12 * 12).toNatClampNeg v).1 (wrA u 0 (aPay (u 0) (8 + pl / 3) ((a + 1) - (a + 1) / 12 * 12).toNatClampNeg v).2))
      rw [ej2, nI_clamp (by omega), wr16_id hv]
    · have y2 : ¬ nI k = 2 := fun z => x2 ((e2 2 (by decide)).mp z)
      have y4 : ¬ nI k = 4 := fun z => x4 ((e2 4 (by decide)).mp z)
      have y7 : ¬ nI k = 7 := fun z => n7 ((e2 7 (by decide)).mp z)
      have y5 : ¬ nI k = 5 := fun z => x5 ((e2 5 (by decide)).mp z)
      rw [if_neg y2, if_neg y4, if_neg y7, if_neg y5]
      unfold mutS
      rw [if_neg (by decide), if_neg y2, if_neg y4, if_neg y7, if_neg y5]
      exact nothing a b
    · rw [if_pos (by decide), jM_2 hf 2 (by decide)]
      show _ = some (0, if (0 : Int32) = 0 then wrA (wr u 16 f (v + -b)) 0 (u 0) else _)
      rw [if_pos rfl, wrA_wr16, if_neg (by decide), if_neg (by decide)]
    · rw [if_neg (by decide), if_pos (by decide), jM_4n]
      exact nothing a b
    · rw [if_neg (by decide), if_neg (by decide), if_neg (by decide), if_pos (by decide)]
      obtain ⟨j, hj, ej⟩ := wf.2.1 rfl
      have ej2 : (a + 1) - (a + 1) / 12 * 12 = nI j := ej
      rw [jM_5 hf htr h14 h18 hp hp2 hS 2 (by decide) (j := j) (by rw [if_neg (by decide)]; exact ej2) hj]
      show _ = some (0, if (aPay (u 0) (8 + pl / 3) ((a + 1) - (a + 1) / 12 * 12).toNatClampNeg v).1 = 0 then wrA (wr u 16 f v) 0 (aPay (u 0) (8 + pl / 3) ((a + 1) - (a + 1) / 12 * 12).toNatClampNeg v).2 else aRaise tr (f + 1) (aPay (u 0) (8 + pl / 3) ((a + 1) - (a + 1) / 12 * 12).toNatClampNeg v).1 (aPay (u 0) (8 + pl / 3) ((a + 1) - (a + 1) / 12 * 12).toNatClampNeg v).1 (wrA u 0 (aPay (u 0) (8 + pl / 3) ((a + 1) - (a + 1) / 12 * 12).toNatClampNeg v).2))
      rw [ej2, nI_clamp (by omega), wr16_id hv]
    · have y2 : ¬ nI k = 2 := fun z => x2 ((e2 2 (by decide)).mp z)
      have y4 : ¬ nI k = 4 := fun z => x4 ((e2 4 (by decide)).mp z)
      have y7 : ¬ nI k = 7 := fun z => n7 ((e2 7 (by decide)).mp z)
      have y5 : ¬ nI k = 5 := fun z => x5 ((e2 5 (by decide)).mp z)
      rw [if_neg y2, if_neg y4, if_neg y7, if_neg y5]
      unfold mutS
      rw [if_neg (by decide), if_neg y2, if_neg y4, if_neg y7, if_neg y5]
      exact nothing a b
