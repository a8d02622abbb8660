/-! PURE: a CALL from outside, in the reference. -/
def ThOk (x : Int32) : Prop := x = 0 ∨ ∃ k : Nat, 0 < k ∧ k < 100 ∧ x = nI k
theorem ThOk.of {k : Nat} (h0 : 0 < k) (h : k < 100) : ThOk (nI k) := Or.inr ⟨k, h0, h, rfl⟩
theorem aPlain_th {k a b v : Int32} {pl : Nat} {σ : Nat → Int32} (wf : WfS k a) : ThOk (aPlain k a b pl v σ).2.2 := by
  unfold aPlain
  by_cases k0 : k = 0
  · rw [if_pos k0]; exact Or.inl rfl
  rw [if_neg k0]
  by_cases k1 : k = 1
  · rw [if_pos k1]; exact Or.inl rfl
  rw [if_neg k1]
  by_cases k2 : k = 2
  · rw [if_pos k2]; exact Or.inl rfl
  rw [if_neg k2]
  by_cases k3 : k = 3
  · rw [if_pos k3]; exact Or.inl rfl
  rw [if_neg k3]
  by_cases k4 : k = 4
  · rw [if_pos k4]
    obtain ⟨j, hj, rfl⟩ := wf.2.2.2 k4
    show ThOk (if b ≤ v then 0 else 10 + nI j)
    by_cases q : b ≤ v
    · rw [if_pos q]; exact Or.inl rfl
    · rw [if_neg q, lit_10, nI_add]; exact ThOk.of (by omega) (by omega)
  rw [if_neg k4]
  by_cases k5 : k = 5
  · rw [if_pos k5]
    show ThOk (aPay σ (8 + pl / 3) a.toNatClampNeg v).1
    rcases aPay_th (σ := σ) (fr := 8 + pl / 3) (to := a.toNatClampNeg) (n := v) with h | h | h
    · rw [h]; exact Or.inl rfl
    · rw [h]; exact ThOk.of (k := 1) (by decide) (by decide)
    · rw [h]; exact ThOk.of (k := 2) (by decide) (by decide)
  rw [if_neg k5]
  by_cases k6 : k = 6
  · rw [if_pos k6]; exact Or.inl rfl
  rw [if_neg k6]
  by_cases k10 : k = 10
  · rw [if_pos k10]; exact Or.inl rfl
  rw [if_neg k10]
  by_cases k11 : k = 11
  · rw [if_pos k11]
    split
    · exact ThOk.of (k := 6) (by decide) (by decide)
    · exact Or.inl rfl
  rw [if_neg k11]; exact Or.inl rfl
theorem aBlock_th {kd av bv : Nat → Int32} {sz : Nat → Nat} {bd db nb : Nat → Int32} (hE : EnOk kd av sz bd db nb) : ∀ (n pl i en : Nat) (v : Int32) (op : Nat) (S : AS), pl < 12 → en ≤ 8 → ThOk (aBlock kd av bv sz bd db nb n pl i en v op S).2.2.1 := by
  intro n
  induction n with
  | zero => intro pl i en v op S _ _; exact ThOk.of (k := 7) (by decide) (by decide)
  | succ n ih =>
    intro pl i en v op S hp he
    unfold aBlock
    by_cases c1 : en ≤ i
    · rw [if_pos c1]; exact Or.inl rfl
    rw [if_neg c1]
    by_cases c2 : 100 ≤ S.2.2.2 ∨ 20000 ≤ S.2.2.1
    · rw [if_pos c2]; exact ThOk.of (k := 7) (by decide) (by decide)
    rw [if_neg c2]
    have wf := hE.1 (8 * pl + i) (by omega)
    by_cases k9 : kd (8 * pl + i) = 9
    · rw [if_pos k9]
      have hr := ih pl (i + 1) (min (i + 1 + (av (8 * pl + i)).toNatClampNeg) en) v op (S.1, aCov S.2.1 pl i, S.2.2.1 + 1, S.2.2.2 + 1) hp (by omega)
      generalize aBlock kd av bv sz bd db nb n pl (i + 1) (min (i + 1 + (av (8 * pl + i)).toNatClampNeg) en) v op (S.1, aCov S.2.1 pl i, S.2.2.1 + 1, S.2.2.2 + 1) = r at hr ⊢
      show ThOk (if r.2.2.1 = 0 then _ else _ : AO).2.2.1
      by_cases r0 : r.2.2.1 = 0
      · rw [if_pos r0]; exact ih _ _ _ _ _ _ hp he
      rw [if_neg r0]
      by_cases r7 : r.2.2.1 = 7
      · rw [if_pos r7]; exact hr
      · rw [if_neg r7]; exact ih _ _ _ _ _ _ hp he
    rw [if_neg k9]
    by_cases k7 : kd (8 * pl + i) = 7 ∨ kd (8 * pl + i) = 13
    · rw [if_pos k7]; exact ih _ _ _ _ _ _ hp he
    rw [if_neg k7]
    by_cases k8 : kd (8 * pl + i) = 8
    · rw [if_pos k8]
      generalize (av (8 * pl + i)).toNatClampNeg = f
      show ThOk (if db f = 1 then _ else _ : AO).2.2.1
      by_cases d1 : db f = 1
      · rw [if_pos d1]; exact ih _ _ _ _ _ _ hp he
      rw [if_neg d1]
      by_cases d2 : db f = 2
      · rw [if_pos d2]; exact ThOk.of (k := 5) (by decide) (by decide)
      rw [if_neg d2]
      by_cases d3 : bd f = -1
      · rw [if_pos d3]; exact ThOk.of (k := 5) (by decide) (by decide)
      rw [if_neg d3]
      by_cases d4 : 4 ≤ op
      · rw [if_pos d4]; exact ThOk.of (k := 5) (by decide) (by decide)
      rw [if_neg d4]
      by_cases d5 : 20000 ≤ S.2.2.1 + 1
      · rw [if_pos d5]; exact ThOk.of (k := 7) (by decide) (by decide)
      rw [if_neg d5]
      generalize aBlock kd av bv sz bd db nb n (bd f).toNatClampNeg 0 (sz (bd f).toNatClampNeg) v (op + 1) (S.1, aCov S.2.1 pl i, S.2.2.1 + 2, S.2.2.2 + 1) = r
      show ThOk (if (aBack S.1 r).2.2.1 = 0 then _ else _ : AO).2.2.1
      by_cases r0 : (aBack S.1 r).2.2.1 = 0
      · rw [if_pos r0]; exact ih _ _ _ _ _ _ hp he
      · rw [if_neg r0]
        unfold aBack at r0 ⊢
        by_cases z : r.2.2.1 = 0
        · rw [if_pos z] at r0; exact absurd z r0
        · rw [if_neg z]
          show ThOk (if r.2.2.1 = 7 then 7 else 5)
          split
          · exact ThOk.of (k := 7) (by decide) (by decide)
          · exact ThOk.of (k := 5) (by decide) (by decide)
    rw [if_neg k8]
    have hq := aPlain_th (b := bv (8 * pl + i)) (v := v) (pl := pl) (σ := S.1) wf
    generalize aPlain (kd (8 * pl + i)) (av (8 * pl + i)) (bv (8 * pl + i)) pl v S.1 = q at hq ⊢
    show ThOk (if q.2.2 = 0 then _ else _ : AO).2.2.1
    by_cases q0 : q.2.2 = 0
    · rw [if_pos q0]; exact ih _ _ _ _ _ _ hp he
    · rw [if_neg q0]; exact hq
theorem ThOk.pos {x : Int32} (h : ThOk x) : (x ≤ 0) ↔ x = 0 := by
  rcases h with rfl | ⟨k, h0, h1, rfl⟩
  · exact ⟨fun _ => rfl, fun _ => by decide⟩
  · refine ⟨fun q => absurd q (by rw [lit_0]; exact nI_ge (by omega) (by omega)), fun q => ?_⟩
    rw [lit_0] at q
    have := (nI_eq (by omega) (by omega)).mp q
    omega
/-- the loop's end -/
theorem M_over {u : Ug} {n : Nat} {v1 v2 v3 v4 v5 : Int32} (h25 : u 25 0 = 1) (hth : ThOk (u 22 0)) : kM_outside (n + 1) v1 v2 v3 v4 v5 u = some (0, wr (wr (wr (wr u 26 0 (if u 22 0 = 0 then u 24 0 else 0)) 27 0 (u 22 0)) 28 0 (u 23 0)) 29 0 (u 21 0)) := by
  show sM_outside_106 _ _ _ _ _ _ _ = _
  unfold sM_outside_106
  rw [h25, if_neg (by decide)]
  by_cases q : u 22 0 = 0
  · rw [if_pos (hth.pos.mpr q), if_pos q]
    simp only [pu_sc, Option.bind_some]
    rw [wr_n (show (22 : Nat) ≠ 26 by decide), wr_n (show (23 : Nat) ≠ 27 by decide), wr_n (show (23 : Nat) ≠ 26 by decide), wr_n (show (21 : Nat) ≠ 28 by decide), wr_n (show (21 : Nat) ≠ 27 by decide), wr_n (show (21 : Nat) ≠ 26 by decide)]
  · rw [if_neg (fun z => q (hth.pos.mp z)), if_neg q]
    simp only [pu_sc, Option.bind_some]
    rw [wr_n (show (22 : Nat) ≠ 26 by decide), wr_n (show (23 : Nat) ≠ 27 by decide), wr_n (show (23 : Nat) ≠ 26 by decide), wr_n (show (21 : Nat) ≠ 28 by decide), wr_n (show (21 : Nat) ≠ 27 by decide), wr_n (show (21 : Nat) ≠ 26 by decide)]
/-- how the evaluator's outcome of a CALL from outside shows in the reference -/
def MO (u u1 : Ug) (A : AO) : Prop := u1 0 = A.2.1.1 ∧ u1 6 = A.2.1.2.1 ∧ u1 8 0 = nI A.2.1.2.2.1 ∧ u1 26 0 = (if A.2.2.1 = 0 then A.1 else 0) ∧ u1 27 0 = A.2.2.1 ∧ u1 28 0 = A.2.2.2 ∧ u1 29 0 = nI A.2.1.2.2.2 ∧ ∀ r, r ≠ 0 → r ≠ 6 → r ≠ 8 → ¬ (14 ≤ r ∧ r ≤ 29) → u1 r = u r
theorem M_fin {u w : Ug} {A : AO} {n : Nat} {v1 v2 v3 v4 v5 : Int32} (h0 : w 0 = A.2.1.1) (h6 : w 6 = A.2.1.2.1) (h8 : w 8 0 = nI A.2.1.2.2.1) (h21 : w 21 0 = nI A.2.1.2.2.2) (h22 : w 22 0 = A.2.2.1) (h23 : w 23 0 = A.2.2.2) (h24 : A.2.2.1 = 0 → w 24 0 = A.1) (h25 : w 25 0 = 1) (hr : ∀ r, r ≠ 0 → r ≠ 6 → r ≠ 8 → ¬ (14 ≤ r ∧ r ≤ 29) → w r = u r) (hth : ThOk A.2.2.1) : ∃ u1 : Ug, kM_outside (n + 1) v1 v2 v3 v4 v5 w = some (0, u1) ∧ MO u u1 A := by
  refine ⟨_, M_over h25 (by rw [h22]; exact hth), ?_, ?_, ?_, ?_, ?_, ?_, ?_, fun r a b c d => ?_⟩
  · rw [wr_n (by decide), wr_n (by decide), wr_n (by decide), wr_n (by decide)]; exact h0
  · rw [wr_n (by decide), wr_n (by decide), wr_n (by decide), wr_n (by decide)]; exact h6
  · rw [wr_n (by decide), wr_n (by decide), wr_n (by decide), wr_n (by decide)]; exact h8
  · rw [wr_n (by decide), wr_n (by decide), wr_n (by decide), wr_s, upd_s, h22]
    by_cases q : A.2.2.1 = 0
    · rw [if_pos q, if_pos q]; exact h24 q
    · rw [if_neg q, if_neg q]
  · rw [wr_n (by decide), wr_n (by decide), wr_s, upd_s]; exact h22
  · rw [wr_n (by decide), wr_s, upd_s]; exact h23
  · rw [wr_s, upd_s]; exact h21
  · rw [wr_n (by omega), wr_n (by omega), wr_n (by omega), wr_n (by omega)]; exact hr r a b c d
theorem aPay_same {σ : Nat → Int32} {fr to : Nat} {n : Int32} : (aPay σ fr to n).1 ≠ 0 → (aPay σ fr to n).2 = σ := by
  unfold aPay
  generalize (1000000000 : Int32) = M
  unfold aPayG
  split
  · exact fun _ => rfl
  · split
    · split
      · exact fun _ => rfl
      · split
        · exact fun h => absurd rfl h
        · exact fun _ => rfl
    · exact fun _ => rfl
