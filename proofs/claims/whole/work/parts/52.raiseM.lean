/-! PURE: TO PAY and to THROW, in the reference. -/
def payMG (M : Int64) (x1 : Int32) (x2 : Int32) (x3 : Int32) (u : Ug) : Option (Int32 × Ug) :=
  if x3 < (0 : Int32) then
    some ((1 : Int32), u)
  else
    (rdO (u 0) 70 x1).bind fun y2 =>
    if x3 ≤ y2 then
      if x1 = x2 then
        some ((0 : Int32), u)
      else
        (rdO (u 0) 70 x2).bind fun y5 =>
        if (lg_cmp (y5.toInt64 + x3.toInt64) M) ≤ (0 : Int32) then
          (rdO (u 0) 70 x1).bind fun y7 =>
          (wrO u 0 70 x1 (y7 - x3)).bind fun u8 =>
          (rdO (u8 0) 70 x2).bind fun y9 =>
          (wrO u8 0 70 x2 (y9 + x3)).bind fun u10 =>
          some ((0 : Int32), u10)
        else
          some ((2 : Int32), u)
    else
      some ((1 : Int32), u)
theorem pu_cmple {a b : Nat} (ha : a < 2 ^ 31) (hb : b < 2 ^ 31) : lg_cmp (lN a) (lN b) ≤ 0 ↔ a ≤ b := by
  unfold lg_cmp
  have h1 := lN_lt hb ha
  have h2 := lN_eq ha hb
  by_cases e : b < a
  · rw [if_pos (h1.mpr e)]
    exact ⟨fun q => absurd q (by decide), fun q => by omega⟩
  · have e1 : ¬ lN a > lN b := fun q => e (h1.mp q)
    rw [if_neg e1]
    refine ⟨fun _ => by omega, fun _ => ?_⟩
    by_cases e2 : lN a = lN b
    · rw [if_pos e2]; decide
    · rw [if_neg e2]; decide
theorem payMG_eq {M : Nat} (hM : M < 2 ^ 30) {u : Ug} {fr to : Nat} {n : Int32} (h1 : fr < 12) (h2 : to < 12) (hc : CoOk M (u 0)) : payMG (lN M) (nI fr) (nI to) n u = some ((aPayG (nI M) (u 0) fr to n).1, wrA u 0 (aPayG (nI M) (u 0) fr to n).2) := by
  obtain ⟨cf, hf1, hf2⟩ := hc fr h1
  obtain ⟨ct, ht1, ht2⟩ := hc to h2
  unfold payMG aPayG
  rw [pu_rd (Nat.lt_trans h1 (by decide)) (by decide), pu_rd (Nat.lt_trans h2 (by decide)) (by decide)]
  by_cases a : n < 0
  · rw [if_pos a, if_pos a, wrA_id]
  · rw [if_neg a, if_neg a]
    show (if n ≤ u 0 fr then _ else _) = _
    by_cases b : n ≤ u 0 fr
    · rw [if_pos b, if_pos b]
      by_cases c : fr = to
      · rw [if_pos (by rw [c]), if_pos c, wrA_id]
      · rw [if_neg (fun q => c ((nI_eq (by omega) (by omega)).mp q)), if_neg c]
        show (if lg_cmp ((u 0 to).toInt64 + n.toInt64) (lN M) ≤ (0 : Int32) then _ else _) = _
        obtain ⟨k, hk, rfl⟩ := nI_of a
        have b' : k ≤ cf := by rw [hf2] at b; exact (nI_leI hk (by omega)).mp b
        have ed : (lg_cmp ((u 0 to).toInt64 + (nI k).toInt64) (lN M) ≤ (0 : Int32)) ↔ (nI k ≤ nI M - u 0 to) := by
          rw [ht2, nI_l (by omega), nI_l hk, lN_add, pu_cmple (by omega) (by omega), pk_sub ht1, nI_leI hk (by omega)]
          omega
        by_cases d : nI k ≤ nI M - u 0 to
        · rw [if_pos (ed.mpr d), if_pos d]
          show (wrO u 0 70 (nI fr) (u 0 fr - nI k)).bind _ = _
          rw [pu_wr (Nat.lt_trans h1 (by decide)) (by decide)]
          show (rdO (wr u 0 fr (u 0 fr - nI k) 0) 70 (nI to)).bind _ = _
          rw [pu_rd (Nat.lt_trans h2 (by decide)) (by decide), wr_s]
          show (wrO (wr u 0 fr (u 0 fr - nI k)) 0 70 (nI to) (upd (u 0) fr (u 0 fr - nI k) to + nI k)).bind _ = _
          rw [pu_wr (Nat.lt_trans h2 (by decide)) (by decide), wr_wr_A]
          rfl
        · rw [if_neg (fun q => d (ed.mp q)), if_neg d, wrA_id]
    · rw [if_neg b, if_neg b, wrA_id]
theorem payMG_M {x1 x2 x3 : Int32} {u : Ug} : fM_pay x1 x2 x3 u = payMG 1000000000 x1 x2 x3 u := rfl
theorem litL_big : (1000000000 : Int64) = lN 1000000000 := rfl
theorem M_pay {u : Ug} {fr to : Nat} {n : Int32} (h1 : fr < 12) (h2 : to < 12) (hc : SgOk (u 0)) : fM_pay (nI fr) (nI to) n u = some ((aPay (u 0) fr to n).1, wrA u 0 (aPay (u 0) fr to n).2) := by
  have e : aPay (u 0) fr to n = aPayG (nI 1000000000) (u 0) fr to n := by unfold aPay; rw [lit_big]
  rw [payMG_M, litL_big, e]
  exact payMG_eq (by decide) h1 h2 hc.1
/-- THE STATE as it was kept in a row -/
def aRest (r : Nat) (w : Ug) : Ug := wrA w 0 (va_cpy (w 20) (w 0) (70 * r) 0 70)
/-- a THROW in the reference: t: how many TRIES each CALL at work is in -/
def aRaise (tr : Nat → Nat) : Nat → Int32 → Int32 → Ug → Ug
  | 0, th, ca, w => wr (wr (wr w 22 0 th) 23 0 ca) 25 0 1
  | f + 1, th, ca, w =>
    if th ≠ 7 ∧ 0 < tr f then
      (let w1 := aRest (10 * f + tr f) (wr w 18 f (nI (tr f - 1)))
       wr (wr w1 16 f th) 17 f (w1 19 (10 * f + (tr f - 1))))
    else aRaise tr f (if th = 7 ∨ f = 0 then th else 5) ca (wr (aRest (10 * f) w) 14 0 (nI f))
theorem M_raise_loop {tr : Nat → Nat} (htr : ∀ g, g < 4 → tr g ≤ 8) : ∀ (d n : Nat) (a b th ca : Int32) (w : Ug), d ≤ 4 → d < n → w 14 0 = nI d → (∀ g, g < d → w 18 g = nI (tr g)) → kM_raise n a b th ca w = some (0, aRaise tr d th ca w) := by
  intro d
  induction d with
  | zero =>
    intro n a b th ca w _ hn h14 _
    obtain ⟨n, rfl⟩ : ∃ n', n = n' + 1 := ⟨n - 1, by omega⟩
    show sM_raise_5 _ _ _ _ _ _ = _
    unfold sM_raise_5
    rw [h14, if_pos (by decide)]
    rfl
  | succ f ih =>
    intro n a b th ca w hd hn h14 h18
    obtain ⟨n, rfl⟩ : ∃ n', n = n' + 1 := ⟨n - 1, by omega⟩
    show sM_raise_5 (kM_raise n) _ _ _ _ _ = _
    unfold sM_raise_5
    have e1 : nI (f + 1) - (1 : Int32) = nI f := nI_pred f
    have e10 : (10 : Int32) * nI f = nI (10 * f) := by rw [lit_10, pk_mul]
    rw [h14, if_neg (by rw [lit_0]; exact nI_ge (by omega) (by omega)), e1, e10]
    have r14 : ∀ q : Nat, (aRest q w) 14 0 = nI (f + 1) := fun q => by unfold aRest; rw [wrA_n (by decide)]; exact h14
    have pop : ∀ th' : Int32, kM_raise n a b th' ca (wr (aRest (10 * f) w) 14 0 (nI f)) = some (0, aRaise tr f th' ca (wr (aRest (10 * f) w) 14 0 (nI f))) := by
      intro th'
      refine ih n a b th' ca _ (by omega) (by omega) (by rw [wr_s]; exact upd_s) (fun g hg => ?_)
      rw [wr_n (by decide)]
      unfold aRest
      rw [wrA_n (by decide)]
      exact h18 g (by omega)
    have e0 : (nI f = (0 : Int32)) ↔ f = 0 := by rw [lit_0]; exact nI_eq (by omega) (by omega)
    have w14 : (wr (aRest (10 * f) w) 14 0 (nI f)) 14 0 = nI f := by rw [wr_s]; exact upd_s
    have goon : (if th = (7 : Int32) then kM_raise n a b th ca (wr (aRest (10 * f) w) 14 0 (nI f)) else if (wr (aRest (10 * f) w) 14 0 (nI f)) 14 0 = (0 : Int32) then kM_raise n a b th ca (wr (aRest (10 * f) w) 14 0 (nI f)) else kM_raise n a b (5 : Int32) ca (wr (aRest (10 * f) w) 14 0 (nI f))) = some (0, aRaise tr f (if th = 7 ∨ f = 0 then th else 5) ca (wr (aRest (10 * f) w) 14 0 (nI f))) := by
      by_cases t7 : th = 7
      · rw [if_pos t7, if_pos (Or.inl t7)]; exact pop th
      · rw [if_neg t7, w14]
        by_cases f0 : f = 0
        · rw [if_pos (e0.mpr f0), if_pos (Or.inr f0)]; exact pop th
        · rw [if_neg (fun q => f0 (e0.mp q)), if_neg (by rintro (q | q); exact t7 q; exact f0 q)]; exact pop 5
    unfold aRaise
    by_cases t7 : th = 7
    · rw [if_pos t7, if_neg (fun q => q.1 t7), M_restore (by omega)]
      simp only [Option.bind_some, pu_sc]
      have := goon
      rw [show wrA w 0 (va_cpy (w 20) (w 0) (70 * (10 * f)) 0 70) = aRest (10 * f) w from rfl, r14, e1]
      exact goon
    · rw [if_neg t7, pu_rd (show f < 4 by omega) (by omega)]
      simp only [Option.bind_some]
      rw [h18 f (by omega)]
      by_cases t0 : tr f = 0
      · rw [if_pos (by rw [t0]; decide), if_neg (fun q => by omega), M_restore (by omega)]
        simp only [Option.bind_some, pu_sc]
        rw [show wrA w 0 (va_cpy (w 20) (w 0) (70 * (10 * f)) 0 70) = aRest (10 * f) w from rfl, r14, e1]
        exact goon
      · have htf := htr f (by omega)
        rw [if_neg (by rw [lit_0]; exact nI_ge (by omega) (by omega)), if_pos ⟨t7, by omega⟩]
        have e2 : nI (tr f) - (1 : Int32) = nI (tr f - 1) := by rw [lit_1, pk_sub (by omega)]
        rw [e2, pu_wr (show f < 4 by omega) (by omega)]
        simp only [Option.bind_some]
        rw [pu_rd (show f < 4 by omega) (by omega), wr_s, upd_s]
        simp only [Option.bind_some]
        have e3 : nI (10 * f) + (1 : Int32) + nI (tr f - 1) = nI (10 * f + tr f) := by rw [nI_1, nI_add, show 10 * f + 1 + (tr f - 1) = 10 * f + tr f by omega]
        rw [e3, M_restore (by omega)]
        simp only [Option.bind_some]
        rw [show wrA (wr w 18 f (nI (tr f - 1))) 0 (va_cpy ((wr w 18 f (nI (tr f - 1))) 20) ((wr w 18 f (nI (tr f - 1))) 0) (70 * (10 * f + tr f)) 0 70) = aRest (10 * f + tr f) (wr w 18 f (nI (tr f - 1))) from rfl]
        have q18 : (aRest (10 * f + tr f) (wr w 18 f (nI (tr f - 1)))) 18 f = nI (tr f - 1) := by unfold aRest; rw [wrA_n (by decide), wr_s]; exact upd_s
        rw [pu_wr (show f < 4 by omega) (by omega)]
        simp only [Option.bind_some]
        rw [pu_rd (show f < 4 by omega) (by omega), wr_n (show (18 : Nat) ≠ 16 by decide), q18]
        simp only [Option.bind_some]
        rw [nI_add, pu_rd (show 10 * f + (tr f - 1) < 40 by omega) (by omega), wr_n (show (19 : Nat) ≠ 16 by decide)]
        simp only [Option.bind_some]
        rw [pu_wr (show f < 4 by omega) (by omega)]
        rfl
theorem M_raise {tr : Nat → Nat} (htr : ∀ g, g < 4 → tr g ≤ 8) {d : Nat} {th ca : Int32} {w : Ug} (hd : d ≤ 4) (h14 : w 14 0 = nI d) (h18 : ∀ g, g < d → w 18 g = nI (tr g)) : fM_raise th ca w = some (0, aRaise tr d th ca w) := by
  unfold fM_raise
  exact M_raise_loop htr d 4096 th ca th ca w hd (by omega) h14 h18
