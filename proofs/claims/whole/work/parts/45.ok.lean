/-! PURE: what stays so of a state: COINS 0 .. M, EVENTS 0 .. 40, the two counts. -/
def CoOk (M : Nat) (σ : Nat → Int32) : Prop := ∀ i, i < 12 → ∃ c : Nat, c ≤ M ∧ σ i = nI c
def SgOk (σ : Nat → Int32) : Prop := CoOk 1000000000 σ ∧ (∃ e : Nat, e ≤ 40 ∧ σ 29 = nI e) ∧ ∀ j, 70 ≤ j → σ j = 0
def StOk (S : AS) : Prop := SgOk S.1 ∧ S.2.2.1 ≤ 20000 ∧ S.2.2.2 ≤ 100
theorem aPayG_ok {M : Nat} (hM : M < 2 ^ 30) {σ : Nat → Int32} {fr to : Nat} {n : Int32} (h1 : fr < 12) (h2 : to < 12) (h : CoOk M σ) : CoOk M (aPayG (nI M) σ fr to n).2 ∧ ∀ j, 12 ≤ j → (aPayG (nI M) σ fr to n).2 j = σ j := by
  unfold aPayG
  by_cases a : n < 0
  · rw [if_pos a]; exact ⟨h, fun _ _ => rfl⟩
  rw [if_neg a]
  by_cases b : n ≤ σ fr
  · rw [if_pos b]
    by_cases c : fr = to
    · rw [if_pos c]; exact ⟨h, fun _ _ => rfl⟩
    rw [if_neg c]
    by_cases d : n ≤ nI M - σ to
    · rw [if_pos d]
      obtain ⟨cf, hf1, hf2⟩ := h fr h1
      obtain ⟨ct, ht1, ht2⟩ := h to h2
      obtain ⟨k, hk, rfl⟩ := nI_of a
      rw [hf2] at b
      rw [ht2, pk_sub ht1] at d
      have b' : k ≤ cf := (nI_leI hk (by omega)).mp b
      have d' : k ≤ M - ct := (nI_leI hk (by omega)).mp d
      refine ⟨fun i hi => ?_, fun j hj => ?_⟩
      · show ∃ c, c ≤ M ∧ upd (upd σ fr (σ fr - nI k)) to (upd σ fr (σ fr - nI k) to + nI k) i = nI c
        by_cases it : i = to
        · subst it
          rw [upd_s, upd_n (fun q => c q.symm), ht2, nI_add]
          exact ⟨ct + k, by omega, rfl⟩
        · rw [upd_n it]
          by_cases hif : i = fr
          · subst hif
            rw [upd_s, hf2, pk_sub b']
            exact ⟨cf - k, by omega, rfl⟩
          · rw [upd_n hif]; exact h i hi
      · show upd (upd σ fr (σ fr - nI k)) to (upd σ fr (σ fr - nI k) to + nI k) j = σ j
        rw [upd_n (by omega), upd_n (by omega)]
    · rw [if_neg d]; exact ⟨h, fun _ _ => rfl⟩
  · rw [if_neg b]; exact ⟨h, fun _ _ => rfl⟩
theorem aPay_ok {σ : Nat → Int32} {fr to : Nat} {n : Int32} (h1 : fr < 12) (h2 : to < 12) (h : SgOk σ) : SgOk (aPay σ fr to n).2 := by
  have e : aPay σ fr to n = aPayG (nI 1000000000) σ fr to n := by unfold aPay; rw [lit_big]
  rw [e]
  have := aPayG_ok (M := 1000000000) (by decide) (n := n) h1 h2 h.1
  exact ⟨this.1, by rw [this.2 29 (by decide)]; exact h.2.1, fun j hj => by rw [this.2 j (by omega)]; exact h.2.2 j hj⟩
theorem aEv_ok {σ : Nat → Int32} {v : Int32} (h : SgOk σ) : SgOk (aEv σ v) := by
  obtain ⟨hc, ⟨e, he, h29⟩, hh⟩ := h
  unfold aEv
  have hcl : (nI e).toNatClampNeg = e := nI_clamp (by omega)
  rw [h29, hcl]
  by_cases h4 : 40 ≤ e
  · rw [if_pos h4]; exact ⟨hc, ⟨e, he, h29⟩, hh⟩
  · rw [if_neg h4]
    refine ⟨fun i hi => ?_, ⟨e + 1, by omega, ?_⟩, fun j hj => ?_⟩
    · rw [upd_n (by omega), upd_n (by omega)]; exact hc i hi
    · rw [upd_s, nI_1]
    · rw [upd_n (by omega), upd_n (by omega)]; exact hh j hj
theorem aPlain_ok {k a b v : Int32} {pl : Nat} {σ : Nat → Int32} (hp : pl < 12) (wf : WfS k a) (h : SgOk σ) : SgOk (aPlain k a b pl v σ).2.1 := by
  unfold aPlain
  by_cases k0 : k = 0
  · rw [if_pos k0]
    obtain ⟨j, hj, rfl⟩ := wf.1 (Or.inl k0)
    have cl : aCell pl (nI j) = 12 + (4 * (pl / 3) + j) := by unfold aCell; rw [nI_clamp (by omega)]
    rw [cl]
    refine ⟨fun i hi => ?_, ?_, fun j hj => ?_⟩
    · show ∃ c, _ ∧ upd σ _ v i = _
      rw [upd_n (by omega)]; exact h.1 i hi
    · show ∃ e, _ ∧ upd σ _ v 29 = _
      rw [upd_n (by omega)]; exact h.2.1
    · show upd σ _ v j = _
      rw [upd_n (by omega)]; exact h.2.2 j hj
  rw [if_neg k0]
  by_cases k1 : k = 1
  · rw [if_pos k1]; exact h
  rw [if_neg k1]
  by_cases k2 : k = 2
  · rw [if_pos k2]; exact h
  rw [if_neg k2]
  by_cases k3 : k = 3
  · rw [if_pos k3]; exact h
  rw [if_neg k3]
  by_cases k4 : k = 4
  · rw [if_pos k4]; exact h
  rw [if_neg k4]
  by_cases k5 : k = 5
  · rw [if_pos k5]
    obtain ⟨j, hj, rfl⟩ := wf.2.1 k5
    rw [nI_clamp (by omega)]
    exact aPay_ok (by omega) hj h
  rw [if_neg k5]
  by_cases k6 : k = 6
  · rw [if_pos k6]; exact aEv_ok h
  rw [if_neg k6]
  by_cases k10 : k = 10
  · rw [if_pos k10]; exact h
  rw [if_neg k10]
  by_cases k11 : k = 11
  · rw [if_pos k11]
    by_cases z : σ (aCell pl a) = 0
    · rw [if_pos z]; exact h
    · rw [if_neg z]; exact h
  rw [if_neg k11]; exact h
/-- the STEPS, and what FACES are bound to, are as told -/
def EnOk (kd av : Nat → Int32) (sz : Nat → Nat) (bd db nb : Nat → Int32) : Prop := (∀ s, s < 96 → WfS (kd s) (av s)) ∧ (∀ m, m < 12 → sz m ≤ 8) ∧ (∀ f, f < 4 → bd f = -1 ∨ ∃ m : Nat, m < 12 ∧ bd f = nI m) ∧ ∀ f, f < 4 → db f = 2 → ∃ b : Nat, b ≤ 5 ∧ nb f = nI b
theorem aBlock_ok {kd av bv : Nat → Int32} {sz : Nat → Nat} {bd db nb : Nat → Int32} (hE : EnOk kd av sz bd db nb) : ∀ (n pl i en : Nat) (v : Int32) (op : Nat) (S : AS), pl < 12 → en ≤ 8 → StOk S → StOk (aBlock kd av bv sz bd db nb n pl i en v op S).2.1 := by
  intro n
  induction n with
  | zero => intro pl i en v op S _ _ h; exact h
  | succ n ih =>
    intro pl i en v op S hp hen h
    unfold aBlock
    by_cases c1 : en ≤ i
    · rw [if_pos c1]; exact h
    rw [if_neg c1]
    by_cases c2 : 100 ≤ S.2.2.2 ∨ 20000 ≤ S.2.2.1
    · rw [if_pos c2]; exact h
    rw [if_neg c2]
    have hs : 8 * pl + i < 96 := by omega
    have wf := hE.1 _ hs
    have h1 : ∀ cov, StOk (S.1, cov, S.2.2.1 + 1, S.2.2.2 + 1) := fun cov => ⟨h.1, by show S.2.2.1 + 1 ≤ _; omega, by show S.2.2.2 + 1 ≤ _; omega⟩
    by_cases k9 : kd (8 * pl + i) = 9
    · rw [if_pos k9]
      have hr := ih pl (i + 1) (min (i + 1 + (av (8 * pl + i)).toNatClampNeg) en) v op (S.1, aCov S.2.1 pl i, S.2.2.1 + 1, S.2.2.2 + 1) hp (by omega) (h1 _)
      revert hr
      generalize aBlock kd av bv sz bd db nb n pl (i + 1) (min (i + 1 + (av (8 * pl + i)).toNatClampNeg) en) v op (S.1, aCov S.2.1 pl i, S.2.2.1 + 1, S.2.2.2 + 1) = r
      intro hr
      show StOk (if r.2.2.1 = 0 then _ else _ : AO).2.1
      by_cases r0 : r.2.2.1 = 0
      · rw [if_pos r0]; exact ih _ _ _ _ _ _ hp hen hr
      rw [if_neg r0]
      by_cases r7 : r.2.2.1 = 7
      · rw [if_pos r7]; exact hr
      · rw [if_neg r7]; exact ih _ _ _ _ _ _ hp hen ⟨h.1, hr.2⟩
    rw [if_neg k9]
    by_cases k7 : kd (8 * pl + i) = 7 ∨ kd (8 * pl + i) = 13
    · rw [if_pos k7]; exact ih _ _ _ _ _ _ hp hen (h1 _)
    rw [if_neg k7]
    by_cases k8 : kd (8 * pl + i) = 8
    · rw [if_pos k8]
      obtain ⟨f, hf, ef⟩ := wf.1 (Or.inr (Or.inr (Or.inr (Or.inr k8))))
      rw [ef, nI_clamp (by omega)]
      show StOk (if db f = 1 then _ else _ : AO).2.1
      by_cases d1 : db f = 1
      · rw [if_pos d1]; exact ih _ _ _ _ _ _ hp hen (h1 _)
      rw [if_neg d1]
      by_cases d2 : db f = 2
      · rw [if_pos d2]; exact h1 _
      rw [if_neg d2]
      by_cases d3 : bd f = -1
      · rw [if_pos d3]; exact h1 _
      rw [if_neg d3]
      by_cases d4 : 4 ≤ op
      · rw [if_pos d4]; exact h1 _
      rw [if_neg d4]
      by_cases d5 : 20000 ≤ S.2.2.1 + 1
      · rw [if_pos d5]; exact h1 _
      rw [if_neg d5]
      obtain ⟨m, hm, em⟩ := (hE.2.2.1 f hf).resolve_left d3
      rw [em, nI_clamp (by omega)]
      have hr := ih m 0 (sz m) v (op + 1) (S.1, aCov S.2.1 pl i, S.2.2.1 + 2, S.2.2.2 + 1) hm (hE.2.1 m hm) ⟨h.1, by show S.2.2.1 + 2 ≤ _; omega, by show S.2.2.2 + 1 ≤ _; omega⟩
      revert hr
      generalize aBlock kd av bv sz bd db nb n m 0 (sz m) v (op + 1) (S.1, aCov S.2.1 pl i, S.2.2.1 + 2, S.2.2.2 + 1) = r
      intro hr
      have hb : StOk (aBack S.1 r).2.1 := by
        unfold aBack
        by_cases r0 : r.2.2.1 = 0
        · rw [if_pos r0]; exact hr
        · rw [if_neg r0]; exact ⟨h.1, hr.2⟩
      show StOk (if (aBack S.1 r).2.2.1 = 0 then _ else _ : AO).2.1
      by_cases r0 : (aBack S.1 r).2.2.1 = 0
      · rw [if_pos r0]; exact ih _ _ _ _ _ _ hp hen hb
      · rw [if_neg r0]; exact hb
    rw [if_neg k8]
    have hq := aPlain_ok (b := bv (8 * pl + i)) (v := v) hp wf h.1
    revert hq
    generalize aPlain (kd (8 * pl + i)) (av (8 * pl + i)) (bv (8 * pl + i)) pl v S.1 = q
    intro hq
    show StOk (if q.2.2 = 0 then _ else _ : AO).2.1
    have hq2 : StOk (q.2.1, aCov S.2.1 pl i, S.2.2.1 + 1, S.2.2.2 + 1) := ⟨hq, (h1 (aCov S.2.1 pl i)).2⟩
    by_cases q0 : q.2.2 = 0
    · rw [if_pos q0]; exact ih _ _ _ _ _ _ hp hen hq2
    · rw [if_neg q0]; exact hq2
