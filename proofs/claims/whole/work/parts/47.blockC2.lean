/-! PURE: the class's block and its calls, by induction. -/
theorem C_try_keep {ub : Ug} {lev : Nat} : ∀ j, j < 70 → (wrA ub 9 (va_cpy (ub 0) (ub 9) 0 (70 * lev) 70)) 9 (70 * lev + j) = ub 0 j := by
  intro j hj
  rw [wrA_s, pk_cpy_in (by omega) (by omega)]
  congr 1
  omega
theorem C_keep_CF {ub : Ug} {lev : Nat} : CF lev ub (wrA ub 9 (va_cpy (ub 0) (ub 9) 0 (70 * lev) 70)) :=
  ⟨fun r _ _ h9 _ _ _ _ => wrA_n h9, fun j hj => by rw [wrA_s, pk_cpy_out (Or.inl hj)]⟩
theorem CR.keep {ub : Ug} {lev : Nat} {S : AS} {t c : Int32} (h : CR ub S t c) : CR (wrA ub 9 (va_cpy (ub 0) (ub 9) 0 (70 * lev) 70)) S t c := by
  obtain ⟨a, b, d, e, f, g⟩ := h
  exact ⟨by rw [wrA_n (by decide)]; exact a, by rw [wrA_n (by decide)]; exact b, by rw [wrA_n (by decide)]; exact d, by rw [wrA_n (by decide)]; exact e, by rw [wrA_n (by decide)]; exact f, by rw [wrA_n (by decide)]; exact g⟩
/-- what the block does: the statement -/
def CB (kd av bv : Nat → Int32) (sz : Nat → Nat) (bd db nb : Nat → Int32) (n : Nat) : Prop :=
  ∀ (m j pl i en nx : Nat) (v : Int32) (op lev : Nat) (S : AS) (u : Ug) (x2 x4 : Int32), 9 * (4 - op) + (8 - i) + 1 ≤ n → 2 * (8 - i) + 19 * (4 - op) + 3 ≤ m → en < i + j → i ≤ en → (nx ≤ i ∨ en ≤ i) → nx < 100 → pl < 12 → en ≤ 8 → 1 ≤ op → op ≤ 4 → lev + 8 ≤ 9 * op + i → StOk S → CR u S 0 0 → CE u kd av bv sz bd db nb →
    ∃ (v1 : Int32) (u1 : Ug), kC_Machine_block (rC m).1 (rC m).2.1 (rC m).2.2.1 (rC m).2.2.2 j (nI pl) x2 (nI en) x4 (nI op) (nI lev) v (nI nx) (nI i) u = some (v1, u1) ∧ CR u1 (aBlock kd av bv sz bd db nb n pl i en v op S).2.1 (aBlock kd av bv sz bd db nb n pl i en v op S).2.2.1 (aBlock kd av bv sz bd db nb n pl i en v op S).2.2.2 ∧ CF lev u u1 ∧ ((aBlock kd av bv sz bd db nb n pl i en v op S).2.2.1 = 0 → v1 = (aBlock kd av bv sz bd db nb n pl i en v op S).1)
/-- a TRY's STEPS -/
theorem C_tried {kd av bv : Nat → Int32} {sz : Nat → Nat} {bd db nb : Nat → Int32} (hE : EnOk kd av sz bd db nb) {n : Nat} (ih : CB kd av bv sz bd db nb n) {m pl i e2 : Nat} {v : Int32} {op lev : Nat} {S : AS} {u : Ug} (hn : 9 * (4 - op) + (8 - i) + 1 ≤ n) (hm : 2 * (8 - i) + 19 * (4 - op) + 3 ≤ m) (hi : i ≤ e2) (hp : pl < 12) (he : e2 ≤ 8) (h1 : 1 ≤ op) (h4 : op ≤ 4) (hl : lev + 9 ≤ 9 * op + i) (hS : StOk S) (hC : CR u S 0 0) (hX : CE u kd av bv sz bd db nb) :
    ∃ (v1 : Int32) (u1 : Ug), (rC (m + 2)).2.2.2 (nI pl) (nI i) (nI e2) v (nI op) (nI lev) u = some (v1, u1) ∧ CF lev u u1 ∧
      ((aBlock kd av bv sz bd db nb n pl i e2 v op S).2.2.1 = 0 ∧ v1 = (aBlock kd av bv sz bd db nb n pl i e2 v op S).1 ∧ CR u1 (aBlock kd av bv sz bd db nb n pl i e2 v op S).2.1 0 0
      ∨ (aBlock kd av bv sz bd db nb n pl i e2 v op S).2.2.1 = 7 ∧ CR u1 (aBlock kd av bv sz bd db nb n pl i e2 v op S).2.1 7 (aBlock kd av bv sz bd db nb n pl i e2 v op S).2.2.2
      ∨ (aBlock kd av bv sz bd db nb n pl i e2 v op S).2.2.1 ≠ 0 ∧ (aBlock kd av bv sz bd db nb n pl i e2 v op S).2.2.1 ≠ 7 ∧ v1 = (aBlock kd av bv sz bd db nb n pl i e2 v op S).2.2.1 ∧ CR u1 (S.1, (aBlock kd av bv sz bd db nb n pl i e2 v op S).2.1.2) 0 0) := by
  show ∃ v1 u1, gC_Machine_tried (rC (m + 1)).1 (rC (m + 1)).2.1 (rC (m + 1)).2.2.1 (rC (m + 1)).2.2.2 _ _ _ _ _ _ _ = _ ∧ _
  unfold gC_Machine_tried
  rw [C_keep (by omega)]
  simp only [Option.bind_some]
  rw [if_neg (by decide), nI_1]
  obtain ⟨v1, u1, e1, hR, hF, hv⟩ := ih m 4096 pl i e2 i v op (lev + 1) S _ (nI i) v hn hm (by omega) hi (Or.inl (Nat.le_refl i)) (by omega) hp he h1 h4 (by omega) hS (CR.keep (lev := lev) hC) (hX.of (C_keep_CF (lev := lev)))
  have hOk := aBlock_ok (bv := bv) hE n pl i e2 v op S hp he hS
  have hca := aBlock_ca (kd := kd) (av := av) (bv := bv) (sz := sz) (bd := bd) (db := db) (nb := nb) n pl i e2 v op S
  have e2' : (rC (m + 1)).2.1 (nI pl) (nI i) (nI e2) v (nI op) (nI (lev + 1)) (wrA u 9 (va_cpy (u 0) (u 9) 0 (70 * lev) 70)) = some (v1, u1) := e1
  rw [e2']
  simp only [Option.bind_some]
  generalize aBlock kd av bv sz bd db nb n pl i e2 v op S = r at hR hv hOk hca ⊢
  have hF2 : CF lev u u1 := CF.tr C_keep_CF hF (by omega)
  obtain ⟨a0, a2, a19, a20, a21, a22⟩ := hR
  rw [C_threw]
  simp only [Option.bind_some]
  rw [a21]
  by_cases t0 : r.2.2.1 = 0
  · rw [if_pos t0, if_pos rfl]
    exact ⟨_, _, rfl, hF2, Or.inl ⟨t0, hv t0, a0, a2, a19, a20, by rw [a21, t0], by rw [a22]; exact hca t0⟩⟩
  rw [if_neg t0, if_neg (by decide)]
  by_cases t7 : r.2.2.1 = 7
  · rw [if_pos t7]
    exact ⟨_, _, rfl, hF2, Or.inr (Or.inl ⟨t7, a0, a2, a19, a20, by rw [a21, t7], a22⟩)⟩
  rw [if_neg t7, C_raise]
  simp only [Option.bind_some]
  rw [C_bring (by omega)]
  simp only [Option.bind_some]
  have hkeep : ∀ j, j < 70 → (wr (wr u1 21 0 0) 22 0 0) 9 (70 * lev + j) = S.1 j := by
    intro j hj
    rw [wr_n (by decide), wr_n (by decide), hF.2 _ (by omega), C_try_keep j hj, hC.1]
  have hσ : va_cpy ((wr (wr u1 21 0 0) 22 0 0) 9) ((wr (wr u1 21 0 0) 22 0 0) 0) (70 * lev) 0 70 = S.1 :=
    C_kept hS.1.2.2 (fun j hj => by rw [wr_n (by decide), wr_n (by decide), a0]; exact hOk.1.2.2 j hj) hkeep
  rw [hσ]
  refine ⟨_, _, rfl, ?_, Or.inr (Or.inr ⟨t0, t7, rfl, ?_⟩)⟩
  · refine ⟨fun r h0 h2 h9 h19 h20 h21 h22 => ?_, fun j hj => ?_⟩
    · rw [wrA_n h0, wr_n h22, wr_n h21]; exact hF2.1 r h0 h2 h9 h19 h20 h21 h22
    · rw [wrA_n (by decide), wr_n (by decide), wr_n (by decide)]; exact hF2.2 j hj
  · exact ⟨wrA_s, by rw [wrA_n (by decide), wr_n (by decide), wr_n (by decide)]; exact a2, by rw [wrA_n (by decide), wr_n (by decide), wr_n (by decide)]; exact a19, by rw [wrA_n (by decide), wr_n (by decide), wr_n (by decide)]; exact a20, by rw [wrA_n (by decide), wr_n (by decide), wr_s]; exact upd_s, by rw [wrA_n (by decide), wr_s]; exact upd_s⟩
/-- a CALL by ASK -/
theorem C_oneCall {kd av bv : Nat → Int32} {sz : Nat → Nat} {bd db nb : Nat → Int32} (hE : EnOk kd av sz bd db nb) {n : Nat} (ih : CB kd av bv sz bd db nb n) {m by_ pl : Nat} {v co : Int32} {op lev : Nat} {S : AS} {u : Ug} (hn : 9 * (4 - op) + 8 + 1 ≤ n) (hm : 16 + 19 * (4 - op) + 3 ≤ m) (hb : by_ < 12) (hp : pl < 12) (h1 : 1 ≤ op) (h4 : op ≤ 4) (hl : lev + 9 ≤ 9 * op) (hS : StOk S) (hC : CR u S 0 0) (hX : CE u kd av bv sz bd db nb) :
    ∃ (v1 : Int32) (u1 : Ug), (rC (m + 2)).2.2.1 (nI by_) (nI pl) v co (nI op) (nI lev) u = some (v1, u1) ∧ CF lev u u1 ∧
      ((20000 ≤ S.2.2.1 ∧ CR u1 S 7 7)
      ∨ (S.2.2.1 < 20000 ∧ (aPay S.1 by_ (8 + pl / 3) co).1 ≠ 0 ∧ CR u1 (S.1, S.2.1, S.2.2.1 + 1, S.2.2.2) (aPay S.1 by_ (8 + pl / 3) co).1 (aPay S.1 by_ (8 + pl / 3) co).1)
      ∨ (S.2.2.1 < 20000 ∧ (aPay S.1 by_ (8 + pl / 3) co).1 = 0 ∧ ∃ r : AO, r = aBlock kd av bv sz bd db nb n pl 0 (sz pl) v op ((aPay S.1 by_ (8 + pl / 3) co).2, S.2.1, S.2.2.1 + 1, S.2.2.2) ∧
          (r.2.2.1 = 0 ∧ v1 = r.1 ∧ CR u1 r.2.1 0 0 ∨ r.2.2.1 ≠ 0 ∧ CR u1 (S.1, r.2.1.2) r.2.2.1 r.2.2.2))) := by
  show ∃ v1 u1, gC_Machine_oneCall (rC (m + 1)).1 (rC (m + 1)).2.1 (rC (m + 1)).2.2.1 (rC (m + 1)).2.2.2 _ _ _ _ _ _ _ = _ ∧ _
  obtain ⟨a0, a2, a19, a20, a21, a22⟩ := id hC
  have hia := hS.2.1
  unfold gC_Machine_oneCall
  rw [a19]
  by_cases c1 : 20000 ≤ S.2.2.1
  · rw [if_pos (by rw [lit_20000]; exact nI_le c1 (by omega)), C_raise]
    simp only [Option.bind_some]
    refine ⟨_, _, rfl, ⟨fun r _ _ _ _ _ h21 h22 => by rw [wr_n h22, wr_n h21], fun j _ => by rw [wr_n (by decide), wr_n (by decide)]⟩, Or.inl ⟨c1, ?_⟩⟩
    exact ⟨by rw [wr_n (by decide), wr_n (by decide)]; exact a0, by rw [wr_n (by decide), wr_n (by decide)]; exact a2, by rw [wr_n (by decide), wr_n (by decide)]; exact a19, by rw [wr_n (by decide), wr_n (by decide)]; exact a20, by rw [wr_n (by decide), wr_s]; exact upd_s, by rw [wr_s]; exact upd_s⟩
  rw [if_neg (by rw [lit_20000]; exact nI_ge (by omega) (by omega)), if_neg (by rw [lit_4]; exact nI_nlt h4 (by omega)), C_keep (by omega)]
  simp only [Option.bind_some]
  rw [if_neg (by decide), pu_sc]
  simp only [Option.bind_some]
  rw [C_accountOf hp]
  simp only [Option.bind_some]
  rw [C_pay hb (by omega)]
  simp only [Option.bind_some]
  rw [C_raise]
  simp only [Option.bind_some]
  rw [C_size hp]
  simp only [Option.bind_some]
  -- the state ahead of the STEPS
  obtain ⟨uk, huk⟩ : ∃ uk : Ug, uk = wrA u 9 (va_cpy (u 0) (u 9) 0 (70 * lev) 70) := ⟨_, rfl⟩
  rw [← huk]
  have hk0 : (wr uk 19 0 (uk 19 0 + 1)) 0 = S.1 := by rw [wr_n (by decide), huk, wrA_n (by decide)]; exact a0
  rw [hk0]
  obtain ⟨P, hP⟩ : ∃ P, P = aPay S.1 by_ (8 + pl / 3) co := ⟨_, rfl⟩
  rw [← hP]
  obtain ⟨us, hus⟩ : ∃ us : Ug, us = wr (wr (wrA (wr uk 19 0 (uk 19 0 + 1)) 0 P.2) 21 0 P.1) 22 0 P.1 := ⟨_, rfl⟩
  rw [← hus]
  have k9 : ∀ r, r ≠ 9 → uk r = u r := fun r hr => by rw [huk]; exact wrA_n hr
  have s0 : us 0 = P.2 := by rw [hus, wr_n (by decide), wr_n (by decide), wrA_s]
  have s19 : us 19 0 = nI (S.2.2.1 + 1) := by rw [hus, wr_n (by decide), wr_n (by decide), wrA_n (by decide), wr_s, upd_s, k9 19 (by decide), a19, nI_1]
  have s21 : us 21 0 = P.1 := by rw [hus, wr_n (by decide), wr_s, upd_s]
  have s22 : us 22 0 = P.1 := by rw [hus, wr_s, upd_s]
  have sr : ∀ r, r ≠ 0 → r ≠ 9 → r ≠ 19 → r ≠ 21 → r ≠ 22 → us r = u r := fun r h0 h9 h19 h21 h22 => by rw [hus, wr_n h22, wr_n h21, wrA_n h0, wr_n h19, k9 r h9]
  have s9 : us 9 = uk 9 := by rw [hus, wr_n (by decide), wr_n (by decide), wrA_n (by decide), wr_n (by decide)]
  have hFs : CF lev u us := ⟨fun r h0 _ h9 h19 _ h21 h22 => sr r h0 h9 h19 h21 h22, fun j hj => by rw [s9, huk, wrA_s, pk_cpy_out (Or.inl hj)]⟩
  have hXs := hX.of hFs
  have hPok : SgOk P.2 := by rw [hP]; exact aPay_ok hb (by omega) hS.1
  have hsz : us 1 pl = nI (sz pl) := hXs.2.2.2.1 pl hp
  rw [hsz, nI_1]
  have hSs : StOk (P.2, S.2.1, S.2.2.1 + 1, S.2.2.2) := ⟨hPok, by show S.2.2.1 + 1 ≤ _; omega, hS.2.2⟩
  have hszb := hE.2.1 pl hp
  have hkept : ∀ w : Ug, CF (lev + 1) us w → ∀ j, j < 70 → w 9 (70 * lev + j) = S.1 j := by
    intro w hw j hj
    rw [hw.2 _ (by omega), s9, huk, C_try_keep j hj, a0]
  by_cases p0 : P.1 = 0
  · have hRs : CR us (P.2, S.2.1, S.2.2.1 + 1, S.2.2.2) 0 0 := ⟨s0, by rw [sr 2 (by decide) (by decide) (by decide) (by decide) (by decide)]; exact a2, s19, by rw [sr 20 (by decide) (by decide) (by decide) (by decide) (by decide)]; exact a20, by rw [s21, p0], by rw [s22, p0]⟩
    obtain ⟨v1, u1, e1, hR, hF, hv⟩ := ih m 4096 pl 0 (sz pl) 0 v op (lev + 1) _ us (nI 0) v (by omega) (by omega) (by omega) (Nat.zero_le _) (Or.inl (Nat.le_refl 0)) (by omega) hp hszb h1 h4 (by omega) hSs hRs hXs
    have hOk := aBlock_ok (bv := bv) hE n pl 0 (sz pl) v op _ hp hszb hSs
    have hca := aBlock_ca (kd := kd) (av := av) (bv := bv) (sz := sz) (bd := bd) (db := db) (nb := nb) n pl 0 (sz pl) v op (P.2, S.2.1, S.2.2.1 + 1, S.2.2.2)
    have e2' : (rC (m + 1)).2.1 (nI pl) (0 : Int32) (nI (sz pl)) v (nI op) (nI (lev + 1)) us = some (v1, u1) := e1
    rw [e2']
    simp only [Option.bind_some]
    generalize hr : aBlock kd av bv sz bd db nb n pl 0 (sz pl) v op (P.2, S.2.1, S.2.2.1 + 1, S.2.2.2) = r at hR hv hOk hca ⊢
    obtain ⟨b0, b2, b19, b20, b21, b22⟩ := hR
    have hF2 : CF lev u u1 := CF.tr hFs hF (by omega)
    rw [C_threw]
    simp only [Option.bind_some]
    rw [b21]
    by_cases t0 : r.2.2.1 = 0
    · rw [if_pos t0, if_pos rfl]
      exact ⟨_, _, rfl, hF2, Or.inr (Or.inr ⟨by omega, p0, r, rfl, Or.inl ⟨t0, hv t0, b0, b2, b19, b20, by rw [b21, t0], by rw [b22]; exact hca t0⟩⟩)⟩
    rw [if_neg t0, if_neg (by decide), C_bring (by omega)]
    simp only [Option.bind_some]
    have hσ : va_cpy (u1 9) (u1 0) (70 * lev) 0 70 = S.1 := C_kept hS.1.2.2 (fun j hj => by rw [b0]; exact hOk.1.2.2 j hj) (hkept u1 hF)
    rw [hσ]
    refine ⟨_, _, rfl, ⟨fun q h0 h2 h9 h19 h20 h21 h22 => by rw [wrA_n h0]; exact hF2.1 q h0 h2 h9 h19 h20 h21 h22, fun j hj => by rw [wrA_n (by decide)]; exact hF2.2 j hj⟩, Or.inr (Or.inr ⟨by omega, p0, r, rfl, Or.inr ⟨t0, wrA_s, ?_, ?_, ?_, ?_, ?_⟩⟩)⟩
    · rw [wrA_n (by decide)]; exact b2
    · rw [wrA_n (by decide)]; exact b19
    · rw [wrA_n (by decide)]; exact b20
    · rw [wrA_n (by decide)]; exact b21
    · rw [wrA_n (by decide)]; exact b22
  · have e1 : (rC (m + 1)).2.1 (nI pl) (0 : Int32) (nI (sz pl)) v (nI op) (nI (lev + 1)) us = some (v, us) := by
      show gC_Machine_block (rC m).1 (rC m).2.1 (rC m).2.2.1 (rC m).2.2.2 _ _ _ _ _ _ _ = _
      unfold gC_Machine_block
      exact C_thr (u := us) (nx := 0) hszb (by omega) (by rw [s21]; exact p0) 4096 0 (by omega) (Nat.zero_le _)
    rw [e1]
    simp only [Option.bind_some]
    rw [C_threw]
    simp only [Option.bind_some]
    rw [s21, if_neg p0, if_neg (by decide), C_bring (by omega)]
    simp only [Option.bind_some]
    have hσ : va_cpy (us 9) (us 0) (70 * lev) 0 70 = S.1 := C_kept hS.1.2.2 (fun j hj => by rw [s0]; exact hPok.2.2 j hj) (hkept us CF.rf)
    rw [hσ]
    refine ⟨_, _, rfl, ⟨fun q h0 h2 h9 h19 h20 h21 h22 => by rw [wrA_n h0]; exact hFs.1 q h0 h2 h9 h19 h20 h21 h22, fun j hj => by rw [wrA_n (by decide)]; exact hFs.2 j hj⟩, Or.inr (Or.inl ⟨by omega, p0, wrA_s, ?_, ?_, ?_, ?_, ?_⟩)⟩
    · rw [wrA_n (by decide), sr 2 (by decide) (by decide) (by decide) (by decide) (by decide)]; exact a2
    · rw [wrA_n (by decide)]; exact s19
    · rw [wrA_n (by decide), sr 20 (by decide) (by decide) (by decide) (by decide) (by decide)]; exact a20
    · rw [wrA_n (by decide)]; exact s21
    · rw [wrA_n (by decide)]; exact s22
