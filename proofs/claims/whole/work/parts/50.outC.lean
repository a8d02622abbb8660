/-! PURE: a CALL from outside, in the class. -/
theorem C_outside {kd av bv : Nat → Int32} {sz : Nat → Nat} {bd db nb : Nat → Int32} (hE : EnOk kd av sz bd db nb) {by_ pl : Nat} {arg co : Int32} {u : Ug} {ia : Nat} (hb : by_ < 12) (hp : pl < 12) (hS : SgOk (u 0)) (hia : ia ≤ 20000) (h19 : u 19 0 = nI ia) (hX : CE u kd av bv sz bd db nb) :
    ∃ u1 : Ug, fC_Machine_callFromOutside (nI by_) (nI pl) arg co u = some (0, u1) ∧ CR u1 (aOut kd av bv sz bd db nb by_ pl arg co (u 0) (u 2) ia).2.1 (aOut kd av bv sz bd db nb by_ pl arg co (u 0) (u 2) ia).2.2.1 (aOut kd av bv sz bd db nb by_ pl arg co (u 0) (u 2) ia).2.2.2 ∧ u1 23 0 = (if (aOut kd av bv sz bd db nb by_ pl arg co (u 0) (u 2) ia).2.2.1 = 0 then (aOut kd av bv sz bd db nb by_ pl arg co (u 0) (u 2) ia).1 else 0) ∧ ∀ r, r ≠ 0 → r ≠ 2 → r ≠ 9 → r ≠ 19 → r ≠ 20 → r ≠ 21 → r ≠ 22 → r ≠ 23 → u1 r = u r := by
  unfold fC_Machine_callFromOutside
  rw [pu_sc]
  simp only [Option.bind_some]
  rw [C_raise]
  simp only [Option.bind_some]
  obtain ⟨us, hus⟩ : ∃ us : Ug, us = wr (wr (wr u 20 0 0) 21 0 0) 22 0 0 := ⟨_, rfl⟩
  rw [← hus]
  have sr : ∀ r, r ≠ 20 → r ≠ 21 → r ≠ 22 → us r = u r := fun r h20 h21 h22 => by rw [hus, wr_n h22, wr_n h21, wr_n h20]
  have sF : CF 0 u us := ⟨fun r _ _ _ _ h20 h21 h22 => sr r h20 h21 h22, fun j hj => by omega⟩
  have sR : CR us (u 0, u 2, ia, 0) 0 0 := ⟨sr 0 (by decide) (by decide) (by decide), sr 2 (by decide) (by decide) (by decide), by rw [sr 19 (by decide) (by decide) (by decide)]; exact h19, by rw [hus, wr_n (by decide), wr_n (by decide), wr_s]; exact upd_s, by rw [hus, wr_n (by decide), wr_s]; exact upd_s, by rw [hus, wr_s]; exact upd_s⟩
  obtain ⟨v1, u1, e1, hF, hcase⟩ := C_oneCall hE (C_block (bv := bv) hE 40) (m := 98) (by_ := by_) (pl := pl) (v := arg) (co := co) (op := 1) (lev := 0) (S := (u 0, u 2, ia, 0)) (u := us) (by decide) (by decide) hb hp (by decide) (by decide) (by decide) ⟨hS, hia, Nat.zero_le _⟩ sR (hX.of sF)
  have e2 : fC_Machine_oneCall (nI by_) (nI pl) arg co (1 : Int32) (0 : Int32) us = some (v1, u1) := e1
  rw [e2]
  simp only [Option.bind_some]
  rw [C_threw]
  simp only [Option.bind_some]
  have hFu : ∀ r, r ≠ 0 → r ≠ 2 → r ≠ 9 → r ≠ 19 → r ≠ 20 → r ≠ 21 → r ≠ 22 → u1 r = u r := fun r a b c d e f g => (hF.1 r a b c d e f g).trans (sF.1 r a b c d e f g)
  have fin : ∀ (S : AS) (t c x : Int32), CR u1 S t c → CR (wr u1 23 0 x) S t c := by
    intro S t c x h
    obtain ⟨a, b, d, e, f, g⟩ := h
    exact ⟨by rw [wr_n (by decide)]; exact a, by rw [wr_n (by decide)]; exact b, by rw [wr_n (by decide)]; exact d, by rw [wr_n (by decide)]; exact e, by rw [wr_n (by decide)]; exact f, by rw [wr_n (by decide)]; exact g⟩
  unfold aOut
  rcases hcase with ⟨c1, hR⟩ | ⟨c1, c2, hR⟩ | ⟨c1, c2, r, hr, hR⟩
  · have c1 : 20000 ≤ ia := c1
    rw [if_pos c1, hR.2.2.2.2.1, if_neg (by decide), pu_sc]
    simp only [Option.bind_some]
    exact ⟨_, rfl, fin _ _ _ _ hR, by rw [wr_s]; exact upd_s, fun r a b c d e f g h => by rw [wr_n h]; exact hFu r a b c d e f g⟩
  · have c1 : ia < 20000 := c1
    have c2 : ¬ (aPay (u 0) by_ (8 + pl / 3) co).1 = 0 := c2
    have hR : CR u1 (u 0, u 2, ia + 1, 0) (aPay (u 0) by_ (8 + pl / 3) co).1 (aPay (u 0) by_ (8 + pl / 3) co).1 := hR
    rw [if_neg (show ¬ 20000 ≤ ia by omega), if_neg c2, hR.2.2.2.2.1, if_neg c2, if_neg (by decide), pu_sc]
    simp only [Option.bind_some]
    refine ⟨_, rfl, fin _ _ _ _ hR, ?_, fun r a b c d e f g h => by rw [wr_n h]; exact hFu r a b c d e f g⟩
    rw [wr_s, upd_s]
    show 0 = if (aPay (u 0) by_ (8 + pl / 3) co).1 = 0 then _ else _
    exact (if_neg c2).symm
  · have c1 : ia < 20000 := c1
    have c2 : (aPay (u 0) by_ (8 + pl / 3) co).1 = 0 := c2
    have hr : aBlock kd av bv sz bd db nb 40 pl 0 (sz pl) arg 1 ((aPay (u 0) by_ (8 + pl / 3) co).2, u 2, ia + 1, 0) = r := hr.symm
    rw [if_neg (show ¬ 20000 ≤ ia by omega), if_pos c2, hr]
    show ∃ w, _ ∧ CR w (if r.2.2.1 = 0 then _ else _ : AO).2.1 (if r.2.2.1 = 0 then _ else _ : AO).2.2.1 (if r.2.2.1 = 0 then _ else _ : AO).2.2.2 ∧ w 23 0 = (if (if r.2.2.1 = 0 then _ else _ : AO).2.2.1 = 0 then (if r.2.2.1 = 0 then _ else _ : AO).1 else 0) ∧ _
    rcases hR with ⟨t0, hv, hR⟩ | ⟨t0, hR⟩
    · have hca := aBlock_ca (kd := kd) (av := av) (bv := bv) (sz := sz) (bd := bd) (db := db) (nb := nb) 40 pl 0 (sz pl) arg 1 ((aPay (u 0) by_ (8 + pl / 3) co).2, u 2, ia + 1, 0)
      rw [hr] at hca
      rw [hR.2.2.2.2.1, if_pos rfl, if_pos rfl, pu_sc]
      simp only [Option.bind_some]
      rw [if_pos t0, if_pos t0]
      refine ⟨_, rfl, ?_, by rw [wr_s, upd_s]; exact hv, fun r a b c d e f g h => by rw [wr_n h]; exact hFu r a b c d e f g⟩
      rw [t0, hca t0]; exact fin _ _ _ _ hR
    · rw [hR.2.2.2.2.1, if_neg t0, if_neg (by decide), pu_sc]
      simp only [Option.bind_some]
      rw [if_neg t0]
      refine ⟨_, rfl, fin _ _ _ _ hR, ?_, fun r a b c d e f g h => by rw [wr_n h]; exact hFu r a b c d e f g⟩
      rw [wr_s, upd_s]
      exact (if_neg t0).symm
