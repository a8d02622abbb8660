/-! PURE: the class's ASK, and its block whole. -/
theorem CR.thr {u : Ug} {S : AS} {t c x : Int32} (h : CR u S t c) : CR (wr u 21 0 x) S x c := by
  obtain ⟨a, b, d, e, f, g⟩ := h
  exact ⟨by rw [wr_n (by decide)]; exact a, by rw [wr_n (by decide)]; exact b, by rw [wr_n (by decide)]; exact d, by rw [wr_n (by decide)]; exact e, by rw [wr_s]; exact upd_s, by rw [wr_n (by decide)]; exact g⟩
theorem CR.raise {u : Ug} {S : AS} {t c x : Int32} (h : CR u S t c) : CR (wr (wr u 21 0 x) 22 0 x) S x x := by
  obtain ⟨a, b, d, e, f, g⟩ := h
  exact ⟨by rw [wr_n (by decide), wr_n (by decide)]; exact a, by rw [wr_n (by decide), wr_n (by decide)]; exact b, by rw [wr_n (by decide), wr_n (by decide)]; exact d, by rw [wr_n (by decide), wr_n (by decide)]; exact e, by rw [wr_n (by decide), wr_s]; exact upd_s, by rw [wr_s]; exact upd_s⟩
theorem CF.raise {lev : Nat} {u : Ug} {x y : Int32} : CF lev u (wr (wr u 21 0 x) 22 0 y) := ⟨fun r _ _ _ _ _ h21 h22 => by rw [wr_n h22, wr_n h21], fun j _ => by rw [wr_n (by decide), wr_n (by decide)]⟩
theorem CF.thr {lev : Nat} {u : Ug} {x : Int32} : CF lev u (wr u 21 0 x) := ⟨fun r _ _ _ _ _ h21 _ => wr_n h21, fun j _ => by rw [wr_n (by decide)]⟩
/-- ASK of a FACE: what the evaluator says of it -/
def aAsk (kd av bv : Nat → Int32) (sz : Nat → Nat) (bd db nb : Nat → Int32) (n : Nat) (f : Nat) (v : Int32) (op : Nat) (S : AS) : AO :=
  if db f = 1 then (nb f, S, 0, 0)
  else if db f = 2 then (v, S, 5, 20 + nb f)
  else if bd f = -1 then (v, S, 5, 3)
  else if 4 ≤ op then (v, S, 5, 4)
  else if 20000 ≤ S.2.2.1 then (v, S, 7, 7)
  else aBack S.1 (aBlock kd av bv sz bd db nb n (bd f).toNatClampNeg 0 (sz (bd f).toNatClampNeg) v (op + 1) (S.1, S.2.1, S.2.2.1 + 1, S.2.2.2))
theorem C_asked {kd av bv : Nat → Int32} {sz : Nat → Nat} {bd db nb : Nat → Int32} (hE : EnOk kd av sz bd db nb) {n : Nat} (ih : CB kd av bv sz bd db nb n) {m pl f : Nat} {v : Int32} {op lev : Nat} {S : AS} {u : Ug} (hn : 9 * (4 - op) ≤ n) (hm : 19 * (4 - op) ≤ m) (hf : f < 4) (hp : pl < 12) (h1 : 1 ≤ op) (h4 : op ≤ 4) (hl : lev ≤ 9 * op) (hS : StOk S) (hC : CR u S 0 0) (hX : CE u kd av bv sz bd db nb) :
    ∃ (v1 : Int32) (u1 : Ug), (rC (m + 3)).1 (nI f) (nI (8 + pl / 3)) v (nI op) (nI lev) u = some (v1, u1) ∧ CF lev u u1 ∧ CR u1 (aAsk kd av bv sz bd db nb n f v op S).2.1 (aAsk kd av bv sz bd db nb n f v op S).2.2.1 (aAsk kd av bv sz bd db nb n f v op S).2.2.2 ∧ ((aAsk kd av bv sz bd db nb n f v op S).2.2.1 = 0 → v1 = (aAsk kd av bv sz bd db nb n f v op S).1) := by
  show ∃ v1 u1, gC_Machine_asked (rC (m + 2)).1 (rC (m + 2)).2.1 (rC (m + 2)).2.2.1 (rC (m + 2)).2.2.2 _ _ _ _ _ _ = _ ∧ _
  obtain ⟨x3, x4, x5, x1, x6, x7, x8⟩ := id hX
  have a21 : u 21 0 = 0 := hC.2.2.2.2.1
  unfold gC_Machine_asked aAsk
  rw [C_boundTo hf]
  simp only [Option.bind_some]
  rw [C_doubleOf hf]
  simp only [Option.bind_some]
  rw [x6, x7]
  by_cases d1 : db f = 1
  · rw [if_pos d1, if_pos d1, C_numberOf hf]
    simp only [Option.bind_some]
    rw [C_threw]
    simp only [Option.bind_some]
    rw [a21, if_pos rfl, if_pos rfl, x8]
    exact ⟨_, _, rfl, CF.rf, hC, fun _ => rfl⟩
  rw [if_neg d1, if_neg d1, C_doubleOf hf]
  simp only [Option.bind_some]
  rw [x7]
  have after : ∀ (v : Int32) (x : Int32), x ≠ 0 → x ≠ 7 → ∃ (v1 : Int32) (u1 : Ug), ((fC_Machine_threw (wr (wr u 21 0 x) 22 0 x)).bind fun q25 => if q25.1 = (0 : Int32) then some (v, q25.2) else if (q25.2 21 0) = (7 : Int32) then some (v, q25.2) else (scO q25.2 21 (5 : Int32)).bind fun u28 => some (v, u28)) = some (v1, u1) ∧ CF lev u u1 ∧ CR u1 S 5 x := by
    intro v x n0 n7
    have e : (wr (wr u 21 0 x) 22 0 x) 21 0 = x := by rw [wr_n (by decide), wr_s, upd_s]
    rw [C_threw]
    simp only [Option.bind_some]
    rw [e, if_neg n0, if_neg (by decide), if_neg n7, pu_sc]
    simp only [Option.bind_some]
    exact ⟨_, _, rfl, CF.tr CF.raise CF.thr (Nat.le_refl lev), (CR.raise hC).thr⟩
  by_cases d2 : db f = 2
  · rw [if_pos d2, if_pos d2, C_numberOf hf]
    simp only [Option.bind_some]
    rw [x8]
    obtain ⟨b, hb, eb⟩ := hE.2.2.2 f hf d2
    rw [C_raise]
    simp only [Option.bind_some]
    obtain ⟨v1, u1, e1, e2, e3⟩ := after v (20 + nb f) (by rw [eb, lit_20, nI_add, lit_0]; exact fun q => by have := (nI_eq (by omega) (by omega)).mp q; omega) (by rw [eb, lit_20, nI_add, lit_7]; exact fun q => by have := (nI_eq (by omega) (by omega)).mp q; omega)
    exact ⟨v1, u1, e1, e2, e3, fun q => absurd (show (5 : Int32) = 0 from q) (by decide)⟩
  rw [if_neg d2, if_neg d2]
  by_cases d3 : bd f = -1
  · rw [if_pos d3, if_pos d3, C_raise]
    simp only [Option.bind_some]
    obtain ⟨v1, u1, e1, e2, e3⟩ := after v 3 (by decide) (by decide)
    exact ⟨v1, u1, e1, e2, e3, fun q => absurd (show (5 : Int32) = 0 from q) (by decide)⟩
  rw [if_neg d3, if_neg d3]
  by_cases d4 : 4 ≤ op
  · rw [if_neg (by rw [lit_4]; exact nI_nlt d4 (by omega)), if_pos d4, C_raise]
    simp only [Option.bind_some]
    obtain ⟨v1, u1, e1, e2, e3⟩ := after v 4 (by decide) (by decide)
    exact ⟨v1, u1, e1, e2, e3, fun q => absurd (show (5 : Int32) = 0 from q) (by decide)⟩
  rw [if_pos (by rw [lit_4]; exact nI_lt (by omega) (by omega)), if_neg d4]
  obtain ⟨q, hq, eq⟩ := (hE.2.2.1 f hf).resolve_left d3
  rw [eq, nI_clamp (by omega), nI_1]
  obtain ⟨v1, u1, e1, hF, hcase⟩ := C_oneCall hE ih (m := m) (by_ := 8 + pl / 3) (pl := q) (v := v) (co := 0) (op := op + 1) (lev := lev) (S := S) (u := u) (by omega) (by omega) (by omega) hq (by omega) (by omega) (by omega) hS hC hX
  rw [e1]
  simp only [Option.bind_some]
  rw [aPay_0 (by omega) (by omega) hS.1] at hcase
  rw [C_threw]
  simp only [Option.bind_some]
  rcases hcase with ⟨c1, hR⟩ | ⟨c1, c2, hR⟩ | ⟨c1, c2, r, hr, hR⟩
  · rw [hR.2.2.2.2.1, if_neg (by decide), if_pos rfl, if_pos c1]
    exact ⟨_, _, rfl, hF, hR, fun q => absurd (show (7 : Int32) = 0 from q) (by decide)⟩
  · exact absurd rfl c2
  · have hr : aBlock kd av bv sz bd db nb n q 0 (sz q) v (op + 1) (S.1, S.2.1, S.2.2.1 + 1, S.2.2.2) = r := hr.symm
    rw [if_neg (show ¬ 20000 ≤ S.2.2.1 by omega), hr]
    unfold aBack
    rcases hR with ⟨t0, hv, hR⟩ | ⟨t0, hR⟩
    · rw [hR.2.2.2.2.1, if_pos rfl, if_pos rfl, if_pos t0]
      have hca := aBlock_ca (kd := kd) (av := av) (bv := bv) (sz := sz) (bd := bd) (db := db) (nb := nb) n q 0 (sz q) v (op + 1) (S.1, S.2.1, S.2.2.1 + 1, S.2.2.2)
      rw [hr] at hca
      refine ⟨_, _, rfl, hF, ?_, fun _ => hv⟩
      rw [t0, hca t0]; exact hR
    · rw [hR.2.2.2.2.1, if_neg t0, if_neg (by decide), if_neg t0]
      by_cases t7 : r.2.2.1 = 7
      · rw [if_pos t7, if_pos t7]
        refine ⟨_, _, rfl, hF, ?_, fun q => absurd (show (7 : Int32) = 0 from q) (by decide)⟩
        rw [t7] at hR; exact hR
      · rw [if_neg t7, if_neg t7, pu_sc]
        simp only [Option.bind_some]
        exact ⟨_, _, rfl, CF.tr hF CF.thr (Nat.le_refl lev), hR.thr, fun q => absurd (show (5 : Int32) = 0 from q) (by decide)⟩
