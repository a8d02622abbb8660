/-! PURE: a plain STEP, in the reference. -/
theorem aPay_th {σ : Nat → Int32} {fr to : Nat} {n : Int32} : (aPay σ fr to n).1 = 0 ∨ (aPay σ fr to n).1 = 1 ∨ (aPay σ fr to n).1 = 2 := by
  unfold aPay
  generalize (1000000000 : Int32) = M
  unfold aPayG
  split
  · exact Or.inr (Or.inl rfl)
  · split
    · split
      · exact Or.inl rfl
      · split
        · exact Or.inl rfl
        · exact Or.inr (Or.inr rfl)
    · exact Or.inr (Or.inl rfl)
theorem jM_0 {u : Ug} {f c : Nat} {s w a b v : Int32} (hf : f < 4) (hc : c < 70) : jM_work_80 (nI f) s w (nI 0) a b (nI c) v u = some (0, wr u 0 c v) := by
  unfold jM_work_80
  rw [if_pos (by decide), pu_wr hc (by omega)]
  rfl
theorem jM_1 {u : Ug} {f c : Nat} {s w a b v : Int32} (hf : f < 4) (hc : c < 70) : jM_work_80 (nI f) s w (nI 1) a b (nI c) v u = some (0, wr u 16 f (u 0 c)) := by
  unfold jM_work_80
  rw [if_neg (by decide), if_pos (by decide), pu_rd hc (by omega)]
  simp only [Option.bind_some]
  rw [pu_wr hf (by omega)]
  rfl
theorem jM_2 {u : Ug} {f : Nat} {s a b c v : Int32} (hf : f < 4) (w : Nat) (hw : w ≤ 2) : jM_work_80 (nI f) s (nI w) (nI 2) a b c v u = some (0, wr u 16 f (v + (if w = 0 then b else if w = 1 then b + 1 else -b))) := by
  unfold jM_work_80
  rw [if_neg (by decide), if_neg (by decide), if_pos (by decide)]
  rcases (show w = 0 ∨ w = 1 ∨ w = 2 by omega) with rfl | rfl | rfl
  · rw [if_pos (by decide), pu_wr hf (by omega)]
    rfl
  · rw [if_neg (by decide), if_pos (by decide), pu_wr hf (by omega)]
    rfl
  · rw [if_neg (by decide), if_neg (by decide), pu_wr hf (by omega)]
    simp [Int32.sub_eq_add_neg]
theorem jM_3 {u : Ug} {f c : Nat} {s w a b v : Int32} (hf : f < 4) (hc : c < 70) : jM_work_80 (nI f) s w (nI 3) a b (nI c) v u = some (0, wr u 16 f (v - u 0 c)) := by
  unfold jM_work_80
  rw [if_neg (by decide), if_neg (by decide), if_neg (by decide), if_pos (by decide), pu_rd hc (by omega)]
  simp only [Option.bind_some]
  rw [pu_wr hf (by omega)]
  rfl
theorem jM_4 {u : Ug} {f : Nat} {s a b c v : Int32} (hf : f < 4) {tr : Nat → Nat} (htr : ∀ g, g < 4 → tr g ≤ 8) (h14 : u 14 0 = nI (f + 1)) (h18 : ∀ g, g ≤ f → u 18 g = nI (tr g)) (w : Nat) (hw : w < 2) : jM_work_80 (nI f) s (nI w) (nI 4) a b c v u = some (0, if (if w = 1 then b + 1 else b) ≤ v then u else aRaise tr (f + 1) (10 + a) (10 + a) u) := by
  unfold jM_work_80
  rw [if_neg (by decide), if_neg (by decide), if_neg (by decide), if_neg (by decide), if_pos (by decide)]
  rcases (show w = 0 ∨ w = 1 by omega) with rfl | rfl
  · rw [if_neg (by decide), if_neg (by decide)]
    by_cases q : b ≤ v
    · rw [if_pos q, if_neg (show ¬ ((0 : Nat) = 1) by decide), if_pos q]
    · rw [if_neg q, M_raise htr (show f + 1 ≤ 4 by omega) h14 (fun g hg => h18 g (by omega)), if_neg (show ¬ ((0 : Nat) = 1) by decide), if_neg q]
      rfl
  · rw [if_neg (by decide), if_pos (by decide)]
    by_cases q : b + 1 ≤ v
    · rw [if_pos q, if_pos rfl, if_pos q]
    · rw [if_neg q, M_raise htr (show f + 1 ≤ 4 by omega) h14 (fun g hg => h18 g (by omega)), if_pos rfl, if_neg q]
      rfl
theorem jM_4n {u : Ug} {f : Nat} {s a b c v : Int32} : jM_work_80 (nI f) s (nI 2) (nI 4) a b c v u = some (0, u) := by
  unfold jM_work_80
  rw [if_neg (by decide), if_neg (by decide), if_neg (by decide), if_neg (by decide), if_pos (by decide), if_pos (by decide)]
theorem jM_5 {u : Ug} {f pl j : Nat} {s a b c v : Int32} (hf : f < 4) {tr : Nat → Nat} (htr : ∀ g, g < 4 → tr g ≤ 8) (h14 : u 14 0 = nI (f + 1)) (h18 : ∀ g, g ≤ f → u 18 g = nI (tr g)) (hp : u 15 f = nI pl) (hp2 : pl < 12) (hS : SgOk (u 0)) (w : Nat) (hw : w ≤ 2) (ha : (if w = 0 then a else (a + 1) - (a + 1) / 12 * 12) = nI j) (hj : j < 12) : jM_work_80 (nI f) s (nI w) (nI 5) a b c v u = some (0, if (aPay (u 0) (8 + pl / 3) j v).1 = 0 then wrA u 0 (aPay (u 0) (8 + pl / 3) j v).2 else aRaise tr (f + 1) (aPay (u 0) (8 + pl / 3) j v).1 (aPay (u 0) (8 + pl / 3) j v).1 (wrA u 0 (aPay (u 0) (8 + pl / 3) j v).2)) := by
  unfold jM_work_80
  rw [if_neg (by decide), if_neg (by decide), if_neg (by decide), if_neg (by decide), if_neg (by decide), if_pos (by decide), pu_rd hf (by omega)]
  simp only [Option.bind_some]
  have e8 : (8 : Int32) + nI pl / (3 : Int32) = nI (8 + pl / 3) := by rw [lit_8, lit_3, pu_div (by omega) (by omega) (by omega), nI_add]
  rw [hp, e8]
  have key : ∀ to : Int32, to = nI j → ((fM_pay (nI (8 + pl / 3)) to v u).bind fun q32 => if q32.1 ≤ (0 : Int32) then some ((0 : Int32), q32.2) else (fM_raise q32.1 q32.1 q32.2).bind fun q34 => some ((0 : Int32), q34.2)) = some (0, if (aPay (u 0) (8 + pl / 3) j v).1 = 0 then wrA u 0 (aPay (u 0) (8 + pl / 3) j v).2 else aRaise tr (f + 1) (aPay (u 0) (8 + pl / 3) j v).1 (aPay (u 0) (8 + pl / 3) j v).1 (wrA u 0 (aPay (u 0) (8 + pl / 3) j v).2)) := by
    intro to eto
    rw [eto, M_pay (by omega) hj hS]
    simp only [Option.bind_some]
    have hv : (aPay (u 0) (8 + pl / 3) j v).1 = 0 ∨ (aPay (u 0) (8 + pl / 3) j v).1 = 1 ∨ (aPay (u 0) (8 + pl / 3) j v).1 = 2 := aPay_th
    generalize aPay (u 0) (8 + pl / 3) j v = q at hv ⊢
    by_cases q0 : q.1 = 0
    · rw [if_pos (by rw [q0]; decide), if_pos q0]
    · rw [if_neg (by rcases hv with z | z | z; exact absurd z q0; rw [z]; decide; rw [z]; decide), if_neg q0, M_raise htr (show f + 1 ≤ 4 by omega) (by rw [wrA_n (by decide)]; exact h14) (fun g hg => by rw [wrA_n (by decide)]; exact h18 g (by omega))]
      rfl
  rcases (show w = 0 ∨ w = 1 ∨ w = 2 by omega) with rfl | rfl | rfl
  · rw [if_pos (by decide)]; exact key a ha
  · rw [if_neg (by decide)]; exact key _ ha
  · rw [if_neg (by decide)]; exact key _ ha
theorem jM_6 {u : Ug} {f : Nat} {s w a b c v : Int32} (hS : SgOk (u 0)) : jM_work_80 (nI f) s w (nI 6) a b c v u = some (0, wrA u 0 (aEv (u 0) v)) := by
  obtain ⟨e, he, h29⟩ := hS.2.1
  unfold jM_work_80 aEv
  have hcl : (nI e).toNatClampNeg = e := nI_clamp (by omega)
  rw [if_neg (by decide), if_neg (by decide), if_neg (by decide), if_neg (by decide), if_neg (by decide), if_neg (by decide), if_pos (by decide), lit_29, pu_rd (by decide) (by decide)]
  simp only [Option.bind_some]
  rw [h29, hcl]
  by_cases h4 : 40 ≤ e
  · rw [if_pos (by rw [lit_40]; exact nI_le h4 (by omega)), if_pos h4, wrA_id]
  · rw [if_neg (by rw [lit_40]; exact nI_ge (by omega) (by omega)), if_neg h4, lit_30, nI_add, pu_wr (by omega) (by omega)]
    simp only [Option.bind_some]
    rw [pu_rd (by decide) (by decide)]
    simp only [Option.bind_some]
    rw [wr_s, upd_n (by omega), h29, pu_wr (by decide) (by decide), wr_wr_A]
    rfl
theorem jM_10 {u : Ug} {f : Nat} {s w a b c v : Int32} (hf : f < 4) : jM_work_80 (nI f) s w (nI 10) a b c v u = some (0, wr u 16 f (u 0 28)) := by
  unfold jM_work_80
  rw [if_neg (by decide), if_neg (by decide), if_neg (by decide), if_neg (by decide), if_neg (by decide), if_neg (by decide), if_neg (by decide), if_neg (by decide), if_neg (by decide), if_neg (by decide), if_pos (by decide), lit_28, pu_rd (by decide) (by decide)]
  simp only [Option.bind_some]
  rw [pu_wr hf (by omega)]
  rfl
theorem div_m1 (v : Int32) : v / (-1 : Int32) = -v := by
  apply Int32.toInt_inj.mp
  have e : (-1 : Int32).toInt = -1 := by decide
  rw [Int32.toInt_div, e, Int32.toInt_neg]
  simp [Int.tdiv_neg]
theorem jM_11 {u : Ug} {f c : Nat} {s w a b v : Int32} (hf : f < 4) {tr : Nat → Nat} (htr : ∀ g, g < 4 → tr g ≤ 8) (h14 : u 14 0 = nI (f + 1)) (h18 : ∀ g, g ≤ f → u 18 g = nI (tr g)) (hc : c < 70) : jM_work_80 (nI f) s w (nI 11) a b (nI c) v u = some (0, if u 0 c = 0 then aRaise tr (f + 1) 6 6 u else wr u 16 f (v / u 0 c)) := by
  unfold jM_work_80
  rw [if_neg (by decide), if_neg (by decide), if_neg (by decide), if_neg (by decide), if_neg (by decide), if_neg (by decide), if_neg (by decide), if_neg (by decide), if_neg (by decide), if_neg (by decide), if_neg (by decide), pu_rd hc (by omega)]
  simp only [Option.bind_some]
  by_cases z : u 0 c = 0
  · rw [if_pos z, if_pos z, M_raise htr (show f + 1 ≤ 4 by omega) h14 (fun g hg => h18 g (by omega))]
    rfl
  rw [if_neg z, if_neg z]
  by_cases z1 : u 0 c = -1
  · rw [if_pos z1, pu_wr hf (by omega), z1, div_m1]
    rfl
  · rw [if_neg z1, if_neg z, pu_wr hf (by omega)]
    rfl
