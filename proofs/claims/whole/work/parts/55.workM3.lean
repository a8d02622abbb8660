/-! PURE: UNLESS, TRY, ASK in the reference. -/
theorem M_pass {u : Ug} {f pl i pos e nn t dv : Nat} (hf : f < 4) (hp : u 15 f = nI pl) (hp2 : pl < 12) (h17 : u 17 f = nI pos) (hpos : pos ≤ 8) (hnn : nn ≤ 9) (h18 : u 18 f = nI t) (ht : t ≤ 9) (he : (if t = 0 then u 2 pl else u 19 (10 * f + t - 1)) = nI e) (he2 : e ≤ 8) (hdv : dv ≤ 1) : fM_pass (nI f) (nI i) (nI dv) (nI nn) u = some (0, wr (wr u 6 pl (u 6 pl ||| aBit (i + if dv = 1 then 8 else 16))) 17 f (nI (if dv = 1 then min (pos + nn) e else pos))) := by
  unfold fM_pass
  rw [pu_rd hf (by omega)]
  simp only [Option.bind_some]
  rw [hp, pu_rd hp2 (by omega)]
  simp only [Option.bind_some]
  have e8 : nI i + (8 : Int32) = nI (i + 8) := by rw [lit_8, nI_add]
  have e16 : nI i + (16 : Int32) = nI (i + 16) := by rw [lit_16, nI_add]
  rcases (show dv = 0 ∨ dv = 1 by omega) with rfl | rfl
  · rw [if_pos (by decide), e16, pu_wr hp2 (by omega)]
    simp only [Option.bind_some]
    rw [pu_rd hf (by omega)]
    simp only [Option.bind_some]
    rw [if_pos (by decide)]
    rw [wr_n (show (17 : Nat) ≠ 6 by decide), h17, pu_wr hf (by omega)]
    first | rw [if_neg (show ¬ ((0 : Nat) = 1) by decide), if_neg (show ¬ ((0 : Nat) = 1) by decide)] | rw [if_neg not_false, if_neg not_false]
    rfl
  · rw [if_neg (by decide), e8, pu_wr hp2 (by omega)]
    simp only [Option.bind_some]
    rw [pu_rd hf (by omega)]
    simp only [Option.bind_some]
    rw [if_neg (by decide), wr_n (show (17 : Nat) ≠ 6 by decide), h17]
    have hE : ∀ x : Int32, fM_end (nI f) (wr u 6 pl x) = some (nI e, wr u 6 pl x) := fun x => by
      rw [M_end hf (t := t) (pl := pl) (by rw [wr_n (by decide)]; exact h18) ht (by rw [wr_n (by decide)]; exact hp) hp2, wr_n (show (2 : Nat) ≠ 6 by decide), wr_n (show (19 : Nat) ≠ 6 by decide), he]
    rw [hE]
    simp only [Option.bind_some]
    rw [nI_add, if_pos trivial, if_pos trivial]
    by_cases c : e ≤ pos + nn
    · rw [if_pos (nI_le c (by omega)), hE]
      simp only [Option.bind_some]
      rw [pu_wr hf (by omega), Nat.min_eq_right c]
      rfl
    · rw [if_neg (nI_ge (by omega) (by omega)), pu_wr hf (by omega), Nat.min_eq_left (by omega)]
      rfl
theorem M_unless {u : Ug} {f s pl pos e t w j : Nat} {v : Int32} (hf : f < 4) (hs : s < 96) (hw : w ≤ 2) (hv : u 16 f = v) (hp : u 15 f = nI pl) (hp2 : pl < 12) (hk : u 3 s = 7) (hj : (mutS w (u 3 s) (u 4 s) (u 5 s)).2.1 = nI j) (hj2 : j ≤ 8) (h17 : u 17 f = nI pos) (hpos : pos ≤ 8) (h18 : u 18 f = nI t) (ht : t ≤ 9) (he : (if t = 0 then u 2 pl else u 19 (10 * f + t - 1)) = nI e) (he2 : e ≤ 8) : fM_work (nI f) (nI s) (nI w) u = some (0, wr (wr u 6 pl (u 6 pl ||| aBit (s % 8 + if aPass (mutS w (u 3 s) (u 4 s) (u 5 s)).1 (mutS w (u 3 s) (u 4 s) (u 5 s)).2.2 v = true then 8 else 16))) 17 f (nI (if aPass (mutS w (u 3 s) (u 4 s) (u 5 s)).1 (mutS w (u 3 s) (u 4 s) (u 5 s)).2.2 v = true then min (pos + j) e else pos))) := by
  unfold fM_work
  rw [pu_rd hs (by omega)]
  simp only [Option.bind_some]
  rw [pu_rd hs (by omega)]
  simp only [Option.bind_some]
  rw [pu_rd hs (by omega)]
  simp only [Option.bind_some]
  rw [pu_rd hf (by omega)]
  simp only [Option.bind_some]
  rw [pu_rd hf (by omega)]
  simp only [Option.bind_some]
  rw [hp, hv]
  generalize ha : u 4 s = a at hj ⊢
  generalize hb : u 5 s = b at hj ⊢
  rw [hk] at hj ⊢
  have er : nI s - nI s / (8 : Int32) * (8 : Int32) = nI (s % 8) := by rw [lit_8]; exact pk_rem (by omega) (by omega) (by omega)
  have key : ∀ (dv : Nat) (n : Int32), dv ≤ 1 → n = nI j → ((fM_pass (nI f) (nI s - nI s / (8 : Int32) * (8 : Int32)) (nI dv) n u).bind fun q => some ((0 : Int32), q.2)) = some (0, wr (wr u 6 pl (u 6 pl ||| aBit (s % 8 + if dv = 1 then 8 else 16))) 17 f (nI (if dv = 1 then min (pos + j) e else pos))) := by
    intro dv n hdv hn
    rw [er, hn, M_pass hf hp hp2 h17 hpos (by omega) h18 ht he he2 hdv]
    rfl
  have jm : ∀ c : Int32, jM_work_80 (nI f) (nI s) (nI w) 7 a b c v u = some (0, wr (wr u 6 pl (u 6 pl ||| aBit (s % 8 + if aPass (mutS w 7 a b).1 (mutS w 7 a b).2.2 v = true then 8 else 16))) 17 f (nI (if aPass (mutS w 7 a b).1 (mutS w 7 a b).2.2 v = true then min (pos + j) e else pos))) := by
    intro c
    unfold jM_work_80
    rw [if_neg (by decide), if_neg (by decide), if_neg (by decide), if_neg (by decide), if_neg (by decide), if_neg (by decide), if_neg (by decide), if_pos rfl]
    rcases (show w = 0 ∨ w = 1 ∨ w = 2 by omega) with rfl | rfl | rfl
    · have hn : a = nI j := hj
      by_cases q : b ≤ v
      · rw [if_pos q, if_neg (by decide), if_neg (by decide)]
        have := key 0 a (by decide) hn
        rw [show aPass (mutS 0 7 a b).1 (mutS 0 7 a b).2.2 v = false by simp [aPass, mutS, q]]
        exact this
      · rw [if_neg q, if_neg (by decide), if_neg (by decide)]
        have := key 1 a (by decide) hn
        rw [show aPass (mutS 0 7 a b).1 (mutS 0 7 a b).2.2 v = true by simp [aPass, mutS, q]]
        exact this
    · have hn : a + 1 = nI j := hj
      by_cases q : b ≤ v
      · rw [if_pos q, if_neg (by decide), if_pos (by decide)]
        have := key 0 (a + 1) (by decide) hn
        rw [show aPass (mutS 1 7 a b).1 (mutS 1 7 a b).2.2 v = false by simp [aPass, mutS, q]]
        exact this
      · rw [if_neg q, if_neg (by decide), if_pos (by decide)]
        have := key 1 (a + 1) (by decide) hn
        rw [show aPass (mutS 1 7 a b).1 (mutS 1 7 a b).2.2 v = true by simp [aPass, mutS, q]]
        exact this
    · have hn : a = nI j := hj
      by_cases q : b ≤ v
      · rw [if_pos q, if_pos (by decide), if_neg (by decide)]
        have := key 1 a (by decide) hn
        rw [show aPass (mutS 2 7 a b).1 (mutS 2 7 a b).2.2 v = true by simp [aPass, mutS, q]]
        exact this
      · rw [if_neg q, if_pos (by decide), if_neg (by decide)]
        have := key 0 a (by decide) hn
        rw [show aPass (mutS 2 7 a b).1 (mutS 2 7 a b).2.2 v = false by simp [aPass, mutS, q]]
        exact this
  by_cases w0 : w = 0
  · rw [if_pos (by rw [w0]; decide)]; exact jm _
  · rw [if_neg (by rw [lit_0]; exact nI_ge (by omega) (by omega)), if_neg (by decide), if_neg (by decide), if_pos rfl]; exact jm _
theorem M_try {u : Ug} {f s pl pos e t j : Nat} (hf : f < 4) (hs : s < 96) (hp : u 15 f = nI pl) (hp2 : pl < 12) (hk : u 3 s = 9) (hj : u 4 s = nI j) (hj2 : j ≤ 8) (h17 : u 17 f = nI pos) (hpos : pos ≤ 8) (h18 : u 18 f = nI t) (ht : t ≤ 7) (he : (if t = 0 then u 2 pl else u 19 (10 * f + t - 1)) = nI e) (he2 : e ≤ 8) : fM_work (nI f) (nI s) (nI 0) u = some (0, wr (wr (wrA u 20 (va_cpy (u 0) (u 20) 0 (70 * (10 * f + 1 + t)) 70)) 19 (10 * f + t) (nI (min (pos + j) e))) 18 f (nI (t + 1))) := by
  unfold fM_work
  rw [pu_rd hs (by omega)]
  simp only [Option.bind_some]
  rw [pu_rd hs (by omega)]
  simp only [Option.bind_some]
  rw [pu_rd hs (by omega)]
  simp only [Option.bind_some]
  rw [pu_rd hf (by omega)]
  simp only [Option.bind_some]
  rw [pu_rd hf (by omega)]
  simp only [Option.bind_some]
  rw [if_pos (by decide), hk, hj]
  unfold jM_work_80
  rw [if_neg (by decide), if_neg (by decide), if_neg (by decide), if_neg (by decide), if_neg (by decide), if_neg (by decide), if_neg (by decide), if_neg (by decide), if_neg (by decide), if_pos rfl]
  have hE : fM_end (nI f) u = some (nI e, u) := by rw [M_end hf h18 (by omega) hp hp2, he]
  rw [pu_rd hf (by omega)]
  simp only [Option.bind_some]
  rw [hE]
  simp only [Option.bind_some]
  rw [h17, nI_add]
  have e10 : (10 : Int32) * nI f + (1 : Int32) + nI t = nI (10 * f + 1 + t) := by rw [lit_10, pk_mul, nI_1, nI_add]
  have e11 : (10 : Int32) * nI f + nI t = nI (10 * f + t) := by rw [lit_10, pk_mul, nI_add]
  by_cases c : e ≤ pos + j
  · rw [if_pos (nI_le c (by omega)), hE]
    simp only [Option.bind_some]
    rw [pu_rd hf (by omega)]
    simp only [Option.bind_some]
    rw [h18, e10, M_keep (by omega)]
    simp only [Option.bind_some]
    rw [pu_rd hf (by omega)]
    simp only [Option.bind_some]
    rw [wrA_n (show (18 : Nat) ≠ 20 by decide), h18, e11, pu_wr (by omega) (by omega)]
    simp only [Option.bind_some]
    rw [pu_rd hf (by omega)]
    simp only [Option.bind_some]
    rw [wr_n (show (18 : Nat) ≠ 19 by decide), wrA_n (show (18 : Nat) ≠ 20 by decide), h18, nI_1, pu_wr hf (by omega), Nat.min_eq_right c]
    rfl
  · rw [if_neg (nI_ge (by omega) (by omega)), pu_rd hf (by omega)]
    simp only [Option.bind_some]
    rw [h18, e10, M_keep (by omega)]
    simp only [Option.bind_some]
    rw [pu_rd hf (by omega)]
    simp only [Option.bind_some]
    rw [wrA_n (show (18 : Nat) ≠ 20 by decide), h18, e11, pu_wr (by omega) (by omega)]
    simp only [Option.bind_some]
    rw [pu_rd hf (by omega)]
    simp only [Option.bind_some]
    rw [wr_n (show (18 : Nat) ≠ 19 by decide), wrA_n (show (18 : Nat) ≠ 20 by decide), h18, nI_1, pu_wr hf (by omega), Nat.min_eq_left (by omega)]
    rfl
/-- ASK, in the reference -/
theorem M_ask {u : Ug} {f s face ia : Nat} {v : Int32} {tr : Nat → Nat} (hf : f < 4) (hs : s < 96) (hv : u 16 f = v) (hk : u 3 s = 8) (hj : u 4 s = nI face) (hfa : face < 4) (htr : ∀ g, g < 4 → tr g ≤ 8) (h14 : u 14 0 = nI (f + 1)) (h18 : ∀ g, g ≤ f → u 18 g = nI (tr g)) (h8 : u 8 0 = nI ia) (hia : ia ≤ 20000) (hb : u 7 face = -1 ∨ ∃ m : Nat, m < 12 ∧ u 7 face = nI m) : fM_work (nI f) (nI s) (nI 0) u = some (0,
    if u 30 face = 1 then wr u 16 f (u 31 face)
    else if u 30 face = 2 then aRaise tr (f + 1) 5 (u 31 face) u
    else if u 7 face = -1 then aRaise tr (f + 1) 5 3 u
    else if 4 ≤ f + 1 then aRaise tr (f + 1) 5 4 u
    else if 20000 ≤ ia then aRaise tr (f + 1) 7 7 u
    else wr (wr (wr (wr (wr (wrA (wr u 8 0 (nI (ia + 1))) 20 (va_cpy (u 0) (u 20) 0 (70 * (10 * (f + 1))) 70)) 15 (f + 1) (u 7 face)) 16 (f + 1) v) 17 (f + 1) 0) 18 (f + 1) 0) 14 0 (nI (f + 1 + 1))) := by
  have RS : ∀ th ca : Int32, fM_raise th ca u = some (0, aRaise tr (f + 1) th ca u) := fun th ca => M_raise htr (show f + 1 ≤ 4 by omega) h14 (fun g hg => h18 g (by omega))
  unfold fM_work
  rw [pu_rd hs (by omega)]
  simp only [Option.bind_some]
  rw [pu_rd hs (by omega)]
  simp only [Option.bind_some]
  rw [pu_rd hs (by omega)]
  simp only [Option.bind_some]
  rw [pu_rd hf (by omega)]
  simp only [Option.bind_some]
  rw [pu_rd hf (by omega)]
  simp only [Option.bind_some]
  rw [if_pos (by decide), hk, hj]
  unfold jM_work_80
  rw [if_neg (by decide), if_neg (by decide), if_neg (by decide), if_neg (by decide), if_neg (by decide), if_neg (by decide), if_neg (by decide), if_neg (by decide), if_pos rfl]
  unfold fM_ask
  rw [pu_rd hfa (by omega)]
  simp only [Option.bind_some]
  by_cases d1 : u 30 face = 1
  · rw [if_pos d1, if_pos d1, pu_rd hfa (by omega)]
    simp only [Option.bind_some]
    rw [pu_wr hf (by omega)]
    rfl
  rw [if_neg d1, if_neg d1]
  by_cases d2 : u 30 face = 2
  · rw [if_pos d2, if_pos d2, pu_rd hfa (by omega)]
    simp only [Option.bind_some]
    rw [RS]
    rfl
  rw [if_neg d2, if_neg d2, pu_rd hfa (by omega)]
  simp only [Option.bind_some]
  by_cases d3 : u 7 face = -1
  · rw [if_pos d3, d3, if_neg (by decide), RS]
    rfl
  rw [if_neg d3]
  obtain ⟨m, hm, em⟩ := hb.resolve_left d3
  rw [em, if_pos (by rw [lit_0]; exact nI_le (Nat.zero_le _) (by omega)), h14]
  by_cases d4 : 4 ≤ f + 1
  · have : f = 3 := by omega
    subst this
    rw [if_pos (by decide), if_pos (by decide), RS]
    rfl
  rw [if_neg (by rw [lit_4]; exact fun z => by have := (nI_eq (by omega) (by omega)).mp z; omega), if_neg d4, h8, litL_20000]
  by_cases d5 : 20000 ≤ ia
  · rw [if_pos ((pu_cmp0 (by omega) (by omega)).mpr (by omega)), if_pos d5, RS]
    rfl
  rw [if_neg (fun z => by have := (pu_cmp0 (by omega) (by omega)).mp z; omega), if_neg d5, pu_sl (by omega)]
  simp only [Option.bind_some]
  have e10 : (10 : Int32) * nI (f + 1) = nI (10 * (f + 1)) := by rw [lit_10, pk_mul]
  rw [wr_n (show (14 : Nat) ≠ 8 by decide), h14, e10, M_keep (by omega)]
  simp only [Option.bind_some]
  rw [wrA_n (show (7 : Nat) ≠ 20 by decide), wr_n (show (7 : Nat) ≠ 8 by decide), pu_rd hfa (by omega)]
  simp only [Option.bind_some]
  rw [wrA_n (show (16 : Nat) ≠ 20 by decide), wr_n (show (16 : Nat) ≠ 8 by decide), pu_rd hf (by omega)]
  simp only [Option.bind_some]
  rw [em, hv, M_enter (d := f + 1) (by rw [wrA_n (by decide), wr_n (by decide)]; exact h14) (by omega), wr_n (show (0 : Nat) ≠ 8 by decide), wr_n (show (20 : Nat) ≠ 8 by decide)]
  rfl
