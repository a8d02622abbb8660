/-! THE LAW FROM ITS ENTRY, over the pure law. -/
def u0C : Ug := fun r => if r = 6 then upd (upd (upd (upd (fun _ => 0) 0 (-1)) 1 (-1)) 2 (-1)) 3 (-1) else if r = 29 then fun _ => -1 else fun _ => 0
def u0M : Ug := fun r => if r = 7 then upd (upd (upd (upd (fun _ => 0) 0 (-1)) 1 (-1)) 2 (-1)) 3 (-1) else if r = 40 then upd (upd (upd (upd (fun _ => 0) 0 (-1)) 1 (-1)) 2 (-1)) 3 (-1) else fun _ => 0
theorem tw_chain : vp_updL (vp_updL (vp_updL (vp_updL (vp_updL (vp_updL (vp_updL (vp_updL (vp_updL (vp_updL (vp_updL (vp_updL (vp_updL (vp_updL (fun _ => 0) 0 25209) 1 1667329132) 2 444150998387) 3 127991945328499) 4 495874044019) 5 427070942835) 6 1667591276) 7 435778055796) 8 7566701) 9 1953066341) 10 1718579819) 11 1650549611) 12 1717658469) 13 439720963187 = tw := by
  funext j
  match j with
  | 0 => rfl
  | 1 => rfl
  | 2 => rfl
  | 3 => rfl
  | 4 => rfl
  | 5 => rfl
  | 6 => rfl
  | 7 => rfl
  | 8 => rfl
  | 9 => rfl
  | 10 => rfl
  | 11 => rfl
  | 12 => rfl
  | 13 => rfl
  | j + 14 => simp [vp_updL, tw]
theorem hf_C (K : en_K) : hfX7 K = wdC K u0C := rfl
theorem hf_M (K : en_K) : hfX8 K = wdM K u0M := by
  unfold hfX8
  rw [tw_chain]
  rfl
set_option maxHeartbeats 4000000 in
set_option maxRecDepth 100000 in
theorem whole_open {p : Program} {e : Env} {s : State} {m : MethodId} {below : List Frame} {meth : Method} {c : Code} (l : Launch) {b L : Nat} {xs : Nat → Int32} (C0 : lw_At p s m meth c b L xs) (n : Nat) (hpure : kL L xs n 0 u0C u0M = some 1) : W p l e room_1 s m #[Value.ref b] below meth c s.heap [] 0 0 (lw_Z below #[Value.ref b] s) (entryFrame m ([Value.ref b] : List Value).toArray 4) := by
  obtain ⟨hx, hb, hr, hml, hown, hts, hX, hbl, hlocks, hgv⟩ := id C0
  have hbA : ¬ (fun q : Nat => s.heap.size ≤ q) b := Nat.not_le.mpr hbl
  have hte : ∀ w ∈ en_tbl, w.before #[Value.ref b] s = true := fun w hw => hts w (List.mem_filter.mp hw).1
  obtain ⟨cX0, iX0, kX0⟩ := u_known (C := RX0) (T := TX0) (N := 6) (n := 6) hte inE_X0 (hte _ mw_32)
  obtain ⟨cX1, iX1, kX1⟩ := u_known (C := RX1) (T := TX1) (N := 3) (n := 3) hte inE_X1 (hte _ mw_57)
  obtain ⟨cX2, iX2, kX2⟩ := u_known (C := RX2) (T := TX2) (N := 9) (n := 9) hte inE_X2 (hte _ mw_73)
  obtain ⟨cX3, iX3, kX3⟩ := u_known (C := RX3) (T := TX3) (N := 7) (n := 7) hte inE_X3 (hte _ mw_169)
  obtain ⟨cX4, iX4, kX4⟩ := u_known (C := RX4) (T := TX4) (N := 11) (n := 11) hte inE_X4 (hte _ mw_129)
  obtain ⟨cX5, iX5, kX5⟩ := u_known (C := RX5) (T := TX5) (N := 5) (n := 5) hte inE_X5 (hte _ mw_107)
  obtain ⟨cX6, iX6, kX6⟩ := u_known (C := RX6) (T := TX6) (N := 1) (n := 1) hte inE_X6 (hte _ mw_21)
  obtain ⟨cX7, iX7, kX7⟩ := u_known (C := RX7) (T := TX7) (N := 7) (n := 7) hte inE_X7 (hte _ mw_13)
  obtain ⟨cX8, iX8, kX8⟩ := u_known (C := RX8) (T := TX8) (N := 44) (n := 44) hte inE_X8 (hte _ mw_698)
  obtain ⟨D, hKc⟩ : ∃ D : va_G, ∀ (k : Nat) (q : vw_C), vwCl[k]? = some q → u_Kn s q.1 q.2.1 q.2.2 (D.1 k) (D.2 k) := by
    refine ⟨(fun k => match k with | 0 => cX0 | 1 => cX1 | 2 => cX2 | 3 => cX3 | 4 => cX4 | 5 => cX5 | 6 => cX6 | 7 => cX7 | _ => cX8, fun k => match k with | 0 => iX0 | 1 => iX1 | 2 => iX2 | 3 => iX3 | 4 => iX4 | 5 => iX5 | 6 => iX6 | 7 => iX7 | _ => iX8), ?_⟩
    intro k q hq
    match k, hq with
    | 0, hq => cases hq; exact kX0
    | 1, hq => cases hq; exact kX1
    | 2, hq => cases hq; exact kX2
    | 3, hq => cases hq; exact kX3
    | 4, hq => cases hq; exact kX4
    | 5, hq => cases hq; exact kX5
    | 6, hq => cases hq; exact kX6
    | 7, hq => cases hq; exact kX7
    | 8, hq => cases hq; exact kX8
    | k + 9, hq => simp [vwCl] at hq
  obtain ⟨aI, bI, dI, eI, fI, gI⟩ := Cond.arrayClass_spec (hte _ mw_30)
  obtain ⟨aJ, bJ, dJ, eJ, fJ, gJ⟩ := Cond.arrayClass_spec (hte _ mw_850)
  obtain ⟨aZ, bZ, dZ, eZ, fZ, gZ⟩ := Cond.arrayClass_spec (hte _ mw_851)
  obtain ⟨K, hKe⟩ : ∃ K : en_K, K = (aI, aJ, aZ) := ⟨_, rfl⟩
  have hK : va_K D vwCl (en_ty K) s := by
    subst hKe
    refine ⟨hKc, fun k q h => ?_⟩
    match k, h with
    | 0, h => cases h; exact ⟨fun n z => ⟨fun k h => (by cases h), bI, fI, dI, gI⟩, eI⟩
    | 1, h => cases h; exact ⟨fun n z => ⟨fun k h => (by cases h), bJ, fJ, dJ, gJ⟩, eJ⟩
    | 2, h => cases h; exact ⟨fun n z => ⟨fun k h => (by cases h), bZ, fZ, dZ, gZ⟩, eZ⟩
    | k + 3, h => simp [en_ty] at h
  have hs := flat_of_before _ hgv
  have hA0 : ∀ a : Nat, a < s.heap.size → ¬ (fun q : Nat => s.heap.size ≤ q) a := fun a h => Nat.not_le.mpr h
  have hel : ∀ j : Nat, j < 14 → (Term.elem (.static "LedgerTests$Scripts" "WORDS" "[J") (.int (Int32.ofNat j))).eval #[Value.ref b] s none [] s = some ((fun j => Value.long (tw j)) j) := by
    intro j hj
    match j, hj with
    | 0, _ => exact va_eqtl (hs (.eq (.elem (.static "LedgerTests$Scripts" "WORDS" "[J") (.int 0)) (.long 25209)) (by decide +kernel))
    | 1, _ => exact va_eqtl (hs (.eq (.elem (.static "LedgerTests$Scripts" "WORDS" "[J") (.int 1)) (.long 1667329132)) (by decide +kernel))
    | 2, _ => exact va_eqtl (hs (.eq (.elem (.static "LedgerTests$Scripts" "WORDS" "[J") (.int 2)) (.long 444150998387)) (by decide +kernel))
    | 3, _ => exact va_eqtl (hs (.eq (.elem (.static "LedgerTests$Scripts" "WORDS" "[J") (.int 3)) (.long 127991945328499)) (by decide +kernel))
    | 4, _ => exact va_eqtl (hs (.eq (.elem (.static "LedgerTests$Scripts" "WORDS" "[J") (.int 4)) (.long 495874044019)) (by decide +kernel))
    | 5, _ => exact va_eqtl (hs (.eq (.elem (.static "LedgerTests$Scripts" "WORDS" "[J") (.int 5)) (.long 427070942835)) (by decide +kernel))
    | 6, _ => exact va_eqtl (hs (.eq (.elem (.static "LedgerTests$Scripts" "WORDS" "[J") (.int 6)) (.long 1667591276)) (by decide +kernel))
    | 7, _ => exact va_eqtl (hs (.eq (.elem (.static "LedgerTests$Scripts" "WORDS" "[J") (.int 7)) (.long 435778055796)) (by decide +kernel))
    | 8, _ => exact va_eqtl (hs (.eq (.elem (.static "LedgerTests$Scripts" "WORDS" "[J") (.int 8)) (.long 7566701)) (by decide +kernel))
    | 9, _ => exact va_eqtl (hs (.eq (.elem (.static "LedgerTests$Scripts" "WORDS" "[J") (.int 9)) (.long 1953066341)) (by decide +kernel))
    | 10, _ => exact va_eqtl (hs (.eq (.elem (.static "LedgerTests$Scripts" "WORDS" "[J") (.int 10)) (.long 1718579819)) (by decide +kernel))
    | 11, _ => exact va_eqtl (hs (.eq (.elem (.static "LedgerTests$Scripts" "WORDS" "[J") (.int 11)) (.long 1650549611)) (by decide +kernel))
    | 12, _ => exact va_eqtl (hs (.eq (.elem (.static "LedgerTests$Scripts" "WORDS" "[J") (.int 12)) (.long 1717658469)) (by decide +kernel))
    | 13, _ => exact va_eqtl (hs (.eq (.elem (.static "LedgerTests$Scripts" "WORDS" "[J") (.int 13)) (.long 439720963187)) (by decide +kernel))
    | j + 14, hj => exact absurd hj (by omega)
  obtain ⟨t, ht, hT⟩ := va_Tof (N := 14) (f := fun j => .long (tw j)) (A := fun q : Nat => s.heap.size ≤ q) (by decide) (hs (.arrayOf (.static "LedgerTests$Scripts" "WORDS" "[J") .long) (by decide +kernel)) (va_eqt (hs (.eq (.length (.static "LedgerTests$Scripts" "WORDS" "[J")) (.int 14)) (by decide +kernel))) hel hA0
  have hZ0 := va_Zof (A := fun q : Nat => s.heap.size ≤ q) (hts _ (List.mem_append_right _ (List.mem_of_getElem? (i := 424) (by decide +kernel)))) (hte _ mw_6) ht hA0
  obtain ⟨ad, had1, had2⟩ : ∃ ad : Nat → Nat, ad 1000 = t ∧ ad 2000 = b := ⟨fun k => if k = 1000 then t else b, rfl, rfl⟩
  have hZ : en_Z ad (fun q : Nat => s.heap.size ≤ q) s s.heap := by unfold en_Z; rw [had1]; exact ⟨hZ0, hT⟩
  have hNs : ∀ w ∈ en_nest, va_Nw w s := by
    intro w hw
    simp only [en_nest, List.mem_cons, List.not_mem_nil, or_false] at hw
    rcases hw with rfl | rfl | rfl
    · exact va_Nw.of rfl (hts _ (List.mem_append_right _ (List.mem_of_getElem? (i := 22) (by decide +kernel))))
    · exact va_Nw.of rfl (hts _ (List.mem_append_right _ (List.mem_of_getElem? (i := 33) (by decide +kernel))))
    · exact va_Nw.of rfl (hts _ (List.mem_append_right _ (List.mem_of_getElem? (i := 108) (by decide +kernel))))
  have C : Cx p room_1 s m #[Value.ref b] meth c cL_law 4 RL ret D (en_ty K) (fun q : Nat => s.heap.size ≤ q) ad 120 := ⟨hx, hb, hml, hown, hte, hK, fun q h => h, hlocks, hZ, by decide, by decide, hr⟩
  have hl := lv_entry ([.ref b]) (n := 4) (Nat.le_of_ble_eq_true rfl)
  rw [lg_entry_eq]
  suffices hG : G p l e room_1 s m #[Value.ref b] below meth c D (fun q : Nat => s.heap.size ≤ q) 4 ad 0 0 (lw_Z below #[Value.ref b] s) 0 [some (.ref 2000), none, none, none] [] [] by
    refine hG s.heap [] _ (fun k q h => by simp [en_ws] at h) ⟨fun i j p q h => by simp [en_ws] at h, fun k q h => by simp [en_ws] at h⟩ va_S.rf ⟨hl.1, hl.2.1, fun i v hi => ?_⟩
    match i, hi with
    | 0, hi => cases hi; show _ = some (Slot.val (.ref (ad 2000))); rw [had2]; exact hl.2.2 (0, .ref b) List.mem_cons_self
    | 1, hi => simp at hi
    | 2, hi => simp at hi
    | 3, hi => simp at hi
    | i + 4, hi => simp at hi
  refine g_new (ci := 7) (N := 7) (n := 0) (fs := [.null, .null, .null, .null, .null, .null, .null]) (ty0 := tyX7) C rfl inE_X7 tyX7_ok mw_12 mw_13 mw_1 (by decide +kernel) (fun _ => rfl) rfl (by decide) rfl rfl rfl (Nat.le_of_ble_eq_true rfl) (Nat.le_of_ble_eq_true rfl) dL_law_0 (fun ad1 he1 C => ?_)
  refine g_dup C dL_law_3 rfl ?_
  refine g_ctor (n := 0) (na := 0) (hp := []) (x := .inr (7, [.null, .null, .null, .null, .null, .null, .null])) (hf := hfX7 K) (As := []) C hNs (ctNX7) mw_14 mw_15 mw_1 mw_16 rfl (by decide +kernel) rfl (by decide) (by decide) (Nat.le_of_ble_eq_true rfl) (Nat.le_of_ble_eq_true rfl) (Nat.le_of_ble_eq_true rfl) dL_law_4 rfl rfl (Nat.le_of_ble_eq_true rfl) (Nat.le_of_ble_eq_true rfl) (by decide) rfl rfl rfl rfl (fun ad2 he2 C => ?_)
  refine g_astore_n_1 C dL_law_7 (by decide) rfl ?_
  refine g_new (ci := 8) (N := 44) (n := 26) (fs := [.null, .int 0, .null, .null, .null, .null, .null, .null, .long 0, .null, .null, .null, .null, .null, .null, .int 0, .null, .null, .null, .null, .null, .null, .int 0, .int 0, .int 0, .int 0, .int 0, .int 0, .int 0, .int 0, .int 0, .null, .null, .int 0, .int 0, .null, .null, .null, .int 0, .int 0, .int 0, .null, .null, .null]) (ty0 := tyX8) C rfl inE_X8 tyX8_ok mw_697 mw_698 mw_9 (by decide +kernel) (fun _ => rfl) rfl (by decide) rfl rfl rfl (Nat.le_of_ble_eq_true rfl) (Nat.le_of_ble_eq_true rfl) dL_law_8 (fun ad3 he3 C => ?_)
  refine g_dup C dL_law_11 rfl ?_
  refine g_ctor (n := 26) (na := 0) (hp := ([] ++ (hfX7 K).map (shE 0))) (x := .inr (8, [.null, .int 0, .null, .null, .null, .null, .null, .null, .long 0, .null, .null, .null, .null, .null, .null, .int 0, .null, .null, .null, .null, .null, .null, .int 0, .int 0, .int 0, .int 0, .int 0, .int 0, .int 0, .int 0, .int 0, .null, .null, .int 0, .int 0, .null, .null, .null, .int 0, .int 0, .int 0, .null, .null, .null])) (hf := hfX8 K) (As := []) C hNs (ctNX8) mw_699 mw_700 mw_9 mw_701 rfl (by decide +kernel) rfl (by decide) (by decide) (Nat.le_of_ble_eq_true rfl) (Nat.le_of_ble_eq_true rfl) (Nat.le_of_ble_eq_true rfl) dL_law_12 rfl rfl (Nat.le_of_ble_eq_true rfl) (Nat.le_of_ble_eq_true rfl) (by decide) rfl rfl rfl rfl (fun ad4 he4 C => ?_)
  refine g_astore_n_2 C dL_law_15 (by decide) rfl ?_
  refine g_iconst (v := (0 : Int32)) C dL_law_16 (by decide) ?_
  refine g_istore_n_3 C dL_law_17 (by decide) rfl ?_
  have hb4 : ad4 2000 = b := (he4 2000 (Or.inr (show 26 + 28 ≤ 2000 by decide))).trans ((he3 2000 (by decide)).trans ((he2 2000 (Or.inr (show 0 + 26 ≤ 2000 by decide))).trans ((he1 2000 (by decide)).trans had2)))
  have e9 : ([] ++ (hfX7 K).map (shE 0)) ++ (hfX8 K).map (shE 26) = hL K u0C u0M := by rw [hf_C, hf_M]; rfl
  rw [e9]
  exact law_loop hx hb hr hlocks (by decide) (by decide) (by rw [hb4]; exact hX) (by rw [hb4]; exact hbl) (by rw [hb4]; exact hbA) C n 0 u0C u0M hpure
