theorem cv_no {n : Nat} {v r : Int32} (w : hv_P n v r) (b : r = 0) : ¬ ∃ j, j < n ∧ v = nI j := by
  rcases w with ⟨h, -⟩ | ⟨-, h⟩
  · rw [h] at b; exact absurd b (by decide)
  · exact h
theorem cv_yes {n : Nat} {v r : Int32} (w : hv_P n v r) (b : ¬ r = 0) : ∃ j, j < n ∧ v = nI j := by
  rcases w with ⟨-, h⟩ | ⟨h, -⟩
  · exact h
  · exact absurd h b
theorem cc_no {G : gr_T} {r : Int32} (w : (r = 1 ∧ 0 < gr_n G ∧ ∀ v, v < gr_n G → gr_adj G v ≠ []) ∨ (r = 0 ∧ ¬ (0 < gr_n G ∧ ∀ v, v < gr_n G → gr_adj G v ≠ []))) (b : r = 0) : ¬ gr_cpl G := by
  rcases w with ⟨h, -⟩ | ⟨-, h⟩
  · rw [h] at b; exact absurd b (by decide)
  · exact h
theorem cc_yes {G : gr_T} {r : Int32} (w : (r = 1 ∧ 0 < gr_n G ∧ ∀ v, v < gr_n G → gr_adj G v ≠ []) ∨ (r = 0 ∧ ¬ (0 < gr_n G ∧ ∀ v, v < gr_n G → gr_adj G v ≠ []))) (b : ¬ r = 0) : gr_cpl G := by
  rcases w with ⟨-, h⟩ | ⟨h, -⟩
  · exact h
  · exact absurd h b
/-! ===== CreditGame: checks ===== -/
set_option maxHeartbeats 4000000 in
set_option maxRecDepth 100000 in
/--  -/
theorem ct_checkPlayer (l : Launch) (hlt : l.stackTraces = false) (en : en_T) (ad : Nat → Nat) (c : Nat → Nat → Int32) (hI : xw_I ad) (sz : Nat) (x : Int32) : vx_Met l yX4_checkPlayer wsX4_checkPlayer (rm_ 8 1 6) (tc_Pc en ad sz [.ref (ad 0), .int x] (fun H => va_P en.1 vwCl (xw en ad c) H)) (ro_Qv (x = 0 ∨ x = 1)) (tx_X en ad c sz (fun E => E = eA ∧ ¬ (x = 0 ∨ x = 1))) 1 6 (xw_A ad sz) := by
  refine vx_ofW (cc := cX4_checkPlayer) (maxL := 2) (ret := none) (by decide) rfl ?_
  intro p e s m args below meth co s₁ B hml hnx hv
  obtain ⟨rfl, hE, ⟨hsz, hT⟩, hP⟩ := hv
  subst hsz
  have hx := B.exec
  have hb := B.bytes
  have hr := B.returns
  have hts := atoms_spec (ws := wsX4_checkPlayer) B.pre
  have hown : s.vm.findClass RX4 = some m.cls := findClass_of_methodNamed B.named
  have hlocks := B.notSynchronized
  have hS : va_S (xw_A ad s.heap.size) s.heap s.heap [] := va_S.rf
  have hl := lv_entry ([.ref (ad 0), .int x]) (n := 2) (Nat.le_of_ble_eq_true rfl)
  rw [lg_entry_eq]
  generalize (lg_sl ([.ref (ad 0), .int x]) ++ List.replicate (2 - (lg_sl ([.ref (ad 0), .int x])).length) Slot.unset).toArray = ls at hl ⊢
  have hl : lv_has ls 2 [(0, .ref (ad 0)), (1, .int x)] := hl
  refine lv_iload_n hx hb dX4_checkPlayer_0 rfl (lv_at hl 1 rfl) ?_
  refine lv_if_eq (tgt := 19) hx hb dX4_checkPlayer_1 (by decide) (fun b1 => ?_) (fun b1 => ?_)
  · skip
    refine W.widen (k := 1) (n := 6) (Nat.le_of_ble_eq_true rfl) (Nat.le_of_ble_eq_true rfl) (vx_ret ?_)
    exact W.vret hx hb hr (fun t ht hW => ⟨rfl, (by first | exact Or.inl b1 | exact Or.inr b6), ht⟩) hS.2.2 dX4_checkPlayer_19
  · skip
    refine lv_iload_n hx hb dX4_checkPlayer_4 rfl (lv_at hl 1 rfl) ?_
    refine lv_iconst (v := 1) hx hb dX4_checkPlayer_5 (by decide) ?_
    refine lv_icmp_eq (tgt := 19) hx hb dX4_checkPlayer_6 (by decide) (fun b6 => ?_) (fun b6 => ?_)
    · skip
      refine W.widen (k := 1) (n := 6) (Nat.le_of_ble_eq_true rfl) (Nat.le_of_ble_eq_true rfl) (vx_ret ?_)
      exact W.vret hx hb hr (fun t ht hW => ⟨rfl, (by first | exact Or.inl b1 | exact Or.inr b6), ht⟩) hS.2.2 dX4_checkPlayer_19
    · skip
      obtain ⟨sa, hsa⟩ := hT.2.1 (142, "player is not 0 or 1") (by decide)
      exact vx_throwS hx hb hlt (own := RX4) (cls := eA) (text := "player is not 0 or 1") (names := eNs) (ik := 70) (is := 142) (ic := 74) (A := xw_A ad s.heap.size) hown (by decide) (by decide) (hts (.classLink RX4 70 eA) (by decide +kernel)) (hts (.initialized eA) (by decide +kernel)) hsa (tx_hatA (fun w h => hts w (List.mem_cons_of_mem _ (List.mem_append_right _ h))) hT) tx_gA hT.2.2.1 hT.2.2.2 hS (hl.1.trans hml.symm) dX4_checkPlayer_9 dX4_checkPlayer_12 dX4_checkPlayer_13 dX4_checkPlayer_15 dX4_checkPlayer_18 (fun x hx9 => (hnx x hx9).elim) (Nat.le_of_ble_eq_true rfl) (Nat.le_of_ble_eq_true rfl) (Nat.le_of_ble_eq_true rfl) (Nat.le_of_ble_eq_true rfl) hlocks (tx_thrown hP hS ⟨rfl, fun q => q.elim b1 b6⟩) hS.2.2 (Nat.le_of_ble_eq_true rfl) (Nat.le_of_ble_eq_true rfl)
theorem iw_X4_checkVertex_X4 : ∀ w ∈ wsX40, w ∈ wsX4_checkVertex := by decide +kernel
set_option maxHeartbeats 4000000 in
set_option maxRecDepth 100000 in
/--  -/
theorem ct_checkVertex (l : Launch) (hlt : l.stackTraces = false) (en : en_T) (ad : Nat → Nat) (c : Nat → Nat → Int32) (hI : xw_I ad) (sz : Nat) {G : gr_T} (hg : gi G c) (v : Int32) : vx_Met l yX4_checkVertex wsX4_checkVertex (rm_ 8 1 6) (tc_Pc en ad sz [.ref (ad 0), .int v] (fun H => va_P en.1 vwCl (xw en ad c) H)) (ro_Qv (∃ j, j < gr_n G ∧ v = nI j)) (tx_X en ad c sz (fun E => E = eA ∧ ¬ ∃ j, j < gr_n G ∧ v = nI j)) 1 6 (xw_A ad sz) := by
  refine vx_ofW (cc := cX4_checkVertex) (maxL := 2) (ret := none) (by decide) rfl ?_
  intro p e s m args below meth co s₁ B hml hnx hv
  obtain ⟨rfl, hE, ⟨hsz, hT⟩, hP⟩ := hv
  subst hsz
  have hx := B.exec
  have hb := B.bytes
  have hr := B.returns
  have hts := atoms_spec (ws := wsX4_checkVertex) B.pre
  have hown : s.vm.findClass RX4 = some m.cls := findClass_of_methodNamed B.named
  have hlocks := B.notSynchronized
  have hS : va_S (xw_A ad s.heap.size) s.heap s.heap [] := va_S.rf
  have hl := lv_entry ([.ref (ad 0), .int v]) (n := 2) (Nat.le_of_ble_eq_true rfl)
  rw [lg_entry_eq]
  generalize (lg_sl ([.ref (ad 0), .int v]) ++ List.replicate (2 - (lg_sl ([.ref (ad 0), .int v])).length) Slot.unset).toArray = ls at hl ⊢
  have hl : lv_has ls 2 [(0, .ref (ad 0)), (1, .int v)] := hl
  refine lv_aload_n hx hb dX4_checkVertex_0 rfl (lv_at hl 0 rfl) ?_
  refine va_get (D := en.1) (ci := 4) (v := .ref (ad 1)) (C := RX4) (T := TX4) (N := 5) hx hb hts iw_X4_checkVertex_X4 hown hE.1 hP 0 rfl rfl 0 (by decide) (hts (.fieldLink RX4 10 "CreditGame" "graph" "LCreditGame$Graph;") (by decide +kernel)) (fun _ h9 => h9) rfl dX4_checkVertex_1 ?_
  refine lv_iload_n hx hb dX4_checkVertex_4 rfl (lv_at hl 1 rfl) ?_
  refine ro_calli (va_runVN (As := [.int v]) (rest := []) ⟨hx, hb, hml, hown, hts⟩ (ct_hasVertex l en ad c hg v) ⟨va_cnB 1 hts gX4_checkVertex_X1_hasVertex_n144 rfl rfl rfl (hE.2 _ (List.mem_of_getElem? (i := 7) rfl)) (hts (.initialized RX1) (by decide +kernel)) (by decide +kernel) ⟨Nat.le_of_ble_eq_true rfl, Nat.le_of_ble_eq_true rfl⟩, hts (.instanceMethod yX1_hasVertex) (by decide +kernel), hts (.selects RX1 yX1_hasVertex yX1_hasVertex) (by decide +kernel)⟩ (ct_preV hE (va_recv hE.1 hP (ci := 1) (q0 := 1) rfl rfl) hP) rfl rfl hl.1 rfl (lv_room (Nat.le_of_ble_eq_true rfl)) dX4_checkVertex_5 ⟨Nat.le_of_ble_eq_true rfl, Nat.le_of_ble_eq_true rfl⟩) (fun r5 w5 => ?_)
  refine lv_if_ne (tgt := 21) hx hb dX4_checkVertex_8 (by decide) (fun b8 => ?_) (fun b8 => ?_)
  · skip
    refine W.widen (k := 1) (n := 6) (Nat.le_of_ble_eq_true rfl) (Nat.le_of_ble_eq_true rfl) (vx_ret ?_)
    exact W.vret hx hb hr (fun t ht hW => ⟨rfl, (cv_yes w5 b8), ht⟩) hS.2.2 dX4_checkVertex_21
  · skip
    obtain ⟨sa, hsa⟩ := hT.2.1 (148, "no such vertex") (by decide)
    exact vx_throwS hx hb hlt (own := RX4) (cls := eA) (text := "no such vertex") (names := eNs) (ik := 70) (is := 148) (ic := 74) (A := xw_A ad s.heap.size) hown (by decide) (by decide) (hts (.classLink RX4 70 eA) (by decide +kernel)) (hts (.initialized eA) (by decide +kernel)) hsa (tx_hatA (fun w h => hts w (List.mem_cons_of_mem _ (List.mem_append_right _ h))) hT) tx_gA hT.2.2.1 hT.2.2.2 hS (hl.1.trans hml.symm) dX4_checkVertex_11 dX4_checkVertex_14 dX4_checkVertex_15 dX4_checkVertex_17 dX4_checkVertex_20 (fun x hx9 => (hnx x hx9).elim) (Nat.le_of_ble_eq_true rfl) (Nat.le_of_ble_eq_true rfl) (Nat.le_of_ble_eq_true rfl) (Nat.le_of_ble_eq_true rfl) hlocks (tx_thrown hP hS ⟨rfl, cv_no w5 b8⟩) hS.2.2 (Nat.le_of_ble_eq_true rfl) (Nat.le_of_ble_eq_true rfl)
theorem iw_X4_checkComplete_X4 : ∀ w ∈ wsX40, w ∈ wsX4_checkComplete := by decide +kernel
set_option maxHeartbeats 4000000 in
set_option maxRecDepth 100000 in
/--  -/
theorem ct_checkComplete (l : Launch) (hlt : l.stackTraces = false) (en : en_T) (ad : Nat → Nat) (c : Nat → Nat → Int32) (hI : xw_I ad) (sz : Nat) {G : gr_T} (hg : gi G c) : vx_Met l yX4_checkComplete wsX4_checkComplete (rm_ 8 1 6) (tc_Pc en ad sz [.ref (ad 0)] (fun H => va_P en.1 vwCl (xw en ad c) H)) (ro_Qv (gr_cpl G)) (tx_X en ad c sz (fun E => E = eS ∧ ¬ gr_cpl G)) 1 6 (xw_A ad sz) := by
  refine vx_ofW (cc := cX4_checkComplete) (maxL := 1) (ret := none) (by decide) rfl ?_
  intro p e s m args below meth co s₁ B hml hnx hv
  obtain ⟨rfl, hE, ⟨hsz, hT⟩, hP⟩ := hv
  subst hsz
  have hx := B.exec
  have hb := B.bytes
  have hr := B.returns
  have hts := atoms_spec (ws := wsX4_checkComplete) B.pre
  have hown : s.vm.findClass RX4 = some m.cls := findClass_of_methodNamed B.named
  have hlocks := B.notSynchronized
  have hS : va_S (xw_A ad s.heap.size) s.heap s.heap [] := va_S.rf
  have hl := lv_entry ([.ref (ad 0)]) (n := 1) (Nat.le_of_ble_eq_true rfl)
  rw [lg_entry_eq]
  generalize (lg_sl ([.ref (ad 0)]) ++ List.replicate (1 - (lg_sl ([.ref (ad 0)])).length) Slot.unset).toArray = ls at hl ⊢
  have hl : lv_has ls 1 [(0, .ref (ad 0))] := hl
  refine lv_aload_n hx hb dX4_checkComplete_0 rfl (lv_at hl 0 rfl) ?_
  refine va_get (D := en.1) (ci := 4) (v := .ref (ad 1)) (C := RX4) (T := TX4) (N := 5) hx hb hts iw_X4_checkComplete_X4 hown hE.1 hP 0 rfl rfl 0 (by decide) (hts (.fieldLink RX4 10 "CreditGame" "graph" "LCreditGame$Graph;") (by decide +kernel)) (fun _ h9 => h9) rfl dX4_checkComplete_1 ?_
  refine ro_calli (va_runVN (As := []) (rest := []) ⟨hx, hb, hml, hown, hts⟩ (ct_isComplete l en ad c hg) ⟨va_cnB 0 hts gX4_checkComplete_X1_isComplete_n150 rfl rfl rfl (hE.2 _ (List.mem_of_getElem? (i := 8) rfl)) (hts (.initialized RX1) (by decide +kernel)) (by decide +kernel) ⟨Nat.le_of_ble_eq_true rfl, Nat.le_of_ble_eq_true rfl⟩, hts (.instanceMethod yX1_isComplete) (by decide +kernel), hts (.selects RX1 yX1_isComplete yX1_isComplete) (by decide +kernel)⟩ (ct_preV hE (va_recv hE.1 hP (ci := 1) (q0 := 1) rfl rfl) hP) rfl rfl hl.1 rfl (lv_room (Nat.le_of_ble_eq_true rfl)) dX4_checkComplete_4 ⟨Nat.le_of_ble_eq_true rfl, Nat.le_of_ble_eq_true rfl⟩) (fun r4 w4 => ?_)
  refine lv_if_ne (tgt := 20) hx hb dX4_checkComplete_7 (by decide) (fun b7 => ?_) (fun b7 => ?_)
  · skip
    refine W.widen (k := 1) (n := 6) (Nat.le_of_ble_eq_true rfl) (Nat.le_of_ble_eq_true rfl) (vx_ret ?_)
    exact W.vret hx hb hr (fun t ht hW => ⟨rfl, (cc_yes w4 b7), ht⟩) hS.2.2 dX4_checkComplete_20
  · skip
    obtain ⟨sa, hsa⟩ := hT.2.1 (154, "the game is not complete") (by decide)
    exact vx_throwS hx hb hlt (own := RX4) (cls := eS) (text := "the game is not complete") (names := eNs) (ik := 53) (is := 154) (ic := 57) (A := xw_A ad s.heap.size) hown (by decide) (by decide) (hts (.classLink RX4 53 eS) (by decide +kernel)) (hts (.initialized eS) (by decide +kernel)) hsa (tx_hatS (fun w h => hts w (List.mem_cons_of_mem _ (List.mem_append_right _ h))) hT) tx_gS hT.2.2.1 hT.2.2.2 hS (hl.1.trans hml.symm) dX4_checkComplete_10 dX4_checkComplete_13 dX4_checkComplete_14 dX4_checkComplete_16 dX4_checkComplete_19 (fun x hx9 => (hnx x hx9).elim) (Nat.le_of_ble_eq_true rfl) (Nat.le_of_ble_eq_true rfl) (Nat.le_of_ble_eq_true rfl) (Nat.le_of_ble_eq_true rfl) hlocks (tx_thrown hP hS ⟨rfl, cc_no w4 b7⟩) hS.2.2 (Nat.le_of_ble_eq_true rfl) (Nat.le_of_ble_eq_true rfl)
