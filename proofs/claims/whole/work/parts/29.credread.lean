/-! ===== CreditGame$Credits: what only reads ===== -/
theorem iw_X0_needOf_X0 : ∀ w ∈ wsX00, w ∈ wsX0_needOf := by decide +kernel
set_option maxHeartbeats 4000000 in
set_option maxRecDepth 100000 in
/--  -/
theorem ct_needOf (l : Launch) (en : en_T) (ad : Nat → Nat) (c : Nat → Nat → Int32) (x : Nat) (hx2 : x < 7) : Met l yX0_needOf wsX0_needOf (rm_ 1 0 0) (ct_Pc en [.ref (ad 3), .int (nI x)] (fun H => va_P en.1 vwCl (xw en ad c) H)) (ro_Qi (fun r => r = c 14 x)) 0 0 (fun _ => False) := by
  refine Met.ofW (cc := cX0_needOf) (maxL := 2) (ret := (some .int)) (by decide) rfl ?_
  intro p e s m args below meth co s₁ B hml hv
  obtain ⟨rfl, hE, hP⟩ := hv
  have hx := B.exec
  have hb := B.bytes
  have hr := B.returns
  have hts := atoms_spec (ws := wsX0_needOf) B.pre
  have hown : s.vm.findClass RX0 = some m.cls := findClass_of_methodNamed B.named
  have hlocks := B.notSynchronized
  have hl := lv_entry ([.ref (ad 3), .int (nI x)]) (n := 2) (Nat.le_of_ble_eq_true rfl)
  rw [lg_entry_eq]
  generalize (lg_sl ([.ref (ad 3), .int (nI x)]) ++ List.replicate (2 - (lg_sl ([.ref (ad 3), .int (nI x)])).length) Slot.unset).toArray = ls at hl ⊢
  have hl : lv_has ls 2 [(0, .ref (ad 3)), (1, .int (nI x))] := hl
  refine lv_iload_n hx hb dX0_needOf_0 rfl (lv_at hl 1 rfl) ?_
  refine lv_if_lt (tgt := 19) hx hb dX0_needOf_1 (by decide) (fun b1 => absurd b1 (nI_pos (by omega))) (fun b1 => ?_)
  refine lv_iload_n hx hb dX0_needOf_4 rfl (lv_at hl 1 rfl) ?_
  refine lv_bipush (v := (nI 7)) hx hb dX0_needOf_5 (by decide) ?_
  refine lv_icmp_ge (tgt := 19) hx hb dX0_needOf_7 (by decide) (fun b7 => absurd b7 (nI_ge (show x < 7 by omega) (by omega))) (fun b7 => ?_)
  refine lv_aload_n hx hb dX0_needOf_10 rfl (lv_at hl 0 rfl) ?_
  refine va_get (D := en.1) (ci := 0) (v := .ref (ad 14)) (C := RX0) (T := TX0) (N := 4) hx hb hts iw_X0_needOf_X0 hown hE.1 hP 3 rfl rfl 2 (by decide) (hts (.fieldLink RX0 9 "CreditGame$Credits" "need" "[I") (by decide +kernel)) (fun _ h9 => h9) rfl dX0_needOf_11 ?_
  refine lv_iload_n hx hb dX0_needOf_14 rfl (lv_at hl 1 rfl) ?_
  refine xr_ild hx hb hE hP 14 (by decide) x rfl (show _ < 7 by omega) dX0_needOf_15 ?_
  refine lv_goto (tgt := 20) hx hb dX0_needOf_16 (by decide) ?_
  exact W.iret (v := (c 14 x)) hx hb hr (fun t ht hW => ⟨_, rfl, rfl, ht⟩) (fun q h => by cases h) dX0_needOf_20
theorem iw_X0_gainOf_X0 : ∀ w ∈ wsX00, w ∈ wsX0_gainOf := by decide +kernel
set_option maxHeartbeats 4000000 in
set_option maxRecDepth 100000 in
/--  -/
theorem ct_gainOf (l : Launch) (en : en_T) (ad : Nat → Nat) (c : Nat → Nat → Int32) (x : Nat) (hx2 : x < 24) : Met l yX0_gainOf wsX0_gainOf (rm_ 1 0 0) (ct_Pc en [.ref (ad 3), .int (nI x)] (fun H => va_P en.1 vwCl (xw en ad c) H)) (ro_Qi (fun r => r = c 15 x)) 0 0 (fun _ => False) := by
  refine Met.ofW (cc := cX0_gainOf) (maxL := 2) (ret := (some .int)) (by decide) rfl ?_
  intro p e s m args below meth co s₁ B hml hv
  obtain ⟨rfl, hE, hP⟩ := hv
  have hx := B.exec
  have hb := B.bytes
  have hr := B.returns
  have hts := atoms_spec (ws := wsX0_gainOf) B.pre
  have hown : s.vm.findClass RX0 = some m.cls := findClass_of_methodNamed B.named
  have hlocks := B.notSynchronized
  have hl := lv_entry ([.ref (ad 3), .int (nI x)]) (n := 2) (Nat.le_of_ble_eq_true rfl)
  rw [lg_entry_eq]
  generalize (lg_sl ([.ref (ad 3), .int (nI x)]) ++ List.replicate (2 - (lg_sl ([.ref (ad 3), .int (nI x)])).length) Slot.unset).toArray = ls at hl ⊢
  have hl : lv_has ls 2 [(0, .ref (ad 3)), (1, .int (nI x))] := hl
  refine lv_iload_n hx hb dX0_gainOf_0 rfl (lv_at hl 1 rfl) ?_
  refine lv_if_lt (tgt := 19) hx hb dX0_gainOf_1 (by decide) (fun b1 => absurd b1 (nI_pos (by omega))) (fun b1 => ?_)
  refine lv_iload_n hx hb dX0_gainOf_4 rfl (lv_at hl 1 rfl) ?_
  refine lv_bipush (v := (nI 24)) hx hb dX0_gainOf_5 (by decide) ?_
  refine lv_icmp_ge (tgt := 19) hx hb dX0_gainOf_7 (by decide) (fun b7 => absurd b7 (nI_ge (show x < 24 by omega) (by omega))) (fun b7 => ?_)
  refine lv_aload_n hx hb dX0_gainOf_10 rfl (lv_at hl 0 rfl) ?_
  refine va_get (D := en.1) (ci := 0) (v := .ref (ad 15)) (C := RX0) (T := TX0) (N := 4) hx hb hts iw_X0_gainOf_X0 hown hE.1 hP 3 rfl rfl 3 (by decide) (hts (.fieldLink RX0 15 "CreditGame$Credits" "gain" "[I") (by decide +kernel)) (fun _ h9 => h9) rfl dX0_gainOf_11 ?_
  refine lv_iload_n hx hb dX0_gainOf_14 rfl (lv_at hl 1 rfl) ?_
  refine xr_ild hx hb hE hP 15 (by decide) x rfl (show _ < 24 by omega) dX0_gainOf_15 ?_
  refine lv_goto (tgt := 20) hx hb dX0_gainOf_16 (by decide) ?_
  exact W.iret (v := (c 15 x)) hx hb hr (fun t ht hW => ⟨_, rfl, rfl, ht⟩) (fun q h => by cases h) dX0_gainOf_20
theorem iw_X0_needBefore_X0 : ∀ w ∈ wsX00, w ∈ wsX0_needBefore := by decide +kernel
set_option maxHeartbeats 4000000 in
set_option maxRecDepth 100000 in
/--  -/
theorem ct_needBefore (l : Launch) (en : en_T) (ad : Nat → Nat) (c : Nat → Nat → Int32) {G : gr_T} (hg : gi G c) (x : Nat) (hxE : x < gr_E G) (hf1 : ∀ u, u < 7 → -1 ≤ (c 14 u).toInt ∧ (c 14 u).toInt ≤ 100000) (hg1 : -100000 ≤ (c 15 x).toInt ∧ (c 15 x).toInt ≤ 100000) : Met l yX0_needBefore wsX0_needBefore (rm_ 3 0 0) (ct_Pc en [.ref (ad 3), .int (nI x)] (fun H => va_P en.1 vwCl (xw en ad c) H)) (ro_Qi (fun r => r.toInt = if (c 14 (gr_tgt G x)).toInt = -1 then -1 else max 0 ((c 14 (gr_tgt G x)).toInt - (c 15 x).toInt))) 0 0 (fun _ => False) := by
  refine Met.ofW (cc := cX0_needBefore) (maxL := 3) (ret := (some .int)) (by decide) rfl ?_
  intro p e s m args below meth co s₁ B hml hv
  obtain ⟨rfl, hE, hP⟩ := hv
  have hx := B.exec
  have hb := B.bytes
  have hr := B.returns
  have hts := atoms_spec (ws := wsX0_needBefore) B.pre
  have hown : s.vm.findClass RX0 = some m.cls := findClass_of_methodNamed B.named
  have hlocks := B.notSynchronized
  have hl := lv_entry ([.ref (ad 3), .int (nI x)]) (n := 3) (Nat.le_of_ble_eq_true rfl)
  rw [lg_entry_eq]
  generalize (lg_sl ([.ref (ad 3), .int (nI x)]) ++ List.replicate (3 - (lg_sl ([.ref (ad 3), .int (nI x)])).length) Slot.unset).toArray = ls at hl ⊢
  have hl : lv_has ls 3 [(0, .ref (ad 3)), (1, .int (nI x))] := hl
  have htl := (gr_tgt_lt hg.ok hxE).1
  have hn7 := hg.n7
  have hft := hf1 (gr_tgt G x) (by omega)
  refine lv_aload_n hx hb dX0_needBefore_0 rfl (lv_at hl 0 rfl) ?_
  refine lv_aload_n hx hb dX0_needBefore_1 rfl (lv_at hl 0 rfl) ?_
  refine va_get (D := en.1) (ci := 0) (v := .ref (ad 1)) (C := RX0) (T := TX0) (N := 4) hx hb hts iw_X0_needBefore_X0 hown hE.1 hP 3 rfl rfl 0 (by decide) (hts (.fieldLink RX0 18 "CreditGame$Credits" "graph" "LCreditGame$Graph;") (by decide +kernel)) (fun _ h9 => h9) rfl dX0_needBefore_2 ?_
  refine lv_iload_n hx hb dX0_needBefore_5 rfl (lv_at hl 1 rfl) ?_
  refine ro_calli (va_runVN (As := [.int (nI x)]) (rest := [.ref (ad 3)]) ⟨hx, hb, hml, hown, hts⟩ (ct_targetOf l en ad c hg x (by have := hg.e24; omega)) ⟨va_cnB 1 hts gX0_needBefore_X1_targetOf_n59 rfl rfl rfl (hE.2 _ (List.mem_of_getElem? (i := 35) rfl)) (hts (.initialized RX1) (by decide +kernel)) (by decide +kernel) ⟨Nat.le_of_ble_eq_true rfl, Nat.le_of_ble_eq_true rfl⟩, hts (.instanceMethod yX1_targetOf) (by decide +kernel), hts (.selects RX1 yX1_targetOf yX1_targetOf) (by decide +kernel)⟩ (ct_preV hE (va_recv hE.1 hP (ci := 1) (q0 := 1) rfl rfl) hP) rfl rfl hl.1 rfl (lv_room (Nat.le_of_ble_eq_true rfl)) dX0_needBefore_6 ⟨Nat.le_of_ble_eq_true rfl, Nat.le_of_ble_eq_true rfl⟩) (fun r6 w6 => ?_)
  obtain rfl : r6 = (nI (gr_tgt G x)) := (w6.trans (gr_tgt_lt hg.ok hxE).2)
  refine ro_calli (va_runV (As := [.int (nI (gr_tgt G x))]) (rest := []) ⟨hx, hb, hml, hown, hts⟩ (ct_needOf l en ad c (gr_tgt G x) (by omega)) (cwV 1 hts gX0_needBefore_X0_needOf rfl rfl rfl (by decide +kernel) ⟨Nat.le_of_ble_eq_true rfl, Nat.le_of_ble_eq_true rfl⟩) (ct_preV hE (va_recv hE.1 hP (ci := 0) (q0 := 3) rfl rfl) hP) rfl rfl hl.1 rfl (lv_room (Nat.le_of_ble_eq_true rfl)) dX0_needBefore_9 ⟨Nat.le_of_ble_eq_true rfl, Nat.le_of_ble_eq_true rfl⟩) (fun r9 w9 => ?_)
  obtain rfl : r9 = (c 14 (gr_tgt G x)) := w9
  refine lv_istore_n (lv' := [(2, .int (c 14 (gr_tgt G x))), (0, .ref (ad 3)), (1, .int (nI x))]) hx hb dX0_needBefore_12 rfl hl (by decide) rfl (fun ls hl => ?_)
  refine lv_iload_n hx hb dX0_needBefore_13 rfl (lv_at hl 0 rfl) ?_
  refine lv_iconst (v := (-1)) hx hb dX0_needBefore_14 (by decide) ?_
  refine lv_icmp_ne (tgt := 22) hx hb dX0_needBefore_15 (by decide) (fun b15 => ?_) (fun b15 => ?_)
  · skip
    have q15 : ¬ (c 14 (gr_tgt G x)).toInt = -1 := fun q => b15 (i_eq (by rw [q]; decide))
    refine lv_iconst (v := 0) hx hb dX0_needBefore_22 (by decide) ?_
    refine lv_iload_n hx hb dX0_needBefore_23 rfl (lv_at hl 0 rfl) ?_
    refine lv_aload_n hx hb dX0_needBefore_24 rfl (lv_at hl 1 rfl) ?_
    refine lv_iload_n hx hb dX0_needBefore_25 rfl (lv_at hl 2 rfl) ?_
    refine ro_calli (va_runV (As := [.int (nI x)]) (rest := [.int (c 14 (gr_tgt G x)), .int 0]) ⟨hx, hb, hml, hown, hts⟩ (ct_gainOf l en ad c x (by have := hg.e24; omega)) (cwV 1 hts gX0_needBefore_X0_gainOf rfl rfl rfl (by decide +kernel) ⟨Nat.le_of_ble_eq_true rfl, Nat.le_of_ble_eq_true rfl⟩) (ct_preV hE (va_recv hE.1 hP (ci := 0) (q0 := 3) rfl rfl) hP) rfl rfl hl.1 rfl (lv_room (Nat.le_of_ble_eq_true rfl)) dX0_needBefore_26 ⟨Nat.le_of_ble_eq_true rfl, Nat.le_of_ble_eq_true rfl⟩) (fun r26 w26 => ?_)
    obtain rfl : r26 = (c 15 x) := w26
    refine lv_isub hx hb dX0_needBefore_29 ?_
    refine lv_topi (fun y1 hy1 => ?_)
    have hy1i : y1.toInt = (c 14 (gr_tgt G x)).toInt - (c 15 x).toInt := by rw [hy1, i_sub (by omega) (by omega)]
    refine va_mmax hx hb (hml.trans hl.1.symm) (own := RX0) hown (hts (.methodLink RX0 68 Lib.Math.max.name) (by decide +kernel)) (hts (.static Lib.Math.max.name) (by decide +kernel)) (hts (.initialized "java/lang/Math") (by decide +kernel)) (hts (.code Lib.Math.max.name Lib.Math.max.code 2 (some .int)) (by decide +kernel)) (Nat.le_of_ble_eq_true rfl) (Nat.le_of_ble_eq_true rfl) (Nat.le_of_ble_eq_true rfl) (Nat.le_of_ble_eq_true rfl) dX0_needBefore_30 ?_
    exact W.iret (v := (if 0 < y1 then y1 else 0)) hx hb hr (fun t ht hW => ⟨_, rfl, (by first | (rw [if_pos q15]; decide) | (rw [if_neg q15]; show (if 0 < y1 then y1 else (0 : Int32)).toInt = _; rw [i_max, hy1i, i_0])), ht⟩) (fun q h => by cases h) dX0_needBefore_33
  · skip
    have q15 : (c 14 (gr_tgt G x)).toInt = -1 := by rw [b15]; decide
    refine lv_iconst (v := (-1)) hx hb dX0_needBefore_18 (by decide) ?_
    refine lv_goto (tgt := 33) hx hb dX0_needBefore_19 (by decide) ?_
    exact W.iret (v := (-1)) hx hb hr (fun t ht hW => ⟨_, rfl, (by first | (rw [if_pos q15]; decide) | (rw [if_neg q15]; show (if 0 < y1 then y1 else (0 : Int32)).toInt = _; rw [i_max, hy1i, i_0])), ht⟩) (fun q h => by cases h) dX0_needBefore_33
theorem iw_X0_allows_X0 : ∀ w ∈ wsX00, w ∈ wsX0_allows := by decide +kernel
set_option maxHeartbeats 4000000 in
set_option maxRecDepth 100000 in
/--  -/
theorem ct_allows (l : Launch) (en : en_T) (ad : Nat → Nat) (c : Nat → Nat → Int32) {G : gr_T} (hg : gi G c) (x : Nat) (hxE : x < gr_E G) (hf1 : ∀ u, u < 7 → -1 ≤ (c 14 u).toInt ∧ (c 14 u).toInt ≤ 100000) (hg1 : -100000 ≤ (c 15 x).toInt ∧ (c 15 x).toInt ≤ 100000) (j : Nat) (hj : j < 7) : Met l yX0_allows wsX0_allows (rm_ 3 0 0) (ct_Pc en [.ref (ad 3), .int (nI j), .int (nI x)] (fun H => va_P en.1 vwCl (xw en ad c) H)) (ro_Qi (fun r => (r = 1 ∧ (c 14 (gr_tgt G x)).toInt ≠ -1 ∧ (c 14 (gr_tgt G x)).toInt ≤ (c 14 j).toInt + (c 15 x).toInt) ∨ (r = 0 ∧ ¬ ((c 14 (gr_tgt G x)).toInt ≠ -1 ∧ (c 14 (gr_tgt G x)).toInt ≤ (c 14 j).toInt + (c 15 x).toInt)))) 0 0 (fun _ => False) := by
  refine Met.ofW (cc := cX0_allows) (maxL := 4) (ret := (some .boolean)) (by decide) rfl ?_
  intro p e s m args below meth co s₁ B hml hv
  obtain ⟨rfl, hE, hP⟩ := hv
  have hx := B.exec
  have hb := B.bytes
  have hr := B.returns
  have hts := atoms_spec (ws := wsX0_allows) B.pre
  have hown : s.vm.findClass RX0 = some m.cls := findClass_of_methodNamed B.named
  have hlocks := B.notSynchronized
  have hl := lv_entry ([.ref (ad 3), .int (nI j), .int (nI x)]) (n := 4) (Nat.le_of_ble_eq_true rfl)
  rw [lg_entry_eq]
  generalize (lg_sl ([.ref (ad 3), .int (nI j), .int (nI x)]) ++ List.replicate (4 - (lg_sl ([.ref (ad 3), .int (nI j), .int (nI x)])).length) Slot.unset).toArray = ls at hl ⊢
  have hl : lv_has ls 4 [(0, .ref (ad 3)), (1, .int (nI j)), (2, .int (nI x))] := hl
  have htl := (gr_tgt_lt hg.ok hxE).1
  have hn7 := hg.n7
  have hft := hf1 (gr_tgt G x) (by omega)
  refine lv_aload_n hx hb dX0_allows_0 rfl (lv_at hl 0 rfl) ?_
  refine lv_aload_n hx hb dX0_allows_1 rfl (lv_at hl 0 rfl) ?_
  refine va_get (D := en.1) (ci := 0) (v := .ref (ad 1)) (C := RX0) (T := TX0) (N := 4) hx hb hts iw_X0_allows_X0 hown hE.1 hP 3 rfl rfl 0 (by decide) (hts (.fieldLink RX0 18 "CreditGame$Credits" "graph" "LCreditGame$Graph;") (by decide +kernel)) (fun _ h9 => h9) rfl dX0_allows_2 ?_
  refine lv_iload_n hx hb dX0_allows_5 rfl (lv_at hl 2 rfl) ?_
  refine ro_calli (va_runVN (As := [.int (nI x)]) (rest := [.ref (ad 3)]) ⟨hx, hb, hml, hown, hts⟩ (ct_targetOf l en ad c hg x (by have := hg.e24; omega)) ⟨va_cnB 1 hts gX0_allows_X1_targetOf_n59 rfl rfl rfl (hE.2 _ (List.mem_of_getElem? (i := 35) rfl)) (hts (.initialized RX1) (by decide +kernel)) (by decide +kernel) ⟨Nat.le_of_ble_eq_true rfl, Nat.le_of_ble_eq_true rfl⟩, hts (.instanceMethod yX1_targetOf) (by decide +kernel), hts (.selects RX1 yX1_targetOf yX1_targetOf) (by decide +kernel)⟩ (ct_preV hE (va_recv hE.1 hP (ci := 1) (q0 := 1) rfl rfl) hP) rfl rfl hl.1 rfl (lv_room (Nat.le_of_ble_eq_true rfl)) dX0_allows_6 ⟨Nat.le_of_ble_eq_true rfl, Nat.le_of_ble_eq_true rfl⟩) (fun r6 w6 => ?_)
  obtain rfl : r6 = (nI (gr_tgt G x)) := (w6.trans (gr_tgt_lt hg.ok hxE).2)
  refine ro_calli (va_runV (As := [.int (nI (gr_tgt G x))]) (rest := []) ⟨hx, hb, hml, hown, hts⟩ (ct_needOf l en ad c (gr_tgt G x) (by omega)) (cwV 1 hts gX0_allows_X0_needOf rfl rfl rfl (by decide +kernel) ⟨Nat.le_of_ble_eq_true rfl, Nat.le_of_ble_eq_true rfl⟩) (ct_preV hE (va_recv hE.1 hP (ci := 0) (q0 := 3) rfl rfl) hP) rfl rfl hl.1 rfl (lv_room (Nat.le_of_ble_eq_true rfl)) dX0_allows_9 ⟨Nat.le_of_ble_eq_true rfl, Nat.le_of_ble_eq_true rfl⟩) (fun r9 w9 => ?_)
  obtain rfl : r9 = (c 14 (gr_tgt G x)) := w9
  refine lv_istore_n (lv' := [(3, .int (c 14 (gr_tgt G x))), (0, .ref (ad 3)), (1, .int (nI j)), (2, .int (nI x))]) hx hb dX0_allows_12 rfl hl (by decide) rfl (fun ls hl => ?_)
  refine lv_iload_n hx hb dX0_allows_13 rfl (lv_at hl 0 rfl) ?_
  refine lv_iconst (v := (-1)) hx hb dX0_allows_14 (by decide) ?_
  refine lv_icmp_eq (tgt := 37) hx hb dX0_allows_15 (by decide) (fun b15 => ?_) (fun b15 => ?_)
  · skip
    have q15 : (c 14 (gr_tgt G x)).toInt = -1 := by rw [b15]; decide
    refine lv_iconst (v := 0) hx hb dX0_allows_37 (by decide) ?_
    exact W.zret (v := 0) (ty := .boolean) hx hb hr rfl (fun t ht hW => ⟨_, rfl, (by first | exact Or.inr ⟨rfl, fun q => q.1 q15⟩ | exact Or.inl ⟨rfl, q15, by omega⟩ | exact Or.inr ⟨rfl, fun q => by have := q.2; omega⟩), ht⟩) (fun q h => by cases h) dX0_allows_38
  · skip
    have q15 : ¬ (c 14 (gr_tgt G x)).toInt = -1 := fun q => b15 (i_eq (by rw [q]; decide))
    refine lv_aload_n hx hb dX0_allows_18 rfl (lv_at hl 1 rfl) ?_
    refine lv_iload_n hx hb dX0_allows_19 rfl (lv_at hl 2 rfl) ?_
    refine ro_calli (va_runV (As := [.int (nI j)]) (rest := []) ⟨hx, hb, hml, hown, hts⟩ (ct_needOf l en ad c j hj) (cwV 1 hts gX0_allows_X0_needOf rfl rfl rfl (by decide +kernel) ⟨Nat.le_of_ble_eq_true rfl, Nat.le_of_ble_eq_true rfl⟩) (ct_preV hE (va_recv hE.1 hP (ci := 0) (q0 := 3) rfl rfl) hP) rfl rfl hl.1 rfl (lv_room (Nat.le_of_ble_eq_true rfl)) dX0_allows_20 ⟨Nat.le_of_ble_eq_true rfl, Nat.le_of_ble_eq_true rfl⟩) (fun r20 w20 => ?_)
    obtain rfl : r20 = (c 14 j) := w20
    refine lv_aload_n hx hb dX0_allows_23 rfl (lv_at hl 1 rfl) ?_
    refine lv_iload_n hx hb dX0_allows_24 rfl (lv_at hl 3 rfl) ?_
    refine ro_calli (va_runV (As := [.int (nI x)]) (rest := [.int (c 14 j)]) ⟨hx, hb, hml, hown, hts⟩ (ct_gainOf l en ad c x (by have := hg.e24; omega)) (cwV 1 hts gX0_allows_X0_gainOf rfl rfl rfl (by decide +kernel) ⟨Nat.le_of_ble_eq_true rfl, Nat.le_of_ble_eq_true rfl⟩) (ct_preV hE (va_recv hE.1 hP (ci := 0) (q0 := 3) rfl rfl) hP) rfl rfl hl.1 rfl (lv_room (Nat.le_of_ble_eq_true rfl)) dX0_allows_25 ⟨Nat.le_of_ble_eq_true rfl, Nat.le_of_ble_eq_true rfl⟩) (fun r25 w25 => ?_)
    obtain rfl : r25 = (c 15 x) := w25
    refine lv_iadd hx hb dX0_allows_28 ?_
    refine lv_topi (fun y1 hy1 => ?_)
    have hfj := hf1 j hj
    have hy1i : y1.toInt = (c 14 j).toInt + (c 15 x).toInt := by rw [hy1, i_add (by omega) (by omega)]
    refine lv_iload_n hx hb dX0_allows_29 rfl (lv_at hl 0 rfl) ?_
    refine lv_icmp_lt (tgt := 37) hx hb dX0_allows_30 (by decide) (fun b30 => ?_) (fun b30 => ?_)
    · skip
      have q30 := i_lt.mp b30
      refine lv_iconst (v := 0) hx hb dX0_allows_37 (by decide) ?_
      exact W.zret (v := 0) (ty := .boolean) hx hb hr rfl (fun t ht hW => ⟨_, rfl, (by first | exact Or.inr ⟨rfl, fun q => q.1 q15⟩ | exact Or.inl ⟨rfl, q15, by omega⟩ | exact Or.inr ⟨rfl, fun q => by have := q.2; omega⟩), ht⟩) (fun q h => by cases h) dX0_allows_38
    · skip
      have q30 : ¬ _ := fun q => b30 (i_lt.mpr q)
      refine lv_iconst (v := 1) hx hb dX0_allows_33 (by decide) ?_
      refine lv_goto (tgt := 38) hx hb dX0_allows_34 (by decide) ?_
      exact W.zret (v := 1) (ty := .boolean) hx hb hr rfl (fun t ht hW => ⟨_, rfl, (by first | exact Or.inr ⟨rfl, fun q => q.1 q15⟩ | exact Or.inl ⟨rfl, q15, by omega⟩ | exact Or.inr ⟨rfl, fun q => by have := q.2; omega⟩), ht⟩) (fun q h => by cases h) dX0_allows_38
set_option maxHeartbeats 4000000 in
set_option maxRecDepth 100000 in
/--  -/
theorem ct_isGoodFor (l : Launch) (en : en_T) (ad : Nat → Nat) (c : Nat → Nat → Int32) (pl : Nat) (hpl : pl < 2) (x : Int32) : Met l yX0_isGoodFor wsX0_isGoodFor (rm_ 1 0 0) (ct_Pc en [.ref (ad 3), .int (nI pl), .int x] (fun H => True)) (ro_Qi (fun r => (r = 1 ∧ (pl = 0 → ¬ x < 0) ∧ (pl ≠ 0 → ¬ 0 < x)) ∨ (r = 0 ∧ ¬ ((pl = 0 → ¬ x < 0) ∧ (pl ≠ 0 → ¬ 0 < x))))) 0 0 (fun _ => False) := by
  refine Met.ofW (cc := cX0_isGoodFor) (maxL := 3) (ret := (some .boolean)) (by decide) rfl ?_
  intro p e s m args below meth co s₁ B hml hv
  obtain ⟨rfl, hE, hP⟩ := hv
  have hx := B.exec
  have hb := B.bytes
  have hr := B.returns
  have hts := atoms_spec (ws := wsX0_isGoodFor) B.pre
  have hown : s.vm.findClass RX0 = some m.cls := findClass_of_methodNamed B.named
  have hlocks := B.notSynchronized
  have hl := lv_entry ([.ref (ad 3), .int (nI pl), .int x]) (n := 3) (Nat.le_of_ble_eq_true rfl)
  rw [lg_entry_eq]
  generalize (lg_sl ([.ref (ad 3), .int (nI pl), .int x]) ++ List.replicate (3 - (lg_sl ([.ref (ad 3), .int (nI pl), .int x])).length) Slot.unset).toArray = ls at hl ⊢
  have hl : lv_has ls 3 [(0, .ref (ad 3)), (1, .int (nI pl)), (2, .int x)] := hl
  refine lv_iload_n hx hb dX0_isGoodFor_0 rfl (lv_at hl 1 rfl) ?_
  refine lv_if_ne (tgt := 16) hx hb dX0_isGoodFor_1 (by decide) (fun b1 => ?_) (fun b1 => ?_)
  · skip
    have hp : pl ≠ 0 := fun q => b1 (by rw [q]; rfl)
    refine lv_iload_n hx hb dX0_isGoodFor_16 rfl (lv_at hl 2 rfl) ?_
    refine lv_if_gt (tgt := 24) hx hb dX0_isGoodFor_17 (by decide) (fun b17 => ?_) (fun b17 => ?_)
    · skip
      refine lv_iconst (v := 0) hx hb dX0_isGoodFor_24 (by decide) ?_
      exact W.zret (v := 0) (ty := .boolean) hx hb hr rfl (fun t ht hW => ⟨_, rfl, (by first | exact Or.inl ⟨rfl, fun _ => b5, fun q => absurd hp q⟩ | exact Or.inr ⟨rfl, fun q => q.1 hp b5⟩ | exact Or.inl ⟨rfl, fun q => absurd q hp, fun _ => b17⟩ | exact Or.inr ⟨rfl, fun q => q.2 hp b17⟩), ht⟩) (fun q h => by cases h) dX0_isGoodFor_25
    · skip
      refine lv_iconst (v := 1) hx hb dX0_isGoodFor_20 (by decide) ?_
      refine lv_goto (tgt := 25) hx hb dX0_isGoodFor_21 (by decide) ?_
      exact W.zret (v := 1) (ty := .boolean) hx hb hr rfl (fun t ht hW => ⟨_, rfl, (by first | exact Or.inl ⟨rfl, fun _ => b5, fun q => absurd hp q⟩ | exact Or.inr ⟨rfl, fun q => q.1 hp b5⟩ | exact Or.inl ⟨rfl, fun q => absurd q hp, fun _ => b17⟩ | exact Or.inr ⟨rfl, fun q => q.2 hp b17⟩), ht⟩) (fun q h => by cases h) dX0_isGoodFor_25
  · skip
    have hp : pl = 0 := by
      rcases (show pl = 0 ∨ pl = 1 by omega) with q | q
      · exact q
      · rw [q] at b1; exact absurd b1 (by decide)
    refine lv_iload_n hx hb dX0_isGoodFor_4 rfl (lv_at hl 2 rfl) ?_
    refine lv_if_lt (tgt := 12) hx hb dX0_isGoodFor_5 (by decide) (fun b5 => ?_) (fun b5 => ?_)
    · skip
      refine lv_iconst (v := 0) hx hb dX0_isGoodFor_12 (by decide) ?_
      refine lv_goto (tgt := 25) hx hb dX0_isGoodFor_13 (by decide) ?_
      exact W.zret (v := 0) (ty := .boolean) hx hb hr rfl (fun t ht hW => ⟨_, rfl, (by first | exact Or.inl ⟨rfl, fun _ => b5, fun q => absurd hp q⟩ | exact Or.inr ⟨rfl, fun q => q.1 hp b5⟩ | exact Or.inl ⟨rfl, fun q => absurd q hp, fun _ => b17⟩ | exact Or.inr ⟨rfl, fun q => q.2 hp b17⟩), ht⟩) (fun q h => by cases h) dX0_isGoodFor_25
    · skip
      refine lv_iconst (v := 1) hx hb dX0_isGoodFor_8 (by decide) ?_
      refine lv_goto (tgt := 25) hx hb dX0_isGoodFor_9 (by decide) ?_
      exact W.zret (v := 1) (ty := .boolean) hx hb hr rfl (fun t ht hW => ⟨_, rfl, (by first | exact Or.inl ⟨rfl, fun _ => b5, fun q => absurd hp q⟩ | exact Or.inr ⟨rfl, fun q => q.1 hp b5⟩ | exact Or.inl ⟨rfl, fun q => absurd q hp, fun _ => b17⟩ | exact Or.inr ⟨rfl, fun q => q.2 hp b17⟩), ht⟩) (fun q h => by cases h) dX0_isGoodFor_25
theorem iw_X0_enoughAt_X0 : ∀ w ∈ wsX00, w ∈ wsX0_enoughAt := by decide +kernel
set_option maxHeartbeats 4000000 in
set_option maxRecDepth 100000 in
/--  -/
theorem ct_enoughAt_t (l : Launch) (en : en_T) (ad : Nat → Nat) (c : Nat → Nat → Int32) {G : gr_T} (hg : gi G c) (j : Nat) (hj : j < 7) (hf1 : ∀ u, u < 7 → -1 ≤ (c 14 u).toInt ∧ (c 14 u).toInt ≤ 100000) (hg1 : ∀ x, x < gr_E G → -100000 ≤ (c 15 x).toInt ∧ (c 15 x).toInt ≤ 100000) : Met l yX0_enoughAt wsX0_enoughAt (rm_ 4 0 0) (ct_Pc en [.ref (ad 3), .int (nI j), .int 1] (fun H => va_P en.1 vwCl (xw en ad c) H)) (ro_Qi (fun r => en_P (gr_adj G j) (gr_tgt G) (fun u => (c 14 u).toInt) (fun x => (c 15 x).toInt) true r.toInt)) 0 0 (fun _ => False) := by
  refine Met.ofW (cc := cX0_enoughAt) (maxL := 8) (ret := (some .int)) (by decide) rfl ?_
  intro p e s m args below meth co s₁ B hml hv
  obtain ⟨rfl, hE, hP⟩ := hv
  have hx := B.exec
  have hb := B.bytes
  have hr := B.returns
  have hts := atoms_spec (ws := wsX0_enoughAt) B.pre
  have hown : s.vm.findClass RX0 = some m.cls := findClass_of_methodNamed B.named
  have hlocks := B.notSynchronized
  have hl := lv_entry ([.ref (ad 3), .int (nI j), .int 1]) (n := 8) (Nat.le_of_ble_eq_true rfl)
  rw [lg_entry_eq]
  generalize (lg_sl ([.ref (ad 3), .int (nI j), .int 1]) ++ List.replicate (8 - (lg_sl ([.ref (ad 3), .int (nI j), .int 1])).length) Slot.unset).toArray = ls at hl ⊢
  have hl : lv_has ls 8 [(0, .ref (ad 3)), (1, .int (nI j)), (2, .int 1)] := hl
  have hadl := gr_adj_len hg.ok j
  refine lv_iconst (v := (-1)) hx hb dX0_enoughAt_0 (by decide) ?_
  refine lv_istore_n (lv' := [(3, .int (-1)), (0, .ref (ad 3)), (1, .int (nI j)), (2, .int 1)]) hx hb dX0_enoughAt_1 rfl hl (by decide) rfl (fun ls hl => ?_)
  refine lv_aload_n hx hb dX0_enoughAt_2 rfl (lv_at hl 1 rfl) ?_
  refine va_get (D := en.1) (ci := 0) (v := .ref (ad 1)) (C := RX0) (T := TX0) (N := 4) hx hb hts iw_X0_enoughAt_X0 hown hE.1 hP 3 rfl rfl 0 (by decide) (hts (.fieldLink RX0 18 "CreditGame$Credits" "graph" "LCreditGame$Graph;") (by decide +kernel)) (fun _ h9 => h9) rfl dX0_enoughAt_3 ?_
  refine lv_iload_n hx hb dX0_enoughAt_6 rfl (lv_at hl 2 rfl) ?_
  refine ro_calli (va_runVN (As := [.int (nI j)]) (rest := []) ⟨hx, hb, hml, hown, hts⟩ (ct_waysFrom l en ad c hg j hj) ⟨va_cnB 1 hts gX0_enoughAt_X1_waysFrom_n49 rfl rfl rfl (hE.2 _ (List.mem_of_getElem? (i := 33) rfl)) (hts (.initialized RX1) (by decide +kernel)) (by decide +kernel) ⟨Nat.le_of_ble_eq_true rfl, Nat.le_of_ble_eq_true rfl⟩, hts (.instanceMethod yX1_waysFrom) (by decide +kernel), hts (.selects RX1 yX1_waysFrom yX1_waysFrom) (by decide +kernel)⟩ (ct_preV hE (va_recv hE.1 hP (ci := 1) (q0 := 1) rfl rfl) hP) rfl rfl hl.1 rfl (lv_room (Nat.le_of_ble_eq_true rfl)) dX0_enoughAt_7 ⟨Nat.le_of_ble_eq_true rfl, Nat.le_of_ble_eq_true rfl⟩) (fun r7 w7 => ?_)
  obtain rfl : r7 = (nI (gr_adj G j).length) := w7
  refine lv_istore (lv' := [(4, .int (nI (gr_adj G j).length)), (3, .int (-1)), (0, .ref (ad 3)), (1, .int (nI j)), (2, .int 1)]) hx hb dX0_enoughAt_10 hl (by decide) rfl (fun ls hl => ?_)
  refine lv_iconst (v := (nI 0)) hx hb dX0_enoughAt_12 (by decide) ?_
  refine lv_istore (lv' := [(5, .int (nI 0)), (4, .int (nI (gr_adj G j).length)), (3, .int (-1)), (0, .ref (ad 3)), (1, .int (nI j)), (2, .int 1)]) hx hb dX0_enoughAt_13 hl (by decide) rfl (fun ls hl => ?_)
  have key15 : ∀ (n_ : Nat) (i : Nat) (en_ : Int32) (ls : Array Slot), i ≤ (gr_adj G j).length → (gr_adj G j).length + 1 ≤ i + n_ → en_P ((gr_adj G j).take i) (gr_tgt G) (fun u => (c 14 u).toInt) (fun x => (c 15 x).toInt) true en_.toInt → lv_has ls 8 [(0, .ref (ad 3)), (1, .int (nI j)), (2, .int 1), (3, .int en_), (4, .int (nI (gr_adj G j).length)), (5, .int (nI i))] → W p l e (headSpec wsX0_enoughAt (rm_ 4 0 0)).room s m ([.ref (ad 3), .int (nI j), .int 1] : List Value).toArray below meth co s.heap [] 0 0 (MQ below (ro_Qi (fun r => en_P (gr_adj G j) (gr_tgt G) (fun u => (c 14 u).toInt) (fun x => (c 15 x).toInt) true r.toInt)) ([.ref (ad 3), .int (nI j), .int 1] : List Value).toArray s 0 0 (fun _ => False)) (F0 m 15 ls []) := by
    intro n_
    induction n_ with
    | zero =>
      intro i en_ ls hi_ hin hen hl
      exact absurd hin (by omega)
    | succ n_ ih15 =>
      intro i en_ ls hi_ hin hen hl
      refine lv_iload hx hb dX0_enoughAt_15 (lv_at hl 5 rfl) ?_
      refine lv_iload hx hb dX0_enoughAt_17 (lv_at hl 4 rfl) ?_
      refine lv_icmp_ge (tgt := 94) hx hb dX0_enoughAt_19 (by decide) (fun b19 => ?_) (fun b19 => ?_)
      · skip
        have hin2 : i = (gr_adj G j).length := by
          rcases Nat.lt_or_ge i (gr_adj G j).length with q | q
          · exact absurd b19 (nI_ge q (by omega))
          · omega
        subst hin2
        rw [List.take_length] at hen
        refine lv_iload_n hx hb dX0_enoughAt_94 rfl (lv_at hl 3 rfl) ?_
        exact W.iret (v := en_) hx hb hr (fun t ht hW => ⟨_, rfl, hen, ht⟩) (fun q h => by cases h) dX0_enoughAt_95
      · skip
        have hlt : i < (gr_adj G j).length := by
          rcases Nat.lt_or_ge i (gr_adj G j).length with q | q
          · exact q
          · exact absurd (nI_le q (by omega)) b19
        have hjn : j < gr_n G := by
          rcases Nat.lt_or_ge j (gr_n G) with q | q
          · exact q
          · rw [gr_adj_ge (by omega)] at hlt; exact absurd hlt (Nat.not_lt_zero _)
        have hm := gr_adj_at hg.ok hjn hlt
        obtain ⟨x, hx_⟩ : ∃ z, z = (gr_adj G j).getD i 0 := ⟨_, rfl⟩
        have hts_ : (gr_adj G j).take (i + 1) = (gr_adj G j).take i ++ [x] := by
          have := gm_take (gr_adj G j) id 0 hlt
          rw [List.map_id] at this
          rw [this, hx_]; rfl
        rw [← hx_] at hm
        have hxE := (gr_adj_mem hg.ok hjn hm).1
        refine lv_aload_n hx hb dX0_enoughAt_22 rfl (lv_at hl 0 rfl) ?_
        refine lv_aload_n hx hb dX0_enoughAt_23 rfl (lv_at hl 0 rfl) ?_
        refine va_get (D := en.1) (ci := 0) (v := .ref (ad 1)) (C := RX0) (T := TX0) (N := 4) hx hb hts iw_X0_enoughAt_X0 hown hE.1 hP 3 rfl rfl 0 (by decide) (hts (.fieldLink RX0 18 "CreditGame$Credits" "graph" "LCreditGame$Graph;") (by decide +kernel)) (fun _ h9 => h9) rfl dX0_enoughAt_24 ?_
        refine lv_iload_n hx hb dX0_enoughAt_27 rfl (lv_at hl 1 rfl) ?_
        refine lv_iload hx hb dX0_enoughAt_28 (lv_at hl 5 rfl) ?_
        refine ro_calli (va_runVN (As := [.int (nI j), .int (nI i)]) (rest := [.ref (ad 3)]) ⟨hx, hb, hml, hown, hts⟩ (ct_wayFrom l en ad c hg j i hjn hlt) ⟨va_cnB 2 hts gX0_enoughAt_X1_wayFrom_n52 rfl rfl rfl (hE.2 _ (List.mem_of_getElem? (i := 34) rfl)) (hts (.initialized RX1) (by decide +kernel)) (by decide +kernel) ⟨Nat.le_of_ble_eq_true rfl, Nat.le_of_ble_eq_true rfl⟩, hts (.instanceMethod yX1_wayFrom) (by decide +kernel), hts (.selects RX1 yX1_wayFrom yX1_wayFrom) (by decide +kernel)⟩ (ct_preV hE (va_recv hE.1 hP (ci := 1) (q0 := 1) rfl rfl) hP) rfl rfl hl.1 rfl (lv_room (Nat.le_of_ble_eq_true rfl)) dX0_enoughAt_30 ⟨Nat.le_of_ble_eq_true rfl, Nat.le_of_ble_eq_true rfl⟩) (fun r30 w30 => ?_)
        obtain rfl : r30 = (nI x) := (w30.trans (by rw [hx_]))
        refine ro_calli (va_runV (As := [.int (nI x)]) (rest := []) ⟨hx, hb, hml, hown, hts⟩ (ct_needBefore l en ad c hg x hxE hf1 (hg1 x hxE)) (cwV 1 hts gX0_enoughAt_X0_needBefore rfl rfl rfl (by decide +kernel) ⟨Nat.le_of_ble_eq_true rfl, Nat.le_of_ble_eq_true rfl⟩) (ct_preV hE (va_recv hE.1 hP (ci := 0) (q0 := 3) rfl rfl) hP) rfl rfl hl.1 rfl (lv_room (Nat.le_of_ble_eq_true rfl)) dX0_enoughAt_33 ⟨Nat.le_of_ble_eq_true rfl, Nat.le_of_ble_eq_true rfl⟩) (fun r33 w33 => ?_)
        refine lv_istore (lv' := [(6, .int r33), (0, .ref (ad 3)), (1, .int (nI j)), (2, .int 1), (3, .int en_), (4, .int (nI (gr_adj G j).length)), (5, .int (nI i))]) hx hb dX0_enoughAt_36 hl (by decide) rfl (fun ls hl => ?_)
        refine lv_iload_n hx hb dX0_enoughAt_38 rfl (lv_at hl 3 rfl) ?_
        refine lv_if_eq (tgt := 56) hx hb dX0_enoughAt_39 (by decide) (fun b39 => absurd b39 (by decide)) (fun b39 => ?_)
        refine lv_iload hx hb dX0_enoughAt_42 (lv_at hl 0 rfl) ?_
        refine lv_iload_n hx hb dX0_enoughAt_44 rfl (lv_at hl 4 rfl) ?_
        refine lv_icmp_ge (tgt := 52) hx hb dX0_enoughAt_45 (by decide) (fun b45 => ?_) (fun b45 => ?_)
        · skip
          have q45 := i_le.mp b45
          refine lv_iconst (v := 0) hx hb dX0_enoughAt_52 (by decide) ?_
          refine lv_goto (tgt := 67) hx hb dX0_enoughAt_53 (by decide) ?_
          refine lv_istore (lv' := [(7, .int 0), (6, .int r33), (0, .ref (ad 3)), (1, .int (nI j)), (2, .int 1), (3, .int en_), (4, .int (nI (gr_adj G j).length)), (5, .int (nI i))]) hx hb dX0_enoughAt_67 hl (by decide) rfl (fun ls hl => ?_)
          refine lv_iload hx hb dX0_enoughAt_69 (lv_at hl 1 rfl) ?_
          refine lv_iconst (v := (-1)) hx hb dX0_enoughAt_71 (by decide) ?_
          refine lv_icmp_eq (tgt := 88) hx hb dX0_enoughAt_72 (by decide) (fun b72 => ?_) (fun b72 => ?_)
          · skip
            have q72 : r33.toInt = -1 := by rw [b72]; decide
            refine lv_iinc (v := (nI (i + 1))) (lv' := [(5, .int (nI (i + 1))), (7, .int 0), (6, .int r33), (0, .ref (ad 3)), (1, .int (nI j)), (2, .int 1), (3, .int en_), (4, .int (nI (gr_adj G j).length))]) hx hb dX0_enoughAt_88 hl (k := 7) rfl (nI_1 _) (by decide) rfl (fun ls hl => ?_)
            refine lv_goto (tgt := 15) hx hb dX0_enoughAt_91 (by decide) ?_
            exact ih15 (i + 1) en_ _ (by omega) (by omega) (by rw [hts_]; exact en_keep hen w33 (by first | exact Or.inl q72 | exact Or.inr ⟨q77, fun q => (by first | omega | (cases q)), fun q => (by first | omega | (cases q))⟩)) (lv_sub hl [3, 4, 5, 6, 7, 0] rfl)
          · skip
            have q72 : ¬ r33.toInt = -1 := fun q => b72 (i_eq (by rw [q]; decide))
            refine lv_iload_n hx hb dX0_enoughAt_75 rfl (lv_at hl 5 rfl) ?_
            refine lv_iconst (v := (-1)) hx hb dX0_enoughAt_76 (by decide) ?_
            refine lv_icmp_eq (tgt := 85) hx hb dX0_enoughAt_77 (by decide) (fun b77 => ?_) (fun b77 => ?_)
            · skip
              have q77 : en_.toInt = -1 := by rw [b77]; decide
              refine lv_iload hx hb dX0_enoughAt_85 (lv_at hl 1 rfl) ?_
              refine lv_istore_n (lv' := [(3, .int r33), (7, .int 0), (6, .int r33), (0, .ref (ad 3)), (1, .int (nI j)), (2, .int 1), (4, .int (nI (gr_adj G j).length)), (5, .int (nI i))]) hx hb dX0_enoughAt_87 rfl hl (by decide) rfl (fun ls hl => ?_)
              refine lv_iinc (v := (nI (i + 1))) (lv' := [(5, .int (nI (i + 1))), (3, .int r33), (7, .int 0), (6, .int r33), (0, .ref (ad 3)), (1, .int (nI j)), (2, .int 1), (4, .int (nI (gr_adj G j).length))]) hx hb dX0_enoughAt_88 hl (k := 7) rfl (nI_1 _) (by decide) rfl (fun ls hl => ?_)
              refine lv_goto (tgt := 15) hx hb dX0_enoughAt_91 (by decide) ?_
              exact ih15 (i + 1) r33 _ (by omega) (by omega) (by rw [hts_]; exact en_take hen w33 q72 (by first | exact Or.inl q77 | exact Or.inr ⟨fun q => (by first | omega | (cases q)), fun q => (by first | omega | (cases q))⟩)) (lv_sub hl [4, 5, 6, 1, 7, 0] rfl)
            · skip
              have q77 : ¬ en_.toInt = -1 := fun q => b77 (i_eq (by rw [q]; decide))
              refine lv_iload hx hb dX0_enoughAt_80 (lv_at hl 0 rfl) ?_
              refine lv_if_eq (tgt := 88) hx hb dX0_enoughAt_82 (by decide) (fun b82 => ?_) (fun b82 => absurd b82 (fun q => q rfl))
              refine lv_iinc (v := (nI (i + 1))) (lv' := [(5, .int (nI (i + 1))), (7, .int 0), (6, .int r33), (0, .ref (ad 3)), (1, .int (nI j)), (2, .int 1), (3, .int en_), (4, .int (nI (gr_adj G j).length))]) hx hb dX0_enoughAt_88 hl (k := 7) rfl (nI_1 _) (by decide) rfl (fun ls hl => ?_)
              refine lv_goto (tgt := 15) hx hb dX0_enoughAt_91 (by decide) ?_
              exact ih15 (i + 1) en_ _ (by omega) (by omega) (by rw [hts_]; exact en_keep hen w33 (by first | exact Or.inl q72 | exact Or.inr ⟨q77, fun q => (by first | omega | (cases q)), fun q => (by first | omega | (cases q))⟩)) (lv_sub hl [3, 4, 5, 6, 7, 0] rfl)
        · skip
          have q45 : ¬ _ := fun q => b45 (i_le.mpr q)
          refine lv_iconst (v := 1) hx hb dX0_enoughAt_48 (by decide) ?_
          refine lv_goto (tgt := 67) hx hb dX0_enoughAt_49 (by decide) ?_
          refine lv_istore (lv' := [(7, .int 1), (6, .int r33), (0, .ref (ad 3)), (1, .int (nI j)), (2, .int 1), (3, .int en_), (4, .int (nI (gr_adj G j).length)), (5, .int (nI i))]) hx hb dX0_enoughAt_67 hl (by decide) rfl (fun ls hl => ?_)
          refine lv_iload hx hb dX0_enoughAt_69 (lv_at hl 1 rfl) ?_
          refine lv_iconst (v := (-1)) hx hb dX0_enoughAt_71 (by decide) ?_
          refine lv_icmp_eq (tgt := 88) hx hb dX0_enoughAt_72 (by decide) (fun b72 => ?_) (fun b72 => ?_)
          · skip
            have q72 : r33.toInt = -1 := by rw [b72]; decide
            refine lv_iinc (v := (nI (i + 1))) (lv' := [(5, .int (nI (i + 1))), (7, .int 1), (6, .int r33), (0, .ref (ad 3)), (1, .int (nI j)), (2, .int 1), (3, .int en_), (4, .int (nI (gr_adj G j).length))]) hx hb dX0_enoughAt_88 hl (k := 7) rfl (nI_1 _) (by decide) rfl (fun ls hl => ?_)
            refine lv_goto (tgt := 15) hx hb dX0_enoughAt_91 (by decide) ?_
            exact ih15 (i + 1) en_ _ (by omega) (by omega) (by rw [hts_]; exact en_keep hen w33 (by first | exact Or.inl q72 | exact Or.inr ⟨q77, fun q => (by first | omega | (cases q)), fun q => (by first | omega | (cases q))⟩)) (lv_sub hl [3, 4, 5, 6, 7, 0] rfl)
          · skip
            have q72 : ¬ r33.toInt = -1 := fun q => b72 (i_eq (by rw [q]; decide))
            refine lv_iload_n hx hb dX0_enoughAt_75 rfl (lv_at hl 5 rfl) ?_
            refine lv_iconst (v := (-1)) hx hb dX0_enoughAt_76 (by decide) ?_
            refine lv_icmp_eq (tgt := 85) hx hb dX0_enoughAt_77 (by decide) (fun b77 => ?_) (fun b77 => ?_)
            · skip
              have q77 : en_.toInt = -1 := by rw [b77]; decide
              refine lv_iload hx hb dX0_enoughAt_85 (lv_at hl 1 rfl) ?_
              refine lv_istore_n (lv' := [(3, .int r33), (7, .int 1), (6, .int r33), (0, .ref (ad 3)), (1, .int (nI j)), (2, .int 1), (4, .int (nI (gr_adj G j).length)), (5, .int (nI i))]) hx hb dX0_enoughAt_87 rfl hl (by decide) rfl (fun ls hl => ?_)
              refine lv_iinc (v := (nI (i + 1))) (lv' := [(5, .int (nI (i + 1))), (3, .int r33), (7, .int 1), (6, .int r33), (0, .ref (ad 3)), (1, .int (nI j)), (2, .int 1), (4, .int (nI (gr_adj G j).length))]) hx hb dX0_enoughAt_88 hl (k := 7) rfl (nI_1 _) (by decide) rfl (fun ls hl => ?_)
              refine lv_goto (tgt := 15) hx hb dX0_enoughAt_91 (by decide) ?_
              exact ih15 (i + 1) r33 _ (by omega) (by omega) (by rw [hts_]; exact en_take hen w33 q72 (by first | exact Or.inl q77 | exact Or.inr ⟨fun q => (by first | omega | (cases q)), fun q => (by first | omega | (cases q))⟩)) (lv_sub hl [4, 5, 6, 1, 7, 0] rfl)
            · skip
              have q77 : ¬ en_.toInt = -1 := fun q => b77 (i_eq (by rw [q]; decide))
              refine lv_iload hx hb dX0_enoughAt_80 (lv_at hl 0 rfl) ?_
              refine lv_if_eq (tgt := 88) hx hb dX0_enoughAt_82 (by decide) (fun b82 => absurd b82 (by decide)) (fun b82 => ?_)
              refine lv_iload hx hb dX0_enoughAt_85 (lv_at hl 1 rfl) ?_
              refine lv_istore_n (lv' := [(3, .int r33), (7, .int 1), (6, .int r33), (0, .ref (ad 3)), (1, .int (nI j)), (2, .int 1), (4, .int (nI (gr_adj G j).length)), (5, .int (nI i))]) hx hb dX0_enoughAt_87 rfl hl (by decide) rfl (fun ls hl => ?_)
              refine lv_iinc (v := (nI (i + 1))) (lv' := [(5, .int (nI (i + 1))), (3, .int r33), (7, .int 1), (6, .int r33), (0, .ref (ad 3)), (1, .int (nI j)), (2, .int 1), (4, .int (nI (gr_adj G j).length))]) hx hb dX0_enoughAt_88 hl (k := 7) rfl (nI_1 _) (by decide) rfl (fun ls hl => ?_)
              refine lv_goto (tgt := 15) hx hb dX0_enoughAt_91 (by decide) ?_
              exact ih15 (i + 1) r33 _ (by omega) (by omega) (by rw [hts_]; exact en_take hen w33 q72 (by first | exact Or.inl q77 | exact Or.inr ⟨fun q => (by first | omega | (cases q)), fun q => (by first | omega | (cases q))⟩)) (lv_sub hl [4, 5, 6, 1, 7, 0] rfl)
  exact key15 ((gr_adj G j).length + 1) 0 (-1) _ (by omega) (by omega) (by rw [List.take_zero]; exact en_nil) (lv_sub hl [3, 4, 5, 2, 1, 0] rfl)
set_option maxHeartbeats 4000000 in
set_option maxRecDepth 100000 in
/--  -/
theorem ct_enoughAt_f (l : Launch) (en : en_T) (ad : Nat → Nat) (c : Nat → Nat → Int32) {G : gr_T} (hg : gi G c) (j : Nat) (hj : j < 7) (hf1 : ∀ u, u < 7 → -1 ≤ (c 14 u).toInt ∧ (c 14 u).toInt ≤ 100000) (hg1 : ∀ x, x < gr_E G → -100000 ≤ (c 15 x).toInt ∧ (c 15 x).toInt ≤ 100000) : Met l yX0_enoughAt wsX0_enoughAt (rm_ 4 0 0) (ct_Pc en [.ref (ad 3), .int (nI j), .int 0] (fun H => va_P en.1 vwCl (xw en ad c) H)) (ro_Qi (fun r => en_P (gr_adj G j) (gr_tgt G) (fun u => (c 14 u).toInt) (fun x => (c 15 x).toInt) false r.toInt)) 0 0 (fun _ => False) := by
  refine Met.ofW (cc := cX0_enoughAt) (maxL := 8) (ret := (some .int)) (by decide) rfl ?_
  intro p e s m args below meth co s₁ B hml hv
  obtain ⟨rfl, hE, hP⟩ := hv
  have hx := B.exec
  have hb := B.bytes
  have hr := B.returns
  have hts := atoms_spec (ws := wsX0_enoughAt) B.pre
  have hown : s.vm.findClass RX0 = some m.cls := findClass_of_methodNamed B.named
  have hlocks := B.notSynchronized
  have hl := lv_entry ([.ref (ad 3), .int (nI j), .int 0]) (n := 8) (Nat.le_of_ble_eq_true rfl)
  rw [lg_entry_eq]
  generalize (lg_sl ([.ref (ad 3), .int (nI j), .int 0]) ++ List.replicate (8 - (lg_sl ([.ref (ad 3), .int (nI j), .int 0])).length) Slot.unset).toArray = ls at hl ⊢
  have hl : lv_has ls 8 [(0, .ref (ad 3)), (1, .int (nI j)), (2, .int 0)] := hl
  have hadl := gr_adj_len hg.ok j
  refine lv_iconst (v := (-1)) hx hb dX0_enoughAt_0 (by decide) ?_
  refine lv_istore_n (lv' := [(3, .int (-1)), (0, .ref (ad 3)), (1, .int (nI j)), (2, .int 0)]) hx hb dX0_enoughAt_1 rfl hl (by decide) rfl (fun ls hl => ?_)
  refine lv_aload_n hx hb dX0_enoughAt_2 rfl (lv_at hl 1 rfl) ?_
  refine va_get (D := en.1) (ci := 0) (v := .ref (ad 1)) (C := RX0) (T := TX0) (N := 4) hx hb hts iw_X0_enoughAt_X0 hown hE.1 hP 3 rfl rfl 0 (by decide) (hts (.fieldLink RX0 18 "CreditGame$Credits" "graph" "LCreditGame$Graph;") (by decide +kernel)) (fun _ h9 => h9) rfl dX0_enoughAt_3 ?_
  refine lv_iload_n hx hb dX0_enoughAt_6 rfl (lv_at hl 2 rfl) ?_
  refine ro_calli (va_runVN (As := [.int (nI j)]) (rest := []) ⟨hx, hb, hml, hown, hts⟩ (ct_waysFrom l en ad c hg j hj) ⟨va_cnB 1 hts gX0_enoughAt_X1_waysFrom_n49 rfl rfl rfl (hE.2 _ (List.mem_of_getElem? (i := 33) rfl)) (hts (.initialized RX1) (by decide +kernel)) (by decide +kernel) ⟨Nat.le_of_ble_eq_true rfl, Nat.le_of_ble_eq_true rfl⟩, hts (.instanceMethod yX1_waysFrom) (by decide +kernel), hts (.selects RX1 yX1_waysFrom yX1_waysFrom) (by decide +kernel)⟩ (ct_preV hE (va_recv hE.1 hP (ci := 1) (q0 := 1) rfl rfl) hP) rfl rfl hl.1 rfl (lv_room (Nat.le_of_ble_eq_true rfl)) dX0_enoughAt_7 ⟨Nat.le_of_ble_eq_true rfl, Nat.le_of_ble_eq_true rfl⟩) (fun r7 w7 => ?_)
  obtain rfl : r7 = (nI (gr_adj G j).length) := w7
  refine lv_istore (lv' := [(4, .int (nI (gr_adj G j).length)), (3, .int (-1)), (0, .ref (ad 3)), (1, .int (nI j)), (2, .int 0)]) hx hb dX0_enoughAt_10 hl (by decide) rfl (fun ls hl => ?_)
  refine lv_iconst (v := (nI 0)) hx hb dX0_enoughAt_12 (by decide) ?_
  refine lv_istore (lv' := [(5, .int (nI 0)), (4, .int (nI (gr_adj G j).length)), (3, .int (-1)), (0, .ref (ad 3)), (1, .int (nI j)), (2, .int 0)]) hx hb dX0_enoughAt_13 hl (by decide) rfl (fun ls hl => ?_)
  have key15 : ∀ (n_ : Nat) (i : Nat) (en_ : Int32) (ls : Array Slot), i ≤ (gr_adj G j).length → (gr_adj G j).length + 1 ≤ i + n_ → en_P ((gr_adj G j).take i) (gr_tgt G) (fun u => (c 14 u).toInt) (fun x => (c 15 x).toInt) false en_.toInt → lv_has ls 8 [(0, .ref (ad 3)), (1, .int (nI j)), (2, .int 0), (3, .int en_), (4, .int (nI (gr_adj G j).length)), (5, .int (nI i))] → W p l e (headSpec wsX0_enoughAt (rm_ 4 0 0)).room s m ([.ref (ad 3), .int (nI j), .int 0] : List Value).toArray below meth co s.heap [] 0 0 (MQ below (ro_Qi (fun r => en_P (gr_adj G j) (gr_tgt G) (fun u => (c 14 u).toInt) (fun x => (c 15 x).toInt) false r.toInt)) ([.ref (ad 3), .int (nI j), .int 0] : List Value).toArray s 0 0 (fun _ => False)) (F0 m 15 ls []) := by
    intro n_
    induction n_ with
    | zero =>
      intro i en_ ls hi_ hin hen hl
      exact absurd hin (by omega)
    | succ n_ ih15 =>
      intro i en_ ls hi_ hin hen hl
      refine lv_iload hx hb dX0_enoughAt_15 (lv_at hl 5 rfl) ?_
      refine lv_iload hx hb dX0_enoughAt_17 (lv_at hl 4 rfl) ?_
      refine lv_icmp_ge (tgt := 94) hx hb dX0_enoughAt_19 (by decide) (fun b19 => ?_) (fun b19 => ?_)
      · skip
        have hin2 : i = (gr_adj G j).length := by
          rcases Nat.lt_or_ge i (gr_adj G j).length with q | q
          · exact absurd b19 (nI_ge q (by omega))
          · omega
        subst hin2
        rw [List.take_length] at hen
        refine lv_iload_n hx hb dX0_enoughAt_94 rfl (lv_at hl 3 rfl) ?_
        exact W.iret (v := en_) hx hb hr (fun t ht hW => ⟨_, rfl, hen, ht⟩) (fun q h => by cases h) dX0_enoughAt_95
      · skip
        have hlt : i < (gr_adj G j).length := by
          rcases Nat.lt_or_ge i (gr_adj G j).length with q | q
          · exact q
          · exact absurd (nI_le q (by omega)) b19
        have hjn : j < gr_n G := by
          rcases Nat.lt_or_ge j (gr_n G) with q | q
          · exact q
          · rw [gr_adj_ge (by omega)] at hlt; exact absurd hlt (Nat.not_lt_zero _)
        have hm := gr_adj_at hg.ok hjn hlt
        obtain ⟨x, hx_⟩ : ∃ z, z = (gr_adj G j).getD i 0 := ⟨_, rfl⟩
        have hts_ : (gr_adj G j).take (i + 1) = (gr_adj G j).take i ++ [x] := by
          have := gm_take (gr_adj G j) id 0 hlt
          rw [List.map_id] at this
          rw [this, hx_]; rfl
        rw [← hx_] at hm
        have hxE := (gr_adj_mem hg.ok hjn hm).1
        refine lv_aload_n hx hb dX0_enoughAt_22 rfl (lv_at hl 0 rfl) ?_
        refine lv_aload_n hx hb dX0_enoughAt_23 rfl (lv_at hl 0 rfl) ?_
        refine va_get (D := en.1) (ci := 0) (v := .ref (ad 1)) (C := RX0) (T := TX0) (N := 4) hx hb hts iw_X0_enoughAt_X0 hown hE.1 hP 3 rfl rfl 0 (by decide) (hts (.fieldLink RX0 18 "CreditGame$Credits" "graph" "LCreditGame$Graph;") (by decide +kernel)) (fun _ h9 => h9) rfl dX0_enoughAt_24 ?_
        refine lv_iload_n hx hb dX0_enoughAt_27 rfl (lv_at hl 1 rfl) ?_
        refine lv_iload hx hb dX0_enoughAt_28 (lv_at hl 5 rfl) ?_
        refine ro_calli (va_runVN (As := [.int (nI j), .int (nI i)]) (rest := [.ref (ad 3)]) ⟨hx, hb, hml, hown, hts⟩ (ct_wayFrom l en ad c hg j i hjn hlt) ⟨va_cnB 2 hts gX0_enoughAt_X1_wayFrom_n52 rfl rfl rfl (hE.2 _ (List.mem_of_getElem? (i := 34) rfl)) (hts (.initialized RX1) (by decide +kernel)) (by decide +kernel) ⟨Nat.le_of_ble_eq_true rfl, Nat.le_of_ble_eq_true rfl⟩, hts (.instanceMethod yX1_wayFrom) (by decide +kernel), hts (.selects RX1 yX1_wayFrom yX1_wayFrom) (by decide +kernel)⟩ (ct_preV hE (va_recv hE.1 hP (ci := 1) (q0 := 1) rfl rfl) hP) rfl rfl hl.1 rfl (lv_room (Nat.le_of_ble_eq_true rfl)) dX0_enoughAt_30 ⟨Nat.le_of_ble_eq_true rfl, Nat.le_of_ble_eq_true rfl⟩) (fun r30 w30 => ?_)
        obtain rfl : r30 = (nI x) := (w30.trans (by rw [hx_]))
        refine ro_calli (va_runV (As := [.int (nI x)]) (rest := []) ⟨hx, hb, hml, hown, hts⟩ (ct_needBefore l en ad c hg x hxE hf1 (hg1 x hxE)) (cwV 1 hts gX0_enoughAt_X0_needBefore rfl rfl rfl (by decide +kernel) ⟨Nat.le_of_ble_eq_true rfl, Nat.le_of_ble_eq_true rfl⟩) (ct_preV hE (va_recv hE.1 hP (ci := 0) (q0 := 3) rfl rfl) hP) rfl rfl hl.1 rfl (lv_room (Nat.le_of_ble_eq_true rfl)) dX0_enoughAt_33 ⟨Nat.le_of_ble_eq_true rfl, Nat.le_of_ble_eq_true rfl⟩) (fun r33 w33 => ?_)
        refine lv_istore (lv' := [(6, .int r33), (0, .ref (ad 3)), (1, .int (nI j)), (2, .int 0), (3, .int en_), (4, .int (nI (gr_adj G j).length)), (5, .int (nI i))]) hx hb dX0_enoughAt_36 hl (by decide) rfl (fun ls hl => ?_)
        refine lv_iload_n hx hb dX0_enoughAt_38 rfl (lv_at hl 3 rfl) ?_
        refine lv_if_eq (tgt := 56) hx hb dX0_enoughAt_39 (by decide) (fun b39 => ?_) (fun b39 => absurd b39 (fun q => q rfl))
        refine lv_iload hx hb dX0_enoughAt_56 (lv_at hl 0 rfl) ?_
        refine lv_iload_n hx hb dX0_enoughAt_58 rfl (lv_at hl 4 rfl) ?_
        refine lv_icmp_le (tgt := 66) hx hb dX0_enoughAt_59 (by decide) (fun b59 => ?_) (fun b59 => ?_)
        · skip
          have q59 := i_le.mp b59
          refine lv_iconst (v := 0) hx hb dX0_enoughAt_66 (by decide) ?_
          refine lv_istore (lv' := [(7, .int 0), (6, .int r33), (0, .ref (ad 3)), (1, .int (nI j)), (2, .int 0), (3, .int en_), (4, .int (nI (gr_adj G j).length)), (5, .int (nI i))]) hx hb dX0_enoughAt_67 hl (by decide) rfl (fun ls hl => ?_)
          refine lv_iload hx hb dX0_enoughAt_69 (lv_at hl 1 rfl) ?_
          refine lv_iconst (v := (-1)) hx hb dX0_enoughAt_71 (by decide) ?_
          refine lv_icmp_eq (tgt := 88) hx hb dX0_enoughAt_72 (by decide) (fun b72 => ?_) (fun b72 => ?_)
          · skip
            have q72 : r33.toInt = -1 := by rw [b72]; decide
            refine lv_iinc (v := (nI (i + 1))) (lv' := [(5, .int (nI (i + 1))), (7, .int 0), (6, .int r33), (0, .ref (ad 3)), (1, .int (nI j)), (2, .int 0), (3, .int en_), (4, .int (nI (gr_adj G j).length))]) hx hb dX0_enoughAt_88 hl (k := 7) rfl (nI_1 _) (by decide) rfl (fun ls hl => ?_)
            refine lv_goto (tgt := 15) hx hb dX0_enoughAt_91 (by decide) ?_
            exact ih15 (i + 1) en_ _ (by omega) (by omega) (by rw [hts_]; exact en_keep hen w33 (by first | exact Or.inl q72 | exact Or.inr ⟨q77, fun q => (by first | omega | (cases q)), fun q => (by first | omega | (cases q))⟩)) (lv_sub hl [3, 4, 5, 6, 7, 0] rfl)
          · skip
            have q72 : ¬ r33.toInt = -1 := fun q => b72 (i_eq (by rw [q]; decide))
            refine lv_iload_n hx hb dX0_enoughAt_75 rfl (lv_at hl 5 rfl) ?_
            refine lv_iconst (v := (-1)) hx hb dX0_enoughAt_76 (by decide) ?_
            refine lv_icmp_eq (tgt := 85) hx hb dX0_enoughAt_77 (by decide) (fun b77 => ?_) (fun b77 => ?_)
            · skip
              have q77 : en_.toInt = -1 := by rw [b77]; decide
              refine lv_iload hx hb dX0_enoughAt_85 (lv_at hl 1 rfl) ?_
              refine lv_istore_n (lv' := [(3, .int r33), (7, .int 0), (6, .int r33), (0, .ref (ad 3)), (1, .int (nI j)), (2, .int 0), (4, .int (nI (gr_adj G j).length)), (5, .int (nI i))]) hx hb dX0_enoughAt_87 rfl hl (by decide) rfl (fun ls hl => ?_)
              refine lv_iinc (v := (nI (i + 1))) (lv' := [(5, .int (nI (i + 1))), (3, .int r33), (7, .int 0), (6, .int r33), (0, .ref (ad 3)), (1, .int (nI j)), (2, .int 0), (4, .int (nI (gr_adj G j).length))]) hx hb dX0_enoughAt_88 hl (k := 7) rfl (nI_1 _) (by decide) rfl (fun ls hl => ?_)
              refine lv_goto (tgt := 15) hx hb dX0_enoughAt_91 (by decide) ?_
              exact ih15 (i + 1) r33 _ (by omega) (by omega) (by rw [hts_]; exact en_take hen w33 q72 (by first | exact Or.inl q77 | exact Or.inr ⟨fun q => (by first | omega | (cases q)), fun q => (by first | omega | (cases q))⟩)) (lv_sub hl [4, 5, 6, 1, 7, 0] rfl)
            · skip
              have q77 : ¬ en_.toInt = -1 := fun q => b77 (i_eq (by rw [q]; decide))
              refine lv_iload hx hb dX0_enoughAt_80 (lv_at hl 0 rfl) ?_
              refine lv_if_eq (tgt := 88) hx hb dX0_enoughAt_82 (by decide) (fun b82 => ?_) (fun b82 => absurd b82 (fun q => q rfl))
              refine lv_iinc (v := (nI (i + 1))) (lv' := [(5, .int (nI (i + 1))), (7, .int 0), (6, .int r33), (0, .ref (ad 3)), (1, .int (nI j)), (2, .int 0), (3, .int en_), (4, .int (nI (gr_adj G j).length))]) hx hb dX0_enoughAt_88 hl (k := 7) rfl (nI_1 _) (by decide) rfl (fun ls hl => ?_)
              refine lv_goto (tgt := 15) hx hb dX0_enoughAt_91 (by decide) ?_
              exact ih15 (i + 1) en_ _ (by omega) (by omega) (by rw [hts_]; exact en_keep hen w33 (by first | exact Or.inl q72 | exact Or.inr ⟨q77, fun q => (by first | omega | (cases q)), fun q => (by first | omega | (cases q))⟩)) (lv_sub hl [3, 4, 5, 6, 7, 0] rfl)
        · skip
          have q59 : ¬ _ := fun q => b59 (i_le.mpr q)
          refine lv_iconst (v := 1) hx hb dX0_enoughAt_62 (by decide) ?_
          refine lv_goto (tgt := 67) hx hb dX0_enoughAt_63 (by decide) ?_
          refine lv_istore (lv' := [(7, .int 1), (6, .int r33), (0, .ref (ad 3)), (1, .int (nI j)), (2, .int 0), (3, .int en_), (4, .int (nI (gr_adj G j).length)), (5, .int (nI i))]) hx hb dX0_enoughAt_67 hl (by decide) rfl (fun ls hl => ?_)
          refine lv_iload hx hb dX0_enoughAt_69 (lv_at hl 1 rfl) ?_
          refine lv_iconst (v := (-1)) hx hb dX0_enoughAt_71 (by decide) ?_
          refine lv_icmp_eq (tgt := 88) hx hb dX0_enoughAt_72 (by decide) (fun b72 => ?_) (fun b72 => ?_)
          · skip
            have q72 : r33.toInt = -1 := by rw [b72]; decide
            refine lv_iinc (v := (nI (i + 1))) (lv' := [(5, .int (nI (i + 1))), (7, .int 1), (6, .int r33), (0, .ref (ad 3)), (1, .int (nI j)), (2, .int 0), (3, .int en_), (4, .int (nI (gr_adj G j).length))]) hx hb dX0_enoughAt_88 hl (k := 7) rfl (nI_1 _) (by decide) rfl (fun ls hl => ?_)
            refine lv_goto (tgt := 15) hx hb dX0_enoughAt_91 (by decide) ?_
            exact ih15 (i + 1) en_ _ (by omega) (by omega) (by rw [hts_]; exact en_keep hen w33 (by first | exact Or.inl q72 | exact Or.inr ⟨q77, fun q => (by first | omega | (cases q)), fun q => (by first | omega | (cases q))⟩)) (lv_sub hl [3, 4, 5, 6, 7, 0] rfl)
          · skip
            have q72 : ¬ r33.toInt = -1 := fun q => b72 (i_eq (by rw [q]; decide))
            refine lv_iload_n hx hb dX0_enoughAt_75 rfl (lv_at hl 5 rfl) ?_
            refine lv_iconst (v := (-1)) hx hb dX0_enoughAt_76 (by decide) ?_
            refine lv_icmp_eq (tgt := 85) hx hb dX0_enoughAt_77 (by decide) (fun b77 => ?_) (fun b77 => ?_)
            · skip
              have q77 : en_.toInt = -1 := by rw [b77]; decide
              refine lv_iload hx hb dX0_enoughAt_85 (lv_at hl 1 rfl) ?_
              refine lv_istore_n (lv' := [(3, .int r33), (7, .int 1), (6, .int r33), (0, .ref (ad 3)), (1, .int (nI j)), (2, .int 0), (4, .int (nI (gr_adj G j).length)), (5, .int (nI i))]) hx hb dX0_enoughAt_87 rfl hl (by decide) rfl (fun ls hl => ?_)
              refine lv_iinc (v := (nI (i + 1))) (lv' := [(5, .int (nI (i + 1))), (3, .int r33), (7, .int 1), (6, .int r33), (0, .ref (ad 3)), (1, .int (nI j)), (2, .int 0), (4, .int (nI (gr_adj G j).length))]) hx hb dX0_enoughAt_88 hl (k := 7) rfl (nI_1 _) (by decide) rfl (fun ls hl => ?_)
              refine lv_goto (tgt := 15) hx hb dX0_enoughAt_91 (by decide) ?_
              exact ih15 (i + 1) r33 _ (by omega) (by omega) (by rw [hts_]; exact en_take hen w33 q72 (by first | exact Or.inl q77 | exact Or.inr ⟨fun q => (by first | omega | (cases q)), fun q => (by first | omega | (cases q))⟩)) (lv_sub hl [4, 5, 6, 1, 7, 0] rfl)
            · skip
              have q77 : ¬ en_.toInt = -1 := fun q => b77 (i_eq (by rw [q]; decide))
              refine lv_iload hx hb dX0_enoughAt_80 (lv_at hl 0 rfl) ?_
              refine lv_if_eq (tgt := 88) hx hb dX0_enoughAt_82 (by decide) (fun b82 => absurd b82 (by decide)) (fun b82 => ?_)
              refine lv_iload hx hb dX0_enoughAt_85 (lv_at hl 1 rfl) ?_
              refine lv_istore_n (lv' := [(3, .int r33), (7, .int 1), (6, .int r33), (0, .ref (ad 3)), (1, .int (nI j)), (2, .int 0), (4, .int (nI (gr_adj G j).length)), (5, .int (nI i))]) hx hb dX0_enoughAt_87 rfl hl (by decide) rfl (fun ls hl => ?_)
              refine lv_iinc (v := (nI (i + 1))) (lv' := [(5, .int (nI (i + 1))), (3, .int r33), (7, .int 1), (6, .int r33), (0, .ref (ad 3)), (1, .int (nI j)), (2, .int 0), (4, .int (nI (gr_adj G j).length))]) hx hb dX0_enoughAt_88 hl (k := 7) rfl (nI_1 _) (by decide) rfl (fun ls hl => ?_)
              refine lv_goto (tgt := 15) hx hb dX0_enoughAt_91 (by decide) ?_
              exact ih15 (i + 1) r33 _ (by omega) (by omega) (by rw [hts_]; exact en_take hen w33 q72 (by first | exact Or.inl q77 | exact Or.inr ⟨fun q => (by first | omega | (cases q)), fun q => (by first | omega | (cases q))⟩)) (lv_sub hl [4, 5, 6, 1, 7, 0] rfl)
  exact key15 ((gr_adj G j).length + 1) 0 (-1) _ (by omega) (by omega) (by rw [List.take_zero]; exact en_nil) (lv_sub hl [3, 4, 5, 2, 1, 0] rfl)
