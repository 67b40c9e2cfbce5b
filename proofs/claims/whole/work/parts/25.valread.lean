theorem lp_eq {d : Nat} {x : Int32} (h1 : 1 ≤ d) (h7 : d ≤ 7) (hx1 : -(9 * (d : Int)) ≤ x.toInt) (hx2 : x.toInt ≤ 9 * (d : Int)) : ((420 : Int32) / (nI d) * x).toInt = ((420 / d : Nat) : Int) * x.toInt := by
  have e : (420 : Int32) / nI d = nI (420 / d) := pk_div (a := 420) (by omega) (by omega) (by omega)
  have e2 : (nI (420 / d)).toInt = ((420 / d : Nat) : Int) := nI_toInt (by have := Nat.div_le_self 420 d; omega)
  have hb := gm_leaf_bd h1 h7 hx1 hx2
  rw [e, i_mul (by rw [e2]; omega) (by rw [e2]; omega), e2]
/-! ===== CreditGame$Values: what only reads; forget ===== -/
theorem iw_X3_partsOf_X3 : ∀ w ∈ wsX30, w ∈ wsX3_partsOf := by decide +kernel
set_option maxHeartbeats 4000000 in
set_option maxRecDepth 100000 in
/--  -/
theorem ct_partsOf (l : Launch) (en : en_T) (ad : Nat → Nat) (c : Nat → Nat → Int32) {G : gr_T} (hg : gi G c) (j : Nat) (hj : j < 7) : Met l yX3_partsOf wsX3_partsOf (rm_ 3 0 0) (ct_Pc en [.ref (ad 2), .int (nI j)] (fun H => va_P en.1 vwCl (xw en ad c) H)) (ro_Qi (fun r => r = if j < gr_n G then c 13 j else 0)) 0 0 (fun _ => False) := by
  refine Met.ofW (cc := cX3_partsOf) (maxL := 2) (ret := (some .int)) (by decide) rfl ?_
  intro p e s m args below meth co s₁ B hml hv
  obtain ⟨rfl, hE, hP⟩ := hv
  have hx := B.exec
  have hb := B.bytes
  have hr := B.returns
  have hts := atoms_spec (ws := wsX3_partsOf) B.pre
  have hown : s.vm.findClass RX3 = some m.cls := findClass_of_methodNamed B.named
  have hlocks := B.notSynchronized
  have hl := lv_entry ([.ref (ad 2), .int (nI j)]) (n := 2) (Nat.le_of_ble_eq_true rfl)
  rw [lg_entry_eq]
  generalize (lg_sl ([.ref (ad 2), .int (nI j)]) ++ List.replicate (2 - (lg_sl ([.ref (ad 2), .int (nI j)])).length) Slot.unset).toArray = ls at hl ⊢
  have hl : lv_has ls 2 [(0, .ref (ad 2)), (1, .int (nI j))] := hl
  refine lv_aload_n hx hb dX3_partsOf_0 rfl (lv_at hl 0 rfl) ?_
  refine va_get (D := en.1) (ci := 3) (v := .ref (ad 1)) (C := RX3) (T := TX3) (N := 4) hx hb hts iw_X3_partsOf_X3 hown hE.1 hP 2 rfl rfl 0 (by decide) (hts (.fieldLink RX3 26 "CreditGame$Values" "graph" "LCreditGame$Graph;") (by decide +kernel)) (fun _ h9 => h9) rfl dX3_partsOf_1 ?_
  refine lv_iload_n hx hb dX3_partsOf_4 rfl (lv_at hl 1 rfl) ?_
  refine ro_calli (va_runVN (As := [.int (nI j)]) (rest := []) ⟨hx, hb, hml, hown, hts⟩ (ct_hasVertex l en ad c hg (nI j)) ⟨va_cnB 1 hts gX3_partsOf_X1_hasVertex_n34 rfl rfl rfl (hE.2 _ (List.mem_of_getElem? (i := 37) rfl)) (hts (.initialized RX1) (by decide +kernel)) (by decide +kernel) ⟨Nat.le_of_ble_eq_true rfl, Nat.le_of_ble_eq_true rfl⟩, hts (.instanceMethod yX1_hasVertex) (by decide +kernel), hts (.selects RX1 yX1_hasVertex yX1_hasVertex) (by decide +kernel)⟩ (ct_preV hE (va_recv hE.1 hP (ci := 1) (q0 := 1) rfl rfl) hP) rfl rfl hl.1 rfl (lv_room (Nat.le_of_ble_eq_true rfl)) dX3_partsOf_5 ⟨Nat.le_of_ble_eq_true rfl, Nat.le_of_ble_eq_true rfl⟩) (fun r5 w5 => ?_)
  refine lv_if_eq (tgt := 20) hx hb dX3_partsOf_8 (by decide) (fun b8 => ?_) (fun b8 => ?_)
  · skip
    refine lv_iconst (v := 0) hx hb dX3_partsOf_20 (by decide) ?_
    exact W.iret (v := 0) hx hb hr (fun t ht hW => ⟨_, rfl, (by first | exact (if_neg (hv_nlt w5 b8)).symm | exact (if_pos (hv_lt hg.n7 (by omega) w5 b8)).symm), ht⟩) (fun q h => by cases h) dX3_partsOf_21
  · skip
    refine lv_aload_n hx hb dX3_partsOf_11 rfl (lv_at hl 0 rfl) ?_
    refine va_get (D := en.1) (ci := 3) (v := .ref (ad 13)) (C := RX3) (T := TX3) (N := 4) hx hb hts iw_X3_partsOf_X3 hown hE.1 hP 2 rfl rfl 3 (by decide) (hts (.fieldLink RX3 22 "CreditGame$Values" "parts" "[I") (by decide +kernel)) (fun _ h9 => h9) rfl dX3_partsOf_12 ?_
    refine lv_iload_n hx hb dX3_partsOf_15 rfl (lv_at hl 1 rfl) ?_
    refine xr_ild hx hb hE hP 13 (by decide) j rfl (show _ < 7 by omega) dX3_partsOf_16 ?_
    refine lv_goto (tgt := 21) hx hb dX3_partsOf_17 (by decide) ?_
    exact W.iret (v := (c 13 j)) hx hb hr (fun t ht hW => ⟨_, rfl, (by first | exact (if_neg (hv_nlt w5 b8)).symm | exact (if_pos (hv_lt hg.n7 (by omega) w5 b8)).symm), ht⟩) (fun q h => by cases h) dX3_partsOf_21
set_option maxHeartbeats 4000000 in
set_option maxRecDepth 100000 in
/--  -/
theorem ct_order (l : Launch) (en : en_T) (ad : Nat → Nat) (c : Nat → Nat → Int32) {G : gr_T} (hg : gi G c) (j : Nat) (hj : j < 7) (x y : Int32) : Met l yX3_order wsX3_order (rm_ 4 0 0) (ct_Pc en [.ref (ad 2), .int (nI j), .int x, .int y] (fun H => va_P en.1 vwCl (xw en ad c) H)) (ro_Qi (fun r => r = if (if j < gr_n G then c 13 j else 0) * y < x * 420 then -1 else if (if j < gr_n G then c 13 j else 0) * y = x * 420 then 0 else 1)) 0 0 (fun _ => False) := by
  refine Met.ofW (cc := cX3_order) (maxL := 4) (ret := (some .int)) (by decide) rfl ?_
  intro p e s m args below meth co s₁ B hml hv
  obtain ⟨rfl, hE, hP⟩ := hv
  have hx := B.exec
  have hb := B.bytes
  have hr := B.returns
  have hts := atoms_spec (ws := wsX3_order) B.pre
  have hown : s.vm.findClass RX3 = some m.cls := findClass_of_methodNamed B.named
  have hlocks := B.notSynchronized
  have hl := lv_entry ([.ref (ad 2), .int (nI j), .int x, .int y]) (n := 4) (Nat.le_of_ble_eq_true rfl)
  rw [lg_entry_eq]
  generalize (lg_sl ([.ref (ad 2), .int (nI j), .int x, .int y]) ++ List.replicate (4 - (lg_sl ([.ref (ad 2), .int (nI j), .int x, .int y])).length) Slot.unset).toArray = ls at hl ⊢
  have hl : lv_has ls 4 [(0, .ref (ad 2)), (1, .int (nI j)), (2, .int x), (3, .int y)] := hl
  refine lv_aload_n hx hb dX3_order_0 rfl (lv_at hl 0 rfl) ?_
  refine lv_iload_n hx hb dX3_order_1 rfl (lv_at hl 1 rfl) ?_
  refine ro_calli (va_runV (As := [.int (nI j)]) (rest := []) ⟨hx, hb, hml, hown, hts⟩ (ct_partsOf l en ad c hg j hj) (cwV 1 hts gX3_order_X3_partsOf rfl rfl rfl (by decide +kernel) ⟨Nat.le_of_ble_eq_true rfl, Nat.le_of_ble_eq_true rfl⟩) (ct_preV hE (va_recv hE.1 hP (ci := 3) (q0 := 2) rfl rfl) hP) rfl rfl hl.1 rfl (lv_room (Nat.le_of_ble_eq_true rfl)) dX3_order_2 ⟨Nat.le_of_ble_eq_true rfl, Nat.le_of_ble_eq_true rfl⟩) (fun r2 w2 => ?_)
  obtain rfl : r2 = (if j < gr_n G then c 13 j else 0) := w2
  refine lv_iload_n hx hb dX3_order_5 rfl (lv_at hl 3 rfl) ?_
  refine lv_imul hx hb dX3_order_6 ?_
  refine lv_iload_n hx hb dX3_order_7 rfl (lv_at hl 2 rfl) ?_
  refine lv_sipush (v := 420) hx hb dX3_order_8 (by decide) ?_
  refine lv_imul hx hb dX3_order_11 ?_
  refine ro_calli (va_runS (As := [.int ((if j < gr_n G then c 13 j else 0) * y), .int (x * 420)]) (rest := []) ⟨hx, hb, hml, hown, hts⟩ (ct_compare l en ad c _ _) (va_cwS 2 hts gX3_order_J6_compare_7cf53 rfl rfl rfl (by decide +kernel) ⟨Nat.le_of_ble_eq_true rfl, Nat.le_of_ble_eq_true rfl⟩) (ct_preS hE trivial) rfl rfl hl.1 rfl (lv_room (Nat.le_of_ble_eq_true rfl)) dX3_order_12 ⟨Nat.le_of_ble_eq_true rfl, Nat.le_of_ble_eq_true rfl⟩) (fun r12 w12 => ?_)
  exact W.iret (v := r12) hx hb hr (fun t ht hW => ⟨_, rfl, w12, ht⟩) (fun q h => by cases h) dX3_order_15
set_option maxHeartbeats 4000000 in
set_option maxRecDepth 100000 in
/--  -/
theorem ct_loopParts (l : Launch) (en : en_T) (ad : Nat → Nat) (c : Nat → Nat → Int32) (d : Nat) (h1 : 1 ≤ d) (h7 : d ≤ 7) (x : Int32) (hx1 : -(9 * (d : Int)) ≤ x.toInt) (hx2 : x.toInt ≤ 9 * (d : Int)) : Met l yX3_loopParts wsX3_loopParts (rm_ 1 0 0) (ct_Pc en [.int (nI d), .int x] (fun H => True)) (ro_Qi (fun r => r.toInt = ((420 / d : Nat) : Int) * x.toInt)) 0 0 (fun _ => False) := by
  refine Met.ofW (cc := cX3_loopParts) (maxL := 2) (ret := (some .int)) (by decide) rfl ?_
  intro p e s m args below meth co s₁ B hml hv
  obtain ⟨rfl, hE, hP⟩ := hv
  have hx := B.exec
  have hb := B.bytes
  have hr := B.returns
  have hts := atoms_spec (ws := wsX3_loopParts) B.pre
  have hown : s.vm.findClass RX3 = some m.cls := findClass_of_methodNamed B.named
  have hlocks := B.notSynchronized
  have hl := lv_entry ([.int (nI d), .int x]) (n := 2) (Nat.le_of_ble_eq_true rfl)
  rw [lg_entry_eq]
  generalize (lg_sl ([.int (nI d), .int x]) ++ List.replicate (2 - (lg_sl ([.int (nI d), .int x])).length) Slot.unset).toArray = ls at hl ⊢
  have hl : lv_has ls 2 [(0, .int (nI d)), (1, .int x)] := hl
  refine lv_iload_n hx hb dX3_loopParts_0 rfl (lv_at hl 0 rfl) ?_
  refine lv_if_le (tgt := 14) hx hb dX3_loopParts_1 (by decide) (fun b1 => absurd b1 (nI_nle (by omega) (by omega))) (fun b1 => ?_)
  refine lv_sipush (v := 420) hx hb dX3_loopParts_4 (by decide) ?_
  refine lv_iload_n hx hb dX3_loopParts_7 rfl (lv_at hl 0 rfl) ?_
  refine lv_idiv hx hb dX3_loopParts_8 (nI_ne0 (by omega) (by omega)) ?_
  refine lv_iload_n hx hb dX3_loopParts_9 rfl (lv_at hl 1 rfl) ?_
  refine lv_imul hx hb dX3_loopParts_10 ?_
  refine lv_goto (tgt := 15) hx hb dX3_loopParts_11 (by decide) ?_
  exact W.iret (v := ((420 / (nI d)) * x)) hx hb hr (fun t ht hW => ⟨_, rfl, (lp_eq h1 h7 hx1 hx2), ht⟩) (fun q h => by cases h) dX3_loopParts_15
theorem iw_X3_forget_X3 : ∀ w ∈ wsX30, w ∈ wsX3_forget := by decide +kernel
set_option maxHeartbeats 4000000 in
set_option maxRecDepth 100000 in
/-- no value is known -/
theorem ct_forget (l : Launch) (en : en_T) (ad : Nat → Nat) (c : Nat → Nat → Int32) (hI : xw_I ad) (sz : Nat)  : Met l yX3_forget wsX3_forget (rm_ 1 0 0) (ct_Pc en [.ref (ad 2)] (fun H => H.size = sz ∧ va_P en.1 vwCl (xw en ad c) H)) (va_Qv (fun c' => kx [12] c c' ∧ ∀ j, j < 7 → c' 12 j = 0) (fun c' t => va_P en.1 vwCl (xw en ad c') t.heap) (xw_A ad sz)) 0 0 (xw_A ad sz) := by
  refine Met.ofW (cc := cX3_forget) (maxL := 2) (ret := none) (by decide) rfl ?_
  intro p e s m args below meth co s₁ B hml hv
  obtain ⟨rfl, hE, hsz, hP⟩ := hv
  subst hsz
  have hx := B.exec
  have hb := B.bytes
  have hr := B.returns
  have hts := atoms_spec (ws := wsX3_forget) B.pre
  have hown : s.vm.findClass RX3 = some m.cls := findClass_of_methodNamed B.named
  have hlocks := B.notSynchronized
  have hS : va_S (xw_A ad s.heap.size) s.heap s.heap [] := va_S.rf
  have hl := lv_entry ([.ref (ad 2)]) (n := 2) (Nat.le_of_ble_eq_true rfl)
  rw [lg_entry_eq]
  generalize (lg_sl ([.ref (ad 2)]) ++ List.replicate (2 - (lg_sl ([.ref (ad 2)])).length) Slot.unset).toArray = ls at hl ⊢
  have hl : lv_has ls 2 [(0, .ref (ad 2))] := hl
  refine lv_iconst (v := (nI 0)) hx hb dX3_forget_0 (by decide) ?_
  refine lv_istore_n (lv' := [(1, .int (nI 0)), (0, .ref (ad 2))]) hx hb dX3_forget_1 rfl hl (by decide) rfl (fun ls hl => ?_)
  have key2 : ∀ (n_ : Nat) (i : Nat) (c_ : Nat → Nat → Int32) (H : Heap) (locs : List Loc) (ls : Array Slot), i ≤ 7 → 7 + 1 ≤ i + n_ → kx [12] c c_ → (∀ j, j < i → c_ 12 j = 0) → va_P en.1 vwCl (xw en ad c_) H → va_S (xw_A ad s.heap.size) s.heap H locs → lv_has ls 2 [(0, .ref (ad 2)), (1, .int (nI i))] → W p l e (headSpec wsX3_forget (rm_ 1 0 0)).room s m ([.ref (ad 2)] : List Value).toArray below meth co H locs 0 0 (MQ below (va_Qv (fun c' => kx [12] c c' ∧ ∀ j, j < 7 → c' 12 j = 0) (fun c' t => va_P en.1 vwCl (xw en ad c') t.heap) (xw_A ad s.heap.size)) ([.ref (ad 2)] : List Value).toArray s 0 0 (xw_A ad s.heap.size)) (F0 m 2 ls []) := by
    intro n_
    induction n_ with
    | zero =>
      intro i c_ H locs ls hi hin hc hf hP hS hl
      exact absurd hin (by omega)
    | succ n_ ih2 =>
      intro i c_ H locs ls hi hin hc hf hP hS hl
      refine lv_iload_n hx hb dX3_forget_2 rfl (lv_at hl 1 rfl) ?_
      refine lv_bipush (v := (nI 7)) hx hb dX3_forget_3 (by decide) ?_
      refine lv_icmp_ge (tgt := 21) hx hb dX3_forget_5 (by decide) (fun b5 => ?_) (fun b5 => ?_)
      · skip
        have hin2 : i = 7 := by
          rcases Nat.lt_or_ge i 7 with q | q
          · exact absurd b5 (nI_ge q (by omega))
          · omega
        subst hin2
        exact W.vret hx hb hr (fun t ht hW => ⟨⟨c_, rfl, ⟨hc, hf⟩, by show va_P _ _ _ t.heap; rw [ht]; exact hP⟩, hS.F ht⟩) hS.2.2 dX3_forget_21
      · skip
        have hlt : i < 7 := by
          rcases Nat.lt_or_ge i 7 with q | q
          · exact q
          · exact absurd (nI_le q (by omega)) b5
        refine lv_aload_n hx hb dX3_forget_8 rfl (lv_at hl 0 rfl) ?_
        refine va_get (D := en.1) (ci := 3) (v := .ref (ad 12)) (C := RX3) (T := TX3) (N := 4) hx hb hts iw_X3_forget_X3 hown hE.1 hP 2 rfl rfl 2 (by decide) (hts (.fieldLink RX3 18 "CreditGame$Values" "known" "[Z") (by decide +kernel)) (fun _ h9 => h9) rfl dX3_forget_9 ?_
        refine lv_iload_n hx hb dX3_forget_12 rfl (lv_at hl 1 rfl) ?_
        refine lv_iconst (v := 0) hx hb dX3_forget_13 (by decide) ?_
        refine xr_zst hx hb hE hP hI hS i rfl (by omega) dX3_forget_14 (fun H locs hP hS => ?_)
        obtain ⟨c14, ec14⟩ : ∃ z : Nat → Nat → Int32, z = va_up c_ 12 (upd (c_ 12) i (vp_nar .boolean 0)) := ⟨_, rfl⟩
        rw [← ec14] at hP
        refine lv_iinc (v := (nI (i + 1))) (lv' := [(1, .int (nI (i + 1))), (0, .ref (ad 2))]) hx hb dX3_forget_15 hl (k := 1) rfl (nI_1 _) (by decide) rfl (fun ls hl => ?_)
        refine lv_goto (tgt := 2) hx hb dX3_forget_18 (by decide) ?_
        exact ih2 (i + 1) c14 _ _ _ (by omega) (by omega) (by rw [ec14]; exact hc.tr (kx.up (by decide))) (fun j h => by rw [ec14, up_at]; by_cases hj : j = i; rw [hj, ud_at]; rfl; rw [ud_ne hj]; exact hf j (by omega)) hP hS (lv_sub hl [1, 0] rfl)
  exact key2 (7 + 1) 0 c _ _ _ (by omega) (by omega) kx.rf (fun j h => absurd h (Nat.not_lt_zero j)) hP hS (lv_sub hl [1, 0] rfl)
