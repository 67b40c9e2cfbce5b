/-! ===== CreditGame$Path; Arrays.fill, Integer.compare ===== -/
theorem up_self (c : Nat → Nat → Int32) (k : Nat) : va_up c k (c k) = c := funext fun j => by
  unfold va_up
  split
  · rename_i h; rw [h]
  · rfl
theorem up_at {α : Type} (f : Nat → α) (k : Nat) (v : α) : va_up f k v k = v := if_pos rfl
theorem up_ne {α : Type} {f : Nat → α} {j k : Nat} {v : α} (h : j ≠ k) : va_up f k v j = f j := if_neg h
theorem ud_at (f : Nat → Int32) (k : Nat) (x : Int32) : upd f k x k = x := pk_us
theorem ud_ne {f : Nat → Int32} {j k : Nat} {x : Int32} (h : j ≠ k) : upd f k x j = f j := pk_un h
section XL
variable {p : Program} {l : Launch} {e : Env} {R : Room} {s : State} {m : MethodId} {args : Array Value} {below : List Frame} {meth : Method} {co : Code} {H : Heap} {locs : List Loc} {cells slots : Nat} {Q : State → Prop}
variable {cc : ByteArray} {pc : Nat} {ls : Array Slot} {rest : List Value} {en : en_T} {ad : Nat → Nat} {c : Nat → Nat → Int32}
theorem xr_len (hexec : p.tables.exec = Jvm.exec) (hb : co.code = cc) (hE : en_ok en s) (hP : va_P en.1 vwCl (xw en ad c) H) (k : Nat) (hk : 0 < xw_l k) (hdg : decode cc pc = .ok (.arraylength, 1))
    (kk : W p l e R s m args below meth co H locs cells slots Q (F0 m (pc + 1) ls (.int (nI (xw_l k)) :: rest))) : W p l e R s m args below meth co H locs cells slots Q (F0 m pc ls (.ref (ad k) :: rest)) :=
  va_alen hexec hb hE.1 hP k 0 (xw_at k hk) rfl rfl hdg kk
end XL
theorem xw_l24 (k : Nat) : xw_l k ≤ 24 := by unfold xw_l; split <;> omega
set_option maxHeartbeats 4000000 in
set_option maxRecDepth 100000 in
/-- all places are x -/
theorem ct_fill (l : Launch) (en : en_T) (ad : Nat → Nat) (c : Nat → Nat → Int32) (hI : xw_I ad) (sz : Nat) (K : Nat) (hK : 0 < xw_l K) (x : Int32) : Met l yJ7_fill_53178 wsJ7_fill_53178 (rm_ 1 0 0) (ct_Pc en [.ref (ad K), .int x] (fun H => H.size = sz ∧ va_P en.1 vwCl (xw en ad c) H)) (va_Qv (fun c' => ∃ f : Nat → Int32, c' = va_up c K f ∧ ∀ j, j < xw_l K → f j = x) (fun c' t => va_P en.1 vwCl (xw en ad c') t.heap) (xw_A ad sz)) 0 0 (xw_A ad sz) := by
  refine Met.ofW (cc := cJ7_fill_53178) (maxL := 4) (ret := none) (by decide) rfl ?_
  intro p e s m args below meth co s₁ B hml hv
  obtain ⟨rfl, hE, hsz, hP⟩ := hv
  subst hsz
  have hx := B.exec
  have hb := B.bytes
  have hr := B.returns
  have hts := atoms_spec (ws := wsJ7_fill_53178) B.pre
  have hown : s.vm.findClass RJ7 = some m.cls := findClass_of_methodNamed B.named
  have hlocks := B.notSynchronized
  have hS : va_S (xw_A ad s.heap.size) s.heap s.heap [] := va_S.rf
  have hl := lv_entry ([.ref (ad K), .int x]) (n := 4) (Nat.le_of_ble_eq_true rfl)
  rw [lg_entry_eq]
  generalize (lg_sl ([.ref (ad K), .int x]) ++ List.replicate (4 - (lg_sl ([.ref (ad K), .int x])).length) Slot.unset).toArray = ls at hl ⊢
  have hl : lv_has ls 4 [(0, .ref (ad K)), (1, .int x)] := hl
  refine lv_iconst (v := (nI 0)) hx hb dJ7_fill_53178_0 (by decide) ?_
  refine lv_istore_n (lv' := [(2, .int (nI 0)), (0, .ref (ad K)), (1, .int x)]) hx hb dJ7_fill_53178_1 rfl hl (by decide) rfl (fun ls hl => ?_)
  refine lv_aload_n hx hb dJ7_fill_53178_2 rfl (lv_at hl 1 rfl) ?_
  refine xr_len hx hb hE hP K hK dJ7_fill_53178_3 ?_
  refine lv_istore_n (lv' := [(3, .int (nI (xw_l K))), (2, .int (nI 0)), (0, .ref (ad K)), (1, .int x)]) hx hb dJ7_fill_53178_4 rfl hl (by decide) rfl (fun ls hl => ?_)
  have key5 : ∀ (n_ : Nat) (i : Nat) (f : Nat → Int32) (c_ : Nat → Nat → Int32) (H : Heap) (locs : List Loc) (ls : Array Slot), i ≤ xw_l K → xw_l K + 1 ≤ i + n_ → c_ = va_up c K f → (∀ j, j < i → f j = x) → va_P en.1 vwCl (xw en ad c_) H → va_S (xw_A ad s.heap.size) s.heap H locs → lv_has ls 4 [(0, .ref (ad K)), (1, .int x), (2, .int (nI i)), (3, .int (nI (xw_l K)))] → W p l e (headSpec wsJ7_fill_53178 (rm_ 1 0 0)).room s m ([.ref (ad K), .int x] : List Value).toArray below meth co H locs 0 0 (MQ below (va_Qv (fun c' => ∃ f : Nat → Int32, c' = va_up c K f ∧ ∀ j, j < xw_l K → f j = x) (fun c' t => va_P en.1 vwCl (xw en ad c') t.heap) (xw_A ad s.heap.size)) ([.ref (ad K), .int x] : List Value).toArray s 0 0 (xw_A ad s.heap.size)) (F0 m 5 ls []) := by
    intro n_
    induction n_ with
    | zero =>
      intro i f c_ H locs ls hi hin hc hf hP hS hl
      exact absurd hin (by omega)
    | succ n_ ih5 =>
      intro i f c_ H locs ls hi hin hc hf hP hS hl
      refine lv_iload_n hx hb dJ7_fill_53178_5 rfl (lv_at hl 2 rfl) ?_
      refine lv_iload_n hx hb dJ7_fill_53178_6 rfl (lv_at hl 3 rfl) ?_
      refine lv_icmp_ge (tgt := 20) hx hb dJ7_fill_53178_7 (by decide) (fun b7 => ?_) (fun b7 => ?_)
      · skip
        have hin2 : i = xw_l K := by
          rcases Nat.lt_or_ge i (xw_l K) with q | q
          · exact absurd b7 (nI_ge q (by have := xw_l24 K; omega))
          · omega
        subst hin2
        exact W.vret hx hb hr (fun t ht hW => ⟨⟨c_, rfl, ⟨f, hc, hf⟩, by show va_P _ _ _ t.heap; rw [ht]; exact hP⟩, hS.F ht⟩) hS.2.2 dJ7_fill_53178_20
      · skip
        have hlt : i < xw_l K := by
          rcases Nat.lt_or_ge i (xw_l K) with q | q
          · exact q
          · exact absurd (nI_le q (by have := xw_l24 K; omega)) b7
        refine lv_aload_n hx hb dJ7_fill_53178_10 rfl (lv_at hl 0 rfl) ?_
        refine lv_iload_n hx hb dJ7_fill_53178_11 rfl (lv_at hl 2 rfl) ?_
        refine lv_iload_n hx hb dJ7_fill_53178_12 rfl (lv_at hl 1 rfl) ?_
        refine xr_ist hx hb hE hP hI hS K hK i rfl hlt dJ7_fill_53178_13 (fun H locs hP hS => ?_)
        obtain ⟨c13, ec13⟩ : ∃ z : Nat → Nat → Int32, z = va_up c_ K (upd (c_ K) i x) := ⟨_, rfl⟩
        rw [← ec13] at hP
        refine lv_iinc (v := (nI (i + 1))) (lv' := [(2, .int (nI (i + 1))), (0, .ref (ad K)), (1, .int x), (3, .int (nI (xw_l K)))]) hx hb dJ7_fill_53178_14 hl (k := 2) rfl (nI_1 _) (by decide) rfl (fun ls hl => ?_)
        refine lv_goto (tgt := 5) hx hb dJ7_fill_53178_17 (by decide) ?_
        exact ih5 (i + 1) (upd (c_ K) i x) c13 _ _ _ (by omega) (by omega) (by rw [ec13, hc, bx_uu]) (fun j h => by by_cases hj : j = i; rw [hj, ud_at]; rw [ud_ne hj, hc, up_at]; exact hf j (by omega)) hP hS (lv_sub hl [1, 2, 0, 3] rfl)
  exact key5 (xw_l K + 1) 0 (c K) c _ _ _ (Nat.zero_le _) (by omega) (up_self c K).symm (fun j h => absurd h (Nat.not_lt_zero j)) hP hS (lv_sub hl [2, 3, 1, 0] rfl)
set_option maxHeartbeats 4000000 in
set_option maxRecDepth 100000 in
/--  -/
theorem ct_compare (l : Launch) (en : en_T) (ad : Nat → Nat) (c : Nat → Nat → Int32) (x y : Int32) : Met l yJ6_compare_7cf53 wsJ6_compare_7cf53 (rm_ 1 0 0) (ct_Pc en [.int x, .int y] (fun H => True)) (ro_Qi (fun r => r = if x < y then -1 else if x = y then 0 else 1)) 0 0 (fun _ => False) := by
  refine Met.ofW (cc := cJ6_compare_7cf53) (maxL := 2) (ret := (some .int)) (by decide) rfl ?_
  intro p e s m args below meth co s₁ B hml hv
  obtain ⟨rfl, hE, hP⟩ := hv
  have hx := B.exec
  have hb := B.bytes
  have hr := B.returns
  have hts := atoms_spec (ws := wsJ6_compare_7cf53) B.pre
  have hown : s.vm.findClass RJ6 = some m.cls := findClass_of_methodNamed B.named
  have hlocks := B.notSynchronized
  have hl := lv_entry ([.int x, .int y]) (n := 2) (Nat.le_of_ble_eq_true rfl)
  rw [lg_entry_eq]
  generalize (lg_sl ([.int x, .int y]) ++ List.replicate (2 - (lg_sl ([.int x, .int y])).length) Slot.unset).toArray = ls at hl ⊢
  have hl : lv_has ls 2 [(0, .int x), (1, .int y)] := hl
  refine lv_iload_n hx hb dJ6_compare_7cf53_0 rfl (lv_at hl 0 rfl) ?_
  refine lv_iload_n hx hb dJ6_compare_7cf53_1 rfl (lv_at hl 1 rfl) ?_
  refine lv_icmp_ge (tgt := 9) hx hb dJ6_compare_7cf53_2 (by decide) (fun b2 => ?_) (fun b2 => ?_)
  · skip
    refine lv_iload_n hx hb dJ6_compare_7cf53_9 rfl (lv_at hl 0 rfl) ?_
    refine lv_iload_n hx hb dJ6_compare_7cf53_10 rfl (lv_at hl 1 rfl) ?_
    refine lv_icmp_ne (tgt := 18) hx hb dJ6_compare_7cf53_11 (by decide) (fun b11 => ?_) (fun b11 => ?_)
    · skip
      refine lv_iconst (v := 1) hx hb dJ6_compare_7cf53_18 (by decide) ?_
      exact W.iret (v := 1) hx hb hr (fun t ht hW => ⟨_, rfl, (by first | (rw [if_pos (Int32.not_le.mp b2)]) | (rw [if_neg (Int32.not_lt.mpr b2), if_pos b11]) | (rw [if_neg (Int32.not_lt.mpr b2), if_neg b11])), ht⟩) (fun q h => by cases h) dJ6_compare_7cf53_19
    · skip
      refine lv_iconst (v := 0) hx hb dJ6_compare_7cf53_14 (by decide) ?_
      refine lv_goto (tgt := 19) hx hb dJ6_compare_7cf53_15 (by decide) ?_
      exact W.iret (v := 0) hx hb hr (fun t ht hW => ⟨_, rfl, (by first | (rw [if_pos (Int32.not_le.mp b2)]) | (rw [if_neg (Int32.not_lt.mpr b2), if_pos b11]) | (rw [if_neg (Int32.not_lt.mpr b2), if_neg b11])), ht⟩) (fun q h => by cases h) dJ6_compare_7cf53_19
  · skip
    refine lv_iconst (v := (-1)) hx hb dJ6_compare_7cf53_5 (by decide) ?_
    refine lv_goto (tgt := 19) hx hb dJ6_compare_7cf53_6 (by decide) ?_
    exact W.iret (v := (-1)) hx hb hr (fun t ht hW => ⟨_, rfl, (by first | (rw [if_pos (Int32.not_le.mp b2)]) | (rw [if_neg (Int32.not_lt.mpr b2), if_pos b11]) | (rw [if_neg (Int32.not_lt.mpr b2), if_neg b11])), ht⟩) (fun q h => by cases h) dJ6_compare_7cf53_19
set_option maxHeartbeats 4000000 in
set_option maxRecDepth 100000 in
/--  -/
theorem ct_isPlace_w (l : Launch) (en : en_T) (ad : Nat → Nat) (c : Nat → Nat → Int32) (j : Nat) (hj : j < 7) : Met l yX2_isPlace wsX2_isPlace (rm_ 1 0 0) (ct_Pc en [.ref (ad 4), .int (nI j)] (fun H => va_P en.1 vwCl (xw en ad c) H)) (ro_Qi (fun r => r = 1)) 0 0 (fun _ => False) := by
  refine Met.ofW (cc := cX2_isPlace) (maxL := 2) (ret := (some .boolean)) (by decide) rfl ?_
  intro p e s m args below meth co s₁ B hml hv
  obtain ⟨rfl, hE, hP⟩ := hv
  have hx := B.exec
  have hb := B.bytes
  have hr := B.returns
  have hts := atoms_spec (ws := wsX2_isPlace) B.pre
  have hown : s.vm.findClass RX2 = some m.cls := findClass_of_methodNamed B.named
  have hlocks := B.notSynchronized
  have hl := lv_entry ([.ref (ad 4), .int (nI j)]) (n := 2) (Nat.le_of_ble_eq_true rfl)
  rw [lg_entry_eq]
  generalize (lg_sl ([.ref (ad 4), .int (nI j)]) ++ List.replicate (2 - (lg_sl ([.ref (ad 4), .int (nI j)])).length) Slot.unset).toArray = ls at hl ⊢
  have hl : lv_has ls 2 [(0, .ref (ad 4)), (1, .int (nI j))] := hl
  refine lv_iload_n hx hb dX2_isPlace_0 rfl (lv_at hl 1 rfl) ?_
  refine lv_if_lt (tgt := 14) hx hb dX2_isPlace_1 (by decide) (fun b1 => absurd b1 (nI_pos (by omega))) (fun b1 => ?_)
  refine lv_iload_n hx hb dX2_isPlace_4 rfl (lv_at hl 1 rfl) ?_
  refine lv_bipush (v := (nI 7)) hx hb dX2_isPlace_5 (by decide) ?_
  refine lv_icmp_ge (tgt := 14) hx hb dX2_isPlace_7 (by decide) (fun b7 => absurd b7 (nI_ge (show j < 7 by omega) (by omega))) (fun b7 => ?_)
  refine lv_iconst (v := 1) hx hb dX2_isPlace_10 (by decide) ?_
  refine lv_goto (tgt := 15) hx hb dX2_isPlace_11 (by decide) ?_
  exact W.zret (v := 1) (ty := .boolean) hx hb hr rfl (fun t ht hW => ⟨_, rfl, rfl, ht⟩) (fun q h => by cases h) dX2_isPlace_15
theorem iw_X2_has_X2 : ∀ w ∈ wsX20, w ∈ wsX2_has := by decide +kernel
set_option maxHeartbeats 4000000 in
set_option maxRecDepth 100000 in
/--  -/
theorem ct_has_w (l : Launch) (en : en_T) (ad : Nat → Nat) (c : Nat → Nat → Int32) (j : Nat) (hj : j < 7) : Met l yX2_has wsX2_has (rm_ 2 0 0) (ct_Pc en [.ref (ad 4), .int (nI j)] (fun H => va_P en.1 vwCl (xw en ad c) H)) (ro_Qi (fun r => r = if c 16 j = -1 then 0 else 1)) 0 0 (fun _ => False) := by
  refine Met.ofW (cc := cX2_has) (maxL := 2) (ret := (some .boolean)) (by decide) rfl ?_
  intro p e s m args below meth co s₁ B hml hv
  obtain ⟨rfl, hE, hP⟩ := hv
  have hx := B.exec
  have hb := B.bytes
  have hr := B.returns
  have hts := atoms_spec (ws := wsX2_has) B.pre
  have hown : s.vm.findClass RX2 = some m.cls := findClass_of_methodNamed B.named
  have hlocks := B.notSynchronized
  have hl := lv_entry ([.ref (ad 4), .int (nI j)]) (n := 2) (Nat.le_of_ble_eq_true rfl)
  rw [lg_entry_eq]
  generalize (lg_sl ([.ref (ad 4), .int (nI j)]) ++ List.replicate (2 - (lg_sl ([.ref (ad 4), .int (nI j)])).length) Slot.unset).toArray = ls at hl ⊢
  have hl : lv_has ls 2 [(0, .ref (ad 4)), (1, .int (nI j))] := hl
  refine lv_aload_n hx hb dX2_has_0 rfl (lv_at hl 0 rfl) ?_
  refine lv_iload_n hx hb dX2_has_1 rfl (lv_at hl 1 rfl) ?_
  refine ro_calli (va_runV (As := [.int (nI j)]) (rest := []) ⟨hx, hb, hml, hown, hts⟩ (ct_isPlace_w l en ad c j hj) (cwV 1 hts gX2_has_X2_isPlace rfl rfl rfl (by decide +kernel) ⟨Nat.le_of_ble_eq_true rfl, Nat.le_of_ble_eq_true rfl⟩) (ct_preV hE (va_recv hE.1 hP (ci := 2) (q0 := 4) rfl rfl) hP) rfl rfl hl.1 rfl (lv_room (Nat.le_of_ble_eq_true rfl)) dX2_has_2 ⟨Nat.le_of_ble_eq_true rfl, Nat.le_of_ble_eq_true rfl⟩) (fun r2 w2 => ?_)
  obtain rfl : r2 = 1 := w2
  refine lv_if_eq (tgt := 22) hx hb dX2_has_5 (by decide) (fun b5 => absurd b5 (by decide)) (fun b5 => ?_)
  refine lv_aload_n hx hb dX2_has_8 rfl (lv_at hl 0 rfl) ?_
  refine va_get (D := en.1) (ci := 2) (v := .ref (ad 16)) (C := RX2) (T := TX2) (N := 2) hx hb hts iw_X2_has_X2 hown hE.1 hP 4 rfl rfl 0 (by decide) (hts (.fieldLink RX2 9 "CreditGame$Path" "steps" "[I") (by decide +kernel)) (fun _ h9 => h9) rfl dX2_has_9 ?_
  refine lv_iload_n hx hb dX2_has_12 rfl (lv_at hl 1 rfl) ?_
  refine xr_ild hx hb hE hP 16 (by decide) j rfl (show _ < 7 by omega) dX2_has_13 ?_
  refine lv_iconst (v := (-1)) hx hb dX2_has_14 (by decide) ?_
  refine lv_icmp_eq (tgt := 22) hx hb dX2_has_15 (by decide) (fun b15 => ?_) (fun b15 => ?_)
  · skip
    refine lv_iconst (v := 0) hx hb dX2_has_22 (by decide) ?_
    exact W.zret (v := 0) (ty := .boolean) hx hb hr rfl (fun t ht hW => ⟨_, rfl, (by first | exact (if_pos b15).symm | exact (if_neg b15).symm), ht⟩) (fun q h => by cases h) dX2_has_23
  · skip
    refine lv_iconst (v := 1) hx hb dX2_has_18 (by decide) ?_
    refine lv_goto (tgt := 23) hx hb dX2_has_19 (by decide) ?_
    exact W.zret (v := 1) (ty := .boolean) hx hb hr rfl (fun t ht hW => ⟨_, rfl, (by first | exact (if_pos b15).symm | exact (if_neg b15).symm), ht⟩) (fun q h => by cases h) dX2_has_23
theorem iw_X2_stepsTo_X2 : ∀ w ∈ wsX20, w ∈ wsX2_stepsTo := by decide +kernel
set_option maxHeartbeats 4000000 in
set_option maxRecDepth 100000 in
/--  -/
theorem ct_stepsTo_w (l : Launch) (en : en_T) (ad : Nat → Nat) (c : Nat → Nat → Int32) (j : Nat) (hj : j < 7) : Met l yX2_stepsTo wsX2_stepsTo (rm_ 2 0 0) (ct_Pc en [.ref (ad 4), .int (nI j)] (fun H => va_P en.1 vwCl (xw en ad c) H)) (ro_Qi (fun r => r = c 16 j)) 0 0 (fun _ => False) := by
  refine Met.ofW (cc := cX2_stepsTo) (maxL := 2) (ret := (some .int)) (by decide) rfl ?_
  intro p e s m args below meth co s₁ B hml hv
  obtain ⟨rfl, hE, hP⟩ := hv
  have hx := B.exec
  have hb := B.bytes
  have hr := B.returns
  have hts := atoms_spec (ws := wsX2_stepsTo) B.pre
  have hown : s.vm.findClass RX2 = some m.cls := findClass_of_methodNamed B.named
  have hlocks := B.notSynchronized
  have hl := lv_entry ([.ref (ad 4), .int (nI j)]) (n := 2) (Nat.le_of_ble_eq_true rfl)
  rw [lg_entry_eq]
  generalize (lg_sl ([.ref (ad 4), .int (nI j)]) ++ List.replicate (2 - (lg_sl ([.ref (ad 4), .int (nI j)])).length) Slot.unset).toArray = ls at hl ⊢
  have hl : lv_has ls 2 [(0, .ref (ad 4)), (1, .int (nI j))] := hl
  refine lv_aload_n hx hb dX2_stepsTo_0 rfl (lv_at hl 0 rfl) ?_
  refine lv_iload_n hx hb dX2_stepsTo_1 rfl (lv_at hl 1 rfl) ?_
  refine ro_calli (va_runV (As := [.int (nI j)]) (rest := []) ⟨hx, hb, hml, hown, hts⟩ (ct_isPlace_w l en ad c j hj) (cwV 1 hts gX2_stepsTo_X2_isPlace rfl rfl rfl (by decide +kernel) ⟨Nat.le_of_ble_eq_true rfl, Nat.le_of_ble_eq_true rfl⟩) (ct_preV hE (va_recv hE.1 hP (ci := 2) (q0 := 4) rfl rfl) hP) rfl rfl hl.1 rfl (lv_room (Nat.le_of_ble_eq_true rfl)) dX2_stepsTo_2 ⟨Nat.le_of_ble_eq_true rfl, Nat.le_of_ble_eq_true rfl⟩) (fun r2 w2 => ?_)
  obtain rfl : r2 = 1 := w2
  refine lv_if_eq (tgt := 17) hx hb dX2_stepsTo_5 (by decide) (fun b5 => absurd b5 (by decide)) (fun b5 => ?_)
  refine lv_aload_n hx hb dX2_stepsTo_8 rfl (lv_at hl 0 rfl) ?_
  refine va_get (D := en.1) (ci := 2) (v := .ref (ad 16)) (C := RX2) (T := TX2) (N := 2) hx hb hts iw_X2_stepsTo_X2 hown hE.1 hP 4 rfl rfl 0 (by decide) (hts (.fieldLink RX2 9 "CreditGame$Path" "steps" "[I") (by decide +kernel)) (fun _ h9 => h9) rfl dX2_stepsTo_9 ?_
  refine lv_iload_n hx hb dX2_stepsTo_12 rfl (lv_at hl 1 rfl) ?_
  refine xr_ild hx hb hE hP 16 (by decide) j rfl (show _ < 7 by omega) dX2_stepsTo_13 ?_
  refine lv_goto (tgt := 18) hx hb dX2_stepsTo_14 (by decide) ?_
  exact W.iret (v := (c 16 j)) hx hb hr (fun t ht hW => ⟨_, rfl, rfl, ht⟩) (fun q h => by cases h) dX2_stepsTo_18
theorem iw_X2_sumTo_X2 : ∀ w ∈ wsX20, w ∈ wsX2_sumTo := by decide +kernel
set_option maxHeartbeats 4000000 in
set_option maxRecDepth 100000 in
/--  -/
theorem ct_sumTo_w (l : Launch) (en : en_T) (ad : Nat → Nat) (c : Nat → Nat → Int32) (j : Nat) (hj : j < 7) : Met l yX2_sumTo wsX2_sumTo (rm_ 2 0 0) (ct_Pc en [.ref (ad 4), .int (nI j)] (fun H => va_P en.1 vwCl (xw en ad c) H)) (ro_Qi (fun r => r = c 17 j)) 0 0 (fun _ => False) := by
  refine Met.ofW (cc := cX2_sumTo) (maxL := 2) (ret := (some .int)) (by decide) rfl ?_
  intro p e s m args below meth co s₁ B hml hv
  obtain ⟨rfl, hE, hP⟩ := hv
  have hx := B.exec
  have hb := B.bytes
  have hr := B.returns
  have hts := atoms_spec (ws := wsX2_sumTo) B.pre
  have hown : s.vm.findClass RX2 = some m.cls := findClass_of_methodNamed B.named
  have hlocks := B.notSynchronized
  have hl := lv_entry ([.ref (ad 4), .int (nI j)]) (n := 2) (Nat.le_of_ble_eq_true rfl)
  rw [lg_entry_eq]
  generalize (lg_sl ([.ref (ad 4), .int (nI j)]) ++ List.replicate (2 - (lg_sl ([.ref (ad 4), .int (nI j)])).length) Slot.unset).toArray = ls at hl ⊢
  have hl : lv_has ls 2 [(0, .ref (ad 4)), (1, .int (nI j))] := hl
  refine lv_aload_n hx hb dX2_sumTo_0 rfl (lv_at hl 0 rfl) ?_
  refine lv_iload_n hx hb dX2_sumTo_1 rfl (lv_at hl 1 rfl) ?_
  refine ro_calli (va_runV (As := [.int (nI j)]) (rest := []) ⟨hx, hb, hml, hown, hts⟩ (ct_isPlace_w l en ad c j hj) (cwV 1 hts gX2_sumTo_X2_isPlace rfl rfl rfl (by decide +kernel) ⟨Nat.le_of_ble_eq_true rfl, Nat.le_of_ble_eq_true rfl⟩) (ct_preV hE (va_recv hE.1 hP (ci := 2) (q0 := 4) rfl rfl) hP) rfl rfl hl.1 rfl (lv_room (Nat.le_of_ble_eq_true rfl)) dX2_sumTo_2 ⟨Nat.le_of_ble_eq_true rfl, Nat.le_of_ble_eq_true rfl⟩) (fun r2 w2 => ?_)
  obtain rfl : r2 = 1 := w2
  refine lv_if_eq (tgt := 17) hx hb dX2_sumTo_5 (by decide) (fun b5 => absurd b5 (by decide)) (fun b5 => ?_)
  refine lv_aload_n hx hb dX2_sumTo_8 rfl (lv_at hl 0 rfl) ?_
  refine va_get (D := en.1) (ci := 2) (v := .ref (ad 17)) (C := RX2) (T := TX2) (N := 2) hx hb hts iw_X2_sumTo_X2 hown hE.1 hP 4 rfl rfl 1 (by decide) (hts (.fieldLink RX2 15 "CreditGame$Path" "sums" "[I") (by decide +kernel)) (fun _ h9 => h9) rfl dX2_sumTo_9 ?_
  refine lv_iload_n hx hb dX2_sumTo_12 rfl (lv_at hl 1 rfl) ?_
  refine xr_ild hx hb hE hP 17 (by decide) j rfl (show _ < 7 by omega) dX2_sumTo_13 ?_
  refine lv_goto (tgt := 18) hx hb dX2_sumTo_14 (by decide) ?_
  exact W.iret (v := (c 17 j)) hx hb hr (fun t ht hW => ⟨_, rfl, rfl, ht⟩) (fun q h => by cases h) dX2_sumTo_18
theorem iw_X2_enter_X2 : ∀ w ∈ wsX20, w ∈ wsX2_enter := by decide +kernel
set_option maxHeartbeats 4000000 in
set_option maxRecDepth 100000 in
/--  -/
theorem ct_enter_w (l : Launch) (en : en_T) (ad : Nat → Nat) (c : Nat → Nat → Int32) (hI : xw_I ad) (sz : Nat) (j : Nat) (hj : j < 7) (a b : Int32) : Met l yX2_enter wsX2_enter (rm_ 2 0 0) (ct_Pc en [.ref (ad 4), .int (nI j), .int a, .int b] (fun H => H.size = sz ∧ va_P en.1 vwCl (xw en ad c) H)) (va_Qv (fun c' => c' = va_up (va_up c 16 (upd (c 16) j a)) 17 (upd (c 17) j b)) (fun c' t => va_P en.1 vwCl (xw en ad c') t.heap) (xw_A ad sz)) 0 0 (xw_A ad sz) := by
  refine Met.ofW (cc := cX2_enter) (maxL := 4) (ret := none) (by decide) rfl ?_
  intro p e s m args below meth co s₁ B hml hv
  obtain ⟨rfl, hE, hsz, hP⟩ := hv
  subst hsz
  have hx := B.exec
  have hb := B.bytes
  have hr := B.returns
  have hts := atoms_spec (ws := wsX2_enter) B.pre
  have hown : s.vm.findClass RX2 = some m.cls := findClass_of_methodNamed B.named
  have hlocks := B.notSynchronized
  have hS : va_S (xw_A ad s.heap.size) s.heap s.heap [] := va_S.rf
  have hl := lv_entry ([.ref (ad 4), .int (nI j), .int a, .int b]) (n := 4) (Nat.le_of_ble_eq_true rfl)
  rw [lg_entry_eq]
  generalize (lg_sl ([.ref (ad 4), .int (nI j), .int a, .int b]) ++ List.replicate (4 - (lg_sl ([.ref (ad 4), .int (nI j), .int a, .int b])).length) Slot.unset).toArray = ls at hl ⊢
  have hl : lv_has ls 4 [(0, .ref (ad 4)), (1, .int (nI j)), (2, .int a), (3, .int b)] := hl
  refine lv_aload_n hx hb dX2_enter_0 rfl (lv_at hl 0 rfl) ?_
  refine lv_iload_n hx hb dX2_enter_1 rfl (lv_at hl 1 rfl) ?_
  refine ro_calli (va_runV (As := [.int (nI j)]) (rest := []) ⟨hx, hb, hml, hown, hts⟩ (ct_isPlace_w l en ad c j hj) (cwV 1 hts gX2_enter_X2_isPlace rfl rfl rfl (by decide +kernel) ⟨Nat.le_of_ble_eq_true rfl, Nat.le_of_ble_eq_true rfl⟩) (ct_preV hE (va_recv hE.1 hP (ci := 2) (q0 := 4) rfl rfl) hP) rfl rfl hl.1 rfl (lv_room (Nat.le_of_ble_eq_true rfl)) dX2_enter_2 ⟨Nat.le_of_ble_eq_true rfl, Nat.le_of_ble_eq_true rfl⟩) (fun r2 w2 => ?_)
  obtain rfl : r2 = 1 := w2
  refine lv_if_eq (tgt := 22) hx hb dX2_enter_5 (by decide) (fun b5 => absurd b5 (by decide)) (fun b5 => ?_)
  refine lv_aload_n hx hb dX2_enter_8 rfl (lv_at hl 0 rfl) ?_
  refine va_get (D := en.1) (ci := 2) (v := .ref (ad 16)) (C := RX2) (T := TX2) (N := 2) hx hb hts iw_X2_enter_X2 hown hE.1 hP 4 rfl rfl 0 (by decide) (hts (.fieldLink RX2 9 "CreditGame$Path" "steps" "[I") (by decide +kernel)) (fun _ h9 => h9) rfl dX2_enter_9 ?_
  refine lv_iload_n hx hb dX2_enter_12 rfl (lv_at hl 1 rfl) ?_
  refine lv_iload_n hx hb dX2_enter_13 rfl (lv_at hl 2 rfl) ?_
  refine xr_ist hx hb hE hP hI hS 16 (by decide) j rfl (show _ < 7 by omega) dX2_enter_14 (fun H locs hP hS => ?_)
  obtain ⟨c14, ec14⟩ : ∃ z : Nat → Nat → Int32, z = va_up c 16 (upd (c 16) j a) := ⟨_, rfl⟩
  rw [← ec14] at hP
  refine lv_aload_n hx hb dX2_enter_15 rfl (lv_at hl 0 rfl) ?_
  refine va_get (D := en.1) (ci := 2) (v := .ref (ad 17)) (C := RX2) (T := TX2) (N := 2) hx hb hts iw_X2_enter_X2 hown hE.1 hP 4 rfl rfl 1 (by decide) (hts (.fieldLink RX2 15 "CreditGame$Path" "sums" "[I") (by decide +kernel)) (fun _ h9 => h9) rfl dX2_enter_16 ?_
  refine lv_iload_n hx hb dX2_enter_19 rfl (lv_at hl 1 rfl) ?_
  refine lv_iload_n hx hb dX2_enter_20 rfl (lv_at hl 3 rfl) ?_
  refine xr_ist hx hb hE hP hI hS 17 (by decide) j rfl (show _ < 7 by omega) dX2_enter_21 (fun H locs hP hS => ?_)
  obtain ⟨c21, ec21⟩ : ∃ z : Nat → Nat → Int32, z = va_up c14 17 (upd (c14 17) j b) := ⟨_, rfl⟩
  rw [← ec21] at hP
  exact W.vret hx hb hr (fun t ht hW => ⟨⟨c21, rfl, (by rw [ec21, ec14]; rfl), by show va_P _ _ _ t.heap; rw [ht]; exact hP⟩, hS.F ht⟩) hS.2.2 dX2_enter_22
theorem iw_X2_leave_X2 : ∀ w ∈ wsX20, w ∈ wsX2_leave := by decide +kernel
set_option maxHeartbeats 4000000 in
set_option maxRecDepth 100000 in
/--  -/
theorem ct_leave_w (l : Launch) (en : en_T) (ad : Nat → Nat) (c : Nat → Nat → Int32) (hI : xw_I ad) (sz : Nat) (j : Nat) (hj : j < 7) : Met l yX2_leave wsX2_leave (rm_ 2 0 0) (ct_Pc en [.ref (ad 4), .int (nI j)] (fun H => H.size = sz ∧ va_P en.1 vwCl (xw en ad c) H)) (va_Qv (fun c' => c' = va_up c 16 (upd (c 16) j (-1))) (fun c' t => va_P en.1 vwCl (xw en ad c') t.heap) (xw_A ad sz)) 0 0 (xw_A ad sz) := by
  refine Met.ofW (cc := cX2_leave) (maxL := 2) (ret := none) (by decide) rfl ?_
  intro p e s m args below meth co s₁ B hml hv
  obtain ⟨rfl, hE, hsz, hP⟩ := hv
  subst hsz
  have hx := B.exec
  have hb := B.bytes
  have hr := B.returns
  have hts := atoms_spec (ws := wsX2_leave) B.pre
  have hown : s.vm.findClass RX2 = some m.cls := findClass_of_methodNamed B.named
  have hlocks := B.notSynchronized
  have hS : va_S (xw_A ad s.heap.size) s.heap s.heap [] := va_S.rf
  have hl := lv_entry ([.ref (ad 4), .int (nI j)]) (n := 2) (Nat.le_of_ble_eq_true rfl)
  rw [lg_entry_eq]
  generalize (lg_sl ([.ref (ad 4), .int (nI j)]) ++ List.replicate (2 - (lg_sl ([.ref (ad 4), .int (nI j)])).length) Slot.unset).toArray = ls at hl ⊢
  have hl : lv_has ls 2 [(0, .ref (ad 4)), (1, .int (nI j))] := hl
  refine lv_aload_n hx hb dX2_leave_0 rfl (lv_at hl 0 rfl) ?_
  refine lv_iload_n hx hb dX2_leave_1 rfl (lv_at hl 1 rfl) ?_
  refine ro_calli (va_runV (As := [.int (nI j)]) (rest := []) ⟨hx, hb, hml, hown, hts⟩ (ct_isPlace_w l en ad c j hj) (cwV 1 hts gX2_leave_X2_isPlace rfl rfl rfl (by decide +kernel) ⟨Nat.le_of_ble_eq_true rfl, Nat.le_of_ble_eq_true rfl⟩) (ct_preV hE (va_recv hE.1 hP (ci := 2) (q0 := 4) rfl rfl) hP) rfl rfl hl.1 rfl (lv_room (Nat.le_of_ble_eq_true rfl)) dX2_leave_2 ⟨Nat.le_of_ble_eq_true rfl, Nat.le_of_ble_eq_true rfl⟩) (fun r2 w2 => ?_)
  obtain rfl : r2 = 1 := w2
  refine lv_if_eq (tgt := 15) hx hb dX2_leave_5 (by decide) (fun b5 => absurd b5 (by decide)) (fun b5 => ?_)
  refine lv_aload_n hx hb dX2_leave_8 rfl (lv_at hl 0 rfl) ?_
  refine va_get (D := en.1) (ci := 2) (v := .ref (ad 16)) (C := RX2) (T := TX2) (N := 2) hx hb hts iw_X2_leave_X2 hown hE.1 hP 4 rfl rfl 0 (by decide) (hts (.fieldLink RX2 9 "CreditGame$Path" "steps" "[I") (by decide +kernel)) (fun _ h9 => h9) rfl dX2_leave_9 ?_
  refine lv_iload_n hx hb dX2_leave_12 rfl (lv_at hl 1 rfl) ?_
  refine lv_iconst (v := (-1)) hx hb dX2_leave_13 (by decide) ?_
  refine xr_ist hx hb hE hP hI hS 16 (by decide) j rfl (show _ < 7 by omega) dX2_leave_14 (fun H locs hP hS => ?_)
  obtain ⟨c14, ec14⟩ : ∃ z : Nat → Nat → Int32, z = va_up c 16 (upd (c 16) j (-1)) := ⟨_, rfl⟩
  rw [← ec14] at hP
  exact W.vret hx hb hr (fun t ht hW => ⟨⟨c14, rfl, ec14, by show va_P _ _ _ t.heap; rw [ht]; exact hP⟩, hS.F ht⟩) hS.2.2 dX2_leave_15
theorem iw_X2_clear_X2 : ∀ w ∈ wsX20, w ∈ wsX2_clear := by decide +kernel
set_option maxHeartbeats 4000000 in
set_option maxRecDepth 100000 in
/--  -/
theorem ct_clear_w (l : Launch) (en : en_T) (ad : Nat → Nat) (c : Nat → Nat → Int32) (hI : xw_I ad) (sz : Nat)  : Met l yX2_clear wsX2_clear (rm_ 2 0 0) (ct_Pc en [.ref (ad 4)] (fun H => H.size = sz ∧ va_P en.1 vwCl (xw en ad c) H)) (va_Qv (fun c' => ∃ f : Nat → Int32, c' = va_up c 16 f ∧ ∀ j, j < 7 → f j = -1) (fun c' t => va_P en.1 vwCl (xw en ad c') t.heap) (xw_A ad sz)) 0 0 (xw_A ad sz) := by
  refine Met.ofW (cc := cX2_clear) (maxL := 1) (ret := none) (by decide) rfl ?_
  intro p e s m args below meth co s₁ B hml hv
  obtain ⟨rfl, hE, hsz, hP⟩ := hv
  subst hsz
  have hx := B.exec
  have hb := B.bytes
  have hr := B.returns
  have hts := atoms_spec (ws := wsX2_clear) B.pre
  have hown : s.vm.findClass RX2 = some m.cls := findClass_of_methodNamed B.named
  have hlocks := B.notSynchronized
  have hS : va_S (xw_A ad s.heap.size) s.heap s.heap [] := va_S.rf
  have hl := lv_entry ([.ref (ad 4)]) (n := 1) (Nat.le_of_ble_eq_true rfl)
  rw [lg_entry_eq]
  generalize (lg_sl ([.ref (ad 4)]) ++ List.replicate (1 - (lg_sl ([.ref (ad 4)])).length) Slot.unset).toArray = ls at hl ⊢
  have hl : lv_has ls 1 [(0, .ref (ad 4))] := hl
  refine lv_aload_n hx hb dX2_clear_0 rfl (lv_at hl 0 rfl) ?_
  refine va_get (D := en.1) (ci := 2) (v := .ref (ad 16)) (C := RX2) (T := TX2) (N := 2) hx hb hts iw_X2_clear_X2 hown hE.1 hP 4 rfl rfl 0 (by decide) (hts (.fieldLink RX2 9 "CreditGame$Path" "steps" "[I") (by decide +kernel)) (fun _ h9 => h9) rfl dX2_clear_1 ?_
  refine lv_iconst (v := (-1)) hx hb dX2_clear_4 (by decide) ?_
  refine xr_callv (va_runS (As := [.ref (ad 16), .int (-1)]) (rest := []) ⟨hx, hb, hml, hown, hts⟩ (ct_fill l en ad c hI _ 16 (by decide) (-1)) (va_cwS 2 hts gX2_clear_J7_fill_53178 rfl rfl rfl (by decide +kernel) ⟨Nat.le_of_ble_eq_true rfl, Nat.le_of_ble_eq_true rfl⟩) (ct_preS hE ⟨rfl, hP⟩) rfl rfl hl.1 rfl (lv_room (Nat.le_of_ble_eq_true rfl)) dX2_clear_5 ⟨Nat.le_of_ble_eq_true rfl, Nat.le_of_ble_eq_true rfl⟩) hS (fun c5 H locs w5 hP hS => ?_)
  exact W.vret hx hb hr (fun t ht hW => ⟨⟨c5, rfl, w5, by show va_P _ _ _ t.heap; rw [ht]; exact hP⟩, hS.F ht⟩) hS.2.2 dX2_clear_8
set_option maxHeartbeats 4000000 in
set_option maxRecDepth 100000 in
/--  -/
theorem ct_isPlace_p (l : Launch) (en : en_T) (ad : Nat → Nat) (c : Nat → Nat → Int32) (j : Nat) (hj : j < 7) : Met l yX2_isPlace wsX2_isPlace (rm_ 1 0 0) (ct_Pc en [.ref (ad 5), .int (nI j)] (fun H => va_P en.1 vwCl (xw en ad c) H)) (ro_Qi (fun r => r = 1)) 0 0 (fun _ => False) := by
  refine Met.ofW (cc := cX2_isPlace) (maxL := 2) (ret := (some .boolean)) (by decide) rfl ?_
  intro p e s m args below meth co s₁ B hml hv
  obtain ⟨rfl, hE, hP⟩ := hv
  have hx := B.exec
  have hb := B.bytes
  have hr := B.returns
  have hts := atoms_spec (ws := wsX2_isPlace) B.pre
  have hown : s.vm.findClass RX2 = some m.cls := findClass_of_methodNamed B.named
  have hlocks := B.notSynchronized
  have hl := lv_entry ([.ref (ad 5), .int (nI j)]) (n := 2) (Nat.le_of_ble_eq_true rfl)
  rw [lg_entry_eq]
  generalize (lg_sl ([.ref (ad 5), .int (nI j)]) ++ List.replicate (2 - (lg_sl ([.ref (ad 5), .int (nI j)])).length) Slot.unset).toArray = ls at hl ⊢
  have hl : lv_has ls 2 [(0, .ref (ad 5)), (1, .int (nI j))] := hl
  refine lv_iload_n hx hb dX2_isPlace_0 rfl (lv_at hl 1 rfl) ?_
  refine lv_if_lt (tgt := 14) hx hb dX2_isPlace_1 (by decide) (fun b1 => absurd b1 (nI_pos (by omega))) (fun b1 => ?_)
  refine lv_iload_n hx hb dX2_isPlace_4 rfl (lv_at hl 1 rfl) ?_
  refine lv_bipush (v := (nI 7)) hx hb dX2_isPlace_5 (by decide) ?_
  refine lv_icmp_ge (tgt := 14) hx hb dX2_isPlace_7 (by decide) (fun b7 => absurd b7 (nI_ge (show j < 7 by omega) (by omega))) (fun b7 => ?_)
  refine lv_iconst (v := 1) hx hb dX2_isPlace_10 (by decide) ?_
  refine lv_goto (tgt := 15) hx hb dX2_isPlace_11 (by decide) ?_
  exact W.zret (v := 1) (ty := .boolean) hx hb hr rfl (fun t ht hW => ⟨_, rfl, rfl, ht⟩) (fun q h => by cases h) dX2_isPlace_15
set_option maxHeartbeats 4000000 in
set_option maxRecDepth 100000 in
/--  -/
theorem ct_has_p (l : Launch) (en : en_T) (ad : Nat → Nat) (c : Nat → Nat → Int32) (j : Nat) (hj : j < 7) : Met l yX2_has wsX2_has (rm_ 2 0 0) (ct_Pc en [.ref (ad 5), .int (nI j)] (fun H => va_P en.1 vwCl (xw en ad c) H)) (ro_Qi (fun r => r = if c 18 j = -1 then 0 else 1)) 0 0 (fun _ => False) := by
  refine Met.ofW (cc := cX2_has) (maxL := 2) (ret := (some .boolean)) (by decide) rfl ?_
  intro p e s m args below meth co s₁ B hml hv
  obtain ⟨rfl, hE, hP⟩ := hv
  have hx := B.exec
  have hb := B.bytes
  have hr := B.returns
  have hts := atoms_spec (ws := wsX2_has) B.pre
  have hown : s.vm.findClass RX2 = some m.cls := findClass_of_methodNamed B.named
  have hlocks := B.notSynchronized
  have hl := lv_entry ([.ref (ad 5), .int (nI j)]) (n := 2) (Nat.le_of_ble_eq_true rfl)
  rw [lg_entry_eq]
  generalize (lg_sl ([.ref (ad 5), .int (nI j)]) ++ List.replicate (2 - (lg_sl ([.ref (ad 5), .int (nI j)])).length) Slot.unset).toArray = ls at hl ⊢
  have hl : lv_has ls 2 [(0, .ref (ad 5)), (1, .int (nI j))] := hl
  refine lv_aload_n hx hb dX2_has_0 rfl (lv_at hl 0 rfl) ?_
  refine lv_iload_n hx hb dX2_has_1 rfl (lv_at hl 1 rfl) ?_
  refine ro_calli (va_runV (As := [.int (nI j)]) (rest := []) ⟨hx, hb, hml, hown, hts⟩ (ct_isPlace_p l en ad c j hj) (cwV 1 hts gX2_has_X2_isPlace rfl rfl rfl (by decide +kernel) ⟨Nat.le_of_ble_eq_true rfl, Nat.le_of_ble_eq_true rfl⟩) (ct_preV hE (va_recv hE.1 hP (ci := 2) (q0 := 5) rfl rfl) hP) rfl rfl hl.1 rfl (lv_room (Nat.le_of_ble_eq_true rfl)) dX2_has_2 ⟨Nat.le_of_ble_eq_true rfl, Nat.le_of_ble_eq_true rfl⟩) (fun r2 w2 => ?_)
  obtain rfl : r2 = 1 := w2
  refine lv_if_eq (tgt := 22) hx hb dX2_has_5 (by decide) (fun b5 => absurd b5 (by decide)) (fun b5 => ?_)
  refine lv_aload_n hx hb dX2_has_8 rfl (lv_at hl 0 rfl) ?_
  refine va_get (D := en.1) (ci := 2) (v := .ref (ad 18)) (C := RX2) (T := TX2) (N := 2) hx hb hts iw_X2_has_X2 hown hE.1 hP 5 rfl rfl 0 (by decide) (hts (.fieldLink RX2 9 "CreditGame$Path" "steps" "[I") (by decide +kernel)) (fun _ h9 => h9) rfl dX2_has_9 ?_
  refine lv_iload_n hx hb dX2_has_12 rfl (lv_at hl 1 rfl) ?_
  refine xr_ild hx hb hE hP 18 (by decide) j rfl (show _ < 7 by omega) dX2_has_13 ?_
  refine lv_iconst (v := (-1)) hx hb dX2_has_14 (by decide) ?_
  refine lv_icmp_eq (tgt := 22) hx hb dX2_has_15 (by decide) (fun b15 => ?_) (fun b15 => ?_)
  · skip
    refine lv_iconst (v := 0) hx hb dX2_has_22 (by decide) ?_
    exact W.zret (v := 0) (ty := .boolean) hx hb hr rfl (fun t ht hW => ⟨_, rfl, (by first | exact (if_pos b15).symm | exact (if_neg b15).symm), ht⟩) (fun q h => by cases h) dX2_has_23
  · skip
    refine lv_iconst (v := 1) hx hb dX2_has_18 (by decide) ?_
    refine lv_goto (tgt := 23) hx hb dX2_has_19 (by decide) ?_
    exact W.zret (v := 1) (ty := .boolean) hx hb hr rfl (fun t ht hW => ⟨_, rfl, (by first | exact (if_pos b15).symm | exact (if_neg b15).symm), ht⟩) (fun q h => by cases h) dX2_has_23
set_option maxHeartbeats 4000000 in
set_option maxRecDepth 100000 in
/--  -/
theorem ct_stepsTo_p (l : Launch) (en : en_T) (ad : Nat → Nat) (c : Nat → Nat → Int32) (j : Nat) (hj : j < 7) : Met l yX2_stepsTo wsX2_stepsTo (rm_ 2 0 0) (ct_Pc en [.ref (ad 5), .int (nI j)] (fun H => va_P en.1 vwCl (xw en ad c) H)) (ro_Qi (fun r => r = c 18 j)) 0 0 (fun _ => False) := by
  refine Met.ofW (cc := cX2_stepsTo) (maxL := 2) (ret := (some .int)) (by decide) rfl ?_
  intro p e s m args below meth co s₁ B hml hv
  obtain ⟨rfl, hE, hP⟩ := hv
  have hx := B.exec
  have hb := B.bytes
  have hr := B.returns
  have hts := atoms_spec (ws := wsX2_stepsTo) B.pre
  have hown : s.vm.findClass RX2 = some m.cls := findClass_of_methodNamed B.named
  have hlocks := B.notSynchronized
  have hl := lv_entry ([.ref (ad 5), .int (nI j)]) (n := 2) (Nat.le_of_ble_eq_true rfl)
  rw [lg_entry_eq]
  generalize (lg_sl ([.ref (ad 5), .int (nI j)]) ++ List.replicate (2 - (lg_sl ([.ref (ad 5), .int (nI j)])).length) Slot.unset).toArray = ls at hl ⊢
  have hl : lv_has ls 2 [(0, .ref (ad 5)), (1, .int (nI j))] := hl
  refine lv_aload_n hx hb dX2_stepsTo_0 rfl (lv_at hl 0 rfl) ?_
  refine lv_iload_n hx hb dX2_stepsTo_1 rfl (lv_at hl 1 rfl) ?_
  refine ro_calli (va_runV (As := [.int (nI j)]) (rest := []) ⟨hx, hb, hml, hown, hts⟩ (ct_isPlace_p l en ad c j hj) (cwV 1 hts gX2_stepsTo_X2_isPlace rfl rfl rfl (by decide +kernel) ⟨Nat.le_of_ble_eq_true rfl, Nat.le_of_ble_eq_true rfl⟩) (ct_preV hE (va_recv hE.1 hP (ci := 2) (q0 := 5) rfl rfl) hP) rfl rfl hl.1 rfl (lv_room (Nat.le_of_ble_eq_true rfl)) dX2_stepsTo_2 ⟨Nat.le_of_ble_eq_true rfl, Nat.le_of_ble_eq_true rfl⟩) (fun r2 w2 => ?_)
  obtain rfl : r2 = 1 := w2
  refine lv_if_eq (tgt := 17) hx hb dX2_stepsTo_5 (by decide) (fun b5 => absurd b5 (by decide)) (fun b5 => ?_)
  refine lv_aload_n hx hb dX2_stepsTo_8 rfl (lv_at hl 0 rfl) ?_
  refine va_get (D := en.1) (ci := 2) (v := .ref (ad 18)) (C := RX2) (T := TX2) (N := 2) hx hb hts iw_X2_stepsTo_X2 hown hE.1 hP 5 rfl rfl 0 (by decide) (hts (.fieldLink RX2 9 "CreditGame$Path" "steps" "[I") (by decide +kernel)) (fun _ h9 => h9) rfl dX2_stepsTo_9 ?_
  refine lv_iload_n hx hb dX2_stepsTo_12 rfl (lv_at hl 1 rfl) ?_
  refine xr_ild hx hb hE hP 18 (by decide) j rfl (show _ < 7 by omega) dX2_stepsTo_13 ?_
  refine lv_goto (tgt := 18) hx hb dX2_stepsTo_14 (by decide) ?_
  exact W.iret (v := (c 18 j)) hx hb hr (fun t ht hW => ⟨_, rfl, rfl, ht⟩) (fun q h => by cases h) dX2_stepsTo_18
set_option maxHeartbeats 4000000 in
set_option maxRecDepth 100000 in
/--  -/
theorem ct_sumTo_p (l : Launch) (en : en_T) (ad : Nat → Nat) (c : Nat → Nat → Int32) (j : Nat) (hj : j < 7) : Met l yX2_sumTo wsX2_sumTo (rm_ 2 0 0) (ct_Pc en [.ref (ad 5), .int (nI j)] (fun H => va_P en.1 vwCl (xw en ad c) H)) (ro_Qi (fun r => r = c 19 j)) 0 0 (fun _ => False) := by
  refine Met.ofW (cc := cX2_sumTo) (maxL := 2) (ret := (some .int)) (by decide) rfl ?_
  intro p e s m args below meth co s₁ B hml hv
  obtain ⟨rfl, hE, hP⟩ := hv
  have hx := B.exec
  have hb := B.bytes
  have hr := B.returns
  have hts := atoms_spec (ws := wsX2_sumTo) B.pre
  have hown : s.vm.findClass RX2 = some m.cls := findClass_of_methodNamed B.named
  have hlocks := B.notSynchronized
  have hl := lv_entry ([.ref (ad 5), .int (nI j)]) (n := 2) (Nat.le_of_ble_eq_true rfl)
  rw [lg_entry_eq]
  generalize (lg_sl ([.ref (ad 5), .int (nI j)]) ++ List.replicate (2 - (lg_sl ([.ref (ad 5), .int (nI j)])).length) Slot.unset).toArray = ls at hl ⊢
  have hl : lv_has ls 2 [(0, .ref (ad 5)), (1, .int (nI j))] := hl
  refine lv_aload_n hx hb dX2_sumTo_0 rfl (lv_at hl 0 rfl) ?_
  refine lv_iload_n hx hb dX2_sumTo_1 rfl (lv_at hl 1 rfl) ?_
  refine ro_calli (va_runV (As := [.int (nI j)]) (rest := []) ⟨hx, hb, hml, hown, hts⟩ (ct_isPlace_p l en ad c j hj) (cwV 1 hts gX2_sumTo_X2_isPlace rfl rfl rfl (by decide +kernel) ⟨Nat.le_of_ble_eq_true rfl, Nat.le_of_ble_eq_true rfl⟩) (ct_preV hE (va_recv hE.1 hP (ci := 2) (q0 := 5) rfl rfl) hP) rfl rfl hl.1 rfl (lv_room (Nat.le_of_ble_eq_true rfl)) dX2_sumTo_2 ⟨Nat.le_of_ble_eq_true rfl, Nat.le_of_ble_eq_true rfl⟩) (fun r2 w2 => ?_)
  obtain rfl : r2 = 1 := w2
  refine lv_if_eq (tgt := 17) hx hb dX2_sumTo_5 (by decide) (fun b5 => absurd b5 (by decide)) (fun b5 => ?_)
  refine lv_aload_n hx hb dX2_sumTo_8 rfl (lv_at hl 0 rfl) ?_
  refine va_get (D := en.1) (ci := 2) (v := .ref (ad 19)) (C := RX2) (T := TX2) (N := 2) hx hb hts iw_X2_sumTo_X2 hown hE.1 hP 5 rfl rfl 1 (by decide) (hts (.fieldLink RX2 15 "CreditGame$Path" "sums" "[I") (by decide +kernel)) (fun _ h9 => h9) rfl dX2_sumTo_9 ?_
  refine lv_iload_n hx hb dX2_sumTo_12 rfl (lv_at hl 1 rfl) ?_
  refine xr_ild hx hb hE hP 19 (by decide) j rfl (show _ < 7 by omega) dX2_sumTo_13 ?_
  refine lv_goto (tgt := 18) hx hb dX2_sumTo_14 (by decide) ?_
  exact W.iret (v := (c 19 j)) hx hb hr (fun t ht hW => ⟨_, rfl, rfl, ht⟩) (fun q h => by cases h) dX2_sumTo_18
set_option maxHeartbeats 4000000 in
set_option maxRecDepth 100000 in
/--  -/
theorem ct_enter_p (l : Launch) (en : en_T) (ad : Nat → Nat) (c : Nat → Nat → Int32) (hI : xw_I ad) (sz : Nat) (j : Nat) (hj : j < 7) (a b : Int32) : Met l yX2_enter wsX2_enter (rm_ 2 0 0) (ct_Pc en [.ref (ad 5), .int (nI j), .int a, .int b] (fun H => H.size = sz ∧ va_P en.1 vwCl (xw en ad c) H)) (va_Qv (fun c' => c' = va_up (va_up c 18 (upd (c 18) j a)) 19 (upd (c 19) j b)) (fun c' t => va_P en.1 vwCl (xw en ad c') t.heap) (xw_A ad sz)) 0 0 (xw_A ad sz) := by
  refine Met.ofW (cc := cX2_enter) (maxL := 4) (ret := none) (by decide) rfl ?_
  intro p e s m args below meth co s₁ B hml hv
  obtain ⟨rfl, hE, hsz, hP⟩ := hv
  subst hsz
  have hx := B.exec
  have hb := B.bytes
  have hr := B.returns
  have hts := atoms_spec (ws := wsX2_enter) B.pre
  have hown : s.vm.findClass RX2 = some m.cls := findClass_of_methodNamed B.named
  have hlocks := B.notSynchronized
  have hS : va_S (xw_A ad s.heap.size) s.heap s.heap [] := va_S.rf
  have hl := lv_entry ([.ref (ad 5), .int (nI j), .int a, .int b]) (n := 4) (Nat.le_of_ble_eq_true rfl)
  rw [lg_entry_eq]
  generalize (lg_sl ([.ref (ad 5), .int (nI j), .int a, .int b]) ++ List.replicate (4 - (lg_sl ([.ref (ad 5), .int (nI j), .int a, .int b])).length) Slot.unset).toArray = ls at hl ⊢
  have hl : lv_has ls 4 [(0, .ref (ad 5)), (1, .int (nI j)), (2, .int a), (3, .int b)] := hl
  refine lv_aload_n hx hb dX2_enter_0 rfl (lv_at hl 0 rfl) ?_
  refine lv_iload_n hx hb dX2_enter_1 rfl (lv_at hl 1 rfl) ?_
  refine ro_calli (va_runV (As := [.int (nI j)]) (rest := []) ⟨hx, hb, hml, hown, hts⟩ (ct_isPlace_p l en ad c j hj) (cwV 1 hts gX2_enter_X2_isPlace rfl rfl rfl (by decide +kernel) ⟨Nat.le_of_ble_eq_true rfl, Nat.le_of_ble_eq_true rfl⟩) (ct_preV hE (va_recv hE.1 hP (ci := 2) (q0 := 5) rfl rfl) hP) rfl rfl hl.1 rfl (lv_room (Nat.le_of_ble_eq_true rfl)) dX2_enter_2 ⟨Nat.le_of_ble_eq_true rfl, Nat.le_of_ble_eq_true rfl⟩) (fun r2 w2 => ?_)
  obtain rfl : r2 = 1 := w2
  refine lv_if_eq (tgt := 22) hx hb dX2_enter_5 (by decide) (fun b5 => absurd b5 (by decide)) (fun b5 => ?_)
  refine lv_aload_n hx hb dX2_enter_8 rfl (lv_at hl 0 rfl) ?_
  refine va_get (D := en.1) (ci := 2) (v := .ref (ad 18)) (C := RX2) (T := TX2) (N := 2) hx hb hts iw_X2_enter_X2 hown hE.1 hP 5 rfl rfl 0 (by decide) (hts (.fieldLink RX2 9 "CreditGame$Path" "steps" "[I") (by decide +kernel)) (fun _ h9 => h9) rfl dX2_enter_9 ?_
  refine lv_iload_n hx hb dX2_enter_12 rfl (lv_at hl 1 rfl) ?_
  refine lv_iload_n hx hb dX2_enter_13 rfl (lv_at hl 2 rfl) ?_
  refine xr_ist hx hb hE hP hI hS 18 (by decide) j rfl (show _ < 7 by omega) dX2_enter_14 (fun H locs hP hS => ?_)
  obtain ⟨c14, ec14⟩ : ∃ z : Nat → Nat → Int32, z = va_up c 18 (upd (c 18) j a) := ⟨_, rfl⟩
  rw [← ec14] at hP
  refine lv_aload_n hx hb dX2_enter_15 rfl (lv_at hl 0 rfl) ?_
  refine va_get (D := en.1) (ci := 2) (v := .ref (ad 19)) (C := RX2) (T := TX2) (N := 2) hx hb hts iw_X2_enter_X2 hown hE.1 hP 5 rfl rfl 1 (by decide) (hts (.fieldLink RX2 15 "CreditGame$Path" "sums" "[I") (by decide +kernel)) (fun _ h9 => h9) rfl dX2_enter_16 ?_
  refine lv_iload_n hx hb dX2_enter_19 rfl (lv_at hl 1 rfl) ?_
  refine lv_iload_n hx hb dX2_enter_20 rfl (lv_at hl 3 rfl) ?_
  refine xr_ist hx hb hE hP hI hS 19 (by decide) j rfl (show _ < 7 by omega) dX2_enter_21 (fun H locs hP hS => ?_)
  obtain ⟨c21, ec21⟩ : ∃ z : Nat → Nat → Int32, z = va_up c14 19 (upd (c14 19) j b) := ⟨_, rfl⟩
  rw [← ec21] at hP
  exact W.vret hx hb hr (fun t ht hW => ⟨⟨c21, rfl, (by rw [ec21, ec14]; rfl), by show va_P _ _ _ t.heap; rw [ht]; exact hP⟩, hS.F ht⟩) hS.2.2 dX2_enter_22
set_option maxHeartbeats 4000000 in
set_option maxRecDepth 100000 in
/--  -/
theorem ct_leave_p (l : Launch) (en : en_T) (ad : Nat → Nat) (c : Nat → Nat → Int32) (hI : xw_I ad) (sz : Nat) (j : Nat) (hj : j < 7) : Met l yX2_leave wsX2_leave (rm_ 2 0 0) (ct_Pc en [.ref (ad 5), .int (nI j)] (fun H => H.size = sz ∧ va_P en.1 vwCl (xw en ad c) H)) (va_Qv (fun c' => c' = va_up c 18 (upd (c 18) j (-1))) (fun c' t => va_P en.1 vwCl (xw en ad c') t.heap) (xw_A ad sz)) 0 0 (xw_A ad sz) := by
  refine Met.ofW (cc := cX2_leave) (maxL := 2) (ret := none) (by decide) rfl ?_
  intro p e s m args below meth co s₁ B hml hv
  obtain ⟨rfl, hE, hsz, hP⟩ := hv
  subst hsz
  have hx := B.exec
  have hb := B.bytes
  have hr := B.returns
  have hts := atoms_spec (ws := wsX2_leave) B.pre
  have hown : s.vm.findClass RX2 = some m.cls := findClass_of_methodNamed B.named
  have hlocks := B.notSynchronized
  have hS : va_S (xw_A ad s.heap.size) s.heap s.heap [] := va_S.rf
  have hl := lv_entry ([.ref (ad 5), .int (nI j)]) (n := 2) (Nat.le_of_ble_eq_true rfl)
  rw [lg_entry_eq]
  generalize (lg_sl ([.ref (ad 5), .int (nI j)]) ++ List.replicate (2 - (lg_sl ([.ref (ad 5), .int (nI j)])).length) Slot.unset).toArray = ls at hl ⊢
  have hl : lv_has ls 2 [(0, .ref (ad 5)), (1, .int (nI j))] := hl
  refine lv_aload_n hx hb dX2_leave_0 rfl (lv_at hl 0 rfl) ?_
  refine lv_iload_n hx hb dX2_leave_1 rfl (lv_at hl 1 rfl) ?_
  refine ro_calli (va_runV (As := [.int (nI j)]) (rest := []) ⟨hx, hb, hml, hown, hts⟩ (ct_isPlace_p l en ad c j hj) (cwV 1 hts gX2_leave_X2_isPlace rfl rfl rfl (by decide +kernel) ⟨Nat.le_of_ble_eq_true rfl, Nat.le_of_ble_eq_true rfl⟩) (ct_preV hE (va_recv hE.1 hP (ci := 2) (q0 := 5) rfl rfl) hP) rfl rfl hl.1 rfl (lv_room (Nat.le_of_ble_eq_true rfl)) dX2_leave_2 ⟨Nat.le_of_ble_eq_true rfl, Nat.le_of_ble_eq_true rfl⟩) (fun r2 w2 => ?_)
  obtain rfl : r2 = 1 := w2
  refine lv_if_eq (tgt := 15) hx hb dX2_leave_5 (by decide) (fun b5 => absurd b5 (by decide)) (fun b5 => ?_)
  refine lv_aload_n hx hb dX2_leave_8 rfl (lv_at hl 0 rfl) ?_
  refine va_get (D := en.1) (ci := 2) (v := .ref (ad 18)) (C := RX2) (T := TX2) (N := 2) hx hb hts iw_X2_leave_X2 hown hE.1 hP 5 rfl rfl 0 (by decide) (hts (.fieldLink RX2 9 "CreditGame$Path" "steps" "[I") (by decide +kernel)) (fun _ h9 => h9) rfl dX2_leave_9 ?_
  refine lv_iload_n hx hb dX2_leave_12 rfl (lv_at hl 1 rfl) ?_
  refine lv_iconst (v := (-1)) hx hb dX2_leave_13 (by decide) ?_
  refine xr_ist hx hb hE hP hI hS 18 (by decide) j rfl (show _ < 7 by omega) dX2_leave_14 (fun H locs hP hS => ?_)
  obtain ⟨c14, ec14⟩ : ∃ z : Nat → Nat → Int32, z = va_up c 18 (upd (c 18) j (-1)) := ⟨_, rfl⟩
  rw [← ec14] at hP
  exact W.vret hx hb hr (fun t ht hW => ⟨⟨c14, rfl, ec14, by show va_P _ _ _ t.heap; rw [ht]; exact hP⟩, hS.F ht⟩) hS.2.2 dX2_leave_15
set_option maxHeartbeats 4000000 in
set_option maxRecDepth 100000 in
/--  -/
theorem ct_clear_p (l : Launch) (en : en_T) (ad : Nat → Nat) (c : Nat → Nat → Int32) (hI : xw_I ad) (sz : Nat)  : Met l yX2_clear wsX2_clear (rm_ 2 0 0) (ct_Pc en [.ref (ad 5)] (fun H => H.size = sz ∧ va_P en.1 vwCl (xw en ad c) H)) (va_Qv (fun c' => ∃ f : Nat → Int32, c' = va_up c 18 f ∧ ∀ j, j < 7 → f j = -1) (fun c' t => va_P en.1 vwCl (xw en ad c') t.heap) (xw_A ad sz)) 0 0 (xw_A ad sz) := by
  refine Met.ofW (cc := cX2_clear) (maxL := 1) (ret := none) (by decide) rfl ?_
  intro p e s m args below meth co s₁ B hml hv
  obtain ⟨rfl, hE, hsz, hP⟩ := hv
  subst hsz
  have hx := B.exec
  have hb := B.bytes
  have hr := B.returns
  have hts := atoms_spec (ws := wsX2_clear) B.pre
  have hown : s.vm.findClass RX2 = some m.cls := findClass_of_methodNamed B.named
  have hlocks := B.notSynchronized
  have hS : va_S (xw_A ad s.heap.size) s.heap s.heap [] := va_S.rf
  have hl := lv_entry ([.ref (ad 5)]) (n := 1) (Nat.le_of_ble_eq_true rfl)
  rw [lg_entry_eq]
  generalize (lg_sl ([.ref (ad 5)]) ++ List.replicate (1 - (lg_sl ([.ref (ad 5)])).length) Slot.unset).toArray = ls at hl ⊢
  have hl : lv_has ls 1 [(0, .ref (ad 5))] := hl
  refine lv_aload_n hx hb dX2_clear_0 rfl (lv_at hl 0 rfl) ?_
  refine va_get (D := en.1) (ci := 2) (v := .ref (ad 18)) (C := RX2) (T := TX2) (N := 2) hx hb hts iw_X2_clear_X2 hown hE.1 hP 5 rfl rfl 0 (by decide) (hts (.fieldLink RX2 9 "CreditGame$Path" "steps" "[I") (by decide +kernel)) (fun _ h9 => h9) rfl dX2_clear_1 ?_
  refine lv_iconst (v := (-1)) hx hb dX2_clear_4 (by decide) ?_
  refine xr_callv (va_runS (As := [.ref (ad 18), .int (-1)]) (rest := []) ⟨hx, hb, hml, hown, hts⟩ (ct_fill l en ad c hI _ 18 (by decide) (-1)) (va_cwS 2 hts gX2_clear_J7_fill_53178 rfl rfl rfl (by decide +kernel) ⟨Nat.le_of_ble_eq_true rfl, Nat.le_of_ble_eq_true rfl⟩) (ct_preS hE ⟨rfl, hP⟩) rfl rfl hl.1 rfl (lv_room (Nat.le_of_ble_eq_true rfl)) dX2_clear_5 ⟨Nat.le_of_ble_eq_true rfl, Nat.le_of_ble_eq_true rfl⟩) hS (fun c5 H locs w5 hP hS => ?_)
  exact W.vret hx hb hr (fun t ht hW => ⟨⟨c5, rfl, w5, by show va_P _ _ _ t.heap; rw [ht]; exact hP⟩, hS.F ht⟩) hS.2.2 dX2_clear_8
