/-! ===== the best edge ===== -/
/-- the credits in the game in which pl spares and p / q counts (there is just one such function, on the vertices) -/
noncomputable def cr_f (G : gr_T) (pl : Nat) (p q : Int) : Nat → Int := Classical.epsilon (cr_is G pl p q)
theorem cr_f_eq {G : gr_T} {pl : Nat} {p q : Int} {f : Nat → Int} (h : cr_is G pl p q f) {v : Nat} (hv : v < gr_n G) : f v = cr_f G pl p q v := gm_isCr_uniq h (Classical.epsilon_spec (p := cr_is G pl p q) ⟨f, h⟩) hv
/-- a vertex's player -/
def gr_pl (G : gr_T) (j : Nat) : Nat := if gr_own G j = 0 then 0 else 1
theorem gr_pl_own {G : gr_T} (hg : gf_ok G) {j : Nat} (hj : j < gr_n G) : gr_own G j = nI (gr_pl G j) := by
  unfold gr_pl
  rcases hg.own j hj with h | h
  · rw [if_pos h, h]; rfl
  · rw [if_neg (by rw [h]; decide), h]; rfl
theorem gr_pl_2 (G : gr_T) (j : Nat) : gr_pl G j < 2 := by unfold gr_pl; split <;> omega
noncomputable def gr_f (G : gr_T) (j : Nat) : Nat → Int := cr_f G (gr_pl G j) (vl_t (vl_F G j)) (vl_q (vl_F G j) : Int)
def gr_g (G : gr_T) (j : Nat) : Nat → Int := cr_w G (gr_pl G j) (vl_t (vl_F G j)) (vl_q (vl_F G j) : Int)
/-- j's credit is enough for an edge -/
def gr_bp (G : gr_T) (j x : Nat) : Prop := gr_f G j (gr_tgt G x) ≠ -1 ∧ gr_f G j (gr_tgt G x) ≤ gr_f G j j + gr_g G j x
/-- the first such edge -/
noncomputable def gr_best (G : gr_T) (j : Nat) : Nat := Classical.epsilon (fun x => ∃ i, i < (gr_adj G j).length ∧ x = (gr_adj G j).getD i 0 ∧ gr_bp G j x ∧ ∀ k, k < i → ¬ gr_bp G j ((gr_adj G j).getD k 0))
theorem gr_best_eq {G : gr_T} {j i : Nat} (hi : i < (gr_adj G j).length) (hb : gr_bp G j ((gr_adj G j).getD i 0)) (hn : ∀ k, k < i → ¬ gr_bp G j ((gr_adj G j).getD k 0)) : gr_best G j = (gr_adj G j).getD i 0 := by
  obtain ⟨i2, h1, h2, h3, h4⟩ := Classical.epsilon_spec (p := fun x => ∃ i, i < (gr_adj G j).length ∧ x = (gr_adj G j).getD i 0 ∧ gr_bp G j x ∧ ∀ k, k < i → ¬ gr_bp G j ((gr_adj G j).getD k 0)) ⟨_, i, hi, rfl, hb, hn⟩
  have e : i2 = i := by
    rcases Nat.lt_trichotomy i2 i with q | q | q
    · exact absurd (h2 ▸ h3) (hn i2 q)
    · exact q
    · exact absurd hb (h4 i q)
  show Classical.epsilon _ = _
  rw [h2, e]
theorem vl_t_bd {P : Int} (h1 : -3780 ≤ P) (h2 : P ≤ 3780) : -63 ≤ vl_t P ∧ vl_t P ≤ 63 := by
  unfold vl_t
  have hq := vl_q_bd P
  generalize vl_q P = q at hq
  rcases (show q = 1 ∨ q = 2 ∨ q = 3 ∨ q = 4 ∨ q = 5 ∨ q = 6 ∨ q = 7 by omega) with rfl | rfl | rfl | rfl | rfl | rfl | rfl <;> omega
theorem vl_tq {P : Int} (h : P * (vl_q P : Int) % 420 = 0) : vl_t P * 420 = P * (vl_q P : Int) := by
  unfold vl_t
  omega
/-- a vertex wins at its own value, and so it has a best edge -/
theorem gr_best_ex {G : gr_T} (hg : gf_ok G) (hc : gr_cpl G) {j : Nat} (hj : j < gr_n G) {f : Nat → Int} (hf : cr_is G (gr_pl G j) (vl_t (vl_F G j)) (vl_q (vl_F G j) : Int) f) : ∃ x ∈ gr_adj G j, gr_bp G j x := by
  have hb := vl_F_bd hg hc hj
  have ht := vl_t_bd hb.1 hb.2
  have hq := vl_q_bd (vl_F G j)
  have hdv := vl_tq (vl_F_dv hg hc hj)
  have hw : cr_win G (gr_pl G j) (vl_t (vl_F G j)) (vl_q (vl_F G j) : Int) j := by
    rw [cr_win_iff hg (by omega) (by omega) (by omega) hj]
    exact ⟨fun _ => by omega, fun _ => by omega⟩
  have ho : cr_ow G (gr_pl G j) j = true := sv_owt hg (gr_pl_2 G j) hj (gr_pl_own hg hj)
  obtain ⟨x, hx, hwx, hle⟩ := gm_cr_edge hf hj hw ho
  have hxn := gr_tgts hg j hj x hx
  refine ⟨x, hx, ?_, ?_⟩
  · have h1 := (gm_cr_win hf hxn).mp hwx
    show cr_f G _ _ _ (gr_tgt G x) ≠ -1
    rw [← cr_f_eq hf hxn]
    omega
  · show cr_f G _ _ _ (gr_tgt G x) ≤ cr_f G _ _ _ j + cr_w G _ _ _ x
    rw [← cr_f_eq hf hxn, ← cr_f_eq hf hj]
    exact hle
theorem gr_best_mem {G : gr_T} {j : Nat} (h : ∃ x ∈ gr_adj G j, gr_bp G j x) : gr_best G j ∈ gr_adj G j := by
  have h2 : ∃ i, i < (gr_adj G j).length ∧ gr_bp G j ((gr_adj G j).getD i 0) := by
    obtain ⟨x, hx, hb⟩ := h
    obtain ⟨i, hi, he⟩ := List.mem_iff_getElem.mp hx
    exact ⟨i, hi, by rw [List.getD_eq_getElem?_getD, List.getElem?_eq_getElem hi]; simpa [he] using hb⟩
  obtain ⟨i, ⟨hi, hb⟩, hl⟩ := gm_least (fun i => i < (gr_adj G j).length ∧ gr_bp G j ((gr_adj G j).getD i 0)) h2
  rw [gr_best_eq hi hb (fun k hk q => by have := hl k ⟨by omega, q⟩; omega)]
  rw [List.getD_eq_getElem?_getD, List.getElem?_eq_getElem hi]
  exact List.getElem_mem hi
theorem iw_X4_bestEdge_X4 : ∀ w ∈ wsX40, w ∈ wsX4_bestEdge := by decide +kernel
set_option maxHeartbeats 4000000 in
set_option maxRecDepth 100000 in
/--  -/
theorem ct_bestEdge (l : Launch) (en : en_T) (ad : Nat → Nat) (c : Nat → Nat → Int32) (hI : xw_I ad) (sz : Nat) {G : gr_T} (hg : gi G c) (hc : gr_cpl G) (hva : va G c) (j : Nat) (hj : j < gr_n G) : Met l yX4_bestEdge wsX4_bestEdge (rm_ 30 0 0) (ct_Pc en [.ref (ad 0), .int (nI j)] (fun H => H.size = sz ∧ va_P en.1 vwCl (xw en ad c) H)) (va_Qi (fun r c' => r = nI (gr_best G j) ∧ gr_best G j ∈ gr_adj G j ∧ kx [14, 15] c c') (fun c' t => va_P en.1 vwCl (xw en ad c') t.heap) (xw_A ad sz)) 0 0 (xw_A ad sz) := by
  refine Met.ofW (cc := cX4_bestEdge) (maxL := 5) (ret := (some .int)) (by decide) rfl ?_
  intro p e s m args below meth co s₁ B hml hv
  obtain ⟨rfl, hE, hsz, hP⟩ := hv
  subst hsz
  have hx := B.exec
  have hb := B.bytes
  have hr := B.returns
  have hts := atoms_spec (ws := wsX4_bestEdge) B.pre
  have hown : s.vm.findClass RX4 = some m.cls := findClass_of_methodNamed B.named
  have hlocks := B.notSynchronized
  have hS : va_S (xw_A ad s.heap.size) s.heap s.heap [] := va_S.rf
  have hl := lv_entry ([.ref (ad 0), .int (nI j)]) (n := 5) (Nat.le_of_ble_eq_true rfl)
  rw [lg_entry_eq]
  generalize (lg_sl ([.ref (ad 0), .int (nI j)]) ++ List.replicate (5 - (lg_sl ([.ref (ad 0), .int (nI j)])).length) Slot.unset).toArray = ls at hl ⊢
  have hl : lv_has ls 5 [(0, .ref (ad 0)), (1, .int (nI j))] := hl
  have hadl := gr_adj_len hg.ok j
  have hfb := vl_F_bd hg.ok hc hj
  have htb := vl_t_bd hfb.1 hfb.2
  have hqb := vl_q_bd (vl_F G j)
  have hqi : (nI (vl_q (vl_F G j))).toInt = (vl_q (vl_F G j) : Int) := nI_toInt (by omega)
  refine lv_aload_n hx hb dX4_bestEdge_0 rfl (lv_at hl 0 rfl) ?_
  refine va_get (D := en.1) (ci := 4) (v := .ref (ad 3)) (C := RX4) (T := TX4) (N := 5) hx hb hts iw_X4_bestEdge_X4 hown hE.1 hP 0 rfl rfl 2 (by decide) (hts (.fieldLink RX4 30 "CreditGame" "credits" "LCreditGame$Credits;") (by decide +kernel)) (fun _ h9 => h9) rfl dX4_bestEdge_1 ?_
  refine lv_aload_n hx hb dX4_bestEdge_4 rfl (lv_at hl 0 rfl) ?_
  refine va_get (D := en.1) (ci := 4) (v := .ref (ad 1)) (C := RX4) (T := TX4) (N := 5) hx hb hts iw_X4_bestEdge_X4 hown hE.1 hP 0 rfl rfl 0 (by decide) (hts (.fieldLink RX4 10 "CreditGame" "graph" "LCreditGame$Graph;") (by decide +kernel)) (fun _ h9 => h9) rfl dX4_bestEdge_5 ?_
  refine lv_iload_n hx hb dX4_bestEdge_8 rfl (lv_at hl 1 rfl) ?_
  refine ro_calli (va_runVN (As := [.int (nI j)]) (rest := [.ref (ad 3)]) ⟨hx, hb, hml, hown, hts⟩ (ct_ownerOf l en ad c hg j (by have := hg.n7; omega)) ⟨va_cnB 1 hts gX4_bestEdge_X1_ownerOf_n156 rfl rfl rfl (hE.2 _ (List.mem_of_getElem? (i := 9) rfl)) (hts (.initialized RX1) (by decide +kernel)) (by decide +kernel) ⟨Nat.le_of_ble_eq_true rfl, Nat.le_of_ble_eq_true rfl⟩, hts (.instanceMethod yX1_ownerOf) (by decide +kernel), hts (.selects RX1 yX1_ownerOf yX1_ownerOf) (by decide +kernel)⟩ (ct_preV hE (va_recv hE.1 hP (ci := 1) (q0 := 1) rfl rfl) hP) rfl rfl hl.1 rfl (lv_room (Nat.le_of_ble_eq_true rfl)) dX4_bestEdge_9 ⟨Nat.le_of_ble_eq_true rfl, Nat.le_of_ble_eq_true rfl⟩) (fun r9 w9 => ?_)
  obtain rfl : r9 = (nI (gr_pl G j)) := (w9.trans ((if_pos hj).trans (gr_pl_own hg.ok hj)))
  refine lv_aload_n hx hb dX4_bestEdge_12 rfl (lv_at hl 0 rfl) ?_
  refine va_get (D := en.1) (ci := 4) (v := .ref (ad 2)) (C := RX4) (T := TX4) (N := 5) hx hb hts iw_X4_bestEdge_X4 hown hE.1 hP 0 rfl rfl 1 (by decide) (hts (.fieldLink RX4 21 "CreditGame" "values" "LCreditGame$Values;") (by decide +kernel)) (fun _ h9 => h9) rfl dX4_bestEdge_13 ?_
  refine lv_iload_n hx hb dX4_bestEdge_16 rfl (lv_at hl 1 rfl) ?_
  refine ro_calli (va_runVN (As := [.int (nI j)]) (rest := [.int (nI (gr_pl G j)), .ref (ad 3)]) ⟨hx, hb, hml, hown, hts⟩ (ct_topOf l en ad c hg j hj (vl_F G j) (hva j hj) hfb.1 hfb.2 (vl_F_dv hg.ok hc hj)) ⟨va_cnB 1 hts gX4_bestEdge_X3_topOf_n123 rfl rfl rfl (hE.2 _ (List.mem_of_getElem? (i := 6) rfl)) (hts (.initialized RX3) (by decide +kernel)) (by decide +kernel) ⟨Nat.le_of_ble_eq_true rfl, Nat.le_of_ble_eq_true rfl⟩, hts (.instanceMethod yX3_topOf) (by decide +kernel), hts (.selects RX3 yX3_topOf yX3_topOf) (by decide +kernel)⟩ (ct_preV hE (va_recv hE.1 hP (ci := 3) (q0 := 2) rfl rfl) hP) rfl rfl hl.1 rfl (lv_room (Nat.le_of_ble_eq_true rfl)) dX4_bestEdge_17 ⟨Nat.le_of_ble_eq_true rfl, Nat.le_of_ble_eq_true rfl⟩) (fun r17 w17 => ?_)
  refine lv_aload_n hx hb dX4_bestEdge_20 rfl (lv_at hl 0 rfl) ?_
  refine va_get (D := en.1) (ci := 4) (v := .ref (ad 2)) (C := RX4) (T := TX4) (N := 5) hx hb hts iw_X4_bestEdge_X4 hown hE.1 hP 0 rfl rfl 1 (by decide) (hts (.fieldLink RX4 21 "CreditGame" "values" "LCreditGame$Values;") (by decide +kernel)) (fun _ h9 => h9) rfl dX4_bestEdge_21 ?_
  refine lv_iload_n hx hb dX4_bestEdge_24 rfl (lv_at hl 1 rfl) ?_
  refine ro_calli (va_runVN (As := [.int (nI j)]) (rest := [.int r17, .int (nI (gr_pl G j)), .ref (ad 3)]) ⟨hx, hb, hml, hown, hts⟩ (ct_bottomOf l en ad c hg j hj (vl_F G j) (hva j hj) hfb.1 hfb.2) ⟨va_cnB 1 hts gX4_bestEdge_X3_bottomOf_n120 rfl rfl rfl (hE.2 _ (List.mem_of_getElem? (i := 5) rfl)) (hts (.initialized RX3) (by decide +kernel)) (by decide +kernel) ⟨Nat.le_of_ble_eq_true rfl, Nat.le_of_ble_eq_true rfl⟩, hts (.instanceMethod yX3_bottomOf) (by decide +kernel), hts (.selects RX3 yX3_bottomOf yX3_bottomOf) (by decide +kernel)⟩ (ct_preV hE (va_recv hE.1 hP (ci := 3) (q0 := 2) rfl rfl) hP) rfl rfl hl.1 rfl (lv_room (Nat.le_of_ble_eq_true rfl)) dX4_bestEdge_25 ⟨Nat.le_of_ble_eq_true rfl, Nat.le_of_ble_eq_true rfl⟩) (fun r25 w25 => ?_)
  obtain rfl : r25 = (nI (vl_q (vl_F G j))) := w25
  refine xr_callv (va_runVN (As := [.int (nI (gr_pl G j)), .int r17, .int (nI (vl_q (vl_F G j)))]) (rest := []) ⟨hx, hb, hml, hown, hts⟩ (ct_solve l en ad c hI _ hg hc hva (gr_pl G j) (gr_pl_2 G j) r17 (nI (vl_q (vl_F G j))) (by rw [hqi]; omega) (by rw [hqi]; omega) (by rw [w17]; exact htb.1) (by rw [w17]; exact htb.2)) ⟨va_cnB 3 hts gX4_bestEdge_X0_solve_n103 rfl rfl rfl (hE.2 _ (List.mem_of_getElem? (i := 1) rfl)) (hts (.initialized RX0) (by decide +kernel)) (by decide +kernel) ⟨Nat.le_of_ble_eq_true rfl, Nat.le_of_ble_eq_true rfl⟩, hts (.instanceMethod yX0_solve) (by decide +kernel), hts (.selects RX0 yX0_solve yX0_solve) (by decide +kernel)⟩ (ct_preV hE (va_recv hE.1 hP (ci := 0) (q0 := 3) rfl rfl) ⟨rfl, hP⟩) rfl rfl hl.1 rfl (lv_room (Nat.le_of_ble_eq_true rfl)) dX4_bestEdge_28 ⟨Nat.le_of_ble_eq_true rfl, Nat.le_of_ble_eq_true rfl⟩) hS (fun c28 H locs w28 hP hS => ?_)
  rw [w17, hqi] at w28
  have hg1 := hg.kx w28.1 (by decide)
  have hf_ : ∀ v, v < gr_n G → (c28 14 v).toInt = gr_f G j v := fun v hv => cr_f_eq w28.2.1 hv
  obtain ⟨xb, hxb, hxbp⟩ := gr_best_ex hg.ok hc hj w28.2.1
  refine lv_aload_n hx hb dX4_bestEdge_31 rfl (lv_at hl 0 rfl) ?_
  refine va_get (D := en.1) (ci := 4) (v := .ref (ad 1)) (C := RX4) (T := TX4) (N := 5) hx hb hts iw_X4_bestEdge_X4 hown hE.1 hP 0 rfl rfl 0 (by decide) (hts (.fieldLink RX4 10 "CreditGame" "graph" "LCreditGame$Graph;") (by decide +kernel)) (fun _ h9 => h9) rfl dX4_bestEdge_32 ?_
  refine lv_iload_n hx hb dX4_bestEdge_35 rfl (lv_at hl 1 rfl) ?_
  refine ro_calli (va_runVN (As := [.int (nI j)]) (rest := []) ⟨hx, hb, hml, hown, hts⟩ (ct_waysFrom l en ad c28 hg1 j (by have := hg.n7; omega)) ⟨va_cnB 1 hts gX4_bestEdge_X1_waysFrom_n159 rfl rfl rfl (hE.2 _ (List.mem_of_getElem? (i := 10) rfl)) (hts (.initialized RX1) (by decide +kernel)) (by decide +kernel) ⟨Nat.le_of_ble_eq_true rfl, Nat.le_of_ble_eq_true rfl⟩, hts (.instanceMethod yX1_waysFrom) (by decide +kernel), hts (.selects RX1 yX1_waysFrom yX1_waysFrom) (by decide +kernel)⟩ (ct_preV hE (va_recv hE.1 hP (ci := 1) (q0 := 1) rfl rfl) hP) rfl rfl hl.1 rfl (lv_room (Nat.le_of_ble_eq_true rfl)) dX4_bestEdge_36 ⟨Nat.le_of_ble_eq_true rfl, Nat.le_of_ble_eq_true rfl⟩) (fun r36 w36 => ?_)
  obtain rfl : r36 = (nI (gr_adj G j).length) := w36
  refine lv_istore_n (lv' := [(2, .int (nI (gr_adj G j).length)), (0, .ref (ad 0)), (1, .int (nI j))]) hx hb dX4_bestEdge_39 rfl hl (by decide) rfl (fun ls hl => ?_)
  refine lv_iconst (v := (nI 0)) hx hb dX4_bestEdge_40 (by decide) ?_
  refine lv_istore_n (lv' := [(3, .int (nI 0)), (2, .int (nI (gr_adj G j).length)), (0, .ref (ad 0)), (1, .int (nI j))]) hx hb dX4_bestEdge_41 rfl hl (by decide) rfl (fun ls hl => ?_)
  have key42 : ∀ (n_ : Nat) (i : Nat) (c_ : Nat → Nat → Int32) (H : Heap) (locs : List Loc) (ls : Array Slot), i ≤ (gr_adj G j).length → (gr_adj G j).length + 1 ≤ i + n_ → c_ = c28 → (∀ k, k < i → ¬ gr_bp G j ((gr_adj G j).getD k 0)) → va_P en.1 vwCl (xw en ad c_) H → va_S (xw_A ad s.heap.size) s.heap H locs → lv_has ls 5 [(0, .ref (ad 0)), (1, .int (nI j)), (2, .int (nI (gr_adj G j).length)), (3, .int (nI i))] → W p l e (headSpec wsX4_bestEdge (rm_ 30 0 0)).room s m ([.ref (ad 0), .int (nI j)] : List Value).toArray below meth co H locs 0 0 (MQ below (va_Qi (fun r c' => r = nI (gr_best G j) ∧ gr_best G j ∈ gr_adj G j ∧ kx [14, 15] c c') (fun c' t => va_P en.1 vwCl (xw en ad c') t.heap) (xw_A ad s.heap.size)) ([.ref (ad 0), .int (nI j)] : List Value).toArray s 0 0 (xw_A ad s.heap.size)) (F0 m 42 ls []) := by
    intro n_
    induction n_ with
    | zero =>
      intro i c_ H locs ls hi_ hin hec hno hP hS hl
      exact absurd hin (by omega)
    | succ n_ ih42 =>
      intro i c_ H locs ls hi_ hin hec hno hP hS hl
      have hg2 : gi G c_ := by rw [hec]; exact hg1
      have w9_ := w28
      rw [← hec] at w9_
      have hf2 := hf_
      rw [← hec] at hf2
      refine lv_iload_n hx hb dX4_bestEdge_42 rfl (lv_at hl 3 rfl) ?_
      refine lv_iload_n hx hb dX4_bestEdge_43 rfl (lv_at hl 2 rfl) ?_
      refine lv_icmp_ge (tgt := 80) hx hb dX4_bestEdge_44 (by decide) (fun b44 => ?_) (fun b44 => ?_)
      · skip
        exfalso
        have hin2 : i = (gr_adj G j).length := by
          rcases Nat.lt_or_ge i (gr_adj G j).length with q | q
          · exact absurd b44 (nI_ge q (by omega))
          · omega
        obtain ⟨k, hk, he⟩ := List.mem_iff_getElem.mp hxb
        exact hno k (by omega) (by rw [List.getD_eq_getElem?_getD, List.getElem?_eq_getElem hk]; simpa [he] using hxbp)
      · skip
        have hlt : i < (gr_adj G j).length := by
          rcases Nat.lt_or_ge i (gr_adj G j).length with q | q
          · exact q
          · exact absurd (nI_le q (by omega)) b44
        have hm := gr_adj_at hg.ok hj hlt
        obtain ⟨x, hx_⟩ : ∃ z, z = (gr_adj G j).getD i 0 := ⟨_, rfl⟩
        rw [← hx_] at hm
        have hxE := (gr_adj_mem hg.ok hj hm).1
        have hxn := gr_tgts hg.ok j hj x hm
        refine lv_aload_n hx hb dX4_bestEdge_47 rfl (lv_at hl 0 rfl) ?_
        refine va_get (D := en.1) (ci := 4) (v := .ref (ad 1)) (C := RX4) (T := TX4) (N := 5) hx hb hts iw_X4_bestEdge_X4 hown hE.1 hP 0 rfl rfl 0 (by decide) (hts (.fieldLink RX4 10 "CreditGame" "graph" "LCreditGame$Graph;") (by decide +kernel)) (fun _ h9 => h9) rfl dX4_bestEdge_48 ?_
        refine lv_iload_n hx hb dX4_bestEdge_51 rfl (lv_at hl 1 rfl) ?_
        refine lv_iload_n hx hb dX4_bestEdge_52 rfl (lv_at hl 3 rfl) ?_
        refine ro_calli (va_runVN (As := [.int (nI j), .int (nI i)]) (rest := []) ⟨hx, hb, hml, hown, hts⟩ (ct_wayFrom l en ad c_ hg2 j i hj hlt) ⟨va_cnB 2 hts gX4_bestEdge_X1_wayFrom_n162 rfl rfl rfl (hE.2 _ (List.mem_of_getElem? (i := 11) rfl)) (hts (.initialized RX1) (by decide +kernel)) (by decide +kernel) ⟨Nat.le_of_ble_eq_true rfl, Nat.le_of_ble_eq_true rfl⟩, hts (.instanceMethod yX1_wayFrom) (by decide +kernel), hts (.selects RX1 yX1_wayFrom yX1_wayFrom) (by decide +kernel)⟩ (ct_preV hE (va_recv hE.1 hP (ci := 1) (q0 := 1) rfl rfl) hP) rfl rfl hl.1 rfl (lv_room (Nat.le_of_ble_eq_true rfl)) dX4_bestEdge_53 ⟨Nat.le_of_ble_eq_true rfl, Nat.le_of_ble_eq_true rfl⟩) (fun r53 w53 => ?_)
        obtain rfl : r53 = (nI x) := (w53.trans (by rw [hx_]))
        refine lv_istore (lv' := [(4, .int (nI x)), (0, .ref (ad 0)), (1, .int (nI j)), (2, .int (nI (gr_adj G j).length)), (3, .int (nI i))]) hx hb dX4_bestEdge_56 hl (by decide) rfl (fun ls hl => ?_)
        refine lv_aload_n hx hb dX4_bestEdge_58 rfl (lv_at hl 1 rfl) ?_
        refine va_get (D := en.1) (ci := 4) (v := .ref (ad 3)) (C := RX4) (T := TX4) (N := 5) hx hb hts iw_X4_bestEdge_X4 hown hE.1 hP 0 rfl rfl 2 (by decide) (hts (.fieldLink RX4 30 "CreditGame" "credits" "LCreditGame$Credits;") (by decide +kernel)) (fun _ h9 => h9) rfl dX4_bestEdge_59 ?_
        refine lv_iload_n hx hb dX4_bestEdge_62 rfl (lv_at hl 2 rfl) ?_
        refine lv_iload hx hb dX4_bestEdge_63 (lv_at hl 0 rfl) ?_
        refine ro_calli (va_runVN (As := [.int (nI j), .int (nI x)]) (rest := []) ⟨hx, hb, hml, hown, hts⟩ (ct_allows l en ad c_ hg2 x hxE w9_.2.2.2 (by rw [w9_.2.2.1 x hxE]; have := cr_w_bd hg.ok (pl := gr_pl G j) (p := vl_t (vl_F G j)) (q := (vl_q (vl_F G j) : Int)) (by omega) (by omega) htb.1 htb.2 x hxE; omega) j (by have := hg.n7; omega)) ⟨va_cnB 2 hts gX4_bestEdge_X0_allows_n165 rfl rfl rfl (hE.2 _ (List.mem_of_getElem? (i := 12) rfl)) (hts (.initialized RX0) (by decide +kernel)) (by decide +kernel) ⟨Nat.le_of_ble_eq_true rfl, Nat.le_of_ble_eq_true rfl⟩, hts (.instanceMethod yX0_allows) (by decide +kernel), hts (.selects RX0 yX0_allows yX0_allows) (by decide +kernel)⟩ (ct_preV hE (va_recv hE.1 hP (ci := 0) (q0 := 3) rfl rfl) hP) rfl rfl hl.1 rfl (lv_room (Nat.le_of_ble_eq_true rfl)) dX4_bestEdge_65 ⟨Nat.le_of_ble_eq_true rfl, Nat.le_of_ble_eq_true rfl⟩) (fun r65 w65 => ?_)
        have hbp : r65 = 1 ↔ gr_bp G j ((gr_adj G j).getD i 0) := by
          rw [← hx_]
          unfold gr_bp gr_g
          rw [← hf2 _ hxn, ← hf2 j hj, ← w9_.2.2.1 x hxE]
          rcases w65 with q | q
          · exact ⟨fun _ => q.2, fun _ => q.1⟩
          · exact ⟨fun q2 => absurd (q.1.symm.trans q2) (by decide), fun q2 => absurd q2 q.2⟩
        refine lv_if_eq (tgt := 74) hx hb dX4_bestEdge_68 (by decide) (fun b68 => ?_) (fun b68 => ?_)
        · skip
          have hbn : ¬ r65 = 1 := by rw [b68]; decide
          refine lv_iinc (v := (nI (i + 1))) (lv' := [(3, .int (nI (i + 1))), (4, .int (nI x)), (0, .ref (ad 0)), (1, .int (nI j)), (2, .int (nI (gr_adj G j).length))]) hx hb dX4_bestEdge_74 hl (k := 4) rfl (nI_1 _) (by decide) rfl (fun ls hl => ?_)
          refine lv_goto (tgt := 42) hx hb dX4_bestEdge_77 (by decide) ?_
          exact ih42 (i + 1) c_ _ _ _ (by omega) (by omega) hec (fun k h => by by_cases e9 : k = i; rw [e9]; exact fun q => hbn (hbp.mpr q); exact hno k (by omega)) hP hS (lv_sub hl [2, 3, 4, 0] rfl)
        · skip
          have hby : r65 = 1 := by
            rcases w65 with q | q
            · exact q.1
            · exact absurd q.1 b68
          have hbe := gr_best_eq hlt (hbp.mp hby) hno
          refine lv_iload hx hb dX4_bestEdge_71 (lv_at hl 0 rfl) ?_
          exact W.iret (v := (nI x)) hx hb hr (fun t ht hW => ⟨⟨_, c_, rfl, ⟨by rw [hbe, hx_], gr_best_mem ⟨xb, hxb, hxbp⟩, w9_.1⟩, by show va_P _ _ _ t.heap; rw [ht]; exact hP⟩, hS.F ht⟩) hS.2.2 dX4_bestEdge_73
  exact key42 ((gr_adj G j).length + 1) 0 c28 _ _ _ (by omega) (by omega) rfl (fun k h => absurd h (Nat.not_lt_zero k)) hP hS (lv_sub hl [2, 3, 1, 0] rfl)
