/-! ===== CreditGame: the public methods ===== -/
/-- there is a credit function -/
theorem gm_cr_ex {n : Nat} {adj : Nat → List Nat} {tgt : Nat → Nat} {ow : Nat → Bool} {w : Nat → Int} {M : Int} (hn : n ≤ 7) (h0 : 0 ≤ M) (hT : ∀ v, v < n → ∀ e ∈ adj v, tgt e < n) (hM : ∀ v, v < n → ∀ e ∈ adj v, -M ≤ w e) : ∃ f, gm_isCr n adj tgt ow w f := by
  obtain ⟨fm, hm, -, -⟩ := gm_pre_ex (ow := ow) hn h0 hT hM
  have hex : ∀ v, ∃ k : Nat, v < n → gm_win adj tgt ow w 8 [] v 0 → (∃ f', gm_pre n adj tgt ow w f' ∧ f' v = (k : Int)) ∧ ∀ f', gm_pre n adj tgt ow w f' → (k : Int) ≤ f' v := by
    intro v
    by_cases hv : v < n ∧ gm_win adj tgt ow w 8 [] v 0
    · obtain ⟨k, h1, h2⟩ := gm_least (fun k => ∃ f', gm_pre n adj tgt ow w f' ∧ f' v = (k : Int)) ⟨(fm v).toNat, fm, hm, (Int.toNat_of_nonneg (hm v hv.1 hv.2).1).symm⟩
      refine ⟨k, fun _ _ => ⟨h1, fun f' hf' => ?_⟩⟩
      have h3 := (hf' v hv.1 hv.2).1
      have h4 := h2 (f' v).toNat ⟨f', hf', (Int.toNat_of_nonneg h3).symm⟩
      omega
    · exact ⟨0, fun h1 h2 => absurd ⟨h1, h2⟩ hv⟩
  obtain ⟨g, hg⟩ : ∃ g : Nat → Nat, ∀ v, v < n → gm_win adj tgt ow w 8 [] v 0 → (∃ f', gm_pre n adj tgt ow w f' ∧ f' v = (g v : Int)) ∧ ∀ f', gm_pre n adj tgt ow w f' → (g v : Int) ≤ f' v := ⟨fun v => (hex v).choose, fun v => (hex v).choose_spec⟩
  classical
  have hif : ∀ v, gm_win adj tgt ow w 8 [] v 0 → (if gm_win adj tgt ow w 8 [] v 0 then (g v : Int) else -1) = (g v : Int) := fun v hw => if_pos hw
  refine ⟨fun v => if gm_win adj tgt ow w 8 [] v 0 then (g v : Int) else -1, fun v hv hw => if_neg hw, fun v hv hw => ?_, fun f' hf' v hv hw => ?_⟩
  · simp only [hif v hw]
    obtain ⟨⟨f', hf', he⟩, hle⟩ := hg v hv hw
    refine ⟨by omega, fun ho => ?_, fun ho e hem hwe => ?_⟩
    · obtain ⟨e, hem, hwe, h1⟩ := (hf' v hv hw).2.1 ho
      refine ⟨e, hem, hwe, ?_⟩
      rw [hif _ hwe]
      have := (hg _ (hT v hv e hem) hwe).2 f' hf'
      omega
    · rw [hif _ hwe]
      have := (hg _ (hT v hv e hem) hwe).2 f' hf'
      have := (hf' v hv hw).2.2 ho e hem hwe
      omega
  · simp only [hif v hw]
    exact (hg v hv hw).2 f' hf'
theorem gr_best_in {G : gr_T} (hg : gf_ok G) (hc : gr_cpl G) : ∀ v, v < gr_n G → gr_best G v ∈ gr_adj G v := by
  intro v hv
  have hb := vl_F_bd hg hc hv
  have ht := vl_t_bd hb.1 hb.2
  have hq := vl_q_bd (vl_F G v)
  obtain ⟨f, hf⟩ := gm_cr_ex (n := gr_n G) (adj := gr_adj G) (tgt := gr_tgt G) (ow := cr_ow G (gr_pl G v)) (w := cr_w G (gr_pl G v) (vl_t (vl_F G v)) (vl_q (vl_F G v) : Int)) (M := 126) hg.1 (by omega) (gr_tgts hg) (cr_M hg (by omega) (by omega) ht.1 ht.2)
  exact gr_best_mem (gr_best_ex hg hc hv hf)
/-- what holds of the class between calls -/
def ci (G : gr_T) (c : Nat → Nat → Int32) : Prop := gi G c ∧ vi G c
theorem va_of {G : gr_T} {c : Nat → Nat → Int32} (hn : gr_n G ≤ 7) (h : vi G c) (hk : ∀ v, v < gr_n G → c 12 v = 1) : va G c := by
  intro v hv
  rcases h v (by omega) with q | q
  · rw [hk v hv] at q; exact absurd q (by decide)
  · exact q.2.2.2
theorem ci_kx {G : gr_T} {c c' : Nat → Nat → Int32} {S : List Nat} (h : ci G c) (hk : kx S c c') (hS : ∀ k ∈ S, 14 ≤ k ∧ k ≤ 20) : ci G c' := ⟨h.1.kx hk (fun k q => by have := hS k q; omega), vi_eq h.2 (hk 12 (fun q => by have := hS 12 q; omega)) (hk 13 (fun q => by have := hS 13 q; omega))⟩
theorem ci_new {G : gr_T} {c1 c2 : Nat → Nat → Int32} {S : List Nat} (hg : gi G c2) (h0 : ∀ j, j < 7 → c1 12 j = 0) (hk : kx S c1 c2) (hS : 12 ∉ S) : ci G c2 := ⟨hg, vi_0 (fun v hv => by rw [hk 12 hS]; exact h0 v hv)⟩
theorem rs_iff {G : gr_T} (hg : gf_ok G) (hc : gr_cpl G) {j : Nat} {pI qI r x : Int32} (hj : j < gr_n G) (hx : x.toInt = vl_F G j) (hp1 : -99 ≤ pI.toInt) (hp2 : pI.toInt ≤ 99) (hq1 : 1 ≤ qI.toInt) (hq9 : qI.toInt ≤ 9) (hr : r = if (if j < gr_n G then x else 0) * qI < pI * 420 then -1 else if (if j < gr_n G then x else 0) * qI = pI * 420 then 0 else 1) : r < 0 ↔ ¬ pI.toInt * 420 ≤ vl_F G j * qI.toInt := by
  rw [if_pos hj] at hr
  have hb := vl_F_bd hg hc hj
  have hm : -34020 ≤ x.toInt * qI.toInt ∧ x.toInt * qI.toInt ≤ 34020 := by
    rw [← hx] at hb
    generalize x.toInt = y at hb
    generalize qI.toInt = q at hq1 hq9
    rcases (show q = 1 ∨ q = 2 ∨ q = 3 ∨ q = 4 ∨ q = 5 ∨ q = 6 ∨ q = 7 ∨ q = 8 ∨ q = 9 by omega) with rfl | rfl | rfl | rfl | rfl | rfl | rfl | rfl | rfl <;> omega
  have e1 : (x * qI).toInt = x.toInt * qI.toInt := i_mul (by omega) (by omega)
  have e2 : (pI * 420).toInt = pI.toInt * 420 := by rw [i_mul (by rw [i_420]; omega) (by rw [i_420]; omega), i_420]
  rw [← hx, ← e1, ← e2]
  by_cases h1 : x * qI < pI * 420
  · rw [if_pos h1] at hr
    have := i_lt.mp h1
    exact ⟨fun _ => by omega, fun _ => by rw [hr]; decide⟩
  · rw [if_neg h1] at hr
    have h1' : ¬ (x * qI).toInt < (pI * 420).toInt := fun q => h1 (i_lt.mpr q)
    constructor
    · intro q
      by_cases h2 : x * qI = pI * 420
      · rw [if_pos h2] at hr; rw [hr] at q; exact absurd q (by decide)
      · rw [if_neg h2] at hr; rw [hr] at q; exact absurd q (by decide)
    · intro q; omega
theorem i_9 : (9 : Int32).toInt = 9 ∧ (-9 : Int32).toInt = -9 ∧ (99 : Int32).toInt = 99 ∧ (-99 : Int32).toInt = -99 ∧ (3 : Int32).toInt = 3 := by decide
theorem iw_X4_vertex_X1 : ∀ w ∈ wsX10, w ∈ wsX4_vertex := by decide +kernel
theorem iw_X4_vertex_X4 : ∀ w ∈ wsX40, w ∈ wsX4_vertex := by decide +kernel
set_option maxHeartbeats 4000000 in
set_option maxRecDepth 100000 in
/--  -/
theorem ct_vertex (l : Launch) (hlt : l.stackTraces = false) (en : en_T) (ad : Nat → Nat) (c : Nat → Nat → Int32) (hI : xw_I ad) (sz : Nat) {G : gr_T} (hc_ : ci G c) (x : Int32) : vx_Met l yX4_vertex wsX4_vertex (rm_ 40 4 24) (tc_Pc en ad sz [.ref (ad 0), .int x] (fun H => va_P en.1 vwCl (xw en ad c) H)) (va_Qi (fun r c' => (x = 0 ∨ x = 1) ∧ gr_n G < 7 ∧ r = nI (gr_n G) ∧ ci (gr_addV G x) c') (fun c' t => va_P en.1 vwCl (xw en ad c') t.heap) (xw_A ad sz)) (tx_X en ad c sz (fun E => (E = eA ∧ ¬ (x = 0 ∨ x = 1)) ∨ (E = eS ∧ (x = 0 ∨ x = 1) ∧ ¬ gr_n G < 7))) 4 24 (xw_A ad sz) := by
  refine vx_ofW (cc := cX4_vertex) (maxL := 2) (ret := (some .int)) (by decide) rfl ?_
  intro p e s m args below meth co s₁ B hml hnx hv
  obtain ⟨rfl, hE, ⟨hsz, hT⟩, hP⟩ := hv
  subst hsz
  have hx := B.exec
  have hb := B.bytes
  have hr := B.returns
  have hts := atoms_spec (ws := wsX4_vertex) B.pre
  have hown : s.vm.findClass RX4 = some m.cls := findClass_of_methodNamed B.named
  have hlocks := B.notSynchronized
  have hS : va_S (xw_A ad s.heap.size) s.heap s.heap [] := va_S.rf
  have hl := lv_entry ([.ref (ad 0), .int x]) (n := 2) (Nat.le_of_ble_eq_true rfl)
  rw [lg_entry_eq]
  generalize (lg_sl ([.ref (ad 0), .int x]) ++ List.replicate (2 - (lg_sl ([.ref (ad 0), .int x])).length) Slot.unset).toArray = ls at hl ⊢
  have hl : lv_has ls 2 [(0, .ref (ad 0)), (1, .int x)] := hl
  have hg := hc_.1
  have hn7 := hg.n7
  refine lv_aload_n hx hb dX4_vertex_0 rfl (lv_at hl 0 rfl) ?_
  refine lv_iload_n hx hb dX4_vertex_1 rfl (lv_at hl 1 rfl) ?_
  refine tx_callv (vx_runV (As := [.int x]) (rest := []) ⟨hx, hb, hml, hown, hts⟩ (ct_checkPlayer l hlt en ad c hI _ x) (cwV 1 hts gX4_vertex_X4_checkPlayer rfl rfl rfl (by decide +kernel) ⟨Nat.le_of_ble_eq_true rfl, Nat.le_of_ble_eq_true rfl⟩) (tc_preV hE (hT.next hS) (va_recv hE.1 hP (ci := 4) (q0 := 0) rfl rfl) hP) rfl rfl hl.1 rfl (lv_room (Nat.le_of_ble_eq_true rfl)) dX4_vertex_2 ⟨Nat.le_of_ble_eq_true rfl, Nat.le_of_ble_eq_true rfl⟩) hS (fun E9 ce q9 H locs hX9 hP hS hce hcv hcl => ?_) (fun locs w2 hS => ?_)
  · exact vx_out (E := E9) (fun x hx9 => (hnx x hx9).elim) hlocks hce hcv hcl (tx_on hP hS (Or.inl hX9)) hS.2.2 (Nat.le_of_ble_eq_true rfl) (Nat.le_of_ble_eq_true rfl)
  refine lv_aload_n hx hb dX4_vertex_5 rfl (lv_at hl 0 rfl) ?_
  refine va_get (D := en.1) (ci := 4) (v := .ref (ad 1)) (C := RX4) (T := TX4) (N := 5) hx hb hts iw_X4_vertex_X4 hown hE.1 hP 0 rfl rfl 0 (by decide) (hts (.fieldLink RX4 10 "CreditGame" "graph" "LCreditGame$Graph;") (by decide +kernel)) (fun _ h9 => h9) rfl dX4_vertex_6 ?_
  refine va_getN (D := en.1) (ci := 1) (v := .int (c 1 0)) (C := RX1) (T := TX1) (N := 9) hx hb hts iw_X4_vertex_X1 hown hE.1 hP 1 rfl rfl 7 (by decide) (va_Nw.use rfl (hE.2 _ (List.mem_of_getElem? (i := 49) rfl))) (fun _ h9 => h9) rfl dX4_vertex_9 ?_
  refine lv_topi (fun z_9 ez_9 => ?_)
  obtain rfl : z_9 = (nI (gr_n G)) := (ez_9.trans hg.vc)
  refine lv_bipush (v := (nI 7)) hx hb dX4_vertex_12 (by decide) ?_
  refine lv_icmp_lt (tgt := 27) hx hb dX4_vertex_14 (by decide) (fun b14 => ?_) (fun b14 => ?_)
  · skip
    have hn_ : gr_n G < 7 := by
      rcases Nat.lt_or_ge (gr_n G) 7 with q | q
      · exact q
      · exact absurd b14 (nI_nlt q (by omega))
    refine lv_aload_n hx hb dX4_vertex_27 rfl (lv_at hl 0 rfl) ?_
    refine va_get (D := en.1) (ci := 4) (v := .ref (ad 2)) (C := RX4) (T := TX4) (N := 5) hx hb hts iw_X4_vertex_X4 hown hE.1 hP 0 rfl rfl 1 (by decide) (hts (.fieldLink RX4 21 "CreditGame" "values" "LCreditGame$Values;") (by decide +kernel)) (fun _ h9 => h9) rfl dX4_vertex_28 ?_
    refine xr_callv (va_runVN (As := []) (rest := []) ⟨hx, hb, hml, hown, hts⟩ (ct_forget l en ad c hI _) ⟨va_cnB 0 hts gX4_vertex_X3_forget_n60 rfl rfl rfl (hE.2 _ (List.mem_of_getElem? (i := 23) rfl)) (hts (.initialized RX3) (by decide +kernel)) (by decide +kernel) ⟨Nat.le_of_ble_eq_true rfl, Nat.le_of_ble_eq_true rfl⟩, hts (.instanceMethod yX3_forget) (by decide +kernel), hts (.selects RX3 yX3_forget yX3_forget) (by decide +kernel)⟩ (ct_preV hE (va_recv hE.1 hP (ci := 3) (q0 := 2) rfl rfl) ⟨rfl, hP⟩) rfl rfl hl.1 rfl (lv_room (Nat.le_of_ble_eq_true rfl)) dX4_vertex_31 ⟨Nat.le_of_ble_eq_true rfl, Nat.le_of_ble_eq_true rfl⟩) hS (fun c31 H locs w31 hP hS => ?_)
    have hg1 := hg.kx w31.1 (by decide)
    refine lv_aload_n hx hb dX4_vertex_34 rfl (lv_at hl 0 rfl) ?_
    refine va_get (D := en.1) (ci := 4) (v := .ref (ad 1)) (C := RX4) (T := TX4) (N := 5) hx hb hts iw_X4_vertex_X4 hown hE.1 hP 0 rfl rfl 0 (by decide) (hts (.fieldLink RX4 10 "CreditGame" "graph" "LCreditGame$Graph;") (by decide +kernel)) (fun _ h9 => h9) rfl dX4_vertex_35 ?_
    refine lv_iload_n hx hb dX4_vertex_38 rfl (lv_at hl 1 rfl) ?_
    refine xr_calli (va_runVN (As := [.int x]) (rest := []) ⟨hx, hb, hml, hown, hts⟩ (ct_addVertex l en ad c31 hI _ hg1 hn_ x w2) ⟨va_cnB 1 hts gX4_vertex_X1_addVertex_n63 rfl rfl rfl (hE.2 _ (List.mem_of_getElem? (i := 24) rfl)) (hts (.initialized RX1) (by decide +kernel)) (by decide +kernel) ⟨Nat.le_of_ble_eq_true rfl, Nat.le_of_ble_eq_true rfl⟩, hts (.instanceMethod yX1_addVertex) (by decide +kernel), hts (.selects RX1 yX1_addVertex yX1_addVertex) (by decide +kernel)⟩ (ct_preV hE (va_recv hE.1 hP (ci := 1) (q0 := 1) rfl rfl) ⟨rfl, hP⟩) rfl rfl hl.1 rfl (lv_room (Nat.le_of_ble_eq_true rfl)) dX4_vertex_39 ⟨Nat.le_of_ble_eq_true rfl, Nat.le_of_ble_eq_true rfl⟩) hS (fun r39 c39 H locs w39 hP hS => ?_)
    refine W.widen (k := 4) (n := 24) (Nat.le_of_ble_eq_true rfl) (Nat.le_of_ble_eq_true rfl) (vx_ret ?_)
    exact W.iret (v := r39) hx hb hr (fun t ht hW => ⟨⟨_, c39, rfl, ⟨w2, hn_, w39.1, ci_new w39.2.1 w31.2 w39.2.2 (by decide)⟩, by show va_P _ _ _ t.heap; rw [ht]; exact hP⟩, hS.F ht⟩) hS.2.2 dX4_vertex_42
  · skip
    have hn_ : ¬ gr_n G < 7 := fun q => b14 (nI_lt q (by omega))
    obtain ⟨sa, hsa⟩ := hT.2.1 (55, "there are 7 vertices") (by decide)
    exact vx_throwS hx hb hlt (own := RX4) (cls := eS) (text := "there are 7 vertices") (names := eNs) (ik := 53) (is := 55) (ic := 57) (A := xw_A ad s.heap.size) hown (by decide) (by decide) (hts (.classLink RX4 53 eS) (by decide +kernel)) (hts (.initialized eS) (by decide +kernel)) hsa (tx_hatS (fun w h => hts w (List.mem_cons_of_mem _ (List.mem_append_left _ (List.mem_append_right _ h)))) hT) tx_gS hT.2.2.1 hT.2.2.2 hS (hl.1.trans hml.symm) dX4_vertex_17 dX4_vertex_20 dX4_vertex_21 dX4_vertex_23 dX4_vertex_26 (fun x hx9 => (hnx x hx9).elim) (Nat.le_of_ble_eq_true rfl) (Nat.le_of_ble_eq_true rfl) (Nat.le_of_ble_eq_true rfl) (Nat.le_of_ble_eq_true rfl) hlocks (tx_thrown hP hS (Or.inr ⟨rfl, w2, hn_⟩)) hS.2.2 (Nat.le_of_ble_eq_true rfl) (Nat.le_of_ble_eq_true rfl)
theorem iw_X4_edge_X1 : ∀ w ∈ wsX10, w ∈ wsX4_edge := by decide +kernel
theorem iw_X4_edge_X4 : ∀ w ∈ wsX40, w ∈ wsX4_edge := by decide +kernel
set_option maxHeartbeats 4000000 in
set_option maxRecDepth 100000 in
/--  -/
theorem ct_edge (l : Launch) (hlt : l.stackTraces = false) (en : en_T) (ad : Nat → Nat) (c : Nat → Nat → Int32) (hI : xw_I ad) (sz : Nat) {G : gr_T} (hc_ : ci G c) (a b x : Int32) : vx_Met l yX4_edge wsX4_edge (rm_ 40 4 24) (tc_Pc en ad sz [.ref (ad 0), .int a, .int b, .int x] (fun H => va_P en.1 vwCl (xw en ad c) H)) (va_Qi (fun r c' => ((∃ i, i < gr_n G ∧ a = nI i) ∧ (∃ j, j < gr_n G ∧ b = nI j) ∧ -9 ≤ x.toInt ∧ x.toInt ≤ 9) ∧ gr_E G < 24 ∧ r = nI (gr_E G) ∧ ci (gr_addE G a b x) c') (fun c' t => va_P en.1 vwCl (xw en ad c') t.heap) (xw_A ad sz)) (tx_X en ad c sz (fun E => (E = eA ∧ ¬ ((∃ i, i < gr_n G ∧ a = nI i) ∧ (∃ j, j < gr_n G ∧ b = nI j) ∧ -9 ≤ x.toInt ∧ x.toInt ≤ 9)) ∨ (E = eS ∧ ((∃ i, i < gr_n G ∧ a = nI i) ∧ (∃ j, j < gr_n G ∧ b = nI j) ∧ -9 ≤ x.toInt ∧ x.toInt ≤ 9) ∧ ¬ gr_E G < 24))) 4 24 (xw_A ad sz) := by
  refine vx_ofW (cc := cX4_edge) (maxL := 4) (ret := (some .int)) (by decide) rfl ?_
  intro p e s m args below meth co s₁ B hml hnx hv
  obtain ⟨rfl, hE, ⟨hsz, hT⟩, hP⟩ := hv
  subst hsz
  have hx := B.exec
  have hb := B.bytes
  have hr := B.returns
  have hts := atoms_spec (ws := wsX4_edge) B.pre
  have hown : s.vm.findClass RX4 = some m.cls := findClass_of_methodNamed B.named
  have hlocks := B.notSynchronized
  have hS : va_S (xw_A ad s.heap.size) s.heap s.heap [] := va_S.rf
  have hl := lv_entry ([.ref (ad 0), .int a, .int b, .int x]) (n := 4) (Nat.le_of_ble_eq_true rfl)
  rw [lg_entry_eq]
  generalize (lg_sl ([.ref (ad 0), .int a, .int b, .int x]) ++ List.replicate (4 - (lg_sl ([.ref (ad 0), .int a, .int b, .int x])).length) Slot.unset).toArray = ls at hl ⊢
  have hl : lv_has ls 4 [(0, .ref (ad 0)), (1, .int a), (2, .int b), (3, .int x)] := hl
  have hg := hc_.1
  have hn7 := hg.n7
  refine lv_aload_n hx hb dX4_edge_0 rfl (lv_at hl 0 rfl) ?_
  refine lv_iload_n hx hb dX4_edge_1 rfl (lv_at hl 1 rfl) ?_
  refine tx_callv (vx_runV (As := [.int a]) (rest := []) ⟨hx, hb, hml, hown, hts⟩ (ct_checkVertex l hlt en ad c hI _ hg a) (cwV 1 hts gX4_edge_X4_checkVertex rfl rfl rfl (by decide +kernel) ⟨Nat.le_of_ble_eq_true rfl, Nat.le_of_ble_eq_true rfl⟩) (tc_preV hE (hT.next hS) (va_recv hE.1 hP (ci := 4) (q0 := 0) rfl rfl) hP) rfl rfl hl.1 rfl (lv_room (Nat.le_of_ble_eq_true rfl)) dX4_edge_2 ⟨Nat.le_of_ble_eq_true rfl, Nat.le_of_ble_eq_true rfl⟩) hS (fun E9 ce q9 H locs hX9 hP hS hce hcv hcl => ?_) (fun locs w2 hS => ?_)
  · exact vx_out (E := E9) (fun x hx9 => (hnx x hx9).elim) hlocks hce hcv hcl (tx_on hP hS (Or.inl ⟨hX9.1, fun q => hX9.2 q.1⟩)) hS.2.2 (Nat.le_of_ble_eq_true rfl) (Nat.le_of_ble_eq_true rfl)
  refine lv_aload_n hx hb dX4_edge_5 rfl (lv_at hl 0 rfl) ?_
  refine lv_iload_n hx hb dX4_edge_6 rfl (lv_at hl 2 rfl) ?_
  refine tx_callv (vx_runV (As := [.int b]) (rest := []) ⟨hx, hb, hml, hown, hts⟩ (ct_checkVertex l hlt en ad c hI _ hg b) (cwV 1 hts gX4_edge_X4_checkVertex rfl rfl rfl (by decide +kernel) ⟨Nat.le_of_ble_eq_true rfl, Nat.le_of_ble_eq_true rfl⟩) (tc_preV hE (hT.next hS) (va_recv hE.1 hP (ci := 4) (q0 := 0) rfl rfl) hP) rfl rfl hl.1 rfl (lv_room (Nat.le_of_ble_eq_true rfl)) dX4_edge_7 ⟨Nat.le_of_ble_eq_true rfl, Nat.le_of_ble_eq_true rfl⟩) hS (fun E9 ce q9 H locs hX9 hP hS hce hcv hcl => ?_) (fun locs w7 hS => ?_)
  · exact vx_out (E := E9) (fun x hx9 => (hnx x hx9).elim) hlocks hce hcv hcl (tx_on hP hS (Or.inl ⟨hX9.1, fun q => hX9.2 q.2.1⟩)) hS.2.2 (Nat.le_of_ble_eq_true rfl) (Nat.le_of_ble_eq_true rfl)
  refine lv_iload_n hx hb dX4_edge_10 rfl (lv_at hl 3 rfl) ?_
  refine lv_bipush (v := (-9)) hx hb dX4_edge_11 (by decide) ?_
  refine lv_icmp_lt (tgt := 22) hx hb dX4_edge_13 (by decide) (fun b13 => ?_) (fun b13 => ?_)
  · skip
    have q13 := i_lt.mp b13
    rw [i_9.2.1] at q13
    obtain ⟨sa, hsa⟩ := hT.2.1 (72, "weight is not -9 .. 9") (by decide)
    exact vx_throwS hx hb hlt (own := RX4) (cls := eA) (text := "weight is not -9 .. 9") (names := eNs) (ik := 70) (is := 72) (ic := 74) (A := xw_A ad s.heap.size) hown (by decide) (by decide) (hts (.classLink RX4 70 eA) (by decide +kernel)) (hts (.initialized eA) (by decide +kernel)) hsa (tx_hatA (fun w h => hts w (List.mem_cons_of_mem _ (List.mem_append_left _ (List.mem_append_right _ h)))) hT) tx_gA hT.2.2.1 hT.2.2.2 hS (hl.1.trans hml.symm) dX4_edge_22 dX4_edge_25 dX4_edge_26 dX4_edge_28 dX4_edge_31 (fun x hx9 => (hnx x hx9).elim) (Nat.le_of_ble_eq_true rfl) (Nat.le_of_ble_eq_true rfl) (Nat.le_of_ble_eq_true rfl) (Nat.le_of_ble_eq_true rfl) hlocks (tx_thrown hP hS (Or.inl ⟨rfl, fun q => by have h1 := q.2.2.1; have h2 := q.2.2.2; omega⟩)) hS.2.2 (Nat.le_of_ble_eq_true rfl) (Nat.le_of_ble_eq_true rfl)
  · skip
    have q13 : ¬ _ := fun q => b13 (i_lt.mpr q)
    rw [i_9.2.1] at q13
    refine lv_iload_n hx hb dX4_edge_16 rfl (lv_at hl 3 rfl) ?_
    refine lv_bipush (v := 9) hx hb dX4_edge_17 (by decide) ?_
    refine lv_icmp_le (tgt := 32) hx hb dX4_edge_19 (by decide) (fun b19 => ?_) (fun b19 => ?_)
    · skip
      have q19 := i_le.mp b19
      rw [i_9.1] at q19
      have hek : ((∃ i, i < gr_n G ∧ a = nI i) ∧ (∃ j, j < gr_n G ∧ b = nI j) ∧ -9 ≤ x.toInt ∧ x.toInt ≤ 9) := ⟨w2, w7, by omega, by omega⟩
      refine lv_aload_n hx hb dX4_edge_32 rfl (lv_at hl 0 rfl) ?_
      refine va_get (D := en.1) (ci := 4) (v := .ref (ad 1)) (C := RX4) (T := TX4) (N := 5) hx hb hts iw_X4_edge_X4 hown hE.1 hP 0 rfl rfl 0 (by decide) (hts (.fieldLink RX4 10 "CreditGame" "graph" "LCreditGame$Graph;") (by decide +kernel)) (fun _ h9 => h9) rfl dX4_edge_33 ?_
      refine va_getN (D := en.1) (ci := 1) (v := .int (c 1 1)) (C := RX1) (T := TX1) (N := 9) hx hb hts iw_X4_edge_X1 hown hE.1 hP 1 rfl rfl 8 (by decide) (va_Nw.use rfl (hE.2 _ (List.mem_of_getElem? (i := 50) rfl))) (fun _ h9 => h9) rfl dX4_edge_36 ?_
      refine lv_topi (fun z_36 ez_36 => ?_)
      obtain rfl : z_36 = (nI (gr_E G)) := (ez_36.trans hg.ec)
      refine lv_bipush (v := (nI 24)) hx hb dX4_edge_39 (by decide) ?_
      refine lv_icmp_lt (tgt := 54) hx hb dX4_edge_41 (by decide) (fun b41 => ?_) (fun b41 => ?_)
      · skip
        have hE_ : gr_E G < 24 := by
          rcases Nat.lt_or_ge (gr_E G) 24 with q | q
          · exact q
          · exact absurd b41 (nI_nlt q (by have := hg.e24; omega))
        refine lv_aload_n hx hb dX4_edge_54 rfl (lv_at hl 0 rfl) ?_
        refine va_get (D := en.1) (ci := 4) (v := .ref (ad 2)) (C := RX4) (T := TX4) (N := 5) hx hb hts iw_X4_edge_X4 hown hE.1 hP 0 rfl rfl 1 (by decide) (hts (.fieldLink RX4 21 "CreditGame" "values" "LCreditGame$Values;") (by decide +kernel)) (fun _ h9 => h9) rfl dX4_edge_55 ?_
        refine xr_callv (va_runVN (As := []) (rest := []) ⟨hx, hb, hml, hown, hts⟩ (ct_forget l en ad c hI _) ⟨va_cnB 0 hts gX4_edge_X3_forget_n60 rfl rfl rfl (hE.2 _ (List.mem_of_getElem? (i := 23) rfl)) (hts (.initialized RX3) (by decide +kernel)) (by decide +kernel) ⟨Nat.le_of_ble_eq_true rfl, Nat.le_of_ble_eq_true rfl⟩, hts (.instanceMethod yX3_forget) (by decide +kernel), hts (.selects RX3 yX3_forget yX3_forget) (by decide +kernel)⟩ (ct_preV hE (va_recv hE.1 hP (ci := 3) (q0 := 2) rfl rfl) ⟨rfl, hP⟩) rfl rfl hl.1 rfl (lv_room (Nat.le_of_ble_eq_true rfl)) dX4_edge_58 ⟨Nat.le_of_ble_eq_true rfl, Nat.le_of_ble_eq_true rfl⟩) hS (fun c58 H locs w58 hP hS => ?_)
        have hg1 := hg.kx w58.1 (by decide)
        obtain ⟨i, hi, ei⟩ := w2
        obtain ⟨j, hj, ej⟩ := w7
        refine lv_aload_n hx hb dX4_edge_61 rfl (lv_at hl 0 rfl) ?_
        refine va_get (D := en.1) (ci := 4) (v := .ref (ad 1)) (C := RX4) (T := TX4) (N := 5) hx hb hts iw_X4_edge_X4 hown hE.1 hP 0 rfl rfl 0 (by decide) (hts (.fieldLink RX4 10 "CreditGame" "graph" "LCreditGame$Graph;") (by decide +kernel)) (fun _ h9 => h9) rfl dX4_edge_62 ?_
        refine lv_iload_n hx hb dX4_edge_65 rfl (lv_at hl 1 rfl) ?_
        refine lv_iload_n hx hb dX4_edge_66 rfl (lv_at hl 2 rfl) ?_
        refine lv_iload_n hx hb dX4_edge_67 rfl (lv_at hl 3 rfl) ?_
        refine xr_calli (va_runVN (As := [.int a, .int b, .int x]) (rest := []) ⟨hx, hb, hml, hown, hts⟩ ((by rw [ei, ej]; exact ct_addEdge l en ad c58 hI H.size hg1 hE_ i j x hi hj hek.2.2.1 hek.2.2.2 : Met l yX1_addEdge wsX1_addEdge (rm_ 2 0 0) (ct_Pc en [.ref (ad 1), .int a, .int b, .int x] (fun H9 => H9.size = H.size ∧ va_P en.1 vwCl (xw en ad c58) H9)) (va_Qi (fun r c' => r = nI (gr_E G) ∧ gi (gr_addE G a b x) c' ∧ kx [1, 8, 9, 10, 11, 22, 23, 24, 25, 26, 27, 28] c58 c') (fun c' t => va_P en.1 vwCl (xw en ad c') t.heap) (xw_A ad H.size)) 0 0 (xw_A ad H.size))) ⟨va_cnB 3 hts gX4_edge_X1_addEdge_n80 rfl rfl rfl (hE.2 _ (List.mem_of_getElem? (i := 25) rfl)) (hts (.initialized RX1) (by decide +kernel)) (by decide +kernel) ⟨Nat.le_of_ble_eq_true rfl, Nat.le_of_ble_eq_true rfl⟩, hts (.instanceMethod yX1_addEdge) (by decide +kernel), hts (.selects RX1 yX1_addEdge yX1_addEdge) (by decide +kernel)⟩ (ct_preV hE (va_recv hE.1 hP (ci := 1) (q0 := 1) rfl rfl) ⟨rfl, hP⟩) rfl rfl hl.1 rfl (lv_room (Nat.le_of_ble_eq_true rfl)) dX4_edge_68 ⟨Nat.le_of_ble_eq_true rfl, Nat.le_of_ble_eq_true rfl⟩) hS (fun r68 c68 H locs w68 hP hS => ?_)
        refine W.widen (k := 4) (n := 24) (Nat.le_of_ble_eq_true rfl) (Nat.le_of_ble_eq_true rfl) (vx_ret ?_)
        exact W.iret (v := r68) hx hb hr (fun t ht hW => ⟨⟨_, c68, rfl, ⟨hek, hE_, w68.1, ci_new w68.2.1 w58.2 w68.2.2 (by decide)⟩, by show va_P _ _ _ t.heap; rw [ht]; exact hP⟩, hS.F ht⟩) hS.2.2 dX4_edge_71
      · skip
        have hE_ : ¬ gr_E G < 24 := fun q => b41 (nI_lt q (by omega))
        obtain ⟨sa, hsa⟩ := hT.2.1 (78, "there are 24 edges") (by decide)
        exact vx_throwS hx hb hlt (own := RX4) (cls := eS) (text := "there are 24 edges") (names := eNs) (ik := 53) (is := 78) (ic := 57) (A := xw_A ad s.heap.size) hown (by decide) (by decide) (hts (.classLink RX4 53 eS) (by decide +kernel)) (hts (.initialized eS) (by decide +kernel)) hsa (tx_hatS (fun w h => hts w (List.mem_cons_of_mem _ (List.mem_append_right _ h))) hT) tx_gS hT.2.2.1 hT.2.2.2 hS (hl.1.trans hml.symm) dX4_edge_44 dX4_edge_47 dX4_edge_48 dX4_edge_50 dX4_edge_53 (fun x hx9 => (hnx x hx9).elim) (Nat.le_of_ble_eq_true rfl) (Nat.le_of_ble_eq_true rfl) (Nat.le_of_ble_eq_true rfl) (Nat.le_of_ble_eq_true rfl) hlocks (tx_thrown hP hS (Or.inr ⟨rfl, hek, hE_⟩)) hS.2.2 (Nat.le_of_ble_eq_true rfl) (Nat.le_of_ble_eq_true rfl)
    · skip
      have q19 : ¬ _ := fun q => b19 (i_le.mpr q)
      rw [i_9.1] at q19
      obtain ⟨sa, hsa⟩ := hT.2.1 (72, "weight is not -9 .. 9") (by decide)
      exact vx_throwS hx hb hlt (own := RX4) (cls := eA) (text := "weight is not -9 .. 9") (names := eNs) (ik := 70) (is := 72) (ic := 74) (A := xw_A ad s.heap.size) hown (by decide) (by decide) (hts (.classLink RX4 70 eA) (by decide +kernel)) (hts (.initialized eA) (by decide +kernel)) hsa (tx_hatA (fun w h => hts w (List.mem_cons_of_mem _ (List.mem_append_left _ (List.mem_append_right _ h)))) hT) tx_gA hT.2.2.1 hT.2.2.2 hS (hl.1.trans hml.symm) dX4_edge_22 dX4_edge_25 dX4_edge_26 dX4_edge_28 dX4_edge_31 (fun x hx9 => (hnx x hx9).elim) (Nat.le_of_ble_eq_true rfl) (Nat.le_of_ble_eq_true rfl) (Nat.le_of_ble_eq_true rfl) (Nat.le_of_ble_eq_true rfl) hlocks (tx_thrown hP hS (Or.inl ⟨rfl, fun q => by have h1 := q.2.2.1; have h2 := q.2.2.2; omega⟩)) hS.2.2 (Nat.le_of_ble_eq_true rfl) (Nat.le_of_ble_eq_true rfl)
theorem iw_X4_fix_X4 : ∀ w ∈ wsX40, w ∈ wsX4_fix := by decide +kernel
set_option maxHeartbeats 4000000 in
set_option maxRecDepth 100000 in
/--  -/
theorem ct_fix (l : Launch) (hlt : l.stackTraces = false) (en : en_T) (ad : Nat → Nat) (c : Nat → Nat → Int32) (hI : xw_I ad) (sz : Nat) {G : gr_T} (hc_ : ci G c) (v x : Int32) : vx_Met l yX4_fix wsX4_fix (rm_ 40 4 24) (tc_Pc en ad sz [.ref (ad 0), .int v, .int x] (fun H => va_P en.1 vwCl (xw en ad c) H)) (va_Qv (fun c' => ((∃ j, j < gr_n G ∧ v = nI j) ∧ (x = -1 ∨ ∃ k, k < gr_E G ∧ x = nI k ∧ gr_src G k = v)) ∧ ∀ j, j < gr_n G → v = nI j → ci (gr_setF G j x) c') (fun c' t => va_P en.1 vwCl (xw en ad c') t.heap) (xw_A ad sz)) (tx_X en ad c sz (fun E => E = eA ∧ ¬ ((∃ j, j < gr_n G ∧ v = nI j) ∧ (x = -1 ∨ ∃ k, k < gr_E G ∧ x = nI k ∧ gr_src G k = v)))) 4 24 (xw_A ad sz) := by
  refine vx_ofW (cc := cX4_fix) (maxL := 3) (ret := none) (by decide) rfl ?_
  intro p e s m args below meth co s₁ B hml hnx hv
  obtain ⟨rfl, hE, ⟨hsz, hT⟩, hP⟩ := hv
  subst hsz
  have hx := B.exec
  have hb := B.bytes
  have hr := B.returns
  have hts := atoms_spec (ws := wsX4_fix) B.pre
  have hown : s.vm.findClass RX4 = some m.cls := findClass_of_methodNamed B.named
  have hlocks := B.notSynchronized
  have hS : va_S (xw_A ad s.heap.size) s.heap s.heap [] := va_S.rf
  have hl := lv_entry ([.ref (ad 0), .int v, .int x]) (n := 3) (Nat.le_of_ble_eq_true rfl)
  rw [lg_entry_eq]
  generalize (lg_sl ([.ref (ad 0), .int v, .int x]) ++ List.replicate (3 - (lg_sl ([.ref (ad 0), .int v, .int x])).length) Slot.unset).toArray = ls at hl ⊢
  have hl : lv_has ls 3 [(0, .ref (ad 0)), (1, .int v), (2, .int x)] := hl
  have hg := hc_.1
  have hn7 := hg.n7
  refine lv_aload_n hx hb dX4_fix_0 rfl (lv_at hl 0 rfl) ?_
  refine lv_iload_n hx hb dX4_fix_1 rfl (lv_at hl 1 rfl) ?_
  refine tx_callv (vx_runV (As := [.int v]) (rest := []) ⟨hx, hb, hml, hown, hts⟩ (ct_checkVertex l hlt en ad c hI _ hg v) (cwV 1 hts gX4_fix_X4_checkVertex rfl rfl rfl (by decide +kernel) ⟨Nat.le_of_ble_eq_true rfl, Nat.le_of_ble_eq_true rfl⟩) (tc_preV hE (hT.next hS) (va_recv hE.1 hP (ci := 4) (q0 := 0) rfl rfl) hP) rfl rfl hl.1 rfl (lv_room (Nat.le_of_ble_eq_true rfl)) dX4_fix_2 ⟨Nat.le_of_ble_eq_true rfl, Nat.le_of_ble_eq_true rfl⟩) hS (fun E9 ce q9 H locs hX9 hP hS hce hcv hcl => ?_) (fun locs w2 hS => ?_)
  · exact vx_out (E := E9) (fun x hx9 => (hnx x hx9).elim) hlocks hce hcv hcl (tx_on hP hS (⟨hX9.1, fun q => hX9.2 q.1⟩)) hS.2.2 (Nat.le_of_ble_eq_true rfl) (Nat.le_of_ble_eq_true rfl)
  refine lv_iload_n hx hb dX4_fix_5 rfl (lv_at hl 2 rfl) ?_
  refine lv_iconst (v := (-1)) hx hb dX4_fix_6 (by decide) ?_
  refine lv_icmp_eq (tgt := 32) hx hb dX4_fix_7 (by decide) (fun b7 => ?_) (fun b7 => ?_)
  · skip
    have hfk : ((∃ j, j < gr_n G ∧ v = nI j) ∧ (x = -1 ∨ ∃ k, k < gr_E G ∧ x = nI k ∧ gr_src G k = v)) := ⟨w2, Or.inl b7⟩
    refine lv_aload_n hx hb dX4_fix_32 rfl (lv_at hl 0 rfl) ?_
    refine va_get (D := en.1) (ci := 4) (v := .ref (ad 2)) (C := RX4) (T := TX4) (N := 5) hx hb hts iw_X4_fix_X4 hown hE.1 hP 0 rfl rfl 1 (by decide) (hts (.fieldLink RX4 21 "CreditGame" "values" "LCreditGame$Values;") (by decide +kernel)) (fun _ h9 => h9) rfl dX4_fix_33 ?_
    refine xr_callv (va_runVN (As := []) (rest := []) ⟨hx, hb, hml, hown, hts⟩ (ct_forget l en ad c hI _) ⟨va_cnB 0 hts gX4_fix_X3_forget_n60 rfl rfl rfl (hE.2 _ (List.mem_of_getElem? (i := 23) rfl)) (hts (.initialized RX3) (by decide +kernel)) (by decide +kernel) ⟨Nat.le_of_ble_eq_true rfl, Nat.le_of_ble_eq_true rfl⟩, hts (.instanceMethod yX3_forget) (by decide +kernel), hts (.selects RX3 yX3_forget yX3_forget) (by decide +kernel)⟩ (ct_preV hE (va_recv hE.1 hP (ci := 3) (q0 := 2) rfl rfl) ⟨rfl, hP⟩) rfl rfl hl.1 rfl (lv_room (Nat.le_of_ble_eq_true rfl)) dX4_fix_36 ⟨Nat.le_of_ble_eq_true rfl, Nat.le_of_ble_eq_true rfl⟩) hS (fun c36 H locs w36 hP hS => ?_)
    have hg1 := hg.kx w36.1 (by decide)
    obtain ⟨j, hj, ej⟩ := w2
    have hfx : x = -1 ∨ ∃ e, e < gr_E G ∧ x = nI e ∧ gr_src G e = nI j := by rw [← ej]; exact hfk.2
    refine lv_aload_n hx hb dX4_fix_39 rfl (lv_at hl 0 rfl) ?_
    refine va_get (D := en.1) (ci := 4) (v := .ref (ad 1)) (C := RX4) (T := TX4) (N := 5) hx hb hts iw_X4_fix_X4 hown hE.1 hP 0 rfl rfl 0 (by decide) (hts (.fieldLink RX4 10 "CreditGame" "graph" "LCreditGame$Graph;") (by decide +kernel)) (fun _ h9 => h9) rfl dX4_fix_40 ?_
    refine lv_iload_n hx hb dX4_fix_43 rfl (lv_at hl 1 rfl) ?_
    refine lv_iload_n hx hb dX4_fix_44 rfl (lv_at hl 2 rfl) ?_
    refine xr_callv (va_runVN (As := [.int v, .int x]) (rest := []) ⟨hx, hb, hml, hown, hts⟩ ((by rw [ej]; exact ct_setFixed l en ad c36 hI H.size hg1 j hj x hfx : Met l yX1_setFixed wsX1_setFixed (rm_ 2 0 0) (ct_Pc en [.ref (ad 1), .int v, .int x] (fun H9 => H9.size = H.size ∧ va_P en.1 vwCl (xw en ad c36) H9)) (va_Qv (fun c' => gi (gr_setF G j x) c' ∧ kx [7] c36 c') (fun c' t => va_P en.1 vwCl (xw en ad c') t.heap) (xw_A ad H.size)) 0 0 (xw_A ad H.size))) ⟨va_cnB 2 hts gX4_fix_X1_setFixed_n90 rfl rfl rfl (hE.2 _ (List.mem_of_getElem? (i := 28) rfl)) (hts (.initialized RX1) (by decide +kernel)) (by decide +kernel) ⟨Nat.le_of_ble_eq_true rfl, Nat.le_of_ble_eq_true rfl⟩, hts (.instanceMethod yX1_setFixed) (by decide +kernel), hts (.selects RX1 yX1_setFixed yX1_setFixed) (by decide +kernel)⟩ (ct_preV hE (va_recv hE.1 hP (ci := 1) (q0 := 1) rfl rfl) ⟨rfl, hP⟩) rfl rfl hl.1 rfl (lv_room (Nat.le_of_ble_eq_true rfl)) dX4_fix_45 ⟨Nat.le_of_ble_eq_true rfl, Nat.le_of_ble_eq_true rfl⟩) hS (fun c45 H locs w45 hP hS => ?_)
    refine W.widen (k := 4) (n := 24) (Nat.le_of_ble_eq_true rfl) (Nat.le_of_ble_eq_true rfl) (vx_ret ?_)
    exact W.vret hx hb hr (fun t ht hW => ⟨⟨c45, rfl, ⟨hfk, fun j2 hj2 e2 => by rw [← (nI_eq (by omega) (by omega)).mp (ej.symm.trans e2)]; exact ci_new w45.1 w36.2 w45.2 (by decide)⟩, by show va_P _ _ _ t.heap; rw [ht]; exact hP⟩, hS.F ht⟩) hS.2.2 dX4_fix_48
  · skip
    refine lv_aload_n hx hb dX4_fix_10 rfl (lv_at hl 0 rfl) ?_
    refine va_get (D := en.1) (ci := 4) (v := .ref (ad 1)) (C := RX4) (T := TX4) (N := 5) hx hb hts iw_X4_fix_X4 hown hE.1 hP 0 rfl rfl 0 (by decide) (hts (.fieldLink RX4 10 "CreditGame" "graph" "LCreditGame$Graph;") (by decide +kernel)) (fun _ h9 => h9) rfl dX4_fix_11 ?_
    refine lv_iload_n hx hb dX4_fix_14 rfl (lv_at hl 2 rfl) ?_
    refine lv_iload_n hx hb dX4_fix_15 rfl (lv_at hl 1 rfl) ?_
    refine ro_calli (va_runVN (As := [.int x, .int v]) (rest := []) ⟨hx, hb, hml, hown, hts⟩ (ct_isFrom l en ad c hg x v) ⟨va_cnB 2 hts gX4_fix_X1_isFrom_n84 rfl rfl rfl (hE.2 _ (List.mem_of_getElem? (i := 26) rfl)) (hts (.initialized RX1) (by decide +kernel)) (by decide +kernel) ⟨Nat.le_of_ble_eq_true rfl, Nat.le_of_ble_eq_true rfl⟩, hts (.instanceMethod yX1_isFrom) (by decide +kernel), hts (.selects RX1 yX1_isFrom yX1_isFrom) (by decide +kernel)⟩ (ct_preV hE (va_recv hE.1 hP (ci := 1) (q0 := 1) rfl rfl) hP) rfl rfl hl.1 rfl (lv_room (Nat.le_of_ble_eq_true rfl)) dX4_fix_16 ⟨Nat.le_of_ble_eq_true rfl, Nat.le_of_ble_eq_true rfl⟩) (fun r16 w16 => ?_)
    refine lv_if_ne (tgt := 32) hx hb dX4_fix_19 (by decide) (fun b19 => ?_) (fun b19 => ?_)
    · skip
      have hfk : ((∃ j, j < gr_n G ∧ v = nI j) ∧ (x = -1 ∨ ∃ k, k < gr_E G ∧ x = nI k ∧ gr_src G k = v)) := ⟨w2, Or.inr (by rcases w16 with q | q; exact q.2; exact absurd q.1 b19)⟩
      refine lv_aload_n hx hb dX4_fix_32 rfl (lv_at hl 0 rfl) ?_
      refine va_get (D := en.1) (ci := 4) (v := .ref (ad 2)) (C := RX4) (T := TX4) (N := 5) hx hb hts iw_X4_fix_X4 hown hE.1 hP 0 rfl rfl 1 (by decide) (hts (.fieldLink RX4 21 "CreditGame" "values" "LCreditGame$Values;") (by decide +kernel)) (fun _ h9 => h9) rfl dX4_fix_33 ?_
      refine xr_callv (va_runVN (As := []) (rest := []) ⟨hx, hb, hml, hown, hts⟩ (ct_forget l en ad c hI _) ⟨va_cnB 0 hts gX4_fix_X3_forget_n60 rfl rfl rfl (hE.2 _ (List.mem_of_getElem? (i := 23) rfl)) (hts (.initialized RX3) (by decide +kernel)) (by decide +kernel) ⟨Nat.le_of_ble_eq_true rfl, Nat.le_of_ble_eq_true rfl⟩, hts (.instanceMethod yX3_forget) (by decide +kernel), hts (.selects RX3 yX3_forget yX3_forget) (by decide +kernel)⟩ (ct_preV hE (va_recv hE.1 hP (ci := 3) (q0 := 2) rfl rfl) ⟨rfl, hP⟩) rfl rfl hl.1 rfl (lv_room (Nat.le_of_ble_eq_true rfl)) dX4_fix_36 ⟨Nat.le_of_ble_eq_true rfl, Nat.le_of_ble_eq_true rfl⟩) hS (fun c36 H locs w36 hP hS => ?_)
      have hg1 := hg.kx w36.1 (by decide)
      obtain ⟨j, hj, ej⟩ := w2
      have hfx : x = -1 ∨ ∃ e, e < gr_E G ∧ x = nI e ∧ gr_src G e = nI j := by rw [← ej]; exact hfk.2
      refine lv_aload_n hx hb dX4_fix_39 rfl (lv_at hl 0 rfl) ?_
      refine va_get (D := en.1) (ci := 4) (v := .ref (ad 1)) (C := RX4) (T := TX4) (N := 5) hx hb hts iw_X4_fix_X4 hown hE.1 hP 0 rfl rfl 0 (by decide) (hts (.fieldLink RX4 10 "CreditGame" "graph" "LCreditGame$Graph;") (by decide +kernel)) (fun _ h9 => h9) rfl dX4_fix_40 ?_
      refine lv_iload_n hx hb dX4_fix_43 rfl (lv_at hl 1 rfl) ?_
      refine lv_iload_n hx hb dX4_fix_44 rfl (lv_at hl 2 rfl) ?_
      refine xr_callv (va_runVN (As := [.int v, .int x]) (rest := []) ⟨hx, hb, hml, hown, hts⟩ ((by rw [ej]; exact ct_setFixed l en ad c36 hI H.size hg1 j hj x hfx : Met l yX1_setFixed wsX1_setFixed (rm_ 2 0 0) (ct_Pc en [.ref (ad 1), .int v, .int x] (fun H9 => H9.size = H.size ∧ va_P en.1 vwCl (xw en ad c36) H9)) (va_Qv (fun c' => gi (gr_setF G j x) c' ∧ kx [7] c36 c') (fun c' t => va_P en.1 vwCl (xw en ad c') t.heap) (xw_A ad H.size)) 0 0 (xw_A ad H.size))) ⟨va_cnB 2 hts gX4_fix_X1_setFixed_n90 rfl rfl rfl (hE.2 _ (List.mem_of_getElem? (i := 28) rfl)) (hts (.initialized RX1) (by decide +kernel)) (by decide +kernel) ⟨Nat.le_of_ble_eq_true rfl, Nat.le_of_ble_eq_true rfl⟩, hts (.instanceMethod yX1_setFixed) (by decide +kernel), hts (.selects RX1 yX1_setFixed yX1_setFixed) (by decide +kernel)⟩ (ct_preV hE (va_recv hE.1 hP (ci := 1) (q0 := 1) rfl rfl) ⟨rfl, hP⟩) rfl rfl hl.1 rfl (lv_room (Nat.le_of_ble_eq_true rfl)) dX4_fix_45 ⟨Nat.le_of_ble_eq_true rfl, Nat.le_of_ble_eq_true rfl⟩) hS (fun c45 H locs w45 hP hS => ?_)
      refine W.widen (k := 4) (n := 24) (Nat.le_of_ble_eq_true rfl) (Nat.le_of_ble_eq_true rfl) (vx_ret ?_)
      exact W.vret hx hb hr (fun t ht hW => ⟨⟨c45, rfl, ⟨hfk, fun j2 hj2 e2 => by rw [← (nI_eq (by omega) (by omega)).mp (ej.symm.trans e2)]; exact ci_new w45.1 w36.2 w45.2 (by decide)⟩, by show va_P _ _ _ t.heap; rw [ht]; exact hP⟩, hS.F ht⟩) hS.2.2 dX4_fix_48
    · skip
      obtain ⟨sa, hsa⟩ := hT.2.1 (88, "no such edge from the vertex") (by decide)
      exact vx_throwS hx hb hlt (own := RX4) (cls := eA) (text := "no such edge from the vertex") (names := eNs) (ik := 70) (is := 88) (ic := 74) (A := xw_A ad s.heap.size) hown (by decide) (by decide) (hts (.classLink RX4 70 eA) (by decide +kernel)) (hts (.initialized eA) (by decide +kernel)) hsa (tx_hatA (fun w h => hts w (List.mem_cons_of_mem _ (List.mem_append_right _ h))) hT) tx_gA hT.2.2.1 hT.2.2.2 hS (hl.1.trans hml.symm) dX4_fix_22 dX4_fix_25 dX4_fix_26 dX4_fix_28 dX4_fix_31 (fun x hx9 => (hnx x hx9).elim) (Nat.le_of_ble_eq_true rfl) (Nat.le_of_ble_eq_true rfl) (Nat.le_of_ble_eq_true rfl) (Nat.le_of_ble_eq_true rfl) hlocks (tx_thrown hP hS ⟨rfl, fun q => by rcases w16 with q2 | q2; rw [q2.1] at b19; exact absurd b19 (by decide); exact q.2.elim b7 q2.2⟩) hS.2.2 (Nat.le_of_ble_eq_true rfl) (Nat.le_of_ble_eq_true rfl)
theorem iw_X4_fixed_X4 : ∀ w ∈ wsX40, w ∈ wsX4_fixed := by decide +kernel
set_option maxHeartbeats 4000000 in
set_option maxRecDepth 100000 in
/--  -/
theorem ct_fixed (l : Launch) (hlt : l.stackTraces = false) (en : en_T) (ad : Nat → Nat) (c : Nat → Nat → Int32) (hI : xw_I ad) (sz : Nat) {G : gr_T} (hc_ : ci G c) (v : Int32) : vx_Met l yX4_fixed wsX4_fixed (rm_ 40 4 24) (tc_Pc en ad sz [.ref (ad 0), .int v] (fun H => va_P en.1 vwCl (xw en ad c) H)) (va_Qi (fun r c' => (∃ j, j < gr_n G ∧ v = nI j ∧ r = gr_fx G j) ∧ ci G c') (fun c' t => va_P en.1 vwCl (xw en ad c') t.heap) (xw_A ad sz)) (tx_X en ad c sz (fun E => E = eA ∧ ¬ (∃ j, j < gr_n G ∧ v = nI j))) 4 24 (xw_A ad sz) := by
  refine vx_ofW (cc := cX4_fixed) (maxL := 2) (ret := (some .int)) (by decide) rfl ?_
  intro p e s m args below meth co s₁ B hml hnx hv
  obtain ⟨rfl, hE, ⟨hsz, hT⟩, hP⟩ := hv
  subst hsz
  have hx := B.exec
  have hb := B.bytes
  have hr := B.returns
  have hts := atoms_spec (ws := wsX4_fixed) B.pre
  have hown : s.vm.findClass RX4 = some m.cls := findClass_of_methodNamed B.named
  have hlocks := B.notSynchronized
  have hS : va_S (xw_A ad s.heap.size) s.heap s.heap [] := va_S.rf
  have hl := lv_entry ([.ref (ad 0), .int v]) (n := 2) (Nat.le_of_ble_eq_true rfl)
  rw [lg_entry_eq]
  generalize (lg_sl ([.ref (ad 0), .int v]) ++ List.replicate (2 - (lg_sl ([.ref (ad 0), .int v])).length) Slot.unset).toArray = ls at hl ⊢
  have hl : lv_has ls 2 [(0, .ref (ad 0)), (1, .int v)] := hl
  have hg := hc_.1
  have hn7 := hg.n7
  refine lv_aload_n hx hb dX4_fixed_0 rfl (lv_at hl 0 rfl) ?_
  refine lv_iload_n hx hb dX4_fixed_1 rfl (lv_at hl 1 rfl) ?_
  refine tx_callv (vx_runV (As := [.int v]) (rest := []) ⟨hx, hb, hml, hown, hts⟩ (ct_checkVertex l hlt en ad c hI _ hg v) (cwV 1 hts gX4_fixed_X4_checkVertex rfl rfl rfl (by decide +kernel) ⟨Nat.le_of_ble_eq_true rfl, Nat.le_of_ble_eq_true rfl⟩) (tc_preV hE (hT.next hS) (va_recv hE.1 hP (ci := 4) (q0 := 0) rfl rfl) hP) rfl rfl hl.1 rfl (lv_room (Nat.le_of_ble_eq_true rfl)) dX4_fixed_2 ⟨Nat.le_of_ble_eq_true rfl, Nat.le_of_ble_eq_true rfl⟩) hS (fun E9 ce q9 H locs hX9 hP hS hce hcv hcl => ?_) (fun locs w2 hS => ?_)
  · exact vx_out (E := E9) (fun x hx9 => (hnx x hx9).elim) hlocks hce hcv hcl (tx_on hP hS (hX9)) hS.2.2 (Nat.le_of_ble_eq_true rfl) (Nat.le_of_ble_eq_true rfl)
  obtain ⟨j, hj, rfl⟩ := w2
  skip
  refine lv_aload_n hx hb dX4_fixed_5 rfl (lv_at hl 0 rfl) ?_
  refine va_get (D := en.1) (ci := 4) (v := .ref (ad 1)) (C := RX4) (T := TX4) (N := 5) hx hb hts iw_X4_fixed_X4 hown hE.1 hP 0 rfl rfl 0 (by decide) (hts (.fieldLink RX4 10 "CreditGame" "graph" "LCreditGame$Graph;") (by decide +kernel)) (fun _ h9 => h9) rfl dX4_fixed_6 ?_
  refine lv_iload_n hx hb dX4_fixed_9 rfl (lv_at hl 1 rfl) ?_
  refine ro_calli (va_runVN (As := [.int (nI j)]) (rest := []) ⟨hx, hb, hml, hown, hts⟩ (ct_fixedOf l en ad c hg j (by omega)) ⟨va_cnB 1 hts gX4_fixed_X1_fixedOf_n94 rfl rfl rfl (hE.2 _ (List.mem_of_getElem? (i := 29) rfl)) (hts (.initialized RX1) (by decide +kernel)) (by decide +kernel) ⟨Nat.le_of_ble_eq_true rfl, Nat.le_of_ble_eq_true rfl⟩, hts (.instanceMethod yX1_fixedOf) (by decide +kernel), hts (.selects RX1 yX1_fixedOf yX1_fixedOf) (by decide +kernel)⟩ (ct_preV hE (va_recv hE.1 hP (ci := 1) (q0 := 1) rfl rfl) hP) rfl rfl hl.1 rfl (lv_room (Nat.le_of_ble_eq_true rfl)) dX4_fixed_10 ⟨Nat.le_of_ble_eq_true rfl, Nat.le_of_ble_eq_true rfl⟩) (fun r10 w10 => ?_)
  obtain rfl : r10 = (gr_fx G j) := (w10.trans (if_pos hj))
  refine W.widen (k := 4) (n := 24) (Nat.le_of_ble_eq_true rfl) (Nat.le_of_ble_eq_true rfl) (vx_ret ?_)
  exact W.iret (v := (gr_fx G j)) hx hb hr (fun t ht hW => ⟨⟨_, c, rfl, ⟨⟨j, hj, rfl, rfl⟩, hc_⟩, by show va_P _ _ _ t.heap; rw [ht]; exact hP⟩, hS.F ht⟩) hS.2.2 dX4_fixed_13
theorem iw_X4_credit_X4 : ∀ w ∈ wsX40, w ∈ wsX4_credit := by decide +kernel
set_option maxHeartbeats 4000000 in
set_option maxRecDepth 100000 in
/--  -/
theorem ct_credit (l : Launch) (hlt : l.stackTraces = false) (en : en_T) (ad : Nat → Nat) (c : Nat → Nat → Int32) (hI : xw_I ad) (sz : Nat) {G : gr_T} (hc_ : ci G c) (v : Int32) : vx_Met l yX4_credit wsX4_credit (rm_ 40 4 24) (tc_Pc en ad sz [.ref (ad 0), .int v] (fun H => va_P en.1 vwCl (xw en ad c) H)) (va_Qi (fun r c' => gr_cpl G ∧ (∃ j, j < gr_n G ∧ v = nI j ∧ r.toInt = cr_f G 0 0 1 j) ∧ ci G c') (fun c' t => va_P en.1 vwCl (xw en ad c') t.heap) (xw_A ad sz)) (tx_X en ad c sz (fun E => (E = eA ∧ ¬ (∃ j, j < gr_n G ∧ v = nI j)) ∨ (E = eS ∧ (∃ j, j < gr_n G ∧ v = nI j) ∧ ¬ gr_cpl G))) 4 24 (xw_A ad sz) := by
  refine vx_ofW (cc := cX4_credit) (maxL := 2) (ret := (some .int)) (by decide) rfl ?_
  intro p e s m args below meth co s₁ B hml hnx hv
  obtain ⟨rfl, hE, ⟨hsz, hT⟩, hP⟩ := hv
  subst hsz
  have hx := B.exec
  have hb := B.bytes
  have hr := B.returns
  have hts := atoms_spec (ws := wsX4_credit) B.pre
  have hown : s.vm.findClass RX4 = some m.cls := findClass_of_methodNamed B.named
  have hlocks := B.notSynchronized
  have hS : va_S (xw_A ad s.heap.size) s.heap s.heap [] := va_S.rf
  have hl := lv_entry ([.ref (ad 0), .int v]) (n := 2) (Nat.le_of_ble_eq_true rfl)
  rw [lg_entry_eq]
  generalize (lg_sl ([.ref (ad 0), .int v]) ++ List.replicate (2 - (lg_sl ([.ref (ad 0), .int v])).length) Slot.unset).toArray = ls at hl ⊢
  have hl : lv_has ls 2 [(0, .ref (ad 0)), (1, .int v)] := hl
  have hg := hc_.1
  have hn7 := hg.n7
  refine lv_aload_n hx hb dX4_credit_0 rfl (lv_at hl 0 rfl) ?_
  refine lv_iload_n hx hb dX4_credit_1 rfl (lv_at hl 1 rfl) ?_
  refine tx_callv (vx_runV (As := [.int v]) (rest := []) ⟨hx, hb, hml, hown, hts⟩ (ct_checkVertex l hlt en ad c hI _ hg v) (cwV 1 hts gX4_credit_X4_checkVertex rfl rfl rfl (by decide +kernel) ⟨Nat.le_of_ble_eq_true rfl, Nat.le_of_ble_eq_true rfl⟩) (tc_preV hE (hT.next hS) (va_recv hE.1 hP (ci := 4) (q0 := 0) rfl rfl) hP) rfl rfl hl.1 rfl (lv_room (Nat.le_of_ble_eq_true rfl)) dX4_credit_2 ⟨Nat.le_of_ble_eq_true rfl, Nat.le_of_ble_eq_true rfl⟩) hS (fun E9 ce q9 H locs hX9 hP hS hce hcv hcl => ?_) (fun locs w2 hS => ?_)
  · exact vx_out (E := E9) (fun x hx9 => (hnx x hx9).elim) hlocks hce hcv hcl (tx_on hP hS (Or.inl hX9)) hS.2.2 (Nat.le_of_ble_eq_true rfl) (Nat.le_of_ble_eq_true rfl)
  obtain ⟨j, hj, rfl⟩ := w2
  skip
  refine lv_aload_n hx hb dX4_credit_5 rfl (lv_at hl 0 rfl) ?_
  refine tx_callv (vx_runV (As := []) (rest := []) ⟨hx, hb, hml, hown, hts⟩ (ct_checkComplete l hlt en ad c hI _ hg) (cwV 0 hts gX4_credit_X4_checkComplete rfl rfl rfl (by decide +kernel) ⟨Nat.le_of_ble_eq_true rfl, Nat.le_of_ble_eq_true rfl⟩) (tc_preV hE (hT.next hS) (va_recv hE.1 hP (ci := 4) (q0 := 0) rfl rfl) hP) rfl rfl hl.1 rfl (lv_room (Nat.le_of_ble_eq_true rfl)) dX4_credit_6 ⟨Nat.le_of_ble_eq_true rfl, Nat.le_of_ble_eq_true rfl⟩) hS (fun E9 ce q9 H locs hX9 hP hS hce hcv hcl => ?_) (fun locs w6 hS => ?_)
  · exact vx_out (E := E9) (fun x hx9 => (hnx x hx9).elim) hlocks hce hcv hcl (tx_on hP hS (Or.inr ⟨hX9.1, ⟨j, hj, rfl⟩, hX9.2⟩)) hS.2.2 (Nat.le_of_ble_eq_true rfl) (Nat.le_of_ble_eq_true rfl)
  refine lv_aload_n hx hb dX4_credit_9 rfl (lv_at hl 0 rfl) ?_
  refine va_get (D := en.1) (ci := 4) (v := .ref (ad 2)) (C := RX4) (T := TX4) (N := 5) hx hb hts iw_X4_credit_X4 hown hE.1 hP 0 rfl rfl 1 (by decide) (hts (.fieldLink RX4 21 "CreditGame" "values" "LCreditGame$Values;") (by decide +kernel)) (fun _ h9 => h9) rfl dX4_credit_10 ?_
  refine xr_callv (va_runVN (As := []) (rest := []) ⟨hx, hb, hml, hown, hts⟩ (ct_findAll l en ad c hI _ hg w6 hc_.2) ⟨va_cnB 0 hts gX4_credit_X3_findAll_n100 rfl rfl rfl (hE.2 _ (List.mem_of_getElem? (i := 0) rfl)) (hts (.initialized RX3) (by decide +kernel)) (by decide +kernel) ⟨Nat.le_of_ble_eq_true rfl, Nat.le_of_ble_eq_true rfl⟩, hts (.instanceMethod yX3_findAll) (by decide +kernel), hts (.selects RX3 yX3_findAll yX3_findAll) (by decide +kernel)⟩ (ct_preV hE (va_recv hE.1 hP (ci := 3) (q0 := 2) rfl rfl) ⟨rfl, hP⟩) rfl rfl hl.1 rfl (lv_room (Nat.le_of_ble_eq_true rfl)) dX4_credit_13 ⟨Nat.le_of_ble_eq_true rfl, Nat.le_of_ble_eq_true rfl⟩) hS (fun c13 H locs w13 hP hS => ?_)
  have hg1 := hg.kx w13.1 (by decide)
  have hva := va_of hn7 w13.2.1 w13.2.2
  refine lv_aload_n hx hb dX4_credit_16 rfl (lv_at hl 0 rfl) ?_
  refine va_get (D := en.1) (ci := 4) (v := .ref (ad 3)) (C := RX4) (T := TX4) (N := 5) hx hb hts iw_X4_credit_X4 hown hE.1 hP 0 rfl rfl 2 (by decide) (hts (.fieldLink RX4 30 "CreditGame" "credits" "LCreditGame$Credits;") (by decide +kernel)) (fun _ h9 => h9) rfl dX4_credit_17 ?_
  refine lv_iconst (v := (nI 0)) hx hb dX4_credit_20 (by decide) ?_
  refine lv_iconst (v := 0) hx hb dX4_credit_21 (by decide) ?_
  refine lv_iconst (v := 1) hx hb dX4_credit_22 (by decide) ?_
  refine xr_callv (va_runVN (As := [.int (nI 0), .int 0, .int 1]) (rest := []) ⟨hx, hb, hml, hown, hts⟩ (ct_solve l en ad c13 hI _ hg1 w6 hva 0 (by omega) 0 1 (by decide) (by decide) (by decide) (by decide)) ⟨va_cnB 3 hts gX4_credit_X0_solve_n103 rfl rfl rfl (hE.2 _ (List.mem_of_getElem? (i := 1) rfl)) (hts (.initialized RX0) (by decide +kernel)) (by decide +kernel) ⟨Nat.le_of_ble_eq_true rfl, Nat.le_of_ble_eq_true rfl⟩, hts (.instanceMethod yX0_solve) (by decide +kernel), hts (.selects RX0 yX0_solve yX0_solve) (by decide +kernel)⟩ (ct_preV hE (va_recv hE.1 hP (ci := 0) (q0 := 3) rfl rfl) ⟨rfl, hP⟩) rfl rfl hl.1 rfl (lv_room (Nat.le_of_ble_eq_true rfl)) dX4_credit_23 ⟨Nat.le_of_ble_eq_true rfl, Nat.le_of_ble_eq_true rfl⟩) hS (fun c23 H locs w23 hP hS => ?_)
  rw [i_0, i_1] at w23
  refine lv_aload_n hx hb dX4_credit_26 rfl (lv_at hl 0 rfl) ?_
  refine va_get (D := en.1) (ci := 4) (v := .ref (ad 3)) (C := RX4) (T := TX4) (N := 5) hx hb hts iw_X4_credit_X4 hown hE.1 hP 0 rfl rfl 2 (by decide) (hts (.fieldLink RX4 30 "CreditGame" "credits" "LCreditGame$Credits;") (by decide +kernel)) (fun _ h9 => h9) rfl dX4_credit_27 ?_
  refine lv_iload_n hx hb dX4_credit_30 rfl (lv_at hl 1 rfl) ?_
  refine ro_calli (va_runVN (As := [.int (nI j)]) (rest := []) ⟨hx, hb, hml, hown, hts⟩ (ct_needOf l en ad c23 j (by omega)) ⟨va_cnB 1 hts gX4_credit_X0_needOf_n107 rfl rfl rfl (hE.2 _ (List.mem_of_getElem? (i := 2) rfl)) (hts (.initialized RX0) (by decide +kernel)) (by decide +kernel) ⟨Nat.le_of_ble_eq_true rfl, Nat.le_of_ble_eq_true rfl⟩, hts (.instanceMethod yX0_needOf) (by decide +kernel), hts (.selects RX0 yX0_needOf yX0_needOf) (by decide +kernel)⟩ (ct_preV hE (va_recv hE.1 hP (ci := 0) (q0 := 3) rfl rfl) hP) rfl rfl hl.1 rfl (lv_room (Nat.le_of_ble_eq_true rfl)) dX4_credit_31 ⟨Nat.le_of_ble_eq_true rfl, Nat.le_of_ble_eq_true rfl⟩) (fun r31 w31 => ?_)
  obtain rfl : r31 = (c23 14 j) := w31
  refine W.widen (k := 4) (n := 24) (Nat.le_of_ble_eq_true rfl) (Nat.le_of_ble_eq_true rfl) (vx_ret ?_)
  exact W.iret (v := (c23 14 j)) hx hb hr (fun t ht hW => ⟨⟨_, c23, rfl, ⟨w6, ⟨j, hj, rfl, cr_f_eq w23.2.1 hj⟩, ci_kx ⟨hg1, w13.2.1⟩ w23.1 (by decide)⟩, by show va_P _ _ _ t.heap; rw [ht]; exact hP⟩, hS.F ht⟩) hS.2.2 dX4_credit_34
theorem iw_X4_reaches_X4 : ∀ w ∈ wsX40, w ∈ wsX4_reaches := by decide +kernel
set_option maxHeartbeats 4000000 in
set_option maxRecDepth 100000 in
/--  -/
theorem ct_reaches (l : Launch) (hlt : l.stackTraces = false) (en : en_T) (ad : Nat → Nat) (c : Nat → Nat → Int32) (hI : xw_I ad) (sz : Nat) {G : gr_T} (hc_ : ci G c) (v pI qI : Int32) : vx_Met l yX4_reaches wsX4_reaches (rm_ 40 4 24) (tc_Pc en ad sz [.ref (ad 0), .int v, .int pI, .int qI] (fun H => va_P en.1 vwCl (xw en ad c) H)) (va_Qi (fun r c' => gr_cpl G ∧ ((∃ j, j < gr_n G ∧ v = nI j) ∧ (-99 ≤ pI.toInt ∧ pI.toInt ≤ 99) ∧ 1 ≤ qI.toInt ∧ qI.toInt ≤ 9) ∧ (∃ j, j < gr_n G ∧ v = nI j ∧ r = if pI.toInt * 420 ≤ vl_F G j * qI.toInt then 1 else 0) ∧ ci G c') (fun c' t => va_P en.1 vwCl (xw en ad c') t.heap) (xw_A ad sz)) (tx_X en ad c sz (fun E => (E = eA ∧ ¬ ((∃ j, j < gr_n G ∧ v = nI j) ∧ (-99 ≤ pI.toInt ∧ pI.toInt ≤ 99) ∧ 1 ≤ qI.toInt ∧ qI.toInt ≤ 9)) ∨ (E = eS ∧ ((∃ j, j < gr_n G ∧ v = nI j) ∧ (-99 ≤ pI.toInt ∧ pI.toInt ≤ 99) ∧ 1 ≤ qI.toInt ∧ qI.toInt ≤ 9) ∧ ¬ gr_cpl G))) 4 24 (xw_A ad sz) := by
  refine vx_ofW (cc := cX4_reaches) (maxL := 4) (ret := (some .boolean)) (by decide) rfl ?_
  intro p e s m args below meth co s₁ B hml hnx hv
  obtain ⟨rfl, hE, ⟨hsz, hT⟩, hP⟩ := hv
  subst hsz
  have hx := B.exec
  have hb := B.bytes
  have hr := B.returns
  have hts := atoms_spec (ws := wsX4_reaches) B.pre
  have hown : s.vm.findClass RX4 = some m.cls := findClass_of_methodNamed B.named
  have hlocks := B.notSynchronized
  have hS : va_S (xw_A ad s.heap.size) s.heap s.heap [] := va_S.rf
  have hl := lv_entry ([.ref (ad 0), .int v, .int pI, .int qI]) (n := 4) (Nat.le_of_ble_eq_true rfl)
  rw [lg_entry_eq]
  generalize (lg_sl ([.ref (ad 0), .int v, .int pI, .int qI]) ++ List.replicate (4 - (lg_sl ([.ref (ad 0), .int v, .int pI, .int qI])).length) Slot.unset).toArray = ls at hl ⊢
  have hl : lv_has ls 4 [(0, .ref (ad 0)), (1, .int v), (2, .int pI), (3, .int qI)] := hl
  have hg := hc_.1
  have hn7 := hg.n7
  refine lv_aload_n hx hb dX4_reaches_0 rfl (lv_at hl 0 rfl) ?_
  refine lv_iload_n hx hb dX4_reaches_1 rfl (lv_at hl 1 rfl) ?_
  refine tx_callv (vx_runV (As := [.int v]) (rest := []) ⟨hx, hb, hml, hown, hts⟩ (ct_checkVertex l hlt en ad c hI _ hg v) (cwV 1 hts gX4_reaches_X4_checkVertex rfl rfl rfl (by decide +kernel) ⟨Nat.le_of_ble_eq_true rfl, Nat.le_of_ble_eq_true rfl⟩) (tc_preV hE (hT.next hS) (va_recv hE.1 hP (ci := 4) (q0 := 0) rfl rfl) hP) rfl rfl hl.1 rfl (lv_room (Nat.le_of_ble_eq_true rfl)) dX4_reaches_2 ⟨Nat.le_of_ble_eq_true rfl, Nat.le_of_ble_eq_true rfl⟩) hS (fun E9 ce q9 H locs hX9 hP hS hce hcv hcl => ?_) (fun locs w2 hS => ?_)
  · exact vx_out (E := E9) (fun x hx9 => (hnx x hx9).elim) hlocks hce hcv hcl (tx_on hP hS (Or.inl ⟨hX9.1, fun q => hX9.2 q.1⟩)) hS.2.2 (Nat.le_of_ble_eq_true rfl) (Nat.le_of_ble_eq_true rfl)
  obtain ⟨j, hj, rfl⟩ := w2
  skip
  refine lv_iload_n hx hb dX4_reaches_5 rfl (lv_at hl 2 rfl) ?_
  refine lv_bipush (v := (-99)) hx hb dX4_reaches_6 (by decide) ?_
  refine lv_icmp_lt (tgt := 17) hx hb dX4_reaches_8 (by decide) (fun b8 => ?_) (fun b8 => ?_)
  · skip
    have q8 := i_lt.mp b8
    rw [i_9.2.2.2.1] at q8
    obtain ⟨sa, hsa⟩ := hT.2.1 (110, "p is not -99 .. 99") (by decide)
    exact vx_throwS hx hb hlt (own := RX4) (cls := eA) (text := "p is not -99 .. 99") (names := eNs) (ik := 70) (is := 110) (ic := 74) (A := xw_A ad s.heap.size) hown (by decide) (by decide) (hts (.classLink RX4 70 eA) (by decide +kernel)) (hts (.initialized eA) (by decide +kernel)) hsa (tx_hatA (fun w h => hts w (List.mem_cons_of_mem _ (List.mem_append_left _ (List.mem_append_right _ h)))) hT) tx_gA hT.2.2.1 hT.2.2.2 hS (hl.1.trans hml.symm) dX4_reaches_17 dX4_reaches_20 dX4_reaches_21 dX4_reaches_23 dX4_reaches_26 (fun x hx9 => (hnx x hx9).elim) (Nat.le_of_ble_eq_true rfl) (Nat.le_of_ble_eq_true rfl) (Nat.le_of_ble_eq_true rfl) (Nat.le_of_ble_eq_true rfl) hlocks (tx_thrown hP hS (Or.inl ⟨rfl, fun q => by have h1 := q.2.1.1; have h2 := q.2.1.2; omega⟩)) hS.2.2 (Nat.le_of_ble_eq_true rfl) (Nat.le_of_ble_eq_true rfl)
  · skip
    have q8 : ¬ _ := fun q => b8 (i_lt.mpr q)
    rw [i_9.2.2.2.1] at q8
    refine lv_iload_n hx hb dX4_reaches_11 rfl (lv_at hl 2 rfl) ?_
    refine lv_bipush (v := 99) hx hb dX4_reaches_12 (by decide) ?_
    refine lv_icmp_le (tgt := 27) hx hb dX4_reaches_14 (by decide) (fun b14 => ?_) (fun b14 => ?_)
    · skip
      have q14 := i_le.mp b14
      rw [i_9.2.2.1] at q14
      refine lv_iload_n hx hb dX4_reaches_27 rfl (lv_at hl 3 rfl) ?_
      refine lv_iconst (v := 1) hx hb dX4_reaches_28 (by decide) ?_
      refine lv_icmp_lt (tgt := 38) hx hb dX4_reaches_29 (by decide) (fun b29 => ?_) (fun b29 => ?_)
      · skip
        have q29 := i_lt.mp b29
        rw [i_1] at q29
        obtain ⟨sa, hsa⟩ := hT.2.1 (112, "q is not 1 .. 9") (by decide)
        exact vx_throwS hx hb hlt (own := RX4) (cls := eA) (text := "q is not 1 .. 9") (names := eNs) (ik := 70) (is := 112) (ic := 74) (A := xw_A ad s.heap.size) hown (by decide) (by decide) (hts (.classLink RX4 70 eA) (by decide +kernel)) (hts (.initialized eA) (by decide +kernel)) hsa (tx_hatA (fun w h => hts w (List.mem_cons_of_mem _ (List.mem_append_left _ (List.mem_append_right _ h)))) hT) tx_gA hT.2.2.1 hT.2.2.2 hS (hl.1.trans hml.symm) dX4_reaches_38 dX4_reaches_41 dX4_reaches_42 dX4_reaches_44 dX4_reaches_47 (fun x hx9 => (hnx x hx9).elim) (Nat.le_of_ble_eq_true rfl) (Nat.le_of_ble_eq_true rfl) (Nat.le_of_ble_eq_true rfl) (Nat.le_of_ble_eq_true rfl) hlocks (tx_thrown hP hS (Or.inl ⟨rfl, fun q => by have h1 := q.2.2.1; have h2 := q.2.2.2; omega⟩)) hS.2.2 (Nat.le_of_ble_eq_true rfl) (Nat.le_of_ble_eq_true rfl)
      · skip
        have q29 : ¬ _ := fun q => b29 (i_lt.mpr q)
        rw [i_1] at q29
        refine lv_iload_n hx hb dX4_reaches_32 rfl (lv_at hl 3 rfl) ?_
        refine lv_bipush (v := 9) hx hb dX4_reaches_33 (by decide) ?_
        refine lv_icmp_le (tgt := 48) hx hb dX4_reaches_35 (by decide) (fun b35 => ?_) (fun b35 => ?_)
        · skip
          have q35 := i_le.mp b35
          rw [i_9.1] at q35
          have hrk : (∃ j2, j2 < gr_n G ∧ nI j = nI j2) ∧ (-99 ≤ pI.toInt ∧ pI.toInt ≤ 99) ∧ 1 ≤ qI.toInt ∧ qI.toInt ≤ 9 := ⟨⟨j, hj, rfl⟩, ⟨by omega, by omega⟩, by omega, by omega⟩
          refine lv_aload_n hx hb dX4_reaches_48 rfl (lv_at hl 0 rfl) ?_
          refine tx_callv (vx_runV (As := []) (rest := []) ⟨hx, hb, hml, hown, hts⟩ (ct_checkComplete l hlt en ad c hI _ hg) (cwV 0 hts gX4_reaches_X4_checkComplete rfl rfl rfl (by decide +kernel) ⟨Nat.le_of_ble_eq_true rfl, Nat.le_of_ble_eq_true rfl⟩) (tc_preV hE (hT.next hS) (va_recv hE.1 hP (ci := 4) (q0 := 0) rfl rfl) hP) rfl rfl hl.1 rfl (lv_room (Nat.le_of_ble_eq_true rfl)) dX4_reaches_49 ⟨Nat.le_of_ble_eq_true rfl, Nat.le_of_ble_eq_true rfl⟩) hS (fun E9 ce q9 H locs hX9 hP hS hce hcv hcl => ?_) (fun locs w49 hS => ?_)
          · exact vx_out (E := E9) (fun x hx9 => (hnx x hx9).elim) hlocks hce hcv hcl (tx_on hP hS (Or.inr ⟨hX9.1, hrk, hX9.2⟩)) hS.2.2 (Nat.le_of_ble_eq_true rfl) (Nat.le_of_ble_eq_true rfl)
          refine lv_aload_n hx hb dX4_reaches_52 rfl (lv_at hl 0 rfl) ?_
          refine va_get (D := en.1) (ci := 4) (v := .ref (ad 2)) (C := RX4) (T := TX4) (N := 5) hx hb hts iw_X4_reaches_X4 hown hE.1 hP 0 rfl rfl 1 (by decide) (hts (.fieldLink RX4 21 "CreditGame" "values" "LCreditGame$Values;") (by decide +kernel)) (fun _ h9 => h9) rfl dX4_reaches_53 ?_
          refine lv_iload_n hx hb dX4_reaches_56 rfl (lv_at hl 1 rfl) ?_
          refine xr_callv (va_runVN (As := [.int (nI j)]) (rest := []) ⟨hx, hb, hml, hown, hts⟩ (ct_find l en ad c hI _ hg w49 hc_.2 j (by omega)) ⟨va_cnB 1 hts gX4_reaches_X3_find_n114 rfl rfl rfl (hE.2 _ (List.mem_of_getElem? (i := 3) rfl)) (hts (.initialized RX3) (by decide +kernel)) (by decide +kernel) ⟨Nat.le_of_ble_eq_true rfl, Nat.le_of_ble_eq_true rfl⟩, hts (.instanceMethod yX3_find) (by decide +kernel), hts (.selects RX3 yX3_find yX3_find) (by decide +kernel)⟩ (ct_preV hE (va_recv hE.1 hP (ci := 3) (q0 := 2) rfl rfl) ⟨rfl, hP⟩) rfl rfl hl.1 rfl (lv_room (Nat.le_of_ble_eq_true rfl)) dX4_reaches_57 ⟨Nat.le_of_ble_eq_true rfl, Nat.le_of_ble_eq_true rfl⟩) hS (fun c57 H locs w57 hP hS => ?_)
          have hg1 := hg.kx w57.1 (by decide)
          have hF13 : (c57 13 j).toInt = vl_F G j := by
            rcases w57.2.1 j (by omega) with q | q
            · rw [w57.2.2.1 hj] at q; exact absurd q (by decide)
            · exact q.2.2.2
          refine lv_aload_n hx hb dX4_reaches_60 rfl (lv_at hl 0 rfl) ?_
          refine va_get (D := en.1) (ci := 4) (v := .ref (ad 2)) (C := RX4) (T := TX4) (N := 5) hx hb hts iw_X4_reaches_X4 hown hE.1 hP 0 rfl rfl 1 (by decide) (hts (.fieldLink RX4 21 "CreditGame" "values" "LCreditGame$Values;") (by decide +kernel)) (fun _ h9 => h9) rfl dX4_reaches_61 ?_
          refine lv_iload_n hx hb dX4_reaches_64 rfl (lv_at hl 1 rfl) ?_
          refine lv_iload_n hx hb dX4_reaches_65 rfl (lv_at hl 2 rfl) ?_
          refine lv_iload_n hx hb dX4_reaches_66 rfl (lv_at hl 3 rfl) ?_
          refine ro_calli (va_runVN (As := [.int (nI j), .int pI, .int qI]) (rest := []) ⟨hx, hb, hml, hown, hts⟩ (ct_order l en ad c57 hg1 j (by omega) pI qI) ⟨va_cnB 3 hts gX4_reaches_X3_order_n117 rfl rfl rfl (hE.2 _ (List.mem_of_getElem? (i := 4) rfl)) (hts (.initialized RX3) (by decide +kernel)) (by decide +kernel) ⟨Nat.le_of_ble_eq_true rfl, Nat.le_of_ble_eq_true rfl⟩, hts (.instanceMethod yX3_order) (by decide +kernel), hts (.selects RX3 yX3_order yX3_order) (by decide +kernel)⟩ (ct_preV hE (va_recv hE.1 hP (ci := 3) (q0 := 2) rfl rfl) hP) rfl rfl hl.1 rfl (lv_room (Nat.le_of_ble_eq_true rfl)) dX4_reaches_67 ⟨Nat.le_of_ble_eq_true rfl, Nat.le_of_ble_eq_true rfl⟩) (fun r67 w67 => ?_)
          have hrs := rs_iff hg.ok w49 hj hF13 (by omega) (by omega) (by omega) (by omega) w67
          refine lv_if_lt (tgt := 77) hx hb dX4_reaches_70 (by decide) (fun b70 => ?_) (fun b70 => ?_)
          · skip
            refine lv_iconst (v := 0) hx hb dX4_reaches_77 (by decide) ?_
            refine W.widen (k := 4) (n := 24) (Nat.le_of_ble_eq_true rfl) (Nat.le_of_ble_eq_true rfl) (vx_ret ?_)
            exact W.zret (v := 0) (ty := .boolean) hx hb hr rfl (fun t ht hW => ⟨⟨_, c57, rfl, ⟨w49, hrk, ⟨j, hj, rfl, (by first | exact (if_neg (hrs.mp b70)).symm | exact (if_pos (Decidable.not_not.mp (fun q => b70 (hrs.mpr q)))).symm)⟩, hg1, w57.2.1⟩, by show va_P _ _ _ t.heap; rw [ht]; exact hP⟩, hS.F ht⟩) hS.2.2 dX4_reaches_78
          · skip
            refine lv_iconst (v := 1) hx hb dX4_reaches_73 (by decide) ?_
            refine lv_goto (tgt := 78) hx hb dX4_reaches_74 (by decide) ?_
            refine W.widen (k := 4) (n := 24) (Nat.le_of_ble_eq_true rfl) (Nat.le_of_ble_eq_true rfl) (vx_ret ?_)
            exact W.zret (v := 1) (ty := .boolean) hx hb hr rfl (fun t ht hW => ⟨⟨_, c57, rfl, ⟨w49, hrk, ⟨j, hj, rfl, (by first | exact (if_neg (hrs.mp b70)).symm | exact (if_pos (Decidable.not_not.mp (fun q => b70 (hrs.mpr q)))).symm)⟩, hg1, w57.2.1⟩, by show va_P _ _ _ t.heap; rw [ht]; exact hP⟩, hS.F ht⟩) hS.2.2 dX4_reaches_78
        · skip
          have q35 : ¬ _ := fun q => b35 (i_le.mpr q)
          rw [i_9.1] at q35
          obtain ⟨sa, hsa⟩ := hT.2.1 (112, "q is not 1 .. 9") (by decide)
          exact vx_throwS hx hb hlt (own := RX4) (cls := eA) (text := "q is not 1 .. 9") (names := eNs) (ik := 70) (is := 112) (ic := 74) (A := xw_A ad s.heap.size) hown (by decide) (by decide) (hts (.classLink RX4 70 eA) (by decide +kernel)) (hts (.initialized eA) (by decide +kernel)) hsa (tx_hatA (fun w h => hts w (List.mem_cons_of_mem _ (List.mem_append_left _ (List.mem_append_right _ h)))) hT) tx_gA hT.2.2.1 hT.2.2.2 hS (hl.1.trans hml.symm) dX4_reaches_38 dX4_reaches_41 dX4_reaches_42 dX4_reaches_44 dX4_reaches_47 (fun x hx9 => (hnx x hx9).elim) (Nat.le_of_ble_eq_true rfl) (Nat.le_of_ble_eq_true rfl) (Nat.le_of_ble_eq_true rfl) (Nat.le_of_ble_eq_true rfl) hlocks (tx_thrown hP hS (Or.inl ⟨rfl, fun q => by have h1 := q.2.2.1; have h2 := q.2.2.2; omega⟩)) hS.2.2 (Nat.le_of_ble_eq_true rfl) (Nat.le_of_ble_eq_true rfl)
    · skip
      have q14 : ¬ _ := fun q => b14 (i_le.mpr q)
      rw [i_9.2.2.1] at q14
      obtain ⟨sa, hsa⟩ := hT.2.1 (110, "p is not -99 .. 99") (by decide)
      exact vx_throwS hx hb hlt (own := RX4) (cls := eA) (text := "p is not -99 .. 99") (names := eNs) (ik := 70) (is := 110) (ic := 74) (A := xw_A ad s.heap.size) hown (by decide) (by decide) (hts (.classLink RX4 70 eA) (by decide +kernel)) (hts (.initialized eA) (by decide +kernel)) hsa (tx_hatA (fun w h => hts w (List.mem_cons_of_mem _ (List.mem_append_left _ (List.mem_append_right _ h)))) hT) tx_gA hT.2.2.1 hT.2.2.2 hS (hl.1.trans hml.symm) dX4_reaches_17 dX4_reaches_20 dX4_reaches_21 dX4_reaches_23 dX4_reaches_26 (fun x hx9 => (hnx x hx9).elim) (Nat.le_of_ble_eq_true rfl) (Nat.le_of_ble_eq_true rfl) (Nat.le_of_ble_eq_true rfl) (Nat.le_of_ble_eq_true rfl) hlocks (tx_thrown hP hS (Or.inl ⟨rfl, fun q => by have h1 := q.2.1.1; have h2 := q.2.1.2; omega⟩)) hS.2.2 (Nat.le_of_ble_eq_true rfl) (Nat.le_of_ble_eq_true rfl)
theorem iw_X4_value_X4 : ∀ w ∈ wsX40, w ∈ wsX4_value := by decide +kernel
set_option maxHeartbeats 4000000 in
set_option maxRecDepth 100000 in
/--  -/
theorem ct_value (l : Launch) (hlt : l.stackTraces = false) (en : en_T) (ad : Nat → Nat) (c : Nat → Nat → Int32) (hI : xw_I ad) (sz : Nat) {G : gr_T} (hc_ : ci G c) (v x : Int32) : vx_Met l yX4_value wsX4_value (rm_ 40 4 24) (tc_Pc en ad sz [.ref (ad 0), .int v, .int x] (fun H => va_P en.1 vwCl (xw en ad c) H)) (va_Qi (fun r c' => gr_cpl G ∧ (∃ j, j < gr_n G ∧ v = nI j ∧ (¬ x = 0 → r = nI (vl_q (vl_F G j))) ∧ (x = 0 → r.toInt = vl_t (vl_F G j))) ∧ ci G c') (fun c' t => va_P en.1 vwCl (xw en ad c') t.heap) (xw_A ad sz)) (tx_X en ad c sz (fun E => (E = eA ∧ ¬ (∃ j, j < gr_n G ∧ v = nI j)) ∨ (E = eS ∧ (∃ j, j < gr_n G ∧ v = nI j) ∧ ¬ gr_cpl G))) 4 24 (xw_A ad sz) := by
  refine vx_ofW (cc := cX4_value) (maxL := 3) (ret := (some .int)) (by decide) rfl ?_
  intro p e s m args below meth co s₁ B hml hnx hv
  obtain ⟨rfl, hE, ⟨hsz, hT⟩, hP⟩ := hv
  subst hsz
  have hx := B.exec
  have hb := B.bytes
  have hr := B.returns
  have hts := atoms_spec (ws := wsX4_value) B.pre
  have hown : s.vm.findClass RX4 = some m.cls := findClass_of_methodNamed B.named
  have hlocks := B.notSynchronized
  have hS : va_S (xw_A ad s.heap.size) s.heap s.heap [] := va_S.rf
  have hl := lv_entry ([.ref (ad 0), .int v, .int x]) (n := 3) (Nat.le_of_ble_eq_true rfl)
  rw [lg_entry_eq]
  generalize (lg_sl ([.ref (ad 0), .int v, .int x]) ++ List.replicate (3 - (lg_sl ([.ref (ad 0), .int v, .int x])).length) Slot.unset).toArray = ls at hl ⊢
  have hl : lv_has ls 3 [(0, .ref (ad 0)), (1, .int v), (2, .int x)] := hl
  have hg := hc_.1
  have hn7 := hg.n7
  refine lv_aload_n hx hb dX4_value_0 rfl (lv_at hl 0 rfl) ?_
  refine lv_iload_n hx hb dX4_value_1 rfl (lv_at hl 1 rfl) ?_
  refine tx_callv (vx_runV (As := [.int v]) (rest := []) ⟨hx, hb, hml, hown, hts⟩ (ct_checkVertex l hlt en ad c hI _ hg v) (cwV 1 hts gX4_value_X4_checkVertex rfl rfl rfl (by decide +kernel) ⟨Nat.le_of_ble_eq_true rfl, Nat.le_of_ble_eq_true rfl⟩) (tc_preV hE (hT.next hS) (va_recv hE.1 hP (ci := 4) (q0 := 0) rfl rfl) hP) rfl rfl hl.1 rfl (lv_room (Nat.le_of_ble_eq_true rfl)) dX4_value_2 ⟨Nat.le_of_ble_eq_true rfl, Nat.le_of_ble_eq_true rfl⟩) hS (fun E9 ce q9 H locs hX9 hP hS hce hcv hcl => ?_) (fun locs w2 hS => ?_)
  · exact vx_out (E := E9) (fun x hx9 => (hnx x hx9).elim) hlocks hce hcv hcl (tx_on hP hS (Or.inl hX9)) hS.2.2 (Nat.le_of_ble_eq_true rfl) (Nat.le_of_ble_eq_true rfl)
  obtain ⟨j, hj, rfl⟩ := w2
  skip
  refine lv_aload_n hx hb dX4_value_5 rfl (lv_at hl 0 rfl) ?_
  refine tx_callv (vx_runV (As := []) (rest := []) ⟨hx, hb, hml, hown, hts⟩ (ct_checkComplete l hlt en ad c hI _ hg) (cwV 0 hts gX4_value_X4_checkComplete rfl rfl rfl (by decide +kernel) ⟨Nat.le_of_ble_eq_true rfl, Nat.le_of_ble_eq_true rfl⟩) (tc_preV hE (hT.next hS) (va_recv hE.1 hP (ci := 4) (q0 := 0) rfl rfl) hP) rfl rfl hl.1 rfl (lv_room (Nat.le_of_ble_eq_true rfl)) dX4_value_6 ⟨Nat.le_of_ble_eq_true rfl, Nat.le_of_ble_eq_true rfl⟩) hS (fun E9 ce q9 H locs hX9 hP hS hce hcv hcl => ?_) (fun locs w6 hS => ?_)
  · exact vx_out (E := E9) (fun x hx9 => (hnx x hx9).elim) hlocks hce hcv hcl (tx_on hP hS (Or.inr ⟨hX9.1, ⟨j, hj, rfl⟩, hX9.2⟩)) hS.2.2 (Nat.le_of_ble_eq_true rfl) (Nat.le_of_ble_eq_true rfl)
  refine lv_aload_n hx hb dX4_value_9 rfl (lv_at hl 0 rfl) ?_
  refine va_get (D := en.1) (ci := 4) (v := .ref (ad 2)) (C := RX4) (T := TX4) (N := 5) hx hb hts iw_X4_value_X4 hown hE.1 hP 0 rfl rfl 1 (by decide) (hts (.fieldLink RX4 21 "CreditGame" "values" "LCreditGame$Values;") (by decide +kernel)) (fun _ h9 => h9) rfl dX4_value_10 ?_
  refine lv_iload_n hx hb dX4_value_13 rfl (lv_at hl 1 rfl) ?_
  refine xr_callv (va_runVN (As := [.int (nI j)]) (rest := []) ⟨hx, hb, hml, hown, hts⟩ (ct_find l en ad c hI _ hg w6 hc_.2 j (by omega)) ⟨va_cnB 1 hts gX4_value_X3_find_n114 rfl rfl rfl (hE.2 _ (List.mem_of_getElem? (i := 3) rfl)) (hts (.initialized RX3) (by decide +kernel)) (by decide +kernel) ⟨Nat.le_of_ble_eq_true rfl, Nat.le_of_ble_eq_true rfl⟩, hts (.instanceMethod yX3_find) (by decide +kernel), hts (.selects RX3 yX3_find yX3_find) (by decide +kernel)⟩ (ct_preV hE (va_recv hE.1 hP (ci := 3) (q0 := 2) rfl rfl) ⟨rfl, hP⟩) rfl rfl hl.1 rfl (lv_room (Nat.le_of_ble_eq_true rfl)) dX4_value_14 ⟨Nat.le_of_ble_eq_true rfl, Nat.le_of_ble_eq_true rfl⟩) hS (fun c14 H locs w14 hP hS => ?_)
  have hg1 := hg.kx w14.1 (by decide)
  have hF13 : (c14 13 j).toInt = vl_F G j := by
    rcases w14.2.1 j (by omega) with q | q
    · rw [w14.2.2.1 hj] at q; exact absurd q (by decide)
    · exact q.2.2.2
  have hfb := vl_F_bd hg.ok w6 hj
  refine lv_iload_n hx hb dX4_value_17 rfl (lv_at hl 2 rfl) ?_
  refine lv_if_eq (tgt := 32) hx hb dX4_value_18 (by decide) (fun b18 => ?_) (fun b18 => ?_)
  · skip
    refine lv_aload_n hx hb dX4_value_32 rfl (lv_at hl 0 rfl) ?_
    refine va_get (D := en.1) (ci := 4) (v := .ref (ad 2)) (C := RX4) (T := TX4) (N := 5) hx hb hts iw_X4_value_X4 hown hE.1 hP 0 rfl rfl 1 (by decide) (hts (.fieldLink RX4 21 "CreditGame" "values" "LCreditGame$Values;") (by decide +kernel)) (fun _ h9 => h9) rfl dX4_value_33 ?_
    refine lv_iload_n hx hb dX4_value_36 rfl (lv_at hl 1 rfl) ?_
    refine ro_calli (va_runVN (As := [.int (nI j)]) (rest := []) ⟨hx, hb, hml, hown, hts⟩ (ct_topOf l en ad c14 hg1 j hj (vl_F G j) hF13 hfb.1 hfb.2 (vl_F_dv hg.ok w6 hj)) ⟨va_cnB 1 hts gX4_value_X3_topOf_n123 rfl rfl rfl (hE.2 _ (List.mem_of_getElem? (i := 6) rfl)) (hts (.initialized RX3) (by decide +kernel)) (by decide +kernel) ⟨Nat.le_of_ble_eq_true rfl, Nat.le_of_ble_eq_true rfl⟩, hts (.instanceMethod yX3_topOf) (by decide +kernel), hts (.selects RX3 yX3_topOf yX3_topOf) (by decide +kernel)⟩ (ct_preV hE (va_recv hE.1 hP (ci := 3) (q0 := 2) rfl rfl) hP) rfl rfl hl.1 rfl (lv_room (Nat.le_of_ble_eq_true rfl)) dX4_value_37 ⟨Nat.le_of_ble_eq_true rfl, Nat.le_of_ble_eq_true rfl⟩) (fun r37 w37 => ?_)
    refine W.widen (k := 4) (n := 24) (Nat.le_of_ble_eq_true rfl) (Nat.le_of_ble_eq_true rfl) (vx_ret ?_)
    exact W.iret (v := r37) hx hb hr (fun t ht hW => ⟨⟨_, c14, rfl, ⟨w6, ⟨j, hj, rfl, fun q => absurd b18 q, fun _ => w37⟩, hg1, w14.2.1⟩, by show va_P _ _ _ t.heap; rw [ht]; exact hP⟩, hS.F ht⟩) hS.2.2 dX4_value_40
  · skip
    refine lv_aload_n hx hb dX4_value_21 rfl (lv_at hl 0 rfl) ?_
    refine va_get (D := en.1) (ci := 4) (v := .ref (ad 2)) (C := RX4) (T := TX4) (N := 5) hx hb hts iw_X4_value_X4 hown hE.1 hP 0 rfl rfl 1 (by decide) (hts (.fieldLink RX4 21 "CreditGame" "values" "LCreditGame$Values;") (by decide +kernel)) (fun _ h9 => h9) rfl dX4_value_22 ?_
    refine lv_iload_n hx hb dX4_value_25 rfl (lv_at hl 1 rfl) ?_
    refine ro_calli (va_runVN (As := [.int (nI j)]) (rest := []) ⟨hx, hb, hml, hown, hts⟩ (ct_bottomOf l en ad c14 hg1 j hj (vl_F G j) hF13 hfb.1 hfb.2) ⟨va_cnB 1 hts gX4_value_X3_bottomOf_n120 rfl rfl rfl (hE.2 _ (List.mem_of_getElem? (i := 5) rfl)) (hts (.initialized RX3) (by decide +kernel)) (by decide +kernel) ⟨Nat.le_of_ble_eq_true rfl, Nat.le_of_ble_eq_true rfl⟩, hts (.instanceMethod yX3_bottomOf) (by decide +kernel), hts (.selects RX3 yX3_bottomOf yX3_bottomOf) (by decide +kernel)⟩ (ct_preV hE (va_recv hE.1 hP (ci := 3) (q0 := 2) rfl rfl) hP) rfl rfl hl.1 rfl (lv_room (Nat.le_of_ble_eq_true rfl)) dX4_value_26 ⟨Nat.le_of_ble_eq_true rfl, Nat.le_of_ble_eq_true rfl⟩) (fun r26 w26 => ?_)
    refine lv_goto (tgt := 40) hx hb dX4_value_29 (by decide) ?_
    refine W.widen (k := 4) (n := 24) (Nat.le_of_ble_eq_true rfl) (Nat.le_of_ble_eq_true rfl) (vx_ret ?_)
    exact W.iret (v := r26) hx hb hr (fun t ht hW => ⟨⟨_, c14, rfl, ⟨w6, ⟨j, hj, rfl, fun _ => w26, fun q => absurd q b18⟩, hg1, w14.2.1⟩, by show va_P _ _ _ t.heap; rw [ht]; exact hP⟩, hS.F ht⟩) hS.2.2 dX4_value_40
theorem iw_X4_best_X4 : ∀ w ∈ wsX40, w ∈ wsX4_best := by decide +kernel
set_option maxHeartbeats 4000000 in
set_option maxRecDepth 100000 in
/--  -/
theorem ct_best (l : Launch) (hlt : l.stackTraces = false) (en : en_T) (ad : Nat → Nat) (c : Nat → Nat → Int32) (hI : xw_I ad) (sz : Nat) {G : gr_T} (hc_ : ci G c) (v : Int32) : vx_Met l yX4_best wsX4_best (rm_ 40 4 24) (tc_Pc en ad sz [.ref (ad 0), .int v] (fun H => va_P en.1 vwCl (xw en ad c) H)) (va_Qi (fun r c' => gr_cpl G ∧ (∃ j, j < gr_n G ∧ v = nI j ∧ r = nI (gr_best G j)) ∧ ci G c') (fun c' t => va_P en.1 vwCl (xw en ad c') t.heap) (xw_A ad sz)) (tx_X en ad c sz (fun E => (E = eA ∧ ¬ (∃ j, j < gr_n G ∧ v = nI j)) ∨ (E = eS ∧ (∃ j, j < gr_n G ∧ v = nI j) ∧ ¬ gr_cpl G))) 4 24 (xw_A ad sz) := by
  refine vx_ofW (cc := cX4_best) (maxL := 2) (ret := (some .int)) (by decide) rfl ?_
  intro p e s m args below meth co s₁ B hml hnx hv
  obtain ⟨rfl, hE, ⟨hsz, hT⟩, hP⟩ := hv
  subst hsz
  have hx := B.exec
  have hb := B.bytes
  have hr := B.returns
  have hts := atoms_spec (ws := wsX4_best) B.pre
  have hown : s.vm.findClass RX4 = some m.cls := findClass_of_methodNamed B.named
  have hlocks := B.notSynchronized
  have hS : va_S (xw_A ad s.heap.size) s.heap s.heap [] := va_S.rf
  have hl := lv_entry ([.ref (ad 0), .int v]) (n := 2) (Nat.le_of_ble_eq_true rfl)
  rw [lg_entry_eq]
  generalize (lg_sl ([.ref (ad 0), .int v]) ++ List.replicate (2 - (lg_sl ([.ref (ad 0), .int v])).length) Slot.unset).toArray = ls at hl ⊢
  have hl : lv_has ls 2 [(0, .ref (ad 0)), (1, .int v)] := hl
  have hg := hc_.1
  have hn7 := hg.n7
  refine lv_aload_n hx hb dX4_best_0 rfl (lv_at hl 0 rfl) ?_
  refine lv_iload_n hx hb dX4_best_1 rfl (lv_at hl 1 rfl) ?_
  refine tx_callv (vx_runV (As := [.int v]) (rest := []) ⟨hx, hb, hml, hown, hts⟩ (ct_checkVertex l hlt en ad c hI _ hg v) (cwV 1 hts gX4_best_X4_checkVertex rfl rfl rfl (by decide +kernel) ⟨Nat.le_of_ble_eq_true rfl, Nat.le_of_ble_eq_true rfl⟩) (tc_preV hE (hT.next hS) (va_recv hE.1 hP (ci := 4) (q0 := 0) rfl rfl) hP) rfl rfl hl.1 rfl (lv_room (Nat.le_of_ble_eq_true rfl)) dX4_best_2 ⟨Nat.le_of_ble_eq_true rfl, Nat.le_of_ble_eq_true rfl⟩) hS (fun E9 ce q9 H locs hX9 hP hS hce hcv hcl => ?_) (fun locs w2 hS => ?_)
  · exact vx_out (E := E9) (fun x hx9 => (hnx x hx9).elim) hlocks hce hcv hcl (tx_on hP hS (Or.inl hX9)) hS.2.2 (Nat.le_of_ble_eq_true rfl) (Nat.le_of_ble_eq_true rfl)
  obtain ⟨j, hj, rfl⟩ := w2
  skip
  refine lv_aload_n hx hb dX4_best_5 rfl (lv_at hl 0 rfl) ?_
  refine tx_callv (vx_runV (As := []) (rest := []) ⟨hx, hb, hml, hown, hts⟩ (ct_checkComplete l hlt en ad c hI _ hg) (cwV 0 hts gX4_best_X4_checkComplete rfl rfl rfl (by decide +kernel) ⟨Nat.le_of_ble_eq_true rfl, Nat.le_of_ble_eq_true rfl⟩) (tc_preV hE (hT.next hS) (va_recv hE.1 hP (ci := 4) (q0 := 0) rfl rfl) hP) rfl rfl hl.1 rfl (lv_room (Nat.le_of_ble_eq_true rfl)) dX4_best_6 ⟨Nat.le_of_ble_eq_true rfl, Nat.le_of_ble_eq_true rfl⟩) hS (fun E9 ce q9 H locs hX9 hP hS hce hcv hcl => ?_) (fun locs w6 hS => ?_)
  · exact vx_out (E := E9) (fun x hx9 => (hnx x hx9).elim) hlocks hce hcv hcl (tx_on hP hS (Or.inr ⟨hX9.1, ⟨j, hj, rfl⟩, hX9.2⟩)) hS.2.2 (Nat.le_of_ble_eq_true rfl) (Nat.le_of_ble_eq_true rfl)
  refine lv_aload_n hx hb dX4_best_9 rfl (lv_at hl 0 rfl) ?_
  refine va_get (D := en.1) (ci := 4) (v := .ref (ad 2)) (C := RX4) (T := TX4) (N := 5) hx hb hts iw_X4_best_X4 hown hE.1 hP 0 rfl rfl 1 (by decide) (hts (.fieldLink RX4 21 "CreditGame" "values" "LCreditGame$Values;") (by decide +kernel)) (fun _ h9 => h9) rfl dX4_best_10 ?_
  refine xr_callv (va_runVN (As := []) (rest := []) ⟨hx, hb, hml, hown, hts⟩ (ct_findAll l en ad c hI _ hg w6 hc_.2) ⟨va_cnB 0 hts gX4_best_X3_findAll_n100 rfl rfl rfl (hE.2 _ (List.mem_of_getElem? (i := 0) rfl)) (hts (.initialized RX3) (by decide +kernel)) (by decide +kernel) ⟨Nat.le_of_ble_eq_true rfl, Nat.le_of_ble_eq_true rfl⟩, hts (.instanceMethod yX3_findAll) (by decide +kernel), hts (.selects RX3 yX3_findAll yX3_findAll) (by decide +kernel)⟩ (ct_preV hE (va_recv hE.1 hP (ci := 3) (q0 := 2) rfl rfl) ⟨rfl, hP⟩) rfl rfl hl.1 rfl (lv_room (Nat.le_of_ble_eq_true rfl)) dX4_best_13 ⟨Nat.le_of_ble_eq_true rfl, Nat.le_of_ble_eq_true rfl⟩) hS (fun c13 H locs w13 hP hS => ?_)
  have hg1 := hg.kx w13.1 (by decide)
  have hva := va_of hn7 w13.2.1 w13.2.2
  refine lv_aload_n hx hb dX4_best_16 rfl (lv_at hl 0 rfl) ?_
  refine lv_iload_n hx hb dX4_best_17 rfl (lv_at hl 1 rfl) ?_
  refine xr_calli (va_runV (As := [.int (nI j)]) (rest := []) ⟨hx, hb, hml, hown, hts⟩ (ct_bestEdge l en ad c13 hI _ hg1 w6 hva j hj) (cwV 1 hts gX4_best_X4_bestEdge rfl rfl rfl (by decide +kernel) ⟨Nat.le_of_ble_eq_true rfl, Nat.le_of_ble_eq_true rfl⟩) (ct_preV hE (va_recv hE.1 hP (ci := 4) (q0 := 0) rfl rfl) ⟨rfl, hP⟩) rfl rfl hl.1 rfl (lv_room (Nat.le_of_ble_eq_true rfl)) dX4_best_18 ⟨Nat.le_of_ble_eq_true rfl, Nat.le_of_ble_eq_true rfl⟩) hS (fun r18 c18 H locs w18 hP hS => ?_)
  refine W.widen (k := 4) (n := 24) (Nat.le_of_ble_eq_true rfl) (Nat.le_of_ble_eq_true rfl) (vx_ret ?_)
  exact W.iret (v := r18) hx hb hr (fun t ht hW => ⟨⟨_, c18, rfl, ⟨w6, ⟨j, hj, rfl, w18.1⟩, ci_kx ⟨hg1, w13.2.1⟩ w18.2.2 (by decide)⟩, by show va_P _ _ _ t.heap; rw [ht]; exact hP⟩, hS.F ht⟩) hS.2.2 dX4_best_21
theorem iw_X4_settle_X4 : ∀ w ∈ wsX40, w ∈ wsX4_settle := by decide +kernel
set_option maxHeartbeats 4000000 in
set_option maxRecDepth 100000 in
/--  -/
theorem ct_settle (l : Launch) (hlt : l.stackTraces = false) (en : en_T) (ad : Nat → Nat) (c : Nat → Nat → Int32) (hI : xw_I ad) (sz : Nat) {G : gr_T} (hc_ : ci G c) (x : Int32) : vx_Met l yX4_settle wsX4_settle (rm_ 40 4 24) (tc_Pc en ad sz [.ref (ad 0), .int x] (fun H => va_P en.1 vwCl (xw en ad c) H)) (va_Qi (fun r c' => gr_cpl G ∧ (∃ pl, pl < 2 ∧ x = nI pl ∧ r = nI (gr_cn G pl 7) ∧ ci (gr_st G pl 7) c')) (fun c' t => va_P en.1 vwCl (xw en ad c') t.heap) (xw_A ad sz)) (tx_X en ad c sz (fun E => (E = eA ∧ ¬ (x = 0 ∨ x = 1)) ∨ (E = eS ∧ (x = 0 ∨ x = 1) ∧ ¬ gr_cpl G))) 4 24 (xw_A ad sz) := by
  refine vx_ofW (cc := cX4_settle) (maxL := 2) (ret := (some .int)) (by decide) rfl ?_
  intro p e s m args below meth co s₁ B hml hnx hv
  obtain ⟨rfl, hE, ⟨hsz, hT⟩, hP⟩ := hv
  subst hsz
  have hx := B.exec
  have hb := B.bytes
  have hr := B.returns
  have hts := atoms_spec (ws := wsX4_settle) B.pre
  have hown : s.vm.findClass RX4 = some m.cls := findClass_of_methodNamed B.named
  have hlocks := B.notSynchronized
  have hS : va_S (xw_A ad s.heap.size) s.heap s.heap [] := va_S.rf
  have hl := lv_entry ([.ref (ad 0), .int x]) (n := 2) (Nat.le_of_ble_eq_true rfl)
  rw [lg_entry_eq]
  generalize (lg_sl ([.ref (ad 0), .int x]) ++ List.replicate (2 - (lg_sl ([.ref (ad 0), .int x])).length) Slot.unset).toArray = ls at hl ⊢
  have hl : lv_has ls 2 [(0, .ref (ad 0)), (1, .int x)] := hl
  have hg := hc_.1
  have hn7 := hg.n7
  refine lv_aload_n hx hb dX4_settle_0 rfl (lv_at hl 0 rfl) ?_
  refine lv_iload_n hx hb dX4_settle_1 rfl (lv_at hl 1 rfl) ?_
  refine tx_callv (vx_runV (As := [.int x]) (rest := []) ⟨hx, hb, hml, hown, hts⟩ (ct_checkPlayer l hlt en ad c hI _ x) (cwV 1 hts gX4_settle_X4_checkPlayer rfl rfl rfl (by decide +kernel) ⟨Nat.le_of_ble_eq_true rfl, Nat.le_of_ble_eq_true rfl⟩) (tc_preV hE (hT.next hS) (va_recv hE.1 hP (ci := 4) (q0 := 0) rfl rfl) hP) rfl rfl hl.1 rfl (lv_room (Nat.le_of_ble_eq_true rfl)) dX4_settle_2 ⟨Nat.le_of_ble_eq_true rfl, Nat.le_of_ble_eq_true rfl⟩) hS (fun E9 ce q9 H locs hX9 hP hS hce hcv hcl => ?_) (fun locs w2 hS => ?_)
  · exact vx_out (E := E9) (fun x hx9 => (hnx x hx9).elim) hlocks hce hcv hcl (tx_on hP hS (Or.inl hX9)) hS.2.2 (Nat.le_of_ble_eq_true rfl) (Nat.le_of_ble_eq_true rfl)
  obtain ⟨pl, hpl, rfl⟩ : ∃ pl, pl < 2 ∧ x = nI pl := by
    rcases w2 with q | q
    · exact ⟨0, by omega, q⟩
    · exact ⟨1, by omega, q⟩
  skip
  refine lv_aload_n hx hb dX4_settle_5 rfl (lv_at hl 0 rfl) ?_
  refine tx_callv (vx_runV (As := []) (rest := []) ⟨hx, hb, hml, hown, hts⟩ (ct_checkComplete l hlt en ad c hI _ hg) (cwV 0 hts gX4_settle_X4_checkComplete rfl rfl rfl (by decide +kernel) ⟨Nat.le_of_ble_eq_true rfl, Nat.le_of_ble_eq_true rfl⟩) (tc_preV hE (hT.next hS) (va_recv hE.1 hP (ci := 4) (q0 := 0) rfl rfl) hP) rfl rfl hl.1 rfl (lv_room (Nat.le_of_ble_eq_true rfl)) dX4_settle_6 ⟨Nat.le_of_ble_eq_true rfl, Nat.le_of_ble_eq_true rfl⟩) hS (fun E9 ce q9 H locs hX9 hP hS hce hcv hcl => ?_) (fun locs w6 hS => ?_)
  · exact vx_out (E := E9) (fun x hx9 => (hnx x hx9).elim) hlocks hce hcv hcl (tx_on hP hS (Or.inr ⟨hX9.1, w2, hX9.2⟩)) hS.2.2 (Nat.le_of_ble_eq_true rfl) (Nat.le_of_ble_eq_true rfl)
  refine lv_aload_n hx hb dX4_settle_9 rfl (lv_at hl 0 rfl) ?_
  refine va_get (D := en.1) (ci := 4) (v := .ref (ad 2)) (C := RX4) (T := TX4) (N := 5) hx hb hts iw_X4_settle_X4 hown hE.1 hP 0 rfl rfl 1 (by decide) (hts (.fieldLink RX4 21 "CreditGame" "values" "LCreditGame$Values;") (by decide +kernel)) (fun _ h9 => h9) rfl dX4_settle_10 ?_
  refine xr_callv (va_runVN (As := []) (rest := []) ⟨hx, hb, hml, hown, hts⟩ (ct_findAll l en ad c hI _ hg w6 hc_.2) ⟨va_cnB 0 hts gX4_settle_X3_findAll_n100 rfl rfl rfl (hE.2 _ (List.mem_of_getElem? (i := 0) rfl)) (hts (.initialized RX3) (by decide +kernel)) (by decide +kernel) ⟨Nat.le_of_ble_eq_true rfl, Nat.le_of_ble_eq_true rfl⟩, hts (.instanceMethod yX3_findAll) (by decide +kernel), hts (.selects RX3 yX3_findAll yX3_findAll) (by decide +kernel)⟩ (ct_preV hE (va_recv hE.1 hP (ci := 3) (q0 := 2) rfl rfl) ⟨rfl, hP⟩) rfl rfl hl.1 rfl (lv_room (Nat.le_of_ble_eq_true rfl)) dX4_settle_13 ⟨Nat.le_of_ble_eq_true rfl, Nat.le_of_ble_eq_true rfl⟩) hS (fun c13 H locs w13 hP hS => ?_)
  have hg1 := hg.kx w13.1 (by decide)
  have hva := va_of hn7 w13.2.1 w13.2.2
  refine lv_aload_n hx hb dX4_settle_16 rfl (lv_at hl 0 rfl) ?_
  refine lv_iload_n hx hb dX4_settle_17 rfl (lv_at hl 1 rfl) ?_
  refine xr_callv (va_runV (As := [.int (nI pl)]) (rest := []) ⟨hx, hb, hml, hown, hts⟩ (ct_chooseFor l en ad c13 hI _ hg1 w6 hva pl hpl) (cwV 1 hts gX4_settle_X4_chooseFor rfl rfl rfl (by decide +kernel) ⟨Nat.le_of_ble_eq_true rfl, Nat.le_of_ble_eq_true rfl⟩) (ct_preV hE (va_recv hE.1 hP (ci := 4) (q0 := 0) rfl rfl) ⟨rfl, hP⟩) rfl rfl hl.1 rfl (lv_room (Nat.le_of_ble_eq_true rfl)) dX4_settle_18 ⟨Nat.le_of_ble_eq_true rfl, Nat.le_of_ble_eq_true rfl⟩) hS (fun c18 H locs w18 hP hS => ?_)
  have hg2 := hg1.kx w18.1 (by decide)
  refine lv_aload_n hx hb dX4_settle_21 rfl (lv_at hl 0 rfl) ?_
  refine va_get (D := en.1) (ci := 4) (v := .ref (ad 2)) (C := RX4) (T := TX4) (N := 5) hx hb hts iw_X4_settle_X4 hown hE.1 hP 0 rfl rfl 1 (by decide) (hts (.fieldLink RX4 21 "CreditGame" "values" "LCreditGame$Values;") (by decide +kernel)) (fun _ h9 => h9) rfl dX4_settle_22 ?_
  refine xr_callv (va_runVN (As := []) (rest := []) ⟨hx, hb, hml, hown, hts⟩ (ct_forget l en ad c18 hI _) ⟨va_cnB 0 hts gX4_settle_X3_forget_n60 rfl rfl rfl (hE.2 _ (List.mem_of_getElem? (i := 23) rfl)) (hts (.initialized RX3) (by decide +kernel)) (by decide +kernel) ⟨Nat.le_of_ble_eq_true rfl, Nat.le_of_ble_eq_true rfl⟩, hts (.instanceMethod yX3_forget) (by decide +kernel), hts (.selects RX3 yX3_forget yX3_forget) (by decide +kernel)⟩ (ct_preV hE (va_recv hE.1 hP (ci := 3) (q0 := 2) rfl rfl) ⟨rfl, hP⟩) rfl rfl hl.1 rfl (lv_room (Nat.le_of_ble_eq_true rfl)) dX4_settle_25 ⟨Nat.le_of_ble_eq_true rfl, Nat.le_of_ble_eq_true rfl⟩) hS (fun c25 H locs w25 hP hS => ?_)
  have hg3 := hg2.kx w25.1 (by decide)
  refine lv_aload_n hx hb dX4_settle_28 rfl (lv_at hl 0 rfl) ?_
  refine xr_calli (va_runV (As := []) (rest := []) ⟨hx, hb, hml, hown, hts⟩ (ct_fixChosen l en ad c25 hI _ hg3 pl (fun v hv => by rw [w25.1 20 (by decide)]; exact w18.2.1 v hv) w18.2.2) (cwV 0 hts gX4_settle_X4_fixChosen rfl rfl rfl (by decide +kernel) ⟨Nat.le_of_ble_eq_true rfl, Nat.le_of_ble_eq_true rfl⟩) (ct_preV hE (va_recv hE.1 hP (ci := 4) (q0 := 0) rfl rfl) ⟨rfl, hP⟩) rfl rfl hl.1 rfl (lv_room (Nat.le_of_ble_eq_true rfl)) dX4_settle_29 ⟨Nat.le_of_ble_eq_true rfl, Nat.le_of_ble_eq_true rfl⟩) hS (fun r29 c29 H locs w29 hP hS => ?_)
  refine W.widen (k := 4) (n := 24) (Nat.le_of_ble_eq_true rfl) (Nat.le_of_ble_eq_true rfl) (vx_ret ?_)
  exact W.iret (v := r29) hx hb hr (fun t ht hW => ⟨⟨_, c29, rfl, ⟨w6, pl, hpl, rfl, w29.1, ci_new w29.2.1 w25.2 w29.2.2 (by decide)⟩, by show va_P _ _ _ t.heap; rw [ht]; exact hP⟩, hS.F ht⟩) hS.2.2 dX4_settle_32
theorem iw_X4_walk_X4 : ∀ w ∈ wsX40, w ∈ wsX4_walk := by decide +kernel
set_option maxHeartbeats 4000000 in
set_option maxRecDepth 100000 in
/--  -/
theorem ct_walk (l : Launch) (hlt : l.stackTraces = false) (en : en_T) (ad : Nat → Nat) (c : Nat → Nat → Int32) (hI : xw_I ad) (sz : Nat) {G : gr_T} (hc_ : ci G c) (v x : Int32) : vx_Met l yX4_walk wsX4_walk (rm_ 40 4 24) (tc_Pc en ad sz [.ref (ad 0), .int v, .int x] (fun H => va_P en.1 vwCl (xw en ad c) H)) (va_Qi (fun r c' => gr_cpl G ∧ (∃ j wh, j < gr_n G ∧ v = nI j ∧ wh < 4 ∧ x = nI wh ∧ gr_wr G j wh r) ∧ ci G c') (fun c' t => va_P en.1 vwCl (xw en ad c') t.heap) (xw_A ad sz)) (tx_X en ad c sz (fun E => (E = eA ∧ ¬ ((∃ j, j < gr_n G ∧ v = nI j) ∧ ∃ wh, wh < 4 ∧ x = nI wh)) ∨ (E = eS ∧ ((∃ j, j < gr_n G ∧ v = nI j) ∧ ∃ wh, wh < 4 ∧ x = nI wh) ∧ ¬ gr_cpl G))) 4 24 (xw_A ad sz) := by
  refine vx_ofW (cc := cX4_walk) (maxL := 3) (ret := (some .int)) (by decide) rfl ?_
  intro p e s m args below meth co s₁ B hml hnx hv
  obtain ⟨rfl, hE, ⟨hsz, hT⟩, hP⟩ := hv
  subst hsz
  have hx := B.exec
  have hb := B.bytes
  have hr := B.returns
  have hts := atoms_spec (ws := wsX4_walk) B.pre
  have hown : s.vm.findClass RX4 = some m.cls := findClass_of_methodNamed B.named
  have hlocks := B.notSynchronized
  have hS : va_S (xw_A ad s.heap.size) s.heap s.heap [] := va_S.rf
  have hl := lv_entry ([.ref (ad 0), .int v, .int x]) (n := 3) (Nat.le_of_ble_eq_true rfl)
  rw [lg_entry_eq]
  generalize (lg_sl ([.ref (ad 0), .int v, .int x]) ++ List.replicate (3 - (lg_sl ([.ref (ad 0), .int v, .int x])).length) Slot.unset).toArray = ls at hl ⊢
  have hl : lv_has ls 3 [(0, .ref (ad 0)), (1, .int v), (2, .int x)] := hl
  have hg := hc_.1
  have hn7 := hg.n7
  refine lv_aload_n hx hb dX4_walk_0 rfl (lv_at hl 0 rfl) ?_
  refine lv_iload_n hx hb dX4_walk_1 rfl (lv_at hl 1 rfl) ?_
  refine tx_callv (vx_runV (As := [.int v]) (rest := []) ⟨hx, hb, hml, hown, hts⟩ (ct_checkVertex l hlt en ad c hI _ hg v) (cwV 1 hts gX4_walk_X4_checkVertex rfl rfl rfl (by decide +kernel) ⟨Nat.le_of_ble_eq_true rfl, Nat.le_of_ble_eq_true rfl⟩) (tc_preV hE (hT.next hS) (va_recv hE.1 hP (ci := 4) (q0 := 0) rfl rfl) hP) rfl rfl hl.1 rfl (lv_room (Nat.le_of_ble_eq_true rfl)) dX4_walk_2 ⟨Nat.le_of_ble_eq_true rfl, Nat.le_of_ble_eq_true rfl⟩) hS (fun E9 ce q9 H locs hX9 hP hS hce hcv hcl => ?_) (fun locs w2 hS => ?_)
  · exact vx_out (E := E9) (fun x hx9 => (hnx x hx9).elim) hlocks hce hcv hcl (tx_on hP hS (Or.inl ⟨hX9.1, fun q => hX9.2 q.1⟩)) hS.2.2 (Nat.le_of_ble_eq_true rfl) (Nat.le_of_ble_eq_true rfl)
  obtain ⟨j, hj, rfl⟩ := w2
  skip
  refine lv_iload_n hx hb dX4_walk_5 rfl (lv_at hl 2 rfl) ?_
  refine lv_if_lt (tgt := 14) hx hb dX4_walk_6 (by decide) (fun b6 => ?_) (fun b6 => ?_)
  · skip
    obtain ⟨sa, hsa⟩ := hT.2.1 (136, "what is not 0 .. 3") (by decide)
    exact vx_throwS hx hb hlt (own := RX4) (cls := eA) (text := "what is not 0 .. 3") (names := eNs) (ik := 70) (is := 136) (ic := 74) (A := xw_A ad s.heap.size) hown (by decide) (by decide) (hts (.classLink RX4 70 eA) (by decide +kernel)) (hts (.initialized eA) (by decide +kernel)) hsa (tx_hatA (fun w h => hts w (List.mem_cons_of_mem _ (List.mem_append_left _ (List.mem_append_right _ h)))) hT) tx_gA hT.2.2.1 hT.2.2.2 hS (hl.1.trans hml.symm) dX4_walk_14 dX4_walk_17 dX4_walk_18 dX4_walk_20 dX4_walk_23 (fun x hx9 => (hnx x hx9).elim) (Nat.le_of_ble_eq_true rfl) (Nat.le_of_ble_eq_true rfl) (Nat.le_of_ble_eq_true rfl) (Nat.le_of_ble_eq_true rfl) hlocks (tx_thrown hP hS (Or.inl ⟨rfl, by
        rintro ⟨-, wh, hwh, rfl⟩
        first | exact nI_pos (by omega) b6 | (rw [nI_toInt (by omega)] at q11; omega)⟩)) hS.2.2 (Nat.le_of_ble_eq_true rfl) (Nat.le_of_ble_eq_true rfl)
  · skip
    refine lv_iload_n hx hb dX4_walk_9 rfl (lv_at hl 2 rfl) ?_
    refine lv_iconst (v := 3) hx hb dX4_walk_10 (by decide) ?_
    refine lv_icmp_le (tgt := 24) hx hb dX4_walk_11 (by decide) (fun b11 => ?_) (fun b11 => ?_)
    · skip
      obtain ⟨wh, hwh, rfl⟩ : ∃ wh, wh < 4 ∧ x = nI wh := by
        rcases pk_ix x (n := 4) (by omega) with q | q | q
        · exact absurd q b6
        · exact absurd q (by have h1 := i_le.mp b11; rw [i_9.2.2.2.2] at h1; intro h2; have h3 := i_le.mp h2; rw [nI_toInt (by omega)] at h3; omega)
        · exact q
      skip
      refine lv_aload_n hx hb dX4_walk_24 rfl (lv_at hl 0 rfl) ?_
      refine tx_callv (vx_runV (As := []) (rest := []) ⟨hx, hb, hml, hown, hts⟩ (ct_checkComplete l hlt en ad c hI _ hg) (cwV 0 hts gX4_walk_X4_checkComplete rfl rfl rfl (by decide +kernel) ⟨Nat.le_of_ble_eq_true rfl, Nat.le_of_ble_eq_true rfl⟩) (tc_preV hE (hT.next hS) (va_recv hE.1 hP (ci := 4) (q0 := 0) rfl rfl) hP) rfl rfl hl.1 rfl (lv_room (Nat.le_of_ble_eq_true rfl)) dX4_walk_25 ⟨Nat.le_of_ble_eq_true rfl, Nat.le_of_ble_eq_true rfl⟩) hS (fun E9 ce q9 H locs hX9 hP hS hce hcv hcl => ?_) (fun locs w25 hS => ?_)
      · exact vx_out (E := E9) (fun x hx9 => (hnx x hx9).elim) hlocks hce hcv hcl (tx_on hP hS (Or.inr ⟨hX9.1, ⟨⟨j, hj, rfl⟩, wh, hwh, rfl⟩, hX9.2⟩)) hS.2.2 (Nat.le_of_ble_eq_true rfl) (Nat.le_of_ble_eq_true rfl)
      refine lv_aload_n hx hb dX4_walk_28 rfl (lv_at hl 0 rfl) ?_
      refine va_get (D := en.1) (ci := 4) (v := .ref (ad 2)) (C := RX4) (T := TX4) (N := 5) hx hb hts iw_X4_walk_X4 hown hE.1 hP 0 rfl rfl 1 (by decide) (hts (.fieldLink RX4 21 "CreditGame" "values" "LCreditGame$Values;") (by decide +kernel)) (fun _ h9 => h9) rfl dX4_walk_29 ?_
      refine xr_callv (va_runVN (As := []) (rest := []) ⟨hx, hb, hml, hown, hts⟩ (ct_findAll l en ad c hI _ hg w25 hc_.2) ⟨va_cnB 0 hts gX4_walk_X3_findAll_n100 rfl rfl rfl (hE.2 _ (List.mem_of_getElem? (i := 0) rfl)) (hts (.initialized RX3) (by decide +kernel)) (by decide +kernel) ⟨Nat.le_of_ble_eq_true rfl, Nat.le_of_ble_eq_true rfl⟩, hts (.instanceMethod yX3_findAll) (by decide +kernel), hts (.selects RX3 yX3_findAll yX3_findAll) (by decide +kernel)⟩ (ct_preV hE (va_recv hE.1 hP (ci := 3) (q0 := 2) rfl rfl) ⟨rfl, hP⟩) rfl rfl hl.1 rfl (lv_room (Nat.le_of_ble_eq_true rfl)) dX4_walk_32 ⟨Nat.le_of_ble_eq_true rfl, Nat.le_of_ble_eq_true rfl⟩) hS (fun c32 H locs w32 hP hS => ?_)
      have hg1 := hg.kx w32.1 (by decide)
      have hva := va_of hn7 w32.2.1 w32.2.2
      refine lv_aload_n hx hb dX4_walk_35 rfl (lv_at hl 0 rfl) ?_
      refine lv_iload_n hx hb dX4_walk_36 rfl (lv_at hl 1 rfl) ?_
      refine lv_iload_n hx hb dX4_walk_37 rfl (lv_at hl 2 rfl) ?_
      refine xr_calli (va_runV (As := [.int (nI j), .int (nI wh)]) (rest := []) ⟨hx, hb, hml, hown, hts⟩ (ct_tellWalk l en ad c32 hI _ hg1 w25 hva (gr_best_in hg.ok w25) j hj wh hwh) (cwV 2 hts gX4_walk_X4_tellWalk rfl rfl rfl (by decide +kernel) ⟨Nat.le_of_ble_eq_true rfl, Nat.le_of_ble_eq_true rfl⟩) (ct_preV hE (va_recv hE.1 hP (ci := 4) (q0 := 0) rfl rfl) ⟨rfl, hP⟩) rfl rfl hl.1 rfl (lv_room (Nat.le_of_ble_eq_true rfl)) dX4_walk_38 ⟨Nat.le_of_ble_eq_true rfl, Nat.le_of_ble_eq_true rfl⟩) hS (fun r38 c38 H locs w38 hP hS => ?_)
      refine W.widen (k := 4) (n := 24) (Nat.le_of_ble_eq_true rfl) (Nat.le_of_ble_eq_true rfl) (vx_ret ?_)
      exact W.iret (v := r38) hx hb hr (fun t ht hW => ⟨⟨_, c38, rfl, ⟨w25, ⟨j, wh, hj, rfl, hwh, rfl, w38.1⟩, ci_kx ⟨hg1, w32.2.1⟩ w38.2 (by decide)⟩, by show va_P _ _ _ t.heap; rw [ht]; exact hP⟩, hS.F ht⟩) hS.2.2 dX4_walk_41
    · skip
      have q11 : ¬ _ := fun q => b11 (i_le.mpr q)
      rw [i_9.2.2.2.2] at q11
      obtain ⟨sa, hsa⟩ := hT.2.1 (136, "what is not 0 .. 3") (by decide)
      exact vx_throwS hx hb hlt (own := RX4) (cls := eA) (text := "what is not 0 .. 3") (names := eNs) (ik := 70) (is := 136) (ic := 74) (A := xw_A ad s.heap.size) hown (by decide) (by decide) (hts (.classLink RX4 70 eA) (by decide +kernel)) (hts (.initialized eA) (by decide +kernel)) hsa (tx_hatA (fun w h => hts w (List.mem_cons_of_mem _ (List.mem_append_left _ (List.mem_append_right _ h)))) hT) tx_gA hT.2.2.1 hT.2.2.2 hS (hl.1.trans hml.symm) dX4_walk_14 dX4_walk_17 dX4_walk_18 dX4_walk_20 dX4_walk_23 (fun x hx9 => (hnx x hx9).elim) (Nat.le_of_ble_eq_true rfl) (Nat.le_of_ble_eq_true rfl) (Nat.le_of_ble_eq_true rfl) (Nat.le_of_ble_eq_true rfl) hlocks (tx_thrown hP hS (Or.inl ⟨rfl, by
        rintro ⟨-, wh, hwh, rfl⟩
        first | exact nI_pos (by omega) b6 | (rw [nI_toInt (by omega)] at q11; omega)⟩)) hS.2.2 (Nat.le_of_ble_eq_true rfl) (Nat.le_of_ble_eq_true rfl)
