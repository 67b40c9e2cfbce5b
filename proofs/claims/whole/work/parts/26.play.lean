/-! ===== CreditGame$Values: the search ===== -/
theorem ab_rf {lo hi P : Int} : ab lo hi P P := ⟨id, id, fun _ _ => rfl⟩
theorem vl_leaf {G : gr_T} {k j d : Nat} {π : List (Nat × Int)} {sm s0 : Int} (h : gm_at π j = some (d, s0)) : vl_p G (k + 1) π j sm = ((420 / d : Nat) : Int) * (sm - s0) := by
  simp only [vl_p, gm_pay, h]
theorem gr_ow_t {G : gr_T} {j : Nat} (hj : j < gr_n G) (h : gr_own G j = 0) : gr_ow G j = true := by
  simp [gr_ow, gp_ow, hj, h]
theorem gr_ow_f {G : gr_T} {j : Nat} (h : ¬ gr_own G j = 0) : gr_ow G j = false := by
  simp [gr_ow, gp_ow, h]
/-- what each edge from j brings -/
def vl_l (G : gr_T) (k : Nat) (π : List (Nat × Int)) (j : Nat) (sm : Int) : List Int := (gr_adj G j).map (fun x => vl_p G k ((j, sm) :: π) (gr_tgt G x) (sm + gr_w G x))
theorem vl_mx {G : gr_T} {k j : Nat} {π : List (Nat × Int)} {sm : Int} (h : gm_at π j = none) (hj : j < gr_n G) (ho : gr_own G j = 0) : vl_p G (k + 1) π j sm = gm_mx (vl_l G k π j sm) := by
  simp only [vl_p, gm_pay, h, gr_ow_t hj ho, if_true]
  rfl
theorem vl_mn {G : gr_T} {k j : Nat} {π : List (Nat × Int)} {sm : Int} (h : gm_at π j = none) (ho : ¬ gr_own G j = 0) : vl_p G (k + 1) π j sm = gm_mn (vl_l G k π j sm) := by
  simp only [vl_p, gm_pay, h, gr_ow_f ho, Bool.false_eq_true, if_false]
  rfl
theorem ab_mx {lo hi mi P pay r pay1 lo1 : Int} (hl : lo < hi) (hp : pay < hi) (h : ab lo hi mi pay) (e1 : lo1 = max lo pay) (h2 : ab lo1 hi P r) (e2 : pay1 = max pay r) : ab lo hi (max mi P) pay1 := by
  obtain ⟨a1, a2, a3⟩ := h
  obtain ⟨b1, b2, b3⟩ := h2
  subst e1; subst e2
  by_cases c1 : mi ≤ lo <;> by_cases c2 : mi < hi <;> by_cases c3 : P ≤ max lo pay <;> by_cases c4 : P < hi <;> refine ⟨fun q => ?_, fun q => ?_, fun q q2 => ?_⟩ <;> omega
theorem ab_mn {lo hi mi P pay r pay1 hi1 : Int} (hl : lo < hi) (hp : lo < pay) (h : ab lo hi mi pay) (e1 : hi1 = min hi pay) (h2 : ab lo hi1 P r) (e2 : pay1 = min pay r) : ab lo hi (min mi P) pay1 := by
  obtain ⟨a1, a2, a3⟩ := h
  obtain ⟨b1, b2, b3⟩ := h2
  subst e1; subst e2
  by_cases c1 : lo < mi <;> by_cases c2 : mi < hi <;> by_cases c3 : P < min hi pay <;> by_cases c4 : lo < P <;> refine ⟨fun q => ?_, fun q => ?_, fun q q2 => ?_⟩ <;> omega
theorem ab_mx_end {lo hi mi P pay : Int} (hl : lo < hi) (hp : hi ≤ pay) (h : ab lo hi mi pay) (hm : mi ≤ P) : ab lo hi P pay := by
  obtain ⟨a1, a2, a3⟩ := h
  by_cases c1 : mi ≤ lo <;> by_cases c2 : mi < hi <;> refine ⟨fun q => ?_, fun q => ?_, fun q q2 => ?_⟩ <;> omega
theorem ab_mn_end {lo hi mi P pay : Int} (hl : lo < hi) (hp : pay ≤ lo) (h : ab lo hi mi pay) (hm : P ≤ mi) : ab lo hi P pay := by
  obtain ⟨a1, a2, a3⟩ := h
  by_cases c1 : lo < mi <;> by_cases c2 : mi < hi <;> refine ⟨fun q => ?_, fun q => ?_, fun q q2 => ?_⟩ <;> omega
theorem vl_bd {G : gr_T} (hg : gf_ok G) (hc : gr_cpl G) {k j : Nat} {π : List (Nat × Int)} {sm : Int} (hk : 8 ≤ k + π.length) (hok : gm_ok (gr_n G) π) (hj : j < gr_n G) (hne : gm_near π sm) : -3780 ≤ vl_p G k π j sm ∧ vl_p G k π j sm ≤ 3780 := gm_pay_bd hg.1 hc.2 (gr_tgts hg) (gr_ws hg) hk hok hj hne
theorem vl_mx_next {G : gr_T} (hg : gf_ok G) (hc : gr_cpl G) {k j i : Nat} {π : List (Nat × Int)} {sm : Int} (hk : 8 ≤ k + (π.length + 1)) (hok : gm_ok (gr_n G) ((j, sm) :: π)) (hj : j < gr_n G) (hne : gm_near π sm) (hi : i < (gr_adj G j).length) : gm_mx ((vl_l G k π j sm).take (i + 1)) = max (gm_mx ((vl_l G k π j sm).take i)) (vl_p G k ((j, sm) :: π) (gr_tgt G ((gr_adj G j).getD i 0)) (sm + gr_w G ((gr_adj G j).getD i 0))) := by
  have hm := gr_adj_at hg hj hi
  have hb := vl_bd hg hc (k := k) (π := (j, sm) :: π) (sm := sm + gr_w G ((gr_adj G j).getD i 0)) (by simp only [List.length_cons]; omega) hok (gr_tgts hg j hj _ hm) (gm_near_push hne (gr_ws hg j hj _ hm).1 (gr_ws hg j hj _ hm).2)
  unfold vl_l
  rw [gm_take _ _ 0 hi, gm_mx_app]
  omega
theorem vl_mn_next {G : gr_T} (hg : gf_ok G) (hc : gr_cpl G) {k j i : Nat} {π : List (Nat × Int)} {sm : Int} (hk : 8 ≤ k + (π.length + 1)) (hok : gm_ok (gr_n G) ((j, sm) :: π)) (hj : j < gr_n G) (hne : gm_near π sm) (hi : i < (gr_adj G j).length) : gm_mn ((vl_l G k π j sm).take (i + 1)) = min (gm_mn ((vl_l G k π j sm).take i)) (vl_p G k ((j, sm) :: π) (gr_tgt G ((gr_adj G j).getD i 0)) (sm + gr_w G ((gr_adj G j).getD i 0))) := by
  have hm := gr_adj_at hg hj hi
  have hb := vl_bd hg hc (k := k) (π := (j, sm) :: π) (sm := sm + gr_w G ((gr_adj G j).getD i 0)) (by simp only [List.length_cons]; omega) hok (gr_tgts hg j hj _ hm) (gm_near_push hne (gr_ws hg j hj _ hm).1 (gr_ws hg j hj _ hm).2)
  unfold vl_l
  rw [gm_take _ _ 0 hi, gm_mn_app]
  omega
theorem vl_len (G : gr_T) (k : Nat) (π : List (Nat × Int)) (j : Nat) (sm : Int) : (vl_l G k π j sm).length = (gr_adj G j).length := by simp [vl_l]
theorem kx_12 {S : List Nat} (h : S = [18, 19]) : ∀ k ∈ S, 12 ≤ k ∧ k ≤ 20 := by subst h; decide
def pa_C (l : Launch) (en : en_T) (ad : Nat → Nat) (k : Nat) : Prop := ∀ (c : Nat → Nat → Int32) (sz : Nat) {G : gr_T} (hg : gi G c) (hc : gr_cpl G) (π : List (Nat × Int)) (j : Nat) (sm : Int) (si lo hi : Int32) (hpr : pr π c) (hok : gm_ok (gr_n G) π) (hk : 8 ≤ k + π.length) (hj : j < gr_n G) (hne : gm_near π sm) (hs : si.toInt = sm) (hb1 : -(9 * (π.length : Int)) ≤ sm) (hb2 : sm ≤ 9 * (π.length : Int)) (hlh : lo.toInt < hi.toInt) (hl1 : -1000000 ≤ lo.toInt) (hh1 : hi.toInt ≤ 1000000), Met l yX3_playAt wsX3_playAt (rm_ (2 * k + 5) 0 0) (ct_Pc en [.ref (ad 2), .int (nI j), .int (nI π.length), .int si, .int lo, .int hi] (fun H => H.size = sz ∧ va_P en.1 vwCl (xw en ad c) H)) (va_Qi (fun r c' => (-1000000 ≤ r.toInt ∧ r.toInt ≤ 1000000) ∧ ab lo.toInt hi.toInt (vl_p G k π j sm) r.toInt ∧ kx [18, 19] c c' ∧ pr π c') (fun c' t => va_P en.1 vwCl (xw en ad c') t.heap) (xw_A ad sz)) 0 0 (xw_A ad sz)
def gp_C (l : Launch) (en : en_T) (ad : Nat → Nat) (k : Nat) : Prop := ∀ (c : Nat → Nat → Int32) (sz : Nat) {G : gr_T} (hg : gi G c) (hc : gr_cpl G) (π : List (Nat × Int)) (j : Nat) (sm : Int) (si lo hi : Int32) (hpr : pr ((j, sm) :: π) c) (hok : gm_ok (gr_n G) ((j, sm) :: π)) (hk : 8 ≤ k + (π.length + 1)) (hj : j < gr_n G) (hne : gm_near π sm) (hs : si.toInt = sm) (hb1 : -(9 * (π.length : Int)) ≤ sm) (hb2 : sm ≤ 9 * (π.length : Int)) (hlh : lo.toInt < hi.toInt) (hl1 : -1000000 ≤ lo.toInt) (hh1 : hi.toInt ≤ 1000000), Met l yX3_greatestPay wsX3_greatestPay (rm_ (2 * k + 6) 0 0) (ct_Pc en [.ref (ad 2), .int (nI j), .int (nI π.length), .int si, .int lo, .int hi] (fun H => H.size = sz ∧ va_P en.1 vwCl (xw en ad c) H)) (va_Qi (fun r c' => (-1000000 ≤ r.toInt ∧ r.toInt ≤ 1000000) ∧ ab lo.toInt hi.toInt (gm_mx (vl_l G k π j sm)) r.toInt ∧ kx [18, 19] c c' ∧ pr ((j, sm) :: π) c') (fun c' t => va_P en.1 vwCl (xw en ad c') t.heap) (xw_A ad sz)) 0 0 (xw_A ad sz)
def lp_C (l : Launch) (en : en_T) (ad : Nat → Nat) (k : Nat) : Prop := ∀ (c : Nat → Nat → Int32) (sz : Nat) {G : gr_T} (hg : gi G c) (hc : gr_cpl G) (π : List (Nat × Int)) (j : Nat) (sm : Int) (si lo hi : Int32) (hpr : pr ((j, sm) :: π) c) (hok : gm_ok (gr_n G) ((j, sm) :: π)) (hk : 8 ≤ k + (π.length + 1)) (hj : j < gr_n G) (hne : gm_near π sm) (hs : si.toInt = sm) (hb1 : -(9 * (π.length : Int)) ≤ sm) (hb2 : sm ≤ 9 * (π.length : Int)) (hlh : lo.toInt < hi.toInt) (hl1 : -1000000 ≤ lo.toInt) (hh1 : hi.toInt ≤ 1000000), Met l yX3_leastPay wsX3_leastPay (rm_ (2 * k + 6) 0 0) (ct_Pc en [.ref (ad 2), .int (nI j), .int (nI π.length), .int si, .int lo, .int hi] (fun H => H.size = sz ∧ va_P en.1 vwCl (xw en ad c) H)) (va_Qi (fun r c' => (-1000000 ≤ r.toInt ∧ r.toInt ≤ 1000000) ∧ ab lo.toInt hi.toInt (gm_mn (vl_l G k π j sm)) r.toInt ∧ kx [18, 19] c c' ∧ pr ((j, sm) :: π) c') (fun c' t => va_P en.1 vwCl (xw en ad c') t.heap) (xw_A ad sz)) 0 0 (xw_A ad sz)
theorem iw_X3_greatestPay_X3 : ∀ w ∈ wsX30, w ∈ wsX3_greatestPay := by decide +kernel
set_option maxHeartbeats 4000000 in
set_option maxRecDepth 100000 in
/--  -/
theorem ct_greatestPay (l : Launch) (en : en_T) (ad : Nat → Nat) (c : Nat → Nat → Int32) (hI : xw_I ad) (sz : Nat) (k : Nat) (pa : pa_C l en ad k) {G : gr_T} (hg : gi G c) (hc : gr_cpl G) (π : List (Nat × Int)) (j : Nat) (sm : Int) (si lo hi : Int32) (hpr : pr ((j, sm) :: π) c) (hok : gm_ok (gr_n G) ((j, sm) :: π)) (hk : 8 ≤ k + (π.length + 1)) (hj : j < gr_n G) (hne : gm_near π sm) (hs : si.toInt = sm) (hb1 : -(9 * (π.length : Int)) ≤ sm) (hb2 : sm ≤ 9 * (π.length : Int)) (hlh : lo.toInt < hi.toInt) (hl1 : -1000000 ≤ lo.toInt) (hh1 : hi.toInt ≤ 1000000) : Met l yX3_greatestPay wsX3_greatestPay (rm_ (2 * k + 6) 0 0) (ct_Pc en [.ref (ad 2), .int (nI j), .int (nI π.length), .int si, .int lo, .int hi] (fun H => H.size = sz ∧ va_P en.1 vwCl (xw en ad c) H)) (va_Qi (fun r c' => (-1000000 ≤ r.toInt ∧ r.toInt ≤ 1000000) ∧ ab lo.toInt hi.toInt (gm_mx (vl_l G k π j sm)) r.toInt ∧ kx [18, 19] c c' ∧ pr ((j, sm) :: π) c') (fun c' t => va_P en.1 vwCl (xw en ad c') t.heap) (xw_A ad sz)) 0 0 (xw_A ad sz) := by
  refine Met.ofW (cc := cX3_greatestPay) (maxL := 11) (ret := (some .int)) (by decide) rfl ?_
  intro p e s m args below meth co s₁ B hml hv
  obtain ⟨rfl, hE, hsz, hP⟩ := hv
  subst hsz
  have hx := B.exec
  have hb := B.bytes
  have hr := B.returns
  have hts := atoms_spec (ws := wsX3_greatestPay) B.pre
  have hown : s.vm.findClass RX3 = some m.cls := findClass_of_methodNamed B.named
  have hlocks := B.notSynchronized
  have hS : va_S (xw_A ad s.heap.size) s.heap s.heap [] := va_S.rf
  have hl := lv_entry ([.ref (ad 2), .int (nI j), .int (nI π.length), .int si, .int lo, .int hi]) (n := 11) (Nat.le_of_ble_eq_true rfl)
  rw [lg_entry_eq]
  generalize (lg_sl ([.ref (ad 2), .int (nI j), .int (nI π.length), .int si, .int lo, .int hi]) ++ List.replicate (11 - (lg_sl ([.ref (ad 2), .int (nI j), .int (nI π.length), .int si, .int lo, .int hi])).length) Slot.unset).toArray = ls at hl ⊢
  have hl : lv_has ls 11 [(0, .ref (ad 2)), (1, .int (nI j)), (2, .int (nI π.length)), (3, .int si), (4, .int lo), (5, .int hi)] := hl
  have hadl := gr_adj_len hg.ok j
  refine lv_ldc (own := RX3) (v := (-1000000)) hx hb hown (hts (.constant RX3 43 (-1000000)) (by decide +kernel)) dX3_greatestPay_0 ?_
  refine lv_istore (lv' := [(6, .int (-1000000)), (0, .ref (ad 2)), (1, .int (nI j)), (2, .int (nI π.length)), (3, .int si), (4, .int lo), (5, .int hi)]) hx hb dX3_greatestPay_2 hl (by decide) rfl (fun ls hl => ?_)
  refine lv_aload_n hx hb dX3_greatestPay_4 rfl (lv_at hl 1 rfl) ?_
  refine va_get (D := en.1) (ci := 3) (v := .ref (ad 1)) (C := RX3) (T := TX3) (N := 4) hx hb hts iw_X3_greatestPay_X3 hown hE.1 hP 2 rfl rfl 0 (by decide) (hts (.fieldLink RX3 26 "CreditGame$Values" "graph" "LCreditGame$Graph;") (by decide +kernel)) (fun _ h9 => h9) rfl dX3_greatestPay_5 ?_
  refine lv_iload_n hx hb dX3_greatestPay_8 rfl (lv_at hl 2 rfl) ?_
  refine ro_calli (va_runVN (As := [.int (nI j)]) (rest := []) ⟨hx, hb, hml, hown, hts⟩ (ct_waysFrom l en ad c hg j (by have := hg.n7; omega)) ⟨va_cnB 1 hts gX3_greatestPay_X1_waysFrom_n90 rfl rfl rfl (hE.2 _ (List.mem_of_getElem? (i := 45) rfl)) (hts (.initialized RX1) (by decide +kernel)) (by decide +kernel) ⟨by show 2 + 1 ≤ 2 * k + 6; omega, by show 8 + (2 + 11) + 40 * (2) ≤ 40 * (2 * k + 6); omega⟩, hts (.instanceMethod yX1_waysFrom) (by decide +kernel), hts (.selects RX1 yX1_waysFrom yX1_waysFrom) (by decide +kernel)⟩ (ct_preV hE (va_recv hE.1 hP (ci := 1) (q0 := 1) rfl rfl) hP) rfl rfl hl.1 rfl (lv_room (Nat.le_of_ble_eq_true rfl)) dX3_greatestPay_9 ⟨Nat.zero_le _, Nat.zero_le _⟩) (fun r9 w9 => ?_)
  obtain rfl : r9 = nI (gr_adj G j).length := w9
  refine lv_istore (lv' := [(7, .int (nI (gr_adj G j).length)), (6, .int (-1000000)), (0, .ref (ad 2)), (1, .int (nI j)), (2, .int (nI π.length)), (3, .int si), (4, .int lo), (5, .int hi)]) hx hb dX3_greatestPay_12 hl (by decide) rfl (fun ls hl => ?_)
  refine lv_iconst (v := (nI 0)) hx hb dX3_greatestPay_14 (by decide) ?_
  refine lv_istore (lv' := [(8, .int (nI 0)), (7, .int (nI (gr_adj G j).length)), (6, .int (-1000000)), (0, .ref (ad 2)), (1, .int (nI j)), (2, .int (nI π.length)), (3, .int si), (4, .int lo), (5, .int hi)]) hx hb dX3_greatestPay_15 hl (by decide) rfl (fun ls hl => ?_)
  have key17 : ∀ (n_ : Nat) (i : Nat) (pay : Int32) (c_ : Nat → Nat → Int32) (H : Heap) (locs : List Loc) (ls : Array Slot), i ≤ (gr_adj G j).length → (gr_adj G j).length + 1 ≤ i + n_ → gi G c_ → kx [18, 19] c c_ → pr ((j, sm) :: π) c_ → (-1000000 ≤ pay.toInt ∧ pay.toInt ≤ 1000000) → ab lo.toInt hi.toInt (gm_mx ((vl_l G k π j sm).take i)) pay.toInt → va_P en.1 vwCl (xw en ad c_) H → va_S (xw_A ad s.heap.size) s.heap H locs → lv_has ls 11 [(0, .ref (ad 2)), (1, .int (nI j)), (2, .int (nI π.length)), (3, .int si), (4, .int lo), (5, .int hi), (6, .int pay), (7, .int (nI (gr_adj G j).length)), (8, .int (nI i))] → W p l e (headSpec wsX3_greatestPay (rm_ (2 * k + 6) 0 0)).room s m ([.ref (ad 2), .int (nI j), .int (nI π.length), .int si, .int lo, .int hi] : List Value).toArray below meth co H locs 0 0 (MQ below (va_Qi (fun r c' => (-1000000 ≤ r.toInt ∧ r.toInt ≤ 1000000) ∧ ab lo.toInt hi.toInt (gm_mx (vl_l G k π j sm)) r.toInt ∧ kx [18, 19] c c' ∧ pr ((j, sm) :: π) c') (fun c' t => va_P en.1 vwCl (xw en ad c') t.heap) (xw_A ad s.heap.size)) ([.ref (ad 2), .int (nI j), .int (nI π.length), .int si, .int lo, .int hi] : List Value).toArray s 0 0 (xw_A ad s.heap.size)) (F0 m 17 ls []) := by
    intro n_
    induction n_ with
    | zero =>
      intro i pay c_ H locs ls hi_ hin hg hkc hpr hpb hab hP hS hl
      exact absurd hin (by omega)
    | succ n_ ih17 =>
      intro i pay c_ H locs ls hi_ hin hg hkc hpr hpb hab hP hS hl
      have hadl := gr_adj_len hg.ok j
      refine lv_iload hx hb dX3_greatestPay_17 (lv_at hl 8 rfl) ?_
      refine lv_iload hx hb dX3_greatestPay_19 (lv_at hl 7 rfl) ?_
      refine lv_icmp_ge (tgt := 96) hx hb dX3_greatestPay_21 (by decide) (fun b21 => ?_) (fun b21 => ?_)
      · skip
        have hin2 : i = (gr_adj G j).length := by
          rcases Nat.lt_or_ge i (gr_adj G j).length with q | q
          · exact absurd b21 (nI_ge q (by omega))
          · omega
        subst hin2
        rw [← vl_len G k π j sm, List.take_length] at hab
        refine lv_iload hx hb dX3_greatestPay_96 (lv_at hl 6 rfl) ?_
        exact W.iret (v := pay) hx hb hr (fun t ht hW => ⟨⟨_, c_, rfl, (by first | exact ⟨hpb, hab, hkc, hpr⟩ | exact ⟨hpb, ab_mx_end hlh hpay hab gm_mx_part, hkc, hpr⟩), by show va_P _ _ _ t.heap; rw [ht]; exact hP⟩, hS.F ht⟩) hS.2.2 dX3_greatestPay_98
      · skip
        have hlt : i < (gr_adj G j).length := by
          rcases Nat.lt_or_ge i (gr_adj G j).length with q | q
          · exact q
          · exact absurd (nI_le q (by omega)) b21
        have hm := gr_adj_at hg.ok hj hlt
        obtain ⟨x, hx_⟩ : ∃ z, z = (gr_adj G j).getD i 0 := ⟨_, rfl⟩
        rw [← hx_] at hm
        have hxE := (gr_adj_mem hg.ok hj hm).1
        have hx24 : x < 24 := by have := hg.e24; omega
        refine lv_iload hx hb dX3_greatestPay_24 (lv_at hl 6 rfl) ?_
        refine lv_iload hx hb dX3_greatestPay_26 (lv_at hl 5 rfl) ?_
        refine lv_icmp_ge (tgt := 96) hx hb dX3_greatestPay_28 (by decide) (fun b28 => ?_) (fun b28 => ?_)
        · skip
          have hpay := i_le.mp b28
          refine lv_iload hx hb dX3_greatestPay_96 (lv_at hl 6 rfl) ?_
          exact W.iret (v := pay) hx hb hr (fun t ht hW => ⟨⟨_, c_, rfl, (by first | exact ⟨hpb, hab, hkc, hpr⟩ | exact ⟨hpb, ab_mx_end hlh hpay hab gm_mx_part, hkc, hpr⟩), by show va_P _ _ _ t.heap; rw [ht]; exact hP⟩, hS.F ht⟩) hS.2.2 dX3_greatestPay_98
        · skip
          have hpay : ¬ _ := fun q => b28 (i_le.mpr q)
          refine lv_aload_n hx hb dX3_greatestPay_31 rfl (lv_at hl 0 rfl) ?_
          refine va_get (D := en.1) (ci := 3) (v := .ref (ad 1)) (C := RX3) (T := TX3) (N := 4) hx hb hts iw_X3_greatestPay_X3 hown hE.1 hP 2 rfl rfl 0 (by decide) (hts (.fieldLink RX3 26 "CreditGame$Values" "graph" "LCreditGame$Graph;") (by decide +kernel)) (fun _ h9 => h9) rfl dX3_greatestPay_32 ?_
          refine lv_iload_n hx hb dX3_greatestPay_35 rfl (lv_at hl 1 rfl) ?_
          refine lv_iload hx hb dX3_greatestPay_36 (lv_at hl 8 rfl) ?_
          refine ro_calli (va_runVN (As := [.int (nI j), .int (nI i)]) (rest := []) ⟨hx, hb, hml, hown, hts⟩ (ct_wayFrom l en ad c_ hg j i hj hlt) ⟨va_cnB 2 hts gX3_greatestPay_X1_wayFrom_n93 rfl rfl rfl (hE.2 _ (List.mem_of_getElem? (i := 46) rfl)) (hts (.initialized RX1) (by decide +kernel)) (by decide +kernel) ⟨by show 2 + 1 ≤ 2 * k + 6; omega, by show 8 + (3 + 11) + 40 * (2) ≤ 40 * (2 * k + 6); omega⟩, hts (.instanceMethod yX1_wayFrom) (by decide +kernel), hts (.selects RX1 yX1_wayFrom yX1_wayFrom) (by decide +kernel)⟩ (ct_preV hE (va_recv hE.1 hP (ci := 1) (q0 := 1) rfl rfl) hP) rfl rfl hl.1 rfl (lv_room (Nat.le_of_ble_eq_true rfl)) dX3_greatestPay_38 ⟨Nat.zero_le _, Nat.zero_le _⟩) (fun r38 w38 => ?_)
          obtain rfl : r38 = (nI x) := (w38.trans (by rw [hx_]))
          refine lv_istore (lv' := [(9, .int (nI x)), (0, .ref (ad 2)), (1, .int (nI j)), (2, .int (nI π.length)), (3, .int si), (4, .int lo), (5, .int hi), (6, .int pay), (7, .int (nI (gr_adj G j).length)), (8, .int (nI i))]) hx hb dX3_greatestPay_41 hl (by decide) rfl (fun ls hl => ?_)
          refine lv_aload_n hx hb dX3_greatestPay_43 rfl (lv_at hl 1 rfl) ?_
          refine va_get (D := en.1) (ci := 3) (v := .ref (ad 1)) (C := RX3) (T := TX3) (N := 4) hx hb hts iw_X3_greatestPay_X3 hown hE.1 hP 2 rfl rfl 0 (by decide) (hts (.fieldLink RX3 26 "CreditGame$Values" "graph" "LCreditGame$Graph;") (by decide +kernel)) (fun _ h9 => h9) rfl dX3_greatestPay_44 ?_
          refine lv_iload hx hb dX3_greatestPay_47 (lv_at hl 0 rfl) ?_
          refine ro_calli (va_runVN (As := [.int (nI x)]) (rest := []) ⟨hx, hb, hml, hown, hts⟩ (ct_targetOf l en ad c_ hg x hx24) ⟨va_cnB 1 hts gX3_greatestPay_X1_targetOf_n96 rfl rfl rfl (hE.2 _ (List.mem_of_getElem? (i := 47) rfl)) (hts (.initialized RX1) (by decide +kernel)) (by decide +kernel) ⟨by show 1 + 1 ≤ 2 * k + 6; omega, by show 8 + (2 + 11) + 40 * (1) ≤ 40 * (2 * k + 6); omega⟩, hts (.instanceMethod yX1_targetOf) (by decide +kernel), hts (.selects RX1 yX1_targetOf yX1_targetOf) (by decide +kernel)⟩ (ct_preV hE (va_recv hE.1 hP (ci := 1) (q0 := 1) rfl rfl) hP) rfl rfl hl.1 rfl (lv_room (Nat.le_of_ble_eq_true rfl)) dX3_greatestPay_49 ⟨Nat.zero_le _, Nat.zero_le _⟩) (fun r49 w49 => ?_)
          obtain rfl : r49 = (nI (gr_tgt G x)) := (w49.trans (gr_tgt_lt hg.ok hxE).2)
          refine lv_istore (lv' := [(10, .int (nI (gr_tgt G x))), (9, .int (nI x)), (0, .ref (ad 2)), (1, .int (nI j)), (2, .int (nI π.length)), (3, .int si), (4, .int lo), (5, .int hi), (6, .int pay), (7, .int (nI (gr_adj G j).length)), (8, .int (nI i))]) hx hb dX3_greatestPay_52 hl (by decide) rfl (fun ls hl => ?_)
          refine lv_iload hx hb dX3_greatestPay_54 (lv_at hl 8 rfl) ?_
          refine lv_aload_n hx hb dX3_greatestPay_56 rfl (lv_at hl 2 rfl) ?_
          refine lv_iload hx hb dX3_greatestPay_57 (lv_at hl 0 rfl) ?_
          refine lv_iload_n hx hb dX3_greatestPay_59 rfl (lv_at hl 4 rfl) ?_
          refine lv_iconst (v := 1) hx hb dX3_greatestPay_60 (by decide) ?_
          refine lv_iadd hx hb dX3_greatestPay_61 ?_
          refine lv_topi (fun z_61 ez_61 => ?_)
          obtain rfl : z_61 = (nI (π.length + 1)) := (ez_61.trans (nI_1 _))
          refine lv_iload_n hx hb dX3_greatestPay_62 rfl (lv_at hl 5 rfl) ?_
          refine lv_aload_n hx hb dX3_greatestPay_63 rfl (lv_at hl 2 rfl) ?_
          refine va_get (D := en.1) (ci := 3) (v := .ref (ad 1)) (C := RX3) (T := TX3) (N := 4) hx hb hts iw_X3_greatestPay_X3 hown hE.1 hP 2 rfl rfl 0 (by decide) (hts (.fieldLink RX3 26 "CreditGame$Values" "graph" "LCreditGame$Graph;") (by decide +kernel)) (fun _ h9 => h9) rfl dX3_greatestPay_64 ?_
          refine lv_iload hx hb dX3_greatestPay_67 (lv_at hl 1 rfl) ?_
          refine ro_calli (va_runVN (As := [.int (nI x)]) (rest := [.int si, .int (nI (π.length + 1)), .int (nI (gr_tgt G x)), .ref (ad 2), .int pay]) ⟨hx, hb, hml, hown, hts⟩ (ct_weightOf l en ad c_ hg x hx24) ⟨va_cnB 1 hts gX3_greatestPay_X1_weightOf_n99 rfl rfl rfl (hE.2 _ (List.mem_of_getElem? (i := 48) rfl)) (hts (.initialized RX1) (by decide +kernel)) (by decide +kernel) ⟨by show 1 + 1 ≤ 2 * k + 6; omega, by show 8 + (2 + 11) + 40 * (1) ≤ 40 * (2 * k + 6); omega⟩, hts (.instanceMethod yX1_weightOf) (by decide +kernel), hts (.selects RX1 yX1_weightOf yX1_weightOf) (by decide +kernel)⟩ (ct_preV hE (va_recv hE.1 hP (ci := 1) (q0 := 1) rfl rfl) hP) rfl rfl hl.1 rfl (lv_room (Nat.le_of_ble_eq_true rfl)) dX3_greatestPay_69 ⟨Nat.zero_le _, Nat.zero_le _⟩) (fun r69 w69 => ?_)
          obtain rfl : r69 = (gr_wt G x) := w69
          refine lv_iadd hx hb dX3_greatestPay_72 ?_
          refine lv_topi (fun s1 hs1 => ?_)
          have hw9 := (hg.ok.ed x hxE).2.2
          have hs1i : s1.toInt = sm + gr_w G x := by
            rw [hs1, gr_w_eq hxE, i_add (by rw [hs]; have := gm_ok_len hok; have := hg.n7; simp only [List.length_cons] at *; omega) (by rw [hs]; have := gm_ok_len hok; have := hg.n7; simp only [List.length_cons] at *; omega), hs]
          rw [← gr_w_eq hxE] at hw9
          refine lv_iload hx hb dX3_greatestPay_73 (lv_at hl 6 rfl) ?_
          refine lv_iload hx hb dX3_greatestPay_75 (lv_at hl 8 rfl) ?_
          refine va_mmax hx hb (hml.trans hl.1.symm) (own := RX3) hown (hts (.methodLink RX3 102 Lib.Math.max.name) (by decide +kernel)) (hts (.static Lib.Math.max.name) (by decide +kernel)) (hts (.initialized "java/lang/Math") (by decide +kernel)) (hts (.code Lib.Math.max.name Lib.Math.max.code 2 (some .int)) (by decide +kernel)) (by show 1 ≤ 2 * k + 6; omega) (Nat.le_trans (Nat.le_of_ble_eq_true rfl : _ ≤ 40) (by show 40 ≤ 40 * (2 * k + 6); omega)) (Nat.zero_le _) (Nat.zero_le _) dX3_greatestPay_77 ?_
          refine lv_topi (fun lo1 hlo1 => ?_)
          refine lv_iload hx hb dX3_greatestPay_80 (lv_at hl 7 rfl) ?_
          refine xr_calli (va_runV (As := [.int (nI (gr_tgt G x)), .int (nI (π.length + 1)), .int s1, .int lo1, .int hi]) (rest := [.int pay]) ⟨hx, hb, hml, hown, hts⟩ (pa c_ _ hg hc ((j, sm) :: π) (gr_tgt G x) (sm + gr_w G x) s1 lo1 hi hpr hok (by simp only [List.length_cons]; omega) (gr_tgt_lt hg.ok hxE).1 (gm_near_push hne hw9.1 hw9.2) hs1i (by simp only [List.length_cons]; omega) (by simp only [List.length_cons]; omega) (by rw [hlo1, i_max]; omega) (by first | (rw [hlo1, i_max]; omega) | omega) (by first | (rw [hlo1, i_max]; omega) | omega)) (cwV 5 hts gX3_greatestPay_X3_playAt rfl rfl rfl (by decide +kernel) ⟨by show 2 * k + 5 + 1 ≤ 2 * k + 6; omega, by show 8 + (7 + 11) + 40 * (2 * k + 5) ≤ 40 * (2 * k + 6); omega⟩) (ct_preV hE (va_recv hE.1 hP (ci := 3) (q0 := 2) rfl rfl) ⟨rfl, hP⟩) rfl rfl hl.1 rfl (lv_room (Nat.le_of_ble_eq_true rfl)) dX3_greatestPay_82 ⟨Nat.zero_le _, Nat.zero_le _⟩) hS (fun r82 c82 H locs w82 hP hS => ?_)
          refine va_mmax hx hb (hml.trans hl.1.symm) (own := RX3) hown (hts (.methodLink RX3 102 Lib.Math.max.name) (by decide +kernel)) (hts (.static Lib.Math.max.name) (by decide +kernel)) (hts (.initialized "java/lang/Math") (by decide +kernel)) (hts (.code Lib.Math.max.name Lib.Math.max.code 2 (some .int)) (by decide +kernel)) (by show 1 ≤ 2 * k + 6; omega) (Nat.le_trans (Nat.le_of_ble_eq_true rfl : _ ≤ 40) (by show 40 ≤ 40 * (2 * k + 6); omega)) (Nat.zero_le _) (Nat.zero_le _) dX3_greatestPay_85 ?_
          refine lv_topi (fun pay1 hpay1 => ?_)
          refine lv_istore (lv' := [(6, .int pay1), (10, .int (nI (gr_tgt G x))), (9, .int (nI x)), (0, .ref (ad 2)), (1, .int (nI j)), (2, .int (nI π.length)), (3, .int si), (4, .int lo), (5, .int hi), (7, .int (nI (gr_adj G j).length)), (8, .int (nI i))]) hx hb dX3_greatestPay_88 hl (by decide) rfl (fun ls hl => ?_)
          refine lv_iinc (v := (nI (i + 1))) (lv' := [(8, .int (nI (i + 1))), (6, .int pay1), (10, .int (nI (gr_tgt G x))), (9, .int (nI x)), (0, .ref (ad 2)), (1, .int (nI j)), (2, .int (nI π.length)), (3, .int si), (4, .int lo), (5, .int hi), (7, .int (nI (gr_adj G j).length))]) hx hb dX3_greatestPay_90 hl (k := 10) rfl (nI_1 _) (by decide) rfl (fun ls hl => ?_)
          refine lv_goto (tgt := 17) hx hb dX3_greatestPay_93 (by decide) ?_
          exact ih17 (i + 1) pay1 c82 _ _ _ (by omega) (by omega) (hg.kx w82.2.2.1 (kx_12 rfl)) (hkc.tr w82.2.2.1) w82.2.2.2 (by rw [hpay1, i_max]; omega) (by rw [vl_mx_next hg.ok hc hk hok hj hne hlt, ← hx_]; exact ab_mx (lo1 := lo1.toInt) hlh (by omega) hab (by rw [hlo1, i_max]) w82.2.1 (by rw [hpay1, i_max])) hP hS (lv_sub hl [4, 5, 6, 7, 8, 9, 1, 10, 0] rfl)
  exact key17 ((gr_adj G j).length + 1) 0 (-1000000) c _ _ _ (Nat.zero_le _) (by omega) hg kx.rf hpr (by decide) (by rw [List.take_zero]; show ab _ _ ((-1000000)) ((-1000000) : Int32).toInt; rw [i_lo]; exact ab_rf) hP hS (lv_sub hl [3, 4, 5, 6, 7, 8, 2, 1, 0] rfl)
theorem iw_X3_leastPay_X3 : ∀ w ∈ wsX30, w ∈ wsX3_leastPay := by decide +kernel
set_option maxHeartbeats 4000000 in
set_option maxRecDepth 100000 in
/--  -/
theorem ct_leastPay (l : Launch) (en : en_T) (ad : Nat → Nat) (c : Nat → Nat → Int32) (hI : xw_I ad) (sz : Nat) (k : Nat) (pa : pa_C l en ad k) {G : gr_T} (hg : gi G c) (hc : gr_cpl G) (π : List (Nat × Int)) (j : Nat) (sm : Int) (si lo hi : Int32) (hpr : pr ((j, sm) :: π) c) (hok : gm_ok (gr_n G) ((j, sm) :: π)) (hk : 8 ≤ k + (π.length + 1)) (hj : j < gr_n G) (hne : gm_near π sm) (hs : si.toInt = sm) (hb1 : -(9 * (π.length : Int)) ≤ sm) (hb2 : sm ≤ 9 * (π.length : Int)) (hlh : lo.toInt < hi.toInt) (hl1 : -1000000 ≤ lo.toInt) (hh1 : hi.toInt ≤ 1000000) : Met l yX3_leastPay wsX3_leastPay (rm_ (2 * k + 6) 0 0) (ct_Pc en [.ref (ad 2), .int (nI j), .int (nI π.length), .int si, .int lo, .int hi] (fun H => H.size = sz ∧ va_P en.1 vwCl (xw en ad c) H)) (va_Qi (fun r c' => (-1000000 ≤ r.toInt ∧ r.toInt ≤ 1000000) ∧ ab lo.toInt hi.toInt (gm_mn (vl_l G k π j sm)) r.toInt ∧ kx [18, 19] c c' ∧ pr ((j, sm) :: π) c') (fun c' t => va_P en.1 vwCl (xw en ad c') t.heap) (xw_A ad sz)) 0 0 (xw_A ad sz) := by
  refine Met.ofW (cc := cX3_leastPay) (maxL := 11) (ret := (some .int)) (by decide) rfl ?_
  intro p e s m args below meth co s₁ B hml hv
  obtain ⟨rfl, hE, hsz, hP⟩ := hv
  subst hsz
  have hx := B.exec
  have hb := B.bytes
  have hr := B.returns
  have hts := atoms_spec (ws := wsX3_leastPay) B.pre
  have hown : s.vm.findClass RX3 = some m.cls := findClass_of_methodNamed B.named
  have hlocks := B.notSynchronized
  have hS : va_S (xw_A ad s.heap.size) s.heap s.heap [] := va_S.rf
  have hl := lv_entry ([.ref (ad 2), .int (nI j), .int (nI π.length), .int si, .int lo, .int hi]) (n := 11) (Nat.le_of_ble_eq_true rfl)
  rw [lg_entry_eq]
  generalize (lg_sl ([.ref (ad 2), .int (nI j), .int (nI π.length), .int si, .int lo, .int hi]) ++ List.replicate (11 - (lg_sl ([.ref (ad 2), .int (nI j), .int (nI π.length), .int si, .int lo, .int hi])).length) Slot.unset).toArray = ls at hl ⊢
  have hl : lv_has ls 11 [(0, .ref (ad 2)), (1, .int (nI j)), (2, .int (nI π.length)), (3, .int si), (4, .int lo), (5, .int hi)] := hl
  have hadl := gr_adj_len hg.ok j
  refine lv_ldc (own := RX3) (v := 1000000) hx hb hown (hts (.constant RX3 44 (1000000)) (by decide +kernel)) dX3_leastPay_0 ?_
  refine lv_istore (lv' := [(6, .int 1000000), (0, .ref (ad 2)), (1, .int (nI j)), (2, .int (nI π.length)), (3, .int si), (4, .int lo), (5, .int hi)]) hx hb dX3_leastPay_2 hl (by decide) rfl (fun ls hl => ?_)
  refine lv_aload_n hx hb dX3_leastPay_4 rfl (lv_at hl 1 rfl) ?_
  refine va_get (D := en.1) (ci := 3) (v := .ref (ad 1)) (C := RX3) (T := TX3) (N := 4) hx hb hts iw_X3_leastPay_X3 hown hE.1 hP 2 rfl rfl 0 (by decide) (hts (.fieldLink RX3 26 "CreditGame$Values" "graph" "LCreditGame$Graph;") (by decide +kernel)) (fun _ h9 => h9) rfl dX3_leastPay_5 ?_
  refine lv_iload_n hx hb dX3_leastPay_8 rfl (lv_at hl 2 rfl) ?_
  refine ro_calli (va_runVN (As := [.int (nI j)]) (rest := []) ⟨hx, hb, hml, hown, hts⟩ (ct_waysFrom l en ad c hg j (by have := hg.n7; omega)) ⟨va_cnB 1 hts gX3_leastPay_X1_waysFrom_n90 rfl rfl rfl (hE.2 _ (List.mem_of_getElem? (i := 45) rfl)) (hts (.initialized RX1) (by decide +kernel)) (by decide +kernel) ⟨by show 2 + 1 ≤ 2 * k + 6; omega, by show 8 + (2 + 11) + 40 * (2) ≤ 40 * (2 * k + 6); omega⟩, hts (.instanceMethod yX1_waysFrom) (by decide +kernel), hts (.selects RX1 yX1_waysFrom yX1_waysFrom) (by decide +kernel)⟩ (ct_preV hE (va_recv hE.1 hP (ci := 1) (q0 := 1) rfl rfl) hP) rfl rfl hl.1 rfl (lv_room (Nat.le_of_ble_eq_true rfl)) dX3_leastPay_9 ⟨Nat.zero_le _, Nat.zero_le _⟩) (fun r9 w9 => ?_)
  obtain rfl : r9 = nI (gr_adj G j).length := w9
  refine lv_istore (lv' := [(7, .int (nI (gr_adj G j).length)), (6, .int 1000000), (0, .ref (ad 2)), (1, .int (nI j)), (2, .int (nI π.length)), (3, .int si), (4, .int lo), (5, .int hi)]) hx hb dX3_leastPay_12 hl (by decide) rfl (fun ls hl => ?_)
  refine lv_iconst (v := (nI 0)) hx hb dX3_leastPay_14 (by decide) ?_
  refine lv_istore (lv' := [(8, .int (nI 0)), (7, .int (nI (gr_adj G j).length)), (6, .int 1000000), (0, .ref (ad 2)), (1, .int (nI j)), (2, .int (nI π.length)), (3, .int si), (4, .int lo), (5, .int hi)]) hx hb dX3_leastPay_15 hl (by decide) rfl (fun ls hl => ?_)
  have key17 : ∀ (n_ : Nat) (i : Nat) (pay : Int32) (c_ : Nat → Nat → Int32) (H : Heap) (locs : List Loc) (ls : Array Slot), i ≤ (gr_adj G j).length → (gr_adj G j).length + 1 ≤ i + n_ → gi G c_ → kx [18, 19] c c_ → pr ((j, sm) :: π) c_ → (-1000000 ≤ pay.toInt ∧ pay.toInt ≤ 1000000) → ab lo.toInt hi.toInt (gm_mn ((vl_l G k π j sm).take i)) pay.toInt → va_P en.1 vwCl (xw en ad c_) H → va_S (xw_A ad s.heap.size) s.heap H locs → lv_has ls 11 [(0, .ref (ad 2)), (1, .int (nI j)), (2, .int (nI π.length)), (3, .int si), (4, .int lo), (5, .int hi), (6, .int pay), (7, .int (nI (gr_adj G j).length)), (8, .int (nI i))] → W p l e (headSpec wsX3_leastPay (rm_ (2 * k + 6) 0 0)).room s m ([.ref (ad 2), .int (nI j), .int (nI π.length), .int si, .int lo, .int hi] : List Value).toArray below meth co H locs 0 0 (MQ below (va_Qi (fun r c' => (-1000000 ≤ r.toInt ∧ r.toInt ≤ 1000000) ∧ ab lo.toInt hi.toInt (gm_mn (vl_l G k π j sm)) r.toInt ∧ kx [18, 19] c c' ∧ pr ((j, sm) :: π) c') (fun c' t => va_P en.1 vwCl (xw en ad c') t.heap) (xw_A ad s.heap.size)) ([.ref (ad 2), .int (nI j), .int (nI π.length), .int si, .int lo, .int hi] : List Value).toArray s 0 0 (xw_A ad s.heap.size)) (F0 m 17 ls []) := by
    intro n_
    induction n_ with
    | zero =>
      intro i pay c_ H locs ls hi_ hin hg hkc hpr hpb hab hP hS hl
      exact absurd hin (by omega)
    | succ n_ ih17 =>
      intro i pay c_ H locs ls hi_ hin hg hkc hpr hpb hab hP hS hl
      have hadl := gr_adj_len hg.ok j
      refine lv_iload hx hb dX3_leastPay_17 (lv_at hl 8 rfl) ?_
      refine lv_iload hx hb dX3_leastPay_19 (lv_at hl 7 rfl) ?_
      refine lv_icmp_ge (tgt := 96) hx hb dX3_leastPay_21 (by decide) (fun b21 => ?_) (fun b21 => ?_)
      · skip
        have hin2 : i = (gr_adj G j).length := by
          rcases Nat.lt_or_ge i (gr_adj G j).length with q | q
          · exact absurd b21 (nI_ge q (by omega))
          · omega
        subst hin2
        rw [← vl_len G k π j sm, List.take_length] at hab
        refine lv_iload hx hb dX3_leastPay_96 (lv_at hl 6 rfl) ?_
        exact W.iret (v := pay) hx hb hr (fun t ht hW => ⟨⟨_, c_, rfl, (by first | exact ⟨hpb, hab, hkc, hpr⟩ | exact ⟨hpb, ab_mn_end hlh hpay hab gm_mn_part, hkc, hpr⟩), by show va_P _ _ _ t.heap; rw [ht]; exact hP⟩, hS.F ht⟩) hS.2.2 dX3_leastPay_98
      · skip
        have hlt : i < (gr_adj G j).length := by
          rcases Nat.lt_or_ge i (gr_adj G j).length with q | q
          · exact q
          · exact absurd (nI_le q (by omega)) b21
        have hm := gr_adj_at hg.ok hj hlt
        obtain ⟨x, hx_⟩ : ∃ z, z = (gr_adj G j).getD i 0 := ⟨_, rfl⟩
        rw [← hx_] at hm
        have hxE := (gr_adj_mem hg.ok hj hm).1
        have hx24 : x < 24 := by have := hg.e24; omega
        refine lv_iload hx hb dX3_leastPay_24 (lv_at hl 6 rfl) ?_
        refine lv_iload hx hb dX3_leastPay_26 (lv_at hl 4 rfl) ?_
        refine lv_icmp_le (tgt := 96) hx hb dX3_leastPay_28 (by decide) (fun b28 => ?_) (fun b28 => ?_)
        · skip
          have hpay := i_le.mp b28
          refine lv_iload hx hb dX3_leastPay_96 (lv_at hl 6 rfl) ?_
          exact W.iret (v := pay) hx hb hr (fun t ht hW => ⟨⟨_, c_, rfl, (by first | exact ⟨hpb, hab, hkc, hpr⟩ | exact ⟨hpb, ab_mn_end hlh hpay hab gm_mn_part, hkc, hpr⟩), by show va_P _ _ _ t.heap; rw [ht]; exact hP⟩, hS.F ht⟩) hS.2.2 dX3_leastPay_98
        · skip
          have hpay : ¬ _ := fun q => b28 (i_le.mpr q)
          refine lv_aload_n hx hb dX3_leastPay_31 rfl (lv_at hl 0 rfl) ?_
          refine va_get (D := en.1) (ci := 3) (v := .ref (ad 1)) (C := RX3) (T := TX3) (N := 4) hx hb hts iw_X3_leastPay_X3 hown hE.1 hP 2 rfl rfl 0 (by decide) (hts (.fieldLink RX3 26 "CreditGame$Values" "graph" "LCreditGame$Graph;") (by decide +kernel)) (fun _ h9 => h9) rfl dX3_leastPay_32 ?_
          refine lv_iload_n hx hb dX3_leastPay_35 rfl (lv_at hl 1 rfl) ?_
          refine lv_iload hx hb dX3_leastPay_36 (lv_at hl 8 rfl) ?_
          refine ro_calli (va_runVN (As := [.int (nI j), .int (nI i)]) (rest := []) ⟨hx, hb, hml, hown, hts⟩ (ct_wayFrom l en ad c_ hg j i hj hlt) ⟨va_cnB 2 hts gX3_leastPay_X1_wayFrom_n93 rfl rfl rfl (hE.2 _ (List.mem_of_getElem? (i := 46) rfl)) (hts (.initialized RX1) (by decide +kernel)) (by decide +kernel) ⟨by show 2 + 1 ≤ 2 * k + 6; omega, by show 8 + (3 + 11) + 40 * (2) ≤ 40 * (2 * k + 6); omega⟩, hts (.instanceMethod yX1_wayFrom) (by decide +kernel), hts (.selects RX1 yX1_wayFrom yX1_wayFrom) (by decide +kernel)⟩ (ct_preV hE (va_recv hE.1 hP (ci := 1) (q0 := 1) rfl rfl) hP) rfl rfl hl.1 rfl (lv_room (Nat.le_of_ble_eq_true rfl)) dX3_leastPay_38 ⟨Nat.zero_le _, Nat.zero_le _⟩) (fun r38 w38 => ?_)
          obtain rfl : r38 = (nI x) := (w38.trans (by rw [hx_]))
          refine lv_istore (lv' := [(9, .int (nI x)), (0, .ref (ad 2)), (1, .int (nI j)), (2, .int (nI π.length)), (3, .int si), (4, .int lo), (5, .int hi), (6, .int pay), (7, .int (nI (gr_adj G j).length)), (8, .int (nI i))]) hx hb dX3_leastPay_41 hl (by decide) rfl (fun ls hl => ?_)
          refine lv_aload_n hx hb dX3_leastPay_43 rfl (lv_at hl 1 rfl) ?_
          refine va_get (D := en.1) (ci := 3) (v := .ref (ad 1)) (C := RX3) (T := TX3) (N := 4) hx hb hts iw_X3_leastPay_X3 hown hE.1 hP 2 rfl rfl 0 (by decide) (hts (.fieldLink RX3 26 "CreditGame$Values" "graph" "LCreditGame$Graph;") (by decide +kernel)) (fun _ h9 => h9) rfl dX3_leastPay_44 ?_
          refine lv_iload hx hb dX3_leastPay_47 (lv_at hl 0 rfl) ?_
          refine ro_calli (va_runVN (As := [.int (nI x)]) (rest := []) ⟨hx, hb, hml, hown, hts⟩ (ct_targetOf l en ad c_ hg x hx24) ⟨va_cnB 1 hts gX3_leastPay_X1_targetOf_n96 rfl rfl rfl (hE.2 _ (List.mem_of_getElem? (i := 47) rfl)) (hts (.initialized RX1) (by decide +kernel)) (by decide +kernel) ⟨by show 1 + 1 ≤ 2 * k + 6; omega, by show 8 + (2 + 11) + 40 * (1) ≤ 40 * (2 * k + 6); omega⟩, hts (.instanceMethod yX1_targetOf) (by decide +kernel), hts (.selects RX1 yX1_targetOf yX1_targetOf) (by decide +kernel)⟩ (ct_preV hE (va_recv hE.1 hP (ci := 1) (q0 := 1) rfl rfl) hP) rfl rfl hl.1 rfl (lv_room (Nat.le_of_ble_eq_true rfl)) dX3_leastPay_49 ⟨Nat.zero_le _, Nat.zero_le _⟩) (fun r49 w49 => ?_)
          obtain rfl : r49 = (nI (gr_tgt G x)) := (w49.trans (gr_tgt_lt hg.ok hxE).2)
          refine lv_istore (lv' := [(10, .int (nI (gr_tgt G x))), (9, .int (nI x)), (0, .ref (ad 2)), (1, .int (nI j)), (2, .int (nI π.length)), (3, .int si), (4, .int lo), (5, .int hi), (6, .int pay), (7, .int (nI (gr_adj G j).length)), (8, .int (nI i))]) hx hb dX3_leastPay_52 hl (by decide) rfl (fun ls hl => ?_)
          refine lv_iload hx hb dX3_leastPay_54 (lv_at hl 8 rfl) ?_
          refine lv_aload_n hx hb dX3_leastPay_56 rfl (lv_at hl 2 rfl) ?_
          refine lv_iload hx hb dX3_leastPay_57 (lv_at hl 0 rfl) ?_
          refine lv_iload_n hx hb dX3_leastPay_59 rfl (lv_at hl 4 rfl) ?_
          refine lv_iconst (v := 1) hx hb dX3_leastPay_60 (by decide) ?_
          refine lv_iadd hx hb dX3_leastPay_61 ?_
          refine lv_topi (fun z_61 ez_61 => ?_)
          obtain rfl : z_61 = (nI (π.length + 1)) := (ez_61.trans (nI_1 _))
          refine lv_iload_n hx hb dX3_leastPay_62 rfl (lv_at hl 5 rfl) ?_
          refine lv_aload_n hx hb dX3_leastPay_63 rfl (lv_at hl 2 rfl) ?_
          refine va_get (D := en.1) (ci := 3) (v := .ref (ad 1)) (C := RX3) (T := TX3) (N := 4) hx hb hts iw_X3_leastPay_X3 hown hE.1 hP 2 rfl rfl 0 (by decide) (hts (.fieldLink RX3 26 "CreditGame$Values" "graph" "LCreditGame$Graph;") (by decide +kernel)) (fun _ h9 => h9) rfl dX3_leastPay_64 ?_
          refine lv_iload hx hb dX3_leastPay_67 (lv_at hl 1 rfl) ?_
          refine ro_calli (va_runVN (As := [.int (nI x)]) (rest := [.int si, .int (nI (π.length + 1)), .int (nI (gr_tgt G x)), .ref (ad 2), .int pay]) ⟨hx, hb, hml, hown, hts⟩ (ct_weightOf l en ad c_ hg x hx24) ⟨va_cnB 1 hts gX3_leastPay_X1_weightOf_n99 rfl rfl rfl (hE.2 _ (List.mem_of_getElem? (i := 48) rfl)) (hts (.initialized RX1) (by decide +kernel)) (by decide +kernel) ⟨by show 1 + 1 ≤ 2 * k + 6; omega, by show 8 + (2 + 11) + 40 * (1) ≤ 40 * (2 * k + 6); omega⟩, hts (.instanceMethod yX1_weightOf) (by decide +kernel), hts (.selects RX1 yX1_weightOf yX1_weightOf) (by decide +kernel)⟩ (ct_preV hE (va_recv hE.1 hP (ci := 1) (q0 := 1) rfl rfl) hP) rfl rfl hl.1 rfl (lv_room (Nat.le_of_ble_eq_true rfl)) dX3_leastPay_69 ⟨Nat.zero_le _, Nat.zero_le _⟩) (fun r69 w69 => ?_)
          obtain rfl : r69 = (gr_wt G x) := w69
          refine lv_iadd hx hb dX3_leastPay_72 ?_
          refine lv_topi (fun s1 hs1 => ?_)
          have hw9 := (hg.ok.ed x hxE).2.2
          have hs1i : s1.toInt = sm + gr_w G x := by
            rw [hs1, gr_w_eq hxE, i_add (by rw [hs]; have := gm_ok_len hok; have := hg.n7; simp only [List.length_cons] at *; omega) (by rw [hs]; have := gm_ok_len hok; have := hg.n7; simp only [List.length_cons] at *; omega), hs]
          rw [← gr_w_eq hxE] at hw9
          refine lv_iload hx hb dX3_leastPay_73 (lv_at hl 6 rfl) ?_
          refine lv_iload hx hb dX3_leastPay_75 (lv_at hl 7 rfl) ?_
          refine lv_iload hx hb dX3_leastPay_77 (lv_at hl 8 rfl) ?_
          refine va_mmin hx hb (hml.trans hl.1.symm) (own := RX3) hown (hts (.methodLink RX3 107 Lib.Math.min.name) (by decide +kernel)) (hts (.static Lib.Math.min.name) (by decide +kernel)) (hts (.initialized "java/lang/Math") (by decide +kernel)) (hts (.code Lib.Math.min.name Lib.Math.min.code 2 (some .int)) (by decide +kernel)) (by show 1 ≤ 2 * k + 6; omega) (Nat.le_trans (Nat.le_of_ble_eq_true rfl : _ ≤ 40) (by show 40 ≤ 40 * (2 * k + 6); omega)) (Nat.zero_le _) (Nat.zero_le _) dX3_leastPay_79 ?_
          refine lv_topi (fun lo1 hlo1 => ?_)
          refine xr_calli (va_runV (As := [.int (nI (gr_tgt G x)), .int (nI (π.length + 1)), .int s1, .int lo, .int lo1]) (rest := [.int pay]) ⟨hx, hb, hml, hown, hts⟩ (pa c_ _ hg hc ((j, sm) :: π) (gr_tgt G x) (sm + gr_w G x) s1 lo lo1 hpr hok (by simp only [List.length_cons]; omega) (gr_tgt_lt hg.ok hxE).1 (gm_near_push hne hw9.1 hw9.2) hs1i (by simp only [List.length_cons]; omega) (by simp only [List.length_cons]; omega) (by rw [hlo1, i_min]; omega) (by first | (rw [hlo1, i_min]; omega) | omega) (by first | (rw [hlo1, i_min]; omega) | omega)) (cwV 5 hts gX3_leastPay_X3_playAt rfl rfl rfl (by decide +kernel) ⟨by show 2 * k + 5 + 1 ≤ 2 * k + 6; omega, by show 8 + (7 + 11) + 40 * (2 * k + 5) ≤ 40 * (2 * k + 6); omega⟩) (ct_preV hE (va_recv hE.1 hP (ci := 3) (q0 := 2) rfl rfl) ⟨rfl, hP⟩) rfl rfl hl.1 rfl (lv_room (Nat.le_of_ble_eq_true rfl)) dX3_leastPay_82 ⟨Nat.zero_le _, Nat.zero_le _⟩) hS (fun r82 c82 H locs w82 hP hS => ?_)
          refine va_mmin hx hb (hml.trans hl.1.symm) (own := RX3) hown (hts (.methodLink RX3 107 Lib.Math.min.name) (by decide +kernel)) (hts (.static Lib.Math.min.name) (by decide +kernel)) (hts (.initialized "java/lang/Math") (by decide +kernel)) (hts (.code Lib.Math.min.name Lib.Math.min.code 2 (some .int)) (by decide +kernel)) (by show 1 ≤ 2 * k + 6; omega) (Nat.le_trans (Nat.le_of_ble_eq_true rfl : _ ≤ 40) (by show 40 ≤ 40 * (2 * k + 6); omega)) (Nat.zero_le _) (Nat.zero_le _) dX3_leastPay_85 ?_
          refine lv_topi (fun pay1 hpay1 => ?_)
          refine lv_istore (lv' := [(6, .int pay1), (10, .int (nI (gr_tgt G x))), (9, .int (nI x)), (0, .ref (ad 2)), (1, .int (nI j)), (2, .int (nI π.length)), (3, .int si), (4, .int lo), (5, .int hi), (7, .int (nI (gr_adj G j).length)), (8, .int (nI i))]) hx hb dX3_leastPay_88 hl (by decide) rfl (fun ls hl => ?_)
          refine lv_iinc (v := (nI (i + 1))) (lv' := [(8, .int (nI (i + 1))), (6, .int pay1), (10, .int (nI (gr_tgt G x))), (9, .int (nI x)), (0, .ref (ad 2)), (1, .int (nI j)), (2, .int (nI π.length)), (3, .int si), (4, .int lo), (5, .int hi), (7, .int (nI (gr_adj G j).length))]) hx hb dX3_leastPay_90 hl (k := 10) rfl (nI_1 _) (by decide) rfl (fun ls hl => ?_)
          refine lv_goto (tgt := 17) hx hb dX3_leastPay_93 (by decide) ?_
          exact ih17 (i + 1) pay1 c82 _ _ _ (by omega) (by omega) (hg.kx w82.2.2.1 (kx_12 rfl)) (hkc.tr w82.2.2.1) w82.2.2.2 (by rw [hpay1, i_min]; omega) (by rw [vl_mn_next hg.ok hc hk hok hj hne hlt, ← hx_]; exact ab_mn (hi1 := lo1.toInt) hlh (by omega) hab (by rw [hlo1, i_min]) w82.2.1 (by rw [hpay1, i_min])) hP hS (lv_sub hl [4, 5, 6, 7, 8, 9, 1, 10, 0] rfl)
  exact key17 ((gr_adj G j).length + 1) 0 1000000 c _ _ _ (Nat.zero_le _) (by omega) hg kx.rf hpr (by decide) (by rw [List.take_zero]; show ab _ _ (1000000) (1000000 : Int32).toInt; rw [i_hi]; exact ab_rf) hP hS (lv_sub hl [3, 4, 5, 6, 7, 8, 2, 1, 0] rfl)
theorem iw_X3_playAt_X3 : ∀ w ∈ wsX30, w ∈ wsX3_playAt := by decide +kernel
set_option maxHeartbeats 4000000 in
set_option maxRecDepth 100000 in
/--  -/
theorem ct_playAt_step (l : Launch) (en : en_T) (ad : Nat → Nat) (c : Nat → Nat → Int32) (hI : xw_I ad) (sz : Nat) (k : Nat) (gp : gp_C l en ad k) (lp : lp_C l en ad k) {G : gr_T} (hg : gi G c) (hc : gr_cpl G) (π : List (Nat × Int)) (j : Nat) (sm : Int) (si lo hi : Int32) (hpr : pr π c) (hok : gm_ok (gr_n G) π) (hk : 8 ≤ (k + 1) + π.length) (hj : j < gr_n G) (hne : gm_near π sm) (hs : si.toInt = sm) (hb1 : -(9 * (π.length : Int)) ≤ sm) (hb2 : sm ≤ 9 * (π.length : Int)) (hlh : lo.toInt < hi.toInt) (hl1 : -1000000 ≤ lo.toInt) (hh1 : hi.toInt ≤ 1000000) : Met l yX3_playAt wsX3_playAt (rm_ (2 * (k + 1) + 5) 0 0) (ct_Pc en [.ref (ad 2), .int (nI j), .int (nI π.length), .int si, .int lo, .int hi] (fun H => H.size = sz ∧ va_P en.1 vwCl (xw en ad c) H)) (va_Qi (fun r c' => (-1000000 ≤ r.toInt ∧ r.toInt ≤ 1000000) ∧ ab lo.toInt hi.toInt (vl_p G (k + 1) π j sm) r.toInt ∧ kx [18, 19] c c' ∧ pr π c') (fun c' t => va_P en.1 vwCl (xw en ad c') t.heap) (xw_A ad sz)) 0 0 (xw_A ad sz) := by
  refine Met.ofW (cc := cX3_playAt) (maxL := 7) (ret := (some .int)) (by decide) rfl ?_
  intro p e s m args below meth co s₁ B hml hv
  obtain ⟨rfl, hE, hsz, hP⟩ := hv
  subst hsz
  have hx := B.exec
  have hb := B.bytes
  have hr := B.returns
  have hts := atoms_spec (ws := wsX3_playAt) B.pre
  have hown : s.vm.findClass RX3 = some m.cls := findClass_of_methodNamed B.named
  have hlocks := B.notSynchronized
  have hS : va_S (xw_A ad s.heap.size) s.heap s.heap [] := va_S.rf
  have hl := lv_entry ([.ref (ad 2), .int (nI j), .int (nI π.length), .int si, .int lo, .int hi]) (n := 7) (Nat.le_of_ble_eq_true rfl)
  rw [lg_entry_eq]
  generalize (lg_sl ([.ref (ad 2), .int (nI j), .int (nI π.length), .int si, .int lo, .int hi]) ++ List.replicate (7 - (lg_sl ([.ref (ad 2), .int (nI j), .int (nI π.length), .int si, .int lo, .int hi])).length) Slot.unset).toArray = ls at hl ⊢
  have hl : lv_has ls 7 [(0, .ref (ad 2)), (1, .int (nI j)), (2, .int (nI π.length)), (3, .int si), (4, .int lo), (5, .int hi)] := hl
  have hn7 := hg.n7
  have hj7 : j < 7 := by omega
  have hlen := gm_ok_len hok
  refine lv_aload_n hx hb dX3_playAt_0 rfl (lv_at hl 0 rfl) ?_
  refine va_get (D := en.1) (ci := 3) (v := .ref (ad 1)) (C := RX3) (T := TX3) (N := 4) hx hb hts iw_X3_playAt_X3 hown hE.1 hP 2 rfl rfl 0 (by decide) (hts (.fieldLink RX3 26 "CreditGame$Values" "graph" "LCreditGame$Graph;") (by decide +kernel)) (fun _ h9 => h9) rfl dX3_playAt_1 ?_
  refine lv_iload_n hx hb dX3_playAt_4 rfl (lv_at hl 1 rfl) ?_
  refine ro_calli (va_runVN (As := [.int (nI j)]) (rest := []) ⟨hx, hb, hml, hown, hts⟩ (ct_hasVertex l en ad c hg (nI j)) ⟨va_cnB 1 hts gX3_playAt_X1_hasVertex_n34 rfl rfl rfl (hE.2 _ (List.mem_of_getElem? (i := 37) rfl)) (hts (.initialized RX1) (by decide +kernel)) (by decide +kernel) ⟨by show 1 + 1 ≤ 2 * (k + 1) + 5; omega, by show 8 + (2 + 11) + 40 * (1) ≤ 40 * (2 * (k + 1) + 5); omega⟩, hts (.instanceMethod yX1_hasVertex) (by decide +kernel), hts (.selects RX1 yX1_hasVertex yX1_hasVertex) (by decide +kernel)⟩ (ct_preV hE (va_recv hE.1 hP (ci := 1) (q0 := 1) rfl rfl) hP) rfl rfl hl.1 rfl (lv_room (Nat.le_of_ble_eq_true rfl)) dX3_playAt_5 ⟨Nat.zero_le _, Nat.zero_le _⟩) (fun r5 w5 => ?_)
  obtain rfl : r5 = 1 := hv_one hj w5
  refine lv_if_eq (tgt := 17) hx hb dX3_playAt_8 (by decide) (fun b8 => absurd b8 (by decide)) (fun b8 => ?_)
  refine lv_iload_n hx hb dX3_playAt_11 rfl (lv_at hl 2 rfl) ?_
  refine lv_bipush (v := (nI 7)) hx hb dX3_playAt_12 (by decide) ?_
  refine lv_icmp_le (tgt := 19) hx hb dX3_playAt_14 (by decide) (fun b14 => ?_) (fun b14 => absurd b14 (fun q => q (nI_le (by omega) (by omega))))
  cases hat : gm_at π j with
  | none =>
    have h18 := (hpr j hj7).1 hat
    refine lv_aload_n hx hb dX3_playAt_19 rfl (lv_at hl 0 rfl) ?_
    refine va_get (D := en.1) (ci := 3) (v := .ref (ad 5)) (C := RX3) (T := TX3) (N := 4) hx hb hts iw_X3_playAt_X3 hown hE.1 hP 2 rfl rfl 1 (by decide) (hts (.fieldLink RX3 12 "CreditGame$Values" "path" "LCreditGame$Path;") (by decide +kernel)) (fun _ h9 => h9) rfl dX3_playAt_20 ?_
    refine lv_iload_n hx hb dX3_playAt_23 rfl (lv_at hl 1 rfl) ?_
    refine ro_calli (va_runVN (As := [.int (nI j)]) (rest := []) ⟨hx, hb, hml, hown, hts⟩ (ct_has_p l en ad c j hj7) ⟨va_cnB 1 hts gX3_playAt_X2_has_n62 rfl rfl rfl (hE.2 _ (List.mem_of_getElem? (i := 39) rfl)) (hts (.initialized RX2) (by decide +kernel)) (by decide +kernel) ⟨by show 2 + 1 ≤ 2 * (k + 1) + 5; omega, by show 8 + (2 + 11) + 40 * (2) ≤ 40 * (2 * (k + 1) + 5); omega⟩, hts (.instanceMethod yX2_has) (by decide +kernel), hts (.selects RX2 yX2_has yX2_has) (by decide +kernel)⟩ (ct_preV hE (va_recv hE.1 hP (ci := 2) (q0 := 5) rfl rfl) hP) rfl rfl hl.1 rfl (lv_room (Nat.le_of_ble_eq_true rfl)) dX3_playAt_24 ⟨Nat.zero_le _, Nat.zero_le _⟩) (fun r24 w24 => ?_)
    obtain rfl : r24 = 0 := (w24.trans (if_pos h18))
    refine lv_if_eq (tgt := 54) hx hb dX3_playAt_27 (by decide) (fun b27 => ?_) (fun b27 => absurd b27 (fun q => q rfl))
    refine lv_aload_n hx hb dX3_playAt_54 rfl (lv_at hl 0 rfl) ?_
    refine va_get (D := en.1) (ci := 3) (v := .ref (ad 5)) (C := RX3) (T := TX3) (N := 4) hx hb hts iw_X3_playAt_X3 hown hE.1 hP 2 rfl rfl 1 (by decide) (hts (.fieldLink RX3 12 "CreditGame$Values" "path" "LCreditGame$Path;") (by decide +kernel)) (fun _ h9 => h9) rfl dX3_playAt_55 ?_
    refine lv_iload_n hx hb dX3_playAt_58 rfl (lv_at hl 1 rfl) ?_
    refine lv_iload_n hx hb dX3_playAt_59 rfl (lv_at hl 2 rfl) ?_
    refine lv_iload_n hx hb dX3_playAt_60 rfl (lv_at hl 3 rfl) ?_
    refine xr_callv (va_runVN (As := [.int (nI j), .int (nI π.length), .int si]) (rest := []) ⟨hx, hb, hml, hown, hts⟩ (ct_enter_p l en ad c hI _ j hj7 (nI π.length) si) ⟨va_cnB 3 hts gX3_playAt_X2_enter_n74 rfl rfl rfl (hE.2 _ (List.mem_of_getElem? (i := 42) rfl)) (hts (.initialized RX2) (by decide +kernel)) (by decide +kernel) ⟨by show 2 + 1 ≤ 2 * (k + 1) + 5; omega, by show 8 + (4 + 11) + 40 * (2) ≤ 40 * (2 * (k + 1) + 5); omega⟩, hts (.instanceMethod yX2_enter) (by decide +kernel), hts (.selects RX2 yX2_enter yX2_enter) (by decide +kernel)⟩ (ct_preV hE (va_recv hE.1 hP (ci := 2) (q0 := 5) rfl rfl) ⟨rfl, hP⟩) rfl rfl hl.1 rfl (lv_room (Nat.le_of_ble_eq_true rfl)) dX3_playAt_61 ⟨Nat.zero_le _, Nat.zero_le _⟩) hS (fun c61 H locs w61 hP hS => ?_)
    have hg1 : gi G c61 := by rw [w61]; exact (hg.up (by omega)).up (by omega)
    have hpr1 : pr ((j, sm) :: π) c61 := by rw [w61]; exact pr_push hpr rfl hs
    have hk1 : kx [18, 19] c c61 := by rw [w61]; exact (kx.up (by decide)).tr (kx.up (by decide))
    have hok1 := gm_ok_at (s := sm) hok hj hat
    refine lv_aload_n hx hb dX3_playAt_64 rfl (lv_at hl 0 rfl) ?_
    refine va_get (D := en.1) (ci := 3) (v := .ref (ad 1)) (C := RX3) (T := TX3) (N := 4) hx hb hts iw_X3_playAt_X3 hown hE.1 hP 2 rfl rfl 0 (by decide) (hts (.fieldLink RX3 26 "CreditGame$Values" "graph" "LCreditGame$Graph;") (by decide +kernel)) (fun _ h9 => h9) rfl dX3_playAt_65 ?_
    refine lv_iload_n hx hb dX3_playAt_68 rfl (lv_at hl 1 rfl) ?_
    refine ro_calli (va_runVN (As := [.int (nI j)]) (rest := []) ⟨hx, hb, hml, hown, hts⟩ (ct_ownerOf l en ad c61 hg1 j hj7) ⟨va_cnB 1 hts gX3_playAt_X1_ownerOf_n78 rfl rfl rfl (hE.2 _ (List.mem_of_getElem? (i := 43) rfl)) (hts (.initialized RX1) (by decide +kernel)) (by decide +kernel) ⟨by show 2 + 1 ≤ 2 * (k + 1) + 5; omega, by show 8 + (2 + 11) + 40 * (2) ≤ 40 * (2 * (k + 1) + 5); omega⟩, hts (.instanceMethod yX1_ownerOf) (by decide +kernel), hts (.selects RX1 yX1_ownerOf yX1_ownerOf) (by decide +kernel)⟩ (ct_preV hE (va_recv hE.1 hP (ci := 1) (q0 := 1) rfl rfl) hP) rfl rfl hl.1 rfl (lv_room (Nat.le_of_ble_eq_true rfl)) dX3_playAt_69 ⟨Nat.zero_le _, Nat.zero_le _⟩) (fun r69 w69 => ?_)
    obtain rfl : r69 = (gr_own G j) := (w69.trans (if_pos hj))
    refine lv_if_ne (tgt := 89) hx hb dX3_playAt_72 (by decide) (fun b72 => ?_) (fun b72 => ?_)
    · skip
      refine lv_aload_n hx hb dX3_playAt_89 rfl (lv_at hl 0 rfl) ?_
      refine lv_iload_n hx hb dX3_playAt_90 rfl (lv_at hl 1 rfl) ?_
      refine lv_iload_n hx hb dX3_playAt_91 rfl (lv_at hl 2 rfl) ?_
      refine lv_iload_n hx hb dX3_playAt_92 rfl (lv_at hl 3 rfl) ?_
      refine lv_iload hx hb dX3_playAt_93 (lv_at hl 4 rfl) ?_
      refine lv_iload hx hb dX3_playAt_95 (lv_at hl 5 rfl) ?_
      refine xr_calli (va_runV (As := [.int (nI j), .int (nI π.length), .int si, .int lo, .int hi]) (rest := []) ⟨hx, hb, hml, hown, hts⟩ (lp c61 _ hg1 hc π j sm si lo hi hpr1 hok1 (by omega) hj hne hs hb1 hb2 hlh hl1 hh1) (cwV 5 hts gX3_playAt_X3_leastPay rfl rfl rfl (by decide +kernel) ⟨by show 2 * k + 6 + 1 ≤ 2 * (k + 1) + 5; omega, by show 8 + (11 + 11) + 40 * (2 * k + 6) ≤ 40 * (2 * (k + 1) + 5); omega⟩) (ct_preV hE (va_recv hE.1 hP (ci := 3) (q0 := 2) rfl rfl) ⟨rfl, hP⟩) rfl rfl hl.1 rfl (lv_room (Nat.le_of_ble_eq_true rfl)) dX3_playAt_97 ⟨Nat.zero_le _, Nat.zero_le _⟩) hS (fun r97 c97 H locs w97 hP hS => ?_)
      refine lv_istore (lv' := [(6, .int r97), (0, .ref (ad 2)), (1, .int (nI j)), (2, .int (nI π.length)), (3, .int si), (4, .int lo), (5, .int hi)]) hx hb dX3_playAt_100 hl (by decide) rfl (fun ls hl => ?_)
      refine lv_aload_n hx hb dX3_playAt_102 rfl (lv_at hl 1 rfl) ?_
      refine va_get (D := en.1) (ci := 3) (v := .ref (ad 5)) (C := RX3) (T := TX3) (N := 4) hx hb hts iw_X3_playAt_X3 hown hE.1 hP 2 rfl rfl 1 (by decide) (hts (.fieldLink RX3 12 "CreditGame$Values" "path" "LCreditGame$Path;") (by decide +kernel)) (fun _ h9 => h9) rfl dX3_playAt_103 ?_
      refine lv_iload_n hx hb dX3_playAt_106 rfl (lv_at hl 2 rfl) ?_
      refine xr_callv (va_runVN (As := [.int (nI j)]) (rest := []) ⟨hx, hb, hml, hown, hts⟩ (ct_leave_p l en ad c97 hI _ j hj7) ⟨va_cnB 1 hts gX3_playAt_X2_leave_n87 rfl rfl rfl (hE.2 _ (List.mem_of_getElem? (i := 44) rfl)) (hts (.initialized RX2) (by decide +kernel)) (by decide +kernel) ⟨by show 2 + 1 ≤ 2 * (k + 1) + 5; omega, by show 8 + (2 + 11) + 40 * (2) ≤ 40 * (2 * (k + 1) + 5); omega⟩, hts (.instanceMethod yX2_leave) (by decide +kernel), hts (.selects RX2 yX2_leave yX2_leave) (by decide +kernel)⟩ (ct_preV hE (va_recv hE.1 hP (ci := 2) (q0 := 5) rfl rfl) ⟨rfl, hP⟩) rfl rfl hl.1 rfl (lv_room (Nat.le_of_ble_eq_true rfl)) dX3_playAt_107 ⟨Nat.zero_le _, Nat.zero_le _⟩) hS (fun c107 H locs w107 hP hS => ?_)
      refine lv_iload hx hb dX3_playAt_110 (lv_at hl 0 rfl) ?_
      exact W.iret (v := r97) hx hb hr (fun t ht hW => ⟨⟨_, c107, rfl, ⟨w97.1, by rw [vl_mn hat b72]; exact w97.2.1, by rw [w107]; exact (hk1.tr w97.2.2.1).tr (kx.up (by decide)), by rw [w107]; exact pr_pop w97.2.2.2 hat⟩, by show va_P _ _ _ t.heap; rw [ht]; exact hP⟩, hS.F ht⟩) hS.2.2 dX3_playAt_112
    · skip
      refine lv_aload_n hx hb dX3_playAt_75 rfl (lv_at hl 0 rfl) ?_
      refine lv_iload_n hx hb dX3_playAt_76 rfl (lv_at hl 1 rfl) ?_
      refine lv_iload_n hx hb dX3_playAt_77 rfl (lv_at hl 2 rfl) ?_
      refine lv_iload_n hx hb dX3_playAt_78 rfl (lv_at hl 3 rfl) ?_
      refine lv_iload hx hb dX3_playAt_79 (lv_at hl 4 rfl) ?_
      refine lv_iload hx hb dX3_playAt_81 (lv_at hl 5 rfl) ?_
      refine xr_calli (va_runV (As := [.int (nI j), .int (nI π.length), .int si, .int lo, .int hi]) (rest := []) ⟨hx, hb, hml, hown, hts⟩ (gp c61 _ hg1 hc π j sm si lo hi hpr1 hok1 (by omega) hj hne hs hb1 hb2 hlh hl1 hh1) (cwV 5 hts gX3_playAt_X3_greatestPay rfl rfl rfl (by decide +kernel) ⟨by show 2 * k + 6 + 1 ≤ 2 * (k + 1) + 5; omega, by show 8 + (11 + 11) + 40 * (2 * k + 6) ≤ 40 * (2 * (k + 1) + 5); omega⟩) (ct_preV hE (va_recv hE.1 hP (ci := 3) (q0 := 2) rfl rfl) ⟨rfl, hP⟩) rfl rfl hl.1 rfl (lv_room (Nat.le_of_ble_eq_true rfl)) dX3_playAt_83 ⟨Nat.zero_le _, Nat.zero_le _⟩) hS (fun r83 c83 H locs w83 hP hS => ?_)
      refine lv_goto (tgt := 100) hx hb dX3_playAt_86 (by decide) ?_
      refine lv_istore (lv' := [(6, .int r83), (0, .ref (ad 2)), (1, .int (nI j)), (2, .int (nI π.length)), (3, .int si), (4, .int lo), (5, .int hi)]) hx hb dX3_playAt_100 hl (by decide) rfl (fun ls hl => ?_)
      refine lv_aload_n hx hb dX3_playAt_102 rfl (lv_at hl 1 rfl) ?_
      refine va_get (D := en.1) (ci := 3) (v := .ref (ad 5)) (C := RX3) (T := TX3) (N := 4) hx hb hts iw_X3_playAt_X3 hown hE.1 hP 2 rfl rfl 1 (by decide) (hts (.fieldLink RX3 12 "CreditGame$Values" "path" "LCreditGame$Path;") (by decide +kernel)) (fun _ h9 => h9) rfl dX3_playAt_103 ?_
      refine lv_iload_n hx hb dX3_playAt_106 rfl (lv_at hl 2 rfl) ?_
      refine xr_callv (va_runVN (As := [.int (nI j)]) (rest := []) ⟨hx, hb, hml, hown, hts⟩ (ct_leave_p l en ad c83 hI _ j hj7) ⟨va_cnB 1 hts gX3_playAt_X2_leave_n87 rfl rfl rfl (hE.2 _ (List.mem_of_getElem? (i := 44) rfl)) (hts (.initialized RX2) (by decide +kernel)) (by decide +kernel) ⟨by show 2 + 1 ≤ 2 * (k + 1) + 5; omega, by show 8 + (2 + 11) + 40 * (2) ≤ 40 * (2 * (k + 1) + 5); omega⟩, hts (.instanceMethod yX2_leave) (by decide +kernel), hts (.selects RX2 yX2_leave yX2_leave) (by decide +kernel)⟩ (ct_preV hE (va_recv hE.1 hP (ci := 2) (q0 := 5) rfl rfl) ⟨rfl, hP⟩) rfl rfl hl.1 rfl (lv_room (Nat.le_of_ble_eq_true rfl)) dX3_playAt_107 ⟨Nat.zero_le _, Nat.zero_le _⟩) hS (fun c107 H locs w107 hP hS => ?_)
      refine lv_iload hx hb dX3_playAt_110 (lv_at hl 0 rfl) ?_
      exact W.iret (v := r83) hx hb hr (fun t ht hW => ⟨⟨_, c107, rfl, ⟨w83.1, by rw [vl_mx hat hj b72]; exact w83.2.1, by rw [w107]; exact (hk1.tr w83.2.2.1).tr (kx.up (by decide)), by rw [w107]; exact pr_pop w83.2.2.2 hat⟩, by show va_P _ _ _ t.heap; rw [ht]; exact hP⟩, hS.F ht⟩) hS.2.2 dX3_playAt_112
  | some qq =>
    obtain ⟨d, s0⟩ := qq
    have h18 := (hpr j hj7).2 d s0 hat
    have hd := gm_at_len hat
    have hnr := hne j d s0 hat
    refine lv_aload_n hx hb dX3_playAt_19 rfl (lv_at hl 0 rfl) ?_
    refine va_get (D := en.1) (ci := 3) (v := .ref (ad 5)) (C := RX3) (T := TX3) (N := 4) hx hb hts iw_X3_playAt_X3 hown hE.1 hP 2 rfl rfl 1 (by decide) (hts (.fieldLink RX3 12 "CreditGame$Values" "path" "LCreditGame$Path;") (by decide +kernel)) (fun _ h9 => h9) rfl dX3_playAt_20 ?_
    refine lv_iload_n hx hb dX3_playAt_23 rfl (lv_at hl 1 rfl) ?_
    refine ro_calli (va_runVN (As := [.int (nI j)]) (rest := []) ⟨hx, hb, hml, hown, hts⟩ (ct_has_p l en ad c j hj7) ⟨va_cnB 1 hts gX3_playAt_X2_has_n62 rfl rfl rfl (hE.2 _ (List.mem_of_getElem? (i := 39) rfl)) (hts (.initialized RX2) (by decide +kernel)) (by decide +kernel) ⟨by show 2 + 1 ≤ 2 * (k + 1) + 5; omega, by show 8 + (2 + 11) + 40 * (2) ≤ 40 * (2 * (k + 1) + 5); omega⟩, hts (.instanceMethod yX2_has) (by decide +kernel), hts (.selects RX2 yX2_has yX2_has) (by decide +kernel)⟩ (ct_preV hE (va_recv hE.1 hP (ci := 2) (q0 := 5) rfl rfl) hP) rfl rfl hl.1 rfl (lv_room (Nat.le_of_ble_eq_true rfl)) dX3_playAt_24 ⟨Nat.zero_le _, Nat.zero_le _⟩) (fun r24 w24 => ?_)
    obtain rfl : r24 = 1 := (w24.trans (if_neg (by rw [h18.1]; exact nI_ne1 (by omega))))
    refine lv_if_eq (tgt := 54) hx hb dX3_playAt_27 (by decide) (fun b27 => absurd b27 (by decide)) (fun b27 => ?_)
    refine lv_iload_n hx hb dX3_playAt_30 rfl (lv_at hl 2 rfl) ?_
    refine lv_aload_n hx hb dX3_playAt_31 rfl (lv_at hl 0 rfl) ?_
    refine va_get (D := en.1) (ci := 3) (v := .ref (ad 5)) (C := RX3) (T := TX3) (N := 4) hx hb hts iw_X3_playAt_X3 hown hE.1 hP 2 rfl rfl 1 (by decide) (hts (.fieldLink RX3 12 "CreditGame$Values" "path" "LCreditGame$Path;") (by decide +kernel)) (fun _ h9 => h9) rfl dX3_playAt_32 ?_
    refine lv_iload_n hx hb dX3_playAt_35 rfl (lv_at hl 1 rfl) ?_
    refine ro_calli (va_runVN (As := [.int (nI j)]) (rest := [.int (nI π.length)]) ⟨hx, hb, hml, hown, hts⟩ (ct_stepsTo_p l en ad c j hj7) ⟨va_cnB 1 hts gX3_playAt_X2_stepsTo_n65 rfl rfl rfl (hE.2 _ (List.mem_of_getElem? (i := 40) rfl)) (hts (.initialized RX2) (by decide +kernel)) (by decide +kernel) ⟨by show 2 + 1 ≤ 2 * (k + 1) + 5; omega, by show 8 + (2 + 11) + 40 * (2) ≤ 40 * (2 * (k + 1) + 5); omega⟩, hts (.instanceMethod yX2_stepsTo) (by decide +kernel), hts (.selects RX2 yX2_stepsTo yX2_stepsTo) (by decide +kernel)⟩ (ct_preV hE (va_recv hE.1 hP (ci := 2) (q0 := 5) rfl rfl) hP) rfl rfl hl.1 rfl (lv_room (Nat.le_of_ble_eq_true rfl)) dX3_playAt_36 ⟨Nat.zero_le _, Nat.zero_le _⟩) (fun r36 w36 => ?_)
    obtain rfl : r36 = (nI (π.length - d)) := (w36.trans h18.1)
    refine lv_isub hx hb dX3_playAt_39 ?_
    refine lv_topi (fun z_39 ez_39 => ?_)
    obtain rfl : z_39 = (nI d) := (ez_39.trans (by rw [pk_sub (by omega)]; congr 1; omega))
    refine lv_iload_n hx hb dX3_playAt_40 rfl (lv_at hl 3 rfl) ?_
    refine lv_aload_n hx hb dX3_playAt_41 rfl (lv_at hl 0 rfl) ?_
    refine va_get (D := en.1) (ci := 3) (v := .ref (ad 5)) (C := RX3) (T := TX3) (N := 4) hx hb hts iw_X3_playAt_X3 hown hE.1 hP 2 rfl rfl 1 (by decide) (hts (.fieldLink RX3 12 "CreditGame$Values" "path" "LCreditGame$Path;") (by decide +kernel)) (fun _ h9 => h9) rfl dX3_playAt_42 ?_
    refine lv_iload_n hx hb dX3_playAt_45 rfl (lv_at hl 1 rfl) ?_
    refine ro_calli (va_runVN (As := [.int (nI j)]) (rest := [.int si, .int (nI d)]) ⟨hx, hb, hml, hown, hts⟩ (ct_sumTo_p l en ad c j hj7) ⟨va_cnB 1 hts gX3_playAt_X2_sumTo_n68 rfl rfl rfl (hE.2 _ (List.mem_of_getElem? (i := 41) rfl)) (hts (.initialized RX2) (by decide +kernel)) (by decide +kernel) ⟨by show 2 + 1 ≤ 2 * (k + 1) + 5; omega, by show 8 + (2 + 11) + 40 * (2) ≤ 40 * (2 * (k + 1) + 5); omega⟩, hts (.instanceMethod yX2_sumTo) (by decide +kernel), hts (.selects RX2 yX2_sumTo yX2_sumTo) (by decide +kernel)⟩ (ct_preV hE (va_recv hE.1 hP (ci := 2) (q0 := 5) rfl rfl) hP) rfl rfl hl.1 rfl (lv_room (Nat.le_of_ble_eq_true rfl)) dX3_playAt_46 ⟨Nat.zero_le _, Nat.zero_le _⟩) (fun r46 w46 => ?_)
    obtain rfl : r46 = (c 19 j) := w46
    refine lv_isub hx hb dX3_playAt_49 ?_
    refine lv_topi (fun x1 hx1 => ?_)
    have hx1i : x1.toInt = sm - s0 := by
      rw [hx1, i_sub (by rw [hs, h18.2]; omega) (by rw [hs, h18.2]; omega), hs, h18.2]
    refine ro_calli (va_runS (As := [.int (nI d), .int x1]) (rest := []) ⟨hx, hb, hml, hown, hts⟩ (ct_loopParts l en ad c d hd.1 (by omega) x1 (by omega) (by omega)) (va_cwS 2 hts gX3_playAt_X3_loopParts rfl rfl rfl (by decide +kernel) ⟨by show 1 + 1 ≤ 2 * (k + 1) + 5; omega, by show 8 + (2 + 11) + 40 * (1) ≤ 40 * (2 * (k + 1) + 5); omega⟩) (ct_preS hE trivial) rfl rfl hl.1 rfl (lv_room (Nat.le_of_ble_eq_true rfl)) dX3_playAt_50 ⟨Nat.zero_le _, Nat.zero_le _⟩) (fun r50 w50 => ?_)
    exact W.iret (v := r50) hx hb hr (fun t ht hW => ⟨⟨_, c, rfl, ⟨by rw [w50, hx1i]; have := gm_leaf_bd hd.1 (by omega : d ≤ 7) hnr.1 hnr.2; omega, by rw [vl_leaf hat, w50, hx1i]; exact ab_rf, kx.rf, hpr⟩, by show va_P _ _ _ t.heap; rw [ht]; exact hP⟩, hS.F ht⟩) hS.2.2 dX3_playAt_53
theorem ct_playAt (l : Launch) (en : en_T) (ad : Nat → Nat) (hI : xw_I ad) : ∀ k, pa_C l en ad k := by
  intro k
  induction k with
  | zero =>
    intro c sz G hg hc π j sm si lo hi hpr hok hk
    have h1 := gm_ok_len hok
    have h2 := hg.n7
    exact absurd hk (by omega)
  | succ k ih =>
    intro c sz G hg hc π j sm si lo hi hpr hok hk hj hne hs hb1 hb2 hlh hl1 hh1
    exact ct_playAt_step l en ad c hI sz k
      (fun c sz G hg hc π j sm si lo hi hpr hok hk hj hne hs hb1 hb2 hlh hl1 hh1 => ct_greatestPay l en ad c hI sz k ih hg hc π j sm si lo hi hpr hok hk hj hne hs hb1 hb2 hlh hl1 hh1)
      (fun c sz G hg hc π j sm si lo hi hpr hok hk hj hne hs hb1 hb2 hlh hl1 hh1 => ct_leastPay l en ad c hI sz k ih hg hc π j sm si lo hi hpr hok hk hj hne hs hb1 hb2 hlh hl1 hh1)
      hg hc π j sm si lo hi hpr hok hk hj hne hs hb1 hb2 hlh hl1 hh1
