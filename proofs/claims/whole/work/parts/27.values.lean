/-! ===== CreditGame$Values: find, findAll, the fraction ===== -/
/-- what is known of the values is right -/
def vi (G : gr_T) (c : Nat → Nat → Int32) : Prop := ∀ v, v < 7 → c 12 v = 0 ∨ (c 12 v = 1 ∧ gr_cpl G ∧ v < gr_n G ∧ (c 13 v).toInt = vl_F G v)
/-- all values are there -/
def va (G : gr_T) (c : Nat → Nat → Int32) : Prop := ∀ v, v < gr_n G → (c 13 v).toInt = vl_F G v
theorem gm_ok_nil {n : Nat} : gm_ok n [] := ⟨List.nodup_nil, fun q h => by cases h⟩
theorem gm_near_nil {x : Int} : gm_near [] x := fun u d s0 h => by simp [gm_at] at h
theorem pr_nil {c : Nat → Nat → Int32} (h : ∀ j, j < 7 → c 18 j = -1) : pr [] c := fun j hj => ⟨fun _ => h j hj, fun d s0 h => by simp [gm_at] at h⟩
theorem vl_F_bd {G : gr_T} (hg : gf_ok G) (hc : gr_cpl G) {j : Nat} (hj : j < gr_n G) : -3780 ≤ vl_F G j ∧ vl_F G j ≤ 3780 := vl_bd hg hc (by simp) gm_ok_nil hj gm_near_nil
theorem ab_in {P r : Int} (h : ab (-1000000 : Int32).toInt (1000000 : Int32).toInt P r) (h1 : -3780 ≤ P) (h2 : P ≤ 3780) : r = P := by
  rw [i_lo, i_hi] at h
  exact h.2.2 (by omega) (by omega)
theorem vi.set {G : gr_T} {c c' : Nat → Nat → Int32} {j : Nat} {x : Int32} (h : vi G c) (hc : gr_cpl G) (hj : j < gr_n G) (hx : x.toInt = vl_F G j) (e12 : c' 12 = upd (c 12) j (vp_nar .boolean 1)) (e13 : c' 13 = upd (c 13) j x) : vi G c' := by
  intro v hv
  rw [e12, e13]
  by_cases e : v = j
  · subst e
    rw [ud_at, ud_at]
    exact Or.inr ⟨rfl, hc, hj, hx⟩
  · rw [ud_ne e, ud_ne e]
    exact h v hv
/-- the denominator of P / 420 in lowest terms, where it is at most 7 -/
def vl_q (P : Int) : Nat := if P % 420 = 0 then 1 else if P * 2 % 420 = 0 then 2 else if P * 3 % 420 = 0 then 3 else if P * 4 % 420 = 0 then 4 else if P * 5 % 420 = 0 then 5 else if P * 6 % 420 = 0 then 6 else 7
def vl_t (P : Int) : Int := P * (vl_q P : Int) / 420
theorem vl_q_eq {P : Int} {d : Nat} (h1 : 1 ≤ d) (h7 : d ≤ 7) (hd : d < 7 → P * (d : Int) % 420 = 0) (hl : ∀ x : Nat, 1 ≤ x → x < d → ¬ P * (x : Int) % 420 = 0) : vl_q P = d := by
  have l1 := hl 1; have l2 := hl 2; have l3 := hl 3; have l4 := hl 4; have l5 := hl 5; have l6 := hl 6
  rcases (show d = 1 ∨ d = 2 ∨ d = 3 ∨ d = 4 ∨ d = 5 ∨ d = 6 ∨ d = 7 by omega) with rfl | rfl | rfl | rfl | rfl | rfl | rfl <;> unfold vl_q <;> (repeat' split) <;> omega
theorem vl_q_bd (P : Int) : 1 ≤ vl_q P ∧ vl_q P ≤ 7 := by
  unfold vl_q
  repeat' split
  all_goals omega
/-- the value's fraction is whole -/
theorem vl_q_dv {P x : Int} {d : Nat} (h1 : 1 ≤ d) (h7 : d ≤ 7) (h : P = ((420 / d : Nat) : Int) * x) : P * (vl_q P : Int) % 420 = 0 := by
  unfold vl_q
  rcases (show d = 1 ∨ d = 2 ∨ d = 3 ∨ d = 4 ∨ d = 5 ∨ d = 6 ∨ d = 7 by omega) with rfl | rfl | rfl | rfl | rfl | rfl | rfl <;> simp only [Nat.reduceDiv] at h <;> (repeat' split) <;> omega
theorem vl_F_dv {G : gr_T} (hg : gf_ok G) (hc : gr_cpl G) {j : Nat} (hj : j < gr_n G) : vl_F G j * (vl_q (vl_F G j) : Int) % 420 = 0 := by
  obtain ⟨d, x, h1, h2, h3, h4, h5⟩ := gm_pay_form (ow := gr_ow G) hg.1 hc.2 (gr_tgts hg) (gr_ws hg) 8 [] j 0 (by simp) gm_ok_nil hj gm_near_nil
  exact vl_q_dv h1 (by have := hg.1; omega) h5
theorem i_div420 {y : Int32} : (y / 420).toInt = y.toInt.tdiv 420 := by
  have h1 := Int32.toInt_lt y
  have h2 := Int32.le_toInt y
  have hsg : Int.sign 420 = 1 := by decide
  rw [Int32.toInt_div, i_420, Int.tdiv_eq_ediv]
  refine Int.bmod_eq_of_le ?_ ?_ <;> split <;> simp <;> omega
theorem i_rem420 {y : Int32} (h1 : -100000 ≤ y.toInt) (h2 : y.toInt ≤ 100000) : y - y / 420 * 420 = 0 ↔ y.toInt % 420 = 0 := by
  have e : (y / 420).toInt = y.toInt.tdiv 420 := i_div420
  have hq : -1000 ≤ (y / 420).toInt ∧ (y / 420).toInt ≤ 1000 ∧ (y.toInt - (y / 420).toInt * 420 = 0 ↔ y.toInt % 420 = 0) := by
    have hsg : Int.sign 420 = 1 := by decide
    rw [e, Int.tdiv_eq_ediv]
    split <;> rename_i hs <;> simp at hs ⊢ <;> omega
  have e2 : (y / 420 * 420).toInt = (y / 420).toInt * 420 := by
    rw [i_mul (by rw [i_420]; omega) (by rw [i_420]; omega), i_420]
  have e3 : (y - y / 420 * 420).toInt = y.toInt - (y / 420).toInt * 420 := by
    rw [i_sub (by rw [e2]; omega) (by rw [e2]; omega), e2]
  rw [← hq.2.2, ← e3]
  constructor
  · intro h; rw [h]; decide
  · intro h; exact i_eq (by rw [h]; decide)
theorem find_end {G : gr_T} {c c24 c40 c43 c50 : Nat → Nat → Int32} {f24 : Nat → Int32} {j : Nat} {r40 : Int32} (hv_ : vi G c) (hc : gr_cpl G) (hj : j < gr_n G) (hr : r40.toInt = vl_F G j) (e24 : c24 = va_up c 18 f24) (hk : kx [18, 19] c24 c40) (e43 : c43 = va_up c40 13 (upd (c40 13) j r40)) (e50 : c50 = va_up c43 12 (upd (c43 12) j (vp_nar .boolean 1))) :
    kx [12, 13, 18, 19] c c50 ∧ vi G c50 ∧ (j < gr_n G → c50 12 j = 1) ∧ ∀ i, i < 7 → c 12 i = 1 → c50 12 i = 1 := by
  have h24 : kx [12, 13, 18, 19] c c24 := by rw [e24]; exact kx.up (by decide)
  have h43 : kx [12, 13, 18, 19] c40 c43 := by rw [e43]; exact kx.up (by decide)
  have h50 : kx [12, 13, 18, 19] c43 c50 := by rw [e50]; exact kx.up (by decide)
  have a12 : c43 12 = c 12 := by
    have q1 : c24 12 = c 12 := by rw [e24]; rfl
    have q2 : c40 12 = c24 12 := hk 12 (by decide)
    have q3 : c43 12 = c40 12 := by rw [e43]; rfl
    rw [q3, q2, q1]
  have a13 : c40 13 = c 13 := by
    have q1 : c24 13 = c 13 := by rw [e24]; rfl
    have q2 : c40 13 = c24 13 := hk 13 (by decide)
    rw [q2, q1]
  have b12 : c50 12 = upd (c 12) j (vp_nar .boolean 1) := by rw [e50, up_at, a12]
  have b13 : c50 13 = upd (c 13) j r40 := by
    have q1 : c50 13 = c43 13 := by rw [e50]; rfl
    rw [q1, e43, up_at, a13]
  refine ⟨((h24.tr (hk.wide (by decide))).tr h43).tr h50, hv_.set hc hj hr b12 b13, fun _ => by rw [b12, ud_at]; rfl, fun i hi q => ?_⟩
  rw [b12]
  by_cases e : i = j
  · rw [e, ud_at]; rfl
  · rw [ud_ne e]; exact q
theorem iw_X3_find_X3 : ∀ w ∈ wsX30, w ∈ wsX3_find := by decide +kernel
set_option maxHeartbeats 4000000 in
set_option maxRecDepth 100000 in
/--  -/
theorem ct_find (l : Launch) (en : en_T) (ad : Nat → Nat) (c : Nat → Nat → Int32) (hI : xw_I ad) (sz : Nat) {G : gr_T} (hg : gi G c) (hc : gr_cpl G) (hv_ : vi G c) (j : Nat) (hj7 : j < 7) : Met l yX3_find wsX3_find (rm_ 25 0 0) (ct_Pc en [.ref (ad 2), .int (nI j)] (fun H => H.size = sz ∧ va_P en.1 vwCl (xw en ad c) H)) (va_Qv (fun c' => kx [12, 13, 18, 19] c c' ∧ vi G c' ∧ (j < gr_n G → c' 12 j = 1) ∧ ∀ i, i < 7 → c 12 i = 1 → c' 12 i = 1) (fun c' t => va_P en.1 vwCl (xw en ad c') t.heap) (xw_A ad sz)) 0 0 (xw_A ad sz) := by
  refine Met.ofW (cc := cX3_find) (maxL := 2) (ret := none) (by decide) rfl ?_
  intro p e s m args below meth co s₁ B hml hv
  obtain ⟨rfl, hE, hsz, hP⟩ := hv
  subst hsz
  have hx := B.exec
  have hb := B.bytes
  have hr := B.returns
  have hts := atoms_spec (ws := wsX3_find) B.pre
  have hown : s.vm.findClass RX3 = some m.cls := findClass_of_methodNamed B.named
  have hlocks := B.notSynchronized
  have hS : va_S (xw_A ad s.heap.size) s.heap s.heap [] := va_S.rf
  have hl := lv_entry ([.ref (ad 2), .int (nI j)]) (n := 2) (Nat.le_of_ble_eq_true rfl)
  rw [lg_entry_eq]
  generalize (lg_sl ([.ref (ad 2), .int (nI j)]) ++ List.replicate (2 - (lg_sl ([.ref (ad 2), .int (nI j)])).length) Slot.unset).toArray = ls at hl ⊢
  have hl : lv_has ls 2 [(0, .ref (ad 2)), (1, .int (nI j))] := hl
  refine lv_aload_n hx hb dX3_find_0 rfl (lv_at hl 0 rfl) ?_
  refine va_get (D := en.1) (ci := 3) (v := .ref (ad 1)) (C := RX3) (T := TX3) (N := 4) hx hb hts iw_X3_find_X3 hown hE.1 hP 2 rfl rfl 0 (by decide) (hts (.fieldLink RX3 26 "CreditGame$Values" "graph" "LCreditGame$Graph;") (by decide +kernel)) (fun _ h9 => h9) rfl dX3_find_1 ?_
  refine lv_iload_n hx hb dX3_find_4 rfl (lv_at hl 1 rfl) ?_
  refine ro_calli (va_runVN (As := [.int (nI j)]) (rest := []) ⟨hx, hb, hml, hown, hts⟩ (ct_hasVertex l en ad c hg (nI j)) ⟨va_cnB 1 hts gX3_find_X1_hasVertex_n34 rfl rfl rfl (hE.2 _ (List.mem_of_getElem? (i := 37) rfl)) (hts (.initialized RX1) (by decide +kernel)) (by decide +kernel) ⟨Nat.le_of_ble_eq_true rfl, Nat.le_of_ble_eq_true rfl⟩, hts (.instanceMethod yX1_hasVertex) (by decide +kernel), hts (.selects RX1 yX1_hasVertex yX1_hasVertex) (by decide +kernel)⟩ (ct_preV hE (va_recv hE.1 hP (ci := 1) (q0 := 1) rfl rfl) hP) rfl rfl hl.1 rfl (lv_room (Nat.le_of_ble_eq_true rfl)) dX3_find_5 ⟨Nat.le_of_ble_eq_true rfl, Nat.le_of_ble_eq_true rfl⟩) (fun r5 w5 => ?_)
  refine lv_if_eq (tgt := 51) hx hb dX3_find_8 (by decide) (fun b8 => ?_) (fun b8 => ?_)
  · skip
    exact W.vret hx hb hr (fun t ht hW => ⟨⟨c, rfl, (by first | exact ⟨kx.rf, hv_, fun q => absurd q (hv_nlt w5 b8), fun i _ q => q⟩ | exact ⟨kx.rf, hv_, fun _ => hk12, fun i _ q => q⟩ | exact find_end hv_ hc hj hr40 e24 w40.2.2.1 ec43 ec50), by show va_P _ _ _ t.heap; rw [ht]; exact hP⟩, hS.F ht⟩) hS.2.2 dX3_find_51
  · skip
    have hj := hv_lt hg.n7 (by omega) w5 b8
    refine lv_aload_n hx hb dX3_find_11 rfl (lv_at hl 0 rfl) ?_
    refine va_get (D := en.1) (ci := 3) (v := .ref (ad 12)) (C := RX3) (T := TX3) (N := 4) hx hb hts iw_X3_find_X3 hown hE.1 hP 2 rfl rfl 2 (by decide) (hts (.fieldLink RX3 18 "CreditGame$Values" "known" "[Z") (by decide +kernel)) (fun _ h9 => h9) rfl dX3_find_12 ?_
    refine lv_iload_n hx hb dX3_find_15 rfl (lv_at hl 1 rfl) ?_
    refine xr_zld hx hb hE hP j rfl (by omega) dX3_find_16 ?_
    refine lv_if_ne (tgt := 51) hx hb dX3_find_17 (by decide) (fun b17 => ?_) (fun b17 => ?_)
    · skip
      have hk12 : c 12 j = 1 := by
        rcases hv_ j hj7 with q | q
        · exact absurd q b17
        · exact q.1
      exact W.vret hx hb hr (fun t ht hW => ⟨⟨c, rfl, (by first | exact ⟨kx.rf, hv_, fun q => absurd q (hv_nlt w5 b8), fun i _ q => q⟩ | exact ⟨kx.rf, hv_, fun _ => hk12, fun i _ q => q⟩ | exact find_end hv_ hc hj hr40 e24 w40.2.2.1 ec43 ec50), by show va_P _ _ _ t.heap; rw [ht]; exact hP⟩, hS.F ht⟩) hS.2.2 dX3_find_51
    · skip
      refine lv_aload_n hx hb dX3_find_20 rfl (lv_at hl 0 rfl) ?_
      refine va_get (D := en.1) (ci := 3) (v := .ref (ad 5)) (C := RX3) (T := TX3) (N := 4) hx hb hts iw_X3_find_X3 hown hE.1 hP 2 rfl rfl 1 (by decide) (hts (.fieldLink RX3 12 "CreditGame$Values" "path" "LCreditGame$Path;") (by decide +kernel)) (fun _ h9 => h9) rfl dX3_find_21 ?_
      refine xr_callv (va_runVN (As := []) (rest := []) ⟨hx, hb, hml, hown, hts⟩ (ct_clear_p l en ad c hI _) ⟨va_cnB 0 hts gX3_find_X2_clear_n40 rfl rfl rfl (hE.2 _ (List.mem_of_getElem? (i := 38) rfl)) (hts (.initialized RX2) (by decide +kernel)) (by decide +kernel) ⟨Nat.le_of_ble_eq_true rfl, Nat.le_of_ble_eq_true rfl⟩, hts (.instanceMethod yX2_clear) (by decide +kernel), hts (.selects RX2 yX2_clear yX2_clear) (by decide +kernel)⟩ (ct_preV hE (va_recv hE.1 hP (ci := 2) (q0 := 5) rfl rfl) ⟨rfl, hP⟩) rfl rfl hl.1 rfl (lv_room (Nat.le_of_ble_eq_true rfl)) dX3_find_24 ⟨Nat.le_of_ble_eq_true rfl, Nat.le_of_ble_eq_true rfl⟩) hS (fun c24 H locs w24 hP hS => ?_)
      obtain ⟨f24, e24, hf24⟩ := w24
      have hg1 : gi G c24 := by rw [e24]; exact hg.up (by omega)
      have hpr : pr [] c24 := pr_nil (fun j h => by rw [e24]; exact hf24 j h)
      refine lv_aload_n hx hb dX3_find_27 rfl (lv_at hl 0 rfl) ?_
      refine va_get (D := en.1) (ci := 3) (v := .ref (ad 13)) (C := RX3) (T := TX3) (N := 4) hx hb hts iw_X3_find_X3 hown hE.1 hP 2 rfl rfl 3 (by decide) (hts (.fieldLink RX3 22 "CreditGame$Values" "parts" "[I") (by decide +kernel)) (fun _ h9 => h9) rfl dX3_find_28 ?_
      refine lv_iload_n hx hb dX3_find_31 rfl (lv_at hl 1 rfl) ?_
      refine lv_aload_n hx hb dX3_find_32 rfl (lv_at hl 0 rfl) ?_
      refine lv_iload_n hx hb dX3_find_33 rfl (lv_at hl 1 rfl) ?_
      refine lv_iconst (v := (nI 0)) hx hb dX3_find_34 (by decide) ?_
      refine lv_iconst (v := 0) hx hb dX3_find_35 (by decide) ?_
      refine lv_ldc (own := RX3) (v := (-1000000)) hx hb hown (hts (.constant RX3 43 (-1000000)) (by decide +kernel)) dX3_find_36 ?_
      refine lv_ldc (own := RX3) (v := 1000000) hx hb hown (hts (.constant RX3 44 (1000000)) (by decide +kernel)) dX3_find_38 ?_
      refine xr_calli (va_runV (As := [.int (nI j), .int (nI 0), .int 0, .int (-1000000), .int 1000000]) (rest := [.int (nI j), .ref (ad 13)]) ⟨hx, hb, hml, hown, hts⟩ ((ct_playAt l en ad hI 8) c24 _ hg1 hc [] j 0 0 (-1000000) 1000000 hpr gm_ok_nil (by simp) hj gm_near_nil i_0 (by simp) (by simp) (by decide) (by decide) (by decide)) (cwV 5 hts gX3_find_X3_playAt rfl rfl rfl (by decide +kernel) ⟨Nat.le_of_ble_eq_true rfl, Nat.le_of_ble_eq_true rfl⟩) (ct_preV hE (va_recv hE.1 hP (ci := 3) (q0 := 2) rfl rfl) ⟨rfl, hP⟩) rfl rfl hl.1 rfl (lv_room (Nat.le_of_ble_eq_true rfl)) dX3_find_40 ⟨Nat.le_of_ble_eq_true rfl, Nat.le_of_ble_eq_true rfl⟩) hS (fun r40 c40 H locs w40 hP hS => ?_)
      have hr40 := ab_in w40.2.1 (vl_F_bd hg.ok hc hj).1 (vl_F_bd hg.ok hc hj).2
      refine xr_ist hx hb hE hP hI hS 13 (by decide) j rfl (show _ < 7 by omega) dX3_find_43 (fun H locs hP hS => ?_)
      obtain ⟨c43, ec43⟩ : ∃ z : Nat → Nat → Int32, z = va_up c40 13 (upd (c40 13) j r40) := ⟨_, rfl⟩
      rw [← ec43] at hP
      refine lv_aload_n hx hb dX3_find_44 rfl (lv_at hl 0 rfl) ?_
      refine va_get (D := en.1) (ci := 3) (v := .ref (ad 12)) (C := RX3) (T := TX3) (N := 4) hx hb hts iw_X3_find_X3 hown hE.1 hP 2 rfl rfl 2 (by decide) (hts (.fieldLink RX3 18 "CreditGame$Values" "known" "[Z") (by decide +kernel)) (fun _ h9 => h9) rfl dX3_find_45 ?_
      refine lv_iload_n hx hb dX3_find_48 rfl (lv_at hl 1 rfl) ?_
      refine lv_iconst (v := 1) hx hb dX3_find_49 (by decide) ?_
      refine xr_zst hx hb hE hP hI hS j rfl (by omega) dX3_find_50 (fun H locs hP hS => ?_)
      obtain ⟨c50, ec50⟩ : ∃ z : Nat → Nat → Int32, z = va_up c43 12 (upd (c43 12) j (vp_nar .boolean 1)) := ⟨_, rfl⟩
      rw [← ec50] at hP
      exact W.vret hx hb hr (fun t ht hW => ⟨⟨c50, rfl, (by first | exact ⟨kx.rf, hv_, fun q => absurd q (hv_nlt w5 b8), fun i _ q => q⟩ | exact ⟨kx.rf, hv_, fun _ => hk12, fun i _ q => q⟩ | exact find_end hv_ hc hj hr40 e24 w40.2.2.1 ec43 ec50), by show va_P _ _ _ t.heap; rw [ht]; exact hP⟩, hS.F ht⟩) hS.2.2 dX3_find_51
set_option maxHeartbeats 4000000 in
set_option maxRecDepth 100000 in
/--  -/
theorem ct_findAll (l : Launch) (en : en_T) (ad : Nat → Nat) (c : Nat → Nat → Int32) (hI : xw_I ad) (sz : Nat) {G : gr_T} (hg : gi G c) (hc : gr_cpl G) (hv_ : vi G c) : Met l yX3_findAll wsX3_findAll (rm_ 26 0 0) (ct_Pc en [.ref (ad 2)] (fun H => H.size = sz ∧ va_P en.1 vwCl (xw en ad c) H)) (va_Qv (fun c' => kx [12, 13, 18, 19] c c' ∧ vi G c' ∧ ∀ v, v < gr_n G → c' 12 v = 1) (fun c' t => va_P en.1 vwCl (xw en ad c') t.heap) (xw_A ad sz)) 0 0 (xw_A ad sz) := by
  refine Met.ofW (cc := cX3_findAll) (maxL := 2) (ret := none) (by decide) rfl ?_
  intro p e s m args below meth co s₁ B hml hv
  obtain ⟨rfl, hE, hsz, hP⟩ := hv
  subst hsz
  have hx := B.exec
  have hb := B.bytes
  have hr := B.returns
  have hts := atoms_spec (ws := wsX3_findAll) B.pre
  have hown : s.vm.findClass RX3 = some m.cls := findClass_of_methodNamed B.named
  have hlocks := B.notSynchronized
  have hS : va_S (xw_A ad s.heap.size) s.heap s.heap [] := va_S.rf
  have hl := lv_entry ([.ref (ad 2)]) (n := 2) (Nat.le_of_ble_eq_true rfl)
  rw [lg_entry_eq]
  generalize (lg_sl ([.ref (ad 2)]) ++ List.replicate (2 - (lg_sl ([.ref (ad 2)])).length) Slot.unset).toArray = ls at hl ⊢
  have hl : lv_has ls 2 [(0, .ref (ad 2))] := hl
  refine lv_iconst (v := (nI 0)) hx hb dX3_findAll_0 (by decide) ?_
  refine lv_istore_n (lv' := [(1, .int (nI 0)), (0, .ref (ad 2))]) hx hb dX3_findAll_1 rfl hl (by decide) rfl (fun ls hl => ?_)
  have key2 : ∀ (n_ : Nat) (i : Nat) (c_ : Nat → Nat → Int32) (H : Heap) (locs : List Loc) (ls : Array Slot), i ≤ 7 → 7 + 1 ≤ i + n_ → gi G c_ → kx [12, 13, 18, 19] c c_ → vi G c_ → (∀ v, v < i → v < gr_n G → c_ 12 v = 1) → va_P en.1 vwCl (xw en ad c_) H → va_S (xw_A ad s.heap.size) s.heap H locs → lv_has ls 2 [(0, .ref (ad 2)), (1, .int (nI i))] → W p l e (headSpec wsX3_findAll (rm_ 26 0 0)).room s m ([.ref (ad 2)] : List Value).toArray below meth co H locs 0 0 (MQ below (va_Qv (fun c' => kx [12, 13, 18, 19] c c' ∧ vi G c' ∧ ∀ v, v < gr_n G → c' 12 v = 1) (fun c' t => va_P en.1 vwCl (xw en ad c') t.heap) (xw_A ad s.heap.size)) ([.ref (ad 2)] : List Value).toArray s 0 0 (xw_A ad s.heap.size)) (F0 m 2 ls []) := by
    intro n_
    induction n_ with
    | zero =>
      intro i c_ H locs ls hi_ hin hg hkc hv_ hf hP hS hl
      exact absurd hin (by omega)
    | succ n_ ih2 =>
      intro i c_ H locs ls hi_ hin hg hkc hv_ hf hP hS hl
      refine lv_iload_n hx hb dX3_findAll_2 rfl (lv_at hl 1 rfl) ?_
      refine lv_bipush (v := (nI 7)) hx hb dX3_findAll_3 (by decide) ?_
      refine lv_icmp_ge (tgt := 19) hx hb dX3_findAll_5 (by decide) (fun b5 => ?_) (fun b5 => ?_)
      · skip
        have hin2 : i = 7 := by
          rcases Nat.lt_or_ge i 7 with q | q
          · exact absurd b5 (nI_ge q (by omega))
          · omega
        subst hin2
        exact W.vret hx hb hr (fun t ht hW => ⟨⟨c_, rfl, ⟨hkc, hv_, fun v h => hf v (by have := hg.n7; omega) h⟩, by show va_P _ _ _ t.heap; rw [ht]; exact hP⟩, hS.F ht⟩) hS.2.2 dX3_findAll_19
      · skip
        have hlt : i < 7 := by
          rcases Nat.lt_or_ge i 7 with q | q
          · exact q
          · exact absurd (nI_le q (by omega)) b5
        refine lv_aload_n hx hb dX3_findAll_8 rfl (lv_at hl 0 rfl) ?_
        refine lv_iload_n hx hb dX3_findAll_9 rfl (lv_at hl 1 rfl) ?_
        refine xr_callv (va_runV (As := [.int (nI i)]) (rest := []) ⟨hx, hb, hml, hown, hts⟩ (ct_find l en ad c_ hI _ hg hc hv_ i hlt) (cwV 1 hts gX3_findAll_X3_find rfl rfl rfl (by decide +kernel) ⟨Nat.le_of_ble_eq_true rfl, Nat.le_of_ble_eq_true rfl⟩) (ct_preV hE (va_recv hE.1 hP (ci := 3) (q0 := 2) rfl rfl) ⟨rfl, hP⟩) rfl rfl hl.1 rfl (lv_room (Nat.le_of_ble_eq_true rfl)) dX3_findAll_10 ⟨Nat.le_of_ble_eq_true rfl, Nat.le_of_ble_eq_true rfl⟩) hS (fun c10 H locs w10 hP hS => ?_)
        refine lv_iinc (v := (nI (i + 1))) (lv' := [(1, .int (nI (i + 1))), (0, .ref (ad 2))]) hx hb dX3_findAll_13 hl (k := 1) rfl (nI_1 _) (by decide) rfl (fun ls hl => ?_)
        refine lv_goto (tgt := 2) hx hb dX3_findAll_16 (by decide) ?_
        exact ih2 (i + 1) c10 _ _ _ (by omega) (by omega) (hg.kx w10.1 (by decide)) (hkc.tr w10.1) w10.2.1 (fun v h hn => by by_cases e : v = i; rw [e]; exact w10.2.2.1 (e ▸ hn); exact w10.2.2.2 v (by omega) (hf v (by omega) hn)) hP hS (lv_sub hl [1, 0] rfl)
  exact key2 (7 + 1) 0 c _ _ _ (by omega) (by omega) hg kx.rf hv_ (fun v h => absurd h (Nat.not_lt_zero v)) hP hS (lv_sub hl [1, 0] rfl)
set_option maxHeartbeats 4000000 in
set_option maxRecDepth 100000 in
/--  -/
theorem ct_bottomOf (l : Launch) (en : en_T) (ad : Nat → Nat) (c : Nat → Nat → Int32) {G : gr_T} (hg : gi G c) (j : Nat) (hj : j < gr_n G) (P : Int) (hP13 : (c 13 j).toInt = P) (hb1 : -3780 ≤ P) (hb2 : P ≤ 3780) : Met l yX3_bottomOf wsX3_bottomOf (rm_ 5 0 0) (ct_Pc en [.ref (ad 2), .int (nI j)] (fun H => va_P en.1 vwCl (xw en ad c) H)) (ro_Qi (fun r => r = nI (vl_q P))) 0 0 (fun _ => False) := by
  refine Met.ofW (cc := cX3_bottomOf) (maxL := 3) (ret := (some .int)) (by decide) rfl ?_
  intro p e s m args below meth co s₁ B hml hv
  obtain ⟨rfl, hE, hP⟩ := hv
  have hx := B.exec
  have hb := B.bytes
  have hr := B.returns
  have hts := atoms_spec (ws := wsX3_bottomOf) B.pre
  have hown : s.vm.findClass RX3 = some m.cls := findClass_of_methodNamed B.named
  have hlocks := B.notSynchronized
  have hl := lv_entry ([.ref (ad 2), .int (nI j)]) (n := 3) (Nat.le_of_ble_eq_true rfl)
  rw [lg_entry_eq]
  generalize (lg_sl ([.ref (ad 2), .int (nI j)]) ++ List.replicate (3 - (lg_sl ([.ref (ad 2), .int (nI j)])).length) Slot.unset).toArray = ls at hl ⊢
  have hl : lv_has ls 3 [(0, .ref (ad 2)), (1, .int (nI j))] := hl
  refine lv_iconst (v := (nI 1)) hx hb dX3_bottomOf_0 (by decide) ?_
  refine lv_istore_n (lv' := [(2, .int (nI 1)), (0, .ref (ad 2)), (1, .int (nI j))]) hx hb dX3_bottomOf_1 rfl hl (by decide) rfl (fun ls hl => ?_)
  have key2 : ∀ (n_ : Nat) (i : Nat) (ls : Array Slot), i ≤ 7 → 1 ≤ i → 7 + 1 ≤ i + n_ → (∀ x : Nat, 1 ≤ x → x < i → ¬ P * (x : Int) % 420 = 0) → lv_has ls 3 [(0, .ref (ad 2)), (1, .int (nI j)), (2, .int (nI i))] → W p l e (headSpec wsX3_bottomOf (rm_ 5 0 0)).room s m ([.ref (ad 2), .int (nI j)] : List Value).toArray below meth co s.heap [] 0 0 (MQ below (ro_Qi (fun r => r = nI (vl_q P))) ([.ref (ad 2), .int (nI j)] : List Value).toArray s 0 0 (fun _ => False)) (F0 m 2 ls []) := by
    intro n_
    induction n_ with
    | zero =>
      intro i ls hi_ hi1 hin hl_ hl
      exact absurd hin (by omega)
    | succ n_ ih2 =>
      intro i ls hi_ hi1 hin hl_ hl
      refine lv_iload_n hx hb dX3_bottomOf_2 rfl (lv_at hl 2 rfl) ?_
      refine lv_bipush (v := (nI 7)) hx hb dX3_bottomOf_3 (by decide) ?_
      refine lv_icmp_ge (tgt := 30) hx hb dX3_bottomOf_5 (by decide) (fun b5 => ?_) (fun b5 => ?_)
      · skip
        have hin2 : i = 7 := by
          rcases Nat.lt_or_ge i 7 with q | q
          · exact absurd b5 (nI_ge q (by omega))
          · omega
        subst hin2
        refine lv_bipush (v := (nI 7)) hx hb dX3_bottomOf_30 (by decide) ?_
        exact W.iret (v := (nI 7)) hx hb hr (fun t ht hW => ⟨_, rfl, (by rw [vl_q_eq hi1 hi_ (fun q => absurd q (by omega)) hl_]), ht⟩) (fun q h => by cases h) dX3_bottomOf_32
      · skip
        have hlt : i < 7 := by
          rcases Nat.lt_or_ge i 7 with q | q
          · exact q
          · exact absurd (nI_le q (by omega)) b5
        refine lv_aload_n hx hb dX3_bottomOf_8 rfl (lv_at hl 0 rfl) ?_
        refine lv_iload_n hx hb dX3_bottomOf_9 rfl (lv_at hl 1 rfl) ?_
        refine ro_calli (va_runV (As := [.int (nI j)]) (rest := []) ⟨hx, hb, hml, hown, hts⟩ (ct_partsOf l en ad c hg j (by have := hg.n7; omega)) (cwV 1 hts gX3_bottomOf_X3_partsOf rfl rfl rfl (by decide +kernel) ⟨Nat.le_of_ble_eq_true rfl, Nat.le_of_ble_eq_true rfl⟩) (ct_preV hE (va_recv hE.1 hP (ci := 3) (q0 := 2) rfl rfl) hP) rfl rfl hl.1 rfl (lv_room (Nat.le_of_ble_eq_true rfl)) dX3_bottomOf_10 ⟨Nat.le_of_ble_eq_true rfl, Nat.le_of_ble_eq_true rfl⟩) (fun r10 w10 => ?_)
        obtain rfl : r10 = (c 13 j) := (w10.trans (if_pos hj))
        refine lv_iload_n hx hb dX3_bottomOf_13 rfl (lv_at hl 2 rfl) ?_
        refine lv_imul hx hb dX3_bottomOf_14 ?_
        refine lv_topi (fun y1 hy1 => ?_)
        have hy1i : y1.toInt = P * (i : Int) := by
          have hb3 : -26460 ≤ P * (i : Int) ∧ P * (i : Int) ≤ 26460 := by
            rcases (show i = 1 ∨ i = 2 ∨ i = 3 ∨ i = 4 ∨ i = 5 ∨ i = 6 by omega) with rfl | rfl | rfl | rfl | rfl | rfl <;> simp <;> omega
          rw [hy1, i_mul (by rw [hP13, nI_toInt (by omega)]; omega) (by rw [hP13, nI_toInt (by omega)]; omega), hP13, nI_toInt (by omega)]
        have hrem := i_rem420 (y := y1) (by rw [hy1i]; rcases (show i = 1 ∨ i = 2 ∨ i = 3 ∨ i = 4 ∨ i = 5 ∨ i = 6 by omega) with rfl | rfl | rfl | rfl | rfl | rfl <;> simp <;> omega) (by rw [hy1i]; rcases (show i = 1 ∨ i = 2 ∨ i = 3 ∨ i = 4 ∨ i = 5 ∨ i = 6 by omega) with rfl | rfl | rfl | rfl | rfl | rfl <;> simp <;> omega)
        rw [hy1i] at hrem
        refine lv_sipush (v := 420) hx hb dX3_bottomOf_15 (by decide) ?_
        refine lv_irem hx hb dX3_bottomOf_18 (by decide) ?_
        refine lv_if_ne (tgt := 24) hx hb dX3_bottomOf_19 (by decide) (fun b19 => ?_) (fun b19 => ?_)
        · skip
          refine lv_iinc (v := (nI (i + 1))) (lv' := [(2, .int (nI (i + 1))), (0, .ref (ad 2)), (1, .int (nI j))]) hx hb dX3_bottomOf_24 hl (k := 2) rfl (nI_1 _) (by decide) rfl (fun ls hl => ?_)
          refine lv_goto (tgt := 2) hx hb dX3_bottomOf_27 (by decide) ?_
          exact ih2 (i + 1) _ (by omega) (by omega) (by omega) (fun x h1 h2 => by by_cases e : x = i; rw [e]; exact fun q => b19 (hrem.mpr q); exact hl_ x h1 (by omega)) (lv_sub hl [1, 2, 0] rfl)
        · skip
          refine lv_iload_n hx hb dX3_bottomOf_22 rfl (lv_at hl 2 rfl) ?_
          exact W.iret (v := (nI i)) hx hb hr (fun t ht hW => ⟨_, rfl, (by rw [vl_q_eq hi1 hi_ (fun _ => hrem.mp b19) hl_]), ht⟩) (fun q h => by cases h) dX3_bottomOf_23
  exact key2 (7 + 1) 1 _ (by omega) (by omega) (by omega) (fun x h1 h2 => absurd h2 (by omega)) (lv_sub hl [1, 2, 0] rfl)
set_option maxHeartbeats 4000000 in
set_option maxRecDepth 100000 in
/--  -/
theorem ct_topOf (l : Launch) (en : en_T) (ad : Nat → Nat) (c : Nat → Nat → Int32) {G : gr_T} (hg : gi G c) (j : Nat) (hj : j < gr_n G) (P : Int) (hP13 : (c 13 j).toInt = P) (hb1 : -3780 ≤ P) (hb2 : P ≤ 3780) (hdv : P * (vl_q P : Int) % 420 = 0) : Met l yX3_topOf wsX3_topOf (rm_ 6 0 0) (ct_Pc en [.ref (ad 2), .int (nI j)] (fun H => va_P en.1 vwCl (xw en ad c) H)) (ro_Qi (fun r => r.toInt = vl_t P)) 0 0 (fun _ => False) := by
  refine Met.ofW (cc := cX3_topOf) (maxL := 2) (ret := (some .int)) (by decide) rfl ?_
  intro p e s m args below meth co s₁ B hml hv
  obtain ⟨rfl, hE, hP⟩ := hv
  have hx := B.exec
  have hb := B.bytes
  have hr := B.returns
  have hts := atoms_spec (ws := wsX3_topOf) B.pre
  have hown : s.vm.findClass RX3 = some m.cls := findClass_of_methodNamed B.named
  have hlocks := B.notSynchronized
  have hl := lv_entry ([.ref (ad 2), .int (nI j)]) (n := 2) (Nat.le_of_ble_eq_true rfl)
  rw [lg_entry_eq]
  generalize (lg_sl ([.ref (ad 2), .int (nI j)]) ++ List.replicate (2 - (lg_sl ([.ref (ad 2), .int (nI j)])).length) Slot.unset).toArray = ls at hl ⊢
  have hl : lv_has ls 2 [(0, .ref (ad 2)), (1, .int (nI j))] := hl
  refine lv_aload_n hx hb dX3_topOf_0 rfl (lv_at hl 0 rfl) ?_
  refine lv_iload_n hx hb dX3_topOf_1 rfl (lv_at hl 1 rfl) ?_
  refine ro_calli (va_runV (As := [.int (nI j)]) (rest := []) ⟨hx, hb, hml, hown, hts⟩ (ct_partsOf l en ad c hg j (by have := hg.n7; omega)) (cwV 1 hts gX3_topOf_X3_partsOf rfl rfl rfl (by decide +kernel) ⟨Nat.le_of_ble_eq_true rfl, Nat.le_of_ble_eq_true rfl⟩) (ct_preV hE (va_recv hE.1 hP (ci := 3) (q0 := 2) rfl rfl) hP) rfl rfl hl.1 rfl (lv_room (Nat.le_of_ble_eq_true rfl)) dX3_topOf_2 ⟨Nat.le_of_ble_eq_true rfl, Nat.le_of_ble_eq_true rfl⟩) (fun r2 w2 => ?_)
  obtain rfl : r2 = (c 13 j) := (w2.trans (if_pos hj))
  refine lv_aload_n hx hb dX3_topOf_5 rfl (lv_at hl 0 rfl) ?_
  refine lv_iload_n hx hb dX3_topOf_6 rfl (lv_at hl 1 rfl) ?_
  refine ro_calli (va_runV (As := [.int (nI j)]) (rest := [.int (c 13 j)]) ⟨hx, hb, hml, hown, hts⟩ (ct_bottomOf l en ad c hg j hj P hP13 hb1 hb2) (cwV 1 hts gX3_topOf_X3_bottomOf rfl rfl rfl (by decide +kernel) ⟨Nat.le_of_ble_eq_true rfl, Nat.le_of_ble_eq_true rfl⟩) (ct_preV hE (va_recv hE.1 hP (ci := 3) (q0 := 2) rfl rfl) hP) rfl rfl hl.1 rfl (lv_room (Nat.le_of_ble_eq_true rfl)) dX3_topOf_7 ⟨Nat.le_of_ble_eq_true rfl, Nat.le_of_ble_eq_true rfl⟩) (fun r7 w7 => ?_)
  obtain rfl : r7 = (nI (vl_q P)) := w7
  refine lv_imul hx hb dX3_topOf_10 ?_
  refine lv_topi (fun y1 hy1 => ?_)
  have hq7 := vl_q_bd P
  have hb3 : -26460 ≤ P * (vl_q P : Int) ∧ P * (vl_q P : Int) ≤ 26460 := by
    generalize vl_q P = q at hq7
    rcases (show q = 1 ∨ q = 2 ∨ q = 3 ∨ q = 4 ∨ q = 5 ∨ q = 6 ∨ q = 7 by omega) with rfl | rfl | rfl | rfl | rfl | rfl | rfl <;> simp <;> omega
  have hy1i : y1.toInt = P * (vl_q P : Int) := by
    rw [hy1, i_mul (by rw [hP13, nI_toInt (by omega)]; omega) (by rw [hP13, nI_toInt (by omega)]; omega), hP13, nI_toInt (by omega)]
  refine lv_sipush (v := 420) hx hb dX3_topOf_11 (by decide) ?_
  refine lv_idiv hx hb dX3_topOf_14 (by decide) ?_
  exact W.iret (v := (y1 / 420)) hx hb hr (fun t ht hW => ⟨_, rfl, (by show (y1 / 420).toInt = vl_t P; rw [i_div420, hy1i, Int.tdiv_eq_ediv, if_pos (Or.inr (Int.dvd_of_emod_eq_zero hdv)), Int.add_zero]; rfl), ht⟩) (fun q h => by cases h) dX3_topOf_15
