/-! ===== CreditGameModel: settle, walk ===== -/
theorem nI_m1 {k : Nat} (h : k < 1000) : nI k ≠ -1 := fun q => by
  have h1 := congrArg Int32.toInt q
  rw [nI_toInt (by omega), i_m1] at h1
  omega
theorem iw_X5_settle_X5 : ∀ w ∈ wsX50, w ∈ wsX5_settle := by decide +kernel
set_option maxHeartbeats 4000000 in
set_option maxRecDepth 100000 in
/--  -/
theorem cm_settle (l : Launch) (en : en_T) (bd : Nat → Nat) (d : mT) (hI : mw_I bd) (sz : Nat) {G : gr_T} (hc_ : mci G d) (x : Int32) : Met l yX5_settle wsX5_settle (rm_ 8 0 0) (ct_Pc en [.ref (bd 0), .int x] (fun H => H.size = sz ∧ va_P en.1 vwCl (mw en bd d) H)) (va_Qi (fun r d' => (¬ (x = 0 ∨ x = 1) ∧ d'.1 0 0 = 1 ∧ mci G d') ∨ ((x = 0 ∨ x = 1) ∧ ¬ gr_cpl G ∧ d'.1 0 0 = 2 ∧ mci G d') ∨ (gr_cpl G ∧ ∃ pl, pl < 2 ∧ x = nI pl ∧ r = nI (gr_cn G pl 7) ∧ d'.1 0 0 = 0 ∧ mci (gr_st G pl 7) d')) (fun d' t => va_P en.1 vwCl (mw en bd d') t.heap) (mw_A bd sz)) 0 0 (mw_A bd sz) := by
  refine Met.ofW (cc := cX5_settle) (maxL := 4) (ret := (some .int)) (by decide) rfl ?_
  intro p e s m args below meth co s₁ B hml hv
  obtain ⟨rfl, hE, hsz, hP⟩ := hv
  subst hsz
  have hx := B.exec
  have hb := B.bytes
  have hr := B.returns
  have hts := atoms_spec (ws := wsX5_settle) B.pre
  have hown : s.vm.findClass RX5 = some m.cls := findClass_of_methodNamed B.named
  have hlocks := B.notSynchronized
  have hS : va_S (mw_A bd s.heap.size) s.heap s.heap [] := va_S.rf
  have hl := lv_entry ([.ref (bd 0), .int x]) (n := 4) (Nat.le_of_ble_eq_true rfl)
  rw [lg_entry_eq]
  generalize (lg_sl ([.ref (bd 0), .int x]) ++ List.replicate (4 - (lg_sl ([.ref (bd 0), .int x])).length) Slot.unset).toArray = ls at hl ⊢
  have hl : lv_has ls 4 [(0, .ref (bd 0)), (1, .int x)] := hl
  have hm := hc_.1
  have hn7 := hm.n7
  have he24 := hm.e24
  refine lv_aload_n hx hb dX5_settle_0 rfl (lv_at hl 0 rfl) ?_
  refine lv_iload_n hx hb dX5_settle_1 rfl (lv_at hl 1 rfl) ?_
  refine lv_if_eq (tgt := 14) hx hb dX5_settle_2 (by decide) (fun b2 => ?_) (fun b2 => ?_)
  · skip
    have hpl : (x = 0 ∨ x = 1) := Or.inl b2
    obtain ⟨pl, hpl2, ex⟩ : ∃ pl, pl < 2 ∧ x = nI pl := ⟨0, by omega, b2⟩
    refine lv_aload_n hx hb dX5_settle_14 rfl (lv_at hl 0 rfl) ?_
    refine ro_calli (va_runV (As := []) (rest := [.ref (bd 0)]) ⟨hx, hb, hml, hown, hts⟩ (cm_isComplete l en bd d hm) (cwV 0 hts gX5_settle_X5_isComplete rfl rfl rfl (by decide +kernel) ⟨Nat.le_of_ble_eq_true rfl, Nat.le_of_ble_eq_true rfl⟩) (ct_preV hE (va_recv hE.1 hP (ci := 5) (q0 := 0) rfl rfl) hP) rfl rfl hl.1 rfl (lv_room (Nat.le_of_ble_eq_true rfl)) dX5_settle_15 ⟨Nat.le_of_ble_eq_true rfl, Nat.le_of_ble_eq_true rfl⟩) (fun r15 w15 => ?_)
    refine lv_if_eq (tgt := 25) hx hb dX5_settle_18 (by decide) (fun b18 => ?_) (fun b18 => ?_)
    · skip
      skip
      have hcp : ¬ gr_cpl G := (w15.resolve_left (fun q => absurd (q.1.symm.trans b18) (by decide))).2
      refine lv_iconst (v := 2) hx hb dX5_settle_25 (by decide) ?_
      refine va_put (D := en.1) (ci := 5) (v := .int 2) (ty := .int) (C := RX5) (T := TX5) (N := 16) hx hb hts iw_X5_settle_X5 tyX5 tyX5_ok nmX5 hown hE.1 hP (mw_D hI) hS 0 rfl rfl 0 (by decide) (hts (.fieldLink RX5 47 "CreditGameModel" "thrown" "I") (by decide +kernel)) (fun _ h9 => h9) rfl (by decide +kernel) rfl rfl (Nat.le_of_ble_eq_true rfl) dX5_settle_26 (fun H locs hP _ hS => ?_)
      have hP : va_P en.1 vwCl (mw en bd (va_up d.1 0 (upd (d.1 0) 0 2), d.2)) H := hP
      obtain ⟨d26, ed26⟩ : ∃ z : mT, z = (va_up d.1 0 (upd (d.1 0) 0 2), d.2) := ⟨_, rfl⟩
      rw [← ed26] at hP
      have ht26 : mth d d26 _ := ed26
      have hm1 := ht26.mi hm
      refine lv_aload_n hx hb dX5_settle_29 rfl (lv_at hl 0 rfl) ?_
      refine va_get (D := en.1) (ci := 5) (v := .int (d26.1 0 0)) (C := RX5) (T := TX5) (N := 16) hx hb hts iw_X5_settle_X5 hown hE.1 hP 0 rfl rfl 0 (by decide) (hts (.fieldLink RX5 47 "CreditGameModel" "thrown" "I") (by decide +kernel)) (fun _ h9 => h9) rfl dX5_settle_30 ?_
      refine lv_topi (fun z_30 ez_30 => ?_)
      obtain rfl : z_30 = 2 := (ez_30.trans (by rw [ed26]; rfl))
      refine lv_if_le (tgt := 38) hx hb dX5_settle_33 (by decide) (fun b33 => absurd b33 (by decide)) (fun b33 => ?_)
      refine lv_iconst (v := 0) hx hb dX5_settle_36 (by decide) ?_
      exact W.iret (v := 0) hx hb hr (fun t ht hW => ⟨⟨_, d26, rfl, (Or.inr (Or.inl ⟨hpl, hcp, ht26.thr, ht26.mci hc_⟩)), by show va_P _ _ _ t.heap; rw [ht]; exact hP⟩, hS.F ht⟩) hS.2.2 dX5_settle_37
    · skip
      skip
      have hcp : gr_cpl G := (w15.resolve_right (fun q => b18 q.1)).2
      refine lv_iconst (v := 0) hx hb dX5_settle_21 (by decide) ?_
      refine lv_goto (tgt := 26) hx hb dX5_settle_22 (by decide) ?_
      refine va_put (D := en.1) (ci := 5) (v := .int 0) (ty := .int) (C := RX5) (T := TX5) (N := 16) hx hb hts iw_X5_settle_X5 tyX5 tyX5_ok nmX5 hown hE.1 hP (mw_D hI) hS 0 rfl rfl 0 (by decide) (hts (.fieldLink RX5 47 "CreditGameModel" "thrown" "I") (by decide +kernel)) (fun _ h9 => h9) rfl (by decide +kernel) rfl rfl (Nat.le_of_ble_eq_true rfl) dX5_settle_26 (fun H locs hP _ hS => ?_)
      have hP : va_P en.1 vwCl (mw en bd (va_up d.1 0 (upd (d.1 0) 0 0), d.2)) H := hP
      obtain ⟨d26, ed26⟩ : ∃ z : mT, z = (va_up d.1 0 (upd (d.1 0) 0 0), d.2) := ⟨_, rfl⟩
      rw [← ed26] at hP
      have ht26 : mth d d26 _ := ed26
      have hm1 := ht26.mi hm
      refine lv_aload_n hx hb dX5_settle_29 rfl (lv_at hl 0 rfl) ?_
      refine va_get (D := en.1) (ci := 5) (v := .int (d26.1 0 0)) (C := RX5) (T := TX5) (N := 16) hx hb hts iw_X5_settle_X5 hown hE.1 hP 0 rfl rfl 0 (by decide) (hts (.fieldLink RX5 47 "CreditGameModel" "thrown" "I") (by decide +kernel)) (fun _ h9 => h9) rfl dX5_settle_30 ?_
      refine lv_topi (fun z_30 ez_30 => ?_)
      obtain rfl : z_30 = 0 := (ez_30.trans (by rw [ed26]; rfl))
      refine lv_if_le (tgt := 38) hx hb dX5_settle_33 (by decide) (fun b33 => ?_) (fun b33 => absurd b33 (fun q => q (by decide)))
      refine lv_iconst (v := (nI 0)) hx hb dX5_settle_38 (by decide) ?_
      refine lv_istore_n (lv' := [(2, .int (nI 0)), (0, .ref (bd 0)), (1, .int x)]) hx hb dX5_settle_39 rfl hl (by decide) rfl (fun ls hl => ?_)
      rw [ex] at hl
      have key40 : ∀ (n_ : Nat) (i : Nat) (d_ : mT) (H : Heap) (locs : List Loc) (ls : Array Slot), i ≤ gr_n G → gr_n G + 1 ≤ i + n_ → bk2 G d26 d_ → (∀ u, u < i → d_.1 12 u = gr_ch G pl u) → va_P en.1 vwCl (mw en bd d_) H → va_S (mw_A bd s.heap.size) s.heap H locs → lv_has ls 4 [(0, .ref (bd 0)), (1, .int (nI pl)), (2, .int (nI i))] → W p l e (headSpec wsX5_settle (rm_ 8 0 0)).room s m ([.ref (bd 0), .int x] : List Value).toArray below meth co H locs 0 0 (MQ below (va_Qi (fun r d' => (¬ (x = 0 ∨ x = 1) ∧ d'.1 0 0 = 1 ∧ mci G d') ∨ ((x = 0 ∨ x = 1) ∧ ¬ gr_cpl G ∧ d'.1 0 0 = 2 ∧ mci G d') ∨ (gr_cpl G ∧ ∃ pl, pl < 2 ∧ x = nI pl ∧ r = nI (gr_cn G pl 7) ∧ d'.1 0 0 = 0 ∧ mci (gr_st G pl 7) d')) (fun d' t => va_P en.1 vwCl (mw en bd d') t.heap) (mw_A bd s.heap.size)) ([.ref (bd 0), .int x] : List Value).toArray s 0 0 (mw_A bd s.heap.size)) (F0 m 40 ls []) := by
        intro n_
        induction n_ with
        | zero =>
          intro i d_ H locs ls hi_ hin hb_ hch hP hS hl
          exact absurd hin (by omega)
        | succ n_ ih40 =>
          intro i d_ H locs ls hi_ hin hb_ hch hP hS hl
          have hmd := hb_.2.2.1
          refine lv_iload_n hx hb dX5_settle_40 rfl (lv_at hl 2 rfl) ?_
          refine lv_aload_n hx hb dX5_settle_41 rfl (lv_at hl 0 rfl) ?_
          refine va_get (D := en.1) (ci := 5) (v := .int (d_.1 0 1)) (C := RX5) (T := TX5) (N := 16) hx hb hts iw_X5_settle_X5 hown hE.1 hP 0 rfl rfl 1 (by decide) (hts (.fieldLink RX5 51 "CreditGameModel" "vertices" "I") (by decide +kernel)) (fun _ h9 => h9) rfl dX5_settle_42 ?_
          refine lv_icmp_ge (tgt := 89) hx hb dX5_settle_45 (by decide) (fun b45 => ?_) (fun b45 => ?_)
          · skip
            have hin9 : i = gr_n G := by
              rcases Nat.lt_or_ge i (gr_n G) with q | q
              · exact absurd b45 (by rw [hmd.2.1]; exact nI_ge q (by omega))
              · omega
            refine lv_iconst (v := (nI (gr_cn G pl 0))) hx hb dX5_settle_89 rfl ?_
            refine lv_istore_n (lv' := [(2, .int (nI (gr_cn G pl 0))), (0, .ref (bd 0)), (1, .int (nI pl))]) hx hb dX5_settle_90 rfl hl (by decide) rfl (fun ls hl => ?_)
            refine lv_iconst (v := (nI 0)) hx hb dX5_settle_91 (by decide) ?_
            refine lv_istore_n (lv' := [(3, .int (nI 0)), (2, .int (nI (gr_cn G pl 0))), (0, .ref (bd 0)), (1, .int (nI pl))]) hx hb dX5_settle_92 rfl hl (by decide) rfl (fun ls hl => ?_)
            have hch : ∀ u, u < gr_n G → d_.1 12 u = gr_ch G pl u := fun u hu => hch u (by omega)
            have key93 : ∀ (n_ : Nat) (i : Nat) (e_ : mT) (H : Heap) (locs : List Loc) (ls : Array Slot), i ≤ gr_n G → gr_n G + 1 ≤ i + n_ → mi (gr_st G pl i) e_ → e_.1 0 = d_.1 0 → e_.1 6 = d_.1 6 → e_.1 7 = d_.1 7 → e_.1 12 = d_.1 12 → va_P en.1 vwCl (mw en bd e_) H → va_S (mw_A bd s.heap.size) s.heap H locs → lv_has ls 4 [(0, .ref (bd 0)), (1, .int (nI pl)), (2, .int (nI (gr_cn G pl i))), (3, .int (nI i))] → W p l e (headSpec wsX5_settle (rm_ 8 0 0)).room s m ([.ref (bd 0), .int x] : List Value).toArray below meth co H locs 0 0 (MQ below (va_Qi (fun r d' => (¬ (x = 0 ∨ x = 1) ∧ d'.1 0 0 = 1 ∧ mci G d') ∨ ((x = 0 ∨ x = 1) ∧ ¬ gr_cpl G ∧ d'.1 0 0 = 2 ∧ mci G d') ∨ (gr_cpl G ∧ ∃ pl, pl < 2 ∧ x = nI pl ∧ r = nI (gr_cn G pl 7) ∧ d'.1 0 0 = 0 ∧ mci (gr_st G pl 7) d')) (fun d' t => va_P en.1 vwCl (mw en bd d') t.heap) (mw_A bd s.heap.size)) ([.ref (bd 0), .int x] : List Value).toArray s 0 0 (mw_A bd s.heap.size)) (F0 m 93 ls []) := by
              intro n_
              induction n_ with
              | zero =>
                intro i e_ H locs ls hi2 hin2 hst h0_ h6_ h7_ h12 hP hS hl
                exact absurd hin2 (by omega)
              | succ n_ ih93 =>
                intro i e_ H locs ls hi2 hin2 hst h0_ h6_ h7_ h12 hP hS hl
                have hse := gr_st_eq G pl i
                refine lv_iload_n hx hb dX5_settle_93 rfl (lv_at hl 3 rfl) ?_
                refine lv_aload_n hx hb dX5_settle_94 rfl (lv_at hl 0 rfl) ?_
                refine va_get (D := en.1) (ci := 5) (v := .int (e_.1 0 1)) (C := RX5) (T := TX5) (N := 16) hx hb hts iw_X5_settle_X5 hown hE.1 hP 0 rfl rfl 1 (by decide) (hts (.fieldLink RX5 51 "CreditGameModel" "vertices" "I") (by decide +kernel)) (fun _ h9 => h9) rfl dX5_settle_95 ?_
                refine lv_icmp_ge (tgt := 135) hx hb dX5_settle_98 (by decide) (fun b98 => ?_) (fun b98 => ?_)
                · skip
                  have hin9 : i = gr_n G := by
                    rcases Nat.lt_or_ge i (gr_n G) with q | q
                    · exact absurd b98 (by rw [hst.2.1, hse.1]; exact nI_ge q (by omega))
                    · omega
                  have hsn := gr_st_n (G := G) (pl := pl) 7 hn7
                  rw [hin9] at hst
                  rw [← hsn.1] at hst
                  have hcn7 : gr_cn G pl i = gr_cn G pl 7 := by rw [hin9, hsn.2]
                  refine lv_aload_n hx hb dX5_settle_135 rfl (lv_at hl 0 rfl) ?_
                  refine lv_aload_n hx hb dX5_settle_136 rfl (lv_at hl 0 rfl) ?_
                  refine va_get (D := en.1) (ci := 5) (v := .int (e_.1 0 3)) (C := RX5) (T := TX5) (N := 16) hx hb hts iw_X5_settle_X5 hown hE.1 hP 0 rfl rfl 8 (by decide) (hts (.fieldLink RX5 61 "CreditGameModel" "known" "Z") (by decide +kernel)) (fun _ h9 => h9) rfl dX5_settle_137 ?_
                  refine lv_if_eq (tgt := 151) hx hb dX5_settle_140 (by decide) (fun b140 => ?_) (fun b140 => ?_)
                  · skip
                    refine lv_iconst (v := 0) hx hb dX5_settle_151 (by decide) ?_
                    refine va_put (D := en.1) (ci := 5) (v := .int 0) (ty := .boolean) (C := RX5) (T := TX5) (N := 16) hx hb hts iw_X5_settle_X5 tyX5 tyX5_ok nmX5 hown hE.1 hP (mw_D hI) hS 0 rfl rfl 8 (by decide) (hts (.fieldLink RX5 61 "CreditGameModel" "known" "Z") (by decide +kernel)) (fun _ h9 => h9) rfl (by decide +kernel) rfl rfl (Nat.le_of_ble_eq_true rfl) dX5_settle_152 (fun H locs hP _ hS => ?_)
                    have hP : va_P en.1 vwCl (mw en bd (va_up e_.1 0 (upd (e_.1 0) 3 0), e_.2)) H := hP
                    obtain ⟨d152, ed152⟩ : ∃ z : mT, z = (va_up e_.1 0 (upd (e_.1 0) 3 0), e_.2) := ⟨_, rfl⟩
                    rw [← ed152] at hP
                    refine lv_iload_n hx hb dX5_settle_155 rfl (lv_at hl 2 rfl) ?_
                    exact W.iret (v := (nI (gr_cn G pl i))) hx hb hr (fun t ht hW => ⟨⟨_, d152, rfl, (Or.inr (Or.inr ⟨hcp, pl, hpl2, ex, by rw [hcn7], by rw [ed152]; show e_.1 0 0 = 0; rw [h0_]; exact (hb_.2.1 0 (by omega)).trans ht26.thr, mi_eq hst (by rw [ed152]; rfl) (by rw [ed152]; rfl) (fun k9 h1 _ => by rw [ed152]; exact up_ne (by omega)), (mkn_0 (by rw [ed152]; rfl))⟩)), by show va_P _ _ _ t.heap; rw [ht]; exact hP⟩, hS.F ht⟩) hS.2.2 dX5_settle_156
                  · skip
                    refine lv_iload_n hx hb dX5_settle_143 rfl (lv_at hl 2 rfl) ?_
                    refine lv_if_ne (tgt := 151) hx hb dX5_settle_144 (by decide) (fun b144 => ?_) (fun b144 => ?_)
                    · skip
                      refine lv_iconst (v := 0) hx hb dX5_settle_151 (by decide) ?_
                      refine va_put (D := en.1) (ci := 5) (v := .int 0) (ty := .boolean) (C := RX5) (T := TX5) (N := 16) hx hb hts iw_X5_settle_X5 tyX5 tyX5_ok nmX5 hown hE.1 hP (mw_D hI) hS 0 rfl rfl 8 (by decide) (hts (.fieldLink RX5 61 "CreditGameModel" "known" "Z") (by decide +kernel)) (fun _ h9 => h9) rfl (by decide +kernel) rfl rfl (Nat.le_of_ble_eq_true rfl) dX5_settle_152 (fun H locs hP _ hS => ?_)
                      have hP : va_P en.1 vwCl (mw en bd (va_up e_.1 0 (upd (e_.1 0) 3 0), e_.2)) H := hP
                      obtain ⟨d152, ed152⟩ : ∃ z : mT, z = (va_up e_.1 0 (upd (e_.1 0) 3 0), e_.2) := ⟨_, rfl⟩
                      rw [← ed152] at hP
                      refine lv_iload_n hx hb dX5_settle_155 rfl (lv_at hl 2 rfl) ?_
                      exact W.iret (v := (nI (gr_cn G pl i))) hx hb hr (fun t ht hW => ⟨⟨_, d152, rfl, (Or.inr (Or.inr ⟨hcp, pl, hpl2, ex, by rw [hcn7], by rw [ed152]; show e_.1 0 0 = 0; rw [h0_]; exact (hb_.2.1 0 (by omega)).trans ht26.thr, mi_eq hst (by rw [ed152]; rfl) (by rw [ed152]; rfl) (fun k9 h1 _ => by rw [ed152]; exact up_ne (by omega)), (mkn_0 (by rw [ed152]; rfl))⟩)), by show va_P _ _ _ t.heap; rw [ht]; exact hP⟩, hS.F ht⟩) hS.2.2 dX5_settle_156
                    · skip
                      skip
                      have hz7 : gr_cn G pl 7 = 0 := by
                        have h9 := gr_cn_le G pl i
                        rw [← hcn7]
                        exact (nI_eq (b := 0) (by omega) (by omega)).mp b144
                      have hd3 : d_.1 0 3 = 1 := by
                        rcases hb_.2.2.2 with q | q
                        · exact absurd (by rw [h0_]; exact q) b140
                        · exact q.1
                      refine lv_iconst (v := 1) hx hb dX5_settle_147 (by decide) ?_
                      refine lv_goto (tgt := 152) hx hb dX5_settle_148 (by decide) ?_
                      refine va_put (D := en.1) (ci := 5) (v := .int 1) (ty := .boolean) (C := RX5) (T := TX5) (N := 16) hx hb hts iw_X5_settle_X5 tyX5 tyX5_ok nmX5 hown hE.1 hP (mw_D hI) hS 0 rfl rfl 8 (by decide) (hts (.fieldLink RX5 61 "CreditGameModel" "known" "Z") (by decide +kernel)) (fun _ h9 => h9) rfl (by decide +kernel) rfl rfl (Nat.le_of_ble_eq_true rfl) dX5_settle_152 (fun H locs hP _ hS => ?_)
                      have hP : va_P en.1 vwCl (mw en bd (va_up e_.1 0 (upd (e_.1 0) 3 1), e_.2)) H := hP
                      obtain ⟨d152, ed152⟩ : ∃ z : mT, z = (va_up e_.1 0 (upd (e_.1 0) 3 1), e_.2) := ⟨_, rfl⟩
                      rw [← ed152] at hP
                      refine lv_iload_n hx hb dX5_settle_155 rfl (lv_at hl 2 rfl) ?_
                      exact W.iret (v := (nI (gr_cn G pl i))) hx hb hr (fun t ht hW => ⟨⟨_, d152, rfl, (Or.inr (Or.inr ⟨hcp, pl, hpl2, ex, by rw [hcn7], by rw [ed152]; show e_.1 0 0 = 0; rw [h0_]; exact (hb_.2.1 0 (by omega)).trans ht26.thr, mi_eq hst (by rw [ed152]; rfl) (by rw [ed152]; rfl) (fun k9 h1 _ => by rw [ed152]; exact up_ne (by omega)), (by rw [gr_st_0 7 hz7]; exact mkn_eq hb_.2.2.2 (by rw [ed152, hd3]; rfl) (by rw [ed152]; exact h6_) (by rw [ed152]; exact h7_))⟩)), by show va_P _ _ _ t.heap; rw [ht]; exact hP⟩, hS.F ht⟩) hS.2.2 dX5_settle_156
                · skip
                  have hlt : i < gr_n G := by
                    rcases Nat.lt_or_ge i (gr_n G) with q | q
                    · exact q
                    · exact absurd (by rw [hst.2.1, hse.1]; exact nI_le q (by omega)) b98
                  have hci := hch i (by omega)
                  refine lv_aload_n hx hb dX5_settle_101 rfl (lv_at hl 0 rfl) ?_
                  refine va_get (D := en.1) (ci := 5) (v := .ref (bd 12)) (C := RX5) (T := TX5) (N := 16) hx hb hts iw_X5_settle_X5 hown hE.1 hP 0 rfl rfl 15 (by decide) (hts (.fieldLink RX5 44 "CreditGameModel" "chosen" "[I") (by decide +kernel)) (fun _ h9 => h9) rfl dX5_settle_102 ?_
                  refine lv_iload_n hx hb dX5_settle_105 rfl (lv_at hl 3 rfl) ?_
                  refine mr_ild hx hb hE hP 12 (by decide) i rfl (show _ < 7 by omega) dX5_settle_106 ?_
                  refine lv_topi (fun z_106 ez_106 => ?_)
                  obtain rfl : z_106 = (gr_ch G pl i) := (ez_106.trans (by rw [h12, hci]))
                  refine lv_iconst (v := (-1)) hx hb dX5_settle_107 (by decide) ?_
                  refine lv_icmp_ne (tgt := 114) hx hb dX5_settle_108 (by decide) (fun b108 => ?_) (fun b108 => ?_)
                  · skip
                    skip
                    have hop : gr_op G pl i = true := by
                      cases q : gr_op G pl i with
                      | true => rfl
                      | false => exact absurd (show gr_ch G pl i = -1 from if_neg (by rw [q]; decide)) b108
                    refine lv_aload_n hx hb dX5_settle_114 rfl (lv_at hl 0 rfl) ?_
                    refine va_get (D := en.1) (ci := 5) (v := .ref (bd 2)) (C := RX5) (T := TX5) (N := 16) hx hb hts iw_X5_settle_X5 hown hE.1 hP 0 rfl rfl 3 (by decide) (hts (.fieldLink RX5 13 "CreditGameModel" "fixedTo" "[I") (by decide +kernel)) (fun _ h9 => h9) rfl dX5_settle_115 ?_
                    refine lv_iload_n hx hb dX5_settle_118 rfl (lv_at hl 3 rfl) ?_
                    refine lv_aload_n hx hb dX5_settle_119 rfl (lv_at hl 0 rfl) ?_
                    refine va_get (D := en.1) (ci := 5) (v := .ref (bd 12)) (C := RX5) (T := TX5) (N := 16) hx hb hts iw_X5_settle_X5 hown hE.1 hP 0 rfl rfl 15 (by decide) (hts (.fieldLink RX5 44 "CreditGameModel" "chosen" "[I") (by decide +kernel)) (fun _ h9 => h9) rfl dX5_settle_120 ?_
                    refine lv_iload_n hx hb dX5_settle_123 rfl (lv_at hl 3 rfl) ?_
                    refine mr_ild hx hb hE hP 12 (by decide) i rfl (show _ < 7 by omega) dX5_settle_124 ?_
                    refine lv_topi (fun z_124 ez_124 => ?_)
                    obtain rfl : z_124 = (nI (gr_best G i)) := (ez_124.trans (by rw [h12, hci]; exact if_pos hop))
                    refine mr_ist hx hb hE hP hI hS 2 (by decide) i rfl (show _ < 7 by omega) dX5_settle_125 (fun H locs hP hS => ?_)
                    obtain ⟨d125, ed125⟩ : ∃ z : mT, z = (va_up e_.1 2 (upd (e_.1 2) i (nI (gr_best G i))), e_.2) := ⟨_, rfl⟩
                    rw [← ed125] at hP
                    refine lv_iinc (v := (nI ((gr_cn G pl i) + 1))) (lv' := [(2, .int (nI ((gr_cn G pl i) + 1))), (0, .ref (bd 0)), (1, .int (nI pl)), (3, .int (nI i))]) hx hb dX5_settle_126 hl (k := 2) rfl (nI_1 _) (by decide) rfl (fun ls hl => ?_)
                    have hcn : gr_cn G pl (i + 1) = gr_cn G pl i + 1 := by simp only [gr_cn, hop, if_true]
                    rw [← hcn] at hl
                    refine lv_iinc (v := (nI (i + 1))) (lv' := [(3, .int (nI (i + 1))), (2, .int (nI (gr_cn G pl (i + 1)))), (0, .ref (bd 0)), (1, .int (nI pl))]) hx hb dX5_settle_129 hl (k := 3) rfl (nI_1 _) (by decide) rfl (fun ls hl => ?_)
                    refine lv_goto (tgt := 93) hx hb dX5_settle_132 (by decide) ?_
                    exact ih93 (i + 1) d125 _ _ _ (by omega) (by omega) (mi_st hm.1 hcp hst hop rfl ed125) (by rw [ed125]; exact h0_) (by rw [ed125]; exact h6_) (by rw [ed125]; exact h7_) (by rw [ed125]; exact h12) hP hS (lv_sub hl [2, 3, 1, 0] rfl)
                  · skip
                    skip
                    have hop : gr_op G pl i = false := by
                      cases q : gr_op G pl i with
                      | false => rfl
                      | true => exact absurd ((show gr_ch G pl i = nI (gr_best G i) from if_pos q).symm.trans b108) (nI_m1 (by have := (gr_adj_mem hm.1 hlt (gr_best_in hm.1 hcp i hlt)).1; omega))
                    refine lv_goto (tgt := 129) hx hb dX5_settle_111 (by decide) ?_
                    have hcn : gr_cn G pl (i + 1) = gr_cn G pl i := by simp only [gr_cn, hop]; rfl
                    rw [← hcn] at hl
                    refine lv_iinc (v := (nI (i + 1))) (lv' := [(3, .int (nI (i + 1))), (0, .ref (bd 0)), (1, .int (nI pl)), (2, .int (nI (gr_cn G pl (i + 1))))]) hx hb dX5_settle_129 hl (k := 3) rfl (nI_1 _) (by decide) rfl (fun ls hl => ?_)
                    refine lv_goto (tgt := 93) hx hb dX5_settle_132 (by decide) ?_
                    exact ih93 (i + 1) e_ _ _ _ (by omega) (by omega) (by simp only [gr_st, hop]; exact hst) h0_ h6_ h7_ h12 hP hS (lv_sub hl [1, 2, 3, 0] rfl)
            exact key93 (gr_n G + 1) 0 d_ _ _ _ (Nat.zero_le _) (by omega) hb_.2.2.1 rfl rfl rfl rfl hP hS (lv_sub hl [2, 3, 1, 0] rfl)
          · skip
            have hlt : i < gr_n G := by
              rcases Nat.lt_or_ge i (gr_n G) with q | q
              · exact q
              · exact absurd (by rw [hmd.2.1]; exact nI_le q (by omega)) b45
            refine lv_aload_n hx hb dX5_settle_48 rfl (lv_at hl 0 rfl) ?_
            refine va_get (D := en.1) (ci := 5) (v := .ref (bd 12)) (C := RX5) (T := TX5) (N := 16) hx hb hts iw_X5_settle_X5 hown hE.1 hP 0 rfl rfl 15 (by decide) (hts (.fieldLink RX5 44 "CreditGameModel" "chosen" "[I") (by decide +kernel)) (fun _ h9 => h9) rfl dX5_settle_49 ?_
            refine lv_iload_n hx hb dX5_settle_52 rfl (lv_at hl 2 rfl) ?_
            refine lv_aload_n hx hb dX5_settle_53 rfl (lv_at hl 0 rfl) ?_
            refine va_get (D := en.1) (ci := 5) (v := .ref (bd 1)) (C := RX5) (T := TX5) (N := 16) hx hb hts iw_X5_settle_X5 hown hE.1 hP 0 rfl rfl 2 (by decide) (hts (.fieldLink RX5 7 "CreditGameModel" "player" "[I") (by decide +kernel)) (fun _ h9 => h9) rfl dX5_settle_54 ?_
            refine lv_iload_n hx hb dX5_settle_57 rfl (lv_at hl 2 rfl) ?_
            refine mr_ild hx hb hE hP 1 (by decide) i rfl (show _ < 7 by omega) dX5_settle_58 ?_
            refine lv_topi (fun z_58 ez_58 => ?_)
            obtain rfl : z_58 = (gr_own G i) := (ez_58.trans (hmd.2.2.2.1 i hlt).1)
            refine lv_iload_n hx hb dX5_settle_59 rfl (lv_at hl 1 rfl) ?_
            refine lv_icmp_ne (tgt := 81) hx hb dX5_settle_60 (by decide) (fun b60 => ?_) (fun b60 => ?_)
            · skip
              skip
              have hop : gr_op G pl i = false := gr_op_f (fun q => b60 q.2.1)
              refine lv_iconst (v := (-1)) hx hb dX5_settle_81 (by decide) ?_
              refine mr_ist hx hb hE hP hI hS 12 (by decide) i rfl (show _ < 7 by omega) dX5_settle_82 (fun H locs hP hS => ?_)
              obtain ⟨d82, ed82⟩ : ∃ z : mT, z = (va_up d_.1 12 (upd (d_.1 12) i (-1)), d_.2) := ⟨_, rfl⟩
              rw [← ed82] at hP
              refine lv_iinc (v := (nI (i + 1))) (lv' := [(2, .int (nI (i + 1))), (0, .ref (bd 0)), (1, .int (nI pl))]) hx hb dX5_settle_83 hl (k := 2) rfl (nI_1 _) (by decide) rfl (fun ls hl => ?_)
              refine lv_goto (tgt := 40) hx hb dX5_settle_86 (by decide) ?_
              exact ih40 (i + 1) d82 _ _ _ (by omega) (by omega) (by rw [ed82]; exact bk2_up hb_) (fun u h => by rw [ed82]; show upd (d_.1 12) i (-1) u = _; by_cases e9 : u = i; rw [e9, ud_at]; exact (if_neg (by rw [hop]; decide)).symm; rw [ud_ne e9]; exact hch u (by omega)) hP hS (lv_sub hl [1, 2, 0] rfl)
            · skip
              refine lv_aload_n hx hb dX5_settle_63 rfl (lv_at hl 0 rfl) ?_
              refine va_get (D := en.1) (ci := 5) (v := .ref (bd 2)) (C := RX5) (T := TX5) (N := 16) hx hb hts iw_X5_settle_X5 hown hE.1 hP 0 rfl rfl 3 (by decide) (hts (.fieldLink RX5 13 "CreditGameModel" "fixedTo" "[I") (by decide +kernel)) (fun _ h9 => h9) rfl dX5_settle_64 ?_
              refine lv_iload_n hx hb dX5_settle_67 rfl (lv_at hl 2 rfl) ?_
              refine mr_ild hx hb hE hP 2 (by decide) i rfl (show _ < 7 by omega) dX5_settle_68 ?_
              refine lv_topi (fun z_68 ez_68 => ?_)
              obtain rfl : z_68 = (gr_fx G i) := (ez_68.trans (hmd.2.2.2.1 i hlt).2)
              refine lv_iconst (v := (-1)) hx hb dX5_settle_69 (by decide) ?_
              refine lv_icmp_ne (tgt := 81) hx hb dX5_settle_70 (by decide) (fun b70 => ?_) (fun b70 => ?_)
              · skip
                skip
                have hop : gr_op G pl i = false := gr_op_f (fun q => b70 q.2.2)
                refine lv_iconst (v := (-1)) hx hb dX5_settle_81 (by decide) ?_
                refine mr_ist hx hb hE hP hI hS 12 (by decide) i rfl (show _ < 7 by omega) dX5_settle_82 (fun H locs hP hS => ?_)
                obtain ⟨d82, ed82⟩ : ∃ z : mT, z = (va_up d_.1 12 (upd (d_.1 12) i (-1)), d_.2) := ⟨_, rfl⟩
                rw [← ed82] at hP
                refine lv_iinc (v := (nI (i + 1))) (lv' := [(2, .int (nI (i + 1))), (0, .ref (bd 0)), (1, .int (nI pl))]) hx hb dX5_settle_83 hl (k := 2) rfl (nI_1 _) (by decide) rfl (fun ls hl => ?_)
                refine lv_goto (tgt := 40) hx hb dX5_settle_86 (by decide) ?_
                exact ih40 (i + 1) d82 _ _ _ (by omega) (by omega) (by rw [ed82]; exact bk2_up hb_) (fun u h => by rw [ed82]; show upd (d_.1 12) i (-1) u = _; by_cases e9 : u = i; rw [e9, ud_at]; exact (if_neg (by rw [hop]; decide)).symm; rw [ud_ne e9]; exact hch u (by omega)) hP hS (lv_sub hl [1, 2, 0] rfl)
              · skip
                skip
                have hop := gr_op_i hlt b60 b70
                refine lv_aload_n hx hb dX5_settle_73 rfl (lv_at hl 0 rfl) ?_
                refine lv_iload_n hx hb dX5_settle_74 rfl (lv_at hl 2 rfl) ?_
                refine mr_calli (va_runV (As := [.int (nI i)]) (rest := [.int (nI i), .ref (bd 12)]) ⟨hx, hb, hml, hown, hts⟩ (cm_bestOf l en bd d_ hI _ hb_.2.2 hcp i hlt) (cwV 1 hts gX5_settle_X5_bestOf rfl rfl rfl (by decide +kernel) ⟨Nat.le_of_ble_eq_true rfl, Nat.le_of_ble_eq_true rfl⟩) (ct_preV hE (va_recv hE.1 hP (ci := 5) (q0 := 0) rfl rfl) ⟨rfl, hP⟩) rfl rfl hl.1 rfl (lv_room (Nat.le_of_ble_eq_true rfl)) dX5_settle_75 ⟨Nat.le_of_ble_eq_true rfl, Nat.le_of_ble_eq_true rfl⟩) hS (fun r75 d75 H locs w75 hP hS => ?_)
                refine lv_goto (tgt := 82) hx hb dX5_settle_78 (by decide) ?_
                refine mr_ist hx hb hE hP hI hS 12 (by decide) i rfl (show _ < 7 by omega) dX5_settle_82 (fun H locs hP hS => ?_)
                obtain ⟨d82, ed82⟩ : ∃ z : mT, z = (va_up d75.1 12 (upd (d75.1 12) i r75), d75.2) := ⟨_, rfl⟩
                rw [← ed82] at hP
                refine lv_iinc (v := (nI (i + 1))) (lv' := [(2, .int (nI (i + 1))), (0, .ref (bd 0)), (1, .int (nI pl))]) hx hb dX5_settle_83 hl (k := 2) rfl (nI_1 _) (by decide) rfl (fun ls hl => ?_)
                refine lv_goto (tgt := 40) hx hb dX5_settle_86 (by decide) ?_
                exact ih40 (i + 1) d82 _ _ _ (by omega) (by omega) (by rw [ed82]; exact bk2_up (bk2_tr hb_ w75.2)) (fun u h => by rw [ed82]; show upd (d75.1 12) i r75 u = _; by_cases e9 : u = i; rw [e9, ud_at, w75.1]; exact (if_pos hop).symm; rw [ud_ne e9, w75.2.1 12 (by decide)]; exact hch u (by omega)) hP hS (lv_sub hl [1, 2, 0] rfl)
      exact key40 (gr_n G + 1) 0 d26 _ _ _ (Nat.zero_le _) (by omega) (bk2_rf (ht26.mci hc_)) (fun u h => absurd h (Nat.not_lt_zero u)) hP hS (lv_sub hl [1, 2, 0] rfl)
  · skip
    refine lv_iload_n hx hb dX5_settle_5 rfl (lv_at hl 1 rfl) ?_
    refine lv_iconst (v := 1) hx hb dX5_settle_6 (by decide) ?_
    refine lv_icmp_eq (tgt := 14) hx hb dX5_settle_7 (by decide) (fun b7 => ?_) (fun b7 => ?_)
    · skip
      have hpl : (x = 0 ∨ x = 1) := Or.inr b7
      obtain ⟨pl, hpl2, ex⟩ : ∃ pl, pl < 2 ∧ x = nI pl := ⟨1, by omega, b7⟩
      refine lv_aload_n hx hb dX5_settle_14 rfl (lv_at hl 0 rfl) ?_
      refine ro_calli (va_runV (As := []) (rest := [.ref (bd 0)]) ⟨hx, hb, hml, hown, hts⟩ (cm_isComplete l en bd d hm) (cwV 0 hts gX5_settle_X5_isComplete rfl rfl rfl (by decide +kernel) ⟨Nat.le_of_ble_eq_true rfl, Nat.le_of_ble_eq_true rfl⟩) (ct_preV hE (va_recv hE.1 hP (ci := 5) (q0 := 0) rfl rfl) hP) rfl rfl hl.1 rfl (lv_room (Nat.le_of_ble_eq_true rfl)) dX5_settle_15 ⟨Nat.le_of_ble_eq_true rfl, Nat.le_of_ble_eq_true rfl⟩) (fun r15 w15 => ?_)
      refine lv_if_eq (tgt := 25) hx hb dX5_settle_18 (by decide) (fun b18 => ?_) (fun b18 => ?_)
      · skip
        skip
        have hcp : ¬ gr_cpl G := (w15.resolve_left (fun q => absurd (q.1.symm.trans b18) (by decide))).2
        refine lv_iconst (v := 2) hx hb dX5_settle_25 (by decide) ?_
        refine va_put (D := en.1) (ci := 5) (v := .int 2) (ty := .int) (C := RX5) (T := TX5) (N := 16) hx hb hts iw_X5_settle_X5 tyX5 tyX5_ok nmX5 hown hE.1 hP (mw_D hI) hS 0 rfl rfl 0 (by decide) (hts (.fieldLink RX5 47 "CreditGameModel" "thrown" "I") (by decide +kernel)) (fun _ h9 => h9) rfl (by decide +kernel) rfl rfl (Nat.le_of_ble_eq_true rfl) dX5_settle_26 (fun H locs hP _ hS => ?_)
        have hP : va_P en.1 vwCl (mw en bd (va_up d.1 0 (upd (d.1 0) 0 2), d.2)) H := hP
        obtain ⟨d26, ed26⟩ : ∃ z : mT, z = (va_up d.1 0 (upd (d.1 0) 0 2), d.2) := ⟨_, rfl⟩
        rw [← ed26] at hP
        have ht26 : mth d d26 _ := ed26
        have hm1 := ht26.mi hm
        refine lv_aload_n hx hb dX5_settle_29 rfl (lv_at hl 0 rfl) ?_
        refine va_get (D := en.1) (ci := 5) (v := .int (d26.1 0 0)) (C := RX5) (T := TX5) (N := 16) hx hb hts iw_X5_settle_X5 hown hE.1 hP 0 rfl rfl 0 (by decide) (hts (.fieldLink RX5 47 "CreditGameModel" "thrown" "I") (by decide +kernel)) (fun _ h9 => h9) rfl dX5_settle_30 ?_
        refine lv_topi (fun z_30 ez_30 => ?_)
        obtain rfl : z_30 = 2 := (ez_30.trans (by rw [ed26]; rfl))
        refine lv_if_le (tgt := 38) hx hb dX5_settle_33 (by decide) (fun b33 => absurd b33 (by decide)) (fun b33 => ?_)
        refine lv_iconst (v := 0) hx hb dX5_settle_36 (by decide) ?_
        exact W.iret (v := 0) hx hb hr (fun t ht hW => ⟨⟨_, d26, rfl, (Or.inr (Or.inl ⟨hpl, hcp, ht26.thr, ht26.mci hc_⟩)), by show va_P _ _ _ t.heap; rw [ht]; exact hP⟩, hS.F ht⟩) hS.2.2 dX5_settle_37
      · skip
        skip
        have hcp : gr_cpl G := (w15.resolve_right (fun q => b18 q.1)).2
        refine lv_iconst (v := 0) hx hb dX5_settle_21 (by decide) ?_
        refine lv_goto (tgt := 26) hx hb dX5_settle_22 (by decide) ?_
        refine va_put (D := en.1) (ci := 5) (v := .int 0) (ty := .int) (C := RX5) (T := TX5) (N := 16) hx hb hts iw_X5_settle_X5 tyX5 tyX5_ok nmX5 hown hE.1 hP (mw_D hI) hS 0 rfl rfl 0 (by decide) (hts (.fieldLink RX5 47 "CreditGameModel" "thrown" "I") (by decide +kernel)) (fun _ h9 => h9) rfl (by decide +kernel) rfl rfl (Nat.le_of_ble_eq_true rfl) dX5_settle_26 (fun H locs hP _ hS => ?_)
        have hP : va_P en.1 vwCl (mw en bd (va_up d.1 0 (upd (d.1 0) 0 0), d.2)) H := hP
        obtain ⟨d26, ed26⟩ : ∃ z : mT, z = (va_up d.1 0 (upd (d.1 0) 0 0), d.2) := ⟨_, rfl⟩
        rw [← ed26] at hP
        have ht26 : mth d d26 _ := ed26
        have hm1 := ht26.mi hm
        refine lv_aload_n hx hb dX5_settle_29 rfl (lv_at hl 0 rfl) ?_
        refine va_get (D := en.1) (ci := 5) (v := .int (d26.1 0 0)) (C := RX5) (T := TX5) (N := 16) hx hb hts iw_X5_settle_X5 hown hE.1 hP 0 rfl rfl 0 (by decide) (hts (.fieldLink RX5 47 "CreditGameModel" "thrown" "I") (by decide +kernel)) (fun _ h9 => h9) rfl dX5_settle_30 ?_
        refine lv_topi (fun z_30 ez_30 => ?_)
        obtain rfl : z_30 = 0 := (ez_30.trans (by rw [ed26]; rfl))
        refine lv_if_le (tgt := 38) hx hb dX5_settle_33 (by decide) (fun b33 => ?_) (fun b33 => absurd b33 (fun q => q (by decide)))
        refine lv_iconst (v := (nI 0)) hx hb dX5_settle_38 (by decide) ?_
        refine lv_istore_n (lv' := [(2, .int (nI 0)), (0, .ref (bd 0)), (1, .int x)]) hx hb dX5_settle_39 rfl hl (by decide) rfl (fun ls hl => ?_)
        rw [ex] at hl
        have key40 : ∀ (n_ : Nat) (i : Nat) (d_ : mT) (H : Heap) (locs : List Loc) (ls : Array Slot), i ≤ gr_n G → gr_n G + 1 ≤ i + n_ → bk2 G d26 d_ → (∀ u, u < i → d_.1 12 u = gr_ch G pl u) → va_P en.1 vwCl (mw en bd d_) H → va_S (mw_A bd s.heap.size) s.heap H locs → lv_has ls 4 [(0, .ref (bd 0)), (1, .int (nI pl)), (2, .int (nI i))] → W p l e (headSpec wsX5_settle (rm_ 8 0 0)).room s m ([.ref (bd 0), .int x] : List Value).toArray below meth co H locs 0 0 (MQ below (va_Qi (fun r d' => (¬ (x = 0 ∨ x = 1) ∧ d'.1 0 0 = 1 ∧ mci G d') ∨ ((x = 0 ∨ x = 1) ∧ ¬ gr_cpl G ∧ d'.1 0 0 = 2 ∧ mci G d') ∨ (gr_cpl G ∧ ∃ pl, pl < 2 ∧ x = nI pl ∧ r = nI (gr_cn G pl 7) ∧ d'.1 0 0 = 0 ∧ mci (gr_st G pl 7) d')) (fun d' t => va_P en.1 vwCl (mw en bd d') t.heap) (mw_A bd s.heap.size)) ([.ref (bd 0), .int x] : List Value).toArray s 0 0 (mw_A bd s.heap.size)) (F0 m 40 ls []) := by
          intro n_
          induction n_ with
          | zero =>
            intro i d_ H locs ls hi_ hin hb_ hch hP hS hl
            exact absurd hin (by omega)
          | succ n_ ih40 =>
            intro i d_ H locs ls hi_ hin hb_ hch hP hS hl
            have hmd := hb_.2.2.1
            refine lv_iload_n hx hb dX5_settle_40 rfl (lv_at hl 2 rfl) ?_
            refine lv_aload_n hx hb dX5_settle_41 rfl (lv_at hl 0 rfl) ?_
            refine va_get (D := en.1) (ci := 5) (v := .int (d_.1 0 1)) (C := RX5) (T := TX5) (N := 16) hx hb hts iw_X5_settle_X5 hown hE.1 hP 0 rfl rfl 1 (by decide) (hts (.fieldLink RX5 51 "CreditGameModel" "vertices" "I") (by decide +kernel)) (fun _ h9 => h9) rfl dX5_settle_42 ?_
            refine lv_icmp_ge (tgt := 89) hx hb dX5_settle_45 (by decide) (fun b45 => ?_) (fun b45 => ?_)
            · skip
              have hin9 : i = gr_n G := by
                rcases Nat.lt_or_ge i (gr_n G) with q | q
                · exact absurd b45 (by rw [hmd.2.1]; exact nI_ge q (by omega))
                · omega
              refine lv_iconst (v := (nI (gr_cn G pl 0))) hx hb dX5_settle_89 rfl ?_
              refine lv_istore_n (lv' := [(2, .int (nI (gr_cn G pl 0))), (0, .ref (bd 0)), (1, .int (nI pl))]) hx hb dX5_settle_90 rfl hl (by decide) rfl (fun ls hl => ?_)
              refine lv_iconst (v := (nI 0)) hx hb dX5_settle_91 (by decide) ?_
              refine lv_istore_n (lv' := [(3, .int (nI 0)), (2, .int (nI (gr_cn G pl 0))), (0, .ref (bd 0)), (1, .int (nI pl))]) hx hb dX5_settle_92 rfl hl (by decide) rfl (fun ls hl => ?_)
              have hch : ∀ u, u < gr_n G → d_.1 12 u = gr_ch G pl u := fun u hu => hch u (by omega)
              have key93 : ∀ (n_ : Nat) (i : Nat) (e_ : mT) (H : Heap) (locs : List Loc) (ls : Array Slot), i ≤ gr_n G → gr_n G + 1 ≤ i + n_ → mi (gr_st G pl i) e_ → e_.1 0 = d_.1 0 → e_.1 6 = d_.1 6 → e_.1 7 = d_.1 7 → e_.1 12 = d_.1 12 → va_P en.1 vwCl (mw en bd e_) H → va_S (mw_A bd s.heap.size) s.heap H locs → lv_has ls 4 [(0, .ref (bd 0)), (1, .int (nI pl)), (2, .int (nI (gr_cn G pl i))), (3, .int (nI i))] → W p l e (headSpec wsX5_settle (rm_ 8 0 0)).room s m ([.ref (bd 0), .int x] : List Value).toArray below meth co H locs 0 0 (MQ below (va_Qi (fun r d' => (¬ (x = 0 ∨ x = 1) ∧ d'.1 0 0 = 1 ∧ mci G d') ∨ ((x = 0 ∨ x = 1) ∧ ¬ gr_cpl G ∧ d'.1 0 0 = 2 ∧ mci G d') ∨ (gr_cpl G ∧ ∃ pl, pl < 2 ∧ x = nI pl ∧ r = nI (gr_cn G pl 7) ∧ d'.1 0 0 = 0 ∧ mci (gr_st G pl 7) d')) (fun d' t => va_P en.1 vwCl (mw en bd d') t.heap) (mw_A bd s.heap.size)) ([.ref (bd 0), .int x] : List Value).toArray s 0 0 (mw_A bd s.heap.size)) (F0 m 93 ls []) := by
                intro n_
                induction n_ with
                | zero =>
                  intro i e_ H locs ls hi2 hin2 hst h0_ h6_ h7_ h12 hP hS hl
                  exact absurd hin2 (by omega)
                | succ n_ ih93 =>
                  intro i e_ H locs ls hi2 hin2 hst h0_ h6_ h7_ h12 hP hS hl
                  have hse := gr_st_eq G pl i
                  refine lv_iload_n hx hb dX5_settle_93 rfl (lv_at hl 3 rfl) ?_
                  refine lv_aload_n hx hb dX5_settle_94 rfl (lv_at hl 0 rfl) ?_
                  refine va_get (D := en.1) (ci := 5) (v := .int (e_.1 0 1)) (C := RX5) (T := TX5) (N := 16) hx hb hts iw_X5_settle_X5 hown hE.1 hP 0 rfl rfl 1 (by decide) (hts (.fieldLink RX5 51 "CreditGameModel" "vertices" "I") (by decide +kernel)) (fun _ h9 => h9) rfl dX5_settle_95 ?_
                  refine lv_icmp_ge (tgt := 135) hx hb dX5_settle_98 (by decide) (fun b98 => ?_) (fun b98 => ?_)
                  · skip
                    have hin9 : i = gr_n G := by
                      rcases Nat.lt_or_ge i (gr_n G) with q | q
                      · exact absurd b98 (by rw [hst.2.1, hse.1]; exact nI_ge q (by omega))
                      · omega
                    have hsn := gr_st_n (G := G) (pl := pl) 7 hn7
                    rw [hin9] at hst
                    rw [← hsn.1] at hst
                    have hcn7 : gr_cn G pl i = gr_cn G pl 7 := by rw [hin9, hsn.2]
                    refine lv_aload_n hx hb dX5_settle_135 rfl (lv_at hl 0 rfl) ?_
                    refine lv_aload_n hx hb dX5_settle_136 rfl (lv_at hl 0 rfl) ?_
                    refine va_get (D := en.1) (ci := 5) (v := .int (e_.1 0 3)) (C := RX5) (T := TX5) (N := 16) hx hb hts iw_X5_settle_X5 hown hE.1 hP 0 rfl rfl 8 (by decide) (hts (.fieldLink RX5 61 "CreditGameModel" "known" "Z") (by decide +kernel)) (fun _ h9 => h9) rfl dX5_settle_137 ?_
                    refine lv_if_eq (tgt := 151) hx hb dX5_settle_140 (by decide) (fun b140 => ?_) (fun b140 => ?_)
                    · skip
                      refine lv_iconst (v := 0) hx hb dX5_settle_151 (by decide) ?_
                      refine va_put (D := en.1) (ci := 5) (v := .int 0) (ty := .boolean) (C := RX5) (T := TX5) (N := 16) hx hb hts iw_X5_settle_X5 tyX5 tyX5_ok nmX5 hown hE.1 hP (mw_D hI) hS 0 rfl rfl 8 (by decide) (hts (.fieldLink RX5 61 "CreditGameModel" "known" "Z") (by decide +kernel)) (fun _ h9 => h9) rfl (by decide +kernel) rfl rfl (Nat.le_of_ble_eq_true rfl) dX5_settle_152 (fun H locs hP _ hS => ?_)
                      have hP : va_P en.1 vwCl (mw en bd (va_up e_.1 0 (upd (e_.1 0) 3 0), e_.2)) H := hP
                      obtain ⟨d152, ed152⟩ : ∃ z : mT, z = (va_up e_.1 0 (upd (e_.1 0) 3 0), e_.2) := ⟨_, rfl⟩
                      rw [← ed152] at hP
                      refine lv_iload_n hx hb dX5_settle_155 rfl (lv_at hl 2 rfl) ?_
                      exact W.iret (v := (nI (gr_cn G pl i))) hx hb hr (fun t ht hW => ⟨⟨_, d152, rfl, (Or.inr (Or.inr ⟨hcp, pl, hpl2, ex, by rw [hcn7], by rw [ed152]; show e_.1 0 0 = 0; rw [h0_]; exact (hb_.2.1 0 (by omega)).trans ht26.thr, mi_eq hst (by rw [ed152]; rfl) (by rw [ed152]; rfl) (fun k9 h1 _ => by rw [ed152]; exact up_ne (by omega)), (mkn_0 (by rw [ed152]; rfl))⟩)), by show va_P _ _ _ t.heap; rw [ht]; exact hP⟩, hS.F ht⟩) hS.2.2 dX5_settle_156
                    · skip
                      refine lv_iload_n hx hb dX5_settle_143 rfl (lv_at hl 2 rfl) ?_
                      refine lv_if_ne (tgt := 151) hx hb dX5_settle_144 (by decide) (fun b144 => ?_) (fun b144 => ?_)
                      · skip
                        refine lv_iconst (v := 0) hx hb dX5_settle_151 (by decide) ?_
                        refine va_put (D := en.1) (ci := 5) (v := .int 0) (ty := .boolean) (C := RX5) (T := TX5) (N := 16) hx hb hts iw_X5_settle_X5 tyX5 tyX5_ok nmX5 hown hE.1 hP (mw_D hI) hS 0 rfl rfl 8 (by decide) (hts (.fieldLink RX5 61 "CreditGameModel" "known" "Z") (by decide +kernel)) (fun _ h9 => h9) rfl (by decide +kernel) rfl rfl (Nat.le_of_ble_eq_true rfl) dX5_settle_152 (fun H locs hP _ hS => ?_)
                        have hP : va_P en.1 vwCl (mw en bd (va_up e_.1 0 (upd (e_.1 0) 3 0), e_.2)) H := hP
                        obtain ⟨d152, ed152⟩ : ∃ z : mT, z = (va_up e_.1 0 (upd (e_.1 0) 3 0), e_.2) := ⟨_, rfl⟩
                        rw [← ed152] at hP
                        refine lv_iload_n hx hb dX5_settle_155 rfl (lv_at hl 2 rfl) ?_
                        exact W.iret (v := (nI (gr_cn G pl i))) hx hb hr (fun t ht hW => ⟨⟨_, d152, rfl, (Or.inr (Or.inr ⟨hcp, pl, hpl2, ex, by rw [hcn7], by rw [ed152]; show e_.1 0 0 = 0; rw [h0_]; exact (hb_.2.1 0 (by omega)).trans ht26.thr, mi_eq hst (by rw [ed152]; rfl) (by rw [ed152]; rfl) (fun k9 h1 _ => by rw [ed152]; exact up_ne (by omega)), (mkn_0 (by rw [ed152]; rfl))⟩)), by show va_P _ _ _ t.heap; rw [ht]; exact hP⟩, hS.F ht⟩) hS.2.2 dX5_settle_156
                      · skip
                        skip
                        have hz7 : gr_cn G pl 7 = 0 := by
                          have h9 := gr_cn_le G pl i
                          rw [← hcn7]
                          exact (nI_eq (b := 0) (by omega) (by omega)).mp b144
                        have hd3 : d_.1 0 3 = 1 := by
                          rcases hb_.2.2.2 with q | q
                          · exact absurd (by rw [h0_]; exact q) b140
                          · exact q.1
                        refine lv_iconst (v := 1) hx hb dX5_settle_147 (by decide) ?_
                        refine lv_goto (tgt := 152) hx hb dX5_settle_148 (by decide) ?_
                        refine va_put (D := en.1) (ci := 5) (v := .int 1) (ty := .boolean) (C := RX5) (T := TX5) (N := 16) hx hb hts iw_X5_settle_X5 tyX5 tyX5_ok nmX5 hown hE.1 hP (mw_D hI) hS 0 rfl rfl 8 (by decide) (hts (.fieldLink RX5 61 "CreditGameModel" "known" "Z") (by decide +kernel)) (fun _ h9 => h9) rfl (by decide +kernel) rfl rfl (Nat.le_of_ble_eq_true rfl) dX5_settle_152 (fun H locs hP _ hS => ?_)
                        have hP : va_P en.1 vwCl (mw en bd (va_up e_.1 0 (upd (e_.1 0) 3 1), e_.2)) H := hP
                        obtain ⟨d152, ed152⟩ : ∃ z : mT, z = (va_up e_.1 0 (upd (e_.1 0) 3 1), e_.2) := ⟨_, rfl⟩
                        rw [← ed152] at hP
                        refine lv_iload_n hx hb dX5_settle_155 rfl (lv_at hl 2 rfl) ?_
                        exact W.iret (v := (nI (gr_cn G pl i))) hx hb hr (fun t ht hW => ⟨⟨_, d152, rfl, (Or.inr (Or.inr ⟨hcp, pl, hpl2, ex, by rw [hcn7], by rw [ed152]; show e_.1 0 0 = 0; rw [h0_]; exact (hb_.2.1 0 (by omega)).trans ht26.thr, mi_eq hst (by rw [ed152]; rfl) (by rw [ed152]; rfl) (fun k9 h1 _ => by rw [ed152]; exact up_ne (by omega)), (by rw [gr_st_0 7 hz7]; exact mkn_eq hb_.2.2.2 (by rw [ed152, hd3]; rfl) (by rw [ed152]; exact h6_) (by rw [ed152]; exact h7_))⟩)), by show va_P _ _ _ t.heap; rw [ht]; exact hP⟩, hS.F ht⟩) hS.2.2 dX5_settle_156
                  · skip
                    have hlt : i < gr_n G := by
                      rcases Nat.lt_or_ge i (gr_n G) with q | q
                      · exact q
                      · exact absurd (by rw [hst.2.1, hse.1]; exact nI_le q (by omega)) b98
                    have hci := hch i (by omega)
                    refine lv_aload_n hx hb dX5_settle_101 rfl (lv_at hl 0 rfl) ?_
                    refine va_get (D := en.1) (ci := 5) (v := .ref (bd 12)) (C := RX5) (T := TX5) (N := 16) hx hb hts iw_X5_settle_X5 hown hE.1 hP 0 rfl rfl 15 (by decide) (hts (.fieldLink RX5 44 "CreditGameModel" "chosen" "[I") (by decide +kernel)) (fun _ h9 => h9) rfl dX5_settle_102 ?_
                    refine lv_iload_n hx hb dX5_settle_105 rfl (lv_at hl 3 rfl) ?_
                    refine mr_ild hx hb hE hP 12 (by decide) i rfl (show _ < 7 by omega) dX5_settle_106 ?_
                    refine lv_topi (fun z_106 ez_106 => ?_)
                    obtain rfl : z_106 = (gr_ch G pl i) := (ez_106.trans (by rw [h12, hci]))
                    refine lv_iconst (v := (-1)) hx hb dX5_settle_107 (by decide) ?_
                    refine lv_icmp_ne (tgt := 114) hx hb dX5_settle_108 (by decide) (fun b108 => ?_) (fun b108 => ?_)
                    · skip
                      skip
                      have hop : gr_op G pl i = true := by
                        cases q : gr_op G pl i with
                        | true => rfl
                        | false => exact absurd (show gr_ch G pl i = -1 from if_neg (by rw [q]; decide)) b108
                      refine lv_aload_n hx hb dX5_settle_114 rfl (lv_at hl 0 rfl) ?_
                      refine va_get (D := en.1) (ci := 5) (v := .ref (bd 2)) (C := RX5) (T := TX5) (N := 16) hx hb hts iw_X5_settle_X5 hown hE.1 hP 0 rfl rfl 3 (by decide) (hts (.fieldLink RX5 13 "CreditGameModel" "fixedTo" "[I") (by decide +kernel)) (fun _ h9 => h9) rfl dX5_settle_115 ?_
                      refine lv_iload_n hx hb dX5_settle_118 rfl (lv_at hl 3 rfl) ?_
                      refine lv_aload_n hx hb dX5_settle_119 rfl (lv_at hl 0 rfl) ?_
                      refine va_get (D := en.1) (ci := 5) (v := .ref (bd 12)) (C := RX5) (T := TX5) (N := 16) hx hb hts iw_X5_settle_X5 hown hE.1 hP 0 rfl rfl 15 (by decide) (hts (.fieldLink RX5 44 "CreditGameModel" "chosen" "[I") (by decide +kernel)) (fun _ h9 => h9) rfl dX5_settle_120 ?_
                      refine lv_iload_n hx hb dX5_settle_123 rfl (lv_at hl 3 rfl) ?_
                      refine mr_ild hx hb hE hP 12 (by decide) i rfl (show _ < 7 by omega) dX5_settle_124 ?_
                      refine lv_topi (fun z_124 ez_124 => ?_)
                      obtain rfl : z_124 = (nI (gr_best G i)) := (ez_124.trans (by rw [h12, hci]; exact if_pos hop))
                      refine mr_ist hx hb hE hP hI hS 2 (by decide) i rfl (show _ < 7 by omega) dX5_settle_125 (fun H locs hP hS => ?_)
                      obtain ⟨d125, ed125⟩ : ∃ z : mT, z = (va_up e_.1 2 (upd (e_.1 2) i (nI (gr_best G i))), e_.2) := ⟨_, rfl⟩
                      rw [← ed125] at hP
                      refine lv_iinc (v := (nI ((gr_cn G pl i) + 1))) (lv' := [(2, .int (nI ((gr_cn G pl i) + 1))), (0, .ref (bd 0)), (1, .int (nI pl)), (3, .int (nI i))]) hx hb dX5_settle_126 hl (k := 2) rfl (nI_1 _) (by decide) rfl (fun ls hl => ?_)
                      have hcn : gr_cn G pl (i + 1) = gr_cn G pl i + 1 := by simp only [gr_cn, hop, if_true]
                      rw [← hcn] at hl
                      refine lv_iinc (v := (nI (i + 1))) (lv' := [(3, .int (nI (i + 1))), (2, .int (nI (gr_cn G pl (i + 1)))), (0, .ref (bd 0)), (1, .int (nI pl))]) hx hb dX5_settle_129 hl (k := 3) rfl (nI_1 _) (by decide) rfl (fun ls hl => ?_)
                      refine lv_goto (tgt := 93) hx hb dX5_settle_132 (by decide) ?_
                      exact ih93 (i + 1) d125 _ _ _ (by omega) (by omega) (mi_st hm.1 hcp hst hop rfl ed125) (by rw [ed125]; exact h0_) (by rw [ed125]; exact h6_) (by rw [ed125]; exact h7_) (by rw [ed125]; exact h12) hP hS (lv_sub hl [2, 3, 1, 0] rfl)
                    · skip
                      skip
                      have hop : gr_op G pl i = false := by
                        cases q : gr_op G pl i with
                        | false => rfl
                        | true => exact absurd ((show gr_ch G pl i = nI (gr_best G i) from if_pos q).symm.trans b108) (nI_m1 (by have := (gr_adj_mem hm.1 hlt (gr_best_in hm.1 hcp i hlt)).1; omega))
                      refine lv_goto (tgt := 129) hx hb dX5_settle_111 (by decide) ?_
                      have hcn : gr_cn G pl (i + 1) = gr_cn G pl i := by simp only [gr_cn, hop]; rfl
                      rw [← hcn] at hl
                      refine lv_iinc (v := (nI (i + 1))) (lv' := [(3, .int (nI (i + 1))), (0, .ref (bd 0)), (1, .int (nI pl)), (2, .int (nI (gr_cn G pl (i + 1))))]) hx hb dX5_settle_129 hl (k := 3) rfl (nI_1 _) (by decide) rfl (fun ls hl => ?_)
                      refine lv_goto (tgt := 93) hx hb dX5_settle_132 (by decide) ?_
                      exact ih93 (i + 1) e_ _ _ _ (by omega) (by omega) (by simp only [gr_st, hop]; exact hst) h0_ h6_ h7_ h12 hP hS (lv_sub hl [1, 2, 3, 0] rfl)
              exact key93 (gr_n G + 1) 0 d_ _ _ _ (Nat.zero_le _) (by omega) hb_.2.2.1 rfl rfl rfl rfl hP hS (lv_sub hl [2, 3, 1, 0] rfl)
            · skip
              have hlt : i < gr_n G := by
                rcases Nat.lt_or_ge i (gr_n G) with q | q
                · exact q
                · exact absurd (by rw [hmd.2.1]; exact nI_le q (by omega)) b45
              refine lv_aload_n hx hb dX5_settle_48 rfl (lv_at hl 0 rfl) ?_
              refine va_get (D := en.1) (ci := 5) (v := .ref (bd 12)) (C := RX5) (T := TX5) (N := 16) hx hb hts iw_X5_settle_X5 hown hE.1 hP 0 rfl rfl 15 (by decide) (hts (.fieldLink RX5 44 "CreditGameModel" "chosen" "[I") (by decide +kernel)) (fun _ h9 => h9) rfl dX5_settle_49 ?_
              refine lv_iload_n hx hb dX5_settle_52 rfl (lv_at hl 2 rfl) ?_
              refine lv_aload_n hx hb dX5_settle_53 rfl (lv_at hl 0 rfl) ?_
              refine va_get (D := en.1) (ci := 5) (v := .ref (bd 1)) (C := RX5) (T := TX5) (N := 16) hx hb hts iw_X5_settle_X5 hown hE.1 hP 0 rfl rfl 2 (by decide) (hts (.fieldLink RX5 7 "CreditGameModel" "player" "[I") (by decide +kernel)) (fun _ h9 => h9) rfl dX5_settle_54 ?_
              refine lv_iload_n hx hb dX5_settle_57 rfl (lv_at hl 2 rfl) ?_
              refine mr_ild hx hb hE hP 1 (by decide) i rfl (show _ < 7 by omega) dX5_settle_58 ?_
              refine lv_topi (fun z_58 ez_58 => ?_)
              obtain rfl : z_58 = (gr_own G i) := (ez_58.trans (hmd.2.2.2.1 i hlt).1)
              refine lv_iload_n hx hb dX5_settle_59 rfl (lv_at hl 1 rfl) ?_
              refine lv_icmp_ne (tgt := 81) hx hb dX5_settle_60 (by decide) (fun b60 => ?_) (fun b60 => ?_)
              · skip
                skip
                have hop : gr_op G pl i = false := gr_op_f (fun q => b60 q.2.1)
                refine lv_iconst (v := (-1)) hx hb dX5_settle_81 (by decide) ?_
                refine mr_ist hx hb hE hP hI hS 12 (by decide) i rfl (show _ < 7 by omega) dX5_settle_82 (fun H locs hP hS => ?_)
                obtain ⟨d82, ed82⟩ : ∃ z : mT, z = (va_up d_.1 12 (upd (d_.1 12) i (-1)), d_.2) := ⟨_, rfl⟩
                rw [← ed82] at hP
                refine lv_iinc (v := (nI (i + 1))) (lv' := [(2, .int (nI (i + 1))), (0, .ref (bd 0)), (1, .int (nI pl))]) hx hb dX5_settle_83 hl (k := 2) rfl (nI_1 _) (by decide) rfl (fun ls hl => ?_)
                refine lv_goto (tgt := 40) hx hb dX5_settle_86 (by decide) ?_
                exact ih40 (i + 1) d82 _ _ _ (by omega) (by omega) (by rw [ed82]; exact bk2_up hb_) (fun u h => by rw [ed82]; show upd (d_.1 12) i (-1) u = _; by_cases e9 : u = i; rw [e9, ud_at]; exact (if_neg (by rw [hop]; decide)).symm; rw [ud_ne e9]; exact hch u (by omega)) hP hS (lv_sub hl [1, 2, 0] rfl)
              · skip
                refine lv_aload_n hx hb dX5_settle_63 rfl (lv_at hl 0 rfl) ?_
                refine va_get (D := en.1) (ci := 5) (v := .ref (bd 2)) (C := RX5) (T := TX5) (N := 16) hx hb hts iw_X5_settle_X5 hown hE.1 hP 0 rfl rfl 3 (by decide) (hts (.fieldLink RX5 13 "CreditGameModel" "fixedTo" "[I") (by decide +kernel)) (fun _ h9 => h9) rfl dX5_settle_64 ?_
                refine lv_iload_n hx hb dX5_settle_67 rfl (lv_at hl 2 rfl) ?_
                refine mr_ild hx hb hE hP 2 (by decide) i rfl (show _ < 7 by omega) dX5_settle_68 ?_
                refine lv_topi (fun z_68 ez_68 => ?_)
                obtain rfl : z_68 = (gr_fx G i) := (ez_68.trans (hmd.2.2.2.1 i hlt).2)
                refine lv_iconst (v := (-1)) hx hb dX5_settle_69 (by decide) ?_
                refine lv_icmp_ne (tgt := 81) hx hb dX5_settle_70 (by decide) (fun b70 => ?_) (fun b70 => ?_)
                · skip
                  skip
                  have hop : gr_op G pl i = false := gr_op_f (fun q => b70 q.2.2)
                  refine lv_iconst (v := (-1)) hx hb dX5_settle_81 (by decide) ?_
                  refine mr_ist hx hb hE hP hI hS 12 (by decide) i rfl (show _ < 7 by omega) dX5_settle_82 (fun H locs hP hS => ?_)
                  obtain ⟨d82, ed82⟩ : ∃ z : mT, z = (va_up d_.1 12 (upd (d_.1 12) i (-1)), d_.2) := ⟨_, rfl⟩
                  rw [← ed82] at hP
                  refine lv_iinc (v := (nI (i + 1))) (lv' := [(2, .int (nI (i + 1))), (0, .ref (bd 0)), (1, .int (nI pl))]) hx hb dX5_settle_83 hl (k := 2) rfl (nI_1 _) (by decide) rfl (fun ls hl => ?_)
                  refine lv_goto (tgt := 40) hx hb dX5_settle_86 (by decide) ?_
                  exact ih40 (i + 1) d82 _ _ _ (by omega) (by omega) (by rw [ed82]; exact bk2_up hb_) (fun u h => by rw [ed82]; show upd (d_.1 12) i (-1) u = _; by_cases e9 : u = i; rw [e9, ud_at]; exact (if_neg (by rw [hop]; decide)).symm; rw [ud_ne e9]; exact hch u (by omega)) hP hS (lv_sub hl [1, 2, 0] rfl)
                · skip
                  skip
                  have hop := gr_op_i hlt b60 b70
                  refine lv_aload_n hx hb dX5_settle_73 rfl (lv_at hl 0 rfl) ?_
                  refine lv_iload_n hx hb dX5_settle_74 rfl (lv_at hl 2 rfl) ?_
                  refine mr_calli (va_runV (As := [.int (nI i)]) (rest := [.int (nI i), .ref (bd 12)]) ⟨hx, hb, hml, hown, hts⟩ (cm_bestOf l en bd d_ hI _ hb_.2.2 hcp i hlt) (cwV 1 hts gX5_settle_X5_bestOf rfl rfl rfl (by decide +kernel) ⟨Nat.le_of_ble_eq_true rfl, Nat.le_of_ble_eq_true rfl⟩) (ct_preV hE (va_recv hE.1 hP (ci := 5) (q0 := 0) rfl rfl) ⟨rfl, hP⟩) rfl rfl hl.1 rfl (lv_room (Nat.le_of_ble_eq_true rfl)) dX5_settle_75 ⟨Nat.le_of_ble_eq_true rfl, Nat.le_of_ble_eq_true rfl⟩) hS (fun r75 d75 H locs w75 hP hS => ?_)
                  refine lv_goto (tgt := 82) hx hb dX5_settle_78 (by decide) ?_
                  refine mr_ist hx hb hE hP hI hS 12 (by decide) i rfl (show _ < 7 by omega) dX5_settle_82 (fun H locs hP hS => ?_)
                  obtain ⟨d82, ed82⟩ : ∃ z : mT, z = (va_up d75.1 12 (upd (d75.1 12) i r75), d75.2) := ⟨_, rfl⟩
                  rw [← ed82] at hP
                  refine lv_iinc (v := (nI (i + 1))) (lv' := [(2, .int (nI (i + 1))), (0, .ref (bd 0)), (1, .int (nI pl))]) hx hb dX5_settle_83 hl (k := 2) rfl (nI_1 _) (by decide) rfl (fun ls hl => ?_)
                  refine lv_goto (tgt := 40) hx hb dX5_settle_86 (by decide) ?_
                  exact ih40 (i + 1) d82 _ _ _ (by omega) (by omega) (by rw [ed82]; exact bk2_up (bk2_tr hb_ w75.2)) (fun u h => by rw [ed82]; show upd (d75.1 12) i r75 u = _; by_cases e9 : u = i; rw [e9, ud_at, w75.1]; exact (if_pos hop).symm; rw [ud_ne e9, w75.2.1 12 (by decide)]; exact hch u (by omega)) hP hS (lv_sub hl [1, 2, 0] rfl)
        exact key40 (gr_n G + 1) 0 d26 _ _ _ (Nat.zero_le _) (by omega) (bk2_rf (ht26.mci hc_)) (fun u h => absurd h (Nat.not_lt_zero u)) hP hS (lv_sub hl [1, 2, 0] rfl)
    · skip
      skip
      refine lv_iconst (v := 1) hx hb dX5_settle_10 (by decide) ?_
      refine lv_goto (tgt := 26) hx hb dX5_settle_11 (by decide) ?_
      refine va_put (D := en.1) (ci := 5) (v := .int 1) (ty := .int) (C := RX5) (T := TX5) (N := 16) hx hb hts iw_X5_settle_X5 tyX5 tyX5_ok nmX5 hown hE.1 hP (mw_D hI) hS 0 rfl rfl 0 (by decide) (hts (.fieldLink RX5 47 "CreditGameModel" "thrown" "I") (by decide +kernel)) (fun _ h9 => h9) rfl (by decide +kernel) rfl rfl (Nat.le_of_ble_eq_true rfl) dX5_settle_26 (fun H locs hP _ hS => ?_)
      have hP : va_P en.1 vwCl (mw en bd (va_up d.1 0 (upd (d.1 0) 0 1), d.2)) H := hP
      obtain ⟨d26, ed26⟩ : ∃ z : mT, z = (va_up d.1 0 (upd (d.1 0) 0 1), d.2) := ⟨_, rfl⟩
      rw [← ed26] at hP
      have ht26 : mth d d26 _ := ed26
      have hm1 := ht26.mi hm
      refine lv_aload_n hx hb dX5_settle_29 rfl (lv_at hl 0 rfl) ?_
      refine va_get (D := en.1) (ci := 5) (v := .int (d26.1 0 0)) (C := RX5) (T := TX5) (N := 16) hx hb hts iw_X5_settle_X5 hown hE.1 hP 0 rfl rfl 0 (by decide) (hts (.fieldLink RX5 47 "CreditGameModel" "thrown" "I") (by decide +kernel)) (fun _ h9 => h9) rfl dX5_settle_30 ?_
      refine lv_topi (fun z_30 ez_30 => ?_)
      obtain rfl : z_30 = 1 := (ez_30.trans (by rw [ed26]; rfl))
      refine lv_if_le (tgt := 38) hx hb dX5_settle_33 (by decide) (fun b33 => absurd b33 (by decide)) (fun b33 => ?_)
      refine lv_iconst (v := 0) hx hb dX5_settle_36 (by decide) ?_
      exact W.iret (v := 0) hx hb hr (fun t ht hW => ⟨⟨_, d26, rfl, (Or.inl ⟨fun q => q.elim b2 b7, ht26.thr, ht26.mci hc_⟩), by show va_P _ _ _ t.heap; rw [ht]; exact hP⟩, hS.F ht⟩) hS.2.2 dX5_settle_37
theorem iw_X5_walk_X5 : ∀ w ∈ wsX50, w ∈ wsX5_walk := by decide +kernel
set_option maxHeartbeats 4000000 in
set_option maxRecDepth 100000 in
/--  -/
theorem cm_walk (l : Launch) (en : en_T) (bd : Nat → Nat) (d : mT) (hI : mw_I bd) (sz : Nat) {G : gr_T} (hc_ : mci G d) (v x : Int32) : Met l yX5_walk wsX5_walk (rm_ 8 0 0) (ct_Pc en [.ref (bd 0), .int v, .int x] (fun H => H.size = sz ∧ va_P en.1 vwCl (mw en bd d) H)) (va_Qi (fun r d' => (¬ ((∃ j, j < gr_n G ∧ v = nI j) ∧ ∃ wh, wh < 4 ∧ x = nI wh) ∧ d'.1 0 0 = 1 ∧ mci G d') ∨ (((∃ j, j < gr_n G ∧ v = nI j) ∧ ∃ wh, wh < 4 ∧ x = nI wh) ∧ ¬ gr_cpl G ∧ d'.1 0 0 = 2 ∧ mci G d') ∨ (gr_cpl G ∧ (∃ j wh, j < gr_n G ∧ v = nI j ∧ wh < 4 ∧ x = nI wh ∧ gr_wr G j wh r) ∧ d'.1 0 0 = 0 ∧ mci G d')) (fun d' t => va_P en.1 vwCl (mw en bd d') t.heap) (mw_A bd sz)) 0 0 (mw_A bd sz) := by
  refine Met.ofW (cc := cX5_walk) (maxL := 10) (ret := (some .int)) (by decide) rfl ?_
  intro p e s m args below meth co s₁ B hml hv
  obtain ⟨rfl, hE, hsz, hP⟩ := hv
  subst hsz
  have hx := B.exec
  have hb := B.bytes
  have hr := B.returns
  have hts := atoms_spec (ws := wsX5_walk) B.pre
  have hown : s.vm.findClass RX5 = some m.cls := findClass_of_methodNamed B.named
  have hlocks := B.notSynchronized
  have hS : va_S (mw_A bd s.heap.size) s.heap s.heap [] := va_S.rf
  have hl := lv_entry ([.ref (bd 0), .int v, .int x]) (n := 10) (Nat.le_of_ble_eq_true rfl)
  rw [lg_entry_eq]
  generalize (lg_sl ([.ref (bd 0), .int v, .int x]) ++ List.replicate (10 - (lg_sl ([.ref (bd 0), .int v, .int x])).length) Slot.unset).toArray = ls at hl ⊢
  have hl : lv_has ls 10 [(0, .ref (bd 0)), (1, .int v), (2, .int x)] := hl
  have hm := hc_.1
  have hn7 := hm.n7
  have he24 := hm.e24
  refine lv_aload_n hx hb dX5_walk_0 rfl (lv_at hl 0 rfl) ?_
  refine lv_aload_n hx hb dX5_walk_1 rfl (lv_at hl 0 rfl) ?_
  refine lv_iload_n hx hb dX5_walk_2 rfl (lv_at hl 1 rfl) ?_
  refine ro_calli (va_runV (As := [.int v]) (rest := [.ref (bd 0)]) ⟨hx, hb, hml, hown, hts⟩ (cm_isVertex l en bd d hm v) (cwV 1 hts gX5_walk_X5_isVertex rfl rfl rfl (by decide +kernel) ⟨Nat.le_of_ble_eq_true rfl, Nat.le_of_ble_eq_true rfl⟩) (ct_preV hE (va_recv hE.1 hP (ci := 5) (q0 := 0) rfl rfl) hP) rfl rfl hl.1 rfl (lv_room (Nat.le_of_ble_eq_true rfl)) dX5_walk_3 ⟨Nat.le_of_ble_eq_true rfl, Nat.le_of_ble_eq_true rfl⟩) (fun r3 w3 => ?_)
  refine lv_if_eq (tgt := 18) hx hb dX5_walk_6 (by decide) (fun b6 => ?_) (fun b6 => ?_)
  · skip
    skip
    have hnk : ¬ ((∃ j, j < gr_n G ∧ v = nI j) ∧ ∃ wh, wh < 4 ∧ x = nI wh) := fun q => cv_no w3 b6 q.1
    refine lv_iconst (v := 1) hx hb dX5_walk_18 (by decide) ?_
    refine lv_goto (tgt := 34) hx hb dX5_walk_19 (by decide) ?_
    refine va_put (D := en.1) (ci := 5) (v := .int 1) (ty := .int) (C := RX5) (T := TX5) (N := 16) hx hb hts iw_X5_walk_X5 tyX5 tyX5_ok nmX5 hown hE.1 hP (mw_D hI) hS 0 rfl rfl 0 (by decide) (hts (.fieldLink RX5 47 "CreditGameModel" "thrown" "I") (by decide +kernel)) (fun _ h9 => h9) rfl (by decide +kernel) rfl rfl (Nat.le_of_ble_eq_true rfl) dX5_walk_34 (fun H locs hP _ hS => ?_)
    have hP : va_P en.1 vwCl (mw en bd (va_up d.1 0 (upd (d.1 0) 0 1), d.2)) H := hP
    obtain ⟨d34, ed34⟩ : ∃ z : mT, z = (va_up d.1 0 (upd (d.1 0) 0 1), d.2) := ⟨_, rfl⟩
    rw [← ed34] at hP
    have ht34 : mth d d34 _ := ed34
    have hm1 := ht34.mi hm
    refine lv_aload_n hx hb dX5_walk_37 rfl (lv_at hl 0 rfl) ?_
    refine va_get (D := en.1) (ci := 5) (v := .int (d34.1 0 0)) (C := RX5) (T := TX5) (N := 16) hx hb hts iw_X5_walk_X5 hown hE.1 hP 0 rfl rfl 0 (by decide) (hts (.fieldLink RX5 47 "CreditGameModel" "thrown" "I") (by decide +kernel)) (fun _ h9 => h9) rfl dX5_walk_38 ?_
    refine lv_topi (fun z_38 ez_38 => ?_)
    obtain rfl : z_38 = 1 := (ez_38.trans (by rw [ed34]; rfl))
    refine lv_if_le (tgt := 46) hx hb dX5_walk_41 (by decide) (fun b41 => absurd b41 (by decide)) (fun b41 => ?_)
    refine lv_iconst (v := 0) hx hb dX5_walk_44 (by decide) ?_
    exact W.iret (v := 0) hx hb hr (fun t ht hW => ⟨⟨_, d34, rfl, (Or.inl ⟨hnk, ht34.thr, ht34.mci hc_⟩), by show va_P _ _ _ t.heap; rw [ht]; exact hP⟩, hS.F ht⟩) hS.2.2 dX5_walk_45
  · skip
    have hv1 := cv_yes w3 b6
    obtain ⟨j, hj, ej⟩ := id hv1
    refine lv_iload_n hx hb dX5_walk_9 rfl (lv_at hl 2 rfl) ?_
    refine lv_if_lt (tgt := 18) hx hb dX5_walk_10 (by decide) (fun b10 => ?_) (fun b10 => ?_)
    · skip
      skip
      have q10 := i_lt.mp b10
      rw [i_0] at q10
      have hnk : ¬ ((∃ j, j < gr_n G ∧ v = nI j) ∧ ∃ wh, wh < 4 ∧ x = nI wh) := fun ⟨_, wh, hwh, e9⟩ => by rw [e9, nI_toInt (by omega)] at q10; omega
      refine lv_iconst (v := 1) hx hb dX5_walk_18 (by decide) ?_
      refine lv_goto (tgt := 34) hx hb dX5_walk_19 (by decide) ?_
      refine va_put (D := en.1) (ci := 5) (v := .int 1) (ty := .int) (C := RX5) (T := TX5) (N := 16) hx hb hts iw_X5_walk_X5 tyX5 tyX5_ok nmX5 hown hE.1 hP (mw_D hI) hS 0 rfl rfl 0 (by decide) (hts (.fieldLink RX5 47 "CreditGameModel" "thrown" "I") (by decide +kernel)) (fun _ h9 => h9) rfl (by decide +kernel) rfl rfl (Nat.le_of_ble_eq_true rfl) dX5_walk_34 (fun H locs hP _ hS => ?_)
      have hP : va_P en.1 vwCl (mw en bd (va_up d.1 0 (upd (d.1 0) 0 1), d.2)) H := hP
      obtain ⟨d34, ed34⟩ : ∃ z : mT, z = (va_up d.1 0 (upd (d.1 0) 0 1), d.2) := ⟨_, rfl⟩
      rw [← ed34] at hP
      have ht34 : mth d d34 _ := ed34
      have hm1 := ht34.mi hm
      refine lv_aload_n hx hb dX5_walk_37 rfl (lv_at hl 0 rfl) ?_
      refine va_get (D := en.1) (ci := 5) (v := .int (d34.1 0 0)) (C := RX5) (T := TX5) (N := 16) hx hb hts iw_X5_walk_X5 hown hE.1 hP 0 rfl rfl 0 (by decide) (hts (.fieldLink RX5 47 "CreditGameModel" "thrown" "I") (by decide +kernel)) (fun _ h9 => h9) rfl dX5_walk_38 ?_
      refine lv_topi (fun z_38 ez_38 => ?_)
      obtain rfl : z_38 = 1 := (ez_38.trans (by rw [ed34]; rfl))
      refine lv_if_le (tgt := 46) hx hb dX5_walk_41 (by decide) (fun b41 => absurd b41 (by decide)) (fun b41 => ?_)
      refine lv_iconst (v := 0) hx hb dX5_walk_44 (by decide) ?_
      exact W.iret (v := 0) hx hb hr (fun t ht hW => ⟨⟨_, d34, rfl, (Or.inl ⟨hnk, ht34.thr, ht34.mci hc_⟩), by show va_P _ _ _ t.heap; rw [ht]; exact hP⟩, hS.F ht⟩) hS.2.2 dX5_walk_45
    · skip
      have q10 : ¬ _ := fun q => b10 (i_lt.mpr q)
      rw [i_0] at q10
      refine lv_iload_n hx hb dX5_walk_13 rfl (lv_at hl 2 rfl) ?_
      refine lv_iconst (v := 3) hx hb dX5_walk_14 (by decide) ?_
      refine lv_icmp_le (tgt := 22) hx hb dX5_walk_15 (by decide) (fun b15 => ?_) (fun b15 => ?_)
      · skip
        have q15 := i_le.mp b15
        rw [show (3 : Int32).toInt = 3 by decide] at q15
        obtain ⟨wh, hwh, ewh⟩ : ∃ wh, wh < 4 ∧ x = nI wh := ⟨x.toInt.toNat, by omega, i_eq (by rw [nI_toInt (by omega)]; omega)⟩
        have hwk : ((∃ j, j < gr_n G ∧ v = nI j) ∧ ∃ wh, wh < 4 ∧ x = nI wh) := ⟨hv1, wh, hwh, ewh⟩
        refine lv_aload_n hx hb dX5_walk_22 rfl (lv_at hl 0 rfl) ?_
        refine ro_calli (va_runV (As := []) (rest := [.ref (bd 0)]) ⟨hx, hb, hml, hown, hts⟩ (cm_isComplete l en bd d hm) (cwV 0 hts gX5_walk_X5_isComplete rfl rfl rfl (by decide +kernel) ⟨Nat.le_of_ble_eq_true rfl, Nat.le_of_ble_eq_true rfl⟩) (ct_preV hE (va_recv hE.1 hP (ci := 5) (q0 := 0) rfl rfl) hP) rfl rfl hl.1 rfl (lv_room (Nat.le_of_ble_eq_true rfl)) dX5_walk_23 ⟨Nat.le_of_ble_eq_true rfl, Nat.le_of_ble_eq_true rfl⟩) (fun r23 w23 => ?_)
        refine lv_if_eq (tgt := 33) hx hb dX5_walk_26 (by decide) (fun b26 => ?_) (fun b26 => ?_)
        · skip
          skip
          have hcp : ¬ gr_cpl G := (w23.resolve_left (fun q => absurd (q.1.symm.trans b26) (by decide))).2
          refine lv_iconst (v := 2) hx hb dX5_walk_33 (by decide) ?_
          refine va_put (D := en.1) (ci := 5) (v := .int 2) (ty := .int) (C := RX5) (T := TX5) (N := 16) hx hb hts iw_X5_walk_X5 tyX5 tyX5_ok nmX5 hown hE.1 hP (mw_D hI) hS 0 rfl rfl 0 (by decide) (hts (.fieldLink RX5 47 "CreditGameModel" "thrown" "I") (by decide +kernel)) (fun _ h9 => h9) rfl (by decide +kernel) rfl rfl (Nat.le_of_ble_eq_true rfl) dX5_walk_34 (fun H locs hP _ hS => ?_)
          have hP : va_P en.1 vwCl (mw en bd (va_up d.1 0 (upd (d.1 0) 0 2), d.2)) H := hP
          obtain ⟨d34, ed34⟩ : ∃ z : mT, z = (va_up d.1 0 (upd (d.1 0) 0 2), d.2) := ⟨_, rfl⟩
          rw [← ed34] at hP
          have ht34 : mth d d34 _ := ed34
          have hm1 := ht34.mi hm
          refine lv_aload_n hx hb dX5_walk_37 rfl (lv_at hl 0 rfl) ?_
          refine va_get (D := en.1) (ci := 5) (v := .int (d34.1 0 0)) (C := RX5) (T := TX5) (N := 16) hx hb hts iw_X5_walk_X5 hown hE.1 hP 0 rfl rfl 0 (by decide) (hts (.fieldLink RX5 47 "CreditGameModel" "thrown" "I") (by decide +kernel)) (fun _ h9 => h9) rfl dX5_walk_38 ?_
          refine lv_topi (fun z_38 ez_38 => ?_)
          obtain rfl : z_38 = 2 := (ez_38.trans (by rw [ed34]; rfl))
          refine lv_if_le (tgt := 46) hx hb dX5_walk_41 (by decide) (fun b41 => absurd b41 (by decide)) (fun b41 => ?_)
          refine lv_iconst (v := 0) hx hb dX5_walk_44 (by decide) ?_
          exact W.iret (v := 0) hx hb hr (fun t ht hW => ⟨⟨_, d34, rfl, (Or.inr (Or.inl ⟨hwk, hcp, ht34.thr, ht34.mci hc_⟩)), by show va_P _ _ _ t.heap; rw [ht]; exact hP⟩, hS.F ht⟩) hS.2.2 dX5_walk_45
        · skip
          skip
          have hcp : gr_cpl G := (w23.resolve_right (fun q => b26 q.1)).2
          refine lv_iconst (v := 0) hx hb dX5_walk_29 (by decide) ?_
          refine lv_goto (tgt := 34) hx hb dX5_walk_30 (by decide) ?_
          refine va_put (D := en.1) (ci := 5) (v := .int 0) (ty := .int) (C := RX5) (T := TX5) (N := 16) hx hb hts iw_X5_walk_X5 tyX5 tyX5_ok nmX5 hown hE.1 hP (mw_D hI) hS 0 rfl rfl 0 (by decide) (hts (.fieldLink RX5 47 "CreditGameModel" "thrown" "I") (by decide +kernel)) (fun _ h9 => h9) rfl (by decide +kernel) rfl rfl (Nat.le_of_ble_eq_true rfl) dX5_walk_34 (fun H locs hP _ hS => ?_)
          have hP : va_P en.1 vwCl (mw en bd (va_up d.1 0 (upd (d.1 0) 0 0), d.2)) H := hP
          obtain ⟨d34, ed34⟩ : ∃ z : mT, z = (va_up d.1 0 (upd (d.1 0) 0 0), d.2) := ⟨_, rfl⟩
          rw [← ed34] at hP
          have ht34 : mth d d34 _ := ed34
          have hm1 := ht34.mi hm
          refine lv_aload_n hx hb dX5_walk_37 rfl (lv_at hl 0 rfl) ?_
          refine va_get (D := en.1) (ci := 5) (v := .int (d34.1 0 0)) (C := RX5) (T := TX5) (N := 16) hx hb hts iw_X5_walk_X5 hown hE.1 hP 0 rfl rfl 0 (by decide) (hts (.fieldLink RX5 47 "CreditGameModel" "thrown" "I") (by decide +kernel)) (fun _ h9 => h9) rfl dX5_walk_38 ?_
          refine lv_topi (fun z_38 ez_38 => ?_)
          obtain rfl : z_38 = 0 := (ez_38.trans (by rw [ed34]; rfl))
          refine lv_if_le (tgt := 46) hx hb dX5_walk_41 (by decide) (fun b41 => ?_) (fun b41 => absurd b41 (fun q => q (by decide)))
          refine lv_iconst (v := (nI 0)) hx hb dX5_walk_46 (by decide) ?_
          refine lv_istore_n (lv' := [(3, .int (nI 0)), (0, .ref (bd 0)), (1, .int v), (2, .int x)]) hx hb dX5_walk_47 rfl hl (by decide) rfl (fun ls hl => ?_)
          rw [ej, ewh] at hl
          have key48 : ∀ (n_ : Nat) (i : Nat) (d_ : mT) (H : Heap) (locs : List Loc) (ls : Array Slot), i ≤ gr_n G → gr_n G + 1 ≤ i + n_ → bk2 G d34 d_ → (∀ u, u < i → d_.1 12 u = -1) → va_P en.1 vwCl (mw en bd d_) H → va_S (mw_A bd s.heap.size) s.heap H locs → lv_has ls 10 [(0, .ref (bd 0)), (1, .int (nI j)), (2, .int (nI wh)), (3, .int (nI i))] → W p l e (headSpec wsX5_walk (rm_ 8 0 0)).room s m ([.ref (bd 0), .int v, .int x] : List Value).toArray below meth co H locs 0 0 (MQ below (va_Qi (fun r d' => (¬ ((∃ j, j < gr_n G ∧ v = nI j) ∧ ∃ wh, wh < 4 ∧ x = nI wh) ∧ d'.1 0 0 = 1 ∧ mci G d') ∨ (((∃ j, j < gr_n G ∧ v = nI j) ∧ ∃ wh, wh < 4 ∧ x = nI wh) ∧ ¬ gr_cpl G ∧ d'.1 0 0 = 2 ∧ mci G d') ∨ (gr_cpl G ∧ (∃ j wh, j < gr_n G ∧ v = nI j ∧ wh < 4 ∧ x = nI wh ∧ gr_wr G j wh r) ∧ d'.1 0 0 = 0 ∧ mci G d')) (fun d' t => va_P en.1 vwCl (mw en bd d') t.heap) (mw_A bd s.heap.size)) ([.ref (bd 0), .int v, .int x] : List Value).toArray s 0 0 (mw_A bd s.heap.size)) (F0 m 48 ls []) := by
            intro n_
            induction n_ with
            | zero =>
              intro i d_ H locs ls hi_ hin hb_ hch hP hS hl
              exact absurd hin (by omega)
            | succ n_ ih48 =>
              intro i d_ H locs ls hi_ hin hb_ hch hP hS hl
              have hmd := hb_.2.2.1
              refine lv_iload_n hx hb dX5_walk_48 rfl (lv_at hl 3 rfl) ?_
              refine lv_aload_n hx hb dX5_walk_49 rfl (lv_at hl 0 rfl) ?_
              refine va_get (D := en.1) (ci := 5) (v := .int (d_.1 0 1)) (C := RX5) (T := TX5) (N := 16) hx hb hts iw_X5_walk_X5 hown hE.1 hP 0 rfl rfl 1 (by decide) (hts (.fieldLink RX5 51 "CreditGameModel" "vertices" "I") (by decide +kernel)) (fun _ h9 => h9) rfl dX5_walk_50 ?_
              refine lv_icmp_ge (tgt := 69) hx hb dX5_walk_53 (by decide) (fun b53 => ?_) (fun b53 => ?_)
              · skip
                have hin9 : i = gr_n G := by
                  rcases Nat.lt_or_ge i (gr_n G) with q | q
                  · exact absurd b53 (by rw [hmd.2.1]; exact nI_ge q (by omega))
                  · omega
                refine lv_iload_n hx hb dX5_walk_69 rfl (lv_at hl 1 rfl) ?_
                refine lv_istore_n (lv' := [(3, .int (nI j)), (0, .ref (bd 0)), (1, .int (nI j)), (2, .int (nI wh))]) hx hb dX5_walk_70 rfl hl (by decide) rfl (fun ls hl => ?_)
                refine lv_iconst (v := (nI 0)) hx hb dX5_walk_71 (by decide) ?_
                refine lv_istore (lv' := [(4, .int (nI 0)), (3, .int (nI j)), (0, .ref (bd 0)), (1, .int (nI j)), (2, .int (nI wh))]) hx hb dX5_walk_72 hl (by decide) rfl (fun ls hl => ?_)
                have key74 : ∀ (n_ : Nat) (t_ : Nat) (e_ : mT) (H : Heap) (locs : List Loc) (ls : Array Slot), t_ ≤ 7 → 9 ≤ t_ + n_ → bk2 G d34 e_ → wq G j t_ e_ → (∀ a b, a < t_ → b < t_ → gr_gw G j a = gr_gw G j b → a = b) → va_P en.1 vwCl (mw en bd e_) H → va_S (mw_A bd s.heap.size) s.heap H locs → lv_has ls 10 [(0, .ref (bd 0)), (1, .int (nI j)), (2, .int (nI wh)), (3, .int (nI (gr_gw G j t_))), (4, .int (nI t_))] → W p l e (headSpec wsX5_walk (rm_ 8 0 0)).room s m ([.ref (bd 0), .int v, .int x] : List Value).toArray below meth co H locs 0 0 (MQ below (va_Qi (fun r d' => (¬ ((∃ j, j < gr_n G ∧ v = nI j) ∧ ∃ wh, wh < 4 ∧ x = nI wh) ∧ d'.1 0 0 = 1 ∧ mci G d') ∨ (((∃ j, j < gr_n G ∧ v = nI j) ∧ ∃ wh, wh < 4 ∧ x = nI wh) ∧ ¬ gr_cpl G ∧ d'.1 0 0 = 2 ∧ mci G d') ∨ (gr_cpl G ∧ (∃ j wh, j < gr_n G ∧ v = nI j ∧ wh < 4 ∧ x = nI wh ∧ gr_wr G j wh r) ∧ d'.1 0 0 = 0 ∧ mci G d')) (fun d' t => va_P en.1 vwCl (mw en bd d') t.heap) (mw_A bd s.heap.size)) ([.ref (bd 0), .int v, .int x] : List Value).toArray s 0 0 (mw_A bd s.heap.size)) (F0 m 74 ls []) := by
                  intro n_
                  induction n_ with
                  | zero =>
                    intro t_ e_ H locs ls ht7 hin2 hb2 hwq hds hP hS hl
                    exact absurd hin2 (by omega)
                  | succ n_ ih74 =>
                    intro t_ e_ H locs ls ht7 hin2 hb2 hwq hds hP hS hl
                    have hgw := gw_lt hm.1 hcp hj t_
                    have hme := hb2.2.2.1
                    refine lv_aload_n hx hb dX5_walk_74 rfl (lv_at hl 0 rfl) ?_
                    refine va_get (D := en.1) (ci := 5) (v := .ref (bd 12)) (C := RX5) (T := TX5) (N := 16) hx hb hts iw_X5_walk_X5 hown hE.1 hP 0 rfl rfl 15 (by decide) (hts (.fieldLink RX5 44 "CreditGameModel" "chosen" "[I") (by decide +kernel)) (fun _ h9 => h9) rfl dX5_walk_75 ?_
                    refine lv_iload_n hx hb dX5_walk_78 rfl (lv_at hl 3 rfl) ?_
                    refine mr_ild hx hb hE hP 12 (by decide) (gr_gw G j t_) rfl (show _ < 7 by omega) dX5_walk_79 ?_
                    refine lv_if_ge (tgt := 108) hx hb dX5_walk_80 (by decide) (fun b80 => ?_) (fun b80 => ?_)
                    · skip
                      obtain ⟨a, hat, hga, hca⟩ : ∃ a, a < t_ ∧ gr_gw G j a = gr_gw G j t_ ∧ e_.1 12 (gr_gw G j t_) = nI a := (hwq _ hgw).resolve_left (fun q => by rw [q.1] at b80; exact absurd b80 (by decide))
                      have hga := hga.symm
                      have hlp : gr_lp G j t_ a := ⟨hat, ht7, hga, hds, fun x9 _ => gw_lt hm.1 hcp hj x9⟩
                      refine lv_aload_n hx hb dX5_walk_108 rfl (lv_at hl 0 rfl) ?_
                      refine va_get (D := en.1) (ci := 5) (v := .ref (bd 12)) (C := RX5) (T := TX5) (N := 16) hx hb hts iw_X5_walk_X5 hown hE.1 hP 0 rfl rfl 15 (by decide) (hts (.fieldLink RX5 44 "CreditGameModel" "chosen" "[I") (by decide +kernel)) (fun _ h9 => h9) rfl dX5_walk_109 ?_
                      refine lv_iload_n hx hb dX5_walk_112 rfl (lv_at hl 3 rfl) ?_
                      refine mr_ild hx hb hE hP 12 (by decide) (gr_gw G j t_) rfl (show _ < 7 by omega) dX5_walk_113 ?_
                      refine lv_topi (fun z_113 ez_113 => ?_)
                      obtain rfl : z_113 = (nI a) := (ez_113.trans hca)
                      refine lv_istore (lv' := [(5, .int (nI a)), (0, .ref (bd 0)), (1, .int (nI j)), (2, .int (nI wh)), (3, .int (nI (gr_gw G j t_))), (4, .int (nI t_))]) hx hb dX5_walk_114 hl (by decide) rfl (fun ls hl => ?_)
                      refine lv_iload_n hx hb dX5_walk_116 rfl (lv_at hl 3 rfl) ?_
                      refine lv_if_ne (tgt := 123) hx hb dX5_walk_117 (by decide) (fun b117 => ?_) (fun b117 => ?_)
                      · skip
                        have hw0 : wh ≠ 0 := fun q => b117 (by rw [q]; rfl)
                        refine lv_iload_n hx hb dX5_walk_123 rfl (lv_at hl 3 rfl) ?_
                        refine lv_iconst (v := 1) hx hb dX5_walk_124 (by decide) ?_
                        refine lv_icmp_ne (tgt := 134) hx hb dX5_walk_125 (by decide) (fun b125 => ?_) (fun b125 => ?_)
                        · skip
                          have hw1 : wh ≠ 1 := fun q => b125 (by rw [q]; rfl)
                          refine lv_iload_n hx hb dX5_walk_134 rfl (lv_at hl 3 rfl) ?_
                          refine lv_iconst (v := 3) hx hb dX5_walk_135 (by decide) ?_
                          refine lv_icmp_ne (tgt := 141) hx hb dX5_walk_136 (by decide) (fun b136 => ?_) (fun b136 => ?_)
                          · skip
                            have hw3 : wh ≠ 3 := fun q => b136 (by rw [q]; rfl)
                            refine lv_iconst (v := 0) hx hb dX5_walk_141 (by decide) ?_
                            refine lv_istore (lv' := [(6, .int 0), (5, .int (nI a)), (0, .ref (bd 0)), (1, .int (nI j)), (2, .int (nI wh)), (3, .int (nI (gr_gw G j t_))), (4, .int (nI t_))]) hx hb dX5_walk_142 hl (by decide) rfl (fun ls hl => ?_)
                            refine lv_iload_n hx hb dX5_walk_144 rfl (lv_at hl 5 rfl) ?_
                            refine lv_topi (fun z_145 ez_145 => ?_)
                            obtain rfl : z_145 = nI (gr_gw G j (a + 0)) := ez_145.trans (by rw [hga]; rfl)
                            refine lv_istore (lv' := [(7, .int (nI (gr_gw G j (a + 0)))), (6, .int 0), (5, .int (nI a)), (0, .ref (bd 0)), (1, .int (nI j)), (2, .int (nI wh)), (3, .int (nI (gr_gw G j t_))), (4, .int (nI t_))]) hx hb dX5_walk_145 hl (by decide) rfl (fun ls hl => ?_)
                            refine lv_iconst (v := 1) hx hb dX5_walk_147 (by decide) ?_
                            refine lv_istore (lv' := [(8, .int 1), (7, .int (nI (gr_gw G j (a + 0)))), (6, .int 0), (5, .int (nI a)), (0, .ref (bd 0)), (1, .int (nI j)), (2, .int (nI wh)), (3, .int (nI (gr_gw G j t_))), (4, .int (nI t_))]) hx hb dX5_walk_148 hl (by decide) rfl (fun ls hl => ?_)
                            have key150 : ∀ (n_ : Nat) (i : Nat) (su go : Int32) (f_ : mT) (H : Heap) (locs : List Loc) (ls : Array Slot), i ≤ t_ - a → t_ - a + 1 ≤ i + n_ → (go = 0 ∧ i = t_ - a) ∨ (go = 1 ∧ i < t_ - a) → bk2 G d34 f_ → su.toInt = gr_gs G j (a + i) - gr_gs G j a → -(9 * (i : Int)) ≤ su.toInt ∧ su.toInt ≤ 9 * (i : Int) → va_P en.1 vwCl (mw en bd f_) H → va_S (mw_A bd s.heap.size) s.heap H locs → lv_has ls 10 [(0, .ref (bd 0)), (3, .int (nI (gr_gw G j t_))), (6, .int su), (7, .int (nI (gr_gw G j (a + i)))), (8, .int go)] → W p l e (headSpec wsX5_walk (rm_ 8 0 0)).room s m ([.ref (bd 0), .int v, .int x] : List Value).toArray below meth co H locs 0 0 (MQ below (va_Qi (fun r d' => (¬ ((∃ j, j < gr_n G ∧ v = nI j) ∧ ∃ wh, wh < 4 ∧ x = nI wh) ∧ d'.1 0 0 = 1 ∧ mci G d') ∨ (((∃ j, j < gr_n G ∧ v = nI j) ∧ ∃ wh, wh < 4 ∧ x = nI wh) ∧ ¬ gr_cpl G ∧ d'.1 0 0 = 2 ∧ mci G d') ∨ (gr_cpl G ∧ (∃ j wh, j < gr_n G ∧ v = nI j ∧ wh < 4 ∧ x = nI wh ∧ gr_wr G j wh r) ∧ d'.1 0 0 = 0 ∧ mci G d')) (fun d' t => va_P en.1 vwCl (mw en bd d') t.heap) (mw_A bd s.heap.size)) ([.ref (bd 0), .int v, .int x] : List Value).toArray s 0 0 (mw_A bd s.heap.size)) (F0 m 150 ls []) := by
                              intro n_
                              induction n_ with
                              | zero =>
                                intro i su go f_ H locs ls hia hin3 hgo hb3 hsu hsb hP hS hl
                                exact absurd hin3 (by omega)
                              | succ n_ ih150 =>
                                intro i su go f_ H locs ls hia hin3 hgo hb3 hsu hsb hP hS hl
                                have hgs := gs_step hm.1 hcp hj (a + i)
                                have hgw2 := gw_lt hm.1 hcp hj (a + i)
                                have hmf := hb3.2.2.1
                                refine lv_iload hx hb dX5_walk_150 (lv_at hl 4 rfl) ?_
                                refine lv_if_eq (tgt := 200) hx hb dX5_walk_152 (by decide) (fun b152 => ?_) (fun b152 => ?_)
                                · skip
                                  have hie : i = t_ - a := hgo.elim (fun q => q.2) (fun q => absurd (q.1.symm.trans b152) (by decide))
                                  refine lv_iload hx hb dX5_walk_200 (lv_at hl 2 rfl) ?_
                                  exact W.iret (v := su) hx hb hr (fun t ht hW => ⟨⟨_, f_, rfl, (Or.inr (Or.inr ⟨hcp, ⟨j, wh, hj, ej, hwh, ewh, t_, a, hlp, fun q => absurd q (by omega), fun q => absurd q (by omega), fun _ => by rw [hsu, show a + i = t_ by omega], fun q => absurd q (by omega)⟩, (hb3.2.1 0 (by omega)).trans ht34.thr, hb3.2.2⟩)), by show va_P _ _ _ t.heap; rw [ht]; exact hP⟩, hS.F ht⟩) hS.2.2 dX5_walk_202
                                · skip
                                  have hil : i < t_ - a := hgo.elim (fun q => absurd q.1 b152) (fun q => q.2)
                                  refine lv_aload_n hx hb dX5_walk_155 rfl (lv_at hl 0 rfl) ?_
                                  refine lv_iload hx hb dX5_walk_156 (lv_at hl 3 rfl) ?_
                                  refine mr_calli (va_runV (As := [.int (nI (gr_gw G j (a + i)))]) (rest := []) ⟨hx, hb, hml, hown, hts⟩ (cm_bestOf l en bd f_ hI _ hb3.2.2 hcp (gr_gw G j (a + i)) hgw2) (cwV 1 hts gX5_walk_X5_bestOf rfl rfl rfl (by decide +kernel) ⟨Nat.le_of_ble_eq_true rfl, Nat.le_of_ble_eq_true rfl⟩) (ct_preV hE (va_recv hE.1 hP (ci := 5) (q0 := 0) rfl rfl) ⟨rfl, hP⟩) rfl rfl hl.1 rfl (lv_room (Nat.le_of_ble_eq_true rfl)) dX5_walk_158 ⟨Nat.le_of_ble_eq_true rfl, Nat.le_of_ble_eq_true rfl⟩) hS (fun r158 d158 H locs w158 hP hS => ?_)
                                  refine lv_istore (lv' := [(9, .int r158), (0, .ref (bd 0)), (3, .int (nI (gr_gw G j t_))), (6, .int su), (7, .int (nI (gr_gw G j (a + i)))), (8, .int go)]) hx hb dX5_walk_161 hl (by decide) rfl (fun ls hl => ?_)
                                  refine lv_iload hx hb dX5_walk_163 (lv_at hl 3 rfl) ?_
                                  refine lv_aload_n hx hb dX5_walk_165 rfl (lv_at hl 1 rfl) ?_
                                  refine va_get (D := en.1) (ci := 5) (v := .ref (bd 5)) (C := RX5) (T := TX5) (N := 16) hx hb hts iw_X5_walk_X5 hown hE.1 hP 0 rfl rfl 7 (by decide) (hts (.fieldLink RX5 22 "CreditGameModel" "weight" "[I") (by decide +kernel)) (fun _ h9 => h9) rfl dX5_walk_166 ?_
                                  refine lv_iload hx hb dX5_walk_169 (lv_at hl 0 rfl) ?_
                                  refine mr_ild hx hb hE hP 5 (by decide) (gr_best G (gr_gw G j (a + i))) w158.1 (show _ < 24 by omega) dX5_walk_171 ?_
                                  refine lv_topi (fun z_171 ez_171 => ?_)
                                  obtain rfl : z_171 = (gr_wt G (gr_best G (gr_gw G j (a + i)))) := (ez_171.trans (w158.2.2.2.1.2.2.2.2 _ hgs.1).2.2)
                                  refine lv_iadd hx hb dX5_walk_172 ?_
                                  refine lv_topi (fun z1 hz1 => ?_)
                                  have hz2 : z1.toInt = su.toInt + (gr_wt G (gr_best G (gr_gw G j (a + i)))).toInt := by rw [hz1, i_add (by omega) (by omega)]
                                  refine lv_istore (lv' := [(6, .int z1), (9, .int r158), (0, .ref (bd 0)), (3, .int (nI (gr_gw G j t_))), (7, .int (nI (gr_gw G j (a + i)))), (8, .int go)]) hx hb dX5_walk_173 hl (by decide) rfl (fun ls hl => ?_)
                                  refine lv_aload_n hx hb dX5_walk_175 rfl (lv_at hl 2 rfl) ?_
                                  refine va_get (D := en.1) (ci := 5) (v := .ref (bd 4)) (C := RX5) (T := TX5) (N := 16) hx hb hts iw_X5_walk_X5 hown hE.1 hP 0 rfl rfl 6 (by decide) (hts (.fieldLink RX5 19 "CreditGameModel" "to" "[I") (by decide +kernel)) (fun _ h9 => h9) rfl dX5_walk_176 ?_
                                  refine lv_iload hx hb dX5_walk_179 (lv_at hl 1 rfl) ?_
                                  refine mr_ild hx hb hE hP 4 (by decide) (gr_best G (gr_gw G j (a + i))) w158.1 (show _ < 24 by omega) dX5_walk_181 ?_
                                  refine lv_topi (fun z_181 ez_181 => ?_)
                                  obtain rfl : z_181 = (nI (gr_gw G j (a + (i + 1)))) := (ez_181.trans ((w158.2.2.2.1.2.2.2.2 _ hgs.1).2.1.trans (gr_tgt_lt hm.1 hgs.1).2))
                                  refine lv_istore (lv' := [(7, .int (nI (gr_gw G j (a + (i + 1))))), (6, .int z1), (9, .int r158), (0, .ref (bd 0)), (3, .int (nI (gr_gw G j t_))), (8, .int go)]) hx hb dX5_walk_182 hl (by decide) rfl (fun ls hl => ?_)
                                  refine lv_iload hx hb dX5_walk_184 (lv_at hl 0 rfl) ?_
                                  refine lv_iload_n hx hb dX5_walk_186 rfl (lv_at hl 4 rfl) ?_
                                  refine lv_icmp_eq (tgt := 194) hx hb dX5_walk_187 (by decide) (fun b187 => ?_) (fun b187 => ?_)
                                  · skip
                                    refine lv_iconst (v := 0) hx hb dX5_walk_194 (by decide) ?_
                                    refine lv_istore (lv' := [(8, .int 0), (7, .int (nI (gr_gw G j (a + (i + 1))))), (6, .int z1), (9, .int r158), (0, .ref (bd 0)), (3, .int (nI (gr_gw G j t_)))]) hx hb dX5_walk_195 hl (by decide) rfl (fun ls hl => ?_)
                                    refine lv_goto (tgt := 150) hx hb dX5_walk_197 (by decide) ?_
                                    exact ih150 (i + 1) z1 0 d158 _ _ _ (by omega) (by omega) (Or.inl ⟨rfl, by rcases (show i + 1 = t_ - a ∨ i + 1 < t_ - a by omega) with q | q; exact q; exfalso; have h8 := (nI_eq (by have := gw_lt hm.1 hcp hj (a + (i + 1)); omega) (by omega)).mp b187; rw [hga] at h8; have := hds _ _ (by omega) (by omega) h8; omega⟩) (bk2_tr hb3 w158.2) (by rw [hz2, hsu]; have h8 := hgs.2.1; show _ = gr_gs G j (a + i + 1) - _; rw [h8]; omega) (by rw [hz2]; omega) hP hS (lv_sub hl [4, 5, 2, 1, 0] rfl)
                                  · skip
                                    refine lv_iconst (v := 1) hx hb dX5_walk_190 (by decide) ?_
                                    refine lv_goto (tgt := 195) hx hb dX5_walk_191 (by decide) ?_
                                    refine lv_istore (lv' := [(8, .int 1), (7, .int (nI (gr_gw G j (a + (i + 1))))), (6, .int z1), (9, .int r158), (0, .ref (bd 0)), (3, .int (nI (gr_gw G j t_)))]) hx hb dX5_walk_195 hl (by decide) rfl (fun ls hl => ?_)
                                    refine lv_goto (tgt := 150) hx hb dX5_walk_197 (by decide) ?_
                                    exact ih150 (i + 1) z1 1 d158 _ _ _ (by omega) (by omega) (Or.inr ⟨rfl, by have : ¬ i + 1 = t_ - a := fun q => b187 (by rw [show a + (i + 1) = t_ by omega]); omega⟩) (bk2_tr hb3 w158.2) (by rw [hz2, hsu]; have h8 := hgs.2.1; show _ = gr_gs G j (a + i + 1) - _; rw [h8]; omega) (by rw [hz2]; omega) hP hS (lv_sub hl [4, 5, 2, 1, 0] rfl)
                            exact key150 (t_ - a + 1) 0 0 1 e_ _ _ _ (Nat.zero_le _) (by omega) (Or.inr ⟨rfl, by omega⟩) hb2 (by rw [i_0]; show (0 : Int) = gr_gs G j a - gr_gs G j a; omega) (by rw [i_0]; omega) hP hS (lv_sub hl [4, 7, 2, 1, 0] rfl)
                          · skip
                            have hw3 : wh = 3 := (nI_eq (b := 3) (by omega) (by omega)).mp b136
                            refine lv_iload_n hx hb dX5_walk_139 rfl (lv_at hl 4 rfl) ?_
                            exact W.iret (v := (nI (gr_gw G j t_))) hx hb hr (fun t ht hW => ⟨⟨_, e_, rfl, (Or.inr (Or.inr ⟨hcp, ⟨j, wh, hj, ej, hwh, ewh, t_, a, hlp, fun q => absurd q (by omega), fun q => absurd q (by omega), fun q => absurd q (by omega), fun _ => rfl⟩, (hb2.2.1 0 (by omega)).trans ht34.thr, hb2.2.2⟩)), by show va_P _ _ _ t.heap; rw [ht]; exact hP⟩, hS.F ht⟩) hS.2.2 dX5_walk_140
                        · skip
                          have hw1 : wh = 1 := (nI_eq (b := 1) (by omega) (by omega)).mp b125
                          refine lv_iload hx hb dX5_walk_128 (lv_at hl 5 rfl) ?_
                          refine lv_iload hx hb dX5_walk_130 (lv_at hl 0 rfl) ?_
                          refine lv_isub hx hb dX5_walk_132 ?_
                          have hsub : nI (t_ - a) = nI t_ - nI a := i_eq (by rw [i_sub (by rw [nI_toInt (by omega), nI_toInt (by omega)]; omega) (by rw [nI_toInt (by omega), nI_toInt (by omega)]; omega), nI_toInt (by omega), nI_toInt (by omega), nI_toInt (by omega)]; omega)
                          exact W.iret (v := ((nI t_) - (nI a))) hx hb hr (fun t ht hW => ⟨⟨_, e_, rfl, (Or.inr (Or.inr ⟨hcp, ⟨j, wh, hj, ej, hwh, ewh, t_, a, hlp, fun q => absurd q (by omega), fun _ => by rw [← hsub], fun q => absurd q (by omega), fun q => absurd q (by omega)⟩, (hb2.2.1 0 (by omega)).trans ht34.thr, hb2.2.2⟩)), by show va_P _ _ _ t.heap; rw [ht]; exact hP⟩, hS.F ht⟩) hS.2.2 dX5_walk_133
                      · skip
                        have hw0 : wh = 0 := (nI_eq (b := 0) (by omega) (by omega)).mp b117
                        refine lv_iload hx hb dX5_walk_120 (lv_at hl 0 rfl) ?_
                        exact W.iret (v := (nI a)) hx hb hr (fun t ht hW => ⟨⟨_, e_, rfl, (Or.inr (Or.inr ⟨hcp, ⟨j, wh, hj, ej, hwh, ewh, t_, a, hlp, fun _ => rfl, fun q => absurd q (by omega), fun q => absurd q (by omega), fun q => absurd q (by omega)⟩, (hb2.2.1 0 (by omega)).trans ht34.thr, hb2.2.2⟩)), by show va_P _ _ _ t.heap; rw [ht]; exact hP⟩, hS.F ht⟩) hS.2.2 dX5_walk_122
                    · skip
                      have hnw : ∀ a, a < t_ → gr_gw G j a ≠ gr_gw G j t_ := by
                        rcases hwq _ hgw with q | ⟨a, ha, q1, q2⟩
                        · exact q.2
                        · exact absurd (by rw [q2]; exact i_le.mpr (by rw [i_0, nI_toInt (by omega)]; omega)) b80
                      have ht6 : t_ < 7 := by
                        rcases Nat.lt_or_ge t_ 7 with q | q
                        · exact q
                        · have e7 : t_ = 7 := by omega
                          rw [e7] at hds hnw
                          obtain ⟨a, ha, q2⟩ := gw_pigeon hn7 hds (fun x9 _ => gw_lt hm.1 hcp hj x9)
                          exact absurd q2 (hnw a ha)
                      refine lv_aload_n hx hb dX5_walk_83 rfl (lv_at hl 0 rfl) ?_
                      refine va_get (D := en.1) (ci := 5) (v := .ref (bd 12)) (C := RX5) (T := TX5) (N := 16) hx hb hts iw_X5_walk_X5 hown hE.1 hP 0 rfl rfl 15 (by decide) (hts (.fieldLink RX5 44 "CreditGameModel" "chosen" "[I") (by decide +kernel)) (fun _ h9 => h9) rfl dX5_walk_84 ?_
                      refine lv_iload_n hx hb dX5_walk_87 rfl (lv_at hl 3 rfl) ?_
                      refine lv_iload hx hb dX5_walk_88 (lv_at hl 4 rfl) ?_
                      refine mr_ist hx hb hE hP hI hS 12 (by decide) (gr_gw G j t_) rfl (show _ < 7 by omega) dX5_walk_90 (fun H locs hP hS => ?_)
                      obtain ⟨d90, ed90⟩ : ∃ z : mT, z = (va_up e_.1 12 (upd (e_.1 12) (gr_gw G j t_) (nI t_)), e_.2) := ⟨_, rfl⟩
                      rw [← ed90] at hP
                      have hb4 : bk2 G d34 d90 := by rw [ed90]; exact bk2_up hb2
                      refine lv_iinc (v := (nI (t_ + 1))) (lv' := [(4, .int (nI (t_ + 1))), (0, .ref (bd 0)), (1, .int (nI j)), (2, .int (nI wh)), (3, .int (nI (gr_gw G j t_)))]) hx hb dX5_walk_91 hl (k := 4) rfl (nI_1 _) (by decide) rfl (fun ls hl => ?_)
                      refine lv_aload_n hx hb dX5_walk_94 rfl (lv_at hl 1 rfl) ?_
                      refine va_get (D := en.1) (ci := 5) (v := .ref (bd 4)) (C := RX5) (T := TX5) (N := 16) hx hb hts iw_X5_walk_X5 hown hE.1 hP 0 rfl rfl 6 (by decide) (hts (.fieldLink RX5 19 "CreditGameModel" "to" "[I") (by decide +kernel)) (fun _ h9 => h9) rfl dX5_walk_95 ?_
                      refine lv_aload_n hx hb dX5_walk_98 rfl (lv_at hl 1 rfl) ?_
                      refine lv_iload_n hx hb dX5_walk_99 rfl (lv_at hl 4 rfl) ?_
                      refine mr_calli (va_runV (As := [.int (nI (gr_gw G j t_))]) (rest := [.ref (bd 4)]) ⟨hx, hb, hml, hown, hts⟩ (cm_bestOf l en bd d90 hI _ hb4.2.2 hcp (gr_gw G j t_) hgw) (cwV 1 hts gX5_walk_X5_bestOf rfl rfl rfl (by decide +kernel) ⟨Nat.le_of_ble_eq_true rfl, Nat.le_of_ble_eq_true rfl⟩) (ct_preV hE (va_recv hE.1 hP (ci := 5) (q0 := 0) rfl rfl) ⟨rfl, hP⟩) rfl rfl hl.1 rfl (lv_room (Nat.le_of_ble_eq_true rfl)) dX5_walk_100 ⟨Nat.le_of_ble_eq_true rfl, Nat.le_of_ble_eq_true rfl⟩) hS (fun r100 d100 H locs w100 hP hS => ?_)
                      have hgs := gs_step hm.1 hcp hj t_
                      refine mr_ild hx hb hE hP 4 (by decide) (gr_best G (gr_gw G j t_)) w100.1 (show _ < 24 by omega) dX5_walk_103 ?_
                      refine lv_topi (fun z_103 ez_103 => ?_)
                      obtain rfl : z_103 = (nI (gr_gw G j (t_ + 1))) := (ez_103.trans ((w100.2.2.2.1.2.2.2.2 _ hgs.1).2.1.trans (gr_tgt_lt hm.1 hgs.1).2))
                      refine lv_istore_n (lv' := [(3, .int (nI (gr_gw G j (t_ + 1)))), (4, .int (nI (t_ + 1))), (0, .ref (bd 0)), (1, .int (nI j)), (2, .int (nI wh))]) hx hb dX5_walk_104 rfl hl (by decide) rfl (fun ls hl => ?_)
                      refine lv_goto (tgt := 74) hx hb dX5_walk_105 (by decide) ?_
                      exact ih74 (t_ + 1) d100 _ _ _ (by omega) (by omega) (by rw [ed90] at w100; exact bk2_tr (bk2_up hb2) w100.2) (wq_next hwq (by rw [w100.2.1 12 (by decide), ed90]; rfl)) (fun a b ha hb9 hab => by by_cases e1 : a = t_; by_cases e2 : b = t_; omega; exact absurd (by rw [← hab, e1]) (hnw b (by omega)); by_cases e2 : b = t_; exact absurd (by rw [hab, e2]) (hnw a (by omega)); exact hds a b (by omega) (by omega) hab) hP hS (lv_sub hl [2, 3, 4, 0, 1] rfl)
                exact key74 (9) 0 d_ _ _ _ (by omega) (by omega) hb_ (fun u hu => Or.inl ⟨hch u (by omega), fun a ha => absurd ha (Nat.not_lt_zero a)⟩) (fun a b ha => absurd ha (Nat.not_lt_zero a)) hP hS (lv_sub hl [2, 3, 4, 1, 0] rfl)
              · skip
                have hlt : i < gr_n G := by
                  rcases Nat.lt_or_ge i (gr_n G) with q | q
                  · exact q
                  · exact absurd (by rw [hmd.2.1]; exact nI_le q (by omega)) b53
                refine lv_aload_n hx hb dX5_walk_56 rfl (lv_at hl 0 rfl) ?_
                refine va_get (D := en.1) (ci := 5) (v := .ref (bd 12)) (C := RX5) (T := TX5) (N := 16) hx hb hts iw_X5_walk_X5 hown hE.1 hP 0 rfl rfl 15 (by decide) (hts (.fieldLink RX5 44 "CreditGameModel" "chosen" "[I") (by decide +kernel)) (fun _ h9 => h9) rfl dX5_walk_57 ?_
                refine lv_iload_n hx hb dX5_walk_60 rfl (lv_at hl 3 rfl) ?_
                refine lv_iconst (v := (-1)) hx hb dX5_walk_61 (by decide) ?_
                refine mr_ist hx hb hE hP hI hS 12 (by decide) i rfl (show _ < 7 by omega) dX5_walk_62 (fun H locs hP hS => ?_)
                obtain ⟨d62, ed62⟩ : ∃ z : mT, z = (va_up d_.1 12 (upd (d_.1 12) i (-1)), d_.2) := ⟨_, rfl⟩
                rw [← ed62] at hP
                refine lv_iinc (v := (nI (i + 1))) (lv' := [(3, .int (nI (i + 1))), (0, .ref (bd 0)), (1, .int (nI j)), (2, .int (nI wh))]) hx hb dX5_walk_63 hl (k := 3) rfl (nI_1 _) (by decide) rfl (fun ls hl => ?_)
                refine lv_goto (tgt := 48) hx hb dX5_walk_66 (by decide) ?_
                exact ih48 (i + 1) d62 _ _ _ (by omega) (by omega) (by rw [ed62]; exact bk2_up hb_) (fun u h => by rw [ed62]; show upd (d_.1 12) i (-1) u = _; by_cases e9 : u = i; rw [e9, ud_at]; rw [ud_ne e9]; exact hch u (by omega)) hP hS (lv_sub hl [1, 2, 3, 0] rfl)
          exact key48 (gr_n G + 1) 0 d34 _ _ _ (Nat.zero_le _) (by omega) (bk2_rf (ht34.mci hc_)) (fun u h => absurd h (Nat.not_lt_zero u)) hP hS (lv_sub hl [1, 2, 3, 0] rfl)
      · skip
        skip
        have q15 : ¬ _ := fun q => b15 (i_le.mpr q)
        rw [show (3 : Int32).toInt = 3 by decide] at q15
        have hnk : ¬ ((∃ j, j < gr_n G ∧ v = nI j) ∧ ∃ wh, wh < 4 ∧ x = nI wh) := fun ⟨_, wh, hwh, e9⟩ => by rw [e9, nI_toInt (by omega)] at q15; omega
        refine lv_iconst (v := 1) hx hb dX5_walk_18 (by decide) ?_
        refine lv_goto (tgt := 34) hx hb dX5_walk_19 (by decide) ?_
        refine va_put (D := en.1) (ci := 5) (v := .int 1) (ty := .int) (C := RX5) (T := TX5) (N := 16) hx hb hts iw_X5_walk_X5 tyX5 tyX5_ok nmX5 hown hE.1 hP (mw_D hI) hS 0 rfl rfl 0 (by decide) (hts (.fieldLink RX5 47 "CreditGameModel" "thrown" "I") (by decide +kernel)) (fun _ h9 => h9) rfl (by decide +kernel) rfl rfl (Nat.le_of_ble_eq_true rfl) dX5_walk_34 (fun H locs hP _ hS => ?_)
        have hP : va_P en.1 vwCl (mw en bd (va_up d.1 0 (upd (d.1 0) 0 1), d.2)) H := hP
        obtain ⟨d34, ed34⟩ : ∃ z : mT, z = (va_up d.1 0 (upd (d.1 0) 0 1), d.2) := ⟨_, rfl⟩
        rw [← ed34] at hP
        have ht34 : mth d d34 _ := ed34
        have hm1 := ht34.mi hm
        refine lv_aload_n hx hb dX5_walk_37 rfl (lv_at hl 0 rfl) ?_
        refine va_get (D := en.1) (ci := 5) (v := .int (d34.1 0 0)) (C := RX5) (T := TX5) (N := 16) hx hb hts iw_X5_walk_X5 hown hE.1 hP 0 rfl rfl 0 (by decide) (hts (.fieldLink RX5 47 "CreditGameModel" "thrown" "I") (by decide +kernel)) (fun _ h9 => h9) rfl dX5_walk_38 ?_
        refine lv_topi (fun z_38 ez_38 => ?_)
        obtain rfl : z_38 = 1 := (ez_38.trans (by rw [ed34]; rfl))
        refine lv_if_le (tgt := 46) hx hb dX5_walk_41 (by decide) (fun b41 => absurd b41 (by decide)) (fun b41 => ?_)
        refine lv_iconst (v := 0) hx hb dX5_walk_44 (by decide) ?_
        exact W.iret (v := 0) hx hb hr (fun t ht hW => ⟨⟨_, d34, rfl, (Or.inl ⟨hnk, ht34.thr, ht34.mci hc_⟩), by show va_P _ _ _ t.heap; rw [ht]; exact hP⟩, hS.F ht⟩) hS.2.2 dX5_walk_45
