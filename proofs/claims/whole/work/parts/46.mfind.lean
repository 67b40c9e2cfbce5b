/-! ===== CreditGameModel: findValues ===== -/
theorem iw_X5_findValues_X5 : ∀ w ∈ wsX50, w ∈ wsX5_findValues := by decide +kernel
set_option maxHeartbeats 4000000 in
set_option maxRecDepth 100000 in
/--  -/
theorem cm_findValues (l : Launch) (en : en_T) (bd : Nat → Nat) (d : mT) (hI : mw_I bd) (sz : Nat) {G : gr_T} (hc_ : mci G d) (hc : gr_cpl G) : Met l yX5_findValues wsX5_findValues (rm_ 4 0 0) (ct_Pc en [.ref (bd 0)] (fun H => H.size = sz ∧ va_P en.1 vwCl (mw en bd d) H)) (va_Qv (fun d' => fv_P G d d') (fun d' t => va_P en.1 vwCl (mw en bd d') t.heap) (mw_A bd sz)) 0 0 (mw_A bd sz) := by
  refine Met.ofW (cc := cX5_findValues) (maxL := 13) (ret := none) (by decide) rfl ?_
  intro p e s m args below meth co s₁ B hml hv
  obtain ⟨rfl, hE, hsz, hP⟩ := hv
  subst hsz
  have hx := B.exec
  have hb := B.bytes
  have hr := B.returns
  have hts := atoms_spec (ws := wsX5_findValues) B.pre
  have hown : s.vm.findClass RX5 = some m.cls := findClass_of_methodNamed B.named
  have hlocks := B.notSynchronized
  have hS : va_S (mw_A bd s.heap.size) s.heap s.heap [] := va_S.rf
  have hl := lv_entry ([.ref (bd 0)]) (n := 13) (Nat.le_of_ble_eq_true rfl)
  rw [lg_entry_eq]
  generalize (lg_sl ([.ref (bd 0)]) ++ List.replicate (13 - (lg_sl ([.ref (bd 0)])).length) Slot.unset).toArray = ls at hl ⊢
  have hl : lv_has ls 13 [(0, .ref (bd 0))] := hl
  have hm := hc_.1
  have hn7 := hm.n7
  have he24 := hm.e24
  obtain ⟨st, hst⟩ : ∃ st, st = 36 * gr_n G * gr_n G * gr_n G + 1 := ⟨_, rfl⟩
  have hsb : st ≤ 12349 := by rw [hst]; exact st_bd hn7
  refine lv_aload_n hx hb dX5_findValues_0 rfl (lv_at hl 0 rfl) ?_
  refine va_get (D := en.1) (ci := 5) (v := .int (d.1 0 3)) (C := RX5) (T := TX5) (N := 16) hx hb hts iw_X5_findValues_X5 hown hE.1 hP 0 rfl rfl 8 (by decide) (hts (.fieldLink RX5 61 "CreditGameModel" "known" "Z") (by decide +kernel)) (fun _ h9 => h9) rfl dX5_findValues_1 ?_
  refine lv_if_eq (tgt := 8) hx hb dX5_findValues_4 (by decide) (fun b4 => ?_) (fun b4 => ?_)
  · skip
    refine lv_aload_n hx hb dX5_findValues_8 rfl (lv_at hl 0 rfl) ?_
    refine lv_iconst (v := 1) hx hb dX5_findValues_9 (by decide) ?_
    refine va_put (D := en.1) (ci := 5) (v := .int 1) (ty := .boolean) (C := RX5) (T := TX5) (N := 16) hx hb hts iw_X5_findValues_X5 tyX5 tyX5_ok nmX5 hown hE.1 hP (mw_D hI) hS 0 rfl rfl 8 (by decide) (hts (.fieldLink RX5 61 "CreditGameModel" "known" "Z") (by decide +kernel)) (fun _ h9 => h9) rfl (by decide +kernel) rfl rfl (Nat.le_of_ble_eq_true rfl) dX5_findValues_10 (fun H locs hP _ hS => ?_)
    have hP : va_P en.1 vwCl (mw en bd (va_up d.1 0 (upd (d.1 0) 3 1), d.2)) H := hP
    obtain ⟨d10, ed10⟩ : ∃ z : mT, z = (va_up d.1 0 (upd (d.1 0) 3 1), d.2) := ⟨_, rfl⟩
    rw [← ed10] at hP
    have hm1 : mi G d10 := mi_eq hm (by rw [ed10]; rfl) (by rw [ed10]; rfl) (fun k9 h1 _ => by rw [ed10]; exact up_ne (by omega))
    refine lv_aload_n hx hb dX5_findValues_13 rfl (lv_at hl 0 rfl) ?_
    refine va_get (D := en.1) (ci := 5) (v := .int (d10.1 0 1)) (C := RX5) (T := TX5) (N := 16) hx hb hts iw_X5_findValues_X5 hown hE.1 hP 0 rfl rfl 1 (by decide) (hts (.fieldLink RX5 51 "CreditGameModel" "vertices" "I") (by decide +kernel)) (fun _ h9 => h9) rfl dX5_findValues_14 ?_
    refine lv_topi (fun z_14 ez_14 => ?_)
    obtain rfl : z_14 = (nI (gr_n G)) := (ez_14.trans hm1.2.1)
    refine lv_istore_n (lv' := [(1, .int (nI (gr_n G))), (0, .ref (bd 0))]) hx hb dX5_findValues_17 rfl hl (by decide) rfl (fun ls hl => ?_)
    refine lv_ldc2 (own := RX5) (v := 4) hx hb hown (hts (.constantLong RX5 85 (4)) (by decide +kernel)) dX5_findValues_18 ?_
    refine lv_iload_n hx hb dX5_findValues_21 rfl (lv_at hl 0 rfl) ?_
    refine lv_i2l (v := (lN (gr_n G))) hx hb dX5_findValues_22 (nI_l (by omega)) ?_
    refine lv_lmul hx hb dX5_findValues_23 ?_
    refine lv_iload_n hx hb dX5_findValues_24 rfl (lv_at hl 0 rfl) ?_
    refine lv_i2l (v := (lN (gr_n G))) hx hb dX5_findValues_25 (nI_l (by omega)) ?_
    refine lv_lmul hx hb dX5_findValues_26 ?_
    refine lv_iload_n hx hb dX5_findValues_27 rfl (lv_at hl 0 rfl) ?_
    refine lv_i2l (v := (lN (gr_n G))) hx hb dX5_findValues_28 (nI_l (by omega)) ?_
    refine lv_lmul hx hb dX5_findValues_29 ?_
    refine lv_ldc2 (own := RX5) (v := 9) hx hb hown (hts (.constantLong RX5 87 (9)) (by decide +kernel)) dX5_findValues_30 ?_
    refine lv_lmul hx hb dX5_findValues_33 ?_
    refine lv_lconst (v := 1) hx hb dX5_findValues_34 (by decide) ?_
    refine lv_ladd hx hb dX5_findValues_35 ?_
    refine lv_topl (fun z_35 ez_35 => ?_)
    obtain rfl : z_35 = (lN st) := (ez_35.trans ((st_eq hn7).trans (by rw [hst])))
    refine lv_lstore_n (lv' := [(2, .long (lN st)), (1, .int (nI (gr_n G))), (0, .ref (bd 0))]) hx hb dX5_findValues_36 rfl hl (by decide) rfl (fun ls hl => ?_)
    refine lv_iconst (v := (nI 0)) hx hb dX5_findValues_37 (by decide) ?_
    refine lv_istore (lv' := [(4, .int (nI 0)), (2, .long (lN st)), (1, .int (nI (gr_n G))), (0, .ref (bd 0))]) hx hb dX5_findValues_38 hl (by decide) rfl (fun ls hl => ?_)
    have key40 : ∀ (n_ : Nat) (i : Nat) (d_ : mT) (H : Heap) (locs : List Loc) (ls : Array Slot), i ≤ gr_n G → gr_n G + 1 ≤ i + n_ → kl d10 d_ → (∀ u, u < i → (d_.2 8 u).toInt = 0) → va_P en.1 vwCl (mw en bd d_) H → va_S (mw_A bd s.heap.size) s.heap H locs → lv_has ls 13 [(0, .ref (bd 0)), (1, .int (nI (gr_n G))), (2, .long (lN st)), (4, .int (nI i))] → W p l e (headSpec wsX5_findValues (rm_ 4 0 0)).room s m ([.ref (bd 0)] : List Value).toArray below meth co H locs 0 0 (MQ below (va_Qv (fun d' => fv_P G d d') (fun d' t => va_P en.1 vwCl (mw en bd d') t.heap) (mw_A bd s.heap.size)) ([.ref (bd 0)] : List Value).toArray s 0 0 (mw_A bd s.heap.size)) (F0 m 40 ls []) := by
      intro n_
      induction n_ with
      | zero =>
        intro i d_ H locs ls hi_ hin hkl hz hP hS hl
        exact absurd hin (by omega)
      | succ n_ ih40 =>
        intro i d_ H locs ls hi_ hin hkl hz hP hS hl
        refine lv_iload hx hb dX5_findValues_40 (lv_at hl 3 rfl) ?_
        refine lv_iload_n hx hb dX5_findValues_42 rfl (lv_at hl 1 rfl) ?_
        refine lv_icmp_ge (tgt := 60) hx hb dX5_findValues_43 (by decide) (fun b43 => ?_) (fun b43 => ?_)
        · skip
          have hin9 : i = gr_n G := by
            rcases Nat.lt_or_ge i (gr_n G) with q | q
            · exact absurd b43 (by exact nI_ge q (by omega))
            · omega
          refine lv_lconst (v := 0) hx hb dX5_findValues_60 (by decide) ?_
          refine lv_lstore (lv' := [(4, .long 0), (0, .ref (bd 0)), (1, .int (nI (gr_n G))), (2, .long (lN st))]) hx hb dX5_findValues_61 hl (by decide) rfl (fun ls hl => ?_)
          have key63 : ∀ (n_ : Nat) (k : Nat) (d_ : mT) (H : Heap) (locs : List Loc) (ls : Array Slot), k ≤ st → st + 1 ≤ k + n_ → kl d10 d_ → (∀ u, u < gr_n G → (d_.2 8 u).toInt = viM G k u) → va_P en.1 vwCl (mw en bd d_) H → va_S (mw_A bd s.heap.size) s.heap H locs → lv_has ls 13 [(0, .ref (bd 0)), (1, .int (nI (gr_n G))), (2, .long (lN st)), (4, .long (lN k))] → W p l e (headSpec wsX5_findValues (rm_ 4 0 0)).room s m ([.ref (bd 0)] : List Value).toArray below meth co H locs 0 0 (MQ below (va_Qv (fun d' => fv_P G d d') (fun d' t => va_P en.1 vwCl (mw en bd d') t.heap) (mw_A bd s.heap.size)) ([.ref (bd 0)] : List Value).toArray s 0 0 (mw_A bd s.heap.size)) (F0 m 63 ls []) := by
            intro n_
            induction n_ with
            | zero =>
              intro k d_ H locs ls hk_ hin hkl hv_ hP hS hl
              exact absurd hin (by omega)
            | succ n_ ih63 =>
              intro k d_ H locs ls hk_ hin hkl hv_ hP hS hl
              have hmd : mi G d_ := kl_mi hkl hm1
              refine lv_lload hx hb dX5_findValues_63 (lv_at hl 3 rfl) ?_
              refine lv_lload_n hx hb dX5_findValues_65 rfl (lv_at hl 2 rfl) ?_
              refine W.lcmp hx hb dX5_findValues_66 ?_
              refine lv_if_ge (tgt := 234) hx hb dX5_findValues_67 (by decide) (fun b67 => ?_) (fun b67 => ?_)
              · skip
                have hks : k = st := by
                  have h9 := (lN_le (by omega) (by omega)).mp ((lg_cmp_ge _ _).mp b67)
                  omega
                rw [hks] at hv_
                refine lv_iconst (v := (nI 0)) hx hb dX5_findValues_234 (by decide) ?_
                refine lv_istore (lv' := [(4, .int (nI 0)), (0, .ref (bd 0)), (1, .int (nI (gr_n G))), (2, .long (lN st))]) hx hb dX5_findValues_235 hl (by decide) rfl (fun ls hl => ?_)
                have key237 : ∀ (n_ : Nat) (i : Nat) (g_ : mT) (H : Heap) (locs : List Loc) (ls : Array Slot), i ≤ gr_n G → gr_n G + 1 ≤ i + n_ → kx [6, 7] d10.1 g_.1 → g_.2 8 = d_.2 8 → (∀ u, u < i → (g_.1 6 u).toInt = vl_t (vl_F G u) ∧ g_.1 7 u = nI (vl_q (vl_F G u))) → va_P en.1 vwCl (mw en bd g_) H → va_S (mw_A bd s.heap.size) s.heap H locs → lv_has ls 13 [(0, .ref (bd 0)), (1, .int (nI (gr_n G))), (2, .long (lN st)), (4, .int (nI i))] → W p l e (headSpec wsX5_findValues (rm_ 4 0 0)).room s m ([.ref (bd 0)] : List Value).toArray below meth co H locs 0 0 (MQ below (va_Qv (fun d' => fv_P G d d') (fun d' t => va_P en.1 vwCl (mw en bd d') t.heap) (mw_A bd s.heap.size)) ([.ref (bd 0)] : List Value).toArray s 0 0 (mw_A bd s.heap.size)) (F0 m 237 ls []) := by
                  intro n_
                  induction n_ with
                  | zero =>
                    intro i g_ H locs ls hi_ hin4 hk4 h84 hf4 hP hS hl
                    exact absurd hin4 (by omega)
                  | succ n_ ih237 =>
                    intro i g_ H locs ls hi_ hin4 hk4 h84 hf4 hP hS hl
                    have hmg : mi G g_ := mi_eq hm1 (by rw [hk4 0 (by decide)]) (by rw [hk4 0 (by decide)]) (fun k h1 h2 => hk4 k (by simp; omega))
                    refine lv_iload hx hb dX5_findValues_237 (lv_at hl 3 rfl) ?_
                    refine lv_iload_n hx hb dX5_findValues_239 rfl (lv_at hl 1 rfl) ?_
                    refine lv_icmp_ge (tgt := 257) hx hb dX5_findValues_240 (by decide) (fun b240 => ?_) (fun b240 => ?_)
                    · skip
                      have hin9 : i = gr_n G := by
                        rcases Nat.lt_or_ge i (gr_n G) with q | q
                        · exact absurd b240 (by exact nI_ge q (by omega))
                        · omega
                      exact W.vret hx hb hr (fun t ht hW => ⟨⟨g_, rfl, ⟨fun k9 hk9 => by rw [hk4 k9 (fun q => hk9 (by simp at q ⊢; omega)), ed10]; exact up_ne (fun q => hk9 (by simp [q])), fun j9 hj9 => by rw [hk4 0 (by decide), ed10]; exact ud_ne hj9, by rw [hk4 0 (by decide), ed10]; show upd (d.1 0) 3 1 3 = 1; rw [ud_at], fun v hv => hf4 v (by omega)⟩, by show va_P _ _ _ t.heap; rw [ht]; exact hP⟩, hS.F ht⟩) hS.2.2 dX5_findValues_257
                    · skip
                      have hlt : i < gr_n G := by
                        rcases Nat.lt_or_ge i (gr_n G) with q | q
                        · exact q
                        · exact absurd (by exact nI_le q (by omega)) b240
                      refine lv_aload_n hx hb dX5_findValues_243 rfl (lv_at hl 0 rfl) ?_
                      refine lv_iload hx hb dX5_findValues_244 (lv_at hl 3 rfl) ?_
                      refine lv_lload_n hx hb dX5_findValues_246 rfl (lv_at hl 2 rfl) ?_
                      refine lv_iload_n hx hb dX5_findValues_247 rfl (lv_at hl 1 rfl) ?_
                      refine mr_callv (va_runV (As := [.int (nI i), .long (lN st), .int (nI (gr_n G))]) (rest := []) ⟨hx, hb, hml, hown, hts⟩ (cm_nearest l en bd g_ hI _ hmg hc i hlt st hst (by rw [h84]; exact hv_ i hlt)) (cwV 3 hts gX5_findValues_X5_nearest rfl rfl rfl (by decide +kernel) ⟨Nat.le_of_ble_eq_true rfl, Nat.le_of_ble_eq_true rfl⟩) (ct_preV hE (va_recv hE.1 hP (ci := 5) (q0 := 0) rfl rfl) ⟨rfl, hP⟩) rfl rfl hl.1 rfl (lv_room (Nat.le_of_ble_eq_true rfl)) dX5_findValues_248 ⟨Nat.le_of_ble_eq_true rfl, Nat.le_of_ble_eq_true rfl⟩) hS (fun d248 H locs w248 hP hS => ?_)
                      refine lv_iinc (v := (nI (i + 1))) (lv' := [(4, .int (nI (i + 1))), (0, .ref (bd 0)), (1, .int (nI (gr_n G))), (2, .long (lN st))]) hx hb dX5_findValues_251 hl (k := 3) rfl (nI_1 _) (by decide) rfl (fun ls hl => ?_)
                      refine lv_goto (tgt := 237) hx hb dX5_findValues_254 (by decide) ?_
                      exact ih237 (i + 1) d248 _ _ _ (by omega) (by omega) (hk4.tr w248.1.2.1) (by rw [w248.1.1]; exact h84) (fun u h => by by_cases e9 : u = i; rw [e9]; exact w248.2; rw [(w248.1.2.2 u e9).1, (w248.1.2.2 u e9).2]; exact hf4 u (by omega)) hP hS (lv_sub hl [1, 2, 3, 0] rfl)
                exact key237 (gr_n G + 1) 0 d_ _ _ _ (Nat.zero_le _) (by omega) (by rw [show d_.1 = d10.1 from hkl]; exact kx.rf) rfl (fun u h => absurd h (Nat.not_lt_zero u)) hP hS (lv_sub hl [1, 2, 3, 0] rfl)
              · skip
                have hks : k < st := by
                  rcases Nat.lt_or_ge k st with q | q
                  · exact q
                  · exact absurd ((lg_cmp_ge _ _).mpr ((lN_le (by omega) (by omega)).mpr q)) b67
                refine lv_iconst (v := (nI 0)) hx hb dX5_findValues_70 (by decide) ?_
                refine lv_istore (lv' := [(6, .int (nI 0)), (0, .ref (bd 0)), (1, .int (nI (gr_n G))), (2, .long (lN st)), (4, .long (lN k))]) hx hb dX5_findValues_71 hl (by decide) rfl (fun ls hl => ?_)
                have key73 : ∀ (n_ : Nat) (v : Nat) (e_ : mT) (H : Heap) (locs : List Loc) (ls : Array Slot), v ≤ gr_n G → gr_n G + 1 ≤ v + n_ → kl d_ e_ → e_.2 8 = d_.2 8 → (∀ u, u < v → (e_.2 9 u).toInt = viM G (k + 1) u) → va_P en.1 vwCl (mw en bd e_) H → va_S (mw_A bd s.heap.size) s.heap H locs → lv_has ls 13 [(0, .ref (bd 0)), (1, .int (nI (gr_n G))), (2, .long (lN st)), (4, .long (lN k)), (6, .int (nI v))] → W p l e (headSpec wsX5_findValues (rm_ 4 0 0)).room s m ([.ref (bd 0)] : List Value).toArray below meth co H locs 0 0 (MQ below (va_Qv (fun d' => fv_P G d d') (fun d' t => va_P en.1 vwCl (mw en bd d') t.heap) (mw_A bd s.heap.size)) ([.ref (bd 0)] : List Value).toArray s 0 0 (mw_A bd s.heap.size)) (F0 m 73 ls []) := by
                  intro n_
                  induction n_ with
                  | zero =>
                    intro v e_ H locs ls hv9 hin2 hke h8 hth hP hS hl
                    exact absurd hin2 (by omega)
                  | succ n_ ih73 =>
                    intro v e_ H locs ls hv9 hin2 hke h8 hth hP hS hl
                    have hme : mi G e_ := kl_mi hke hmd
                    refine lv_iload hx hb dX5_findValues_73 (lv_at hl 4 rfl) ?_
                    refine lv_iload_n hx hb dX5_findValues_75 rfl (lv_at hl 1 rfl) ?_
                    refine lv_icmp_ge (tgt := 196) hx hb dX5_findValues_76 (by decide) (fun b76 => ?_) (fun b76 => ?_)
                    · skip
                      have hin9 : v = gr_n G := by
                        rcases Nat.lt_or_ge v (gr_n G) with q | q
                        · exact absurd b76 (by exact nI_ge q (by omega))
                        · omega
                      have hth : ∀ u, u < gr_n G → (e_.2 9 u).toInt = viM G (k + 1) u := fun u hu => hth u (by omega)
                      refine lv_iconst (v := (nI 0)) hx hb dX5_findValues_196 (by decide) ?_
                      refine lv_istore (lv' := [(6, .int (nI 0)), (0, .ref (bd 0)), (1, .int (nI (gr_n G))), (2, .long (lN st)), (4, .long (lN k))]) hx hb dX5_findValues_197 hl (by decide) rfl (fun ls hl => ?_)
                      have key199 : ∀ (n_ : Nat) (v : Nat) (f_ : mT) (H : Heap) (locs : List Loc) (ls : Array Slot), v ≤ gr_n G → gr_n G + 1 ≤ v + n_ → kl d_ f_ → f_.2 9 = e_.2 9 → (∀ u, u < v → (f_.2 8 u).toInt = viM G (k + 1) u) → va_P en.1 vwCl (mw en bd f_) H → va_S (mw_A bd s.heap.size) s.heap H locs → lv_has ls 13 [(0, .ref (bd 0)), (1, .int (nI (gr_n G))), (2, .long (lN st)), (4, .long (lN k)), (6, .int (nI v))] → W p l e (headSpec wsX5_findValues (rm_ 4 0 0)).room s m ([.ref (bd 0)] : List Value).toArray below meth co H locs 0 0 (MQ below (va_Qv (fun d' => fv_P G d d') (fun d' t => va_P en.1 vwCl (mw en bd d') t.heap) (mw_A bd s.heap.size)) ([.ref (bd 0)] : List Value).toArray s 0 0 (mw_A bd s.heap.size)) (F0 m 199 ls []) := by
                        intro n_
                        induction n_ with
                        | zero =>
                          intro v f_ H locs ls hv9 hin2 hkf h9 hcp9 hP hS hl
                          exact absurd hin2 (by omega)
                        | succ n_ ih199 =>
                          intro v f_ H locs ls hv9 hin2 hkf h9 hcp9 hP hS hl
                          refine lv_iload hx hb dX5_findValues_199 (lv_at hl 4 rfl) ?_
                          refine lv_iload_n hx hb dX5_findValues_201 rfl (lv_at hl 1 rfl) ?_
                          refine lv_icmp_ge (tgt := 225) hx hb dX5_findValues_202 (by decide) (fun b202 => ?_) (fun b202 => ?_)
                          · skip
                            have hin9 : v = gr_n G := by
                              rcases Nat.lt_or_ge v (gr_n G) with q | q
                              · exact absurd b202 (by exact nI_ge q (by omega))
                              · omega
                            refine lv_lload hx hb dX5_findValues_225 (lv_at hl 3 rfl) ?_
                            refine lv_lconst (v := 1) hx hb dX5_findValues_227 (by decide) ?_
                            refine lv_ladd hx hb dX5_findValues_228 ?_
                            refine lv_topl (fun z_228 ez_228 => ?_)
                            obtain rfl : z_228 = (lN (k + 1)) := (ez_228.trans (lN_1 _))
                            refine lv_lstore (lv' := [(4, .long (lN (k + 1))), (0, .ref (bd 0)), (1, .int (nI (gr_n G))), (2, .long (lN st)), (6, .int (nI v))]) hx hb dX5_findValues_229 hl (by decide) rfl (fun ls hl => ?_)
                            refine lv_goto (tgt := 63) hx hb dX5_findValues_231 (by decide) ?_
                            exact ih63 (k + 1) f_ _ _ _ (by omega) (by omega) (hkf.trans hkl) (fun u hu => hcp9 u (by omega)) hP hS (lv_sub hl [1, 2, 3, 0] rfl)
                          · skip
                            have hlt : v < gr_n G := by
                              rcases Nat.lt_or_ge v (gr_n G) with q | q
                              · exact q
                              · exact absurd (by exact nI_le q (by omega)) b202
                            refine lv_aload_n hx hb dX5_findValues_205 rfl (lv_at hl 0 rfl) ?_
                            refine va_get (D := en.1) (ci := 5) (v := .ref (bd 8)) (C := RX5) (T := TX5) (N := 16) hx hb hts iw_X5_findValues_X5 hown hE.1 hP 0 rfl rfl 11 (by decide) (hts (.fieldLink RX5 31 "CreditGameModel" "now" "[J") (by decide +kernel)) (fun _ h9 => h9) rfl dX5_findValues_206 ?_
                            refine lv_iload hx hb dX5_findValues_209 (lv_at hl 4 rfl) ?_
                            refine lv_aload_n hx hb dX5_findValues_211 rfl (lv_at hl 0 rfl) ?_
                            refine va_get (D := en.1) (ci := 5) (v := .ref (bd 9)) (C := RX5) (T := TX5) (N := 16) hx hb hts iw_X5_findValues_X5 hown hE.1 hP 0 rfl rfl 12 (by decide) (hts (.fieldLink RX5 35 "CreditGameModel" "then" "[J") (by decide +kernel)) (fun _ h9 => h9) rfl dX5_findValues_212 ?_
                            refine lv_iload hx hb dX5_findValues_215 (lv_at hl 4 rfl) ?_
                            refine mr_lld hx hb hE hP 9 (by decide) v rfl (show _ < 7 by omega) dX5_findValues_217 ?_
                            refine mr_lst hx hb hE hP hI hS 8 (by decide) v rfl (show _ < 7 by omega) dX5_findValues_218 (fun H locs hP hS => ?_)
                            obtain ⟨d218, ed218⟩ : ∃ z : mT, z = (f_.1, va_up f_.2 8 (vp_updL (f_.2 8) v (f_.2 9 v))) := ⟨_, rfl⟩
                            rw [← ed218] at hP
                            refine lv_iinc (v := (nI (v + 1))) (lv' := [(6, .int (nI (v + 1))), (0, .ref (bd 0)), (1, .int (nI (gr_n G))), (2, .long (lN st)), (4, .long (lN k))]) hx hb dX5_findValues_219 hl (k := 4) rfl (nI_1 _) (by decide) rfl (fun ls hl => ?_)
                            refine lv_goto (tgt := 199) hx hb dX5_findValues_222 (by decide) ?_
                            exact ih199 (v + 1) d218 _ _ _ (by omega) (by omega) (by rw [ed218]; exact hkf) (by rw [ed218]; exact h9) (fun u h => by rw [ed218]; show (vp_updL (f_.2 8) v (f_.2 9 v) u).toInt = _; by_cases e9 : u = v; rw [e9, pk_uLs, h9]; exact hth v (by omega); rw [pk_uLn e9]; exact hcp9 u (by omega)) hP hS (lv_sub hl [1, 2, 3, 4, 0] rfl)
                      exact key199 (gr_n G + 1) 0 e_ _ _ _ (Nat.zero_le _) (by omega) hke rfl (fun u h => absurd h (Nat.not_lt_zero u)) hP hS (lv_sub hl [1, 2, 3, 4, 0] rfl)
                    · skip
                      have hlv : v < gr_n G := by
                        rcases Nat.lt_or_ge v (gr_n G) with q | q
                        · exact q
                        · exact absurd (by exact nI_le q (by omega)) b76
                      refine lv_iconst (v := 0) hx hb dX5_findValues_79 (by decide) ?_
                      refine lv_istore (lv' := [(7, .int 0), (0, .ref (bd 0)), (1, .int (nI (gr_n G))), (2, .long (lN st)), (4, .long (lN k)), (6, .int (nI v))]) hx hb dX5_findValues_80 hl (by decide) rfl (fun ls hl => ?_)
                      refine lv_lconst (v := 0) hx hb dX5_findValues_82 (by decide) ?_
                      refine lv_lstore (lv' := [(8, .long 0), (7, .int 0), (0, .ref (bd 0)), (1, .int (nI (gr_n G))), (2, .long (lN st)), (4, .long (lN k)), (6, .int (nI v))]) hx hb dX5_findValues_83 hl (by decide) rfl (fun ls hl => ?_)
                      refine lv_iconst (v := (nI 0)) hx hb dX5_findValues_85 (by decide) ?_
                      refine lv_istore (lv' := [(10, .int (nI 0)), (8, .long 0), (7, .int 0), (0, .ref (bd 0)), (1, .int (nI (gr_n G))), (2, .long (lN st)), (4, .long (lN k)), (6, .int (nI v))]) hx hb dX5_findValues_86 hl (by decide) rfl (fun ls hl => ?_)
                      have key88 : ∀ (n_ : Nat) (i : Nat) (sm : Int32) (got : Int64) (ls : Array Slot), i ≤ gr_E G → gr_E G + 1 ≤ i + n_ → vd_P (nd_L G v i) (fun x => gr_w G x + viM G k (gr_tgt G x)) (gr_ow G v) sm got.toInt → lv_has ls 13 [(0, .ref (bd 0)), (1, .int (nI (gr_n G))), (2, .long (lN st)), (4, .long (lN k)), (6, .int (nI v)), (7, .int sm), (8, .long got), (10, .int (nI i))] → W p l e (headSpec wsX5_findValues (rm_ 4 0 0)).room s m ([.ref (bd 0)] : List Value).toArray below meth co H locs 0 0 (MQ below (va_Qv (fun d' => fv_P G d d') (fun d' t => va_P en.1 vwCl (mw en bd d') t.heap) (mw_A bd s.heap.size)) ([.ref (bd 0)] : List Value).toArray s 0 0 (mw_A bd s.heap.size)) (F0 m 88 ls []) := by
                        intro n_
                        induction n_ with
                        | zero =>
                          intro i sm got ls hie hin3 hvd hl
                          exact absurd hin3 (by omega)
                        | succ n_ ih88 =>
                          intro i sm got ls hie hin3 hvd hl
                          refine lv_iload hx hb dX5_findValues_88 (lv_at hl 7 rfl) ?_
                          refine lv_aload_n hx hb dX5_findValues_90 rfl (lv_at hl 0 rfl) ?_
                          refine va_get (D := en.1) (ci := 5) (v := .int (e_.1 0 2)) (C := RX5) (T := TX5) (N := 16) hx hb hts iw_X5_findValues_X5 hown hE.1 hP 0 rfl rfl 4 (by decide) (hts (.fieldLink RX5 54 "CreditGameModel" "edges" "I") (by decide +kernel)) (fun _ h9 => h9) rfl dX5_findValues_91 ?_
                          refine lv_icmp_ge (tgt := 181) hx hb dX5_findValues_94 (by decide) (fun b94 => ?_) (fun b94 => ?_)
                          · skip
                            have hin9 : i = gr_E G := by
                              rcases Nat.lt_or_ge i (gr_E G) with q | q
                              · exact absurd b94 (by rw [hme.2.2.1]; exact nI_ge q (by omega))
                              · omega
                            rw [hin9] at hvd
                            obtain ⟨mx, hmx⟩ : ∃ mx, gr_ow G v = mx := ⟨_, rfl⟩
                            rw [hmx] at hvd
                            refine lv_aload_n hx hb dX5_findValues_181 rfl (lv_at hl 0 rfl) ?_
                            refine va_get (D := en.1) (ci := 5) (v := .ref (bd 9)) (C := RX5) (T := TX5) (N := 16) hx hb hts iw_X5_findValues_X5 hown hE.1 hP 0 rfl rfl 12 (by decide) (hts (.fieldLink RX5 35 "CreditGameModel" "then" "[J") (by decide +kernel)) (fun _ h9 => h9) rfl dX5_findValues_182 ?_
                            refine lv_iload hx hb dX5_findValues_185 (lv_at hl 4 rfl) ?_
                            refine lv_lload hx hb dX5_findValues_187 (lv_at hl 6 rfl) ?_
                            refine mr_lst hx hb hE hP hI hS 9 (by decide) v rfl (show _ < 7 by omega) dX5_findValues_189 (fun H locs hP hS => ?_)
                            obtain ⟨d189, ed189⟩ : ∃ z : mT, z = (e_.1, va_up e_.2 9 (vp_updL (e_.2 9) v got)) := ⟨_, rfl⟩
                            rw [← ed189] at hP
                            refine lv_iinc (v := (nI (v + 1))) (lv' := [(6, .int (nI (v + 1))), (0, .ref (bd 0)), (1, .int (nI (gr_n G))), (2, .long (lN st)), (4, .long (lN k)), (7, .int sm), (8, .long got), (10, .int (nI i))]) hx hb dX5_findValues_190 hl (k := 4) rfl (nI_1 _) (by decide) rfl (fun ls hl => ?_)
                            refine lv_goto (tgt := 73) hx hb dX5_findValues_193 (by decide) ?_
                            exact ih73 (v + 1) d189 _ _ _ (by omega) (by omega) (by rw [ed189]; exact hke) (by rw [ed189]; exact h8) (fun u h => by rw [ed189]; show (vp_updL (e_.2 9) v got u).toInt = _; by_cases e9 : u = v; rw [e9, pk_uLs]; exact vd_end hm.1 hlv (hc.2 v hlv) hmx hvd; rw [pk_uLn e9]; exact hth u (by omega)) hP hS (lv_sub hl [1, 2, 3, 4, 0] rfl)
                          · skip
                            have hlt : i < gr_E G := by
                              rcases Nat.lt_or_ge i (gr_E G) with q | q
                              · exact q
                              · exact absurd (by rw [hme.2.2.1]; exact nI_le q (by omega)) b94
                            refine lv_aload_n hx hb dX5_findValues_97 rfl (lv_at hl 0 rfl) ?_
                            refine lv_iload hx hb dX5_findValues_98 (lv_at hl 7 rfl) ?_
                            refine lv_iload hx hb dX5_findValues_100 (lv_at hl 4 rfl) ?_
                            refine ro_calli (va_runV (As := [.int (nI i), .int (nI v)]) (rest := []) ⟨hx, hb, hml, hown, hts⟩ (cm_leads l en bd e_ hme i v hlt hlv) (cwV 2 hts gX5_findValues_X5_leads rfl rfl rfl (by decide +kernel) ⟨Nat.le_of_ble_eq_true rfl, Nat.le_of_ble_eq_true rfl⟩) (ct_preV hE (va_recv hE.1 hP (ci := 5) (q0 := 0) rfl rfl) hP) rfl rfl hl.1 rfl (lv_room (Nat.le_of_ble_eq_true rfl)) dX5_findValues_102 ⟨Nat.le_of_ble_eq_true rfl, Nat.le_of_ble_eq_true rfl⟩) (fun r102 w102 => ?_)
                            refine lv_if_ne (tgt := 111) hx hb dX5_findValues_105 (by decide) (fun b105 => ?_) (fun b105 => ?_)
                            · skip
                              have hin_ : i ∈ gr_adj G v := (w102.resolve_right (fun q => b105 q.1)).2
                              have htl := gr_tgt_lt hm.1 hlt
                              have hw9 := gr_W hm.1 v hlv i hin_
                              have hbv := viM_bd hm.1 hc (k := k) (by omega) htl.1
                              refine lv_aload_n hx hb dX5_findValues_111 rfl (lv_at hl 0 rfl) ?_
                              refine va_get (D := en.1) (ci := 5) (v := .ref (bd 5)) (C := RX5) (T := TX5) (N := 16) hx hb hts iw_X5_findValues_X5 hown hE.1 hP 0 rfl rfl 7 (by decide) (hts (.fieldLink RX5 22 "CreditGameModel" "weight" "[I") (by decide +kernel)) (fun _ h9 => h9) rfl dX5_findValues_112 ?_
                              refine lv_iload hx hb dX5_findValues_115 (lv_at hl 7 rfl) ?_
                              refine mr_ild hx hb hE hP 5 (by decide) i rfl (show _ < 24 by omega) dX5_findValues_117 ?_
                              refine lv_topi (fun z_117 ez_117 => ?_)
                              obtain rfl : z_117 = (gr_wt G i) := (ez_117.trans (hme.2.2.2.2 i hlt).2.2)
                              refine lv_i2l (v := (gr_wt G i).toInt64) hx hb dX5_findValues_118 rfl ?_
                              refine lv_aload_n hx hb dX5_findValues_119 rfl (lv_at hl 0 rfl) ?_
                              refine va_get (D := en.1) (ci := 5) (v := .ref (bd 8)) (C := RX5) (T := TX5) (N := 16) hx hb hts iw_X5_findValues_X5 hown hE.1 hP 0 rfl rfl 11 (by decide) (hts (.fieldLink RX5 31 "CreditGameModel" "now" "[J") (by decide +kernel)) (fun _ h9 => h9) rfl dX5_findValues_120 ?_
                              refine lv_aload_n hx hb dX5_findValues_123 rfl (lv_at hl 0 rfl) ?_
                              refine va_get (D := en.1) (ci := 5) (v := .ref (bd 4)) (C := RX5) (T := TX5) (N := 16) hx hb hts iw_X5_findValues_X5 hown hE.1 hP 0 rfl rfl 6 (by decide) (hts (.fieldLink RX5 19 "CreditGameModel" "to" "[I") (by decide +kernel)) (fun _ h9 => h9) rfl dX5_findValues_124 ?_
                              refine lv_iload hx hb dX5_findValues_127 (lv_at hl 7 rfl) ?_
                              refine mr_ild hx hb hE hP 4 (by decide) i rfl (show _ < 24 by omega) dX5_findValues_129 ?_
                              refine lv_topi (fun z_129 ez_129 => ?_)
                              obtain rfl : z_129 = (nI (gr_tgt G i)) := (ez_129.trans ((hme.2.2.2.2 i hlt).2.1.trans htl.2))
                              refine mr_lld hx hb hE hP 8 (by decide) (gr_tgt G i) rfl (show _ < 7 by omega) dX5_findValues_130 ?_
                              refine lv_ladd hx hb dX5_findValues_131 ?_
                              refine lv_topl (fun z1 hz1 => ?_)
                              have hz2 : z1.toInt = (fun x => gr_w G x + viM G k (gr_tgt G x)) i := by
                                have a1 : (gr_wt G i).toInt64.toInt = gr_w G i := by rw [l_of, gr_w_eq hlt]
                                have a2 : (e_.2 8 (gr_tgt G i)).toInt = viM G k (gr_tgt G i) := by rw [h8]; exact hv_ _ htl.1
                                rw [hz1, l_add (by rw [a1, a2]; omega) (by rw [a1, a2]; omega), a1, a2]
                              have hz3 : z1.toInt = gr_w G i + viM G k (gr_tgt G i) := hz2
                              refine lv_lstore (lv' := [(11, .long z1), (0, .ref (bd 0)), (1, .int (nI (gr_n G))), (2, .long (lN st)), (4, .long (lN k)), (6, .int (nI v)), (7, .int sm), (8, .long got), (10, .int (nI i))]) hx hb dX5_findValues_132 hl (by decide) rfl (fun ls hl => ?_)
                              refine lv_iload hx hb dX5_findValues_134 (lv_at hl 6 rfl) ?_
                              refine lv_if_eq (tgt := 168) hx hb dX5_findValues_136 (by decide) (fun b136 => ?_) (fun b136 => ?_)
                              · skip
                                skip
                                refine lv_lload hx hb dX5_findValues_168 (lv_at hl 0 rfl) ?_
                                refine lv_lstore (lv' := [(8, .long z1), (11, .long z1), (0, .ref (bd 0)), (1, .int (nI (gr_n G))), (2, .long (lN st)), (4, .long (lN k)), (6, .int (nI v)), (7, .int sm), (10, .int (nI i))]) hx hb dX5_findValues_170 hl (by decide) rfl (fun ls hl => ?_)
                                refine lv_iconst (v := 1) hx hb dX5_findValues_172 (by decide) ?_
                                refine lv_istore (lv' := [(7, .int 1), (8, .long z1), (11, .long z1), (0, .ref (bd 0)), (1, .int (nI (gr_n G))), (2, .long (lN st)), (4, .long (lN k)), (6, .int (nI v)), (10, .int (nI i))]) hx hb dX5_findValues_173 hl (by decide) rfl (fun ls hl => ?_)
                                refine lv_iinc (v := (nI (i + 1))) (lv' := [(10, .int (nI (i + 1))), (7, .int 1), (8, .long z1), (11, .long z1), (0, .ref (bd 0)), (1, .int (nI (gr_n G))), (2, .long (lN st)), (4, .long (lN k)), (6, .int (nI v))]) hx hb dX5_findValues_175 hl (k := 8) rfl (nI_1 _) (by decide) rfl (fun ls hl => ?_)
                                refine lv_goto (tgt := 88) hx hb dX5_findValues_178 (by decide) ?_
                                exact ih88 (i + 1) 1 z1 _ (by omega) (by omega) (by rw [nd_in hin_]; exact vd_take hvd hz2 (by omega) (by omega) (Or.inl b136)) (lv_sub hl [4, 5, 6, 7, 8, 1, 2, 0] rfl)
                              · skip
                                refine lv_aload_n hx hb dX5_findValues_139 rfl (lv_at hl 1 rfl) ?_
                                refine va_get (D := en.1) (ci := 5) (v := .ref (bd 1)) (C := RX5) (T := TX5) (N := 16) hx hb hts iw_X5_findValues_X5 hown hE.1 hP 0 rfl rfl 2 (by decide) (hts (.fieldLink RX5 7 "CreditGameModel" "player" "[I") (by decide +kernel)) (fun _ h9 => h9) rfl dX5_findValues_140 ?_
                                refine lv_iload hx hb dX5_findValues_143 (lv_at hl 5 rfl) ?_
                                refine mr_ild hx hb hE hP 1 (by decide) v rfl (show _ < 7 by omega) dX5_findValues_145 ?_
                                refine lv_topi (fun z_145 ez_145 => ?_)
                                obtain rfl : z_145 = (gr_own G v) := (ez_145.trans (hme.2.2.2.1 v hlv).1)
                                refine lv_if_ne (tgt := 160) hx hb dX5_findValues_146 (by decide) (fun b146 => ?_) (fun b146 => ?_)
                                · skip
                                  skip
                                  have howf := ow_f b146
                                  refine lv_lload hx hb dX5_findValues_160 (lv_at hl 0 rfl) ?_
                                  refine lv_lload hx hb dX5_findValues_162 (lv_at hl 7 rfl) ?_
                                  refine W.lcmp hx hb dX5_findValues_164 ?_
                                  refine lv_if_ge (tgt := 172) hx hb dX5_findValues_165 (by decide) (fun b165 => ?_) (fun b165 => ?_)
                                  · skip
                                    have q165 := l_le.mp ((lg_cmp_ge _ _).mp b165)
                                    refine lv_iconst (v := 1) hx hb dX5_findValues_172 (by decide) ?_
                                    refine lv_istore (lv' := [(7, .int 1), (11, .long z1), (0, .ref (bd 0)), (1, .int (nI (gr_n G))), (2, .long (lN st)), (4, .long (lN k)), (6, .int (nI v)), (8, .long got), (10, .int (nI i))]) hx hb dX5_findValues_173 hl (by decide) rfl (fun ls hl => ?_)
                                    refine lv_iinc (v := (nI (i + 1))) (lv' := [(10, .int (nI (i + 1))), (7, .int 1), (11, .long z1), (0, .ref (bd 0)), (1, .int (nI (gr_n G))), (2, .long (lN st)), (4, .long (lN k)), (6, .int (nI v)), (8, .long got)]) hx hb dX5_findValues_175 hl (k := 8) rfl (nI_1 _) (by decide) rfl (fun ls hl => ?_)
                                    refine lv_goto (tgt := 88) hx hb dX5_findValues_178 (by decide) ?_
                                    exact ih88 (i + 1) 1 got _ (by omega) (by omega) (by rw [nd_in hin_]; exact vd_keep hvd hz2 (by omega) (by omega) b136 ⟨fun q => absurd (howf.symm.trans q) (by decide), fun _ => q165⟩) (lv_sub hl [3, 4, 5, 6, 7, 1, 8, 0] rfl)
                                  · skip
                                    have q165 : ¬ _ := fun q => b165 ((lg_cmp_ge _ _).mpr (l_le.mpr q))
                                    refine lv_lload hx hb dX5_findValues_168 (lv_at hl 0 rfl) ?_
                                    refine lv_lstore (lv' := [(8, .long z1), (11, .long z1), (0, .ref (bd 0)), (1, .int (nI (gr_n G))), (2, .long (lN st)), (4, .long (lN k)), (6, .int (nI v)), (7, .int sm), (10, .int (nI i))]) hx hb dX5_findValues_170 hl (by decide) rfl (fun ls hl => ?_)
                                    refine lv_iconst (v := 1) hx hb dX5_findValues_172 (by decide) ?_
                                    refine lv_istore (lv' := [(7, .int 1), (8, .long z1), (11, .long z1), (0, .ref (bd 0)), (1, .int (nI (gr_n G))), (2, .long (lN st)), (4, .long (lN k)), (6, .int (nI v)), (10, .int (nI i))]) hx hb dX5_findValues_173 hl (by decide) rfl (fun ls hl => ?_)
                                    refine lv_iinc (v := (nI (i + 1))) (lv' := [(10, .int (nI (i + 1))), (7, .int 1), (8, .long z1), (11, .long z1), (0, .ref (bd 0)), (1, .int (nI (gr_n G))), (2, .long (lN st)), (4, .long (lN k)), (6, .int (nI v))]) hx hb dX5_findValues_175 hl (k := 8) rfl (nI_1 _) (by decide) rfl (fun ls hl => ?_)
                                    refine lv_goto (tgt := 88) hx hb dX5_findValues_178 (by decide) ?_
                                    exact ih88 (i + 1) 1 z1 _ (by omega) (by omega) (by rw [nd_in hin_]; exact vd_take hvd hz2 (by omega) (by omega) (Or.inr ⟨fun q => absurd (howf.symm.trans q) (by decide), fun _ => by omega⟩)) (lv_sub hl [4, 5, 6, 7, 8, 1, 2, 0] rfl)
                                · skip
                                  skip
                                  have howt := ow_t hlv b146
                                  refine lv_lload hx hb dX5_findValues_149 (lv_at hl 0 rfl) ?_
                                  refine lv_lload hx hb dX5_findValues_151 (lv_at hl 7 rfl) ?_
                                  refine W.lcmp hx hb dX5_findValues_153 ?_
                                  refine lv_if_le (tgt := 172) hx hb dX5_findValues_154 (by decide) (fun b154 => ?_) (fun b154 => ?_)
                                  · skip
                                    have q154 := l_le.mp ((lg_cmp_le _ _).mp b154)
                                    refine lv_iconst (v := 1) hx hb dX5_findValues_172 (by decide) ?_
                                    refine lv_istore (lv' := [(7, .int 1), (11, .long z1), (0, .ref (bd 0)), (1, .int (nI (gr_n G))), (2, .long (lN st)), (4, .long (lN k)), (6, .int (nI v)), (8, .long got), (10, .int (nI i))]) hx hb dX5_findValues_173 hl (by decide) rfl (fun ls hl => ?_)
                                    refine lv_iinc (v := (nI (i + 1))) (lv' := [(10, .int (nI (i + 1))), (7, .int 1), (11, .long z1), (0, .ref (bd 0)), (1, .int (nI (gr_n G))), (2, .long (lN st)), (4, .long (lN k)), (6, .int (nI v)), (8, .long got)]) hx hb dX5_findValues_175 hl (k := 8) rfl (nI_1 _) (by decide) rfl (fun ls hl => ?_)
                                    refine lv_goto (tgt := 88) hx hb dX5_findValues_178 (by decide) ?_
                                    exact ih88 (i + 1) 1 got _ (by omega) (by omega) (by rw [nd_in hin_]; exact vd_keep hvd hz2 (by omega) (by omega) b136 ⟨fun _ => q154, fun q => absurd (howt.symm.trans q) (by decide)⟩) (lv_sub hl [3, 4, 5, 6, 7, 1, 8, 0] rfl)
                                  · skip
                                    have q154 : ¬ _ := fun q => b154 ((lg_cmp_le _ _).mpr (l_le.mpr q))
                                    refine lv_goto (tgt := 168) hx hb dX5_findValues_157 (by decide) ?_
                                    refine lv_lload hx hb dX5_findValues_168 (lv_at hl 0 rfl) ?_
                                    refine lv_lstore (lv' := [(8, .long z1), (11, .long z1), (0, .ref (bd 0)), (1, .int (nI (gr_n G))), (2, .long (lN st)), (4, .long (lN k)), (6, .int (nI v)), (7, .int sm), (10, .int (nI i))]) hx hb dX5_findValues_170 hl (by decide) rfl (fun ls hl => ?_)
                                    refine lv_iconst (v := 1) hx hb dX5_findValues_172 (by decide) ?_
                                    refine lv_istore (lv' := [(7, .int 1), (8, .long z1), (11, .long z1), (0, .ref (bd 0)), (1, .int (nI (gr_n G))), (2, .long (lN st)), (4, .long (lN k)), (6, .int (nI v)), (10, .int (nI i))]) hx hb dX5_findValues_173 hl (by decide) rfl (fun ls hl => ?_)
                                    refine lv_iinc (v := (nI (i + 1))) (lv' := [(10, .int (nI (i + 1))), (7, .int 1), (8, .long z1), (11, .long z1), (0, .ref (bd 0)), (1, .int (nI (gr_n G))), (2, .long (lN st)), (4, .long (lN k)), (6, .int (nI v))]) hx hb dX5_findValues_175 hl (k := 8) rfl (nI_1 _) (by decide) rfl (fun ls hl => ?_)
                                    refine lv_goto (tgt := 88) hx hb dX5_findValues_178 (by decide) ?_
                                    exact ih88 (i + 1) 1 z1 _ (by omega) (by omega) (by rw [nd_in hin_]; exact vd_take hvd hz2 (by omega) (by omega) (Or.inr ⟨fun _ => by omega, fun q => absurd (howt.symm.trans q) (by decide)⟩)) (lv_sub hl [4, 5, 6, 7, 8, 1, 2, 0] rfl)
                            · skip
                              skip
                              have hnx : i ∉ gr_adj G v := (w102.resolve_left (fun q => absurd (q.1.symm.trans b105) (by decide))).2
                              refine lv_goto (tgt := 175) hx hb dX5_findValues_108 (by decide) ?_
                              refine lv_iinc (v := (nI (i + 1))) (lv' := [(10, .int (nI (i + 1))), (0, .ref (bd 0)), (1, .int (nI (gr_n G))), (2, .long (lN st)), (4, .long (lN k)), (6, .int (nI v)), (7, .int sm), (8, .long got)]) hx hb dX5_findValues_175 hl (k := 7) rfl (nI_1 _) (by decide) rfl (fun ls hl => ?_)
                              refine lv_goto (tgt := 88) hx hb dX5_findValues_178 (by decide) ?_
                              exact ih88 (i + 1) sm got _ (by omega) (by omega) (by rw [nd_out hnx]; exact hvd) (lv_sub hl [1, 2, 3, 4, 5, 6, 7, 0] rfl)
                      exact key88 (gr_E G + 1) 0 0 0 _ (Nat.zero_le _) (by omega) (Or.inl ⟨rfl, rfl⟩) (lv_sub hl [3, 4, 5, 6, 7, 2, 1, 0] rfl)
                exact key73 (gr_n G + 1) 0 d_ _ _ _ (Nat.zero_le _) (by omega) rfl rfl (fun u h => absurd h (Nat.not_lt_zero u)) hP hS (lv_sub hl [1, 2, 3, 4, 0] rfl)
          exact key63 (st + 1) 0 d_ _ _ _ (Nat.zero_le _) (by omega) hkl (fun u hu => (hz u (by omega)).trans rfl) hP hS (lv_sub hl [1, 2, 3, 0] rfl)
        · skip
          have hlt : i < gr_n G := by
            rcases Nat.lt_or_ge i (gr_n G) with q | q
            · exact q
            · exact absurd (by exact nI_le q (by omega)) b43
          refine lv_aload_n hx hb dX5_findValues_46 rfl (lv_at hl 0 rfl) ?_
          refine va_get (D := en.1) (ci := 5) (v := .ref (bd 8)) (C := RX5) (T := TX5) (N := 16) hx hb hts iw_X5_findValues_X5 hown hE.1 hP 0 rfl rfl 11 (by decide) (hts (.fieldLink RX5 31 "CreditGameModel" "now" "[J") (by decide +kernel)) (fun _ h9 => h9) rfl dX5_findValues_47 ?_
          refine lv_iload hx hb dX5_findValues_50 (lv_at hl 3 rfl) ?_
          refine lv_lconst (v := 0) hx hb dX5_findValues_52 (by decide) ?_
          refine mr_lst hx hb hE hP hI hS 8 (by decide) i rfl (show _ < 7 by omega) dX5_findValues_53 (fun H locs hP hS => ?_)
          obtain ⟨d53, ed53⟩ : ∃ z : mT, z = (d_.1, va_up d_.2 8 (vp_updL (d_.2 8) i 0)) := ⟨_, rfl⟩
          rw [← ed53] at hP
          refine lv_iinc (v := (nI (i + 1))) (lv' := [(4, .int (nI (i + 1))), (0, .ref (bd 0)), (1, .int (nI (gr_n G))), (2, .long (lN st))]) hx hb dX5_findValues_54 hl (k := 3) rfl (nI_1 _) (by decide) rfl (fun ls hl => ?_)
          refine lv_goto (tgt := 40) hx hb dX5_findValues_57 (by decide) ?_
          exact ih40 (i + 1) d53 _ _ _ (by omega) (by omega) (by rw [ed53]; exact hkl) (fun u h => by rw [ed53]; show (vp_updL (d_.2 8) i 0 u).toInt = 0; by_cases e9 : u = i; rw [e9, pk_uLs]; decide; rw [pk_uLn e9]; exact hz u (by omega)) hP hS (lv_sub hl [1, 2, 3, 0] rfl)
    exact key40 (gr_n G + 1) 0 d10 _ _ _ (Nat.zero_le _) (by omega) rfl (fun u h => absurd h (Nat.not_lt_zero u)) hP hS (lv_sub hl [3, 2, 1, 0] rfl)
  · skip
    skip
    exact W.vret hx hb hr (fun t ht hW => ⟨⟨d, rfl, (by rcases hc_.2 with q | q; exact absurd q b4; exact ⟨kx.rf, fun _ _ => rfl, q.1, q.2.2⟩), by show va_P _ _ _ t.heap; rw [ht]; exact hP⟩, hS.F ht⟩) hS.2.2 dX5_findValues_7
