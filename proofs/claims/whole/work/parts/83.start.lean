/-! ===== the law from its entry ===== -/
set_option maxHeartbeats 4000000 in
set_option maxRecDepth 100000 in
theorem en_start {s : State} {b : Nat} (hts : ∀ w ∈ lw_tbl, w.before #[Value.ref b] s = true) : va_AOA .int s ∧ ∃ en : en_T, en_ok en s := by
  have hO : va_AOA .int s := hts (.arrayOver (.array .int)) (List.mem_of_getElem? (i := 83) rfl)
  refine ⟨hO, ?_⟩
  obtain ⟨c0, i0, k0⟩ := u_known (C := RX0) (T := TX0) (N := 4) (n := 4) hts lwx_0 (hts (.instantiable RX0 4) (List.mem_of_getElem? (i := 149) rfl))
  obtain ⟨c1, i1, k1⟩ := u_known (C := RX1) (T := TX1) (N := 9) (n := 9) hts lwx_1 (hts (.instantiable RX1 9) (List.mem_of_getElem? (i := 77) rfl))
  obtain ⟨c2, i2, k2⟩ := u_known (C := RX2) (T := TX2) (N := 2) (n := 2) hts lwx_2 (hts (.instantiable RX2 2) (List.mem_of_getElem? (i := 122) rfl))
  obtain ⟨c3, i3, k3⟩ := u_known (C := RX3) (T := TX3) (N := 4) (n := 4) hts lwx_3 (hts (.instantiable RX3 4) (List.mem_of_getElem? (i := 116) rfl))
  obtain ⟨c4, i4, k4⟩ := u_known (C := RX4) (T := TX4) (N := 5) (n := 5) hts lwx_4 (hts (.instantiable RX4 5) (List.mem_of_getElem? (i := 69) rfl))
  obtain ⟨c5, i5, k5⟩ := u_known (C := RX5) (T := TX5) (N := 16) (n := 16) hts lwx_5 (hts (.instantiable RX5 16) (List.mem_of_getElem? (i := 561) rfl))
  obtain ⟨aI, hI1, hI2⟩ := ar_K (hts (.arrayClass .int) (List.mem_of_getElem? (i := 114) rfl))
  obtain ⟨aL, hL1, hL2⟩ := ar_K (hts (.arrayClass .long) (List.mem_of_getElem? (i := 615) rfl))
  obtain ⟨aB, hB1, hB2⟩ := ar_K (hts (.arrayClass .boolean) (List.mem_of_getElem? (i := 147) rfl))
  obtain ⟨aA, hA1, hA2⟩ := ar_O hO
  refine ⟨((fun k => match k with | 0 => c0 | 1 => c1 | 2 => c2 | 3 => c3 | 4 => c4 | _ => c5, fun k => match k with | 0 => i0 | 1 => i1 | 2 => i2 | 3 => i3 | 4 => i4 | _ => i5), aI, aL, aB, aA), ⟨fun k q hq => ?_, fun k q hq => ?_⟩, fun w hw => va_Nw.of (nw_tab w hw) (hts w (nw_in w hw))⟩
  · match k, hq with
    | 0, hq => cases hq; exact k0
    | 1, hq => cases hq; exact k1
    | 2, hq => cases hq; exact k2
    | 3, hq => cases hq; exact k3
    | 4, hq => cases hq; exact k4
    | 5, hq => cases hq; exact k5
    | k + 6, hq => simp at hq
  · match k, hq with
    | 0, hq => cases hq; exact ⟨hI1, hI2⟩
    | 1, hq => cases hq; exact ⟨hL1, hL2⟩
    | 2, hq => cases hq; exact ⟨hB1, hB2⟩
    | 3, hq => cases hq; exact ⟨hA1, hA2⟩
    | k + 4, hq => simp at hq
set_option maxHeartbeats 4000000 in
set_option maxRecDepth 100000 in
theorem tx_start {s : State} {b : Nat} (hts : ∀ w ∈ lw_tbl, w.before #[Value.ref b] s = true) (hgv : (Jvm.Cond.and given_1 narrow_1).before #[Value.ref b] s = true) {en : en_T} (hE : en_ok en s) : tx0 s ∧ va_Nc eS eA s := by
  have hs := flat_of_before _ hgv
  have hc4 : s.vm.findClass RX4 = some (en.1.1 4) := (hE.1.1 4 _ rfl).2.1
  have hA : ∀ a : Nat, a < s.heap.size → ¬ (fun q : Nat => s.heap.size ≤ q) a := fun a h q => Nat.not_le.mpr h q
  refine ⟨⟨fun w hw => va_Nw.of (tw_tab w hw) (hts w (tw_in w hw)), ?_, vx_Zqof (hts (.laysStatic Bundle.tN "UNASSIGNED_STACK" Bundle.steD) (List.mem_of_getElem? (i := 225) rfl)) (hts (.initialized Bundle.tN) (List.mem_of_getElem? (i := 60) rfl)) (hs _ (by decide +kernel)) hA, vx_Zqof (hts (.laysStatic Bundle.tN "SUPPRESSED_SENTINEL" Bundle.listD) (List.mem_of_getElem? (i := 227) rfl)) (hts (.initialized Bundle.tN) (List.mem_of_getElem? (i := 60) rfl)) (hs _ (by decide +kernel)) hA⟩, va_Nc.of (hs (.not (.castable eS eA)) (by decide +kernel))⟩
  exact List.forall_mem_cons.mpr ⟨st_R hc4 (hts (.stringRef RX4 110 "p is not -99 .. 99") (List.mem_of_getElem? (i := 488) rfl)), List.forall_mem_cons.mpr ⟨st_R hc4 (hts (.stringRef RX4 112 "q is not 1 .. 9") (List.mem_of_getElem? (i := 489) rfl)), List.forall_mem_cons.mpr ⟨st_R hc4 (hts (.stringRef RX4 136 "what is not 0 .. 3") (List.mem_of_getElem? (i := 548) rfl)), List.forall_mem_cons.mpr ⟨st_R hc4 (hts (.stringRef RX4 142 "player is not 0 or 1") (List.mem_of_getElem? (i := 238) rfl)), List.forall_mem_cons.mpr ⟨st_R hc4 (hts (.stringRef RX4 148 "no such vertex") (List.mem_of_getElem? (i := 304) rfl)), List.forall_mem_cons.mpr ⟨st_R hc4 (hts (.stringRef RX4 154 "the game is not complete") (List.mem_of_getElem? (i := 358) rfl)), List.forall_mem_cons.mpr ⟨st_R hc4 (hts (.stringRef RX4 55 "there are 7 vertices") (List.mem_of_getElem? (i := 274) rfl)), List.forall_mem_cons.mpr ⟨st_R hc4 (hts (.stringRef RX4 72 "weight is not -9 .. 9") (List.mem_of_getElem? (i := 305) rfl)), List.forall_mem_cons.mpr ⟨st_R hc4 (hts (.stringRef RX4 78 "there are 24 edges") (List.mem_of_getElem? (i := 306) rfl)), List.forall_mem_cons.mpr ⟨st_R hc4 (hts (.stringRef RX4 88 "no such edge from the vertex") (List.mem_of_getElem? (i := 323) rfl)), fun _ h => absurd h List.not_mem_nil⟩⟩⟩⟩⟩⟩⟩⟩⟩⟩
set_option maxHeartbeats 4000000 in
set_option maxRecDepth 100000 in
/-- from the entry, for every script of at most 2048 ints, the law comes to its end with true -/
theorem whole_start {p : Program} {e : Env} {s : State} {m : MethodId} {below : List Frame} {meth : Method} {c : Code} (l : Launch) (hlt : l.stackTraces = false) {b L : Nat} {xs : Nat → Int32} (hL : L ≤ 2048) (C0 : lw_At p s m meth c b L xs) : W p l e room_1 s m #[Value.ref b] below meth c s.heap [] 0 0 (lw_Z below #[Value.ref b] s) (entryFrame m ([Value.ref b] : List Value).toArray 7) := by
  obtain ⟨hx, hb, hr, hml, hown, hts0, hX, hbl, hlocks, hgv⟩ := id C0
  obtain ⟨hO, en, hE⟩ := en_start hts0
  obtain ⟨hT0, hN⟩ := tx_start hts0 hgv hE
  have hts : ∀ w ∈ wsL_law, w.before #[Value.ref b] s = true := fun w h => hts0 w (wsL_law_in w h)
  have hown : s.vm.findClass RL = some m.cls := hown
  have hA : ∀ q : Nat, s.heap.size ≤ q → (fun q : Nat => s.heap.size ≤ q) q := fun _ h => h
  have hS : va_S (fun q : Nat => s.heap.size ≤ q) s.heap s.heap [] := va_S.rf
  have hP : va_P en.1 vwCl [] s.heap := fun k q h => by simp at h
  have hD : va_D (fun q : Nat => s.heap.size ≤ q) [] := ⟨fun i j p q h => by simp at h, fun k q h => by simp at h⟩
  have hl := lv_entry ([.ref b]) (n := 7) (Nat.le_of_ble_eq_true rfl)
  rw [lg_entry_eq]
  generalize (lg_sl ([.ref b]) ++ List.replicate (7 - (lg_sl ([.ref b])).length) Slot.unset).toArray = ls at hl ⊢
  have hl : lv_has ls 7 [(0, .ref b)] := hl
  refine va_new (ci := 4) (fs := [.null, .null, .null, .null, .null]) (C := RX4) (T := TX4) (N := 5) hx hb hts0 lwx_4 tyX4 tyX4_ok hown (hts (.classLink RL 8 RX4) (by decide +kernel)) (hts (.instantiable RX4 5) (by decide +kernel)) (hts (.initialized RX4) (by decide +kernel)) hE.1 hP hD hS hA rfl (fun j hj => by rcases (show j = 0 ∨ j = 1 ∨ j = 2 ∨ j = 3 ∨ j = 4 by omega) with rfl | rfl | rfl | rfl | rfl <;> rfl) (Nat.le_of_ble_eq_true rfl) (Nat.le_of_ble_eq_true rfl) dL_law_0 (fun q0 H hP hD hS => ?_)
  have hP : va_P en.1 vwCl [(q0, .inr (4, [.null, .null, .null, .null, .null]))] H := hP
  have hD : va_D (fun q : Nat => s.heap.size ≤ q) [(q0, .inr (4, [.null, .null, .null, .null, .null]))] := hD
  refine lv_dup hx hb dL_law_3 rfl ?_
  have hFc := va_free (wc := [(q0, .inr (4, [.null, .null, .null, .null, .null]))]) hD hS hA [0] rfl
  refine va_callv (va_runI (As := []) (rest := [.ref q0]) ⟨hx, hb, hml, hown, hts⟩ (cc_X4 l en q0 _) (cwI 0 hts gL_law_X4_init rfl rfl rfl (hts (.initialized RX4) (by decide +kernel)) (hts (.methodLink RL 49 yX4_init) (by decide +kernel)) (hts (.instanceMethod yX4_init) (by decide +kernel)) rfl (by decide +kernel) ⟨(Nat.le_of_ble_eq_true rfl), (Nat.le_of_ble_eq_true rfl)⟩) (cn_preS hE hO ⟨rfl, hP⟩) rfl rfl hl.1 rfl (lv_room (Nat.le_of_ble_eq_true rfl)) dL_law_4 ⟨(Nat.le_of_ble_eq_true rfl), (Nat.le_of_ble_eq_true rfl)⟩) hS (fun q _ h => hFc q h) hFc (fun ad t1 H1 locs1 ht1 _ hu1 hB1 hz1 hk1 hS => ?_)
  obtain ⟨hP1, hD1⟩ := hB1
  rw [ht1] at hP1
  obtain ⟨hPa, hDa⟩ := va_join (wr := []) (w1 := xw en ad c0) hP hD [0] [] rfl rfl (by decide) (by decide) hk1 hFc hP1 hD1
  have hPa : va_P en.1 vwCl (xw en ad c0) H1 := hPa
  have hDa : va_D (fun q : Nat => s.heap.size ≤ q) (xw en ad c0) := hDa
  subst hu1
  refine lv_astore_n (lv' := [(1, .ref (ad 0)), (0, .ref b)]) hx hb dL_law_7 rfl hl (by decide) rfl (fun ls hl => ?_)
  refine va_new (ci := 5) (fs := [.int 0, .int 0, .null, .null, .int 0, .null, .null, .null, .int 0, .null, .null, .null, .null, .null, .null, .null]) (C := RX5) (T := TX5) (N := 16) hx hb hts0 lwx_5 tyX5 tyX5_ok hown (hts (.classLink RL 50 RX5) (by decide +kernel)) (hts (.instantiable RX5 16) (by decide +kernel)) (hts (.initialized RX5) (by decide +kernel)) hE.1 hPa hDa hS hA rfl (fun j hj => by rcases (show j = 0 ∨ j = 1 ∨ j = 2 ∨ j = 3 ∨ j = 4 ∨ j = 5 ∨ j = 6 ∨ j = 7 ∨ j = 8 ∨ j = 9 ∨ j = 10 ∨ j = 11 ∨ j = 12 ∨ j = 13 ∨ j = 14 ∨ j = 15 by omega) with rfl | rfl | rfl | rfl | rfl | rfl | rfl | rfl | rfl | rfl | rfl | rfl | rfl | rfl | rfl | rfl <;> rfl) (Nat.le_of_ble_eq_true rfl) (Nat.le_of_ble_eq_true rfl) dL_law_8 (fun q8 H2 hPq hDq hS => ?_)
  refine lv_dup hx hb dL_law_11 rfl ?_
  have hPc : va_P en.1 vwCl [(q8, .inr (5, [.int 0, .int 0, .null, .null, .int 0, .null, .null, .null, .int 0, .null, .null, .null, .null, .null, .null, .null]))] H2 := hPq.inr
  have hFc := va_free (wc := [(q8, .inr (5, [.int 0, .int 0, .null, .null, .int 0, .null, .null, .null, .int 0, .null, .null, .null, .null, .null, .null, .null]))]) hDq hS hA [29] rfl
  refine va_callv (va_runI (As := []) (rest := [.ref q8]) ⟨hx, hb, hml, hown, hts⟩ (cc_X5 l en q8 _) (cwI 0 hts gL_law_X5_init rfl rfl rfl (hts (.initialized RX5) (by decide +kernel)) (hts (.methodLink RL 52 yX5_init) (by decide +kernel)) (hts (.instanceMethod yX5_init) (by decide +kernel)) rfl (by decide +kernel) ⟨(Nat.le_of_ble_eq_true rfl), (Nat.le_of_ble_eq_true rfl)⟩) (ct_preS hE ⟨rfl, hPc⟩) rfl rfl hl.1 rfl (lv_room (Nat.le_of_ble_eq_true rfl)) dL_law_12 ⟨(Nat.le_of_ble_eq_true rfl), (Nat.le_of_ble_eq_true rfl)⟩) hS (fun q _ h => hFc q h) hFc (fun bd t3 H3 locs3 ht3 _ hu3 hB3 hz3 hk3 hS => ?_)
  obtain ⟨hP3, hD3⟩ := hB3
  rw [ht3] at hP3
  obtain ⟨hPj, hDj⟩ := va_join (wr := xw en ad c0) (w1 := mw en bd d0) hPq hDq [29] [0, 1, 2, 3, 4, 5, 6, 7, 8, 9, 10, 11, 12, 13, 14, 15, 16, 17, 18, 19, 20, 21, 22, 23, 24, 25, 26, 27, 28] rfl rfl (by decide) (by decide) hk3 hFc hP3 hD3
  subst hu3
  refine lv_astore_n (lv' := [(2, .ref (bd 0)), (1, .ref (ad 0)), (0, .ref b)]) hx hb dL_law_15 rfl hl (by decide) rfl (fun ls hl => ?_)
  refine lv_iconst (v := 1) hx hb dL_law_16 (by decide) ?_
  refine cn_newa (atype := .long) (a0 := (1, .inr (.inl (fun _ => 0)))) (N' := 1) (ty := .long) hx hb (hts (.arrayClass .long) (by decide +kernel)) rfl hE en.2.2.1 (ra_l hE) hPj hDj hS hA (fun _ => rfl) (by decide) (by decide) (by decide) (Nat.le_of_ble_eq_true rfl) (Nat.le_of_ble_eq_true rfl) dL_law_17 (fun o H4 hPz hDz hS => ?_)
  have hP : va_P en.1 vwCl ((xw en ad c0 ++ mw en bd d0) ++ oW en o (fun _ => 0)) H4 := hPz
  have hD : va_D (fun q : Nat => s.heap.size ≤ q) ((xw en ad c0 ++ mw en bd d0) ++ oW en o (fun _ => 0)) := hDz
  refine lv_astore_n (lv' := [(3, .ref o), (2, .ref (bd 0)), (1, .ref (ad 0)), (0, .ref b)]) hx hb dL_law_19 rfl hl (by decide) rfl (fun ls hl => ?_)
  refine lv_iconst (v := (nI (4 * 0))) hx hb dL_law_20 (by decide) ?_
  refine lv_istore (lv' := [(4, .int (nI (4 * 0))), (3, .ref o), (2, .ref (bd 0)), (1, .ref (ad 0)), (0, .ref b)]) hx hb dL_law_21 hl (by decide) rfl (fun ls hl => ?_)
  obtain ⟨hIx, hIm, hax, hbx, hox, hab, hao, hbo⟩ := lw_D hD
  have X0 : lx p s m meth c b L xs l en ad bd o := ⟨C0, hlt, hE, hT0, hN, hIx, hIm, hax, hbx, hox, hab, hao, hbo⟩
  refine W.widen (k := 43) (n := 526) (Nat.le_of_ble_eq_true rfl) (Nat.le_of_ble_eq_true rfl) ?_
  exact law_loop X0 hL (L + 4) 0 (by omega) (by omega) 43 526 (by omega) (by omega) G0 c0 d0 (fun _ => 0) H4 _ ls ci_0 mci_0 hP.inl.inl hP.inl.inr hP.inr hS hl
