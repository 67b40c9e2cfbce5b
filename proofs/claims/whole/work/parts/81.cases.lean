/-! ===== the law's cases ===== -/
theorem nI_pk (n k : Nat) : nI n + nI k = nI (n + k) := (Int32.ofNat_add n k).symm
/-- what a throw needs, at the law's entry -/
def tx0 (s : State) : Prop :=
  (∀ w ∈ tw_L, va_Nw w s) ∧ (∀ q ∈ tx_S, ∃ sa, vk_R RX4 q.1 q.2 sa s) ∧ vx_Zq Bundle.tN "UNASSIGNED_STACK" Bundle.steD (fun q => s.heap.size ≤ q) s s.heap ∧ vx_Zq Bundle.tN "SUPPRESSED_SENTINEL" Bundle.listD (fun q => s.heap.size ≤ q) s s.heap
/-- what stays while the law runs -/
def lx (p : Program) (s : State) (m : MethodId) (meth : Method) (co : Code) (b L : Nat) (xs : Nat → Int32) (l : Launch) (en : en_T) (ad bd : Nat → Nat) (o : Nat) : Prop :=
  lw_At p s m meth co b L xs ∧ l.stackTraces = false ∧ en_ok en s ∧ tx0 s ∧ va_Nc eS eA s ∧ xw_I ad ∧ mw_I bd ∧ (∀ k, k < 29 → s.heap.size ≤ ad k) ∧ (∀ k, k < 13 → s.heap.size ≤ bd k) ∧ s.heap.size ≤ o ∧ (∀ k j, k < 29 → j < 13 → ad k ≠ bd j) ∧ (∀ k, k < 29 → ad k ≠ o) ∧ (∀ j, j < 13 → bd j ≠ o)
theorem tx_at {s : State} {ad : Nat → Nat} {H : Heap} {locs : List Loc} (h : tx0 s) (hS : va_S (fun q => s.heap.size ≤ q) s.heap H locs) (ha : ∀ k, k < 29 → s.heap.size ≤ ad k) : tx ad H.size s H := by
  have hn : ∀ q, xw_A ad H.size q → s.heap.size ≤ q := fun q hq => hq.elim (fun ⟨k, hk, e⟩ => by rw [e]; exact ha k hk) (fun z => Nat.le_trans hS.1 z)
  exact ⟨h.1, h.2.1, (h.2.2.1.kept (fun a h1 h2 => hS.2.1 a h1 h2)).narrow hn, (h.2.2.2.kept (fun a h1 h2 => hS.2.1 a h1 h2)).narrow hn⟩
theorem mw_keep {en : en_T} {ad bd : Nat → Nat} {o : Nat} {d : mT} {H H1 : Heap} (hab : ∀ k j, k < 29 → j < 13 → ad k ≠ bd j) (hbo : ∀ j, j < 13 → bd j ≠ o) (h : va_P en.1 vwCl (mw en bd d) H) (hk : ∀ q : Nat, q < H.size → ¬ wA ad o H.size q → H1[q]? = H[q]?) : va_P en.1 vwCl (mw en bd d) H1 := h.kept (fun k q hq => by
  have hlt := (h k q hq).lt
  obtain ⟨h1, h2⟩ := mw_fst hq
  rw [h2] at hlt ⊢
  refine hk _ hlt (fun z => ?_)
  rcases z with (⟨i, hi, e⟩ | z) | z
  · exact hab i k hi h1 e.symm
  · omega
  · exact hbo k h1 z)
theorem xw_keepM {en : en_T} {ad bd : Nat → Nat} {c : Nat → Nat → Int32} {H H1 : Heap} (hab : ∀ k j, k < 29 → j < 13 → ad k ≠ bd j) (h : va_P en.1 vwCl (xw en ad c) H) (hk : ∀ q : Nat, q < H.size → ¬ mw_A bd H.size q → H1[q]? = H[q]?) : va_P en.1 vwCl (xw en ad c) H1 := h.kept (fun k q hq => by
  have hlt := (h k q hq).lt
  obtain ⟨h1, h2⟩ := xw_fst hq
  rw [h2] at hlt ⊢
  refine hk _ hlt (fun z => ?_)
  rcases z with ⟨i, hi, e⟩ | z
  · exact hab k i h1 hi e
  · omega)
theorem oW_keepM {en : en_T} {bd : Nat → Nat} {o : Nat} {f : Nat → Int64} {H H1 : Heap} (hbo : ∀ j, j < 13 → bd j ≠ o) (h : va_P en.1 vwCl (oW en o f) H) (hk : ∀ q : Nat, q < H.size → ¬ mw_A bd H.size q → H1[q]? = H[q]?) : va_P en.1 vwCl (oW en o f) H1 := h.kept (fun k q hq => by
  have a1 : k < 1 := (List.getElem?_eq_some_iff.mp hq).1
  have hlt := (h k q hq).lt
  rw [show k = 0 by omega] at hq
  cases hq
  refine hk o hlt (fun z => z.elim (fun ⟨i, hi, e⟩ => hbo i hi e.symm) (fun z => ?_))
  have hlt : o < H.size := hlt
  omega)
theorem wA_in {s : State} {ad : Nat → Nat} {o : Nat} {H : Heap} {locs : List Loc} (hS : va_S (fun q => s.heap.size ≤ q) s.heap H locs) (ha : ∀ k, k < 29 → s.heap.size ≤ ad k) (ho : s.heap.size ≤ o) : ∀ q, wA ad o H.size q → s.heap.size ≤ q := by
  rintro q ((⟨k, hk, e⟩ | z) | z)
  · rw [e]; exact ha k hk
  · exact Nat.le_trans hS.1 z
  · rw [z]; exact ho
theorem mA_in {s : State} {bd : Nat → Nat} {H : Heap} {locs : List Loc} (hS : va_S (fun q => s.heap.size ≤ q) s.heap H locs) (ha : ∀ k, k < 13 → s.heap.size ≤ bd k) : ∀ q, mw_A bd H.size q → s.heap.size ≤ q := by
  rintro q (⟨k, hk, e⟩ | z)
  · rw [e]; exact ha k hk
  · exact Nat.le_trans hS.1 z
set_option maxHeartbeats 4000000 in
set_option maxRecDepth 100000 in
theorem law_vertex {p : Program} {e : Env} {s : State} {m : MethodId} {below : List Frame} {meth : Method} {co : Code} {l : Launch} {b L : Nat} {xs : Nat → Int32} {en : en_T} {ad bd : Nat → Nat} {o : Nat} (X0 : lx p s m meth co b L xs l en ad bd o) (t : Nat) (ht : 4 * t + 4 ≤ L) (hL : L ≤ 2048) {G : gr_T} {c : Nat → Nat → Int32} {d : mT} {f : Nat → Int64} (hci : ci G c) (hmci : mci G d) {H : Heap} {locs : List Loc} (hP : va_P en.1 vwCl (xw en ad c) H) (hPm : va_P en.1 vwCl (mw en bd d) H) (hPo : va_P en.1 vwCl (oW en o f) H) (hS : va_S (fun q => s.heap.size ≤ q) s.heap H locs) {cells slots : Nat} (hcl : cells + 4 ≤ 647528) (hsl : slots + 24 ≤ 7153520) {Q : State → Prop}
    (K : ∀ (G : gr_T) (c : Nat → Nat → Int32) (d : mT) (f : Nat → Int64) (H : Heap) (locs : List Loc) (ls : Array Slot), ci G c → mci G d → va_P en.1 vwCl (xw en ad c) H → va_P en.1 vwCl (mw en bd d) H → va_P en.1 vwCl (oW en o f) H → va_S (fun q => s.heap.size ≤ q) s.heap H locs → lv_has ls 7 [(4, .int (nI (4 * t))), (3, .ref o), (2, .ref (bd 0)), (1, .ref (ad 0)), (0, .ref b)] → W p l e room_1 s m #[Value.ref b] below meth co H locs (cells + 4) (slots + 24) Q (F0 m 739 ls []))
    {ls : Array Slot} (hl : lv_has ls 7 [(4, .int (nI (4 * t))), (3, .ref o), (2, .ref (bd 0)), (1, .ref (ad 0)), (0, .ref b)]) : W p l e room_1 s m #[Value.ref b] below meth co H locs cells slots Q (F0 m 92 ls []) := by
  obtain ⟨⟨hx, hb, hr, hml, hown, hts0, hX, hbl, hlocks, hgv⟩, hlt, hE, hT0, hN, hIx, hIm, hax, hbx, hox, hab, hao, hbo⟩ := id X0
  have hts : ∀ w ∈ wsL_law, w.before #[Value.ref b] s = true := fun w h => hts0 w (wsL_law_in w h)
  have hown : s.vm.findClass RL = some m.cls := hown
  have hbA : ¬ (fun q : Nat => s.heap.size ≤ q) b := Nat.not_le.mpr hbl
  have hT := tx_at hT0 hS hax
  refine lv_aload_n hx hb dL_law_92 rfl (lv_at hl 3 rfl) ?_
  refine lv_aload_n hx hb dL_law_93 rfl (lv_at hl 4 rfl) ?_
  refine lv_iload hx hb dL_law_94 (lv_at hl 0 rfl) ?_
  refine lv_iconst (v := (nI 1)) hx hb dL_law_96 (by decide) ?_
  refine lv_iadd hx hb dL_law_97 ?_
  refine lv_topi (fun z_97 ez_97 => ?_)
  obtain rfl : z_97 = nI (4 * t + 1) := ez_97.trans (nI_pk _ _)
  refine va_sld hx hb hX hbl hbA hS (vp_in_nI (n := 4 * t + 1) (by omega) (by omega)) dL_law_98 ?_
  refine lv_topi (fun z_98 ez_98 => ?_)
  obtain rfl : z_98 = xs (4 * t + 1) := ez_98.trans (by rw [nI_clamp (by omega)])
  refine lv_aload_n hx hb dL_law_99 rfl (lv_at hl 1 rfl) ?_
  refine va_calli (vx_runSW (As := [.ref (ad 0), .int (xs (4 * t + 1)), .ref o]) (rest := []) ⟨hx, hb, hml, hown, hts⟩ (lc_vertex l hlt en ad c hIx o f hao _ hci (xs (4 * t + 1))) (vx_cwSW 3 hts gL_law_L_vertex rfl rfl rfl (by decide +kernel) ⟨(Nat.le_of_ble_eq_true rfl), (Nat.le_of_ble_eq_true rfl)⟩) (wp_preS hE hT hN ⟨hP, hPo⟩) rfl rfl hl.1 rfl (lv_room (Nat.le_of_ble_eq_true rfl)) dL_law_100 ⟨hcl, hsl⟩) hS (fun q _ h => wA_in hS hax hox q h) (wA_in hS hax hox) (fun rk u t9 H1 locs1 ht9 _ hpo hB9 _ hk9 hS => ?_)
  obtain ⟨hP, hPo⟩ := hB9
  rw [ht9] at hP hPo
  have hPm := mw_keep hab hbo hPm hk9
  refine lv_istore (lv' := [(5, .int rk), (4, .int (nI (4 * t))), (3, .ref o), (2, .ref (bd 0)), (1, .ref (ad 0)), (0, .ref b)]) hx hb dL_law_103 hl (by decide) rfl (fun ls hl => ?_)
  refine lv_aload_n hx hb dL_law_105 rfl (lv_at hl 3 rfl) ?_
  refine lv_aload_n hx hb dL_law_106 rfl (lv_at hl 5 rfl) ?_
  refine lv_iload hx hb dL_law_107 (lv_at hl 1 rfl) ?_
  refine lv_iconst (v := (nI 1)) hx hb dL_law_109 (by decide) ?_
  refine lv_iadd hx hb dL_law_110 ?_
  refine lv_topi (fun z_110 ez_110 => ?_)
  obtain rfl : z_110 = nI (4 * t + 1) := ez_110.trans (nI_pk _ _)
  refine va_sld hx hb hX hbl hbA hS (vp_in_nI (n := 4 * t + 1) (by omega) (by omega)) dL_law_111 ?_
  refine lv_topi (fun z_111 ez_111 => ?_)
  obtain rfl : z_111 = xs (4 * t + 1) := ez_111.trans (by rw [nI_clamp (by omega)])
  refine va_calli (va_runV (As := [.int (xs (4 * t + 1))]) (rest := []) ⟨hx, hb, hml, hown, hts⟩ (cm_vertex l en bd d hIm _ hmci (xs (4 * t + 1))) (cwV 1 hts gL_law_X5_vertex rfl rfl rfl (by decide +kernel) ⟨(Nat.le_of_ble_eq_true rfl), (Nat.le_of_ble_eq_true rfl)⟩) (ct_preV hE (va_recv hE.1 hPm (ci := 5) (q0 := 0) rfl rfl) ⟨rfl, hPm⟩) rfl rfl hl.1 rfl (lv_room (Nat.le_of_ble_eq_true rfl)) dL_law_112 ⟨hcl, hsl⟩) hS (fun q _ h => mA_in hS hbx q h) (mA_in hS hbx) (fun rb d9 t9 H2 locs2 ht9 _ hmp hPm _ hk9 hS => ?_)
  rw [ht9] at hPm
  have hP := xw_keepM hab hP hk9
  have hPo := oW_keepM hbo hPo hk9
  have hrl := rl_vertex hci.1.ok hci hpo hmp
  refine lv_istore (lv' := [(6, .int rb), (5, .int rk), (4, .int (nI (4 * t))), (3, .ref o), (2, .ref (bd 0)), (1, .ref (ad 0)), (0, .ref b)]) hx hb dL_law_115 hl (by decide) rfl (fun ls hl => ?_)
  refine lv_aload_n hx hb dL_law_117 rfl (lv_at hl 4 rfl) ?_
  refine ro_calli (va_runV (As := []) (rest := []) ⟨hx, hb, hml, hown, hts⟩ (cm_thrown l en bd d9) (cwV 0 hts gL_law_X5_thrown rfl rfl rfl (by decide +kernel) ⟨(Nat.le_of_ble_eq_true rfl), (Nat.le_of_ble_eq_true rfl)⟩) (ct_preV hE (va_recv hE.1 hPm (ci := 5) (q0 := 0) rfl rfl) hPm) rfl rfl hl.1 rfl (lv_room (Nat.le_of_ble_eq_true rfl)) dL_law_118 ⟨hcl, hsl⟩) (fun rt w9 => ?_)
  obtain rfl : rt = d9.1 0 0 := w9
  refine lv_iload hx hb dL_law_121 (lv_at hl 1 rfl) ?_
  refine lv_icmp_eq (tgt := 128) hx hb dL_law_123 (by decide) (fun _ => ?_) (fun bn => absurd hrl.1 bn)
  refine lv_iload hx hb dL_law_128 (lv_at hl 1 rfl) ?_
  refine lv_if_ne (tgt := 145) hx hb dL_law_130 (by decide) (fun hk0 => ?_) (fun hk0 => ?_)
  · skip
    refine lv_goto (tgt := 739) hx hb dL_law_145 (by decide) ?_
    obtain ⟨G9, hci9, hmci9⟩ := hrl.2.2
    exact K G9 _ _ _ _ _ _ hci9 hmci9 hP hPm hPo hS (lv_sub hl [2, 3, 4, 5, 6] rfl)
  · skip
    refine lv_aload_n hx hb dL_law_133 rfl (lv_at hl 3 rfl) ?_
    refine lv_iconst (v := 0) hx hb dL_law_134 (by decide) ?_
    refine va_lald hx hb hE.1 hPo 0 1 (n := 1) (f := u.2) (cA := en.2.2.1) rfl rfl (by unfold vp_in; decide) dL_law_135 ?_
    refine lv_topl (fun z_135 ez_135 => ?_)
    obtain rfl : z_135 = u.2 0 := ez_135.trans (by rw [sb_cl0])
    refine lv_iload hx hb dL_law_136 (lv_at hl 0 rfl) ?_
    refine lv_i2l (v := rb.toInt64) hx hb dL_law_138 rfl ?_
    refine W.lcmp hx hb dL_law_139 ?_
    refine lv_if_eq (tgt := 145) hx hb dL_law_140 (by decide) (fun _ => ?_) (fun bn => absurd ((lg_cmp_eq _ _).mpr (hrl.2.1 hk0)) bn)
    refine lv_goto (tgt := 739) hx hb dL_law_145 (by decide) ?_
    obtain ⟨G9, hci9, hmci9⟩ := hrl.2.2
    exact K G9 _ _ _ _ _ _ hci9 hmci9 hP hPm hPo hS (lv_sub hl [2, 3, 4, 5, 6] rfl)
set_option maxHeartbeats 4000000 in
set_option maxRecDepth 100000 in
theorem law_edge {p : Program} {e : Env} {s : State} {m : MethodId} {below : List Frame} {meth : Method} {co : Code} {l : Launch} {b L : Nat} {xs : Nat → Int32} {en : en_T} {ad bd : Nat → Nat} {o : Nat} (X0 : lx p s m meth co b L xs l en ad bd o) (t : Nat) (ht : 4 * t + 4 ≤ L) (hL : L ≤ 2048) {G : gr_T} {c : Nat → Nat → Int32} {d : mT} {f : Nat → Int64} (hci : ci G c) (hmci : mci G d) {H : Heap} {locs : List Loc} (hP : va_P en.1 vwCl (xw en ad c) H) (hPm : va_P en.1 vwCl (mw en bd d) H) (hPo : va_P en.1 vwCl (oW en o f) H) (hS : va_S (fun q => s.heap.size ≤ q) s.heap H locs) {cells slots : Nat} (hcl : cells + 4 ≤ 647528) (hsl : slots + 24 ≤ 7153520) {Q : State → Prop}
    (K : ∀ (G : gr_T) (c : Nat → Nat → Int32) (d : mT) (f : Nat → Int64) (H : Heap) (locs : List Loc) (ls : Array Slot), ci G c → mci G d → va_P en.1 vwCl (xw en ad c) H → va_P en.1 vwCl (mw en bd d) H → va_P en.1 vwCl (oW en o f) H → va_S (fun q => s.heap.size ≤ q) s.heap H locs → lv_has ls 7 [(4, .int (nI (4 * t))), (3, .ref o), (2, .ref (bd 0)), (1, .ref (ad 0)), (0, .ref b)] → W p l e room_1 s m #[Value.ref b] below meth co H locs (cells + 4) (slots + 24) Q (F0 m 739 ls []))
    {ls : Array Slot} (hl : lv_has ls 7 [(4, .int (nI (4 * t))), (3, .ref o), (2, .ref (bd 0)), (1, .ref (ad 0)), (0, .ref b)]) : W p l e room_1 s m #[Value.ref b] below meth co H locs cells slots Q (F0 m 148 ls []) := by
  obtain ⟨⟨hx, hb, hr, hml, hown, hts0, hX, hbl, hlocks, hgv⟩, hlt, hE, hT0, hN, hIx, hIm, hax, hbx, hox, hab, hao, hbo⟩ := id X0
  have hts : ∀ w ∈ wsL_law, w.before #[Value.ref b] s = true := fun w h => hts0 w (wsL_law_in w h)
  have hown : s.vm.findClass RL = some m.cls := hown
  have hbA : ¬ (fun q : Nat => s.heap.size ≤ q) b := Nat.not_le.mpr hbl
  have hT := tx_at hT0 hS hax
  refine lv_aload_n hx hb dL_law_148 rfl (lv_at hl 3 rfl) ?_
  refine lv_aload_n hx hb dL_law_149 rfl (lv_at hl 4 rfl) ?_
  refine lv_iload hx hb dL_law_150 (lv_at hl 0 rfl) ?_
  refine lv_iconst (v := (nI 1)) hx hb dL_law_152 (by decide) ?_
  refine lv_iadd hx hb dL_law_153 ?_
  refine lv_topi (fun z_153 ez_153 => ?_)
  obtain rfl : z_153 = nI (4 * t + 1) := ez_153.trans (nI_pk _ _)
  refine va_sld hx hb hX hbl hbA hS (vp_in_nI (n := 4 * t + 1) (by omega) (by omega)) dL_law_154 ?_
  refine lv_topi (fun z_154 ez_154 => ?_)
  obtain rfl : z_154 = xs (4 * t + 1) := ez_154.trans (by rw [nI_clamp (by omega)])
  refine lv_aload_n hx hb dL_law_155 rfl (lv_at hl 4 rfl) ?_
  refine lv_iload hx hb dL_law_156 (lv_at hl 0 rfl) ?_
  refine lv_iconst (v := (nI 2)) hx hb dL_law_158 (by decide) ?_
  refine lv_iadd hx hb dL_law_159 ?_
  refine lv_topi (fun z_159 ez_159 => ?_)
  obtain rfl : z_159 = nI (4 * t + 2) := ez_159.trans (nI_pk _ _)
  refine va_sld hx hb hX hbl hbA hS (vp_in_nI (n := 4 * t + 2) (by omega) (by omega)) dL_law_160 ?_
  refine lv_topi (fun z_160 ez_160 => ?_)
  obtain rfl : z_160 = xs (4 * t + 2) := ez_160.trans (by rw [nI_clamp (by omega)])
  refine lv_aload_n hx hb dL_law_161 rfl (lv_at hl 4 rfl) ?_
  refine lv_iload hx hb dL_law_162 (lv_at hl 0 rfl) ?_
  refine lv_iconst (v := (nI 3)) hx hb dL_law_164 (by decide) ?_
  refine lv_iadd hx hb dL_law_165 ?_
  refine lv_topi (fun z_165 ez_165 => ?_)
  obtain rfl : z_165 = nI (4 * t + 3) := ez_165.trans (nI_pk _ _)
  refine va_sld hx hb hX hbl hbA hS (vp_in_nI (n := 4 * t + 3) (by omega) (by omega)) dL_law_166 ?_
  refine lv_topi (fun z_166 ez_166 => ?_)
  obtain rfl : z_166 = xs (4 * t + 3) := ez_166.trans (by rw [nI_clamp (by omega)])
  refine lv_aload_n hx hb dL_law_167 rfl (lv_at hl 1 rfl) ?_
  refine va_calli (vx_runSW (As := [.ref (ad 0), .int (xs (4 * t + 1)), .int (xs (4 * t + 2)), .int (xs (4 * t + 3)), .ref o]) (rest := []) ⟨hx, hb, hml, hown, hts⟩ (lc_edge l hlt en ad c hIx o f hao _ hci (xs (4 * t + 1)) (xs (4 * t + 2)) (xs (4 * t + 3))) (vx_cwSW 5 hts gL_law_L_edge rfl rfl rfl (by decide +kernel) ⟨(Nat.le_of_ble_eq_true rfl), (Nat.le_of_ble_eq_true rfl)⟩) (wp_preS hE hT hN ⟨hP, hPo⟩) rfl rfl hl.1 rfl (lv_room (Nat.le_of_ble_eq_true rfl)) dL_law_168 ⟨hcl, hsl⟩) hS (fun q _ h => wA_in hS hax hox q h) (wA_in hS hax hox) (fun rk u t9 H1 locs1 ht9 _ hpo hB9 _ hk9 hS => ?_)
  obtain ⟨hP, hPo⟩ := hB9
  rw [ht9] at hP hPo
  have hPm := mw_keep hab hbo hPm hk9
  refine lv_istore (lv' := [(5, .int rk), (4, .int (nI (4 * t))), (3, .ref o), (2, .ref (bd 0)), (1, .ref (ad 0)), (0, .ref b)]) hx hb dL_law_171 hl (by decide) rfl (fun ls hl => ?_)
  refine lv_aload_n hx hb dL_law_173 rfl (lv_at hl 3 rfl) ?_
  refine lv_aload_n hx hb dL_law_174 rfl (lv_at hl 5 rfl) ?_
  refine lv_iload hx hb dL_law_175 (lv_at hl 1 rfl) ?_
  refine lv_iconst (v := (nI 1)) hx hb dL_law_177 (by decide) ?_
  refine lv_iadd hx hb dL_law_178 ?_
  refine lv_topi (fun z_178 ez_178 => ?_)
  obtain rfl : z_178 = nI (4 * t + 1) := ez_178.trans (nI_pk _ _)
  refine va_sld hx hb hX hbl hbA hS (vp_in_nI (n := 4 * t + 1) (by omega) (by omega)) dL_law_179 ?_
  refine lv_topi (fun z_179 ez_179 => ?_)
  obtain rfl : z_179 = xs (4 * t + 1) := ez_179.trans (by rw [nI_clamp (by omega)])
  refine lv_aload_n hx hb dL_law_180 rfl (lv_at hl 5 rfl) ?_
  refine lv_iload hx hb dL_law_181 (lv_at hl 1 rfl) ?_
  refine lv_iconst (v := (nI 2)) hx hb dL_law_183 (by decide) ?_
  refine lv_iadd hx hb dL_law_184 ?_
  refine lv_topi (fun z_184 ez_184 => ?_)
  obtain rfl : z_184 = nI (4 * t + 2) := ez_184.trans (nI_pk _ _)
  refine va_sld hx hb hX hbl hbA hS (vp_in_nI (n := 4 * t + 2) (by omega) (by omega)) dL_law_185 ?_
  refine lv_topi (fun z_185 ez_185 => ?_)
  obtain rfl : z_185 = xs (4 * t + 2) := ez_185.trans (by rw [nI_clamp (by omega)])
  refine lv_aload_n hx hb dL_law_186 rfl (lv_at hl 5 rfl) ?_
  refine lv_iload hx hb dL_law_187 (lv_at hl 1 rfl) ?_
  refine lv_iconst (v := (nI 3)) hx hb dL_law_189 (by decide) ?_
  refine lv_iadd hx hb dL_law_190 ?_
  refine lv_topi (fun z_190 ez_190 => ?_)
  obtain rfl : z_190 = nI (4 * t + 3) := ez_190.trans (nI_pk _ _)
  refine va_sld hx hb hX hbl hbA hS (vp_in_nI (n := 4 * t + 3) (by omega) (by omega)) dL_law_191 ?_
  refine lv_topi (fun z_191 ez_191 => ?_)
  obtain rfl : z_191 = xs (4 * t + 3) := ez_191.trans (by rw [nI_clamp (by omega)])
  refine va_calli (va_runV (As := [.int (xs (4 * t + 1)), .int (xs (4 * t + 2)), .int (xs (4 * t + 3))]) (rest := []) ⟨hx, hb, hml, hown, hts⟩ (cm_edge l en bd d hIm _ hmci (xs (4 * t + 1)) (xs (4 * t + 2)) (xs (4 * t + 3))) (cwV 3 hts gL_law_X5_edge rfl rfl rfl (by decide +kernel) ⟨(Nat.le_of_ble_eq_true rfl), (Nat.le_of_ble_eq_true rfl)⟩) (ct_preV hE (va_recv hE.1 hPm (ci := 5) (q0 := 0) rfl rfl) ⟨rfl, hPm⟩) rfl rfl hl.1 rfl (lv_room (Nat.le_of_ble_eq_true rfl)) dL_law_192 ⟨hcl, hsl⟩) hS (fun q _ h => mA_in hS hbx q h) (mA_in hS hbx) (fun rb d9 t9 H2 locs2 ht9 _ hmp hPm _ hk9 hS => ?_)
  rw [ht9] at hPm
  have hP := xw_keepM hab hP hk9
  have hPo := oW_keepM hbo hPo hk9
  have hrl := rl_edge hci.1.ok hci hpo hmp
  refine lv_istore (lv' := [(6, .int rb), (5, .int rk), (4, .int (nI (4 * t))), (3, .ref o), (2, .ref (bd 0)), (1, .ref (ad 0)), (0, .ref b)]) hx hb dL_law_195 hl (by decide) rfl (fun ls hl => ?_)
  refine lv_aload_n hx hb dL_law_197 rfl (lv_at hl 4 rfl) ?_
  refine ro_calli (va_runV (As := []) (rest := []) ⟨hx, hb, hml, hown, hts⟩ (cm_thrown l en bd d9) (cwV 0 hts gL_law_X5_thrown rfl rfl rfl (by decide +kernel) ⟨(Nat.le_of_ble_eq_true rfl), (Nat.le_of_ble_eq_true rfl)⟩) (ct_preV hE (va_recv hE.1 hPm (ci := 5) (q0 := 0) rfl rfl) hPm) rfl rfl hl.1 rfl (lv_room (Nat.le_of_ble_eq_true rfl)) dL_law_198 ⟨hcl, hsl⟩) (fun rt w9 => ?_)
  obtain rfl : rt = d9.1 0 0 := w9
  refine lv_iload hx hb dL_law_201 (lv_at hl 1 rfl) ?_
  refine lv_icmp_eq (tgt := 208) hx hb dL_law_203 (by decide) (fun _ => ?_) (fun bn => absurd hrl.1 bn)
  refine lv_iload hx hb dL_law_208 (lv_at hl 1 rfl) ?_
  refine lv_if_ne (tgt := 225) hx hb dL_law_210 (by decide) (fun hk0 => ?_) (fun hk0 => ?_)
  · skip
    refine lv_goto (tgt := 739) hx hb dL_law_225 (by decide) ?_
    obtain ⟨G9, hci9, hmci9⟩ := hrl.2.2
    exact K G9 _ _ _ _ _ _ hci9 hmci9 hP hPm hPo hS (lv_sub hl [2, 3, 4, 5, 6] rfl)
  · skip
    refine lv_aload_n hx hb dL_law_213 rfl (lv_at hl 3 rfl) ?_
    refine lv_iconst (v := 0) hx hb dL_law_214 (by decide) ?_
    refine va_lald hx hb hE.1 hPo 0 1 (n := 1) (f := u.2) (cA := en.2.2.1) rfl rfl (by unfold vp_in; decide) dL_law_215 ?_
    refine lv_topl (fun z_215 ez_215 => ?_)
    obtain rfl : z_215 = u.2 0 := ez_215.trans (by rw [sb_cl0])
    refine lv_iload hx hb dL_law_216 (lv_at hl 0 rfl) ?_
    refine lv_i2l (v := rb.toInt64) hx hb dL_law_218 rfl ?_
    refine W.lcmp hx hb dL_law_219 ?_
    refine lv_if_eq (tgt := 225) hx hb dL_law_220 (by decide) (fun _ => ?_) (fun bn => absurd ((lg_cmp_eq _ _).mpr (hrl.2.1 hk0)) bn)
    refine lv_goto (tgt := 739) hx hb dL_law_225 (by decide) ?_
    obtain ⟨G9, hci9, hmci9⟩ := hrl.2.2
    exact K G9 _ _ _ _ _ _ hci9 hmci9 hP hPm hPo hS (lv_sub hl [2, 3, 4, 5, 6] rfl)
set_option maxHeartbeats 4000000 in
set_option maxRecDepth 100000 in
theorem law_fix {p : Program} {e : Env} {s : State} {m : MethodId} {below : List Frame} {meth : Method} {co : Code} {l : Launch} {b L : Nat} {xs : Nat → Int32} {en : en_T} {ad bd : Nat → Nat} {o : Nat} (X0 : lx p s m meth co b L xs l en ad bd o) (t : Nat) (ht : 4 * t + 4 ≤ L) (hL : L ≤ 2048) {G : gr_T} {c : Nat → Nat → Int32} {d : mT} {f : Nat → Int64} (hci : ci G c) (hmci : mci G d) {H : Heap} {locs : List Loc} (hP : va_P en.1 vwCl (xw en ad c) H) (hPm : va_P en.1 vwCl (mw en bd d) H) (hPo : va_P en.1 vwCl (oW en o f) H) (hS : va_S (fun q => s.heap.size ≤ q) s.heap H locs) {cells slots : Nat} (hcl : cells + 4 ≤ 647528) (hsl : slots + 24 ≤ 7153520) {Q : State → Prop}
    (K : ∀ (G : gr_T) (c : Nat → Nat → Int32) (d : mT) (f : Nat → Int64) (H : Heap) (locs : List Loc) (ls : Array Slot), ci G c → mci G d → va_P en.1 vwCl (xw en ad c) H → va_P en.1 vwCl (mw en bd d) H → va_P en.1 vwCl (oW en o f) H → va_S (fun q => s.heap.size ≤ q) s.heap H locs → lv_has ls 7 [(4, .int (nI (4 * t))), (3, .ref o), (2, .ref (bd 0)), (1, .ref (ad 0)), (0, .ref b)] → W p l e room_1 s m #[Value.ref b] below meth co H locs (cells + 4) (slots + 24) Q (F0 m 739 ls []))
    {ls : Array Slot} (hl : lv_has ls 7 [(4, .int (nI (4 * t))), (3, .ref o), (2, .ref (bd 0)), (1, .ref (ad 0)), (0, .ref b)]) : W p l e room_1 s m #[Value.ref b] below meth co H locs cells slots Q (F0 m 228 ls []) := by
  obtain ⟨⟨hx, hb, hr, hml, hown, hts0, hX, hbl, hlocks, hgv⟩, hlt, hE, hT0, hN, hIx, hIm, hax, hbx, hox, hab, hao, hbo⟩ := id X0
  have hts : ∀ w ∈ wsL_law, w.before #[Value.ref b] s = true := fun w h => hts0 w (wsL_law_in w h)
  have hown : s.vm.findClass RL = some m.cls := hown
  have hbA : ¬ (fun q : Nat => s.heap.size ≤ q) b := Nat.not_le.mpr hbl
  have hT := tx_at hT0 hS hax
  refine lv_aload_n hx hb dL_law_228 rfl (lv_at hl 3 rfl) ?_
  refine lv_aload_n hx hb dL_law_229 rfl (lv_at hl 4 rfl) ?_
  refine lv_iload hx hb dL_law_230 (lv_at hl 0 rfl) ?_
  refine lv_iconst (v := (nI 1)) hx hb dL_law_232 (by decide) ?_
  refine lv_iadd hx hb dL_law_233 ?_
  refine lv_topi (fun z_233 ez_233 => ?_)
  obtain rfl : z_233 = nI (4 * t + 1) := ez_233.trans (nI_pk _ _)
  refine va_sld hx hb hX hbl hbA hS (vp_in_nI (n := 4 * t + 1) (by omega) (by omega)) dL_law_234 ?_
  refine lv_topi (fun z_234 ez_234 => ?_)
  obtain rfl : z_234 = xs (4 * t + 1) := ez_234.trans (by rw [nI_clamp (by omega)])
  refine lv_aload_n hx hb dL_law_235 rfl (lv_at hl 4 rfl) ?_
  refine lv_iload hx hb dL_law_236 (lv_at hl 0 rfl) ?_
  refine lv_iconst (v := (nI 2)) hx hb dL_law_238 (by decide) ?_
  refine lv_iadd hx hb dL_law_239 ?_
  refine lv_topi (fun z_239 ez_239 => ?_)
  obtain rfl : z_239 = nI (4 * t + 2) := ez_239.trans (nI_pk _ _)
  refine va_sld hx hb hX hbl hbA hS (vp_in_nI (n := 4 * t + 2) (by omega) (by omega)) dL_law_240 ?_
  refine lv_topi (fun z_240 ez_240 => ?_)
  obtain rfl : z_240 = xs (4 * t + 2) := ez_240.trans (by rw [nI_clamp (by omega)])
  refine va_calli (vx_runSW (As := [.ref (ad 0), .int (xs (4 * t + 1)), .int (xs (4 * t + 2))]) (rest := []) ⟨hx, hb, hml, hown, hts⟩ (lc_fix l hlt en ad c hIx o f hao _ hci (xs (4 * t + 1)) (xs (4 * t + 2))) (vx_cwSW 3 hts gL_law_L_fix rfl rfl rfl (by decide +kernel) ⟨(Nat.le_of_ble_eq_true rfl), (Nat.le_of_ble_eq_true rfl)⟩) (wp_preS hE hT hN ⟨hP, hPo⟩) rfl rfl hl.1 rfl (lv_room (Nat.le_of_ble_eq_true rfl)) dL_law_241 ⟨hcl, hsl⟩) hS (fun q _ h => wA_in hS hax hox q h) (wA_in hS hax hox) (fun rk u t9 H1 locs1 ht9 _ hpo hB9 _ hk9 hS => ?_)
  obtain ⟨hP, hPo⟩ := hB9
  rw [ht9] at hP hPo
  have hPm := mw_keep hab hbo hPm hk9
  refine lv_istore (lv' := [(5, .int rk), (4, .int (nI (4 * t))), (3, .ref o), (2, .ref (bd 0)), (1, .ref (ad 0)), (0, .ref b)]) hx hb dL_law_244 hl (by decide) rfl (fun ls hl => ?_)
  refine lv_aload_n hx hb dL_law_246 rfl (lv_at hl 3 rfl) ?_
  refine lv_aload_n hx hb dL_law_247 rfl (lv_at hl 5 rfl) ?_
  refine lv_iload hx hb dL_law_248 (lv_at hl 1 rfl) ?_
  refine lv_iconst (v := (nI 1)) hx hb dL_law_250 (by decide) ?_
  refine lv_iadd hx hb dL_law_251 ?_
  refine lv_topi (fun z_251 ez_251 => ?_)
  obtain rfl : z_251 = nI (4 * t + 1) := ez_251.trans (nI_pk _ _)
  refine va_sld hx hb hX hbl hbA hS (vp_in_nI (n := 4 * t + 1) (by omega) (by omega)) dL_law_252 ?_
  refine lv_topi (fun z_252 ez_252 => ?_)
  obtain rfl : z_252 = xs (4 * t + 1) := ez_252.trans (by rw [nI_clamp (by omega)])
  refine lv_aload_n hx hb dL_law_253 rfl (lv_at hl 5 rfl) ?_
  refine lv_iload hx hb dL_law_254 (lv_at hl 1 rfl) ?_
  refine lv_iconst (v := (nI 2)) hx hb dL_law_256 (by decide) ?_
  refine lv_iadd hx hb dL_law_257 ?_
  refine lv_topi (fun z_257 ez_257 => ?_)
  obtain rfl : z_257 = nI (4 * t + 2) := ez_257.trans (nI_pk _ _)
  refine va_sld hx hb hX hbl hbA hS (vp_in_nI (n := 4 * t + 2) (by omega) (by omega)) dL_law_258 ?_
  refine lv_topi (fun z_258 ez_258 => ?_)
  obtain rfl : z_258 = xs (4 * t + 2) := ez_258.trans (by rw [nI_clamp (by omega)])
  refine va_callv (va_runV (As := [.int (xs (4 * t + 1)), .int (xs (4 * t + 2))]) (rest := []) ⟨hx, hb, hml, hown, hts⟩ (cm_fix l en bd d hIm _ hmci (xs (4 * t + 1)) (xs (4 * t + 2))) (cwV 2 hts gL_law_X5_fix rfl rfl rfl (by decide +kernel) ⟨(Nat.le_of_ble_eq_true rfl), (Nat.le_of_ble_eq_true rfl)⟩) (ct_preV hE (va_recv hE.1 hPm (ci := 5) (q0 := 0) rfl rfl) ⟨rfl, hPm⟩) rfl rfl hl.1 rfl (lv_room (Nat.le_of_ble_eq_true rfl)) dL_law_259 ⟨hcl, hsl⟩) hS (fun q _ h => mA_in hS hbx q h) (mA_in hS hbx) (fun d9 t9 H2 locs2 ht9 _ hmp hPm _ hk9 hS => ?_)
  rw [ht9] at hPm
  have hP := xw_keepM hab hP hk9
  have hPo := oW_keepM hbo hPo hk9
  have hrl := rl_fix hci.1.ok hci hpo hmp
  refine lv_aload_n hx hb dL_law_262 rfl (lv_at hl 3 rfl) ?_
  refine ro_calli (va_runV (As := []) (rest := []) ⟨hx, hb, hml, hown, hts⟩ (cm_thrown l en bd d9) (cwV 0 hts gL_law_X5_thrown rfl rfl rfl (by decide +kernel) ⟨(Nat.le_of_ble_eq_true rfl), (Nat.le_of_ble_eq_true rfl)⟩) (ct_preV hE (va_recv hE.1 hPm (ci := 5) (q0 := 0) rfl rfl) hPm) rfl rfl hl.1 rfl (lv_room (Nat.le_of_ble_eq_true rfl)) dL_law_263 ⟨hcl, hsl⟩) (fun rt w9 => ?_)
  obtain rfl : rt = d9.1 0 0 := w9
  refine lv_iload hx hb dL_law_266 (lv_at hl 0 rfl) ?_
  refine lv_icmp_eq (tgt := 273) hx hb dL_law_268 (by decide) (fun _ => ?_) (fun bn => absurd hrl.1 bn)
  refine lv_goto (tgt := 739) hx hb dL_law_273 (by decide) ?_
  obtain ⟨G9, hci9, hmci9⟩ := hrl.2.2
  exact K G9 _ _ _ _ _ _ hci9 hmci9 hP hPm hPo hS (lv_sub hl [1, 2, 3, 4, 5] rfl)
set_option maxHeartbeats 4000000 in
set_option maxRecDepth 100000 in
theorem law_fixed {p : Program} {e : Env} {s : State} {m : MethodId} {below : List Frame} {meth : Method} {co : Code} {l : Launch} {b L : Nat} {xs : Nat → Int32} {en : en_T} {ad bd : Nat → Nat} {o : Nat} (X0 : lx p s m meth co b L xs l en ad bd o) (t : Nat) (ht : 4 * t + 4 ≤ L) (hL : L ≤ 2048) {G : gr_T} {c : Nat → Nat → Int32} {d : mT} {f : Nat → Int64} (hci : ci G c) (hmci : mci G d) {H : Heap} {locs : List Loc} (hP : va_P en.1 vwCl (xw en ad c) H) (hPm : va_P en.1 vwCl (mw en bd d) H) (hPo : va_P en.1 vwCl (oW en o f) H) (hS : va_S (fun q => s.heap.size ≤ q) s.heap H locs) {cells slots : Nat} (hcl : cells + 4 ≤ 647528) (hsl : slots + 24 ≤ 7153520) {Q : State → Prop}
    (K : ∀ (G : gr_T) (c : Nat → Nat → Int32) (d : mT) (f : Nat → Int64) (H : Heap) (locs : List Loc) (ls : Array Slot), ci G c → mci G d → va_P en.1 vwCl (xw en ad c) H → va_P en.1 vwCl (mw en bd d) H → va_P en.1 vwCl (oW en o f) H → va_S (fun q => s.heap.size ≤ q) s.heap H locs → lv_has ls 7 [(4, .int (nI (4 * t))), (3, .ref o), (2, .ref (bd 0)), (1, .ref (ad 0)), (0, .ref b)] → W p l e room_1 s m #[Value.ref b] below meth co H locs (cells + 4) (slots + 24) Q (F0 m 739 ls []))
    {ls : Array Slot} (hl : lv_has ls 7 [(4, .int (nI (4 * t))), (3, .ref o), (2, .ref (bd 0)), (1, .ref (ad 0)), (0, .ref b)]) : W p l e room_1 s m #[Value.ref b] below meth co H locs cells slots Q (F0 m 276 ls []) := by
  obtain ⟨⟨hx, hb, hr, hml, hown, hts0, hX, hbl, hlocks, hgv⟩, hlt, hE, hT0, hN, hIx, hIm, hax, hbx, hox, hab, hao, hbo⟩ := id X0
  have hts : ∀ w ∈ wsL_law, w.before #[Value.ref b] s = true := fun w h => hts0 w (wsL_law_in w h)
  have hown : s.vm.findClass RL = some m.cls := hown
  have hbA : ¬ (fun q : Nat => s.heap.size ≤ q) b := Nat.not_le.mpr hbl
  have hT := tx_at hT0 hS hax
  refine lv_aload_n hx hb dL_law_276 rfl (lv_at hl 3 rfl) ?_
  refine lv_aload_n hx hb dL_law_277 rfl (lv_at hl 4 rfl) ?_
  refine lv_iload hx hb dL_law_278 (lv_at hl 0 rfl) ?_
  refine lv_iconst (v := (nI 1)) hx hb dL_law_280 (by decide) ?_
  refine lv_iadd hx hb dL_law_281 ?_
  refine lv_topi (fun z_281 ez_281 => ?_)
  obtain rfl : z_281 = nI (4 * t + 1) := ez_281.trans (nI_pk _ _)
  refine va_sld hx hb hX hbl hbA hS (vp_in_nI (n := 4 * t + 1) (by omega) (by omega)) dL_law_282 ?_
  refine lv_topi (fun z_282 ez_282 => ?_)
  obtain rfl : z_282 = xs (4 * t + 1) := ez_282.trans (by rw [nI_clamp (by omega)])
  refine lv_aload_n hx hb dL_law_283 rfl (lv_at hl 1 rfl) ?_
  refine va_calli (vx_runSW (As := [.ref (ad 0), .int (xs (4 * t + 1)), .ref o]) (rest := []) ⟨hx, hb, hml, hown, hts⟩ (lc_fixed l hlt en ad c hIx o f hao _ hci (xs (4 * t + 1))) (vx_cwSW 3 hts gL_law_L_fixed rfl rfl rfl (by decide +kernel) ⟨(Nat.le_of_ble_eq_true rfl), (Nat.le_of_ble_eq_true rfl)⟩) (wp_preS hE hT hN ⟨hP, hPo⟩) rfl rfl hl.1 rfl (lv_room (Nat.le_of_ble_eq_true rfl)) dL_law_284 ⟨hcl, hsl⟩) hS (fun q _ h => wA_in hS hax hox q h) (wA_in hS hax hox) (fun rk u t9 H1 locs1 ht9 _ hpo hB9 _ hk9 hS => ?_)
  obtain ⟨hP, hPo⟩ := hB9
  rw [ht9] at hP hPo
  have hPm := mw_keep hab hbo hPm hk9
  refine lv_istore (lv' := [(5, .int rk), (4, .int (nI (4 * t))), (3, .ref o), (2, .ref (bd 0)), (1, .ref (ad 0)), (0, .ref b)]) hx hb dL_law_287 hl (by decide) rfl (fun ls hl => ?_)
  refine lv_aload_n hx hb dL_law_289 rfl (lv_at hl 3 rfl) ?_
  refine lv_aload_n hx hb dL_law_290 rfl (lv_at hl 5 rfl) ?_
  refine lv_iload hx hb dL_law_291 (lv_at hl 1 rfl) ?_
  refine lv_iconst (v := (nI 1)) hx hb dL_law_293 (by decide) ?_
  refine lv_iadd hx hb dL_law_294 ?_
  refine lv_topi (fun z_294 ez_294 => ?_)
  obtain rfl : z_294 = nI (4 * t + 1) := ez_294.trans (nI_pk _ _)
  refine va_sld hx hb hX hbl hbA hS (vp_in_nI (n := 4 * t + 1) (by omega) (by omega)) dL_law_295 ?_
  refine lv_topi (fun z_295 ez_295 => ?_)
  obtain rfl : z_295 = xs (4 * t + 1) := ez_295.trans (by rw [nI_clamp (by omega)])
  refine va_calli (va_runV (As := [.int (xs (4 * t + 1))]) (rest := []) ⟨hx, hb, hml, hown, hts⟩ (cm_fixed l en bd d hIm _ hmci (xs (4 * t + 1))) (cwV 1 hts gL_law_X5_fixed rfl rfl rfl (by decide +kernel) ⟨(Nat.le_of_ble_eq_true rfl), (Nat.le_of_ble_eq_true rfl)⟩) (ct_preV hE (va_recv hE.1 hPm (ci := 5) (q0 := 0) rfl rfl) ⟨rfl, hPm⟩) rfl rfl hl.1 rfl (lv_room (Nat.le_of_ble_eq_true rfl)) dL_law_296 ⟨hcl, hsl⟩) hS (fun q _ h => mA_in hS hbx q h) (mA_in hS hbx) (fun rb d9 t9 H2 locs2 ht9 _ hmp hPm _ hk9 hS => ?_)
  rw [ht9] at hPm
  have hP := xw_keepM hab hP hk9
  have hPo := oW_keepM hbo hPo hk9
  have hrl := rl_fixed hci.1.ok hci hpo hmp
  refine lv_istore (lv' := [(6, .int rb), (5, .int rk), (4, .int (nI (4 * t))), (3, .ref o), (2, .ref (bd 0)), (1, .ref (ad 0)), (0, .ref b)]) hx hb dL_law_299 hl (by decide) rfl (fun ls hl => ?_)
  refine lv_aload_n hx hb dL_law_301 rfl (lv_at hl 4 rfl) ?_
  refine ro_calli (va_runV (As := []) (rest := []) ⟨hx, hb, hml, hown, hts⟩ (cm_thrown l en bd d9) (cwV 0 hts gL_law_X5_thrown rfl rfl rfl (by decide +kernel) ⟨(Nat.le_of_ble_eq_true rfl), (Nat.le_of_ble_eq_true rfl)⟩) (ct_preV hE (va_recv hE.1 hPm (ci := 5) (q0 := 0) rfl rfl) hPm) rfl rfl hl.1 rfl (lv_room (Nat.le_of_ble_eq_true rfl)) dL_law_302 ⟨hcl, hsl⟩) (fun rt w9 => ?_)
  obtain rfl : rt = d9.1 0 0 := w9
  refine lv_iload hx hb dL_law_305 (lv_at hl 1 rfl) ?_
  refine lv_icmp_eq (tgt := 312) hx hb dL_law_307 (by decide) (fun _ => ?_) (fun bn => absurd hrl.1 bn)
  refine lv_iload hx hb dL_law_312 (lv_at hl 1 rfl) ?_
  refine lv_if_ne (tgt := 329) hx hb dL_law_314 (by decide) (fun hk0 => ?_) (fun hk0 => ?_)
  · skip
    refine lv_goto (tgt := 739) hx hb dL_law_329 (by decide) ?_
    obtain ⟨G9, hci9, hmci9⟩ := hrl.2.2
    exact K G9 _ _ _ _ _ _ hci9 hmci9 hP hPm hPo hS (lv_sub hl [2, 3, 4, 5, 6] rfl)
  · skip
    refine lv_aload_n hx hb dL_law_317 rfl (lv_at hl 3 rfl) ?_
    refine lv_iconst (v := 0) hx hb dL_law_318 (by decide) ?_
    refine va_lald hx hb hE.1 hPo 0 1 (n := 1) (f := u.2) (cA := en.2.2.1) rfl rfl (by unfold vp_in; decide) dL_law_319 ?_
    refine lv_topl (fun z_319 ez_319 => ?_)
    obtain rfl : z_319 = u.2 0 := ez_319.trans (by rw [sb_cl0])
    refine lv_iload hx hb dL_law_320 (lv_at hl 0 rfl) ?_
    refine lv_i2l (v := rb.toInt64) hx hb dL_law_322 rfl ?_
    refine W.lcmp hx hb dL_law_323 ?_
    refine lv_if_eq (tgt := 329) hx hb dL_law_324 (by decide) (fun _ => ?_) (fun bn => absurd ((lg_cmp_eq _ _).mpr (hrl.2.1 hk0)) bn)
    refine lv_goto (tgt := 739) hx hb dL_law_329 (by decide) ?_
    obtain ⟨G9, hci9, hmci9⟩ := hrl.2.2
    exact K G9 _ _ _ _ _ _ hci9 hmci9 hP hPm hPo hS (lv_sub hl [2, 3, 4, 5, 6] rfl)
set_option maxHeartbeats 4000000 in
set_option maxRecDepth 100000 in
theorem law_credit {p : Program} {e : Env} {s : State} {m : MethodId} {below : List Frame} {meth : Method} {co : Code} {l : Launch} {b L : Nat} {xs : Nat → Int32} {en : en_T} {ad bd : Nat → Nat} {o : Nat} (X0 : lx p s m meth co b L xs l en ad bd o) (t : Nat) (ht : 4 * t + 4 ≤ L) (hL : L ≤ 2048) {G : gr_T} {c : Nat → Nat → Int32} {d : mT} {f : Nat → Int64} (hci : ci G c) (hmci : mci G d) {H : Heap} {locs : List Loc} (hP : va_P en.1 vwCl (xw en ad c) H) (hPm : va_P en.1 vwCl (mw en bd d) H) (hPo : va_P en.1 vwCl (oW en o f) H) (hS : va_S (fun q => s.heap.size ≤ q) s.heap H locs) {cells slots : Nat} (hcl : cells + 4 ≤ 647528) (hsl : slots + 24 ≤ 7153520) {Q : State → Prop}
    (K : ∀ (G : gr_T) (c : Nat → Nat → Int32) (d : mT) (f : Nat → Int64) (H : Heap) (locs : List Loc) (ls : Array Slot), ci G c → mci G d → va_P en.1 vwCl (xw en ad c) H → va_P en.1 vwCl (mw en bd d) H → va_P en.1 vwCl (oW en o f) H → va_S (fun q => s.heap.size ≤ q) s.heap H locs → lv_has ls 7 [(4, .int (nI (4 * t))), (3, .ref o), (2, .ref (bd 0)), (1, .ref (ad 0)), (0, .ref b)] → W p l e room_1 s m #[Value.ref b] below meth co H locs (cells + 4) (slots + 24) Q (F0 m 739 ls []))
    {ls : Array Slot} (hl : lv_has ls 7 [(4, .int (nI (4 * t))), (3, .ref o), (2, .ref (bd 0)), (1, .ref (ad 0)), (0, .ref b)]) : W p l e room_1 s m #[Value.ref b] below meth co H locs cells slots Q (F0 m 332 ls []) := by
  obtain ⟨⟨hx, hb, hr, hml, hown, hts0, hX, hbl, hlocks, hgv⟩, hlt, hE, hT0, hN, hIx, hIm, hax, hbx, hox, hab, hao, hbo⟩ := id X0
  have hts : ∀ w ∈ wsL_law, w.before #[Value.ref b] s = true := fun w h => hts0 w (wsL_law_in w h)
  have hown : s.vm.findClass RL = some m.cls := hown
  have hbA : ¬ (fun q : Nat => s.heap.size ≤ q) b := Nat.not_le.mpr hbl
  have hT := tx_at hT0 hS hax
  refine lv_aload_n hx hb dL_law_332 rfl (lv_at hl 3 rfl) ?_
  refine lv_aload_n hx hb dL_law_333 rfl (lv_at hl 4 rfl) ?_
  refine lv_iload hx hb dL_law_334 (lv_at hl 0 rfl) ?_
  refine lv_iconst (v := (nI 1)) hx hb dL_law_336 (by decide) ?_
  refine lv_iadd hx hb dL_law_337 ?_
  refine lv_topi (fun z_337 ez_337 => ?_)
  obtain rfl : z_337 = nI (4 * t + 1) := ez_337.trans (nI_pk _ _)
  refine va_sld hx hb hX hbl hbA hS (vp_in_nI (n := 4 * t + 1) (by omega) (by omega)) dL_law_338 ?_
  refine lv_topi (fun z_338 ez_338 => ?_)
  obtain rfl : z_338 = xs (4 * t + 1) := ez_338.trans (by rw [nI_clamp (by omega)])
  refine lv_aload_n hx hb dL_law_339 rfl (lv_at hl 1 rfl) ?_
  refine va_calli (vx_runSW (As := [.ref (ad 0), .int (xs (4 * t + 1)), .ref o]) (rest := []) ⟨hx, hb, hml, hown, hts⟩ (lc_credit l hlt en ad c hIx o f hao _ hci (xs (4 * t + 1))) (vx_cwSW 3 hts gL_law_L_credit rfl rfl rfl (by decide +kernel) ⟨(Nat.le_of_ble_eq_true rfl), (Nat.le_of_ble_eq_true rfl)⟩) (wp_preS hE hT hN ⟨hP, hPo⟩) rfl rfl hl.1 rfl (lv_room (Nat.le_of_ble_eq_true rfl)) dL_law_340 ⟨hcl, hsl⟩) hS (fun q _ h => wA_in hS hax hox q h) (wA_in hS hax hox) (fun rk u t9 H1 locs1 ht9 _ hpo hB9 _ hk9 hS => ?_)
  obtain ⟨hP, hPo⟩ := hB9
  rw [ht9] at hP hPo
  have hPm := mw_keep hab hbo hPm hk9
  refine lv_istore (lv' := [(5, .int rk), (4, .int (nI (4 * t))), (3, .ref o), (2, .ref (bd 0)), (1, .ref (ad 0)), (0, .ref b)]) hx hb dL_law_343 hl (by decide) rfl (fun ls hl => ?_)
  refine lv_aload_n hx hb dL_law_345 rfl (lv_at hl 3 rfl) ?_
  refine lv_aload_n hx hb dL_law_346 rfl (lv_at hl 5 rfl) ?_
  refine lv_iload hx hb dL_law_347 (lv_at hl 1 rfl) ?_
  refine lv_iconst (v := (nI 1)) hx hb dL_law_349 (by decide) ?_
  refine lv_iadd hx hb dL_law_350 ?_
  refine lv_topi (fun z_350 ez_350 => ?_)
  obtain rfl : z_350 = nI (4 * t + 1) := ez_350.trans (nI_pk _ _)
  refine va_sld hx hb hX hbl hbA hS (vp_in_nI (n := 4 * t + 1) (by omega) (by omega)) dL_law_351 ?_
  refine lv_topi (fun z_351 ez_351 => ?_)
  obtain rfl : z_351 = xs (4 * t + 1) := ez_351.trans (by rw [nI_clamp (by omega)])
  refine va_calli (va_runV (As := [.int (xs (4 * t + 1))]) (rest := []) ⟨hx, hb, hml, hown, hts⟩ (cm_credit l en bd d hIm _ hmci (xs (4 * t + 1))) (cwV 1 hts gL_law_X5_credit rfl rfl rfl (by decide +kernel) ⟨(Nat.le_of_ble_eq_true rfl), (Nat.le_of_ble_eq_true rfl)⟩) (ct_preV hE (va_recv hE.1 hPm (ci := 5) (q0 := 0) rfl rfl) ⟨rfl, hPm⟩) rfl rfl hl.1 rfl (lv_room (Nat.le_of_ble_eq_true rfl)) dL_law_352 ⟨hcl, hsl⟩) hS (fun q _ h => mA_in hS hbx q h) (mA_in hS hbx) (fun rb d9 t9 H2 locs2 ht9 _ hmp hPm _ hk9 hS => ?_)
  rw [ht9] at hPm
  have hP := xw_keepM hab hP hk9
  have hPo := oW_keepM hbo hPo hk9
  have hrl := rl_credit hci.1.ok hci hpo hmp
  refine lv_istore (lv' := [(6, .int rb), (5, .int rk), (4, .int (nI (4 * t))), (3, .ref o), (2, .ref (bd 0)), (1, .ref (ad 0)), (0, .ref b)]) hx hb dL_law_355 hl (by decide) rfl (fun ls hl => ?_)
  refine lv_aload_n hx hb dL_law_357 rfl (lv_at hl 4 rfl) ?_
  refine ro_calli (va_runV (As := []) (rest := []) ⟨hx, hb, hml, hown, hts⟩ (cm_thrown l en bd d9) (cwV 0 hts gL_law_X5_thrown rfl rfl rfl (by decide +kernel) ⟨(Nat.le_of_ble_eq_true rfl), (Nat.le_of_ble_eq_true rfl)⟩) (ct_preV hE (va_recv hE.1 hPm (ci := 5) (q0 := 0) rfl rfl) hPm) rfl rfl hl.1 rfl (lv_room (Nat.le_of_ble_eq_true rfl)) dL_law_358 ⟨hcl, hsl⟩) (fun rt w9 => ?_)
  obtain rfl : rt = d9.1 0 0 := w9
  refine lv_iload hx hb dL_law_361 (lv_at hl 1 rfl) ?_
  refine lv_icmp_eq (tgt := 368) hx hb dL_law_363 (by decide) (fun _ => ?_) (fun bn => absurd hrl.1 bn)
  refine lv_iload hx hb dL_law_368 (lv_at hl 1 rfl) ?_
  refine lv_if_ne (tgt := 385) hx hb dL_law_370 (by decide) (fun hk0 => ?_) (fun hk0 => ?_)
  · skip
    refine lv_goto (tgt := 739) hx hb dL_law_385 (by decide) ?_
    obtain ⟨G9, hci9, hmci9⟩ := hrl.2.2
    exact K G9 _ _ _ _ _ _ hci9 hmci9 hP hPm hPo hS (lv_sub hl [2, 3, 4, 5, 6] rfl)
  · skip
    refine lv_aload_n hx hb dL_law_373 rfl (lv_at hl 3 rfl) ?_
    refine lv_iconst (v := 0) hx hb dL_law_374 (by decide) ?_
    refine va_lald hx hb hE.1 hPo 0 1 (n := 1) (f := u.2) (cA := en.2.2.1) rfl rfl (by unfold vp_in; decide) dL_law_375 ?_
    refine lv_topl (fun z_375 ez_375 => ?_)
    obtain rfl : z_375 = u.2 0 := ez_375.trans (by rw [sb_cl0])
    refine lv_iload hx hb dL_law_376 (lv_at hl 0 rfl) ?_
    refine lv_i2l (v := rb.toInt64) hx hb dL_law_378 rfl ?_
    refine W.lcmp hx hb dL_law_379 ?_
    refine lv_if_eq (tgt := 385) hx hb dL_law_380 (by decide) (fun _ => ?_) (fun bn => absurd ((lg_cmp_eq _ _).mpr (hrl.2.1 hk0)) bn)
    refine lv_goto (tgt := 739) hx hb dL_law_385 (by decide) ?_
    obtain ⟨G9, hci9, hmci9⟩ := hrl.2.2
    exact K G9 _ _ _ _ _ _ hci9 hmci9 hP hPm hPo hS (lv_sub hl [2, 3, 4, 5, 6] rfl)
set_option maxHeartbeats 4000000 in
set_option maxRecDepth 100000 in
theorem law_reaches {p : Program} {e : Env} {s : State} {m : MethodId} {below : List Frame} {meth : Method} {co : Code} {l : Launch} {b L : Nat} {xs : Nat → Int32} {en : en_T} {ad bd : Nat → Nat} {o : Nat} (X0 : lx p s m meth co b L xs l en ad bd o) (t : Nat) (ht : 4 * t + 4 ≤ L) (hL : L ≤ 2048) {G : gr_T} {c : Nat → Nat → Int32} {d : mT} {f : Nat → Int64} (hci : ci G c) (hmci : mci G d) {H : Heap} {locs : List Loc} (hP : va_P en.1 vwCl (xw en ad c) H) (hPm : va_P en.1 vwCl (mw en bd d) H) (hPo : va_P en.1 vwCl (oW en o f) H) (hS : va_S (fun q => s.heap.size ≤ q) s.heap H locs) {cells slots : Nat} (hcl : cells + 4 ≤ 647528) (hsl : slots + 24 ≤ 7153520) {Q : State → Prop}
    (K : ∀ (G : gr_T) (c : Nat → Nat → Int32) (d : mT) (f : Nat → Int64) (H : Heap) (locs : List Loc) (ls : Array Slot), ci G c → mci G d → va_P en.1 vwCl (xw en ad c) H → va_P en.1 vwCl (mw en bd d) H → va_P en.1 vwCl (oW en o f) H → va_S (fun q => s.heap.size ≤ q) s.heap H locs → lv_has ls 7 [(4, .int (nI (4 * t))), (3, .ref o), (2, .ref (bd 0)), (1, .ref (ad 0)), (0, .ref b)] → W p l e room_1 s m #[Value.ref b] below meth co H locs (cells + 4) (slots + 24) Q (F0 m 739 ls []))
    {ls : Array Slot} (hl : lv_has ls 7 [(4, .int (nI (4 * t))), (3, .ref o), (2, .ref (bd 0)), (1, .ref (ad 0)), (0, .ref b)]) : W p l e room_1 s m #[Value.ref b] below meth co H locs cells slots Q (F0 m 388 ls []) := by
  obtain ⟨⟨hx, hb, hr, hml, hown, hts0, hX, hbl, hlocks, hgv⟩, hlt, hE, hT0, hN, hIx, hIm, hax, hbx, hox, hab, hao, hbo⟩ := id X0
  have hts : ∀ w ∈ wsL_law, w.before #[Value.ref b] s = true := fun w h => hts0 w (wsL_law_in w h)
  have hown : s.vm.findClass RL = some m.cls := hown
  have hbA : ¬ (fun q : Nat => s.heap.size ≤ q) b := Nat.not_le.mpr hbl
  have hT := tx_at hT0 hS hax
  refine lv_aload_n hx hb dL_law_388 rfl (lv_at hl 3 rfl) ?_
  refine lv_aload_n hx hb dL_law_389 rfl (lv_at hl 4 rfl) ?_
  refine lv_iload hx hb dL_law_390 (lv_at hl 0 rfl) ?_
  refine lv_iconst (v := (nI 1)) hx hb dL_law_392 (by decide) ?_
  refine lv_iadd hx hb dL_law_393 ?_
  refine lv_topi (fun z_393 ez_393 => ?_)
  obtain rfl : z_393 = nI (4 * t + 1) := ez_393.trans (nI_pk _ _)
  refine va_sld hx hb hX hbl hbA hS (vp_in_nI (n := 4 * t + 1) (by omega) (by omega)) dL_law_394 ?_
  refine lv_topi (fun z_394 ez_394 => ?_)
  obtain rfl : z_394 = xs (4 * t + 1) := ez_394.trans (by rw [nI_clamp (by omega)])
  refine lv_aload_n hx hb dL_law_395 rfl (lv_at hl 4 rfl) ?_
  refine lv_iload hx hb dL_law_396 (lv_at hl 0 rfl) ?_
  refine lv_iconst (v := (nI 2)) hx hb dL_law_398 (by decide) ?_
  refine lv_iadd hx hb dL_law_399 ?_
  refine lv_topi (fun z_399 ez_399 => ?_)
  obtain rfl : z_399 = nI (4 * t + 2) := ez_399.trans (nI_pk _ _)
  refine va_sld hx hb hX hbl hbA hS (vp_in_nI (n := 4 * t + 2) (by omega) (by omega)) dL_law_400 ?_
  refine lv_topi (fun z_400 ez_400 => ?_)
  obtain rfl : z_400 = xs (4 * t + 2) := ez_400.trans (by rw [nI_clamp (by omega)])
  refine lv_aload_n hx hb dL_law_401 rfl (lv_at hl 4 rfl) ?_
  refine lv_iload hx hb dL_law_402 (lv_at hl 0 rfl) ?_
  refine lv_iconst (v := (nI 3)) hx hb dL_law_404 (by decide) ?_
  refine lv_iadd hx hb dL_law_405 ?_
  refine lv_topi (fun z_405 ez_405 => ?_)
  obtain rfl : z_405 = nI (4 * t + 3) := ez_405.trans (nI_pk _ _)
  refine va_sld hx hb hX hbl hbA hS (vp_in_nI (n := 4 * t + 3) (by omega) (by omega)) dL_law_406 ?_
  refine lv_topi (fun z_406 ez_406 => ?_)
  obtain rfl : z_406 = xs (4 * t + 3) := ez_406.trans (by rw [nI_clamp (by omega)])
  refine lv_aload_n hx hb dL_law_407 rfl (lv_at hl 1 rfl) ?_
  refine va_calli (vx_runSW (As := [.ref (ad 0), .int (xs (4 * t + 1)), .int (xs (4 * t + 2)), .int (xs (4 * t + 3)), .ref o]) (rest := []) ⟨hx, hb, hml, hown, hts⟩ (lc_reaches l hlt en ad c hIx o f hao _ hci (xs (4 * t + 1)) (xs (4 * t + 2)) (xs (4 * t + 3))) (vx_cwSW 5 hts gL_law_L_reaches rfl rfl rfl (by decide +kernel) ⟨(Nat.le_of_ble_eq_true rfl), (Nat.le_of_ble_eq_true rfl)⟩) (wp_preS hE hT hN ⟨hP, hPo⟩) rfl rfl hl.1 rfl (lv_room (Nat.le_of_ble_eq_true rfl)) dL_law_408 ⟨hcl, hsl⟩) hS (fun q _ h => wA_in hS hax hox q h) (wA_in hS hax hox) (fun rk u t9 H1 locs1 ht9 _ hpo hB9 _ hk9 hS => ?_)
  obtain ⟨hP, hPo⟩ := hB9
  rw [ht9] at hP hPo
  have hPm := mw_keep hab hbo hPm hk9
  refine lv_istore (lv' := [(5, .int rk), (4, .int (nI (4 * t))), (3, .ref o), (2, .ref (bd 0)), (1, .ref (ad 0)), (0, .ref b)]) hx hb dL_law_411 hl (by decide) rfl (fun ls hl => ?_)
  refine lv_aload_n hx hb dL_law_413 rfl (lv_at hl 3 rfl) ?_
  refine lv_aload_n hx hb dL_law_414 rfl (lv_at hl 5 rfl) ?_
  refine lv_iload hx hb dL_law_415 (lv_at hl 1 rfl) ?_
  refine lv_iconst (v := (nI 1)) hx hb dL_law_417 (by decide) ?_
  refine lv_iadd hx hb dL_law_418 ?_
  refine lv_topi (fun z_418 ez_418 => ?_)
  obtain rfl : z_418 = nI (4 * t + 1) := ez_418.trans (nI_pk _ _)
  refine va_sld hx hb hX hbl hbA hS (vp_in_nI (n := 4 * t + 1) (by omega) (by omega)) dL_law_419 ?_
  refine lv_topi (fun z_419 ez_419 => ?_)
  obtain rfl : z_419 = xs (4 * t + 1) := ez_419.trans (by rw [nI_clamp (by omega)])
  refine lv_aload_n hx hb dL_law_420 rfl (lv_at hl 5 rfl) ?_
  refine lv_iload hx hb dL_law_421 (lv_at hl 1 rfl) ?_
  refine lv_iconst (v := (nI 2)) hx hb dL_law_423 (by decide) ?_
  refine lv_iadd hx hb dL_law_424 ?_
  refine lv_topi (fun z_424 ez_424 => ?_)
  obtain rfl : z_424 = nI (4 * t + 2) := ez_424.trans (nI_pk _ _)
  refine va_sld hx hb hX hbl hbA hS (vp_in_nI (n := 4 * t + 2) (by omega) (by omega)) dL_law_425 ?_
  refine lv_topi (fun z_425 ez_425 => ?_)
  obtain rfl : z_425 = xs (4 * t + 2) := ez_425.trans (by rw [nI_clamp (by omega)])
  refine lv_aload_n hx hb dL_law_426 rfl (lv_at hl 5 rfl) ?_
  refine lv_iload hx hb dL_law_427 (lv_at hl 1 rfl) ?_
  refine lv_iconst (v := (nI 3)) hx hb dL_law_429 (by decide) ?_
  refine lv_iadd hx hb dL_law_430 ?_
  refine lv_topi (fun z_430 ez_430 => ?_)
  obtain rfl : z_430 = nI (4 * t + 3) := ez_430.trans (nI_pk _ _)
  refine va_sld hx hb hX hbl hbA hS (vp_in_nI (n := 4 * t + 3) (by omega) (by omega)) dL_law_431 ?_
  refine lv_topi (fun z_431 ez_431 => ?_)
  obtain rfl : z_431 = xs (4 * t + 3) := ez_431.trans (by rw [nI_clamp (by omega)])
  refine va_calli (va_runV (As := [.int (xs (4 * t + 1)), .int (xs (4 * t + 2)), .int (xs (4 * t + 3))]) (rest := []) ⟨hx, hb, hml, hown, hts⟩ (cm_reaches l en bd d hIm _ hmci (xs (4 * t + 1)) (xs (4 * t + 2)) (xs (4 * t + 3))) (cwV 3 hts gL_law_X5_reaches rfl rfl rfl (by decide +kernel) ⟨(Nat.le_of_ble_eq_true rfl), (Nat.le_of_ble_eq_true rfl)⟩) (ct_preV hE (va_recv hE.1 hPm (ci := 5) (q0 := 0) rfl rfl) ⟨rfl, hPm⟩) rfl rfl hl.1 rfl (lv_room (Nat.le_of_ble_eq_true rfl)) dL_law_432 ⟨hcl, hsl⟩) hS (fun q _ h => mA_in hS hbx q h) (mA_in hS hbx) (fun rb d9 t9 H2 locs2 ht9 _ hmp hPm _ hk9 hS => ?_)
  rw [ht9] at hPm
  have hP := xw_keepM hab hP hk9
  have hPo := oW_keepM hbo hPo hk9
  have hrl := rl_reaches hci.1.ok hci hpo hmp
  refine lv_istore (lv' := [(6, .int rb), (5, .int rk), (4, .int (nI (4 * t))), (3, .ref o), (2, .ref (bd 0)), (1, .ref (ad 0)), (0, .ref b)]) hx hb dL_law_435 hl (by decide) rfl (fun ls hl => ?_)
  refine lv_aload_n hx hb dL_law_437 rfl (lv_at hl 4 rfl) ?_
  refine ro_calli (va_runV (As := []) (rest := []) ⟨hx, hb, hml, hown, hts⟩ (cm_thrown l en bd d9) (cwV 0 hts gL_law_X5_thrown rfl rfl rfl (by decide +kernel) ⟨(Nat.le_of_ble_eq_true rfl), (Nat.le_of_ble_eq_true rfl)⟩) (ct_preV hE (va_recv hE.1 hPm (ci := 5) (q0 := 0) rfl rfl) hPm) rfl rfl hl.1 rfl (lv_room (Nat.le_of_ble_eq_true rfl)) dL_law_438 ⟨hcl, hsl⟩) (fun rt w9 => ?_)
  obtain rfl : rt = d9.1 0 0 := w9
  refine lv_iload hx hb dL_law_441 (lv_at hl 1 rfl) ?_
  refine lv_icmp_eq (tgt := 448) hx hb dL_law_443 (by decide) (fun _ => ?_) (fun bn => absurd hrl.1 bn)
  refine lv_iload hx hb dL_law_448 (lv_at hl 1 rfl) ?_
  refine lv_if_ne (tgt := 472) hx hb dL_law_450 (by decide) (fun hk0 => ?_) (fun hk0 => ?_)
  · skip
    refine lv_goto (tgt := 739) hx hb dL_law_472 (by decide) ?_
    obtain ⟨G9, hci9, hmci9⟩ := hrl.2.2
    exact K G9 _ _ _ _ _ _ hci9 hmci9 hP hPm hPo hS (lv_sub hl [2, 3, 4, 5, 6] rfl)
  · skip
    refine lv_aload_n hx hb dL_law_453 rfl (lv_at hl 3 rfl) ?_
    refine lv_iconst (v := 0) hx hb dL_law_454 (by decide) ?_
    refine va_lald hx hb hE.1 hPo 0 1 (n := 1) (f := u.2) (cA := en.2.2.1) rfl rfl (by unfold vp_in; decide) dL_law_455 ?_
    refine lv_topl (fun z_455 ez_455 => ?_)
    obtain rfl : z_455 = u.2 0 := ez_455.trans (by rw [sb_cl0])
    refine lv_iload hx hb dL_law_456 (lv_at hl 0 rfl) ?_
    refine lv_if_eq (tgt := 465) hx hb dL_law_458 (by decide) (fun hb0 => ?_) (fun hb0 => ?_)
    · skip
      refine lv_lconst (v := 0) hx hb dL_law_465 (by decide) ?_
      refine W.lcmp hx hb dL_law_466 ?_
      refine lv_if_eq (tgt := 472) hx hb dL_law_467 (by decide) (fun _ => ?_) (fun bn => absurd ((lg_cmp_eq _ _).mpr ((hrl.2.1 hk0).1 hb0)) bn)
      refine lv_goto (tgt := 739) hx hb dL_law_472 (by decide) ?_
      obtain ⟨G9, hci9, hmci9⟩ := hrl.2.2
      exact K G9 _ _ _ _ _ _ hci9 hmci9 hP hPm hPo hS (lv_sub hl [2, 3, 4, 5, 6] rfl)
    · skip
      refine lv_lconst (v := 1) hx hb dL_law_461 (by decide) ?_
      refine lv_goto (tgt := 466) hx hb dL_law_462 (by decide) ?_
      refine W.lcmp hx hb dL_law_466 ?_
      refine lv_if_eq (tgt := 472) hx hb dL_law_467 (by decide) (fun _ => ?_) (fun bn => absurd ((lg_cmp_eq _ _).mpr ((hrl.2.1 hk0).2 hb0)) bn)
      refine lv_goto (tgt := 739) hx hb dL_law_472 (by decide) ?_
      obtain ⟨G9, hci9, hmci9⟩ := hrl.2.2
      exact K G9 _ _ _ _ _ _ hci9 hmci9 hP hPm hPo hS (lv_sub hl [2, 3, 4, 5, 6] rfl)
set_option maxHeartbeats 4000000 in
set_option maxRecDepth 100000 in
theorem law_value {p : Program} {e : Env} {s : State} {m : MethodId} {below : List Frame} {meth : Method} {co : Code} {l : Launch} {b L : Nat} {xs : Nat → Int32} {en : en_T} {ad bd : Nat → Nat} {o : Nat} (X0 : lx p s m meth co b L xs l en ad bd o) (t : Nat) (ht : 4 * t + 4 ≤ L) (hL : L ≤ 2048) {G : gr_T} {c : Nat → Nat → Int32} {d : mT} {f : Nat → Int64} (hci : ci G c) (hmci : mci G d) {H : Heap} {locs : List Loc} (hP : va_P en.1 vwCl (xw en ad c) H) (hPm : va_P en.1 vwCl (mw en bd d) H) (hPo : va_P en.1 vwCl (oW en o f) H) (hS : va_S (fun q => s.heap.size ≤ q) s.heap H locs) {cells slots : Nat} (hcl : cells + 4 ≤ 647528) (hsl : slots + 24 ≤ 7153520) {Q : State → Prop}
    (K : ∀ (G : gr_T) (c : Nat → Nat → Int32) (d : mT) (f : Nat → Int64) (H : Heap) (locs : List Loc) (ls : Array Slot), ci G c → mci G d → va_P en.1 vwCl (xw en ad c) H → va_P en.1 vwCl (mw en bd d) H → va_P en.1 vwCl (oW en o f) H → va_S (fun q => s.heap.size ≤ q) s.heap H locs → lv_has ls 7 [(4, .int (nI (4 * t))), (3, .ref o), (2, .ref (bd 0)), (1, .ref (ad 0)), (0, .ref b)] → W p l e room_1 s m #[Value.ref b] below meth co H locs (cells + 4) (slots + 24) Q (F0 m 739 ls []))
    {ls : Array Slot} (hl : lv_has ls 7 [(4, .int (nI (4 * t))), (3, .ref o), (2, .ref (bd 0)), (1, .ref (ad 0)), (0, .ref b)]) : W p l e room_1 s m #[Value.ref b] below meth co H locs cells slots Q (F0 m 475 ls []) := by
  obtain ⟨⟨hx, hb, hr, hml, hown, hts0, hX, hbl, hlocks, hgv⟩, hlt, hE, hT0, hN, hIx, hIm, hax, hbx, hox, hab, hao, hbo⟩ := id X0
  have hts : ∀ w ∈ wsL_law, w.before #[Value.ref b] s = true := fun w h => hts0 w (wsL_law_in w h)
  have hown : s.vm.findClass RL = some m.cls := hown
  have hbA : ¬ (fun q : Nat => s.heap.size ≤ q) b := Nat.not_le.mpr hbl
  have hT := tx_at hT0 hS hax
  refine lv_aload_n hx hb dL_law_475 rfl (lv_at hl 3 rfl) ?_
  refine lv_aload_n hx hb dL_law_476 rfl (lv_at hl 4 rfl) ?_
  refine lv_iload hx hb dL_law_477 (lv_at hl 0 rfl) ?_
  refine lv_iconst (v := (nI 1)) hx hb dL_law_479 (by decide) ?_
  refine lv_iadd hx hb dL_law_480 ?_
  refine lv_topi (fun z_480 ez_480 => ?_)
  obtain rfl : z_480 = nI (4 * t + 1) := ez_480.trans (nI_pk _ _)
  refine va_sld hx hb hX hbl hbA hS (vp_in_nI (n := 4 * t + 1) (by omega) (by omega)) dL_law_481 ?_
  refine lv_topi (fun z_481 ez_481 => ?_)
  obtain rfl : z_481 = xs (4 * t + 1) := ez_481.trans (by rw [nI_clamp (by omega)])
  refine lv_aload_n hx hb dL_law_482 rfl (lv_at hl 4 rfl) ?_
  refine lv_iload hx hb dL_law_483 (lv_at hl 0 rfl) ?_
  refine lv_iconst (v := (nI 2)) hx hb dL_law_485 (by decide) ?_
  refine lv_iadd hx hb dL_law_486 ?_
  refine lv_topi (fun z_486 ez_486 => ?_)
  obtain rfl : z_486 = nI (4 * t + 2) := ez_486.trans (nI_pk _ _)
  refine va_sld hx hb hX hbl hbA hS (vp_in_nI (n := 4 * t + 2) (by omega) (by omega)) dL_law_487 ?_
  refine lv_topi (fun z_487 ez_487 => ?_)
  obtain rfl : z_487 = xs (4 * t + 2) := ez_487.trans (by rw [nI_clamp (by omega)])
  refine lv_if_eq (tgt := 495) hx hb dL_law_488 (by decide) (fun hv0 => ?_) (fun hv0 => ?_)
  · skip
    refine lv_iconst (v := 0) hx hb dL_law_495 (by decide) ?_
    refine lv_aload_n hx hb dL_law_496 rfl (lv_at hl 1 rfl) ?_
    refine va_calli (vx_runSW (As := [.ref (ad 0), .int (xs (4 * t + 1)), .int 0, .ref o]) (rest := []) ⟨hx, hb, hml, hown, hts⟩ (lc_value l hlt en ad c hIx o f hao _ hci (xs (4 * t + 1)) 0) (vx_cwSW 4 hts gL_law_L_value rfl rfl rfl (by decide +kernel) ⟨(Nat.le_of_ble_eq_true rfl), (Nat.le_of_ble_eq_true rfl)⟩) (wp_preS hE hT hN ⟨hP, hPo⟩) rfl rfl hl.1 rfl (lv_room (Nat.le_of_ble_eq_true rfl)) dL_law_497 ⟨hcl, hsl⟩) hS (fun q _ h => wA_in hS hax hox q h) (wA_in hS hax hox) (fun rk u t9 H1 locs1 ht9 _ hpo hB9 _ hk9 hS => ?_)
    obtain ⟨hP, hPo⟩ := hB9
    rw [ht9] at hP hPo
    have hPm := mw_keep hab hbo hPm hk9
    refine lv_istore (lv' := [(5, .int rk), (4, .int (nI (4 * t))), (3, .ref o), (2, .ref (bd 0)), (1, .ref (ad 0)), (0, .ref b)]) hx hb dL_law_500 hl (by decide) rfl (fun ls hl => ?_)
    refine lv_aload_n hx hb dL_law_502 rfl (lv_at hl 3 rfl) ?_
    refine lv_aload_n hx hb dL_law_503 rfl (lv_at hl 5 rfl) ?_
    refine lv_iload hx hb dL_law_504 (lv_at hl 1 rfl) ?_
    refine lv_iconst (v := (nI 1)) hx hb dL_law_506 (by decide) ?_
    refine lv_iadd hx hb dL_law_507 ?_
    refine lv_topi (fun z_507 ez_507 => ?_)
    obtain rfl : z_507 = nI (4 * t + 1) := ez_507.trans (nI_pk _ _)
    refine va_sld hx hb hX hbl hbA hS (vp_in_nI (n := 4 * t + 1) (by omega) (by omega)) dL_law_508 ?_
    refine lv_topi (fun z_508 ez_508 => ?_)
    obtain rfl : z_508 = xs (4 * t + 1) := ez_508.trans (by rw [nI_clamp (by omega)])
    refine lv_aload_n hx hb dL_law_509 rfl (lv_at hl 5 rfl) ?_
    refine lv_iload hx hb dL_law_510 (lv_at hl 1 rfl) ?_
    refine lv_iconst (v := (nI 2)) hx hb dL_law_512 (by decide) ?_
    refine lv_iadd hx hb dL_law_513 ?_
    refine lv_topi (fun z_513 ez_513 => ?_)
    obtain rfl : z_513 = nI (4 * t + 2) := ez_513.trans (nI_pk _ _)
    refine va_sld hx hb hX hbl hbA hS (vp_in_nI (n := 4 * t + 2) (by omega) (by omega)) dL_law_514 ?_
    refine lv_topi (fun z_514 ez_514 => ?_)
    obtain rfl : z_514 = xs (4 * t + 2) := ez_514.trans (by rw [nI_clamp (by omega)])
    refine lv_if_eq (tgt := 522) hx hb dL_law_515 (by decide) (fun _ => ?_) (fun bn => absurd hv0 bn)
    refine lv_iconst (v := 0) hx hb dL_law_522 (by decide) ?_
    refine va_calli (va_runV (As := [.int (xs (4 * t + 1)), .int 0]) (rest := []) ⟨hx, hb, hml, hown, hts⟩ (cm_value l en bd d hIm _ hmci (xs (4 * t + 1)) 0) (cwV 2 hts gL_law_X5_value rfl rfl rfl (by decide +kernel) ⟨(Nat.le_of_ble_eq_true rfl), (Nat.le_of_ble_eq_true rfl)⟩) (ct_preV hE (va_recv hE.1 hPm (ci := 5) (q0 := 0) rfl rfl) ⟨rfl, hPm⟩) rfl rfl hl.1 rfl (lv_room (Nat.le_of_ble_eq_true rfl)) dL_law_523 ⟨hcl, hsl⟩) hS (fun q _ h => mA_in hS hbx q h) (mA_in hS hbx) (fun rb d9 t9 H2 locs2 ht9 _ hmp hPm _ hk9 hS => ?_)
    rw [ht9] at hPm
    have hP := xw_keepM hab hP hk9
    have hPo := oW_keepM hbo hPo hk9
    have hrl := rl_value hci.1.ok hci hpo hmp
    refine lv_istore (lv' := [(6, .int rb), (5, .int rk), (4, .int (nI (4 * t))), (3, .ref o), (2, .ref (bd 0)), (1, .ref (ad 0)), (0, .ref b)]) hx hb dL_law_526 hl (by decide) rfl (fun ls hl => ?_)
    refine lv_aload_n hx hb dL_law_528 rfl (lv_at hl 4 rfl) ?_
    refine ro_calli (va_runV (As := []) (rest := []) ⟨hx, hb, hml, hown, hts⟩ (cm_thrown l en bd d9) (cwV 0 hts gL_law_X5_thrown rfl rfl rfl (by decide +kernel) ⟨(Nat.le_of_ble_eq_true rfl), (Nat.le_of_ble_eq_true rfl)⟩) (ct_preV hE (va_recv hE.1 hPm (ci := 5) (q0 := 0) rfl rfl) hPm) rfl rfl hl.1 rfl (lv_room (Nat.le_of_ble_eq_true rfl)) dL_law_529 ⟨hcl, hsl⟩) (fun rt w9 => ?_)
    obtain rfl : rt = d9.1 0 0 := w9
    refine lv_iload hx hb dL_law_532 (lv_at hl 1 rfl) ?_
    refine lv_icmp_eq (tgt := 539) hx hb dL_law_534 (by decide) (fun _ => ?_) (fun bn => absurd hrl.1 bn)
    refine lv_iload hx hb dL_law_539 (lv_at hl 1 rfl) ?_
    refine lv_if_ne (tgt := 556) hx hb dL_law_541 (by decide) (fun hk0 => ?_) (fun hk0 => ?_)
    · skip
      refine lv_goto (tgt := 739) hx hb dL_law_556 (by decide) ?_
      obtain ⟨G9, hci9, hmci9⟩ := hrl.2.2
      exact K G9 _ _ _ _ _ _ hci9 hmci9 hP hPm hPo hS (lv_sub hl [2, 3, 4, 5, 6] rfl)
    · skip
      refine lv_aload_n hx hb dL_law_544 rfl (lv_at hl 3 rfl) ?_
      refine lv_iconst (v := 0) hx hb dL_law_545 (by decide) ?_
      refine va_lald hx hb hE.1 hPo 0 1 (n := 1) (f := u.2) (cA := en.2.2.1) rfl rfl (by unfold vp_in; decide) dL_law_546 ?_
      refine lv_topl (fun z_546 ez_546 => ?_)
      obtain rfl : z_546 = u.2 0 := ez_546.trans (by rw [sb_cl0])
      refine lv_iload hx hb dL_law_547 (lv_at hl 0 rfl) ?_
      refine lv_i2l (v := rb.toInt64) hx hb dL_law_549 rfl ?_
      refine W.lcmp hx hb dL_law_550 ?_
      refine lv_if_eq (tgt := 556) hx hb dL_law_551 (by decide) (fun _ => ?_) (fun bn => absurd ((lg_cmp_eq _ _).mpr (hrl.2.1 hk0)) bn)
      refine lv_goto (tgt := 739) hx hb dL_law_556 (by decide) ?_
      obtain ⟨G9, hci9, hmci9⟩ := hrl.2.2
      exact K G9 _ _ _ _ _ _ hci9 hmci9 hP hPm hPo hS (lv_sub hl [2, 3, 4, 5, 6] rfl)
  · skip
    refine lv_iconst (v := 1) hx hb dL_law_491 (by decide) ?_
    refine lv_goto (tgt := 496) hx hb dL_law_492 (by decide) ?_
    refine lv_aload_n hx hb dL_law_496 rfl (lv_at hl 1 rfl) ?_
    refine va_calli (vx_runSW (As := [.ref (ad 0), .int (xs (4 * t + 1)), .int 1, .ref o]) (rest := []) ⟨hx, hb, hml, hown, hts⟩ (lc_value l hlt en ad c hIx o f hao _ hci (xs (4 * t + 1)) 1) (vx_cwSW 4 hts gL_law_L_value rfl rfl rfl (by decide +kernel) ⟨(Nat.le_of_ble_eq_true rfl), (Nat.le_of_ble_eq_true rfl)⟩) (wp_preS hE hT hN ⟨hP, hPo⟩) rfl rfl hl.1 rfl (lv_room (Nat.le_of_ble_eq_true rfl)) dL_law_497 ⟨hcl, hsl⟩) hS (fun q _ h => wA_in hS hax hox q h) (wA_in hS hax hox) (fun rk u t9 H1 locs1 ht9 _ hpo hB9 _ hk9 hS => ?_)
    obtain ⟨hP, hPo⟩ := hB9
    rw [ht9] at hP hPo
    have hPm := mw_keep hab hbo hPm hk9
    refine lv_istore (lv' := [(5, .int rk), (4, .int (nI (4 * t))), (3, .ref o), (2, .ref (bd 0)), (1, .ref (ad 0)), (0, .ref b)]) hx hb dL_law_500 hl (by decide) rfl (fun ls hl => ?_)
    refine lv_aload_n hx hb dL_law_502 rfl (lv_at hl 3 rfl) ?_
    refine lv_aload_n hx hb dL_law_503 rfl (lv_at hl 5 rfl) ?_
    refine lv_iload hx hb dL_law_504 (lv_at hl 1 rfl) ?_
    refine lv_iconst (v := (nI 1)) hx hb dL_law_506 (by decide) ?_
    refine lv_iadd hx hb dL_law_507 ?_
    refine lv_topi (fun z_507 ez_507 => ?_)
    obtain rfl : z_507 = nI (4 * t + 1) := ez_507.trans (nI_pk _ _)
    refine va_sld hx hb hX hbl hbA hS (vp_in_nI (n := 4 * t + 1) (by omega) (by omega)) dL_law_508 ?_
    refine lv_topi (fun z_508 ez_508 => ?_)
    obtain rfl : z_508 = xs (4 * t + 1) := ez_508.trans (by rw [nI_clamp (by omega)])
    refine lv_aload_n hx hb dL_law_509 rfl (lv_at hl 5 rfl) ?_
    refine lv_iload hx hb dL_law_510 (lv_at hl 1 rfl) ?_
    refine lv_iconst (v := (nI 2)) hx hb dL_law_512 (by decide) ?_
    refine lv_iadd hx hb dL_law_513 ?_
    refine lv_topi (fun z_513 ez_513 => ?_)
    obtain rfl : z_513 = nI (4 * t + 2) := ez_513.trans (nI_pk _ _)
    refine va_sld hx hb hX hbl hbA hS (vp_in_nI (n := 4 * t + 2) (by omega) (by omega)) dL_law_514 ?_
    refine lv_topi (fun z_514 ez_514 => ?_)
    obtain rfl : z_514 = xs (4 * t + 2) := ez_514.trans (by rw [nI_clamp (by omega)])
    refine lv_if_eq (tgt := 522) hx hb dL_law_515 (by decide) (fun bn => absurd bn hv0) (fun _ => ?_)
    refine lv_iconst (v := 1) hx hb dL_law_518 (by decide) ?_
    refine lv_goto (tgt := 523) hx hb dL_law_519 (by decide) ?_
    refine va_calli (va_runV (As := [.int (xs (4 * t + 1)), .int 1]) (rest := []) ⟨hx, hb, hml, hown, hts⟩ (cm_value l en bd d hIm _ hmci (xs (4 * t + 1)) 1) (cwV 2 hts gL_law_X5_value rfl rfl rfl (by decide +kernel) ⟨(Nat.le_of_ble_eq_true rfl), (Nat.le_of_ble_eq_true rfl)⟩) (ct_preV hE (va_recv hE.1 hPm (ci := 5) (q0 := 0) rfl rfl) ⟨rfl, hPm⟩) rfl rfl hl.1 rfl (lv_room (Nat.le_of_ble_eq_true rfl)) dL_law_523 ⟨hcl, hsl⟩) hS (fun q _ h => mA_in hS hbx q h) (mA_in hS hbx) (fun rb d9 t9 H2 locs2 ht9 _ hmp hPm _ hk9 hS => ?_)
    rw [ht9] at hPm
    have hP := xw_keepM hab hP hk9
    have hPo := oW_keepM hbo hPo hk9
    have hrl := rl_value hci.1.ok hci hpo hmp
    refine lv_istore (lv' := [(6, .int rb), (5, .int rk), (4, .int (nI (4 * t))), (3, .ref o), (2, .ref (bd 0)), (1, .ref (ad 0)), (0, .ref b)]) hx hb dL_law_526 hl (by decide) rfl (fun ls hl => ?_)
    refine lv_aload_n hx hb dL_law_528 rfl (lv_at hl 4 rfl) ?_
    refine ro_calli (va_runV (As := []) (rest := []) ⟨hx, hb, hml, hown, hts⟩ (cm_thrown l en bd d9) (cwV 0 hts gL_law_X5_thrown rfl rfl rfl (by decide +kernel) ⟨(Nat.le_of_ble_eq_true rfl), (Nat.le_of_ble_eq_true rfl)⟩) (ct_preV hE (va_recv hE.1 hPm (ci := 5) (q0 := 0) rfl rfl) hPm) rfl rfl hl.1 rfl (lv_room (Nat.le_of_ble_eq_true rfl)) dL_law_529 ⟨hcl, hsl⟩) (fun rt w9 => ?_)
    obtain rfl : rt = d9.1 0 0 := w9
    refine lv_iload hx hb dL_law_532 (lv_at hl 1 rfl) ?_
    refine lv_icmp_eq (tgt := 539) hx hb dL_law_534 (by decide) (fun _ => ?_) (fun bn => absurd hrl.1 bn)
    refine lv_iload hx hb dL_law_539 (lv_at hl 1 rfl) ?_
    refine lv_if_ne (tgt := 556) hx hb dL_law_541 (by decide) (fun hk0 => ?_) (fun hk0 => ?_)
    · skip
      refine lv_goto (tgt := 739) hx hb dL_law_556 (by decide) ?_
      obtain ⟨G9, hci9, hmci9⟩ := hrl.2.2
      exact K G9 _ _ _ _ _ _ hci9 hmci9 hP hPm hPo hS (lv_sub hl [2, 3, 4, 5, 6] rfl)
    · skip
      refine lv_aload_n hx hb dL_law_544 rfl (lv_at hl 3 rfl) ?_
      refine lv_iconst (v := 0) hx hb dL_law_545 (by decide) ?_
      refine va_lald hx hb hE.1 hPo 0 1 (n := 1) (f := u.2) (cA := en.2.2.1) rfl rfl (by unfold vp_in; decide) dL_law_546 ?_
      refine lv_topl (fun z_546 ez_546 => ?_)
      obtain rfl : z_546 = u.2 0 := ez_546.trans (by rw [sb_cl0])
      refine lv_iload hx hb dL_law_547 (lv_at hl 0 rfl) ?_
      refine lv_i2l (v := rb.toInt64) hx hb dL_law_549 rfl ?_
      refine W.lcmp hx hb dL_law_550 ?_
      refine lv_if_eq (tgt := 556) hx hb dL_law_551 (by decide) (fun _ => ?_) (fun bn => absurd ((lg_cmp_eq _ _).mpr (hrl.2.1 hk0)) bn)
      refine lv_goto (tgt := 739) hx hb dL_law_556 (by decide) ?_
      obtain ⟨G9, hci9, hmci9⟩ := hrl.2.2
      exact K G9 _ _ _ _ _ _ hci9 hmci9 hP hPm hPo hS (lv_sub hl [2, 3, 4, 5, 6] rfl)
set_option maxHeartbeats 4000000 in
set_option maxRecDepth 100000 in
theorem law_best {p : Program} {e : Env} {s : State} {m : MethodId} {below : List Frame} {meth : Method} {co : Code} {l : Launch} {b L : Nat} {xs : Nat → Int32} {en : en_T} {ad bd : Nat → Nat} {o : Nat} (X0 : lx p s m meth co b L xs l en ad bd o) (t : Nat) (ht : 4 * t + 4 ≤ L) (hL : L ≤ 2048) {G : gr_T} {c : Nat → Nat → Int32} {d : mT} {f : Nat → Int64} (hci : ci G c) (hmci : mci G d) {H : Heap} {locs : List Loc} (hP : va_P en.1 vwCl (xw en ad c) H) (hPm : va_P en.1 vwCl (mw en bd d) H) (hPo : va_P en.1 vwCl (oW en o f) H) (hS : va_S (fun q => s.heap.size ≤ q) s.heap H locs) {cells slots : Nat} (hcl : cells + 4 ≤ 647528) (hsl : slots + 24 ≤ 7153520) {Q : State → Prop}
    (K : ∀ (G : gr_T) (c : Nat → Nat → Int32) (d : mT) (f : Nat → Int64) (H : Heap) (locs : List Loc) (ls : Array Slot), ci G c → mci G d → va_P en.1 vwCl (xw en ad c) H → va_P en.1 vwCl (mw en bd d) H → va_P en.1 vwCl (oW en o f) H → va_S (fun q => s.heap.size ≤ q) s.heap H locs → lv_has ls 7 [(4, .int (nI (4 * t))), (3, .ref o), (2, .ref (bd 0)), (1, .ref (ad 0)), (0, .ref b)] → W p l e room_1 s m #[Value.ref b] below meth co H locs (cells + 4) (slots + 24) Q (F0 m 739 ls []))
    {ls : Array Slot} (hl : lv_has ls 7 [(4, .int (nI (4 * t))), (3, .ref o), (2, .ref (bd 0)), (1, .ref (ad 0)), (0, .ref b)]) : W p l e room_1 s m #[Value.ref b] below meth co H locs cells slots Q (F0 m 559 ls []) := by
  obtain ⟨⟨hx, hb, hr, hml, hown, hts0, hX, hbl, hlocks, hgv⟩, hlt, hE, hT0, hN, hIx, hIm, hax, hbx, hox, hab, hao, hbo⟩ := id X0
  have hts : ∀ w ∈ wsL_law, w.before #[Value.ref b] s = true := fun w h => hts0 w (wsL_law_in w h)
  have hown : s.vm.findClass RL = some m.cls := hown
  have hbA : ¬ (fun q : Nat => s.heap.size ≤ q) b := Nat.not_le.mpr hbl
  have hT := tx_at hT0 hS hax
  refine lv_aload_n hx hb dL_law_559 rfl (lv_at hl 3 rfl) ?_
  refine lv_aload_n hx hb dL_law_560 rfl (lv_at hl 4 rfl) ?_
  refine lv_iload hx hb dL_law_561 (lv_at hl 0 rfl) ?_
  refine lv_iconst (v := (nI 1)) hx hb dL_law_563 (by decide) ?_
  refine lv_iadd hx hb dL_law_564 ?_
  refine lv_topi (fun z_564 ez_564 => ?_)
  obtain rfl : z_564 = nI (4 * t + 1) := ez_564.trans (nI_pk _ _)
  refine va_sld hx hb hX hbl hbA hS (vp_in_nI (n := 4 * t + 1) (by omega) (by omega)) dL_law_565 ?_
  refine lv_topi (fun z_565 ez_565 => ?_)
  obtain rfl : z_565 = xs (4 * t + 1) := ez_565.trans (by rw [nI_clamp (by omega)])
  refine lv_aload_n hx hb dL_law_566 rfl (lv_at hl 1 rfl) ?_
  refine va_calli (vx_runSW (As := [.ref (ad 0), .int (xs (4 * t + 1)), .ref o]) (rest := []) ⟨hx, hb, hml, hown, hts⟩ (lc_best l hlt en ad c hIx o f hao _ hci (xs (4 * t + 1))) (vx_cwSW 3 hts gL_law_L_best rfl rfl rfl (by decide +kernel) ⟨(Nat.le_of_ble_eq_true rfl), (Nat.le_of_ble_eq_true rfl)⟩) (wp_preS hE hT hN ⟨hP, hPo⟩) rfl rfl hl.1 rfl (lv_room (Nat.le_of_ble_eq_true rfl)) dL_law_567 ⟨hcl, hsl⟩) hS (fun q _ h => wA_in hS hax hox q h) (wA_in hS hax hox) (fun rk u t9 H1 locs1 ht9 _ hpo hB9 _ hk9 hS => ?_)
  obtain ⟨hP, hPo⟩ := hB9
  rw [ht9] at hP hPo
  have hPm := mw_keep hab hbo hPm hk9
  refine lv_istore (lv' := [(5, .int rk), (4, .int (nI (4 * t))), (3, .ref o), (2, .ref (bd 0)), (1, .ref (ad 0)), (0, .ref b)]) hx hb dL_law_570 hl (by decide) rfl (fun ls hl => ?_)
  refine lv_aload_n hx hb dL_law_572 rfl (lv_at hl 3 rfl) ?_
  refine lv_aload_n hx hb dL_law_573 rfl (lv_at hl 5 rfl) ?_
  refine lv_iload hx hb dL_law_574 (lv_at hl 1 rfl) ?_
  refine lv_iconst (v := (nI 1)) hx hb dL_law_576 (by decide) ?_
  refine lv_iadd hx hb dL_law_577 ?_
  refine lv_topi (fun z_577 ez_577 => ?_)
  obtain rfl : z_577 = nI (4 * t + 1) := ez_577.trans (nI_pk _ _)
  refine va_sld hx hb hX hbl hbA hS (vp_in_nI (n := 4 * t + 1) (by omega) (by omega)) dL_law_578 ?_
  refine lv_topi (fun z_578 ez_578 => ?_)
  obtain rfl : z_578 = xs (4 * t + 1) := ez_578.trans (by rw [nI_clamp (by omega)])
  refine va_calli (va_runV (As := [.int (xs (4 * t + 1))]) (rest := []) ⟨hx, hb, hml, hown, hts⟩ (cm_best l en bd d hIm _ hmci (xs (4 * t + 1))) (cwV 1 hts gL_law_X5_best rfl rfl rfl (by decide +kernel) ⟨(Nat.le_of_ble_eq_true rfl), (Nat.le_of_ble_eq_true rfl)⟩) (ct_preV hE (va_recv hE.1 hPm (ci := 5) (q0 := 0) rfl rfl) ⟨rfl, hPm⟩) rfl rfl hl.1 rfl (lv_room (Nat.le_of_ble_eq_true rfl)) dL_law_579 ⟨hcl, hsl⟩) hS (fun q _ h => mA_in hS hbx q h) (mA_in hS hbx) (fun rb d9 t9 H2 locs2 ht9 _ hmp hPm _ hk9 hS => ?_)
  rw [ht9] at hPm
  have hP := xw_keepM hab hP hk9
  have hPo := oW_keepM hbo hPo hk9
  have hrl := rl_best hci.1.ok hci hpo hmp
  refine lv_istore (lv' := [(6, .int rb), (5, .int rk), (4, .int (nI (4 * t))), (3, .ref o), (2, .ref (bd 0)), (1, .ref (ad 0)), (0, .ref b)]) hx hb dL_law_582 hl (by decide) rfl (fun ls hl => ?_)
  refine lv_aload_n hx hb dL_law_584 rfl (lv_at hl 4 rfl) ?_
  refine ro_calli (va_runV (As := []) (rest := []) ⟨hx, hb, hml, hown, hts⟩ (cm_thrown l en bd d9) (cwV 0 hts gL_law_X5_thrown rfl rfl rfl (by decide +kernel) ⟨(Nat.le_of_ble_eq_true rfl), (Nat.le_of_ble_eq_true rfl)⟩) (ct_preV hE (va_recv hE.1 hPm (ci := 5) (q0 := 0) rfl rfl) hPm) rfl rfl hl.1 rfl (lv_room (Nat.le_of_ble_eq_true rfl)) dL_law_585 ⟨hcl, hsl⟩) (fun rt w9 => ?_)
  obtain rfl : rt = d9.1 0 0 := w9
  refine lv_iload hx hb dL_law_588 (lv_at hl 1 rfl) ?_
  refine lv_icmp_eq (tgt := 595) hx hb dL_law_590 (by decide) (fun _ => ?_) (fun bn => absurd hrl.1 bn)
  refine lv_iload hx hb dL_law_595 (lv_at hl 1 rfl) ?_
  refine lv_if_ne (tgt := 612) hx hb dL_law_597 (by decide) (fun hk0 => ?_) (fun hk0 => ?_)
  · skip
    refine lv_goto (tgt := 739) hx hb dL_law_612 (by decide) ?_
    obtain ⟨G9, hci9, hmci9⟩ := hrl.2.2
    exact K G9 _ _ _ _ _ _ hci9 hmci9 hP hPm hPo hS (lv_sub hl [2, 3, 4, 5, 6] rfl)
  · skip
    refine lv_aload_n hx hb dL_law_600 rfl (lv_at hl 3 rfl) ?_
    refine lv_iconst (v := 0) hx hb dL_law_601 (by decide) ?_
    refine va_lald hx hb hE.1 hPo 0 1 (n := 1) (f := u.2) (cA := en.2.2.1) rfl rfl (by unfold vp_in; decide) dL_law_602 ?_
    refine lv_topl (fun z_602 ez_602 => ?_)
    obtain rfl : z_602 = u.2 0 := ez_602.trans (by rw [sb_cl0])
    refine lv_iload hx hb dL_law_603 (lv_at hl 0 rfl) ?_
    refine lv_i2l (v := rb.toInt64) hx hb dL_law_605 rfl ?_
    refine W.lcmp hx hb dL_law_606 ?_
    refine lv_if_eq (tgt := 612) hx hb dL_law_607 (by decide) (fun _ => ?_) (fun bn => absurd ((lg_cmp_eq _ _).mpr (hrl.2.1 hk0)) bn)
    refine lv_goto (tgt := 739) hx hb dL_law_612 (by decide) ?_
    obtain ⟨G9, hci9, hmci9⟩ := hrl.2.2
    exact K G9 _ _ _ _ _ _ hci9 hmci9 hP hPm hPo hS (lv_sub hl [2, 3, 4, 5, 6] rfl)
set_option maxHeartbeats 4000000 in
set_option maxRecDepth 100000 in
theorem law_settle {p : Program} {e : Env} {s : State} {m : MethodId} {below : List Frame} {meth : Method} {co : Code} {l : Launch} {b L : Nat} {xs : Nat → Int32} {en : en_T} {ad bd : Nat → Nat} {o : Nat} (X0 : lx p s m meth co b L xs l en ad bd o) (t : Nat) (ht : 4 * t + 4 ≤ L) (hL : L ≤ 2048) {G : gr_T} {c : Nat → Nat → Int32} {d : mT} {f : Nat → Int64} (hci : ci G c) (hmci : mci G d) {H : Heap} {locs : List Loc} (hP : va_P en.1 vwCl (xw en ad c) H) (hPm : va_P en.1 vwCl (mw en bd d) H) (hPo : va_P en.1 vwCl (oW en o f) H) (hS : va_S (fun q => s.heap.size ≤ q) s.heap H locs) {cells slots : Nat} (hcl : cells + 4 ≤ 647528) (hsl : slots + 24 ≤ 7153520) {Q : State → Prop}
    (K : ∀ (G : gr_T) (c : Nat → Nat → Int32) (d : mT) (f : Nat → Int64) (H : Heap) (locs : List Loc) (ls : Array Slot), ci G c → mci G d → va_P en.1 vwCl (xw en ad c) H → va_P en.1 vwCl (mw en bd d) H → va_P en.1 vwCl (oW en o f) H → va_S (fun q => s.heap.size ≤ q) s.heap H locs → lv_has ls 7 [(4, .int (nI (4 * t))), (3, .ref o), (2, .ref (bd 0)), (1, .ref (ad 0)), (0, .ref b)] → W p l e room_1 s m #[Value.ref b] below meth co H locs (cells + 4) (slots + 24) Q (F0 m 739 ls []))
    {ls : Array Slot} (hl : lv_has ls 7 [(4, .int (nI (4 * t))), (3, .ref o), (2, .ref (bd 0)), (1, .ref (ad 0)), (0, .ref b)]) : W p l e room_1 s m #[Value.ref b] below meth co H locs cells slots Q (F0 m 615 ls []) := by
  obtain ⟨⟨hx, hb, hr, hml, hown, hts0, hX, hbl, hlocks, hgv⟩, hlt, hE, hT0, hN, hIx, hIm, hax, hbx, hox, hab, hao, hbo⟩ := id X0
  have hts : ∀ w ∈ wsL_law, w.before #[Value.ref b] s = true := fun w h => hts0 w (wsL_law_in w h)
  have hown : s.vm.findClass RL = some m.cls := hown
  have hbA : ¬ (fun q : Nat => s.heap.size ≤ q) b := Nat.not_le.mpr hbl
  have hT := tx_at hT0 hS hax
  refine lv_aload_n hx hb dL_law_615 rfl (lv_at hl 3 rfl) ?_
  refine lv_aload_n hx hb dL_law_616 rfl (lv_at hl 4 rfl) ?_
  refine lv_iload hx hb dL_law_617 (lv_at hl 0 rfl) ?_
  refine lv_iconst (v := (nI 1)) hx hb dL_law_619 (by decide) ?_
  refine lv_iadd hx hb dL_law_620 ?_
  refine lv_topi (fun z_620 ez_620 => ?_)
  obtain rfl : z_620 = nI (4 * t + 1) := ez_620.trans (nI_pk _ _)
  refine va_sld hx hb hX hbl hbA hS (vp_in_nI (n := 4 * t + 1) (by omega) (by omega)) dL_law_621 ?_
  refine lv_topi (fun z_621 ez_621 => ?_)
  obtain rfl : z_621 = xs (4 * t + 1) := ez_621.trans (by rw [nI_clamp (by omega)])
  refine lv_aload_n hx hb dL_law_622 rfl (lv_at hl 1 rfl) ?_
  refine va_calli (vx_runSW (As := [.ref (ad 0), .int (xs (4 * t + 1)), .ref o]) (rest := []) ⟨hx, hb, hml, hown, hts⟩ (lc_settle l hlt en ad c hIx o f hao _ hci (xs (4 * t + 1))) (vx_cwSW 3 hts gL_law_L_settle rfl rfl rfl (by decide +kernel) ⟨(Nat.le_of_ble_eq_true rfl), (Nat.le_of_ble_eq_true rfl)⟩) (wp_preS hE hT hN ⟨hP, hPo⟩) rfl rfl hl.1 rfl (lv_room (Nat.le_of_ble_eq_true rfl)) dL_law_623 ⟨hcl, hsl⟩) hS (fun q _ h => wA_in hS hax hox q h) (wA_in hS hax hox) (fun rk u t9 H1 locs1 ht9 _ hpo hB9 _ hk9 hS => ?_)
  obtain ⟨hP, hPo⟩ := hB9
  rw [ht9] at hP hPo
  have hPm := mw_keep hab hbo hPm hk9
  refine lv_istore (lv' := [(5, .int rk), (4, .int (nI (4 * t))), (3, .ref o), (2, .ref (bd 0)), (1, .ref (ad 0)), (0, .ref b)]) hx hb dL_law_626 hl (by decide) rfl (fun ls hl => ?_)
  refine lv_aload_n hx hb dL_law_628 rfl (lv_at hl 3 rfl) ?_
  refine lv_aload_n hx hb dL_law_629 rfl (lv_at hl 5 rfl) ?_
  refine lv_iload hx hb dL_law_630 (lv_at hl 1 rfl) ?_
  refine lv_iconst (v := (nI 1)) hx hb dL_law_632 (by decide) ?_
  refine lv_iadd hx hb dL_law_633 ?_
  refine lv_topi (fun z_633 ez_633 => ?_)
  obtain rfl : z_633 = nI (4 * t + 1) := ez_633.trans (nI_pk _ _)
  refine va_sld hx hb hX hbl hbA hS (vp_in_nI (n := 4 * t + 1) (by omega) (by omega)) dL_law_634 ?_
  refine lv_topi (fun z_634 ez_634 => ?_)
  obtain rfl : z_634 = xs (4 * t + 1) := ez_634.trans (by rw [nI_clamp (by omega)])
  refine va_calli (va_runV (As := [.int (xs (4 * t + 1))]) (rest := []) ⟨hx, hb, hml, hown, hts⟩ (cm_settle l en bd d hIm _ hmci (xs (4 * t + 1))) (cwV 1 hts gL_law_X5_settle rfl rfl rfl (by decide +kernel) ⟨(Nat.le_of_ble_eq_true rfl), (Nat.le_of_ble_eq_true rfl)⟩) (ct_preV hE (va_recv hE.1 hPm (ci := 5) (q0 := 0) rfl rfl) ⟨rfl, hPm⟩) rfl rfl hl.1 rfl (lv_room (Nat.le_of_ble_eq_true rfl)) dL_law_635 ⟨hcl, hsl⟩) hS (fun q _ h => mA_in hS hbx q h) (mA_in hS hbx) (fun rb d9 t9 H2 locs2 ht9 _ hmp hPm _ hk9 hS => ?_)
  rw [ht9] at hPm
  have hP := xw_keepM hab hP hk9
  have hPo := oW_keepM hbo hPo hk9
  have hrl := rl_settle hci.1.ok hci hpo hmp
  refine lv_istore (lv' := [(6, .int rb), (5, .int rk), (4, .int (nI (4 * t))), (3, .ref o), (2, .ref (bd 0)), (1, .ref (ad 0)), (0, .ref b)]) hx hb dL_law_638 hl (by decide) rfl (fun ls hl => ?_)
  refine lv_aload_n hx hb dL_law_640 rfl (lv_at hl 4 rfl) ?_
  refine ro_calli (va_runV (As := []) (rest := []) ⟨hx, hb, hml, hown, hts⟩ (cm_thrown l en bd d9) (cwV 0 hts gL_law_X5_thrown rfl rfl rfl (by decide +kernel) ⟨(Nat.le_of_ble_eq_true rfl), (Nat.le_of_ble_eq_true rfl)⟩) (ct_preV hE (va_recv hE.1 hPm (ci := 5) (q0 := 0) rfl rfl) hPm) rfl rfl hl.1 rfl (lv_room (Nat.le_of_ble_eq_true rfl)) dL_law_641 ⟨hcl, hsl⟩) (fun rt w9 => ?_)
  obtain rfl : rt = d9.1 0 0 := w9
  refine lv_iload hx hb dL_law_644 (lv_at hl 1 rfl) ?_
  refine lv_icmp_eq (tgt := 651) hx hb dL_law_646 (by decide) (fun _ => ?_) (fun bn => absurd hrl.1 bn)
  refine lv_iload hx hb dL_law_651 (lv_at hl 1 rfl) ?_
  refine lv_if_ne (tgt := 668) hx hb dL_law_653 (by decide) (fun hk0 => ?_) (fun hk0 => ?_)
  · skip
    refine lv_goto (tgt := 739) hx hb dL_law_668 (by decide) ?_
    obtain ⟨G9, hci9, hmci9⟩ := hrl.2.2
    exact K G9 _ _ _ _ _ _ hci9 hmci9 hP hPm hPo hS (lv_sub hl [2, 3, 4, 5, 6] rfl)
  · skip
    refine lv_aload_n hx hb dL_law_656 rfl (lv_at hl 3 rfl) ?_
    refine lv_iconst (v := 0) hx hb dL_law_657 (by decide) ?_
    refine va_lald hx hb hE.1 hPo 0 1 (n := 1) (f := u.2) (cA := en.2.2.1) rfl rfl (by unfold vp_in; decide) dL_law_658 ?_
    refine lv_topl (fun z_658 ez_658 => ?_)
    obtain rfl : z_658 = u.2 0 := ez_658.trans (by rw [sb_cl0])
    refine lv_iload hx hb dL_law_659 (lv_at hl 0 rfl) ?_
    refine lv_i2l (v := rb.toInt64) hx hb dL_law_661 rfl ?_
    refine W.lcmp hx hb dL_law_662 ?_
    refine lv_if_eq (tgt := 668) hx hb dL_law_663 (by decide) (fun _ => ?_) (fun bn => absurd ((lg_cmp_eq _ _).mpr (hrl.2.1 hk0)) bn)
    refine lv_goto (tgt := 739) hx hb dL_law_668 (by decide) ?_
    obtain ⟨G9, hci9, hmci9⟩ := hrl.2.2
    exact K G9 _ _ _ _ _ _ hci9 hmci9 hP hPm hPo hS (lv_sub hl [2, 3, 4, 5, 6] rfl)
set_option maxHeartbeats 4000000 in
set_option maxRecDepth 100000 in
theorem law_walk {p : Program} {e : Env} {s : State} {m : MethodId} {below : List Frame} {meth : Method} {co : Code} {l : Launch} {b L : Nat} {xs : Nat → Int32} {en : en_T} {ad bd : Nat → Nat} {o : Nat} (X0 : lx p s m meth co b L xs l en ad bd o) (t : Nat) (ht : 4 * t + 4 ≤ L) (hL : L ≤ 2048) {G : gr_T} {c : Nat → Nat → Int32} {d : mT} {f : Nat → Int64} (hci : ci G c) (hmci : mci G d) {H : Heap} {locs : List Loc} (hP : va_P en.1 vwCl (xw en ad c) H) (hPm : va_P en.1 vwCl (mw en bd d) H) (hPo : va_P en.1 vwCl (oW en o f) H) (hS : va_S (fun q => s.heap.size ≤ q) s.heap H locs) {cells slots : Nat} (hcl : cells + 4 ≤ 647528) (hsl : slots + 24 ≤ 7153520) {Q : State → Prop}
    (K : ∀ (G : gr_T) (c : Nat → Nat → Int32) (d : mT) (f : Nat → Int64) (H : Heap) (locs : List Loc) (ls : Array Slot), ci G c → mci G d → va_P en.1 vwCl (xw en ad c) H → va_P en.1 vwCl (mw en bd d) H → va_P en.1 vwCl (oW en o f) H → va_S (fun q => s.heap.size ≤ q) s.heap H locs → lv_has ls 7 [(4, .int (nI (4 * t))), (3, .ref o), (2, .ref (bd 0)), (1, .ref (ad 0)), (0, .ref b)] → W p l e room_1 s m #[Value.ref b] below meth co H locs (cells + 4) (slots + 24) Q (F0 m 739 ls []))
    {ls : Array Slot} (hl : lv_has ls 7 [(4, .int (nI (4 * t))), (3, .ref o), (2, .ref (bd 0)), (1, .ref (ad 0)), (0, .ref b)]) : W p l e room_1 s m #[Value.ref b] below meth co H locs cells slots Q (F0 m 671 ls []) := by
  obtain ⟨⟨hx, hb, hr, hml, hown, hts0, hX, hbl, hlocks, hgv⟩, hlt, hE, hT0, hN, hIx, hIm, hax, hbx, hox, hab, hao, hbo⟩ := id X0
  have hts : ∀ w ∈ wsL_law, w.before #[Value.ref b] s = true := fun w h => hts0 w (wsL_law_in w h)
  have hown : s.vm.findClass RL = some m.cls := hown
  have hbA : ¬ (fun q : Nat => s.heap.size ≤ q) b := Nat.not_le.mpr hbl
  have hT := tx_at hT0 hS hax
  refine lv_aload_n hx hb dL_law_671 rfl (lv_at hl 3 rfl) ?_
  refine lv_aload_n hx hb dL_law_672 rfl (lv_at hl 4 rfl) ?_
  refine lv_iload hx hb dL_law_673 (lv_at hl 0 rfl) ?_
  refine lv_iconst (v := (nI 1)) hx hb dL_law_675 (by decide) ?_
  refine lv_iadd hx hb dL_law_676 ?_
  refine lv_topi (fun z_676 ez_676 => ?_)
  obtain rfl : z_676 = nI (4 * t + 1) := ez_676.trans (nI_pk _ _)
  refine va_sld hx hb hX hbl hbA hS (vp_in_nI (n := 4 * t + 1) (by omega) (by omega)) dL_law_677 ?_
  refine lv_topi (fun z_677 ez_677 => ?_)
  obtain rfl : z_677 = xs (4 * t + 1) := ez_677.trans (by rw [nI_clamp (by omega)])
  refine lv_aload_n hx hb dL_law_678 rfl (lv_at hl 4 rfl) ?_
  refine lv_iload hx hb dL_law_679 (lv_at hl 0 rfl) ?_
  refine lv_iconst (v := (nI 2)) hx hb dL_law_681 (by decide) ?_
  refine lv_iadd hx hb dL_law_682 ?_
  refine lv_topi (fun z_682 ez_682 => ?_)
  obtain rfl : z_682 = nI (4 * t + 2) := ez_682.trans (nI_pk _ _)
  refine va_sld hx hb hX hbl hbA hS (vp_in_nI (n := 4 * t + 2) (by omega) (by omega)) dL_law_683 ?_
  refine lv_topi (fun z_683 ez_683 => ?_)
  obtain rfl : z_683 = xs (4 * t + 2) := ez_683.trans (by rw [nI_clamp (by omega)])
  refine lv_aload_n hx hb dL_law_684 rfl (lv_at hl 1 rfl) ?_
  refine va_calli (vx_runSW (As := [.ref (ad 0), .int (xs (4 * t + 1)), .int (xs (4 * t + 2)), .ref o]) (rest := []) ⟨hx, hb, hml, hown, hts⟩ (lc_walk l hlt en ad c hIx o f hao _ hci (xs (4 * t + 1)) (xs (4 * t + 2))) (vx_cwSW 4 hts gL_law_L_walk rfl rfl rfl (by decide +kernel) ⟨(Nat.le_of_ble_eq_true rfl), (Nat.le_of_ble_eq_true rfl)⟩) (wp_preS hE hT hN ⟨hP, hPo⟩) rfl rfl hl.1 rfl (lv_room (Nat.le_of_ble_eq_true rfl)) dL_law_685 ⟨hcl, hsl⟩) hS (fun q _ h => wA_in hS hax hox q h) (wA_in hS hax hox) (fun rk u t9 H1 locs1 ht9 _ hpo hB9 _ hk9 hS => ?_)
  obtain ⟨hP, hPo⟩ := hB9
  rw [ht9] at hP hPo
  have hPm := mw_keep hab hbo hPm hk9
  refine lv_istore (lv' := [(5, .int rk), (4, .int (nI (4 * t))), (3, .ref o), (2, .ref (bd 0)), (1, .ref (ad 0)), (0, .ref b)]) hx hb dL_law_688 hl (by decide) rfl (fun ls hl => ?_)
  refine lv_aload_n hx hb dL_law_690 rfl (lv_at hl 3 rfl) ?_
  refine lv_aload_n hx hb dL_law_691 rfl (lv_at hl 5 rfl) ?_
  refine lv_iload hx hb dL_law_692 (lv_at hl 1 rfl) ?_
  refine lv_iconst (v := (nI 1)) hx hb dL_law_694 (by decide) ?_
  refine lv_iadd hx hb dL_law_695 ?_
  refine lv_topi (fun z_695 ez_695 => ?_)
  obtain rfl : z_695 = nI (4 * t + 1) := ez_695.trans (nI_pk _ _)
  refine va_sld hx hb hX hbl hbA hS (vp_in_nI (n := 4 * t + 1) (by omega) (by omega)) dL_law_696 ?_
  refine lv_topi (fun z_696 ez_696 => ?_)
  obtain rfl : z_696 = xs (4 * t + 1) := ez_696.trans (by rw [nI_clamp (by omega)])
  refine lv_aload_n hx hb dL_law_697 rfl (lv_at hl 5 rfl) ?_
  refine lv_iload hx hb dL_law_698 (lv_at hl 1 rfl) ?_
  refine lv_iconst (v := (nI 2)) hx hb dL_law_700 (by decide) ?_
  refine lv_iadd hx hb dL_law_701 ?_
  refine lv_topi (fun z_701 ez_701 => ?_)
  obtain rfl : z_701 = nI (4 * t + 2) := ez_701.trans (nI_pk _ _)
  refine va_sld hx hb hX hbl hbA hS (vp_in_nI (n := 4 * t + 2) (by omega) (by omega)) dL_law_702 ?_
  refine lv_topi (fun z_702 ez_702 => ?_)
  obtain rfl : z_702 = xs (4 * t + 2) := ez_702.trans (by rw [nI_clamp (by omega)])
  refine va_calli (va_runV (As := [.int (xs (4 * t + 1)), .int (xs (4 * t + 2))]) (rest := []) ⟨hx, hb, hml, hown, hts⟩ (cm_walk l en bd d hIm _ hmci (xs (4 * t + 1)) (xs (4 * t + 2))) (cwV 2 hts gL_law_X5_walk rfl rfl rfl (by decide +kernel) ⟨(Nat.le_of_ble_eq_true rfl), (Nat.le_of_ble_eq_true rfl)⟩) (ct_preV hE (va_recv hE.1 hPm (ci := 5) (q0 := 0) rfl rfl) ⟨rfl, hPm⟩) rfl rfl hl.1 rfl (lv_room (Nat.le_of_ble_eq_true rfl)) dL_law_703 ⟨hcl, hsl⟩) hS (fun q _ h => mA_in hS hbx q h) (mA_in hS hbx) (fun rb d9 t9 H2 locs2 ht9 _ hmp hPm _ hk9 hS => ?_)
  rw [ht9] at hPm
  have hP := xw_keepM hab hP hk9
  have hPo := oW_keepM hbo hPo hk9
  have hrl := rl_walk hci.1.ok hci hpo hmp
  refine lv_istore (lv' := [(6, .int rb), (5, .int rk), (4, .int (nI (4 * t))), (3, .ref o), (2, .ref (bd 0)), (1, .ref (ad 0)), (0, .ref b)]) hx hb dL_law_706 hl (by decide) rfl (fun ls hl => ?_)
  refine lv_aload_n hx hb dL_law_708 rfl (lv_at hl 4 rfl) ?_
  refine ro_calli (va_runV (As := []) (rest := []) ⟨hx, hb, hml, hown, hts⟩ (cm_thrown l en bd d9) (cwV 0 hts gL_law_X5_thrown rfl rfl rfl (by decide +kernel) ⟨(Nat.le_of_ble_eq_true rfl), (Nat.le_of_ble_eq_true rfl)⟩) (ct_preV hE (va_recv hE.1 hPm (ci := 5) (q0 := 0) rfl rfl) hPm) rfl rfl hl.1 rfl (lv_room (Nat.le_of_ble_eq_true rfl)) dL_law_709 ⟨hcl, hsl⟩) (fun rt w9 => ?_)
  obtain rfl : rt = d9.1 0 0 := w9
  refine lv_iload hx hb dL_law_712 (lv_at hl 1 rfl) ?_
  refine lv_icmp_eq (tgt := 719) hx hb dL_law_714 (by decide) (fun _ => ?_) (fun bn => absurd hrl.1 bn)
  refine lv_iload hx hb dL_law_719 (lv_at hl 1 rfl) ?_
  refine lv_if_ne (tgt := 736) hx hb dL_law_721 (by decide) (fun hk0 => ?_) (fun hk0 => ?_)
  · skip
    refine lv_goto (tgt := 739) hx hb dL_law_736 (by decide) ?_
    obtain ⟨G9, hci9, hmci9⟩ := hrl.2.2
    exact K G9 _ _ _ _ _ _ hci9 hmci9 hP hPm hPo hS (lv_sub hl [2, 3, 4, 5, 6] rfl)
  · skip
    refine lv_aload_n hx hb dL_law_724 rfl (lv_at hl 3 rfl) ?_
    refine lv_iconst (v := 0) hx hb dL_law_725 (by decide) ?_
    refine va_lald hx hb hE.1 hPo 0 1 (n := 1) (f := u.2) (cA := en.2.2.1) rfl rfl (by unfold vp_in; decide) dL_law_726 ?_
    refine lv_topl (fun z_726 ez_726 => ?_)
    obtain rfl : z_726 = u.2 0 := ez_726.trans (by rw [sb_cl0])
    refine lv_iload hx hb dL_law_727 (lv_at hl 0 rfl) ?_
    refine lv_i2l (v := rb.toInt64) hx hb dL_law_729 rfl ?_
    refine W.lcmp hx hb dL_law_730 ?_
    refine lv_if_eq (tgt := 736) hx hb dL_law_731 (by decide) (fun _ => ?_) (fun bn => absurd ((lg_cmp_eq _ _).mpr (hrl.2.1 hk0)) bn)
    refine lv_goto (tgt := 739) hx hb dL_law_736 (by decide) ?_
    obtain ⟨G9, hci9, hmci9⟩ := hrl.2.2
    exact K G9 _ _ _ _ _ _ hci9 hmci9 hP hPm hPo hS (lv_sub hl [2, 3, 4, 5, 6] rfl)
