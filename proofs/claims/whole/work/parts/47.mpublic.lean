/-! ===== CreditGameModel: reaches, value, bestOf, best, settle, walk ===== -/
theorem rs_m {G : gr_T} (hg : gf_ok G) (hc : gr_cpl G) {j : Nat} (hj : j < gr_n G) {p q : Int} (hq1 : 1 ≤ q) (hq9 : q ≤ 9) : p * (vl_q (vl_F G j) : Int) ≤ vl_t (vl_F G j) * q ↔ p * 420 ≤ vl_F G j * q := by
  have e := vl_tq (vl_F_dv hg hc hj)
  have h7 := vl_q_bd (vl_F G j)
  generalize vl_q (vl_F G j) = q0 at e h7
  generalize vl_t (vl_F G j) = t at e
  generalize vl_F G j = F at e
  rcases (show q0 = 1 ∨ q0 = 2 ∨ q0 = 3 ∨ q0 = 4 ∨ q0 = 5 ∨ q0 = 6 ∨ q0 = 7 by omega) with rfl | rfl | rfl | rfl | rfl | rfl | rfl <;>
  rcases (show q = 1 ∨ q = 2 ∨ q = 3 ∨ q = 4 ∨ q = 5 ∨ q = 6 ∨ q = 7 ∨ q = 8 ∨ q = 9 by omega) with rfl | rfl | rfl | rfl | rfl | rfl | rfl | rfl | rfl <;> omega
theorem adj_sorted {G : gr_T} {j : Nat} : (gr_adj G j).Pairwise (· < ·) := by
  show (gp_adj _ _ _ _ _).Pairwise _
  unfold gp_adj
  split
  · split
    · exact List.Pairwise.filter _ List.pairwise_lt_range
    · exact List.pairwise_singleton _ _
  · exact List.Pairwise.nil
theorem gr_best_first {G : gr_T} {j x : Nat} (hx : x ∈ gr_adj G j) (hb : gr_bp G j x) (hn : ∀ y, y < x → y ∈ gr_adj G j → ¬ gr_bp G j y) : gr_best G j = x := by
  obtain ⟨i, hi, he⟩ := List.mem_iff_getElem.mp hx
  have hd : ∀ k (hk : k < (gr_adj G j).length), (gr_adj G j).getD k 0 = (gr_adj G j)[k] := fun k hk => by rw [List.getD_eq_getElem?_getD, List.getElem?_eq_getElem hk]; rfl
  have h1 := gr_best_eq (G := G) (j := j) hi (by rw [hd i hi, he]; exact hb) (fun k hk => by
    rw [hd k (by omega)]
    have h2 := List.pairwise_iff_getElem.mp (adj_sorted (G := G) (j := j)) k i (by omega) hi hk
    exact hn _ (by rw [← he]; exact h2) (List.getElem_mem _))
  rw [h1, hd i hi, he]
theorem gr_self {G : gr_T} (hg : gf_ok G) (hc : gr_cpl G) {j : Nat} (hj : j < gr_n G) {f : Nat → Int} (hf : cr_is G (gr_pl G j) (vl_t (vl_F G j)) (vl_q (vl_F G j) : Int) f) : 0 ≤ f j := by
  have hb := vl_F_bd hg hc hj
  have ht := vl_t_bd hb.1 hb.2
  have hq := vl_q_bd (vl_F G j)
  have hdv := vl_tq (vl_F_dv hg hc hj)
  have hw : cr_win G (gr_pl G j) (vl_t (vl_F G j)) (vl_q (vl_F G j) : Int) j := by
    rw [cr_win_iff hg (by omega) (by omega) (by omega) hj]
    exact ⟨fun _ => by omega, fun _ => by omega⟩
  exact (gm_cr_win hf hj).mp hw
/-- what a best edge leaves -/
def bk (G : gr_T) (d d' : mT) : Prop := kx [0, 6, 7, 10, 11] d.1 d'.1 ∧ (∀ j, j ≠ 3 → d'.1 0 j = d.1 0 j) ∧ mci G d'
/-- the same, with the cells of choice -/
def bk2 (G : gr_T) (d d' : mT) : Prop := kx [0, 6, 7, 10, 11, 12] d.1 d'.1 ∧ (∀ j, j ≠ 3 → d'.1 0 j = d.1 0 j) ∧ mci G d'
theorem bk2_rf {G : gr_T} {d : mT} (h : mci G d) : bk2 G d d := ⟨kx.rf, fun _ _ => rfl, h⟩
theorem bk2_tr {G : gr_T} {a b c : mT} (h1 : bk2 G a b) (h2 : bk G b c) : bk2 G a c := ⟨h1.1.tr (h2.1.wide (by decide)), fun j hj => (h2.2.1 j hj).trans (h1.2.1 j hj), h2.2.2⟩
theorem bk2_up {G : gr_T} {a b : mT} {f : Nat → Int32} (h1 : bk2 G a b) : bk2 G a (va_up b.1 12 f, b.2) :=
  ⟨h1.1.tr (kx.up (by decide)), fun j hj => h1.2.1 j hj, (km.up (S := [12]) (by decide) : km [12] b (va_up b.1 12 f, b.2)).mci h1.2.2 (by decide)⟩
theorem wt_b0 {G : gr_T} {tI oI : Int32} {p q : Int} (hq : tI.toInt = q) (hp : oI.toInt = p) (h1 : -7 ≤ q ∧ q ≤ 7) (h2 : -63 ≤ p ∧ p ≤ 63) : wt_ok G 0 p q tI oI := ⟨by rw [hq]; exact h1, by rw [hp]; exact h2, fun x _ => by rw [hq, hp]; rfl⟩
theorem wt_b1 {G : gr_T} {tI oI : Int32} {p q : Int} (hq : tI.toInt = -q) (hp : oI.toInt = -p) (h1 : -7 ≤ q ∧ q ≤ 7) (h2 : -63 ≤ p ∧ p ≤ 63) : wt_ok G 1 p q tI oI := ⟨by rw [hq]; omega, by rw [hp]; omega, fun x _ => by rw [hq, hp]; rfl⟩
theorem gr_pl0 {G : gr_T} {j : Nat} (h : gr_own G j = 0) : gr_pl G j = 0 := if_pos h
theorem gr_pl1 {G : gr_T} {j : Nat} (h : ¬ gr_own G j = 0) : gr_pl G j = 1 := if_neg h
theorem bp_iff {G : gr_T} (hg : gf_ok G) {j x : Nat} (hj : j < gr_n G) (hx : x < gr_E G) {d : mT} (hf : cr_is G (gr_pl G j) (vl_t (vl_F G j)) (vl_q (vl_F G j) : Int) (fun v => if fM d v = 1000000 then -1 else fM d v)) (hs : fM d j ≠ 1000000) (hr : 0 ≤ fM d (gr_tgt G x)) : gr_bp G j x ↔ fM d (gr_tgt G x) ≠ 1000000 ∧ fM d (gr_tgt G x) ≤ fM d j + gr_g G j x := by
  have e1 : (if fM d (gr_tgt G x) = 1000000 then -1 else fM d (gr_tgt G x)) = gr_f G j (gr_tgt G x) := cr_f_eq hf (gr_tgt_lt hg hx).1
  have e2 : (if fM d j = 1000000 then -1 else fM d j) = gr_f G j j := cr_f_eq hf hj
  unfold gr_bp
  rw [← e1, ← e2, if_neg hs]
  by_cases q : fM d (gr_tgt G x) = 1000000
  · rw [if_pos q]; exact ⟨fun h => absurd rfl h.1, fun h => absurd q h.1⟩
  · rw [if_neg q]; exact ⟨fun h => ⟨q, h.2⟩, fun h => ⟨by omega, h.2⟩⟩
theorem gr_st_n {G : gr_T} {pl : Nat} : ∀ k, gr_n G ≤ k → gr_st G pl k = gr_st G pl (gr_n G) ∧ gr_cn G pl k = gr_cn G pl (gr_n G) := by
  intro k hk
  induction k with
  | zero => rw [show gr_n G = 0 by omega]; exact ⟨rfl, rfl⟩
  | succ k ih =>
    by_cases e : gr_n G = k + 1
    · rw [e]; exact ⟨rfl, rfl⟩
    · have h := ih (by omega)
      have ho : gr_op G pl k = false := gr_op_f (fun q => by omega)
      simp only [gr_st, gr_cn, ho]
      exact h
theorem gr_st_0 {G : gr_T} {pl : Nat} : ∀ k, gr_cn G pl k = 0 → gr_st G pl k = G := by
  intro k hk
  induction k with
  | zero => rfl
  | succ k ih =>
    simp only [gr_cn] at hk
    simp only [gr_st]
    split
    · rename_i q; rw [if_pos q] at hk; omega
    · rename_i q; rw [if_neg q] at hk; exact ih hk
theorem mi_st {G : gr_T} {pl k : Nat} {d d' : mT} {y : Int32} (hg : gf_ok G) (hc : gr_cpl G) (h : mi (gr_st G pl k) d) (hk : gr_op G pl k = true) (hy : y = nI (gr_best G k)) (e : d' = (va_up d.1 2 (upd (d.1 2) k y), d.2)) : mi (gr_st G pl (k + 1)) d' := by
  have ho := gr_op_t hk
  have hb := gr_best_in hg hc k ho.1
  have hm := gr_adj_mem hg ho.1 hb
  have hs := gr_st_eq G pl k
  simp only [gr_st, hk, if_true]
  rw [← hy]
  refine mi_setF h (Or.inr ⟨gr_best G k, by rw [hs.2.1]; exact hm.1, hy, by rw [hs.2.2.1]; exact hm.2⟩) (by rw [e]; rfl) (by rw [e]; rfl) (by rw [e]; rfl) (fun q h1 h2 h3 => by rw [e]; exact up_ne h3)
/-- the walk's cells -/
def wq (G : gr_T) (j t : Nat) (d : mT) : Prop := ∀ u, u < gr_n G → (d.1 12 u = -1 ∧ ∀ a, a < t → gr_gw G j a ≠ u) ∨ ∃ a, a < t ∧ gr_gw G j a = u ∧ d.1 12 u = nI a
theorem wq_next {G : gr_T} {j t : Nat} {d d' : mT} (h : wq G j t d) (e : d'.1 12 = upd (d.1 12) (gr_gw G j t) (nI t)) : wq G j (t + 1) d' := by
  intro u hu
  rw [e]
  by_cases e2 : u = gr_gw G j t
  · rw [e2, ud_at]
    exact Or.inr ⟨t, by omega, rfl, rfl⟩
  · rw [ud_ne e2]
    rcases h u hu with ⟨h1, h2⟩ | ⟨a, h1, h2, h3⟩
    · refine Or.inl ⟨h1, fun a ha => ?_⟩
      by_cases ea : a = t
      · rw [ea]; exact fun q => e2 q.symm
      · exact h2 a (by omega)
    · exact Or.inr ⟨a, by omega, h2, h3⟩
theorem wq_eq {G : gr_T} {j t : Nat} {d d' : mT} (h : wq G j t d) (e : d'.1 12 = d.1 12) : wq G j t d' := by intro u hu; rw [e]; exact h u hu
theorem gw_lt {G : gr_T} (hg : gf_ok G) (hc : gr_cpl G) {j : Nat} (hj : j < gr_n G) : ∀ t, gr_gw G j t < gr_n G
  | 0 => hj
  | t + 1 => by
    have h := gw_lt hg hc hj t
    exact gr_tgts hg _ h _ (gr_best_in hg hc _ h)
theorem gs_step {G : gr_T} (hg : gf_ok G) (hc : gr_cpl G) {j : Nat} (hj : j < gr_n G) (t : Nat) : gr_best G (gr_gw G j t) < gr_E G ∧ gr_gs G j (t + 1) = gr_gs G j t + (gr_wt G (gr_best G (gr_gw G j t))).toInt ∧ -9 ≤ (gr_wt G (gr_best G (gr_gw G j t))).toInt ∧ (gr_wt G (gr_best G (gr_gw G j t))).toInt ≤ 9 := by
  have h := gw_lt hg hc hj t
  have h1 := (gr_adj_mem hg h (gr_best_in hg hc _ h)).1
  refine ⟨h1, ?_, (hg.ed _ h1).2.2⟩
  show _ + gr_w G _ = _
  rw [gr_w_eq h1]
theorem iw_X5_reaches_X5 : ∀ w ∈ wsX50, w ∈ wsX5_reaches := by decide +kernel
set_option maxHeartbeats 4000000 in
set_option maxRecDepth 100000 in
/--  -/
theorem cm_reaches (l : Launch) (en : en_T) (bd : Nat → Nat) (d : mT) (hI : mw_I bd) (sz : Nat) {G : gr_T} (hc_ : mci G d) (v pI qI : Int32) : Met l yX5_reaches wsX5_reaches (rm_ 6 0 0) (ct_Pc en [.ref (bd 0), .int v, .int pI, .int qI] (fun H => H.size = sz ∧ va_P en.1 vwCl (mw en bd d) H)) (va_Qi (fun r d' => (¬ ((∃ j, j < gr_n G ∧ v = nI j) ∧ (-99 ≤ pI.toInt ∧ pI.toInt ≤ 99) ∧ 1 ≤ qI.toInt ∧ qI.toInt ≤ 9) ∧ d'.1 0 0 = 1 ∧ mci G d') ∨ (((∃ j, j < gr_n G ∧ v = nI j) ∧ (-99 ≤ pI.toInt ∧ pI.toInt ≤ 99) ∧ 1 ≤ qI.toInt ∧ qI.toInt ≤ 9) ∧ ¬ gr_cpl G ∧ d'.1 0 0 = 2 ∧ mci G d') ∨ (gr_cpl G ∧ ((∃ j, j < gr_n G ∧ v = nI j) ∧ (-99 ≤ pI.toInt ∧ pI.toInt ≤ 99) ∧ 1 ≤ qI.toInt ∧ qI.toInt ≤ 9) ∧ (∃ j, j < gr_n G ∧ v = nI j ∧ r = if pI.toInt * 420 ≤ vl_F G j * qI.toInt then 1 else 0) ∧ d'.1 0 0 = 0 ∧ mci G d')) (fun d' t => va_P en.1 vwCl (mw en bd d') t.heap) (mw_A bd sz)) 0 0 (mw_A bd sz) := by
  refine Met.ofW (cc := cX5_reaches) (maxL := 4) (ret := (some .boolean)) (by decide) rfl ?_
  intro p e s m args below meth co s₁ B hml hv
  obtain ⟨rfl, hE, hsz, hP⟩ := hv
  subst hsz
  have hx := B.exec
  have hb := B.bytes
  have hr := B.returns
  have hts := atoms_spec (ws := wsX5_reaches) B.pre
  have hown : s.vm.findClass RX5 = some m.cls := findClass_of_methodNamed B.named
  have hlocks := B.notSynchronized
  have hS : va_S (mw_A bd s.heap.size) s.heap s.heap [] := va_S.rf
  have hl := lv_entry ([.ref (bd 0), .int v, .int pI, .int qI]) (n := 4) (Nat.le_of_ble_eq_true rfl)
  rw [lg_entry_eq]
  generalize (lg_sl ([.ref (bd 0), .int v, .int pI, .int qI]) ++ List.replicate (4 - (lg_sl ([.ref (bd 0), .int v, .int pI, .int qI])).length) Slot.unset).toArray = ls at hl ⊢
  have hl : lv_has ls 4 [(0, .ref (bd 0)), (1, .int v), (2, .int pI), (3, .int qI)] := hl
  have hm := hc_.1
  have hn7 := hm.n7
  have he24 := hm.e24
  refine lv_aload_n hx hb dX5_reaches_0 rfl (lv_at hl 0 rfl) ?_
  refine lv_aload_n hx hb dX5_reaches_1 rfl (lv_at hl 0 rfl) ?_
  refine lv_iload_n hx hb dX5_reaches_2 rfl (lv_at hl 1 rfl) ?_
  refine ro_calli (va_runV (As := [.int v]) (rest := [.ref (bd 0)]) ⟨hx, hb, hml, hown, hts⟩ (cm_isVertex l en bd d hm v) (cwV 1 hts gX5_reaches_X5_isVertex rfl rfl rfl (by decide +kernel) ⟨Nat.le_of_ble_eq_true rfl, Nat.le_of_ble_eq_true rfl⟩) (ct_preV hE (va_recv hE.1 hP (ci := 5) (q0 := 0) rfl rfl) hP) rfl rfl hl.1 rfl (lv_room (Nat.le_of_ble_eq_true rfl)) dX5_reaches_3 ⟨Nat.le_of_ble_eq_true rfl, Nat.le_of_ble_eq_true rfl⟩) (fun r3 w3 => ?_)
  refine lv_if_eq (tgt := 32) hx hb dX5_reaches_6 (by decide) (fun b6 => ?_) (fun b6 => ?_)
  · skip
    skip
    have hnk : ¬ ((∃ j, j < gr_n G ∧ v = nI j) ∧ (-99 ≤ pI.toInt ∧ pI.toInt ≤ 99) ∧ 1 ≤ qI.toInt ∧ qI.toInt ≤ 9) := fun q => cv_no w3 b6 q.1
    refine lv_iconst (v := 1) hx hb dX5_reaches_32 (by decide) ?_
    refine lv_goto (tgt := 48) hx hb dX5_reaches_33 (by decide) ?_
    refine va_put (D := en.1) (ci := 5) (v := .int 1) (ty := .int) (C := RX5) (T := TX5) (N := 16) hx hb hts iw_X5_reaches_X5 tyX5 tyX5_ok nmX5 hown hE.1 hP (mw_D hI) hS 0 rfl rfl 0 (by decide) (hts (.fieldLink RX5 47 "CreditGameModel" "thrown" "I") (by decide +kernel)) (fun _ h9 => h9) rfl (by decide +kernel) rfl rfl (Nat.le_of_ble_eq_true rfl) dX5_reaches_48 (fun H locs hP _ hS => ?_)
    have hP : va_P en.1 vwCl (mw en bd (va_up d.1 0 (upd (d.1 0) 0 1), d.2)) H := hP
    obtain ⟨d48, ed48⟩ : ∃ z : mT, z = (va_up d.1 0 (upd (d.1 0) 0 1), d.2) := ⟨_, rfl⟩
    rw [← ed48] at hP
    have ht48 : mth d d48 _ := ed48
    have hm1 := ht48.mi hm
    refine lv_aload_n hx hb dX5_reaches_51 rfl (lv_at hl 0 rfl) ?_
    refine va_get (D := en.1) (ci := 5) (v := .int (d48.1 0 0)) (C := RX5) (T := TX5) (N := 16) hx hb hts iw_X5_reaches_X5 hown hE.1 hP 0 rfl rfl 0 (by decide) (hts (.fieldLink RX5 47 "CreditGameModel" "thrown" "I") (by decide +kernel)) (fun _ h9 => h9) rfl dX5_reaches_52 ?_
    refine lv_topi (fun z_52 ez_52 => ?_)
    obtain rfl : z_52 = 1 := (ez_52.trans (by rw [ed48]; rfl))
    refine lv_if_le (tgt := 60) hx hb dX5_reaches_55 (by decide) (fun b55 => absurd b55 (by decide)) (fun b55 => ?_)
    refine lv_iconst (v := 0) hx hb dX5_reaches_58 (by decide) ?_
    exact W.zret (v := 0) (ty := .boolean) hx hb hr rfl (fun t ht hW => ⟨⟨_, d48, rfl, (Or.inl ⟨hnk, ht48.thr, ht48.mci hc_⟩), by show va_P _ _ _ t.heap; rw [ht]; exact hP⟩, hS.F ht⟩) hS.2.2 dX5_reaches_59
  · skip
    have hv1 := cv_yes w3 b6
    obtain ⟨j, hj, ej⟩ := id hv1
    refine lv_iload_n hx hb dX5_reaches_9 rfl (lv_at hl 2 rfl) ?_
    refine lv_bipush (v := (-99)) hx hb dX5_reaches_10 (by decide) ?_
    refine lv_icmp_lt (tgt := 32) hx hb dX5_reaches_12 (by decide) (fun b12 => ?_) (fun b12 => ?_)
    · skip
      have q12 := i_lt.mp b12
      rw [show (-99 : Int32).toInt = -99 by decide] at q12
      have hnk : ¬ ((∃ j, j < gr_n G ∧ v = nI j) ∧ (-99 ≤ pI.toInt ∧ pI.toInt ≤ 99) ∧ 1 ≤ qI.toInt ∧ qI.toInt ≤ 9) := fun q => by have := q.2; omega
      skip
      refine lv_iconst (v := 1) hx hb dX5_reaches_32 (by decide) ?_
      refine lv_goto (tgt := 48) hx hb dX5_reaches_33 (by decide) ?_
      refine va_put (D := en.1) (ci := 5) (v := .int 1) (ty := .int) (C := RX5) (T := TX5) (N := 16) hx hb hts iw_X5_reaches_X5 tyX5 tyX5_ok nmX5 hown hE.1 hP (mw_D hI) hS 0 rfl rfl 0 (by decide) (hts (.fieldLink RX5 47 "CreditGameModel" "thrown" "I") (by decide +kernel)) (fun _ h9 => h9) rfl (by decide +kernel) rfl rfl (Nat.le_of_ble_eq_true rfl) dX5_reaches_48 (fun H locs hP _ hS => ?_)
      have hP : va_P en.1 vwCl (mw en bd (va_up d.1 0 (upd (d.1 0) 0 1), d.2)) H := hP
      obtain ⟨d48, ed48⟩ : ∃ z : mT, z = (va_up d.1 0 (upd (d.1 0) 0 1), d.2) := ⟨_, rfl⟩
      rw [← ed48] at hP
      have ht48 : mth d d48 _ := ed48
      have hm1 := ht48.mi hm
      refine lv_aload_n hx hb dX5_reaches_51 rfl (lv_at hl 0 rfl) ?_
      refine va_get (D := en.1) (ci := 5) (v := .int (d48.1 0 0)) (C := RX5) (T := TX5) (N := 16) hx hb hts iw_X5_reaches_X5 hown hE.1 hP 0 rfl rfl 0 (by decide) (hts (.fieldLink RX5 47 "CreditGameModel" "thrown" "I") (by decide +kernel)) (fun _ h9 => h9) rfl dX5_reaches_52 ?_
      refine lv_topi (fun z_52 ez_52 => ?_)
      obtain rfl : z_52 = 1 := (ez_52.trans (by rw [ed48]; rfl))
      refine lv_if_le (tgt := 60) hx hb dX5_reaches_55 (by decide) (fun b55 => absurd b55 (by decide)) (fun b55 => ?_)
      refine lv_iconst (v := 0) hx hb dX5_reaches_58 (by decide) ?_
      exact W.zret (v := 0) (ty := .boolean) hx hb hr rfl (fun t ht hW => ⟨⟨_, d48, rfl, (Or.inl ⟨hnk, ht48.thr, ht48.mci hc_⟩), by show va_P _ _ _ t.heap; rw [ht]; exact hP⟩, hS.F ht⟩) hS.2.2 dX5_reaches_59
    · skip
      have q12 : ¬ _ := fun q => b12 (i_lt.mpr q)
      rw [show (-99 : Int32).toInt = -99 by decide] at q12
      refine lv_iload_n hx hb dX5_reaches_15 rfl (lv_at hl 2 rfl) ?_
      refine lv_bipush (v := 99) hx hb dX5_reaches_16 (by decide) ?_
      refine lv_icmp_gt (tgt := 32) hx hb dX5_reaches_18 (by decide) (fun b18 => ?_) (fun b18 => ?_)
      · skip
        have q18 := i_lt.mp b18
        rw [show (99 : Int32).toInt = 99 by decide] at q18
        have hnk : ¬ ((∃ j, j < gr_n G ∧ v = nI j) ∧ (-99 ≤ pI.toInt ∧ pI.toInt ≤ 99) ∧ 1 ≤ qI.toInt ∧ qI.toInt ≤ 9) := fun q => by have := q.2; omega
        skip
        refine lv_iconst (v := 1) hx hb dX5_reaches_32 (by decide) ?_
        refine lv_goto (tgt := 48) hx hb dX5_reaches_33 (by decide) ?_
        refine va_put (D := en.1) (ci := 5) (v := .int 1) (ty := .int) (C := RX5) (T := TX5) (N := 16) hx hb hts iw_X5_reaches_X5 tyX5 tyX5_ok nmX5 hown hE.1 hP (mw_D hI) hS 0 rfl rfl 0 (by decide) (hts (.fieldLink RX5 47 "CreditGameModel" "thrown" "I") (by decide +kernel)) (fun _ h9 => h9) rfl (by decide +kernel) rfl rfl (Nat.le_of_ble_eq_true rfl) dX5_reaches_48 (fun H locs hP _ hS => ?_)
        have hP : va_P en.1 vwCl (mw en bd (va_up d.1 0 (upd (d.1 0) 0 1), d.2)) H := hP
        obtain ⟨d48, ed48⟩ : ∃ z : mT, z = (va_up d.1 0 (upd (d.1 0) 0 1), d.2) := ⟨_, rfl⟩
        rw [← ed48] at hP
        have ht48 : mth d d48 _ := ed48
        have hm1 := ht48.mi hm
        refine lv_aload_n hx hb dX5_reaches_51 rfl (lv_at hl 0 rfl) ?_
        refine va_get (D := en.1) (ci := 5) (v := .int (d48.1 0 0)) (C := RX5) (T := TX5) (N := 16) hx hb hts iw_X5_reaches_X5 hown hE.1 hP 0 rfl rfl 0 (by decide) (hts (.fieldLink RX5 47 "CreditGameModel" "thrown" "I") (by decide +kernel)) (fun _ h9 => h9) rfl dX5_reaches_52 ?_
        refine lv_topi (fun z_52 ez_52 => ?_)
        obtain rfl : z_52 = 1 := (ez_52.trans (by rw [ed48]; rfl))
        refine lv_if_le (tgt := 60) hx hb dX5_reaches_55 (by decide) (fun b55 => absurd b55 (by decide)) (fun b55 => ?_)
        refine lv_iconst (v := 0) hx hb dX5_reaches_58 (by decide) ?_
        exact W.zret (v := 0) (ty := .boolean) hx hb hr rfl (fun t ht hW => ⟨⟨_, d48, rfl, (Or.inl ⟨hnk, ht48.thr, ht48.mci hc_⟩), by show va_P _ _ _ t.heap; rw [ht]; exact hP⟩, hS.F ht⟩) hS.2.2 dX5_reaches_59
      · skip
        have q18 : ¬ _ := fun q => b18 (i_lt.mpr q)
        rw [show (99 : Int32).toInt = 99 by decide] at q18
        refine lv_iload_n hx hb dX5_reaches_21 rfl (lv_at hl 3 rfl) ?_
        refine lv_iconst (v := 1) hx hb dX5_reaches_22 (by decide) ?_
        refine lv_icmp_lt (tgt := 32) hx hb dX5_reaches_23 (by decide) (fun b23 => ?_) (fun b23 => ?_)
        · skip
          have q23 := i_lt.mp b23
          rw [show (1 : Int32).toInt = 1 by decide] at q23
          have hnk : ¬ ((∃ j, j < gr_n G ∧ v = nI j) ∧ (-99 ≤ pI.toInt ∧ pI.toInt ≤ 99) ∧ 1 ≤ qI.toInt ∧ qI.toInt ≤ 9) := fun q => by have := q.2; omega
          skip
          refine lv_iconst (v := 1) hx hb dX5_reaches_32 (by decide) ?_
          refine lv_goto (tgt := 48) hx hb dX5_reaches_33 (by decide) ?_
          refine va_put (D := en.1) (ci := 5) (v := .int 1) (ty := .int) (C := RX5) (T := TX5) (N := 16) hx hb hts iw_X5_reaches_X5 tyX5 tyX5_ok nmX5 hown hE.1 hP (mw_D hI) hS 0 rfl rfl 0 (by decide) (hts (.fieldLink RX5 47 "CreditGameModel" "thrown" "I") (by decide +kernel)) (fun _ h9 => h9) rfl (by decide +kernel) rfl rfl (Nat.le_of_ble_eq_true rfl) dX5_reaches_48 (fun H locs hP _ hS => ?_)
          have hP : va_P en.1 vwCl (mw en bd (va_up d.1 0 (upd (d.1 0) 0 1), d.2)) H := hP
          obtain ⟨d48, ed48⟩ : ∃ z : mT, z = (va_up d.1 0 (upd (d.1 0) 0 1), d.2) := ⟨_, rfl⟩
          rw [← ed48] at hP
          have ht48 : mth d d48 _ := ed48
          have hm1 := ht48.mi hm
          refine lv_aload_n hx hb dX5_reaches_51 rfl (lv_at hl 0 rfl) ?_
          refine va_get (D := en.1) (ci := 5) (v := .int (d48.1 0 0)) (C := RX5) (T := TX5) (N := 16) hx hb hts iw_X5_reaches_X5 hown hE.1 hP 0 rfl rfl 0 (by decide) (hts (.fieldLink RX5 47 "CreditGameModel" "thrown" "I") (by decide +kernel)) (fun _ h9 => h9) rfl dX5_reaches_52 ?_
          refine lv_topi (fun z_52 ez_52 => ?_)
          obtain rfl : z_52 = 1 := (ez_52.trans (by rw [ed48]; rfl))
          refine lv_if_le (tgt := 60) hx hb dX5_reaches_55 (by decide) (fun b55 => absurd b55 (by decide)) (fun b55 => ?_)
          refine lv_iconst (v := 0) hx hb dX5_reaches_58 (by decide) ?_
          exact W.zret (v := 0) (ty := .boolean) hx hb hr rfl (fun t ht hW => ⟨⟨_, d48, rfl, (Or.inl ⟨hnk, ht48.thr, ht48.mci hc_⟩), by show va_P _ _ _ t.heap; rw [ht]; exact hP⟩, hS.F ht⟩) hS.2.2 dX5_reaches_59
        · skip
          have q23 : ¬ _ := fun q => b23 (i_lt.mpr q)
          rw [show (1 : Int32).toInt = 1 by decide] at q23
          refine lv_iload_n hx hb dX5_reaches_26 rfl (lv_at hl 3 rfl) ?_
          refine lv_bipush (v := 9) hx hb dX5_reaches_27 (by decide) ?_
          refine lv_icmp_le (tgt := 36) hx hb dX5_reaches_29 (by decide) (fun b29 => ?_) (fun b29 => ?_)
          · skip
            have q29 := i_le.mp b29
            rw [show (9 : Int32).toInt = 9 by decide] at q29
            have hrk : ((∃ j, j < gr_n G ∧ v = nI j) ∧ (-99 ≤ pI.toInt ∧ pI.toInt ≤ 99) ∧ 1 ≤ qI.toInt ∧ qI.toInt ≤ 9) := ⟨hv1, ⟨by omega, by omega⟩, by omega, by omega⟩
            refine lv_aload_n hx hb dX5_reaches_36 rfl (lv_at hl 0 rfl) ?_
            refine ro_calli (va_runV (As := []) (rest := [.ref (bd 0)]) ⟨hx, hb, hml, hown, hts⟩ (cm_isComplete l en bd d hm) (cwV 0 hts gX5_reaches_X5_isComplete rfl rfl rfl (by decide +kernel) ⟨Nat.le_of_ble_eq_true rfl, Nat.le_of_ble_eq_true rfl⟩) (ct_preV hE (va_recv hE.1 hP (ci := 5) (q0 := 0) rfl rfl) hP) rfl rfl hl.1 rfl (lv_room (Nat.le_of_ble_eq_true rfl)) dX5_reaches_37 ⟨Nat.le_of_ble_eq_true rfl, Nat.le_of_ble_eq_true rfl⟩) (fun r37 w37 => ?_)
            refine lv_if_eq (tgt := 47) hx hb dX5_reaches_40 (by decide) (fun b40 => ?_) (fun b40 => ?_)
            · skip
              skip
              have hcp : ¬ gr_cpl G := (w37.resolve_left (fun q => absurd (q.1.symm.trans b40) (by decide))).2
              refine lv_iconst (v := 2) hx hb dX5_reaches_47 (by decide) ?_
              refine va_put (D := en.1) (ci := 5) (v := .int 2) (ty := .int) (C := RX5) (T := TX5) (N := 16) hx hb hts iw_X5_reaches_X5 tyX5 tyX5_ok nmX5 hown hE.1 hP (mw_D hI) hS 0 rfl rfl 0 (by decide) (hts (.fieldLink RX5 47 "CreditGameModel" "thrown" "I") (by decide +kernel)) (fun _ h9 => h9) rfl (by decide +kernel) rfl rfl (Nat.le_of_ble_eq_true rfl) dX5_reaches_48 (fun H locs hP _ hS => ?_)
              have hP : va_P en.1 vwCl (mw en bd (va_up d.1 0 (upd (d.1 0) 0 2), d.2)) H := hP
              obtain ⟨d48, ed48⟩ : ∃ z : mT, z = (va_up d.1 0 (upd (d.1 0) 0 2), d.2) := ⟨_, rfl⟩
              rw [← ed48] at hP
              have ht48 : mth d d48 _ := ed48
              have hm1 := ht48.mi hm
              refine lv_aload_n hx hb dX5_reaches_51 rfl (lv_at hl 0 rfl) ?_
              refine va_get (D := en.1) (ci := 5) (v := .int (d48.1 0 0)) (C := RX5) (T := TX5) (N := 16) hx hb hts iw_X5_reaches_X5 hown hE.1 hP 0 rfl rfl 0 (by decide) (hts (.fieldLink RX5 47 "CreditGameModel" "thrown" "I") (by decide +kernel)) (fun _ h9 => h9) rfl dX5_reaches_52 ?_
              refine lv_topi (fun z_52 ez_52 => ?_)
              obtain rfl : z_52 = 2 := (ez_52.trans (by rw [ed48]; rfl))
              refine lv_if_le (tgt := 60) hx hb dX5_reaches_55 (by decide) (fun b55 => absurd b55 (by decide)) (fun b55 => ?_)
              refine lv_iconst (v := 0) hx hb dX5_reaches_58 (by decide) ?_
              exact W.zret (v := 0) (ty := .boolean) hx hb hr rfl (fun t ht hW => ⟨⟨_, d48, rfl, (Or.inr (Or.inl ⟨hrk, hcp, ht48.thr, ht48.mci hc_⟩)), by show va_P _ _ _ t.heap; rw [ht]; exact hP⟩, hS.F ht⟩) hS.2.2 dX5_reaches_59
            · skip
              skip
              have hcp : gr_cpl G := (w37.resolve_right (fun q => b40 q.1)).2
              refine lv_iconst (v := 0) hx hb dX5_reaches_43 (by decide) ?_
              refine lv_goto (tgt := 48) hx hb dX5_reaches_44 (by decide) ?_
              refine va_put (D := en.1) (ci := 5) (v := .int 0) (ty := .int) (C := RX5) (T := TX5) (N := 16) hx hb hts iw_X5_reaches_X5 tyX5 tyX5_ok nmX5 hown hE.1 hP (mw_D hI) hS 0 rfl rfl 0 (by decide) (hts (.fieldLink RX5 47 "CreditGameModel" "thrown" "I") (by decide +kernel)) (fun _ h9 => h9) rfl (by decide +kernel) rfl rfl (Nat.le_of_ble_eq_true rfl) dX5_reaches_48 (fun H locs hP _ hS => ?_)
              have hP : va_P en.1 vwCl (mw en bd (va_up d.1 0 (upd (d.1 0) 0 0), d.2)) H := hP
              obtain ⟨d48, ed48⟩ : ∃ z : mT, z = (va_up d.1 0 (upd (d.1 0) 0 0), d.2) := ⟨_, rfl⟩
              rw [← ed48] at hP
              have ht48 : mth d d48 _ := ed48
              have hm1 := ht48.mi hm
              refine lv_aload_n hx hb dX5_reaches_51 rfl (lv_at hl 0 rfl) ?_
              refine va_get (D := en.1) (ci := 5) (v := .int (d48.1 0 0)) (C := RX5) (T := TX5) (N := 16) hx hb hts iw_X5_reaches_X5 hown hE.1 hP 0 rfl rfl 0 (by decide) (hts (.fieldLink RX5 47 "CreditGameModel" "thrown" "I") (by decide +kernel)) (fun _ h9 => h9) rfl dX5_reaches_52 ?_
              refine lv_topi (fun z_52 ez_52 => ?_)
              obtain rfl : z_52 = 0 := (ez_52.trans (by rw [ed48]; rfl))
              refine lv_if_le (tgt := 60) hx hb dX5_reaches_55 (by decide) (fun b55 => ?_) (fun b55 => absurd b55 (fun q => q (by decide)))
              refine lv_aload_n hx hb dX5_reaches_60 rfl (lv_at hl 0 rfl) ?_
              refine mr_callv (va_runV (As := []) (rest := []) ⟨hx, hb, hml, hown, hts⟩ (cm_findValues l en bd d48 hI _ (ht48.mci hc_) hcp) (cwV 0 hts gX5_reaches_X5_findValues rfl rfl rfl (by decide +kernel) ⟨Nat.le_of_ble_eq_true rfl, Nat.le_of_ble_eq_true rfl⟩) (ct_preV hE (va_recv hE.1 hP (ci := 5) (q0 := 0) rfl rfl) ⟨rfl, hP⟩) rfl rfl hl.1 rfl (lv_room (Nat.le_of_ble_eq_true rfl)) dX5_reaches_61 ⟨Nat.le_of_ble_eq_true rfl, Nat.le_of_ble_eq_true rfl⟩) hS (fun d61 H locs w61 hP hS => ?_)
              refine lv_aload_n hx hb dX5_reaches_64 rfl (lv_at hl 0 rfl) ?_
              refine va_get (D := en.1) (ci := 5) (v := .ref (bd 6)) (C := RX5) (T := TX5) (N := 16) hx hb hts iw_X5_reaches_X5 hown hE.1 hP 0 rfl rfl 9 (by decide) (hts (.fieldLink RX5 25 "CreditGameModel" "above" "[I") (by decide +kernel)) (fun _ h9 => h9) rfl dX5_reaches_65 ?_
              refine lv_iload_n hx hb dX5_reaches_68 rfl (lv_at hl 1 rfl) ?_
              refine mr_ild hx hb hE hP 6 (by decide) j ej (show _ < 7 by omega) dX5_reaches_69 ?_
              refine lv_iload_n hx hb dX5_reaches_70 rfl (lv_at hl 3 rfl) ?_
              refine lv_imul hx hb dX5_reaches_71 ?_
              refine lv_iload_n hx hb dX5_reaches_72 rfl (lv_at hl 2 rfl) ?_
              refine lv_aload_n hx hb dX5_reaches_73 rfl (lv_at hl 0 rfl) ?_
              refine va_get (D := en.1) (ci := 5) (v := .ref (bd 7)) (C := RX5) (T := TX5) (N := 16) hx hb hts iw_X5_reaches_X5 hown hE.1 hP 0 rfl rfl 10 (by decide) (hts (.fieldLink RX5 28 "CreditGameModel" "below" "[I") (by decide +kernel)) (fun _ h9 => h9) rfl dX5_reaches_74 ?_
              refine lv_iload_n hx hb dX5_reaches_77 rfl (lv_at hl 1 rfl) ?_
              refine mr_ild hx hb hE hP 7 (by decide) j ej (show _ < 7 by omega) dX5_reaches_78 ?_
              have ea : (d61.1 6 j).toInt = vl_t (vl_F G j) := (w61.2.2.2 j hj).1
              have eb : (d61.1 7 j).toInt = (vl_q (vl_F G j) : Int) := by rw [(w61.2.2.2 j hj).2]; exact nI_toInt (by have := vl_q_bd (vl_F G j); omega)
              have hq0 := vl_q_bd (vl_F G j)
              have hFb := vl_F_bd hm.1 hcp hj
              have htb := vl_t_bd hFb.1 hFb.2
              have m1 := ab_mul (a := vl_t (vl_F G j)) (b := qI.toInt) (A := 63) (B := 9) (by omega) (by omega) (by omega) (by omega)
              have m2 := ab_mul (a := pI.toInt) (b := (vl_q (vl_F G j) : Int)) (A := 99) (B := 7) (by omega) (by omega) (by omega) (by omega)
              have e71 : (d61.1 6 j * qI).toInt = vl_t (vl_F G j) * qI.toInt := by rw [i_mul (by rw [ea]; omega) (by rw [ea]; omega), ea]
              have e79 : (pI * d61.1 7 j).toInt = pI.toInt * (vl_q (vl_F G j) : Int) := by rw [i_mul (by rw [eb]; omega) (by rw [eb]; omega), eb]
              have hrs := rs_m (p := pI.toInt) (q := qI.toInt) hm.1 hcp hj (by omega) (by omega)
              refine lv_imul hx hb dX5_reaches_79 ?_
              refine lv_icmp_lt (tgt := 87) hx hb dX5_reaches_80 (by decide) (fun b80 => ?_) (fun b80 => ?_)
              · skip
                have q80 : ¬ pI.toInt * 420 ≤ vl_F G j * qI.toInt := fun h9 => by have h8 := i_lt.mp b80; rw [e71, e79] at h8; have := hrs.mpr h9; omega
                refine lv_iconst (v := 0) hx hb dX5_reaches_87 (by decide) ?_
                exact W.zret (v := 0) (ty := .boolean) hx hb hr rfl (fun t ht hW => ⟨⟨_, d61, rfl, (Or.inr (Or.inr ⟨hcp, hrk, ⟨j, hj, ej, (if_neg q80).symm⟩, by rw [w61.2.1 0 (by omega)]; exact ht48.thr, fv_mci w61 hm1 hcp⟩)), by show va_P _ _ _ t.heap; rw [ht]; exact hP⟩, hS.F ht⟩) hS.2.2 dX5_reaches_88
              · skip
                have q80 : pI.toInt * 420 ≤ vl_F G j * qI.toInt := hrs.mp (by
                  rcases (show vl_t (vl_F G j) * qI.toInt < pI.toInt * (vl_q (vl_F G j) : Int) ∨ pI.toInt * (vl_q (vl_F G j) : Int) ≤ vl_t (vl_F G j) * qI.toInt by omega) with h9 | h9
                  · exact absurd (i_lt.mpr (by rw [e71, e79]; exact h9)) b80
                  · exact h9)
                refine lv_iconst (v := 1) hx hb dX5_reaches_83 (by decide) ?_
                refine lv_goto (tgt := 88) hx hb dX5_reaches_84 (by decide) ?_
                exact W.zret (v := 1) (ty := .boolean) hx hb hr rfl (fun t ht hW => ⟨⟨_, d61, rfl, (Or.inr (Or.inr ⟨hcp, hrk, ⟨j, hj, ej, (if_pos q80).symm⟩, by rw [w61.2.1 0 (by omega)]; exact ht48.thr, fv_mci w61 hm1 hcp⟩)), by show va_P _ _ _ t.heap; rw [ht]; exact hP⟩, hS.F ht⟩) hS.2.2 dX5_reaches_88
          · skip
            skip
            have q29 : ¬ _ := fun q => b29 (i_le.mpr q)
            rw [show (9 : Int32).toInt = 9 by decide] at q29
            have hnk : ¬ ((∃ j, j < gr_n G ∧ v = nI j) ∧ (-99 ≤ pI.toInt ∧ pI.toInt ≤ 99) ∧ 1 ≤ qI.toInt ∧ qI.toInt ≤ 9) := fun q => by have := q.2; omega
            refine lv_iconst (v := 1) hx hb dX5_reaches_32 (by decide) ?_
            refine lv_goto (tgt := 48) hx hb dX5_reaches_33 (by decide) ?_
            refine va_put (D := en.1) (ci := 5) (v := .int 1) (ty := .int) (C := RX5) (T := TX5) (N := 16) hx hb hts iw_X5_reaches_X5 tyX5 tyX5_ok nmX5 hown hE.1 hP (mw_D hI) hS 0 rfl rfl 0 (by decide) (hts (.fieldLink RX5 47 "CreditGameModel" "thrown" "I") (by decide +kernel)) (fun _ h9 => h9) rfl (by decide +kernel) rfl rfl (Nat.le_of_ble_eq_true rfl) dX5_reaches_48 (fun H locs hP _ hS => ?_)
            have hP : va_P en.1 vwCl (mw en bd (va_up d.1 0 (upd (d.1 0) 0 1), d.2)) H := hP
            obtain ⟨d48, ed48⟩ : ∃ z : mT, z = (va_up d.1 0 (upd (d.1 0) 0 1), d.2) := ⟨_, rfl⟩
            rw [← ed48] at hP
            have ht48 : mth d d48 _ := ed48
            have hm1 := ht48.mi hm
            refine lv_aload_n hx hb dX5_reaches_51 rfl (lv_at hl 0 rfl) ?_
            refine va_get (D := en.1) (ci := 5) (v := .int (d48.1 0 0)) (C := RX5) (T := TX5) (N := 16) hx hb hts iw_X5_reaches_X5 hown hE.1 hP 0 rfl rfl 0 (by decide) (hts (.fieldLink RX5 47 "CreditGameModel" "thrown" "I") (by decide +kernel)) (fun _ h9 => h9) rfl dX5_reaches_52 ?_
            refine lv_topi (fun z_52 ez_52 => ?_)
            obtain rfl : z_52 = 1 := (ez_52.trans (by rw [ed48]; rfl))
            refine lv_if_le (tgt := 60) hx hb dX5_reaches_55 (by decide) (fun b55 => absurd b55 (by decide)) (fun b55 => ?_)
            refine lv_iconst (v := 0) hx hb dX5_reaches_58 (by decide) ?_
            exact W.zret (v := 0) (ty := .boolean) hx hb hr rfl (fun t ht hW => ⟨⟨_, d48, rfl, (Or.inl ⟨hnk, ht48.thr, ht48.mci hc_⟩), by show va_P _ _ _ t.heap; rw [ht]; exact hP⟩, hS.F ht⟩) hS.2.2 dX5_reaches_59
theorem iw_X5_value_X5 : ∀ w ∈ wsX50, w ∈ wsX5_value := by decide +kernel
set_option maxHeartbeats 4000000 in
set_option maxRecDepth 100000 in
/--  -/
theorem cm_value (l : Launch) (en : en_T) (bd : Nat → Nat) (d : mT) (hI : mw_I bd) (sz : Nat) {G : gr_T} (hc_ : mci G d) (v x : Int32) : Met l yX5_value wsX5_value (rm_ 6 0 0) (ct_Pc en [.ref (bd 0), .int v, .int x] (fun H => H.size = sz ∧ va_P en.1 vwCl (mw en bd d) H)) (va_Qi (fun r d' => (¬ (∃ j, j < gr_n G ∧ v = nI j) ∧ d'.1 0 0 = 1 ∧ mci G d') ∨ ((∃ j, j < gr_n G ∧ v = nI j) ∧ ¬ gr_cpl G ∧ d'.1 0 0 = 2 ∧ mci G d') ∨ (gr_cpl G ∧ (∃ j, j < gr_n G ∧ v = nI j ∧ (¬ x = 0 → r = nI (vl_q (vl_F G j))) ∧ (x = 0 → r.toInt = vl_t (vl_F G j))) ∧ d'.1 0 0 = 0 ∧ mci G d')) (fun d' t => va_P en.1 vwCl (mw en bd d') t.heap) (mw_A bd sz)) 0 0 (mw_A bd sz) := by
  refine Met.ofW (cc := cX5_value) (maxL := 3) (ret := (some .int)) (by decide) rfl ?_
  intro p e s m args below meth co s₁ B hml hv
  obtain ⟨rfl, hE, hsz, hP⟩ := hv
  subst hsz
  have hx := B.exec
  have hb := B.bytes
  have hr := B.returns
  have hts := atoms_spec (ws := wsX5_value) B.pre
  have hown : s.vm.findClass RX5 = some m.cls := findClass_of_methodNamed B.named
  have hlocks := B.notSynchronized
  have hS : va_S (mw_A bd s.heap.size) s.heap s.heap [] := va_S.rf
  have hl := lv_entry ([.ref (bd 0), .int v, .int x]) (n := 3) (Nat.le_of_ble_eq_true rfl)
  rw [lg_entry_eq]
  generalize (lg_sl ([.ref (bd 0), .int v, .int x]) ++ List.replicate (3 - (lg_sl ([.ref (bd 0), .int v, .int x])).length) Slot.unset).toArray = ls at hl ⊢
  have hl : lv_has ls 3 [(0, .ref (bd 0)), (1, .int v), (2, .int x)] := hl
  have hm := hc_.1
  have hn7 := hm.n7
  have he24 := hm.e24
  refine lv_aload_n hx hb dX5_value_0 rfl (lv_at hl 0 rfl) ?_
  refine lv_iload_n hx hb dX5_value_1 rfl (lv_at hl 1 rfl) ?_
  refine mr_calli (va_runV (As := [.int v]) (rest := []) ⟨hx, hb, hml, hown, hts⟩ (cm_refuses l en bd d hI _ hm v) (cwV 1 hts gX5_value_X5_refuses rfl rfl rfl (by decide +kernel) ⟨Nat.le_of_ble_eq_true rfl, Nat.le_of_ble_eq_true rfl⟩) (ct_preV hE (va_recv hE.1 hP (ci := 5) (q0 := 0) rfl rfl) ⟨rfl, hP⟩) rfl rfl hl.1 rfl (lv_room (Nat.le_of_ble_eq_true rfl)) dX5_value_2 ⟨Nat.le_of_ble_eq_true rfl, Nat.le_of_ble_eq_true rfl⟩) hS (fun r2 d2 H locs w2 hP hS => ?_)
  refine lv_if_eq (tgt := 10) hx hb dX5_value_5 (by decide) (fun b5 => ?_) (fun b5 => ?_)
  · skip
    obtain ⟨-, ⟨j, hj, ej⟩, hcp, hth⟩ := (w2.resolve_left (fun q => absurd (q.1.symm.trans b5) (by decide))).resolve_left (fun q => absurd (q.1.symm.trans b5) (by decide))
    have hm1 := hth.mi hm
    refine lv_aload_n hx hb dX5_value_10 rfl (lv_at hl 0 rfl) ?_
    refine mr_callv (va_runV (As := []) (rest := []) ⟨hx, hb, hml, hown, hts⟩ (cm_findValues l en bd d2 hI _ (hth.mci hc_) hcp) (cwV 0 hts gX5_value_X5_findValues rfl rfl rfl (by decide +kernel) ⟨Nat.le_of_ble_eq_true rfl, Nat.le_of_ble_eq_true rfl⟩) (ct_preV hE (va_recv hE.1 hP (ci := 5) (q0 := 0) rfl rfl) ⟨rfl, hP⟩) rfl rfl hl.1 rfl (lv_room (Nat.le_of_ble_eq_true rfl)) dX5_value_11 ⟨Nat.le_of_ble_eq_true rfl, Nat.le_of_ble_eq_true rfl⟩) hS (fun d11 H locs w11 hP hS => ?_)
    refine lv_iload_n hx hb dX5_value_14 rfl (lv_at hl 2 rfl) ?_
    refine lv_if_eq (tgt := 27) hx hb dX5_value_15 (by decide) (fun b15 => ?_) (fun b15 => ?_)
    · skip
      skip
      refine lv_aload_n hx hb dX5_value_27 rfl (lv_at hl 0 rfl) ?_
      refine va_get (D := en.1) (ci := 5) (v := .ref (bd 6)) (C := RX5) (T := TX5) (N := 16) hx hb hts iw_X5_value_X5 hown hE.1 hP 0 rfl rfl 9 (by decide) (hts (.fieldLink RX5 25 "CreditGameModel" "above" "[I") (by decide +kernel)) (fun _ h9 => h9) rfl dX5_value_28 ?_
      refine lv_iload_n hx hb dX5_value_31 rfl (lv_at hl 1 rfl) ?_
      refine mr_ild hx hb hE hP 6 (by decide) j ej (show _ < 7 by omega) dX5_value_32 ?_
      exact W.iret (v := (d11.1 6 j)) hx hb hr (fun t ht hW => ⟨⟨_, d11, rfl, (Or.inr (Or.inr ⟨hcp, ⟨j, hj, ej, fun q => absurd b15 q, fun _ => (w11.2.2.2 j hj).1⟩, by rw [w11.2.1 0 (by omega)]; exact hth.thr, fv_mci w11 hm1 hcp⟩)), by show va_P _ _ _ t.heap; rw [ht]; exact hP⟩, hS.F ht⟩) hS.2.2 dX5_value_33
    · skip
      skip
      refine lv_aload_n hx hb dX5_value_18 rfl (lv_at hl 0 rfl) ?_
      refine va_get (D := en.1) (ci := 5) (v := .ref (bd 7)) (C := RX5) (T := TX5) (N := 16) hx hb hts iw_X5_value_X5 hown hE.1 hP 0 rfl rfl 10 (by decide) (hts (.fieldLink RX5 28 "CreditGameModel" "below" "[I") (by decide +kernel)) (fun _ h9 => h9) rfl dX5_value_19 ?_
      refine lv_iload_n hx hb dX5_value_22 rfl (lv_at hl 1 rfl) ?_
      refine mr_ild hx hb hE hP 7 (by decide) j ej (show _ < 7 by omega) dX5_value_23 ?_
      refine lv_goto (tgt := 33) hx hb dX5_value_24 (by decide) ?_
      exact W.iret (v := (d11.1 7 j)) hx hb hr (fun t ht hW => ⟨⟨_, d11, rfl, (Or.inr (Or.inr ⟨hcp, ⟨j, hj, ej, fun _ => (w11.2.2.2 j hj).2, fun q => absurd q b15⟩, by rw [w11.2.1 0 (by omega)]; exact hth.thr, fv_mci w11 hm1 hcp⟩)), by show va_P _ _ _ t.heap; rw [ht]; exact hP⟩, hS.F ht⟩) hS.2.2 dX5_value_33
  · skip
    have hrf : (¬ (∃ j, j < gr_n G ∧ v = nI j) ∧ d2.1 0 0 = 1 ∧ mci G d2) ∨ ((∃ j, j < gr_n G ∧ v = nI j) ∧ ¬ gr_cpl G ∧ d2.1 0 0 = 2 ∧ mci G d2) := by
      rcases w2 with q | q | q
      · exact Or.inl ⟨q.2.1, q.2.2.thr, q.2.2.mci hc_⟩
      · exact Or.inr ⟨q.2.1, q.2.2.1, q.2.2.2.thr, q.2.2.2.mci hc_⟩
      · exact absurd q.1 b5
    skip
    refine lv_iconst (v := 0) hx hb dX5_value_8 (by decide) ?_
    exact W.iret (v := 0) hx hb hr (fun t ht hW => ⟨⟨_, d2, rfl, (hrf.elim Or.inl (fun q => Or.inr (Or.inl q))), by show va_P _ _ _ t.heap; rw [ht]; exact hP⟩, hS.F ht⟩) hS.2.2 dX5_value_9
theorem iw_X5_bestOf_X5 : ∀ w ∈ wsX50, w ∈ wsX5_bestOf := by decide +kernel
set_option maxHeartbeats 4000000 in
set_option maxRecDepth 100000 in
/--  -/
theorem cm_bestOf (l : Launch) (en : en_T) (bd : Nat → Nat) (d : mT) (hI : mw_I bd) (sz : Nat) {G : gr_T} (hc_ : mci G d) (hc : gr_cpl G) (j : Nat) (hj : j < gr_n G) : Met l yX5_bestOf wsX5_bestOf (rm_ 6 0 0) (ct_Pc en [.ref (bd 0), .int (nI j)] (fun H => H.size = sz ∧ va_P en.1 vwCl (mw en bd d) H)) (va_Qi (fun r d' => r = nI (gr_best G j) ∧ bk G d d') (fun d' t => va_P en.1 vwCl (mw en bd d') t.heap) (mw_A bd sz)) 0 0 (mw_A bd sz) := by
  refine Met.ofW (cc := cX5_bestOf) (maxL := 8) (ret := (some .int)) (by decide) rfl ?_
  intro p e s m args below meth co s₁ B hml hv
  obtain ⟨rfl, hE, hsz, hP⟩ := hv
  subst hsz
  have hx := B.exec
  have hb := B.bytes
  have hr := B.returns
  have hts := atoms_spec (ws := wsX5_bestOf) B.pre
  have hown : s.vm.findClass RX5 = some m.cls := findClass_of_methodNamed B.named
  have hlocks := B.notSynchronized
  have hS : va_S (mw_A bd s.heap.size) s.heap s.heap [] := va_S.rf
  have hl := lv_entry ([.ref (bd 0), .int (nI j)]) (n := 8) (Nat.le_of_ble_eq_true rfl)
  rw [lg_entry_eq]
  generalize (lg_sl ([.ref (bd 0), .int (nI j)]) ++ List.replicate (8 - (lg_sl ([.ref (bd 0), .int (nI j)])).length) Slot.unset).toArray = ls at hl ⊢
  have hl : lv_has ls 8 [(0, .ref (bd 0)), (1, .int (nI j))] := hl
  have hm := hc_.1
  have hn7 := hm.n7
  have he24 := hm.e24
  refine lv_aload_n hx hb dX5_bestOf_0 rfl (lv_at hl 0 rfl) ?_
  refine mr_callv (va_runV (As := []) (rest := []) ⟨hx, hb, hml, hown, hts⟩ (cm_findValues l en bd d hI _ hc_ hc) (cwV 0 hts gX5_bestOf_X5_findValues rfl rfl rfl (by decide +kernel) ⟨Nat.le_of_ble_eq_true rfl, Nat.le_of_ble_eq_true rfl⟩) (ct_preV hE (va_recv hE.1 hP (ci := 5) (q0 := 0) rfl rfl) ⟨rfl, hP⟩) rfl rfl hl.1 rfl (lv_room (Nat.le_of_ble_eq_true rfl)) dX5_bestOf_1 ⟨Nat.le_of_ble_eq_true rfl, Nat.le_of_ble_eq_true rfl⟩) hS (fun d1 H locs w1 hP hS => ?_)
  have hm1 : mi G d1 := fv_mi w1 hm
  have hq0 := vl_q_bd (vl_F G j)
  have hFb := vl_F_bd hm.1 hc hj
  have htb := vl_t_bd hFb.1 hFb.2
  have ea : (d1.1 6 j).toInt = vl_t (vl_F G j) := (w1.2.2.2 j hj).1
  have eb : (d1.1 7 j).toInt = (vl_q (vl_F G j) : Int) := by rw [(w1.2.2.2 j hj).2]; exact nI_toInt (by omega)
  refine lv_aload_n hx hb dX5_bestOf_4 rfl (lv_at hl 0 rfl) ?_
  refine va_get (D := en.1) (ci := 5) (v := .ref (bd 6)) (C := RX5) (T := TX5) (N := 16) hx hb hts iw_X5_bestOf_X5 hown hE.1 hP 0 rfl rfl 9 (by decide) (hts (.fieldLink RX5 25 "CreditGameModel" "above" "[I") (by decide +kernel)) (fun _ h9 => h9) rfl dX5_bestOf_5 ?_
  refine lv_iload_n hx hb dX5_bestOf_8 rfl (lv_at hl 1 rfl) ?_
  refine mr_ild hx hb hE hP 6 (by decide) j rfl (show _ < 7 by omega) dX5_bestOf_9 ?_
  refine lv_istore_n (lv' := [(2, .int (d1.1 6 j)), (0, .ref (bd 0)), (1, .int (nI j))]) hx hb dX5_bestOf_10 rfl hl (by decide) rfl (fun ls hl => ?_)
  refine lv_aload_n hx hb dX5_bestOf_11 rfl (lv_at hl 1 rfl) ?_
  refine va_get (D := en.1) (ci := 5) (v := .ref (bd 7)) (C := RX5) (T := TX5) (N := 16) hx hb hts iw_X5_bestOf_X5 hown hE.1 hP 0 rfl rfl 10 (by decide) (hts (.fieldLink RX5 28 "CreditGameModel" "below" "[I") (by decide +kernel)) (fun _ h9 => h9) rfl dX5_bestOf_12 ?_
  refine lv_iload_n hx hb dX5_bestOf_15 rfl (lv_at hl 2 rfl) ?_
  refine mr_ild hx hb hE hP 7 (by decide) j rfl (show _ < 7 by omega) dX5_bestOf_16 ?_
  refine lv_istore_n (lv' := [(3, .int (d1.1 7 j)), (2, .int (d1.1 6 j)), (0, .ref (bd 0)), (1, .int (nI j))]) hx hb dX5_bestOf_17 rfl hl (by decide) rfl (fun ls hl => ?_)
  refine lv_aload_n hx hb dX5_bestOf_18 rfl (lv_at hl 2 rfl) ?_
  refine va_get (D := en.1) (ci := 5) (v := .ref (bd 1)) (C := RX5) (T := TX5) (N := 16) hx hb hts iw_X5_bestOf_X5 hown hE.1 hP 0 rfl rfl 2 (by decide) (hts (.fieldLink RX5 7 "CreditGameModel" "player" "[I") (by decide +kernel)) (fun _ h9 => h9) rfl dX5_bestOf_19 ?_
  refine lv_iload_n hx hb dX5_bestOf_22 rfl (lv_at hl 3 rfl) ?_
  refine mr_ild hx hb hE hP 1 (by decide) j rfl (show _ < 7 by omega) dX5_bestOf_23 ?_
  refine lv_topi (fun z_23 ez_23 => ?_)
  obtain rfl : z_23 = (gr_own G j) := (ez_23.trans (hm1.2.2.2.1 j hj).1)
  refine lv_if_ne (tgt := 31) hx hb dX5_bestOf_24 (by decide) (fun b24 => ?_) (fun b24 => ?_)
  · skip
    skip
    refine lv_iconst (v := 0) hx hb dX5_bestOf_31 (by decide) ?_
    refine lv_istore (lv' := [(4, .int 0), (3, .int (d1.1 7 j)), (2, .int (d1.1 6 j)), (0, .ref (bd 0)), (1, .int (nI j))]) hx hb dX5_bestOf_32 hl (by decide) rfl (fun ls hl => ?_)
    refine lv_iload hx hb dX5_bestOf_34 (lv_at hl 0 rfl) ?_
    refine lv_if_eq (tgt := 43) hx hb dX5_bestOf_36 (by decide) (fun b36 => ?_) (fun b36 => absurd b36 (fun q => q rfl))
    refine lv_iload_n hx hb dX5_bestOf_43 rfl (lv_at hl 1 rfl) ?_
    refine lv_ineg hx hb dX5_bestOf_44 ?_
    refine lv_istore (lv' := [(5, .int (-(d1.1 7 j))), (4, .int 0), (3, .int (d1.1 7 j)), (2, .int (d1.1 6 j)), (0, .ref (bd 0)), (1, .int (nI j))]) hx hb dX5_bestOf_45 hl (by decide) rfl (fun ls hl => ?_)
    refine lv_iload hx hb dX5_bestOf_47 (lv_at hl 1 rfl) ?_
    refine lv_if_eq (tgt := 56) hx hb dX5_bestOf_49 (by decide) (fun b49 => ?_) (fun b49 => absurd b49 (fun q => q rfl))
    refine lv_iload_n hx hb dX5_bestOf_56 rfl (lv_at hl 3 rfl) ?_
    refine lv_ineg hx hb dX5_bestOf_57 ?_
    refine lv_istore (lv' := [(6, .int (-(d1.1 6 j))), (5, .int (-(d1.1 7 j))), (4, .int 0), (3, .int (d1.1 7 j)), (2, .int (d1.1 6 j)), (0, .ref (bd 0)), (1, .int (nI j))]) hx hb dX5_bestOf_58 hl (by decide) rfl (fun ls hl => ?_)
    refine lv_aload_n hx hb dX5_bestOf_60 rfl (lv_at hl 5 rfl) ?_
    refine lv_iload hx hb dX5_bestOf_61 (lv_at hl 1 rfl) ?_
    refine lv_iload hx hb dX5_bestOf_63 (lv_at hl 0 rfl) ?_
    refine lv_iload hx hb dX5_bestOf_65 (lv_at hl 2 rfl) ?_
    refine lv_if_eq (tgt := 74) hx hb dX5_bestOf_67 (by decide) (fun b67 => ?_) (fun b67 => absurd b67 (fun q => q rfl))
    refine lv_iconst (v := (nI 1)) hx hb dX5_bestOf_74 (by decide) ?_
    refine lv_topi (fun z_75 ez_75 => ?_)
    obtain rfl : z_75 = nI (gr_pl G j) := ez_75.trans (by rw [gr_pl1 b24])
    have hwt : wt_ok G (gr_pl G j) (vl_t (vl_F G j)) (vl_q (vl_F G j) : Int) (-(d1.1 7 j)) (-(d1.1 6 j)) := by
      rw [gr_pl1 b24]; exact wt_b1 (by rw [i_neg (by rw [eb]; omega), eb]) (by rw [i_neg (by rw [ea]; omega), ea]) (by omega) (by omega)
    refine mr_callv (va_runV (As := [.int (-(d1.1 7 j)), .int (-(d1.1 6 j)), .int (nI (gr_pl G j))]) (rest := []) ⟨hx, hb, hml, hown, hts⟩ (cm_findNeeds l en bd d1 hI _ hm1 hc (gr_pl G j) (gr_pl_2 G j) (vl_t (vl_F G j)) (vl_q (vl_F G j) : Int) (by omega) (by omega) (by omega) (by omega) (-(d1.1 7 j)) (-(d1.1 6 j)) hwt) (cwV 3 hts gX5_bestOf_X5_findNeeds rfl rfl rfl (by decide +kernel) ⟨Nat.le_of_ble_eq_true rfl, Nat.le_of_ble_eq_true rfl⟩) (ct_preV hE (va_recv hE.1 hP (ci := 5) (q0 := 0) rfl rfl) ⟨rfl, hP⟩) rfl rfl hl.1 rfl (lv_room (Nat.le_of_ble_eq_true rfl)) dX5_bestOf_75 ⟨Nat.le_of_ble_eq_true rfl, Nat.le_of_ble_eq_true rfl⟩) hS (fun d75 H locs w75 hP hS => ?_)
    refine lv_iconst (v := (nI 0)) hx hb dX5_bestOf_78 (by decide) ?_
    refine lv_istore (lv' := [(7, .int (nI 0)), (6, .int (-(d1.1 6 j))), (5, .int (-(d1.1 7 j))), (4, .int 0), (3, .int (d1.1 7 j)), (2, .int (d1.1 6 j)), (0, .ref (bd 0)), (1, .int (nI j))]) hx hb dX5_bestOf_79 hl (by decide) rfl (fun ls hl => ?_)
    obtain ⟨tI, htI⟩ : ∃ y : Int32, y = (-(d1.1 7 j)) := ⟨_, rfl⟩
    obtain ⟨oI, hoI⟩ : ∃ y : Int32, y = (-(d1.1 6 j)) := ⟨_, rfl⟩
    rw [← htI, ← hoI] at hwt hl
    have hf := w75.2.1
    have hs0 := gr_self hm.1 hc hj hf
    have hsj : fM d75 j ≠ 1000000 := fun q => by have h9 : (0 : Int) ≤ if fM d75 j = 1000000 then -1 else fM d75 j := hs0; rw [if_pos q] at h9; omega
    have hm5 : mi G d75 := w75.1.mi hm1 (by decide)
    have hrj := w75.2.2 j hj
    have key81 : ∀ (n_ : Nat) (i : Nat) (ls : Array Slot), i ≤ gr_E G → gr_E G + 1 ≤ i + n_ → (∀ y, y < i → y ∈ gr_adj G j → ¬ gr_bp G j y) → lv_has ls 8 [(0, .ref (bd 0)), (1, .int (nI j)), (5, .int tI), (6, .int oI), (7, .int (nI i))] → W p l e (headSpec wsX5_bestOf (rm_ 6 0 0)).room s m ([.ref (bd 0), .int (nI j)] : List Value).toArray below meth co H locs 0 0 (MQ below (va_Qi (fun r d' => r = nI (gr_best G j) ∧ bk G d d') (fun d' t => va_P en.1 vwCl (mw en bd d') t.heap) (mw_A bd s.heap.size)) ([.ref (bd 0), .int (nI j)] : List Value).toArray s 0 0 (mw_A bd s.heap.size)) (F0 m 81 ls []) := by
      intro n_
      induction n_ with
      | zero =>
        intro i ls hi_ hin hno hl
        exact absurd hin (by omega)
      | succ n_ ih81 =>
        intro i ls hi_ hin hno hl
        refine lv_iload hx hb dX5_bestOf_81 (lv_at hl 4 rfl) ?_
        refine lv_aload_n hx hb dX5_bestOf_83 rfl (lv_at hl 0 rfl) ?_
        refine va_get (D := en.1) (ci := 5) (v := .int (d75.1 0 2)) (C := RX5) (T := TX5) (N := 16) hx hb hts iw_X5_bestOf_X5 hown hE.1 hP 0 rfl rfl 4 (by decide) (hts (.fieldLink RX5 54 "CreditGameModel" "edges" "I") (by decide +kernel)) (fun _ h9 => h9) rfl dX5_bestOf_84 ?_
        refine lv_icmp_ge (tgt := 164) hx hb dX5_bestOf_87 (by decide) (fun b87 => ?_) (fun b87 => ?_)
        · skip
          have hin9 : i = gr_E G := by
            rcases Nat.lt_or_ge i (gr_E G) with q | q
            · exact absurd b87 (by rw [hm5.2.2.1]; exact nI_ge q (by omega))
            · omega
          obtain ⟨x9, hx9, hb9⟩ := gr_best_ex hm.1 hc hj hf
          exact absurd hb9 (hno x9 (by have := (gr_adj_mem hm.1 hj hx9).1; omega) hx9)
        · skip
          have hlt : i < gr_E G := by
            rcases Nat.lt_or_ge i (gr_E G) with q | q
            · exact q
            · exact absurd (by rw [hm5.2.2.1]; exact nI_le q (by omega)) b87
          refine lv_aload_n hx hb dX5_bestOf_90 rfl (lv_at hl 0 rfl) ?_
          refine lv_iload hx hb dX5_bestOf_91 (lv_at hl 4 rfl) ?_
          refine lv_iload_n hx hb dX5_bestOf_93 rfl (lv_at hl 1 rfl) ?_
          refine ro_calli (va_runV (As := [.int (nI i), .int (nI j)]) (rest := []) ⟨hx, hb, hml, hown, hts⟩ (cm_leads l en bd d75 hm5 i j hlt hj) (cwV 2 hts gX5_bestOf_X5_leads rfl rfl rfl (by decide +kernel) ⟨Nat.le_of_ble_eq_true rfl, Nat.le_of_ble_eq_true rfl⟩) (ct_preV hE (va_recv hE.1 hP (ci := 5) (q0 := 0) rfl rfl) hP) rfl rfl hl.1 rfl (lv_room (Nat.le_of_ble_eq_true rfl)) dX5_bestOf_94 ⟨Nat.le_of_ble_eq_true rfl, Nat.le_of_ble_eq_true rfl⟩) (fun r94 w94 => ?_)
          refine lv_if_eq (tgt := 158) hx hb dX5_bestOf_97 (by decide) (fun b97 => ?_) (fun b97 => ?_)
          · skip
            skip
            have hnx : i ∉ gr_adj G j := (w94.resolve_left (fun q => absurd (q.1.symm.trans b97) (by decide))).2
            refine lv_iinc (v := (nI (i + 1))) (lv' := [(7, .int (nI (i + 1))), (0, .ref (bd 0)), (1, .int (nI j)), (5, .int tI), (6, .int oI)]) hx hb dX5_bestOf_158 hl (k := 4) rfl (nI_1 _) (by decide) rfl (fun ls hl => ?_)
            refine lv_goto (tgt := 81) hx hb dX5_bestOf_161 (by decide) ?_
            exact ih81 (i + 1) _ (by omega) (by omega) (fun y hy hin9 => by by_cases e9 : y = i; rw [e9] at hin9; exact absurd hin9 hnx; exact hno y (by omega) hin9) (lv_sub hl [1, 2, 3, 4, 0] rfl)
          · skip
            have hin_ : i ∈ gr_adj G j := (w94.resolve_right (fun q => b97 q.1)).2
            have htl := gr_tgt_lt hm.1 hlt
            have hrt := w75.2.2 _ htl.1
            have hbp := bp_iff hm.1 hj hlt hf hsj hrt.1
            refine lv_aload_n hx hb dX5_bestOf_100 rfl (lv_at hl 0 rfl) ?_
            refine va_get (D := en.1) (ci := 5) (v := .ref (bd 10)) (C := RX5) (T := TX5) (N := 16) hx hb hts iw_X5_bestOf_X5 hown hE.1 hP 0 rfl rfl 13 (by decide) (hts (.fieldLink RX5 38 "CreditGameModel" "needs" "[I") (by decide +kernel)) (fun _ h9 => h9) rfl dX5_bestOf_101 ?_
            refine lv_aload_n hx hb dX5_bestOf_104 rfl (lv_at hl 0 rfl) ?_
            refine va_get (D := en.1) (ci := 5) (v := .ref (bd 4)) (C := RX5) (T := TX5) (N := 16) hx hb hts iw_X5_bestOf_X5 hown hE.1 hP 0 rfl rfl 6 (by decide) (hts (.fieldLink RX5 19 "CreditGameModel" "to" "[I") (by decide +kernel)) (fun _ h9 => h9) rfl dX5_bestOf_105 ?_
            refine lv_iload hx hb dX5_bestOf_108 (lv_at hl 4 rfl) ?_
            refine mr_ild hx hb hE hP 4 (by decide) i rfl (show _ < 24 by omega) dX5_bestOf_110 ?_
            refine lv_topi (fun z_110 ez_110 => ?_)
            obtain rfl : z_110 = (nI (gr_tgt G i)) := (ez_110.trans ((hm5.2.2.2.2 i hlt).2.1.trans htl.2))
            refine mr_ild hx hb hE hP 10 (by decide) (gr_tgt G i) rfl (show _ < 7 by omega) dX5_bestOf_111 ?_
            refine lv_ldc (own := RX5) (v := 1000000) hx hb hown (hts (.constant RX5 77 (1000000)) (by decide +kernel)) dX5_bestOf_112 ?_
            refine lv_icmp_ne (tgt := 120) hx hb dX5_bestOf_114 (by decide) (fun b114 => ?_) (fun b114 => ?_)
            · skip
              have q114 : fM d75 (gr_tgt G i) ≠ 1000000 := fun q => b114 (i_eq (by rw [i_hi]; exact q))
              refine lv_aload_n hx hb dX5_bestOf_120 rfl (lv_at hl 0 rfl) ?_
              refine va_get (D := en.1) (ci := 5) (v := .ref (bd 10)) (C := RX5) (T := TX5) (N := 16) hx hb hts iw_X5_bestOf_X5 hown hE.1 hP 0 rfl rfl 13 (by decide) (hts (.fieldLink RX5 38 "CreditGameModel" "needs" "[I") (by decide +kernel)) (fun _ h9 => h9) rfl dX5_bestOf_121 ?_
              refine lv_iload_n hx hb dX5_bestOf_124 rfl (lv_at hl 1 rfl) ?_
              refine mr_ild hx hb hE hP 10 (by decide) j rfl (show _ < 7 by omega) dX5_bestOf_125 ?_
              refine lv_iload hx hb dX5_bestOf_126 (lv_at hl 2 rfl) ?_
              refine lv_aload_n hx hb dX5_bestOf_128 rfl (lv_at hl 0 rfl) ?_
              refine va_get (D := en.1) (ci := 5) (v := .ref (bd 5)) (C := RX5) (T := TX5) (N := 16) hx hb hts iw_X5_bestOf_X5 hown hE.1 hP 0 rfl rfl 7 (by decide) (hts (.fieldLink RX5 22 "CreditGameModel" "weight" "[I") (by decide +kernel)) (fun _ h9 => h9) rfl dX5_bestOf_129 ?_
              refine lv_iload hx hb dX5_bestOf_132 (lv_at hl 4 rfl) ?_
              refine mr_ild hx hb hE hP 5 (by decide) i rfl (show _ < 24 by omega) dX5_bestOf_134 ?_
              refine lv_topi (fun z_134 ez_134 => ?_)
              obtain rfl : z_134 = (gr_wt G i) := (ez_134.trans (hm5.2.2.2.2 i hlt).2.2)
              refine lv_imul hx hb dX5_bestOf_135 ?_
              refine lv_iadd hx hb dX5_bestOf_136 ?_
              refine lv_iload hx hb dX5_bestOf_137 (lv_at hl 3 rfl) ?_
              refine lv_isub hx hb dX5_bestOf_139 ?_
              refine lv_topi (fun z1 hz1 => ?_)
              have hw9 := (hm.1.ed i hlt).2.2
              have m1 := ab_mul (a := tI.toInt) (b := (gr_wt G i).toInt) (A := 7) (B := 9) hwt.1.1 hwt.1.2 (by omega) (by omega)
              have e135 : (tI * gr_wt G i).toInt = tI.toInt * (gr_wt G i).toInt := i_mul (by omega) (by omega)
              have hfj : fM d75 j = (d75.1 10 j).toInt := rfl
              have e136 : (d75.1 10 j + tI * gr_wt G i).toInt = fM d75 j + tI.toInt * (gr_wt G i).toInt := by rw [i_add (by rw [e135]; omega) (by rw [e135]; omega), e135]
              have ho9 := hwt.2.1
              have hg9 := hwt.2.2 i hlt
              rw [gr_w_eq hlt] at hg9
              have hg8 : gr_g G j i = tI.toInt * (gr_wt G i).toInt - oI.toInt := hg9.symm
              have ez : z1.toInt = fM d75 j + gr_g G j i := by rw [hz1, i_sub (by rw [e136]; omega) (by rw [e136]; omega), e136, hg8]; omega
              refine lv_aload_n hx hb dX5_bestOf_140 rfl (lv_at hl 0 rfl) ?_
              refine va_get (D := en.1) (ci := 5) (v := .ref (bd 10)) (C := RX5) (T := TX5) (N := 16) hx hb hts iw_X5_bestOf_X5 hown hE.1 hP 0 rfl rfl 13 (by decide) (hts (.fieldLink RX5 38 "CreditGameModel" "needs" "[I") (by decide +kernel)) (fun _ h9 => h9) rfl dX5_bestOf_141 ?_
              refine lv_aload_n hx hb dX5_bestOf_144 rfl (lv_at hl 0 rfl) ?_
              refine va_get (D := en.1) (ci := 5) (v := .ref (bd 4)) (C := RX5) (T := TX5) (N := 16) hx hb hts iw_X5_bestOf_X5 hown hE.1 hP 0 rfl rfl 6 (by decide) (hts (.fieldLink RX5 19 "CreditGameModel" "to" "[I") (by decide +kernel)) (fun _ h9 => h9) rfl dX5_bestOf_145 ?_
              refine lv_iload hx hb dX5_bestOf_148 (lv_at hl 4 rfl) ?_
              refine mr_ild hx hb hE hP 4 (by decide) i rfl (show _ < 24 by omega) dX5_bestOf_150 ?_
              refine lv_topi (fun z_150 ez_150 => ?_)
              obtain rfl : z_150 = (nI (gr_tgt G i)) := (ez_150.trans ((hm5.2.2.2.2 i hlt).2.1.trans htl.2))
              refine mr_ild hx hb hE hP 10 (by decide) (gr_tgt G i) rfl (show _ < 7 by omega) dX5_bestOf_151 ?_
              refine lv_icmp_lt (tgt := 158) hx hb dX5_bestOf_152 (by decide) (fun b152 => ?_) (fun b152 => ?_)
              · skip
                have q152 := i_lt.mp b152
                have hnb : ¬ gr_bp G j i := fun q => by have h9 : (d75.1 10 (gr_tgt G i)).toInt ≤ fM d75 j + gr_g G j i := (hbp.mp q).2; omega
                refine lv_iinc (v := (nI (i + 1))) (lv' := [(7, .int (nI (i + 1))), (0, .ref (bd 0)), (1, .int (nI j)), (5, .int tI), (6, .int oI)]) hx hb dX5_bestOf_158 hl (k := 4) rfl (nI_1 _) (by decide) rfl (fun ls hl => ?_)
                refine lv_goto (tgt := 81) hx hb dX5_bestOf_161 (by decide) ?_
                exact ih81 (i + 1) _ (by omega) (by omega) (fun y hy hin9 => by by_cases e9 : y = i; rw [e9]; exact hnb; exact hno y (by omega) hin9) (lv_sub hl [1, 2, 3, 4, 0] rfl)
              · skip
                have q152 : ¬ _ := fun q => b152 (i_lt.mpr q)
                have hyb : gr_bp G j i := hbp.mpr ⟨q114, by show (d75.1 10 (gr_tgt G i)).toInt ≤ _; omega⟩
                have hbe := gr_best_first hin_ hyb hno
                refine lv_iload hx hb dX5_bestOf_155 (lv_at hl 4 rfl) ?_
                exact W.iret (v := (nI i)) hx hb hr (fun t ht hW => ⟨⟨_, d75, rfl, ⟨by rw [hbe], fun k9 hk9 => (w75.1.1 k9 (fun q => hk9 (by simp at q ⊢; omega))).trans (w1.1 k9 (fun q => hk9 (by simp at q ⊢; omega))), fun j9 hj9 => by rw [w75.1.1 0 (by decide)]; exact w1.2.1 j9 hj9, w75.1.mci (fv_mci w1 hm hc) (by decide)⟩, by show va_P _ _ _ t.heap; rw [ht]; exact hP⟩, hS.F ht⟩) hS.2.2 dX5_bestOf_157
            · skip
              have q114 : fM d75 (gr_tgt G i) = 1000000 := by show (d75.1 10 (gr_tgt G i)).toInt = _; rw [b114, i_hi]
              have hnb : ¬ gr_bp G j i := fun q => (hbp.mp q).1 q114
              refine lv_goto (tgt := 158) hx hb dX5_bestOf_117 (by decide) ?_
              refine lv_iinc (v := (nI (i + 1))) (lv' := [(7, .int (nI (i + 1))), (0, .ref (bd 0)), (1, .int (nI j)), (5, .int tI), (6, .int oI)]) hx hb dX5_bestOf_158 hl (k := 4) rfl (nI_1 _) (by decide) rfl (fun ls hl => ?_)
              refine lv_goto (tgt := 81) hx hb dX5_bestOf_161 (by decide) ?_
              exact ih81 (i + 1) _ (by omega) (by omega) (fun y hy hin9 => by by_cases e9 : y = i; rw [e9]; exact hnb; exact hno y (by omega) hin9) (lv_sub hl [1, 2, 3, 4, 0] rfl)
    exact key81 (gr_E G + 1) 0 _ (Nat.zero_le _) (by omega) (fun y hy => absurd hy (Nat.not_lt_zero y)) (lv_sub hl [6, 7, 2, 1, 0] rfl)
  · skip
    skip
    refine lv_iconst (v := 1) hx hb dX5_bestOf_27 (by decide) ?_
    refine lv_goto (tgt := 32) hx hb dX5_bestOf_28 (by decide) ?_
    refine lv_istore (lv' := [(4, .int 1), (3, .int (d1.1 7 j)), (2, .int (d1.1 6 j)), (0, .ref (bd 0)), (1, .int (nI j))]) hx hb dX5_bestOf_32 hl (by decide) rfl (fun ls hl => ?_)
    refine lv_iload hx hb dX5_bestOf_34 (lv_at hl 0 rfl) ?_
    refine lv_if_eq (tgt := 43) hx hb dX5_bestOf_36 (by decide) (fun b36 => absurd b36 (by decide)) (fun b36 => ?_)
    refine lv_iload_n hx hb dX5_bestOf_39 rfl (lv_at hl 1 rfl) ?_
    refine lv_goto (tgt := 45) hx hb dX5_bestOf_40 (by decide) ?_
    refine lv_istore (lv' := [(5, .int (d1.1 7 j)), (4, .int 1), (3, .int (d1.1 7 j)), (2, .int (d1.1 6 j)), (0, .ref (bd 0)), (1, .int (nI j))]) hx hb dX5_bestOf_45 hl (by decide) rfl (fun ls hl => ?_)
    refine lv_iload hx hb dX5_bestOf_47 (lv_at hl 1 rfl) ?_
    refine lv_if_eq (tgt := 56) hx hb dX5_bestOf_49 (by decide) (fun b49 => absurd b49 (by decide)) (fun b49 => ?_)
    refine lv_iload_n hx hb dX5_bestOf_52 rfl (lv_at hl 3 rfl) ?_
    refine lv_goto (tgt := 58) hx hb dX5_bestOf_53 (by decide) ?_
    refine lv_istore (lv' := [(6, .int (d1.1 6 j)), (5, .int (d1.1 7 j)), (4, .int 1), (3, .int (d1.1 7 j)), (2, .int (d1.1 6 j)), (0, .ref (bd 0)), (1, .int (nI j))]) hx hb dX5_bestOf_58 hl (by decide) rfl (fun ls hl => ?_)
    refine lv_aload_n hx hb dX5_bestOf_60 rfl (lv_at hl 5 rfl) ?_
    refine lv_iload hx hb dX5_bestOf_61 (lv_at hl 1 rfl) ?_
    refine lv_iload hx hb dX5_bestOf_63 (lv_at hl 0 rfl) ?_
    refine lv_iload hx hb dX5_bestOf_65 (lv_at hl 2 rfl) ?_
    refine lv_if_eq (tgt := 74) hx hb dX5_bestOf_67 (by decide) (fun b67 => absurd b67 (by decide)) (fun b67 => ?_)
    refine lv_iconst (v := (nI 0)) hx hb dX5_bestOf_70 (by decide) ?_
    refine lv_goto (tgt := 75) hx hb dX5_bestOf_71 (by decide) ?_
    refine lv_topi (fun z_75 ez_75 => ?_)
    obtain rfl : z_75 = nI (gr_pl G j) := ez_75.trans (by rw [gr_pl0 b24])
    have hwt : wt_ok G (gr_pl G j) (vl_t (vl_F G j)) (vl_q (vl_F G j) : Int) (d1.1 7 j) (d1.1 6 j) := by
      rw [gr_pl0 b24]; exact wt_b0 eb ea (by omega) (by omega)
    refine mr_callv (va_runV (As := [.int (d1.1 7 j), .int (d1.1 6 j), .int (nI (gr_pl G j))]) (rest := []) ⟨hx, hb, hml, hown, hts⟩ (cm_findNeeds l en bd d1 hI _ hm1 hc (gr_pl G j) (gr_pl_2 G j) (vl_t (vl_F G j)) (vl_q (vl_F G j) : Int) (by omega) (by omega) (by omega) (by omega) (d1.1 7 j) (d1.1 6 j) hwt) (cwV 3 hts gX5_bestOf_X5_findNeeds rfl rfl rfl (by decide +kernel) ⟨Nat.le_of_ble_eq_true rfl, Nat.le_of_ble_eq_true rfl⟩) (ct_preV hE (va_recv hE.1 hP (ci := 5) (q0 := 0) rfl rfl) ⟨rfl, hP⟩) rfl rfl hl.1 rfl (lv_room (Nat.le_of_ble_eq_true rfl)) dX5_bestOf_75 ⟨Nat.le_of_ble_eq_true rfl, Nat.le_of_ble_eq_true rfl⟩) hS (fun d75 H locs w75 hP hS => ?_)
    refine lv_iconst (v := (nI 0)) hx hb dX5_bestOf_78 (by decide) ?_
    refine lv_istore (lv' := [(7, .int (nI 0)), (6, .int (d1.1 6 j)), (5, .int (d1.1 7 j)), (4, .int 1), (3, .int (d1.1 7 j)), (2, .int (d1.1 6 j)), (0, .ref (bd 0)), (1, .int (nI j))]) hx hb dX5_bestOf_79 hl (by decide) rfl (fun ls hl => ?_)
    obtain ⟨tI, htI⟩ : ∃ y : Int32, y = (d1.1 7 j) := ⟨_, rfl⟩
    obtain ⟨oI, hoI⟩ : ∃ y : Int32, y = (d1.1 6 j) := ⟨_, rfl⟩
    rw [← htI, ← hoI] at hwt hl
    have hf := w75.2.1
    have hs0 := gr_self hm.1 hc hj hf
    have hsj : fM d75 j ≠ 1000000 := fun q => by have h9 : (0 : Int) ≤ if fM d75 j = 1000000 then -1 else fM d75 j := hs0; rw [if_pos q] at h9; omega
    have hm5 : mi G d75 := w75.1.mi hm1 (by decide)
    have hrj := w75.2.2 j hj
    have key81 : ∀ (n_ : Nat) (i : Nat) (ls : Array Slot), i ≤ gr_E G → gr_E G + 1 ≤ i + n_ → (∀ y, y < i → y ∈ gr_adj G j → ¬ gr_bp G j y) → lv_has ls 8 [(0, .ref (bd 0)), (1, .int (nI j)), (5, .int tI), (6, .int oI), (7, .int (nI i))] → W p l e (headSpec wsX5_bestOf (rm_ 6 0 0)).room s m ([.ref (bd 0), .int (nI j)] : List Value).toArray below meth co H locs 0 0 (MQ below (va_Qi (fun r d' => r = nI (gr_best G j) ∧ bk G d d') (fun d' t => va_P en.1 vwCl (mw en bd d') t.heap) (mw_A bd s.heap.size)) ([.ref (bd 0), .int (nI j)] : List Value).toArray s 0 0 (mw_A bd s.heap.size)) (F0 m 81 ls []) := by
      intro n_
      induction n_ with
      | zero =>
        intro i ls hi_ hin hno hl
        exact absurd hin (by omega)
      | succ n_ ih81 =>
        intro i ls hi_ hin hno hl
        refine lv_iload hx hb dX5_bestOf_81 (lv_at hl 4 rfl) ?_
        refine lv_aload_n hx hb dX5_bestOf_83 rfl (lv_at hl 0 rfl) ?_
        refine va_get (D := en.1) (ci := 5) (v := .int (d75.1 0 2)) (C := RX5) (T := TX5) (N := 16) hx hb hts iw_X5_bestOf_X5 hown hE.1 hP 0 rfl rfl 4 (by decide) (hts (.fieldLink RX5 54 "CreditGameModel" "edges" "I") (by decide +kernel)) (fun _ h9 => h9) rfl dX5_bestOf_84 ?_
        refine lv_icmp_ge (tgt := 164) hx hb dX5_bestOf_87 (by decide) (fun b87 => ?_) (fun b87 => ?_)
        · skip
          have hin9 : i = gr_E G := by
            rcases Nat.lt_or_ge i (gr_E G) with q | q
            · exact absurd b87 (by rw [hm5.2.2.1]; exact nI_ge q (by omega))
            · omega
          obtain ⟨x9, hx9, hb9⟩ := gr_best_ex hm.1 hc hj hf
          exact absurd hb9 (hno x9 (by have := (gr_adj_mem hm.1 hj hx9).1; omega) hx9)
        · skip
          have hlt : i < gr_E G := by
            rcases Nat.lt_or_ge i (gr_E G) with q | q
            · exact q
            · exact absurd (by rw [hm5.2.2.1]; exact nI_le q (by omega)) b87
          refine lv_aload_n hx hb dX5_bestOf_90 rfl (lv_at hl 0 rfl) ?_
          refine lv_iload hx hb dX5_bestOf_91 (lv_at hl 4 rfl) ?_
          refine lv_iload_n hx hb dX5_bestOf_93 rfl (lv_at hl 1 rfl) ?_
          refine ro_calli (va_runV (As := [.int (nI i), .int (nI j)]) (rest := []) ⟨hx, hb, hml, hown, hts⟩ (cm_leads l en bd d75 hm5 i j hlt hj) (cwV 2 hts gX5_bestOf_X5_leads rfl rfl rfl (by decide +kernel) ⟨Nat.le_of_ble_eq_true rfl, Nat.le_of_ble_eq_true rfl⟩) (ct_preV hE (va_recv hE.1 hP (ci := 5) (q0 := 0) rfl rfl) hP) rfl rfl hl.1 rfl (lv_room (Nat.le_of_ble_eq_true rfl)) dX5_bestOf_94 ⟨Nat.le_of_ble_eq_true rfl, Nat.le_of_ble_eq_true rfl⟩) (fun r94 w94 => ?_)
          refine lv_if_eq (tgt := 158) hx hb dX5_bestOf_97 (by decide) (fun b97 => ?_) (fun b97 => ?_)
          · skip
            skip
            have hnx : i ∉ gr_adj G j := (w94.resolve_left (fun q => absurd (q.1.symm.trans b97) (by decide))).2
            refine lv_iinc (v := (nI (i + 1))) (lv' := [(7, .int (nI (i + 1))), (0, .ref (bd 0)), (1, .int (nI j)), (5, .int tI), (6, .int oI)]) hx hb dX5_bestOf_158 hl (k := 4) rfl (nI_1 _) (by decide) rfl (fun ls hl => ?_)
            refine lv_goto (tgt := 81) hx hb dX5_bestOf_161 (by decide) ?_
            exact ih81 (i + 1) _ (by omega) (by omega) (fun y hy hin9 => by by_cases e9 : y = i; rw [e9] at hin9; exact absurd hin9 hnx; exact hno y (by omega) hin9) (lv_sub hl [1, 2, 3, 4, 0] rfl)
          · skip
            have hin_ : i ∈ gr_adj G j := (w94.resolve_right (fun q => b97 q.1)).2
            have htl := gr_tgt_lt hm.1 hlt
            have hrt := w75.2.2 _ htl.1
            have hbp := bp_iff hm.1 hj hlt hf hsj hrt.1
            refine lv_aload_n hx hb dX5_bestOf_100 rfl (lv_at hl 0 rfl) ?_
            refine va_get (D := en.1) (ci := 5) (v := .ref (bd 10)) (C := RX5) (T := TX5) (N := 16) hx hb hts iw_X5_bestOf_X5 hown hE.1 hP 0 rfl rfl 13 (by decide) (hts (.fieldLink RX5 38 "CreditGameModel" "needs" "[I") (by decide +kernel)) (fun _ h9 => h9) rfl dX5_bestOf_101 ?_
            refine lv_aload_n hx hb dX5_bestOf_104 rfl (lv_at hl 0 rfl) ?_
            refine va_get (D := en.1) (ci := 5) (v := .ref (bd 4)) (C := RX5) (T := TX5) (N := 16) hx hb hts iw_X5_bestOf_X5 hown hE.1 hP 0 rfl rfl 6 (by decide) (hts (.fieldLink RX5 19 "CreditGameModel" "to" "[I") (by decide +kernel)) (fun _ h9 => h9) rfl dX5_bestOf_105 ?_
            refine lv_iload hx hb dX5_bestOf_108 (lv_at hl 4 rfl) ?_
            refine mr_ild hx hb hE hP 4 (by decide) i rfl (show _ < 24 by omega) dX5_bestOf_110 ?_
            refine lv_topi (fun z_110 ez_110 => ?_)
            obtain rfl : z_110 = (nI (gr_tgt G i)) := (ez_110.trans ((hm5.2.2.2.2 i hlt).2.1.trans htl.2))
            refine mr_ild hx hb hE hP 10 (by decide) (gr_tgt G i) rfl (show _ < 7 by omega) dX5_bestOf_111 ?_
            refine lv_ldc (own := RX5) (v := 1000000) hx hb hown (hts (.constant RX5 77 (1000000)) (by decide +kernel)) dX5_bestOf_112 ?_
            refine lv_icmp_ne (tgt := 120) hx hb dX5_bestOf_114 (by decide) (fun b114 => ?_) (fun b114 => ?_)
            · skip
              have q114 : fM d75 (gr_tgt G i) ≠ 1000000 := fun q => b114 (i_eq (by rw [i_hi]; exact q))
              refine lv_aload_n hx hb dX5_bestOf_120 rfl (lv_at hl 0 rfl) ?_
              refine va_get (D := en.1) (ci := 5) (v := .ref (bd 10)) (C := RX5) (T := TX5) (N := 16) hx hb hts iw_X5_bestOf_X5 hown hE.1 hP 0 rfl rfl 13 (by decide) (hts (.fieldLink RX5 38 "CreditGameModel" "needs" "[I") (by decide +kernel)) (fun _ h9 => h9) rfl dX5_bestOf_121 ?_
              refine lv_iload_n hx hb dX5_bestOf_124 rfl (lv_at hl 1 rfl) ?_
              refine mr_ild hx hb hE hP 10 (by decide) j rfl (show _ < 7 by omega) dX5_bestOf_125 ?_
              refine lv_iload hx hb dX5_bestOf_126 (lv_at hl 2 rfl) ?_
              refine lv_aload_n hx hb dX5_bestOf_128 rfl (lv_at hl 0 rfl) ?_
              refine va_get (D := en.1) (ci := 5) (v := .ref (bd 5)) (C := RX5) (T := TX5) (N := 16) hx hb hts iw_X5_bestOf_X5 hown hE.1 hP 0 rfl rfl 7 (by decide) (hts (.fieldLink RX5 22 "CreditGameModel" "weight" "[I") (by decide +kernel)) (fun _ h9 => h9) rfl dX5_bestOf_129 ?_
              refine lv_iload hx hb dX5_bestOf_132 (lv_at hl 4 rfl) ?_
              refine mr_ild hx hb hE hP 5 (by decide) i rfl (show _ < 24 by omega) dX5_bestOf_134 ?_
              refine lv_topi (fun z_134 ez_134 => ?_)
              obtain rfl : z_134 = (gr_wt G i) := (ez_134.trans (hm5.2.2.2.2 i hlt).2.2)
              refine lv_imul hx hb dX5_bestOf_135 ?_
              refine lv_iadd hx hb dX5_bestOf_136 ?_
              refine lv_iload hx hb dX5_bestOf_137 (lv_at hl 3 rfl) ?_
              refine lv_isub hx hb dX5_bestOf_139 ?_
              refine lv_topi (fun z1 hz1 => ?_)
              have hw9 := (hm.1.ed i hlt).2.2
              have m1 := ab_mul (a := tI.toInt) (b := (gr_wt G i).toInt) (A := 7) (B := 9) hwt.1.1 hwt.1.2 (by omega) (by omega)
              have e135 : (tI * gr_wt G i).toInt = tI.toInt * (gr_wt G i).toInt := i_mul (by omega) (by omega)
              have hfj : fM d75 j = (d75.1 10 j).toInt := rfl
              have e136 : (d75.1 10 j + tI * gr_wt G i).toInt = fM d75 j + tI.toInt * (gr_wt G i).toInt := by rw [i_add (by rw [e135]; omega) (by rw [e135]; omega), e135]
              have ho9 := hwt.2.1
              have hg9 := hwt.2.2 i hlt
              rw [gr_w_eq hlt] at hg9
              have hg8 : gr_g G j i = tI.toInt * (gr_wt G i).toInt - oI.toInt := hg9.symm
              have ez : z1.toInt = fM d75 j + gr_g G j i := by rw [hz1, i_sub (by rw [e136]; omega) (by rw [e136]; omega), e136, hg8]; omega
              refine lv_aload_n hx hb dX5_bestOf_140 rfl (lv_at hl 0 rfl) ?_
              refine va_get (D := en.1) (ci := 5) (v := .ref (bd 10)) (C := RX5) (T := TX5) (N := 16) hx hb hts iw_X5_bestOf_X5 hown hE.1 hP 0 rfl rfl 13 (by decide) (hts (.fieldLink RX5 38 "CreditGameModel" "needs" "[I") (by decide +kernel)) (fun _ h9 => h9) rfl dX5_bestOf_141 ?_
              refine lv_aload_n hx hb dX5_bestOf_144 rfl (lv_at hl 0 rfl) ?_
              refine va_get (D := en.1) (ci := 5) (v := .ref (bd 4)) (C := RX5) (T := TX5) (N := 16) hx hb hts iw_X5_bestOf_X5 hown hE.1 hP 0 rfl rfl 6 (by decide) (hts (.fieldLink RX5 19 "CreditGameModel" "to" "[I") (by decide +kernel)) (fun _ h9 => h9) rfl dX5_bestOf_145 ?_
              refine lv_iload hx hb dX5_bestOf_148 (lv_at hl 4 rfl) ?_
              refine mr_ild hx hb hE hP 4 (by decide) i rfl (show _ < 24 by omega) dX5_bestOf_150 ?_
              refine lv_topi (fun z_150 ez_150 => ?_)
              obtain rfl : z_150 = (nI (gr_tgt G i)) := (ez_150.trans ((hm5.2.2.2.2 i hlt).2.1.trans htl.2))
              refine mr_ild hx hb hE hP 10 (by decide) (gr_tgt G i) rfl (show _ < 7 by omega) dX5_bestOf_151 ?_
              refine lv_icmp_lt (tgt := 158) hx hb dX5_bestOf_152 (by decide) (fun b152 => ?_) (fun b152 => ?_)
              · skip
                have q152 := i_lt.mp b152
                have hnb : ¬ gr_bp G j i := fun q => by have h9 : (d75.1 10 (gr_tgt G i)).toInt ≤ fM d75 j + gr_g G j i := (hbp.mp q).2; omega
                refine lv_iinc (v := (nI (i + 1))) (lv' := [(7, .int (nI (i + 1))), (0, .ref (bd 0)), (1, .int (nI j)), (5, .int tI), (6, .int oI)]) hx hb dX5_bestOf_158 hl (k := 4) rfl (nI_1 _) (by decide) rfl (fun ls hl => ?_)
                refine lv_goto (tgt := 81) hx hb dX5_bestOf_161 (by decide) ?_
                exact ih81 (i + 1) _ (by omega) (by omega) (fun y hy hin9 => by by_cases e9 : y = i; rw [e9]; exact hnb; exact hno y (by omega) hin9) (lv_sub hl [1, 2, 3, 4, 0] rfl)
              · skip
                have q152 : ¬ _ := fun q => b152 (i_lt.mpr q)
                have hyb : gr_bp G j i := hbp.mpr ⟨q114, by show (d75.1 10 (gr_tgt G i)).toInt ≤ _; omega⟩
                have hbe := gr_best_first hin_ hyb hno
                refine lv_iload hx hb dX5_bestOf_155 (lv_at hl 4 rfl) ?_
                exact W.iret (v := (nI i)) hx hb hr (fun t ht hW => ⟨⟨_, d75, rfl, ⟨by rw [hbe], fun k9 hk9 => (w75.1.1 k9 (fun q => hk9 (by simp at q ⊢; omega))).trans (w1.1 k9 (fun q => hk9 (by simp at q ⊢; omega))), fun j9 hj9 => by rw [w75.1.1 0 (by decide)]; exact w1.2.1 j9 hj9, w75.1.mci (fv_mci w1 hm hc) (by decide)⟩, by show va_P _ _ _ t.heap; rw [ht]; exact hP⟩, hS.F ht⟩) hS.2.2 dX5_bestOf_157
            · skip
              have q114 : fM d75 (gr_tgt G i) = 1000000 := by show (d75.1 10 (gr_tgt G i)).toInt = _; rw [b114, i_hi]
              have hnb : ¬ gr_bp G j i := fun q => (hbp.mp q).1 q114
              refine lv_goto (tgt := 158) hx hb dX5_bestOf_117 (by decide) ?_
              refine lv_iinc (v := (nI (i + 1))) (lv' := [(7, .int (nI (i + 1))), (0, .ref (bd 0)), (1, .int (nI j)), (5, .int tI), (6, .int oI)]) hx hb dX5_bestOf_158 hl (k := 4) rfl (nI_1 _) (by decide) rfl (fun ls hl => ?_)
              refine lv_goto (tgt := 81) hx hb dX5_bestOf_161 (by decide) ?_
              exact ih81 (i + 1) _ (by omega) (by omega) (fun y hy hin9 => by by_cases e9 : y = i; rw [e9]; exact hnb; exact hno y (by omega) hin9) (lv_sub hl [1, 2, 3, 4, 0] rfl)
    exact key81 (gr_E G + 1) 0 _ (Nat.zero_le _) (by omega) (fun y hy => absurd hy (Nat.not_lt_zero y)) (lv_sub hl [6, 7, 2, 1, 0] rfl)
set_option maxHeartbeats 4000000 in
set_option maxRecDepth 100000 in
/--  -/
theorem cm_best (l : Launch) (en : en_T) (bd : Nat → Nat) (d : mT) (hI : mw_I bd) (sz : Nat) {G : gr_T} (hc_ : mci G d) (v : Int32) : Met l yX5_best wsX5_best (rm_ 8 0 0) (ct_Pc en [.ref (bd 0), .int v] (fun H => H.size = sz ∧ va_P en.1 vwCl (mw en bd d) H)) (va_Qi (fun r d' => (¬ (∃ j, j < gr_n G ∧ v = nI j) ∧ d'.1 0 0 = 1 ∧ mci G d') ∨ ((∃ j, j < gr_n G ∧ v = nI j) ∧ ¬ gr_cpl G ∧ d'.1 0 0 = 2 ∧ mci G d') ∨ (gr_cpl G ∧ (∃ j, j < gr_n G ∧ v = nI j ∧ r = nI (gr_best G j)) ∧ d'.1 0 0 = 0 ∧ mci G d')) (fun d' t => va_P en.1 vwCl (mw en bd d') t.heap) (mw_A bd sz)) 0 0 (mw_A bd sz) := by
  refine Met.ofW (cc := cX5_best) (maxL := 2) (ret := (some .int)) (by decide) rfl ?_
  intro p e s m args below meth co s₁ B hml hv
  obtain ⟨rfl, hE, hsz, hP⟩ := hv
  subst hsz
  have hx := B.exec
  have hb := B.bytes
  have hr := B.returns
  have hts := atoms_spec (ws := wsX5_best) B.pre
  have hown : s.vm.findClass RX5 = some m.cls := findClass_of_methodNamed B.named
  have hlocks := B.notSynchronized
  have hS : va_S (mw_A bd s.heap.size) s.heap s.heap [] := va_S.rf
  have hl := lv_entry ([.ref (bd 0), .int v]) (n := 2) (Nat.le_of_ble_eq_true rfl)
  rw [lg_entry_eq]
  generalize (lg_sl ([.ref (bd 0), .int v]) ++ List.replicate (2 - (lg_sl ([.ref (bd 0), .int v])).length) Slot.unset).toArray = ls at hl ⊢
  have hl : lv_has ls 2 [(0, .ref (bd 0)), (1, .int v)] := hl
  have hm := hc_.1
  have hn7 := hm.n7
  have he24 := hm.e24
  refine lv_aload_n hx hb dX5_best_0 rfl (lv_at hl 0 rfl) ?_
  refine lv_iload_n hx hb dX5_best_1 rfl (lv_at hl 1 rfl) ?_
  refine mr_calli (va_runV (As := [.int v]) (rest := []) ⟨hx, hb, hml, hown, hts⟩ (cm_refuses l en bd d hI _ hm v) (cwV 1 hts gX5_best_X5_refuses rfl rfl rfl (by decide +kernel) ⟨Nat.le_of_ble_eq_true rfl, Nat.le_of_ble_eq_true rfl⟩) (ct_preV hE (va_recv hE.1 hP (ci := 5) (q0 := 0) rfl rfl) ⟨rfl, hP⟩) rfl rfl hl.1 rfl (lv_room (Nat.le_of_ble_eq_true rfl)) dX5_best_2 ⟨Nat.le_of_ble_eq_true rfl, Nat.le_of_ble_eq_true rfl⟩) hS (fun r2 d2 H locs w2 hP hS => ?_)
  refine lv_if_eq (tgt := 12) hx hb dX5_best_5 (by decide) (fun b5 => ?_) (fun b5 => ?_)
  · skip
    obtain ⟨-, ⟨j, hj, ej⟩, hcp, hth⟩ := (w2.resolve_left (fun q => absurd (q.1.symm.trans b5) (by decide))).resolve_left (fun q => absurd (q.1.symm.trans b5) (by decide))
    have hm1 := hth.mi hm
    rw [ej] at hl
    refine lv_aload_n hx hb dX5_best_12 rfl (lv_at hl 0 rfl) ?_
    refine lv_iload_n hx hb dX5_best_13 rfl (lv_at hl 1 rfl) ?_
    refine mr_calli (va_runV (As := [.int (nI j)]) (rest := []) ⟨hx, hb, hml, hown, hts⟩ (cm_bestOf l en bd d2 hI _ (hth.mci hc_) hcp j hj) (cwV 1 hts gX5_best_X5_bestOf rfl rfl rfl (by decide +kernel) ⟨Nat.le_of_ble_eq_true rfl, Nat.le_of_ble_eq_true rfl⟩) (ct_preV hE (va_recv hE.1 hP (ci := 5) (q0 := 0) rfl rfl) ⟨rfl, hP⟩) rfl rfl hl.1 rfl (lv_room (Nat.le_of_ble_eq_true rfl)) dX5_best_14 ⟨Nat.le_of_ble_eq_true rfl, Nat.le_of_ble_eq_true rfl⟩) hS (fun r14 d14 H locs w14 hP hS => ?_)
    exact W.iret (v := r14) hx hb hr (fun t ht hW => ⟨⟨_, d14, rfl, (Or.inr (Or.inr ⟨hcp, ⟨j, hj, ej, w14.1⟩, by rw [w14.2.2.1 0 (by omega)]; exact hth.thr, w14.2.2.2⟩)), by show va_P _ _ _ t.heap; rw [ht]; exact hP⟩, hS.F ht⟩) hS.2.2 dX5_best_17
  · skip
    have hrf : (¬ (∃ j, j < gr_n G ∧ v = nI j) ∧ d2.1 0 0 = 1 ∧ mci G d2) ∨ ((∃ j, j < gr_n G ∧ v = nI j) ∧ ¬ gr_cpl G ∧ d2.1 0 0 = 2 ∧ mci G d2) := by
      rcases w2 with q | q | q
      · exact Or.inl ⟨q.2.1, q.2.2.thr, q.2.2.mci hc_⟩
      · exact Or.inr ⟨q.2.1, q.2.2.1, q.2.2.2.thr, q.2.2.2.mci hc_⟩
      · exact absurd q.1 b5
    skip
    refine lv_iconst (v := 0) hx hb dX5_best_8 (by decide) ?_
    refine lv_goto (tgt := 17) hx hb dX5_best_9 (by decide) ?_
    exact W.iret (v := 0) hx hb hr (fun t ht hW => ⟨⟨_, d2, rfl, (hrf.elim Or.inl (fun q => Or.inr (Or.inl q))), by show va_P _ _ _ t.heap; rw [ht]; exact hP⟩, hS.F ht⟩) hS.2.2 dX5_best_17
