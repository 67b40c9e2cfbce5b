/-! ===== CreditGame$Credits.solve ===== -/
abbrev fN (d : Nat → Nat → Int32) : Nat → Int := fun u => (d 14 u).toInt
theorem sv_pos {G : gr_T} (hg : gf_ok G) {pl x : Nat} {pI qI pa : Int32} (hx : x < gr_E G) (hq1 : 1 ≤ qI.toInt) (hq7 : qI.toInt ≤ 7) (hp1 : -63 ≤ pI.toInt) (hp2 : pI.toInt ≤ 63) (h : pa = qI * gr_wt G x - pI) : pa.toInt = qI.toInt * gr_w G x - pI.toInt ∧ -126 ≤ pa.toInt ∧ pa.toInt ≤ 126 := by
  have h9 := (hg.ed x hx).2.2
  have hm : -63 ≤ qI.toInt * (gr_wt G x).toInt ∧ qI.toInt * (gr_wt G x).toInt ≤ 63 := by
    generalize (gr_wt G x).toInt = y at h9
    generalize qI.toInt = q at hq1 hq7
    rcases (show q = 1 ∨ q = 2 ∨ q = 3 ∨ q = 4 ∨ q = 5 ∨ q = 6 ∨ q = 7 by omega) with rfl | rfl | rfl | rfl | rfl | rfl | rfl <;> omega
  have e1 : (qI * gr_wt G x).toInt = qI.toInt * (gr_wt G x).toInt := i_mul (by omega) (by omega)
  have e2 : pa.toInt = qI.toInt * (gr_wt G x).toInt - pI.toInt := by rw [h, i_sub (by omega) (by omega), e1]
  rw [gr_w_eq hx, e2]
  exact ⟨rfl, by omega, by omega⟩
theorem sv_val0 {G : gr_T} (hg : gf_ok G) {pl x : Nat} {pI qI pa : Int32} (hpl : pl = 0) (hq1 : 1 ≤ qI.toInt) (hq7 : qI.toInt ≤ 7) (hp1 : -63 ≤ pI.toInt) (hp2 : pI.toInt ≤ 63) (h : pa = qI * gr_wt G x - pI) : x < gr_E G → pa.toInt = cr_w G pl pI.toInt qI.toInt x := by
  intro hx
  rw [(sv_pos hg (pl := pl) hx hq1 hq7 hp1 hp2 h).1]
  unfold cr_w
  rw [if_pos hpl]
theorem sv_val1 {G : gr_T} (hg : gf_ok G) {pl x : Nat} {pI qI pa : Int32} (hpl : pl ≠ 0) (hq1 : 1 ≤ qI.toInt) (hq7 : qI.toInt ≤ 7) (hp1 : -63 ≤ pI.toInt) (hp2 : pI.toInt ≤ 63) (h : pa = qI * gr_wt G x - pI) : x < gr_E G → (-pa).toInt = cr_w G pl pI.toInt qI.toInt x := by
  intro hx
  have h1 := sv_pos hg (pl := pl) hx hq1 hq7 hp1 hp2 h
  rw [i_neg (by omega), h1.1]
  unfold cr_w
  rw [if_neg hpl, Int.neg_mul]
  omega
theorem sv_good {G : gr_T} (hg : gf_ok G) (hc : gr_cpl G) {pl i : Nat} {pI qI r x : Int32} (hi : i < gr_n G) (hx : x.toInt = vl_F G i) (hq1 : 1 ≤ qI.toInt) (hq7 : qI.toInt ≤ 7) (hp1 : -63 ≤ pI.toInt) (hp2 : pI.toInt ≤ 63) (hr : r = if (if i < gr_n G then x else 0) * qI < pI * 420 then -1 else if (if i < gr_n G then x else 0) * qI = pI * 420 then 0 else 1) : cr_win G pl pI.toInt qI.toInt i ↔ ((pl = 0 → ¬ r < 0) ∧ (pl ≠ 0 → ¬ 0 < r)) := by
  rw [if_pos hi] at hr
  have hb := vl_F_bd hg hc hi
  have hm : -26460 ≤ x.toInt * qI.toInt ∧ x.toInt * qI.toInt ≤ 26460 := by
    rw [← hx] at hb
    generalize x.toInt = y at hb
    generalize qI.toInt = q at hq1 hq7
    rcases (show q = 1 ∨ q = 2 ∨ q = 3 ∨ q = 4 ∨ q = 5 ∨ q = 6 ∨ q = 7 by omega) with rfl | rfl | rfl | rfl | rfl | rfl | rfl <;> omega
  have e1 : (x * qI).toInt = x.toInt * qI.toInt := i_mul (by omega) (by omega)
  have e2 : (pI * 420).toInt = pI.toInt * 420 := by rw [i_mul (by rw [i_420]; omega) (by rw [i_420]; omega), i_420]
  rw [cr_win_iff hg (by omega) (by omega) (by omega) hi, ← hx, ← e1, ← e2]
  have hlt : x * qI < pI * 420 ↔ (x * qI).toInt < (pI * 420).toInt := i_lt
  have heq : x * qI = pI * 420 ↔ (x * qI).toInt = (pI * 420).toInt := ⟨fun q => by rw [q], i_eq⟩
  by_cases h1 : x * qI < pI * 420
  · rw [if_pos h1] at hr
    have hr1 : r < 0 := by rw [hr]; decide
    have hr2 : ¬ 0 < r := by rw [hr]; decide
    have := hlt.mp h1
    simp only [hr1, hr2, not_true, not_false_eq_true, imp_false, implies_true, and_true]
    constructor
    · intro q; exact fun q2 => by have := q.1 q2; omega
    · intro q; exact ⟨fun q2 => absurd q2 q, fun _ => by omega⟩
  · rw [if_neg h1] at hr
    have h1' : ¬ (x * qI).toInt < (pI * 420).toInt := fun q => h1 (hlt.mpr q)
    by_cases h2 : x * qI = pI * 420
    · rw [if_pos h2] at hr
      have hr1 : ¬ r < 0 := by rw [hr]; decide
      have hr2 : ¬ 0 < r := by rw [hr]; decide
      have := heq.mp h2
      exact ⟨fun _ => ⟨fun _ => hr1, fun _ => hr2⟩, fun _ => ⟨fun _ => by omega, fun _ => by omega⟩⟩
    · rw [if_neg h2] at hr
      have hr1 : ¬ r < 0 := by rw [hr]; decide
      have hr2 : 0 < r := by rw [hr]; decide
      have h2' : ¬ (x * qI).toInt = (pI * 420).toInt := fun q => h2 (heq.mpr q)
      constructor
      · intro q; exact ⟨fun _ => hr1, fun q2 => by have := q.2 q2; omega⟩
      · intro q; exact ⟨fun _ => by omega, fun q2 => absurd hr2 (q.2 q2)⟩
theorem sv_owt {G : gr_T} (hg : gf_ok G) {pl i : Nat} (hpl : pl < 2) (hi : i < gr_n G) (h : gr_own G i = nI pl) : cr_ow G pl i = true := by
  unfold cr_ow
  rcases (show pl = 0 ∨ pl = 1 by omega) with rfl | rfl
  · rw [if_pos rfl]
    exact gr_ow_t hi h
  · rw [if_neg (by decide)]
    have : gr_ow G i = false := gr_ow_f (by rw [h]; decide)
    simp [this]
theorem sv_owf {G : gr_T} (hg : gf_ok G) {pl i : Nat} (hpl : pl < 2) (hi : i < gr_n G) (h : ¬ gr_own G i = nI pl) : cr_ow G pl i = false := by
  unfold cr_ow
  rcases (show pl = 0 ∨ pl = 1 by omega) with rfl | rfl
  · rw [if_pos rfl]
    exact gr_ow_f h
  · rw [if_neg (by decide)]
    have h0 : gr_own G i = 0 := (hg.own i hi).resolve_right h
    simp [gr_ow_t hi h0]
theorem sv_start {G : gr_T} {pl : Nat} {p q : Int} {d : Nat → Nat → Int32} (h : ∀ u, u < gr_n G → (cr_win G pl p q u → d 14 u = 0) ∧ (¬ cr_win G pl p q u → d 14 u = -1)) : sw_I (gr_n G) (gr_adj G) (gr_tgt G) (cr_ow G pl) (cr_w G pl p q) (fN d) := by
  refine ⟨fun u hu hw => ?_, fun u hu hw => ?_⟩
  · show (d 14 u).toInt = -1
    rw [(h u hu).2 hw]; decide
  · have e : (d 14 u).toInt = 0 := by rw [(h u hu).1 hw]; decide
    exact ⟨by show 0 ≤ (d 14 u).toInt; omega, fun f' hf' => by have := (hf' u hu hw).1; show (d 14 u).toInt ≤ f' u; omega⟩
theorem sv_fN {d d' : Nat → Nat → Int32} {i : Nat} {r : Int32} (h : d' = va_up d 14 (upd (d 14) i r)) : fN d' = fun u => if u = i then r.toInt else fN d u := by
  funext u
  show (d' 14 u).toInt = _
  rw [h, up_at]
  by_cases e : u = i
  · rw [e, ud_at, if_pos rfl]
  · rw [ud_ne e, if_neg e]
theorem sv_15 {d d' : Nat → Nat → Int32} {i : Nat} {r : Int32} (h : d' = va_up d 14 (upd (d 14) i r)) : d' 15 = d 15 := by rw [h]; rfl
theorem sv_tot {G : gr_T} (hg : gf_ok G) {pl : Nat} {p q : Int} (hq1 : 1 ≤ q) (hq7 : q ≤ 7) (hp1 : -63 ≤ p) (hp2 : p ≤ 63) {f : Nat → Int} (h : sw_I (gr_n G) (gr_adj G) (gr_tgt G) (cr_ow G pl) (cr_w G pl p q) f) : gm_sum f (gr_n G) ≤ 5292 := by
  have h1 := gm_sum_bd (f := f) (B := 756) (by omega) (fun u hu => by have := sw_bd hg.1 (M := 126) (by omega) (gr_tgts hg) (cr_M hg hq1 hq7 hp1 hp2) h hu; omega)
  have h7 := hg.1
  omega
theorem sv_fin {G : gr_T} {c c_ : Nat → Nat → Int32} (hg : gi G c) {pl : Nat} {p q : Int} (hq1 : 1 ≤ q) (hq7 : q ≤ 7) (hp1 : -63 ≤ p) (hp2 : p ≤ 63) (hkc : kx [14, 15] c c_) (hsw : sw_I (gr_n G) (gr_adj G) (gr_tgt G) (cr_ow G pl) (cr_w G pl p q) (fN c_)) (hgb : ∀ x, x < gr_E G → (c_ 15 x).toInt = cr_w G pl p q x) (hrs : ∀ u, u < 7 → gr_n G ≤ u → c_ 14 u = 0 ∨ c_ 14 u = -1) (hl : ∀ v, v < gr_n G → cr_win G pl p q v → sw_L (gr_adj G) (gr_tgt G) (cr_ow G pl) (cr_w G pl p q) (fN c_) v) :
    kx [14, 15] c c_ ∧ cr_is G pl p q (fN c_) ∧ (∀ x, x < gr_E G → (c_ 15 x).toInt = cr_w G pl p q x) ∧ ∀ u, u < 7 → -1 ≤ (c_ 14 u).toInt ∧ (c_ 14 u).toInt ≤ 100000 := by
  refine ⟨hkc, sw_end hsw hl, hgb, fun u hu => ?_⟩
  rcases Nat.lt_or_ge u (gr_n G) with q | q
  · have h8 := sw_bd hg.n7 (M := 126) (by omega) (gr_tgts hg.ok) (cr_M hg.ok hq1 hq7 hp1 hp2) hsw q
    have h9 : fN c_ u = (c_ 14 u).toInt := rfl
    omega
  · rcases hrs u hu q with q2 | q2 <;> rw [q2] <;> decide
theorem iw_X0_solve_X0 : ∀ w ∈ wsX00, w ∈ wsX0_solve := by decide +kernel
set_option maxHeartbeats 4000000 in
set_option maxRecDepth 100000 in
/--  -/
theorem ct_solve (l : Launch) (en : en_T) (ad : Nat → Nat) (c : Nat → Nat → Int32) (hI : xw_I ad) (sz : Nat) {G : gr_T} (hg : gi G c) (hc : gr_cpl G) (hva : va G c) (pl : Nat) (hpl : pl < 2) (pI qI : Int32) (hq1 : 1 ≤ qI.toInt) (hq7 : qI.toInt ≤ 7) (hp1 : -63 ≤ pI.toInt) (hp2 : pI.toInt ≤ 63) : Met l yX0_solve wsX0_solve (rm_ 6 0 0) (ct_Pc en [.ref (ad 3), .int (nI pl), .int pI, .int qI] (fun H => H.size = sz ∧ va_P en.1 vwCl (xw en ad c) H)) (va_Qv (fun c' => kx [14, 15] c c' ∧ cr_is G pl pI.toInt qI.toInt (fN c') ∧ (∀ x, x < gr_E G → (c' 15 x).toInt = cr_w G pl pI.toInt qI.toInt x) ∧ ∀ u, u < 7 → -1 ≤ (c' 14 u).toInt ∧ (c' 14 u).toInt ≤ 100000) (fun c' t => va_P en.1 vwCl (xw en ad c') t.heap) (xw_A ad sz)) 0 0 (xw_A ad sz) := by
  refine Met.ofW (cc := cX0_solve) (maxL := 8) (ret := none) (by decide) rfl ?_
  intro p e s m args below meth co s₁ B hml hv
  obtain ⟨rfl, hE, hsz, hP⟩ := hv
  subst hsz
  have hx := B.exec
  have hb := B.bytes
  have hr := B.returns
  have hts := atoms_spec (ws := wsX0_solve) B.pre
  have hown : s.vm.findClass RX0 = some m.cls := findClass_of_methodNamed B.named
  have hlocks := B.notSynchronized
  have hS : va_S (xw_A ad s.heap.size) s.heap s.heap [] := va_S.rf
  have hl := lv_entry ([.ref (ad 3), .int (nI pl), .int pI, .int qI]) (n := 8) (Nat.le_of_ble_eq_true rfl)
  rw [lg_entry_eq]
  generalize (lg_sl ([.ref (ad 3), .int (nI pl), .int pI, .int qI]) ++ List.replicate (8 - (lg_sl ([.ref (ad 3), .int (nI pl), .int pI, .int qI])).length) Slot.unset).toArray = ls at hl ⊢
  have hl : lv_has ls 8 [(0, .ref (ad 3)), (1, .int (nI pl)), (2, .int pI), (3, .int qI)] := hl
  refine lv_iconst (v := (nI 0)) hx hb dX0_solve_0 (by decide) ?_
  refine lv_istore (lv' := [(4, .int (nI 0)), (0, .ref (ad 3)), (1, .int (nI pl)), (2, .int pI), (3, .int qI)]) hx hb dX0_solve_1 hl (by decide) rfl (fun ls hl => ?_)
  have key3 : ∀ (n_ : Nat) (i : Nat) (c_ : Nat → Nat → Int32) (H : Heap) (locs : List Loc) (ls : Array Slot), i ≤ 24 → 24 + 1 ≤ i + n_ → kx [15] c c_ → (∀ x, x < i → x < gr_E G → (c_ 15 x).toInt = cr_w G pl pI.toInt qI.toInt x) → va_P en.1 vwCl (xw en ad c_) H → va_S (xw_A ad s.heap.size) s.heap H locs → lv_has ls 8 [(0, .ref (ad 3)), (1, .int (nI pl)), (2, .int pI), (3, .int qI), (4, .int (nI i))] → W p l e (headSpec wsX0_solve (rm_ 6 0 0)).room s m ([.ref (ad 3), .int (nI pl), .int pI, .int qI] : List Value).toArray below meth co H locs 0 0 (MQ below (va_Qv (fun c' => kx [14, 15] c c' ∧ cr_is G pl pI.toInt qI.toInt (fN c') ∧ (∀ x, x < gr_E G → (c' 15 x).toInt = cr_w G pl pI.toInt qI.toInt x) ∧ ∀ u, u < 7 → -1 ≤ (c' 14 u).toInt ∧ (c' 14 u).toInt ≤ 100000) (fun c' t => va_P en.1 vwCl (xw en ad c') t.heap) (xw_A ad s.heap.size)) ([.ref (ad 3), .int (nI pl), .int pI, .int qI] : List Value).toArray s 0 0 (xw_A ad s.heap.size)) (F0 m 3 ls []) := by
    intro n_
    induction n_ with
    | zero =>
      intro i c_ H locs ls hi_ hin hkc hga hP hS hl
      exact absurd hin (by omega)
    | succ n_ ih3 =>
      intro i c_ H locs ls hi_ hin hkc hga hP hS hl
      have hgc := hg.kx hkc (by decide)
      refine lv_iload hx hb dX0_solve_3 (lv_at hl 4 rfl) ?_
      refine lv_bipush (v := (nI 24)) hx hb dX0_solve_5 (by decide) ?_
      refine lv_icmp_ge (tgt := 50) hx hb dX0_solve_7 (by decide) (fun b7 => ?_) (fun b7 => ?_)
      · skip
        have hin9 : i = 24 := by
          rcases Nat.lt_or_ge i 24 with q | q
          · exact absurd b7 (nI_ge q (by omega))
          · omega
        refine lv_iconst (v := (nI 0)) hx hb dX0_solve_50 (by decide) ?_
        refine lv_istore (lv' := [(4, .int (nI 0)), (0, .ref (ad 3)), (1, .int (nI pl)), (2, .int pI), (3, .int qI)]) hx hb dX0_solve_51 hl (by decide) rfl (fun ls hl => ?_)
        have key53 : ∀ (n_ : Nat) (i : Nat) (c_ : Nat → Nat → Int32) (H : Heap) (locs : List Loc) (ls : Array Slot), i ≤ 7 → 7 + 1 ≤ i + n_ → kx [14, 15] c c_ → (∀ x, x < gr_E G → (c_ 15 x).toInt = cr_w G pl pI.toInt qI.toInt x) → (∀ u, u < i → (u < gr_n G → (cr_win G pl pI.toInt qI.toInt u → c_ 14 u = 0) ∧ (¬ cr_win G pl pI.toInt qI.toInt u → c_ 14 u = -1)) ∧ (c_ 14 u = 0 ∨ c_ 14 u = -1)) → va_P en.1 vwCl (xw en ad c_) H → va_S (xw_A ad s.heap.size) s.heap H locs → lv_has ls 8 [(0, .ref (ad 3)), (1, .int (nI pl)), (2, .int pI), (3, .int qI), (4, .int (nI i))] → W p l e (headSpec wsX0_solve (rm_ 6 0 0)).room s m ([.ref (ad 3), .int (nI pl), .int pI, .int qI] : List Value).toArray below meth co H locs 0 0 (MQ below (va_Qv (fun c' => kx [14, 15] c c' ∧ cr_is G pl pI.toInt qI.toInt (fN c') ∧ (∀ x, x < gr_E G → (c' 15 x).toInt = cr_w G pl pI.toInt qI.toInt x) ∧ ∀ u, u < 7 → -1 ≤ (c' 14 u).toInt ∧ (c' 14 u).toInt ≤ 100000) (fun c' t => va_P en.1 vwCl (xw en ad c') t.heap) (xw_A ad s.heap.size)) ([.ref (ad 3), .int (nI pl), .int pI, .int qI] : List Value).toArray s 0 0 (xw_A ad s.heap.size)) (F0 m 53 ls []) := by
          intro n_
          induction n_ with
          | zero =>
            intro i c_ H locs ls hi_ hin hkc hgb hnd hP hS hl
            exact absurd hin (by omega)
          | succ n_ ih53 =>
            intro i c_ H locs ls hi_ hin hkc hgb hnd hP hS hl
            have hgc := hg.kx hkc (by decide)
            refine lv_iload hx hb dX0_solve_53 (lv_at hl 4 rfl) ?_
            refine lv_bipush (v := (nI 7)) hx hb dX0_solve_55 (by decide) ?_
            refine lv_icmp_ge (tgt := 97) hx hb dX0_solve_57 (by decide) (fun b57 => ?_) (fun b57 => ?_)
            · skip
              have hin9 : i = 7 := by
                rcases Nat.lt_or_ge i 7 with q | q
                · exact absurd b57 (nI_ge q (by omega))
                · omega
              refine lv_iconst (v := 1) hx hb dX0_solve_97 (by decide) ?_
              refine lv_istore (lv' := [(4, .int 1), (0, .ref (ad 3)), (1, .int (nI pl)), (2, .int pI), (3, .int qI)]) hx hb dX0_solve_98 hl (by decide) rfl (fun ls hl => ?_)
              refine lv_iconst (v := (nI 0)) hx hb dX0_solve_100 (by decide) ?_
              refine lv_istore (lv' := [(5, .int (nI 0)), (4, .int 1), (0, .ref (ad 3)), (1, .int (nI pl)), (2, .int pI), (3, .int qI)]) hx hb dX0_solve_101 hl (by decide) rfl (fun ls hl => ?_)
              have key103 : ∀ (n_ : Nat) (t : Nat) (ra : Int32) (c_ : Nat → Nat → Int32) (H : Heap) (locs : List Loc) (ls : Array Slot), t ≤ 10000 → 10000 + 1 ≤ t + n_ → kx [14, 15] c c_ → (∀ x, x < gr_E G → (c_ 15 x).toInt = cr_w G pl pI.toInt qI.toInt x) → sw_I (gr_n G) (gr_adj G) (gr_tgt G) (cr_ow G pl) (cr_w G pl pI.toInt qI.toInt) (fN c_) → (∀ u, u < 7 → gr_n G ≤ u → c_ 14 u = 0 ∨ c_ 14 u = -1) → (ra = 0 → ∀ v, v < gr_n G → cr_win G pl pI.toInt qI.toInt v → sw_L (gr_adj G) (gr_tgt G) (cr_ow G pl) (cr_w G pl pI.toInt qI.toInt) (fN c_) v) → (ra ≠ 0 → (t : Int) ≤ gm_sum (fN c_) (gr_n G)) → va_P en.1 vwCl (xw en ad c_) H → va_S (xw_A ad s.heap.size) s.heap H locs → lv_has ls 8 [(0, .ref (ad 3)), (1, .int (nI pl)), (2, .int pI), (3, .int qI), (4, .int ra), (5, .int (nI t))] → W p l e (headSpec wsX0_solve (rm_ 6 0 0)).room s m ([.ref (ad 3), .int (nI pl), .int pI, .int qI] : List Value).toArray below meth co H locs 0 0 (MQ below (va_Qv (fun c' => kx [14, 15] c c' ∧ cr_is G pl pI.toInt qI.toInt (fN c') ∧ (∀ x, x < gr_E G → (c' 15 x).toInt = cr_w G pl pI.toInt qI.toInt x) ∧ ∀ u, u < 7 → -1 ≤ (c' 14 u).toInt ∧ (c' 14 u).toInt ≤ 100000) (fun c' t => va_P en.1 vwCl (xw en ad c') t.heap) (xw_A ad s.heap.size)) ([.ref (ad 3), .int (nI pl), .int pI, .int qI] : List Value).toArray s 0 0 (xw_A ad s.heap.size)) (F0 m 103 ls []) := by
                intro n_
                induction n_ with
                | zero =>
                  intro t ra c_ H locs ls ht_ hin hkc hgb hsw hrs hra0 hra1 hP hS hl
                  exact absurd hin (by omega)
                | succ n_ ih103 =>
                  intro t ra c_ H locs ls ht_ hin hkc hgb hsw hrs hra0 hra1 hP hS hl
                  have hgc := hg.kx hkc (by decide)
                  refine lv_iload hx hb dX0_solve_103 (lv_at hl 5 rfl) ?_
                  refine lv_sipush (v := (nI 10000)) hx hb dX0_solve_105 (by decide) ?_
                  refine lv_icmp_ge (tgt := 202) hx hb dX0_solve_108 (by decide) (fun b108 => ?_) (fun b108 => ?_)
                  · skip
                    have hin9 : t = 10000 := by
                      rcases Nat.lt_or_ge t 10000 with q | q
                      · exact absurd b108 (nI_ge q (by omega))
                      · omega
                    exact W.vret hx hb hr (fun t ht hW => ⟨⟨c_, rfl, (by first | exact sv_fin hg hq1 hq7 hp1 hp2 hkc hsw hgb hrs (hra0 b113) | exact sv_fin hg hq1 hq7 hp1 hp2 hkc hsw hgb hrs (by rcases Decidable.em (ra = 0) with q | q; exact hra0 q; have h1 := hra1 q; have h2 := sv_tot hg.ok hq1 hq7 hp1 hp2 hsw; omega)), by show va_P _ _ _ t.heap; rw [ht]; exact hP⟩, hS.F ht⟩) hS.2.2 dX0_solve_202
                  · skip
                    have hlt : t < 10000 := by
                      rcases Nat.lt_or_ge t 10000 with q | q
                      · exact q
                      · exact absurd (nI_le q (by omega)) b108
                    refine lv_iload hx hb dX0_solve_111 (lv_at hl 4 rfl) ?_
                    refine lv_if_eq (tgt := 202) hx hb dX0_solve_113 (by decide) (fun b113 => ?_) (fun b113 => ?_)
                    · skip
                      exact W.vret hx hb hr (fun t ht hW => ⟨⟨c_, rfl, (by first | exact sv_fin hg hq1 hq7 hp1 hp2 hkc hsw hgb hrs (hra0 b113) | exact sv_fin hg hq1 hq7 hp1 hp2 hkc hsw hgb hrs (by rcases Decidable.em (ra = 0) with q | q; exact hra0 q; have h1 := hra1 q; have h2 := sv_tot hg.ok hq1 hq7 hp1 hp2 hsw; omega)), by show va_P _ _ _ t.heap; rw [ht]; exact hP⟩, hS.F ht⟩) hS.2.2 dX0_solve_202
                    · skip
                      refine lv_iconst (v := 0) hx hb dX0_solve_116 (by decide) ?_
                      refine lv_istore (lv' := [(4, .int 0), (0, .ref (ad 3)), (1, .int (nI pl)), (2, .int pI), (3, .int qI), (5, .int (nI t))]) hx hb dX0_solve_117 hl (by decide) rfl (fun ls hl => ?_)
                      refine lv_iconst (v := (nI 0)) hx hb dX0_solve_119 (by decide) ?_
                      refine lv_istore (lv' := [(6, .int (nI 0)), (4, .int 0), (0, .ref (ad 3)), (1, .int (nI pl)), (2, .int pI), (3, .int qI), (5, .int (nI t))]) hx hb dX0_solve_120 hl (by decide) rfl (fun ls hl => ?_)
                      have key122 : ∀ (n_ : Nat) (i : Nat) (rb : Int32) (d_ : Nat → Nat → Int32) (H : Heap) (locs : List Loc) (ls : Array Slot), i ≤ 7 → 7 + 1 ≤ i + n_ → kx [14, 15] c d_ → (∀ x, x < gr_E G → (d_ 15 x).toInt = cr_w G pl pI.toInt qI.toInt x) → sw_I (gr_n G) (gr_adj G) (gr_tgt G) (cr_ow G pl) (cr_w G pl pI.toInt qI.toInt) (fN d_) → (∀ u, u < 7 → gr_n G ≤ u → d_ 14 u = 0 ∨ d_ 14 u = -1) → (rb = 0 → (∀ u, u < 7 → d_ 14 u = c_ 14 u) ∧ ∀ v, v < i → v < gr_n G → cr_win G pl pI.toInt qI.toInt v → sw_L (gr_adj G) (gr_tgt G) (cr_ow G pl) (cr_w G pl pI.toInt qI.toInt) (fN d_) v) → gm_sum (fN c_) (gr_n G) ≤ gm_sum (fN d_) (gr_n G) → (rb ≠ 0 → gm_sum (fN c_) (gr_n G) + 1 ≤ gm_sum (fN d_) (gr_n G)) → va_P en.1 vwCl (xw en ad d_) H → va_S (xw_A ad s.heap.size) s.heap H locs → lv_has ls 8 [(0, .ref (ad 3)), (1, .int (nI pl)), (2, .int pI), (3, .int qI), (4, .int rb), (5, .int (nI t)), (6, .int (nI i))] → W p l e (headSpec wsX0_solve (rm_ 6 0 0)).room s m ([.ref (ad 3), .int (nI pl), .int pI, .int qI] : List Value).toArray below meth co H locs 0 0 (MQ below (va_Qv (fun c' => kx [14, 15] c c' ∧ cr_is G pl pI.toInt qI.toInt (fN c') ∧ (∀ x, x < gr_E G → (c' 15 x).toInt = cr_w G pl pI.toInt qI.toInt x) ∧ ∀ u, u < 7 → -1 ≤ (c' 14 u).toInt ∧ (c' 14 u).toInt ≤ 100000) (fun c' t => va_P en.1 vwCl (xw en ad c') t.heap) (xw_A ad s.heap.size)) ([.ref (ad 3), .int (nI pl), .int pI, .int qI] : List Value).toArray s 0 0 (xw_A ad s.heap.size)) (F0 m 122 ls []) := by
                        intro n_
                        induction n_ with
                        | zero =>
                          intro i rb d_ H locs ls hi2 hin4 hkd hgd hsd hrd hrb0 hle hrb1 hP hS hl
                          exact absurd hin4 (by omega)
                        | succ n_ ih122 =>
                          intro i rb d_ H locs ls hi2 hin4 hkd hgd hsd hrd hrb0 hle hrb1 hP hS hl
                          have hgc := hg.kx hkd (by decide)
                          have hf1 : ∀ u, u < 7 → -1 ≤ (d_ 14 u).toInt ∧ (d_ 14 u).toInt ≤ 100000 := by
                            intro u hu
                            rcases Nat.lt_or_ge u (gr_n G) with q | q
                            · have := sw_bd hg.n7 (M := 126) (by omega) (gr_tgts hg.ok) (cr_M hg.ok hq1 hq7 hp1 hp2) hsd q
                              have h9 : fN d_ u = (d_ 14 u).toInt := rfl
                              omega
                            · rcases hrd u hu q with q2 | q2 <;> rw [q2] <;> decide
                          have hg1 : ∀ x, x < gr_E G → -100000 ≤ (d_ 15 x).toInt ∧ (d_ 15 x).toInt ≤ 100000 := by
                            intro x hx9
                            have := cr_w_bd hg.ok (pl := pl) hq1 hq7 hp1 hp2 x hx9
                            rw [hgd x hx9]
                            omega
                          refine lv_iload hx hb dX0_solve_122 (lv_at hl 6 rfl) ?_
                          refine lv_bipush (v := (nI 7)) hx hb dX0_solve_124 (by decide) ?_
                          refine lv_icmp_ge (tgt := 196) hx hb dX0_solve_126 (by decide) (fun b126 => ?_) (fun b126 => ?_)
                          · skip
                            have hin9 : i = 7 := by
                              rcases Nat.lt_or_ge i 7 with q | q
                              · exact absurd b126 (nI_ge q (by omega))
                              · omega
                            refine lv_iinc (v := (nI (t + 1))) (lv' := [(5, .int (nI (t + 1))), (0, .ref (ad 3)), (1, .int (nI pl)), (2, .int pI), (3, .int qI), (4, .int rb), (6, .int (nI i))]) hx hb dX0_solve_196 hl (k := 5) rfl (nI_1 _) (by decide) rfl (fun ls hl => ?_)
                            refine lv_goto (tgt := 103) hx hb dX0_solve_199 (by decide) ?_
                            exact ih103 (t + 1) rb d_ _ _ _ (by omega) (by omega) hkd hgd hsd hrd (fun q v hv hw => (hrb0 q).2 v (by have := hg.n7; omega) hv hw) (fun q => by have h1 := hra1 b113; have h2 := hrb1 q; omega) hP hS (lv_sub hl [1, 2, 3, 4, 5, 0] rfl)
                          · skip
                            have hlt : i < 7 := by
                              rcases Nat.lt_or_ge i 7 with q | q
                              · exact q
                              · exact absurd (nI_le q (by omega)) b126
                            refine lv_aload_n hx hb dX0_solve_129 rfl (lv_at hl 0 rfl) ?_
                            refine lv_iload hx hb dX0_solve_130 (lv_at hl 6 rfl) ?_
                            refine lv_aload_n hx hb dX0_solve_132 rfl (lv_at hl 0 rfl) ?_
                            refine va_get (D := en.1) (ci := 0) (v := .ref (ad 1)) (C := RX0) (T := TX0) (N := 4) hx hb hts iw_X0_solve_X0 hown hE.1 hP 3 rfl rfl 0 (by decide) (hts (.fieldLink RX0 18 "CreditGame$Credits" "graph" "LCreditGame$Graph;") (by decide +kernel)) (fun _ h9 => h9) rfl dX0_solve_133 ?_
                            refine lv_iload hx hb dX0_solve_136 (lv_at hl 6 rfl) ?_
                            refine ro_calli (va_runVN (As := [.int (nI i)]) (rest := [.int (nI i), .ref (ad 3)]) ⟨hx, hb, hml, hown, hts⟩ (ct_ownerOf l en ad d_ hgc i hlt) ⟨va_cnB 1 hts gX0_solve_X1_ownerOf_n42 rfl rfl rfl (hE.2 _ (List.mem_of_getElem? (i := 32) rfl)) (hts (.initialized RX1) (by decide +kernel)) (by decide +kernel) ⟨Nat.le_of_ble_eq_true rfl, Nat.le_of_ble_eq_true rfl⟩, hts (.instanceMethod yX1_ownerOf) (by decide +kernel), hts (.selects RX1 yX1_ownerOf yX1_ownerOf) (by decide +kernel)⟩ (ct_preV hE (va_recv hE.1 hP (ci := 1) (q0 := 1) rfl rfl) hP) rfl rfl hl.1 rfl (lv_room (Nat.le_of_ble_eq_true rfl)) dX0_solve_138 ⟨Nat.le_of_ble_eq_true rfl, Nat.le_of_ble_eq_true rfl⟩) (fun r138 w138 => ?_)
                            refine lv_iload_n hx hb dX0_solve_141 rfl (lv_at hl 1 rfl) ?_
                            refine lv_icmp_ne (tgt := 149) hx hb dX0_solve_142 (by decide) (fun b142 => ?_) (fun b142 => ?_)
                            · skip
                              have how9 : ∀ hn : i < gr_n G, ¬ gr_own G i = nI pl := fun hn q => b142 (by rw [w138, if_pos hn, q])
                              refine lv_iconst (v := 0) hx hb dX0_solve_149 (by decide) ?_
                              refine ro_calli (va_runV (As := [.int (nI i), .int 0]) (rest := []) ⟨hx, hb, hml, hown, hts⟩ (ct_enoughAt_f l en ad d_ hgc i hlt hf1 hg1) (cwV 2 hts gX0_solve_X0_enoughAt rfl rfl rfl (by decide +kernel) ⟨Nat.le_of_ble_eq_true rfl, Nat.le_of_ble_eq_true rfl⟩) (ct_preV hE (va_recv hE.1 hP (ci := 0) (q0 := 3) rfl rfl) hP) rfl rfl hl.1 rfl (lv_room (Nat.le_of_ble_eq_true rfl)) dX0_solve_150 ⟨Nat.le_of_ble_eq_true rfl, Nat.le_of_ble_eq_true rfl⟩) (fun r150 w150 => ?_)
                              have hen : i < gr_n G → en_P (gr_adj G i) (gr_tgt G) (fN d_) (cr_w G pl pI.toInt qI.toInt) (cr_ow G pl i) r150.toInt := by
                                intro hn
                                rw [sv_owf hg.ok hpl hn (how9 hn)]
                                exact en_congr w150 (fun _ _ => rfl) (fun x hx9 => (hgd x (gr_adj_mem hg.ok hn hx9).1).symm)
                              refine lv_istore (lv' := [(7, .int r150), (0, .ref (ad 3)), (1, .int (nI pl)), (2, .int pI), (3, .int qI), (4, .int rb), (5, .int (nI t)), (6, .int (nI i))]) hx hb dX0_solve_153 hl (by decide) rfl (fun ls hl => ?_)
                              refine lv_aload_n hx hb dX0_solve_155 rfl (lv_at hl 1 rfl) ?_
                              refine va_get (D := en.1) (ci := 0) (v := .ref (ad 14)) (C := RX0) (T := TX0) (N := 4) hx hb hts iw_X0_solve_X0 hown hE.1 hP 3 rfl rfl 2 (by decide) (hts (.fieldLink RX0 9 "CreditGame$Credits" "need" "[I") (by decide +kernel)) (fun _ h9 => h9) rfl dX0_solve_156 ?_
                              refine lv_iload hx hb dX0_solve_159 (lv_at hl 7 rfl) ?_
                              refine xr_ild hx hb hE hP 14 (by decide) i rfl (show _ < 7 by omega) dX0_solve_161 ?_
                              refine lv_iconst (v := (-1)) hx hb dX0_solve_162 (by decide) ?_
                              refine lv_icmp_eq (tgt := 190) hx hb dX0_solve_163 (by decide) (fun b163 => ?_) (fun b163 => ?_)
                              · skip
                                skip
                                have q163 : fN d_ i = -1 := by show (d_ 14 i).toInt = -1; rw [b163]; decide
                                refine lv_iinc (v := (nI (i + 1))) (lv' := [(6, .int (nI (i + 1))), (7, .int r150), (0, .ref (ad 3)), (1, .int (nI pl)), (2, .int pI), (3, .int qI), (4, .int rb), (5, .int (nI t))]) hx hb dX0_solve_190 hl (k := 7) rfl (nI_1 _) (by decide) rfl (fun ls hl => ?_)
                                refine lv_goto (tgt := 122) hx hb dX0_solve_193 (by decide) ?_
                                exact ih122 (i + 1) rb d_ _ _ _ (by omega) (by omega) hkd hgd hsd hrd (fun q => ⟨(hrb0 q).1, (fun v hv hn hw => by by_cases e9 : v = i; subst e9; exact absurd q163 ((sw_ne hsd hn).mp hw); exact (hrb0 q).2 v (by omega) hn hw)⟩) hle hrb1 hP hS (lv_sub hl [2, 3, 4, 5, 6, 7, 0] rfl)
                              · skip
                                skip
                                have q163 : ¬ fN d_ i = -1 := fun q => b163 (i_eq (by show fN d_ i = _; rw [q]; decide))
                                refine lv_iload hx hb dX0_solve_166 (lv_at hl 0 rfl) ?_
                                refine lv_aload_n hx hb dX0_solve_168 rfl (lv_at hl 1 rfl) ?_
                                refine va_get (D := en.1) (ci := 0) (v := .ref (ad 14)) (C := RX0) (T := TX0) (N := 4) hx hb hts iw_X0_solve_X0 hown hE.1 hP 3 rfl rfl 2 (by decide) (hts (.fieldLink RX0 9 "CreditGame$Credits" "need" "[I") (by decide +kernel)) (fun _ h9 => h9) rfl dX0_solve_169 ?_
                                refine lv_iload hx hb dX0_solve_172 (lv_at hl 7 rfl) ?_
                                refine xr_ild hx hb hE hP 14 (by decide) i rfl (show _ < 7 by omega) dX0_solve_174 ?_
                                refine lv_icmp_le (tgt := 190) hx hb dX0_solve_175 (by decide) (fun b175 => ?_) (fun b175 => ?_)
                                · skip
                                  have q175 : r150.toInt ≤ fN d_ i := i_le.mp b175
                                  refine lv_iinc (v := (nI (i + 1))) (lv' := [(6, .int (nI (i + 1))), (7, .int r150), (0, .ref (ad 3)), (1, .int (nI pl)), (2, .int pI), (3, .int qI), (4, .int rb), (5, .int (nI t))]) hx hb dX0_solve_190 hl (k := 7) rfl (nI_1 _) (by decide) rfl (fun ls hl => ?_)
                                  refine lv_goto (tgt := 122) hx hb dX0_solve_193 (by decide) ?_
                                  exact ih122 (i + 1) rb d_ _ _ _ (by omega) (by omega) hkd hgd hsd hrd (fun q => ⟨(hrb0 q).1, (fun v hv hn hw => by by_cases e9 : v = i; subst e9; exact sw_skip hg.n7 (M := 126) (by omega) (gr_tgts hg.ok) (cr_M hg.ok hq1 hq7 hp1 hp2) hsd hn hw (hen hn) q175; exact (hrb0 q).2 v (by omega) hn hw)⟩) hle hrb1 hP hS (lv_sub hl [2, 3, 4, 5, 6, 7, 0] rfl)
                                · skip
                                  have q175 : ¬ r150.toInt ≤ (d_ 14 i).toInt := fun q => b175 (i_le.mpr q)
                                  have hin_ : i < gr_n G := by
                                    rcases Nat.lt_or_ge i (gr_n G) with q | q
                                    · exact q
                                    · exfalso
                                      rw [gr_adj_ge (by omega)] at w150
                                      rcases w150 with w9 | ⟨x, hx9, -⟩
                                      · rcases hrd i hlt q with q2 | q2
                                        · rw [q2, i_0] at q175; omega
                                        · exact q163 (by show (d_ 14 i).toInt = -1; rw [q2]; decide)
                                      · cases hx9
                                  have hwi := (sw_ne hsd hin_).mpr q163
                                  have hle2 : gm_sum (fN d_) (gr_n G) + 1 ≤ gm_sum (fun u => if u = i then r150.toInt else fN d_ u) (gr_n G) := by
                                    refine gm_sum_lt (v := i) (fun u hu => ?_) hin_ (hsd.2 i hin_ hwi).1 ?_
                                    · by_cases e9 : u = i
                                      · rw [e9, if_pos rfl]; show (d_ 14 i).toInt ≤ _; omega
                                      · rw [if_neg e9]; exact Int.le_refl _
                                    · rw [if_pos rfl]; show (d_ 14 i).toInt < _; omega
                                  refine lv_aload_n hx hb dX0_solve_178 rfl (lv_at hl 1 rfl) ?_
                                  refine va_get (D := en.1) (ci := 0) (v := .ref (ad 14)) (C := RX0) (T := TX0) (N := 4) hx hb hts iw_X0_solve_X0 hown hE.1 hP 3 rfl rfl 2 (by decide) (hts (.fieldLink RX0 9 "CreditGame$Credits" "need" "[I") (by decide +kernel)) (fun _ h9 => h9) rfl dX0_solve_179 ?_
                                  refine lv_iload hx hb dX0_solve_182 (lv_at hl 7 rfl) ?_
                                  refine lv_iload hx hb dX0_solve_184 (lv_at hl 0 rfl) ?_
                                  refine xr_ist hx hb hE hP hI hS 14 (by decide) i rfl (show _ < 7 by omega) dX0_solve_186 (fun H locs hP hS => ?_)
                                  obtain ⟨c186, ec186⟩ : ∃ z : Nat → Nat → Int32, z = va_up d_ 14 (upd (d_ 14) i r150) := ⟨_, rfl⟩
                                  rw [← ec186] at hP
                                  rw [← sv_fN ec186] at hle2
                                  refine lv_iconst (v := 1) hx hb dX0_solve_187 (by decide) ?_
                                  refine lv_istore (lv' := [(4, .int 1), (7, .int r150), (0, .ref (ad 3)), (1, .int (nI pl)), (2, .int pI), (3, .int qI), (5, .int (nI t)), (6, .int (nI i))]) hx hb dX0_solve_188 hl (by decide) rfl (fun ls hl => ?_)
                                  refine lv_iinc (v := (nI (i + 1))) (lv' := [(6, .int (nI (i + 1))), (4, .int 1), (7, .int r150), (0, .ref (ad 3)), (1, .int (nI pl)), (2, .int pI), (3, .int qI), (5, .int (nI t))]) hx hb dX0_solve_190 hl (k := 7) rfl (nI_1 _) (by decide) rfl (fun ls hl => ?_)
                                  refine lv_goto (tgt := 122) hx hb dX0_solve_193 (by decide) ?_
                                  exact ih122 (i + 1) 1 c186 _ _ _ (by omega) (by omega) (by rw [ec186]; exact hkd.tr (kx.up (by decide))) (fun x hE_ => by rw [sv_15 ec186]; exact hgd x hE_) (by rw [sv_fN ec186]; exact sw_raise (gr_tgts hg.ok) hsd hin_ hwi (hen hin_) (by show (d_ 14 i).toInt < _; omega)) (fun u h7 hn => by rw [ec186, up_at, ud_ne (by omega)]; exact hrd u h7 hn) (fun q => absurd q (by decide)) (by omega) (fun _ => by omega) hP hS (lv_sub hl [3, 4, 5, 6, 1, 7, 0] rfl)
                            · skip
                              have how9 : ∀ hn : i < gr_n G, gr_own G i = nI pl := fun hn => by rw [← b142, w138, if_pos hn]
                              refine lv_iconst (v := 1) hx hb dX0_solve_145 (by decide) ?_
                              refine lv_goto (tgt := 150) hx hb dX0_solve_146 (by decide) ?_
                              refine ro_calli (va_runV (As := [.int (nI i), .int 1]) (rest := []) ⟨hx, hb, hml, hown, hts⟩ (ct_enoughAt_t l en ad d_ hgc i hlt hf1 hg1) (cwV 2 hts gX0_solve_X0_enoughAt rfl rfl rfl (by decide +kernel) ⟨Nat.le_of_ble_eq_true rfl, Nat.le_of_ble_eq_true rfl⟩) (ct_preV hE (va_recv hE.1 hP (ci := 0) (q0 := 3) rfl rfl) hP) rfl rfl hl.1 rfl (lv_room (Nat.le_of_ble_eq_true rfl)) dX0_solve_150 ⟨Nat.le_of_ble_eq_true rfl, Nat.le_of_ble_eq_true rfl⟩) (fun r150 w150 => ?_)
                              have hen : i < gr_n G → en_P (gr_adj G i) (gr_tgt G) (fN d_) (cr_w G pl pI.toInt qI.toInt) (cr_ow G pl i) r150.toInt := by
                                intro hn
                                rw [sv_owt hg.ok hpl hn (how9 hn)]
                                exact en_congr w150 (fun _ _ => rfl) (fun x hx9 => (hgd x (gr_adj_mem hg.ok hn hx9).1).symm)
                              refine lv_istore (lv' := [(7, .int r150), (0, .ref (ad 3)), (1, .int (nI pl)), (2, .int pI), (3, .int qI), (4, .int rb), (5, .int (nI t)), (6, .int (nI i))]) hx hb dX0_solve_153 hl (by decide) rfl (fun ls hl => ?_)
                              refine lv_aload_n hx hb dX0_solve_155 rfl (lv_at hl 1 rfl) ?_
                              refine va_get (D := en.1) (ci := 0) (v := .ref (ad 14)) (C := RX0) (T := TX0) (N := 4) hx hb hts iw_X0_solve_X0 hown hE.1 hP 3 rfl rfl 2 (by decide) (hts (.fieldLink RX0 9 "CreditGame$Credits" "need" "[I") (by decide +kernel)) (fun _ h9 => h9) rfl dX0_solve_156 ?_
                              refine lv_iload hx hb dX0_solve_159 (lv_at hl 7 rfl) ?_
                              refine xr_ild hx hb hE hP 14 (by decide) i rfl (show _ < 7 by omega) dX0_solve_161 ?_
                              refine lv_iconst (v := (-1)) hx hb dX0_solve_162 (by decide) ?_
                              refine lv_icmp_eq (tgt := 190) hx hb dX0_solve_163 (by decide) (fun b163 => ?_) (fun b163 => ?_)
                              · skip
                                skip
                                have q163 : fN d_ i = -1 := by show (d_ 14 i).toInt = -1; rw [b163]; decide
                                refine lv_iinc (v := (nI (i + 1))) (lv' := [(6, .int (nI (i + 1))), (7, .int r150), (0, .ref (ad 3)), (1, .int (nI pl)), (2, .int pI), (3, .int qI), (4, .int rb), (5, .int (nI t))]) hx hb dX0_solve_190 hl (k := 7) rfl (nI_1 _) (by decide) rfl (fun ls hl => ?_)
                                refine lv_goto (tgt := 122) hx hb dX0_solve_193 (by decide) ?_
                                exact ih122 (i + 1) rb d_ _ _ _ (by omega) (by omega) hkd hgd hsd hrd (fun q => ⟨(hrb0 q).1, (fun v hv hn hw => by by_cases e9 : v = i; subst e9; exact absurd q163 ((sw_ne hsd hn).mp hw); exact (hrb0 q).2 v (by omega) hn hw)⟩) hle hrb1 hP hS (lv_sub hl [2, 3, 4, 5, 6, 7, 0] rfl)
                              · skip
                                skip
                                have q163 : ¬ fN d_ i = -1 := fun q => b163 (i_eq (by show fN d_ i = _; rw [q]; decide))
                                refine lv_iload hx hb dX0_solve_166 (lv_at hl 0 rfl) ?_
                                refine lv_aload_n hx hb dX0_solve_168 rfl (lv_at hl 1 rfl) ?_
                                refine va_get (D := en.1) (ci := 0) (v := .ref (ad 14)) (C := RX0) (T := TX0) (N := 4) hx hb hts iw_X0_solve_X0 hown hE.1 hP 3 rfl rfl 2 (by decide) (hts (.fieldLink RX0 9 "CreditGame$Credits" "need" "[I") (by decide +kernel)) (fun _ h9 => h9) rfl dX0_solve_169 ?_
                                refine lv_iload hx hb dX0_solve_172 (lv_at hl 7 rfl) ?_
                                refine xr_ild hx hb hE hP 14 (by decide) i rfl (show _ < 7 by omega) dX0_solve_174 ?_
                                refine lv_icmp_le (tgt := 190) hx hb dX0_solve_175 (by decide) (fun b175 => ?_) (fun b175 => ?_)
                                · skip
                                  have q175 : r150.toInt ≤ fN d_ i := i_le.mp b175
                                  refine lv_iinc (v := (nI (i + 1))) (lv' := [(6, .int (nI (i + 1))), (7, .int r150), (0, .ref (ad 3)), (1, .int (nI pl)), (2, .int pI), (3, .int qI), (4, .int rb), (5, .int (nI t))]) hx hb dX0_solve_190 hl (k := 7) rfl (nI_1 _) (by decide) rfl (fun ls hl => ?_)
                                  refine lv_goto (tgt := 122) hx hb dX0_solve_193 (by decide) ?_
                                  exact ih122 (i + 1) rb d_ _ _ _ (by omega) (by omega) hkd hgd hsd hrd (fun q => ⟨(hrb0 q).1, (fun v hv hn hw => by by_cases e9 : v = i; subst e9; exact sw_skip hg.n7 (M := 126) (by omega) (gr_tgts hg.ok) (cr_M hg.ok hq1 hq7 hp1 hp2) hsd hn hw (hen hn) q175; exact (hrb0 q).2 v (by omega) hn hw)⟩) hle hrb1 hP hS (lv_sub hl [2, 3, 4, 5, 6, 7, 0] rfl)
                                · skip
                                  have q175 : ¬ r150.toInt ≤ (d_ 14 i).toInt := fun q => b175 (i_le.mpr q)
                                  have hin_ : i < gr_n G := by
                                    rcases Nat.lt_or_ge i (gr_n G) with q | q
                                    · exact q
                                    · exfalso
                                      rw [gr_adj_ge (by omega)] at w150
                                      rcases w150 with w9 | ⟨x, hx9, -⟩
                                      · rcases hrd i hlt q with q2 | q2
                                        · rw [q2, i_0] at q175; omega
                                        · exact q163 (by show (d_ 14 i).toInt = -1; rw [q2]; decide)
                                      · cases hx9
                                  have hwi := (sw_ne hsd hin_).mpr q163
                                  have hle2 : gm_sum (fN d_) (gr_n G) + 1 ≤ gm_sum (fun u => if u = i then r150.toInt else fN d_ u) (gr_n G) := by
                                    refine gm_sum_lt (v := i) (fun u hu => ?_) hin_ (hsd.2 i hin_ hwi).1 ?_
                                    · by_cases e9 : u = i
                                      · rw [e9, if_pos rfl]; show (d_ 14 i).toInt ≤ _; omega
                                      · rw [if_neg e9]; exact Int.le_refl _
                                    · rw [if_pos rfl]; show (d_ 14 i).toInt < _; omega
                                  refine lv_aload_n hx hb dX0_solve_178 rfl (lv_at hl 1 rfl) ?_
                                  refine va_get (D := en.1) (ci := 0) (v := .ref (ad 14)) (C := RX0) (T := TX0) (N := 4) hx hb hts iw_X0_solve_X0 hown hE.1 hP 3 rfl rfl 2 (by decide) (hts (.fieldLink RX0 9 "CreditGame$Credits" "need" "[I") (by decide +kernel)) (fun _ h9 => h9) rfl dX0_solve_179 ?_
                                  refine lv_iload hx hb dX0_solve_182 (lv_at hl 7 rfl) ?_
                                  refine lv_iload hx hb dX0_solve_184 (lv_at hl 0 rfl) ?_
                                  refine xr_ist hx hb hE hP hI hS 14 (by decide) i rfl (show _ < 7 by omega) dX0_solve_186 (fun H locs hP hS => ?_)
                                  obtain ⟨c186, ec186⟩ : ∃ z : Nat → Nat → Int32, z = va_up d_ 14 (upd (d_ 14) i r150) := ⟨_, rfl⟩
                                  rw [← ec186] at hP
                                  rw [← sv_fN ec186] at hle2
                                  refine lv_iconst (v := 1) hx hb dX0_solve_187 (by decide) ?_
                                  refine lv_istore (lv' := [(4, .int 1), (7, .int r150), (0, .ref (ad 3)), (1, .int (nI pl)), (2, .int pI), (3, .int qI), (5, .int (nI t)), (6, .int (nI i))]) hx hb dX0_solve_188 hl (by decide) rfl (fun ls hl => ?_)
                                  refine lv_iinc (v := (nI (i + 1))) (lv' := [(6, .int (nI (i + 1))), (4, .int 1), (7, .int r150), (0, .ref (ad 3)), (1, .int (nI pl)), (2, .int pI), (3, .int qI), (5, .int (nI t))]) hx hb dX0_solve_190 hl (k := 7) rfl (nI_1 _) (by decide) rfl (fun ls hl => ?_)
                                  refine lv_goto (tgt := 122) hx hb dX0_solve_193 (by decide) ?_
                                  exact ih122 (i + 1) 1 c186 _ _ _ (by omega) (by omega) (by rw [ec186]; exact hkd.tr (kx.up (by decide))) (fun x hE_ => by rw [sv_15 ec186]; exact hgd x hE_) (by rw [sv_fN ec186]; exact sw_raise (gr_tgts hg.ok) hsd hin_ hwi (hen hin_) (by show (d_ 14 i).toInt < _; omega)) (fun u h7 hn => by rw [ec186, up_at, ud_ne (by omega)]; exact hrd u h7 hn) (fun q => absurd q (by decide)) (by omega) (fun _ => by omega) hP hS (lv_sub hl [3, 4, 5, 6, 1, 7, 0] rfl)
                      exact key122 (7 + 1) 0 0 c_ _ _ _ (by omega) (by omega) hkc hgb hsw hrs (fun _ => ⟨fun _ _ => rfl, fun v hv => absurd hv (Nat.not_lt_zero v)⟩) (Int.le_refl _) (fun q => absurd rfl q) hP hS (lv_sub hl [2, 3, 4, 5, 1, 6, 0] rfl)
              exact key103 (10000 + 1) 0 1 c_ _ _ _ (by omega) (by omega) hkc hgb (sv_start (fun u hu => (hnd u (by have := hg.n7; omega)).1 hu)) (fun u h7 _ => (hnd u (by omega)).2) (fun q => absurd q (by decide)) (fun _ => (gm_sum_bd (B := 100000) (by omega) (fun u hu => by have := (hnd u (by have := hg.n7; omega)).2; show (c_ 14 u).toInt ≤ 100000; rcases this with q | q <;> rw [q] <;> decide)).1) hP hS (lv_sub hl [2, 3, 4, 5, 1, 0] rfl)
            · skip
              have hlt : i < 7 := by
                rcases Nat.lt_or_ge i 7 with q | q
                · exact q
                · exact absurd (nI_le q (by omega)) b57
              refine lv_aload_n hx hb dX0_solve_60 rfl (lv_at hl 0 rfl) ?_
              refine va_get (D := en.1) (ci := 0) (v := .ref (ad 14)) (C := RX0) (T := TX0) (N := 4) hx hb hts iw_X0_solve_X0 hown hE.1 hP 3 rfl rfl 2 (by decide) (hts (.fieldLink RX0 9 "CreditGame$Credits" "need" "[I") (by decide +kernel)) (fun _ h9 => h9) rfl dX0_solve_61 ?_
              refine lv_iload hx hb dX0_solve_64 (lv_at hl 4 rfl) ?_
              refine lv_aload_n hx hb dX0_solve_66 rfl (lv_at hl 0 rfl) ?_
              refine lv_iload_n hx hb dX0_solve_67 rfl (lv_at hl 1 rfl) ?_
              refine lv_aload_n hx hb dX0_solve_68 rfl (lv_at hl 0 rfl) ?_
              refine va_get (D := en.1) (ci := 0) (v := .ref (ad 2)) (C := RX0) (T := TX0) (N := 4) hx hb hts iw_X0_solve_X0 hown hE.1 hP 3 rfl rfl 1 (by decide) (hts (.fieldLink RX0 22 "CreditGame$Credits" "values" "LCreditGame$Values;") (by decide +kernel)) (fun _ h9 => h9) rfl dX0_solve_69 ?_
              refine lv_iload hx hb dX0_solve_72 (lv_at hl 4 rfl) ?_
              refine lv_iload_n hx hb dX0_solve_74 rfl (lv_at hl 2 rfl) ?_
              refine lv_iload_n hx hb dX0_solve_75 rfl (lv_at hl 3 rfl) ?_
              refine ro_calli (va_runVN (As := [.int (nI i), .int pI, .int qI]) (rest := [.int (nI pl), .ref (ad 3), .int (nI i), .ref (ad 14)]) ⟨hx, hb, hml, hown, hts⟩ (ct_order l en ad c_ hgc i hlt pI qI) ⟨va_cnB 3 hts gX0_solve_X3_order_n32 rfl rfl rfl (hE.2 _ (List.mem_of_getElem? (i := 31) rfl)) (hts (.initialized RX3) (by decide +kernel)) (by decide +kernel) ⟨Nat.le_of_ble_eq_true rfl, Nat.le_of_ble_eq_true rfl⟩, hts (.instanceMethod yX3_order) (by decide +kernel), hts (.selects RX3 yX3_order yX3_order) (by decide +kernel)⟩ (ct_preV hE (va_recv hE.1 hP (ci := 3) (q0 := 2) rfl rfl) hP) rfl rfl hl.1 rfl (lv_room (Nat.le_of_ble_eq_true rfl)) dX0_solve_76 ⟨Nat.le_of_ble_eq_true rfl, Nat.le_of_ble_eq_true rfl⟩) (fun r76 w76 => ?_)
              refine ro_calli (va_runV (As := [.int (nI pl), .int r76]) (rest := [.int (nI i), .ref (ad 14)]) ⟨hx, hb, hml, hown, hts⟩ (ct_isGoodFor l en ad c_ pl hpl r76) (cwV 2 hts gX0_solve_X0_isGoodFor rfl rfl rfl (by decide +kernel) ⟨Nat.le_of_ble_eq_true rfl, Nat.le_of_ble_eq_true rfl⟩) (ct_preV hE (va_recv hE.1 hP (ci := 0) (q0 := 3) rfl rfl) trivial) rfl rfl hl.1 rfl (lv_room (Nat.le_of_ble_eq_true rfl)) dX0_solve_79 ⟨Nat.le_of_ble_eq_true rfl, Nat.le_of_ble_eq_true rfl⟩) (fun r79 w79 => ?_)
              refine lv_if_eq (tgt := 89) hx hb dX0_solve_82 (by decide) (fun b82 => ?_) (fun b82 => ?_)
              · skip
                have hset : (i < gr_n G → (cr_win G pl pI.toInt qI.toInt i → (-1 : Int32) = 0) ∧ (¬ cr_win G pl pI.toInt qI.toInt i → (-1 : Int32) = -1)) ∧ ((-1 : Int32) = 0 ∨ (-1 : Int32) = -1) := by
                  refine ⟨fun hn => ⟨fun hw => ?_, fun _ => rfl⟩, Or.inr rfl⟩
                  have h9 := (sv_good hg.ok hc (pl := pl) hn (by rw [hkc 13 (by decide)]; exact hva i hn) hq1 hq7 hp1 hp2 w76).mp hw
                  rcases w79 with q | q
                  · rw [q.1] at b82; exact absurd b82 (by decide)
                  · exact absurd h9 q.2
                refine lv_iconst (v := (-1)) hx hb dX0_solve_89 (by decide) ?_
                refine xr_ist hx hb hE hP hI hS 14 (by decide) i rfl (show _ < 7 by omega) dX0_solve_90 (fun H locs hP hS => ?_)
                obtain ⟨c90, ec90⟩ : ∃ z : Nat → Nat → Int32, z = va_up c_ 14 (upd (c_ 14) i (-1)) := ⟨_, rfl⟩
                rw [← ec90] at hP
                refine lv_iinc (v := (nI (i + 1))) (lv' := [(4, .int (nI (i + 1))), (0, .ref (ad 3)), (1, .int (nI pl)), (2, .int pI), (3, .int qI)]) hx hb dX0_solve_91 hl (k := 4) rfl (nI_1 _) (by decide) rfl (fun ls hl => ?_)
                refine lv_goto (tgt := 53) hx hb dX0_solve_94 (by decide) ?_
                exact ih53 (i + 1) c90 _ _ _ (by omega) (by omega) (by rw [ec90]; exact hkc.tr (kx.up (by decide))) (fun x hE_ => by rw [ec90]; exact hgb x hE_) (fun u h => by rw [ec90, up_at]; by_cases e9 : u = i; rw [e9, ud_at]; exact hset; rw [ud_ne e9]; exact hnd u (by omega)) hP hS (lv_sub hl [1, 2, 3, 4, 0] rfl)
              · skip
                have hset : (i < gr_n G → (cr_win G pl pI.toInt qI.toInt i → (0 : Int32) = 0) ∧ (¬ cr_win G pl pI.toInt qI.toInt i → (0 : Int32) = -1)) ∧ ((0 : Int32) = 0 ∨ (0 : Int32) = -1) := by
                  refine ⟨fun hn => ⟨fun _ => rfl, fun hw => ?_⟩, Or.inl rfl⟩
                  rcases w79 with q | q
                  · exact absurd ((sv_good hg.ok hc (pl := pl) hn (by rw [hkc 13 (by decide)]; exact hva i hn) hq1 hq7 hp1 hp2 w76).mpr q.2) hw
                  · exact absurd q.1 b82
                refine lv_iconst (v := 0) hx hb dX0_solve_85 (by decide) ?_
                refine lv_goto (tgt := 90) hx hb dX0_solve_86 (by decide) ?_
                refine xr_ist hx hb hE hP hI hS 14 (by decide) i rfl (show _ < 7 by omega) dX0_solve_90 (fun H locs hP hS => ?_)
                obtain ⟨c90, ec90⟩ : ∃ z : Nat → Nat → Int32, z = va_up c_ 14 (upd (c_ 14) i 0) := ⟨_, rfl⟩
                rw [← ec90] at hP
                refine lv_iinc (v := (nI (i + 1))) (lv' := [(4, .int (nI (i + 1))), (0, .ref (ad 3)), (1, .int (nI pl)), (2, .int pI), (3, .int qI)]) hx hb dX0_solve_91 hl (k := 4) rfl (nI_1 _) (by decide) rfl (fun ls hl => ?_)
                refine lv_goto (tgt := 53) hx hb dX0_solve_94 (by decide) ?_
                exact ih53 (i + 1) c90 _ _ _ (by omega) (by omega) (by rw [ec90]; exact hkc.tr (kx.up (by decide))) (fun x hE_ => by rw [ec90]; exact hgb x hE_) (fun u h => by rw [ec90, up_at]; by_cases e9 : u = i; rw [e9, ud_at]; exact hset; rw [ud_ne e9]; exact hnd u (by omega)) hP hS (lv_sub hl [1, 2, 3, 4, 0] rfl)
        exact key53 (7 + 1) 0 c_ _ _ _ (by omega) (by omega) (hkc.wide (by decide)) (fun x hE_ => hga x (by have := hg.e24; omega) hE_) (fun u h => absurd h (Nat.not_lt_zero u)) hP hS (lv_sub hl [1, 2, 3, 4, 0] rfl)
      · skip
        have hlt : i < 24 := by
          rcases Nat.lt_or_ge i 24 with q | q
          · exact q
          · exact absurd (nI_le q (by omega)) b7
        refine lv_iload_n hx hb dX0_solve_10 rfl (lv_at hl 3 rfl) ?_
        refine lv_aload_n hx hb dX0_solve_11 rfl (lv_at hl 0 rfl) ?_
        refine va_get (D := en.1) (ci := 0) (v := .ref (ad 1)) (C := RX0) (T := TX0) (N := 4) hx hb hts iw_X0_solve_X0 hown hE.1 hP 3 rfl rfl 0 (by decide) (hts (.fieldLink RX0 18 "CreditGame$Credits" "graph" "LCreditGame$Graph;") (by decide +kernel)) (fun _ h9 => h9) rfl dX0_solve_12 ?_
        refine lv_iload hx hb dX0_solve_15 (lv_at hl 4 rfl) ?_
        refine ro_calli (va_runVN (As := [.int (nI i)]) (rest := [.int qI]) ⟨hx, hb, hml, hown, hts⟩ (ct_weightOf l en ad c_ hgc i hlt) ⟨va_cnB 1 hts gX0_solve_X1_weightOf_n26 rfl rfl rfl (hE.2 _ (List.mem_of_getElem? (i := 30) rfl)) (hts (.initialized RX1) (by decide +kernel)) (by decide +kernel) ⟨Nat.le_of_ble_eq_true rfl, Nat.le_of_ble_eq_true rfl⟩, hts (.instanceMethod yX1_weightOf) (by decide +kernel), hts (.selects RX1 yX1_weightOf yX1_weightOf) (by decide +kernel)⟩ (ct_preV hE (va_recv hE.1 hP (ci := 1) (q0 := 1) rfl rfl) hP) rfl rfl hl.1 rfl (lv_room (Nat.le_of_ble_eq_true rfl)) dX0_solve_17 ⟨Nat.le_of_ble_eq_true rfl, Nat.le_of_ble_eq_true rfl⟩) (fun r17 w17 => ?_)
        obtain rfl : r17 = (gr_wt G i) := w17
        refine lv_imul hx hb dX0_solve_20 ?_
        refine lv_iload_n hx hb dX0_solve_21 rfl (lv_at hl 2 rfl) ?_
        refine lv_isub hx hb dX0_solve_22 ?_
        refine lv_topi (fun pa1 hpa1 => ?_)
        refine lv_istore (lv' := [(5, .int pa1), (0, .ref (ad 3)), (1, .int (nI pl)), (2, .int pI), (3, .int qI), (4, .int (nI i))]) hx hb dX0_solve_23 hl (by decide) rfl (fun ls hl => ?_)
        refine lv_aload_n hx hb dX0_solve_25 rfl (lv_at hl 1 rfl) ?_
        refine va_get (D := en.1) (ci := 0) (v := .ref (ad 15)) (C := RX0) (T := TX0) (N := 4) hx hb hts iw_X0_solve_X0 hown hE.1 hP 3 rfl rfl 3 (by decide) (hts (.fieldLink RX0 15 "CreditGame$Credits" "gain" "[I") (by decide +kernel)) (fun _ h9 => h9) rfl dX0_solve_26 ?_
        refine lv_iload hx hb dX0_solve_29 (lv_at hl 5 rfl) ?_
        refine lv_iload_n hx hb dX0_solve_31 rfl (lv_at hl 2 rfl) ?_
        refine lv_if_ne (tgt := 40) hx hb dX0_solve_32 (by decide) (fun b32 => ?_) (fun b32 => ?_)
        · skip
          have hp : pl ≠ 0 := fun q => b32 (by rw [q]; rfl)
          have hval := sv_val1 hg.ok (x := i) hp hq1 hq7 hp1 hp2 hpa1
          refine lv_iload hx hb dX0_solve_40 (lv_at hl 0 rfl) ?_
          refine lv_ineg hx hb dX0_solve_42 ?_
          refine xr_ist hx hb hE hP hI hS 15 (by decide) i rfl (show _ < 24 by omega) dX0_solve_43 (fun H locs hP hS => ?_)
          obtain ⟨c43, ec43⟩ : ∃ z : Nat → Nat → Int32, z = va_up c_ 15 (upd (c_ 15) i (-pa1)) := ⟨_, rfl⟩
          rw [← ec43] at hP
          refine lv_iinc (v := (nI (i + 1))) (lv' := [(4, .int (nI (i + 1))), (5, .int pa1), (0, .ref (ad 3)), (1, .int (nI pl)), (2, .int pI), (3, .int qI)]) hx hb dX0_solve_44 hl (k := 5) rfl (nI_1 _) (by decide) rfl (fun ls hl => ?_)
          refine lv_goto (tgt := 3) hx hb dX0_solve_47 (by decide) ?_
          exact ih3 (i + 1) c43 _ _ _ (by omega) (by omega) (by rw [ec43]; exact hkc.tr (kx.up (by decide))) (fun x h hE_ => by rw [ec43, up_at]; by_cases e9 : x = i; rw [e9, ud_at]; exact hval (e9 ▸ hE_); rw [ud_ne e9]; exact hga x (by omega) hE_) hP hS (lv_sub hl [2, 3, 4, 5, 0] rfl)
        · skip
          have hp : pl = 0 := by
            rcases (show pl = 0 ∨ pl = 1 by omega) with q | q
            · exact q
            · rw [q] at b32; exact absurd b32 (by decide)
          have hval := sv_val0 hg.ok (x := i) hp hq1 hq7 hp1 hp2 hpa1
          refine lv_iload hx hb dX0_solve_35 (lv_at hl 0 rfl) ?_
          refine lv_goto (tgt := 43) hx hb dX0_solve_37 (by decide) ?_
          refine xr_ist hx hb hE hP hI hS 15 (by decide) i rfl (show _ < 24 by omega) dX0_solve_43 (fun H locs hP hS => ?_)
          obtain ⟨c43, ec43⟩ : ∃ z : Nat → Nat → Int32, z = va_up c_ 15 (upd (c_ 15) i pa1) := ⟨_, rfl⟩
          rw [← ec43] at hP
          refine lv_iinc (v := (nI (i + 1))) (lv' := [(4, .int (nI (i + 1))), (5, .int pa1), (0, .ref (ad 3)), (1, .int (nI pl)), (2, .int pI), (3, .int qI)]) hx hb dX0_solve_44 hl (k := 5) rfl (nI_1 _) (by decide) rfl (fun ls hl => ?_)
          refine lv_goto (tgt := 3) hx hb dX0_solve_47 (by decide) ?_
          exact ih3 (i + 1) c43 _ _ _ (by omega) (by omega) (by rw [ec43]; exact hkc.tr (kx.up (by decide))) (fun x h hE_ => by rw [ec43, up_at]; by_cases e9 : x = i; rw [e9, ud_at]; exact hval (e9 ▸ hE_); rw [ud_ne e9]; exact hga x (by omega) hE_) hP hS (lv_sub hl [2, 3, 4, 5, 0] rfl)
  exact key3 (24 + 1) 0 c _ _ _ (by omega) (by omega) kx.rf (fun x h => absurd h (Nat.not_lt_zero x)) hP hS (lv_sub hl [1, 2, 3, 4, 0] rfl)
