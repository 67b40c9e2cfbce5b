/-! ===== CreditGameModel: reaches, value, bestOf, best, settle, walk ===== -/
theorem rs_m {G : gr_T} (hg : gf_ok G) (hc : gr_cpl G) {j : Nat} (hj : j < gr_n G) {p q : Int} (hq1 : 1 ≤ q) (hq9 : q ≤ 9) : p * (vl_q (vl_F G j) : Int) ≤ vl_t (vl_F G j) * q ↔ p * 420 ≤ vl_F G j * q := by
  have e := vl_tq (vl_F_dv hg hc hj)
  have h7 := vl_q_bd (vl_F G j)
  generalize vl_q (vl_F G j) = q0 at e h7
  generalize vl_t (vl_F G j) = t at e
  generalize vl_F G j = F at e
  rcases (show q0 = 1 ∨ q0 = 2 ∨ q0 = 3 ∨ q0 = 4 ∨ q0 = 5 ∨ q0 = 6 ∨ q0 = 7 by omega) with rfl | rfl | rfl | rfl | rfl | rfl | rfl <;>
  rcases (show q = 1 ∨ q = 2 ∨ q = 3 ∨ q = 4 ∨ q = 5 ∨ q = 6 ∨ q = 7 ∨ q = 8 ∨ q = 9 by omega) with rfl | rfl | rfl | rfl | rfl | rfl | rfl | rfl | rfl <;> omega
theorem adj_sorted {G : gr_T} {j : Nat} : (gr_adj G j).Pairwise (· < ·) := by
  show (gp_adj _ _ _ _ _).Pairwise _
  unfold gp_adj
  split
  · split
    · exact List.Pairwise.filter _ List.pairwise_lt_range
    · exact List.pairwise_singleton _ _
  · exact List.Pairwise.nil
theorem gr_best_first {G : gr_T} {j x : Nat} (hx : x ∈ gr_adj G j) (hb : gr_bp G j x) (hn : ∀ y, y < x → y ∈ gr_adj G j → ¬ gr_bp G j y) : gr_best G j = x := by
  obtain ⟨i, hi, he⟩ := List.mem_iff_getElem.mp hx
  have hd : ∀ k (hk : k < (gr_adj G j).length), (gr_adj G j).getD k 0 = (gr_adj G j)[k] := fun k hk => by rw [List.getD_eq_getElem?_getD, List.getElem?_eq_getElem hk]; rfl
  have h1 := gr_best_eq (G := G) (j := j) hi (by rw [hd i hi, he]; exact hb) (fun k hk => by
    rw [hd k (by omega)]
    have h2 := List.pairwise_iff_getElem.mp (adj_sorted (G := G) (j := j)) k i (by omega) hi hk
    exact hn _ (by rw [← he]; exact h2) (List.getElem_mem _))
  rw [h1, hd i hi, he]
theorem gr_self {G : gr_T} (hg : gf_ok G) (hc : gr_cpl G) {j : Nat} (hj : j < gr_n G) {f : Nat → Int} (hf : cr_is G (gr_pl G j) (vl_t (vl_F G j)) (vl_q (vl_F G j) : Int) f) : 0 ≤ f j := by
  have hb := vl_F_bd hg hc hj
  have ht := vl_t_bd hb.1 hb.2
  have hq := vl_q_bd (vl_F G j)
  have hdv := vl_tq (vl_F_dv hg hc hj)
  have hw : cr_win G (gr_pl G j) (vl_t (vl_F G j)) (vl_q (vl_F G j) : Int) j := by
    rw [cr_win_iff hg (by omega) (by omega) (by omega) hj]
    exact ⟨fun _ => by omega, fun _ => by omega⟩
  exact (gm_cr_win hf hj).mp hw
/-- what a best edge leaves -/
def bk (G : gr_T) (d d' : mT) : Prop := kx [0, 6, 7, 10, 11] d.1 d'.1 ∧ (∀ j, j ≠ 3 → d'.1 0 j = d.1 0 j) ∧ mci G d'
/-- the same, with the cells of choice -/
def bk2 (G : gr_T) (d d' : mT) : Prop := kx [0, 6, 7, 10, 11, 12] d.1 d'.1 ∧ (∀ j, j ≠ 3 → d'.1 0 j = d.1 0 j) ∧ mci G d'
theorem bk2_rf {G : gr_T} {d : mT} (h : mci G d) : bk2 G d d := ⟨kx.rf, fun _ _ => rfl, h⟩
theorem bk2_tr {G : gr_T} {a b c : mT} (h1 : bk2 G a b) (h2 : bk G b c) : bk2 G a c := ⟨h1.1.tr (h2.1.wide (by decide)), fun j hj => (h2.2.1 j hj).trans (h1.2.1 j hj), h2.2.2⟩
theorem bk2_up {G : gr_T} {a b : mT} {f : Nat → Int32} (h1 : bk2 G a b) : bk2 G a (va_up b.1 12 f, b.2) :=
  ⟨h1.1.tr (kx.up (by decide)), fun j hj => h1.2.1 j hj, (km.up (S := [12]) (by decide) : km [12] b (va_up b.1 12 f, b.2)).mci h1.2.2 (by decide)⟩
theorem wt_b0 {G : gr_T} {tI oI : Int32} {p q : Int} (hq : tI.toInt = q) (hp : oI.toInt = p) (h1 : -7 ≤ q ∧ q ≤ 7) (h2 : -63 ≤ p ∧ p ≤ 63) : wt_ok G 0 p q tI oI := ⟨by rw [hq]; exact h1, by rw [hp]; exact h2, fun x _ => by rw [hq, hp]; rfl⟩
theorem wt_b1 {G : gr_T} {tI oI : Int32} {p q : Int} (hq : tI.toInt = -q) (hp : oI.toInt = -p) (h1 : -7 ≤ q ∧ q ≤ 7) (h2 : -63 ≤ p ∧ p ≤ 63) : wt_ok G 1 p q tI oI := ⟨by rw [hq]; omega, by rw [hp]; omega, fun x _ => by rw [hq, hp]; rfl⟩
theorem gr_pl0 {G : gr_T} {j : Nat} (h : gr_own G j = 0) : gr_pl G j = 0 := if_pos h
theorem gr_pl1 {G : gr_T} {j : Nat} (h : ¬ gr_own G j = 0) : gr_pl G j = 1 := if_neg h
theorem bp_iff {G : gr_T} (hg : gf_ok G) {j x : Nat} (hj : j < gr_n G) (hx : x < gr_E G) {d : mT} (hf : cr_is G (gr_pl G j) (vl_t (vl_F G j)) (vl_q (vl_F G j) : Int) (fun v => if fM d v = 1000000 then -1 else fM d v)) (hs : fM d j ≠ 1000000) (hr : 0 ≤ fM d (gr_tgt G x)) : gr_bp G j x ↔ fM d (gr_tgt G x) ≠ 1000000 ∧ fM d (gr_tgt G x) ≤ fM d j + gr_g G j x := by
  have e1 : (if fM d (gr_tgt G x) = 1000000 then -1 else fM d (gr_tgt G x)) = gr_f G j (gr_tgt G x) := cr_f_eq hf (gr_tgt_lt hg hx).1
  have e2 : (if fM d j = 1000000 then -1 else fM d j) = gr_f G j j := cr_f_eq hf hj
  unfold gr_bp
  rw [← e1, ← e2, if_neg hs]
  by_cases q : fM d (gr_tgt G x) = 1000000
  · rw [if_pos q]; exact ⟨fun h => absurd rfl h.1, fun h => absurd q h.1⟩
  · rw [if_neg q]; exact ⟨fun h => ⟨q, h.2⟩, fun h => ⟨by omega, h.2⟩⟩
theorem gr_st_n {G : gr_T} {pl : Nat} : ∀ k, gr_n G ≤ k → gr_st G pl k = gr_st G pl (gr_n G) ∧ gr_cn G pl k = gr_cn G pl (gr_n G) := by
  intro k hk
  induction k with
  | zero => rw [show gr_n G = 0 by omega]; exact ⟨rfl, rfl⟩
  | succ k ih =>
    by_cases e : gr_n G = k + 1
    · rw [e]; exact ⟨rfl, rfl⟩
    · have h := ih (by omega)
      have ho : gr_op G pl k = false := gr_op_f (fun q => by omega)
      simp only [gr_st, gr_cn, ho]
      exact h
theorem gr_st_0 {G : gr_T} {pl : Nat} : ∀ k, gr_cn G pl k = 0 → gr_st G pl k = G := by
  intro k hk
  induction k with
  | zero => rfl
  | succ k ih =>
    simp only [gr_cn] at hk
    simp only [gr_st]
    split
    · rename_i q; rw [if_pos q] at hk; omega
    · rename_i q; rw [if_neg q] at hk; exact ih hk
theorem mi_st {G : gr_T} {pl k : Nat} {d d' : mT} {y : Int32} (hg : gf_ok G) (hc : gr_cpl G) (h : mi (gr_st G pl k) d) (hk : gr_op G pl k = true) (hy : y = nI (gr_best G k)) (e : d' = (va_up d.1 2 (upd (d.1 2) k y), d.2)) : mi (gr_st G pl (k + 1)) d' := by
  have ho := gr_op_t hk
  have hb := gr_best_in hg hc k ho.1
  have hm := gr_adj_mem hg ho.1 hb
  have hs := gr_st_eq G pl k
  simp only [gr_st, hk, if_true]
  rw [← hy]
  refine mi_setF h (Or.inr ⟨gr_best G k, by rw [hs.2.1]; exact hm.1, hy, by rw [hs.2.2.1]; exact hm.2⟩) (by rw [e]; rfl) (by rw [e]; rfl) (by rw [e]; rfl) (fun q h1 h2 h3 => by rw [e]; exact up_ne h3)
/-- the walk's cells -/
def wq (G : gr_T) (j t : Nat) (d : mT) : Prop := ∀ u, u < gr_n G → (d.1 12 u = -1 ∧ ∀ a, a < t → gr_gw G j a ≠ u) ∨ ∃ a, a < t ∧ gr_gw G j a = u ∧ d.1 12 u = nI a
theorem wq_next {G : gr_T} {j t : Nat} {d d' : mT} (h : wq G j t d) (e : d'.1 12 = upd (d.1 12) (gr_gw G j t) (nI t)) : wq G j (t + 1) d' := by
  intro u hu
  rw [e]
  by_cases e2 : u = gr_gw G j t
  · rw [e2, ud_at]
    exact Or.inr ⟨t, by omega, rfl, rfl⟩
  · rw [ud_ne e2]
    rcases h u hu with ⟨h1, h2⟩ | ⟨a, h1, h2, h3⟩
    · refine Or.inl ⟨h1, fun a ha => ?_⟩
      by_cases ea : a = t
      · rw [ea]; exact fun q => e2 q.symm
      · exact h2 a (by omega)
    · exact Or.inr ⟨a, by omega, h2, h3⟩
theorem wq_eq {G : gr_T} {j t : Nat} {d d' : mT} (h : wq G j t d) (e : d'.1 12 = d.1 12) : wq G j t d' := by intro u hu; rw [e]; exact h u hu
theorem gw_lt {G : gr_T} (hg : gf_ok G) (hc : gr_cpl G) {j : Nat} (hj : j < gr_n G) : ∀ t, gr_gw G j t < gr_n G
  | 0 => hj
  | t + 1 => by
    have h := gw_lt hg hc hj t
    exact gr_tgts hg _ h _ (gr_best_in hg hc _ h)
theorem gs_step {G : gr_T} (hg : gf_ok G) (hc : gr_cpl G) {j : Nat} (hj : j < gr_n G) (t : Nat) : gr_best G (gr_gw G j t) < gr_E G ∧ gr_gs G j (t + 1) = gr_gs G j t + (gr_wt G (gr_best G (gr_gw G j t))).toInt ∧ -9 ≤ (gr_wt G (gr_best G (gr_gw G j t))).toInt ∧ (gr_wt G (gr_best G (gr_gw G j t))).toInt ≤ 9 := by
  have h := gw_lt hg hc hj t
  have h1 := (gr_adj_mem hg h (gr_best_in hg hc _ h)).1
  refine ⟨h1, ?_, (hg.ed _ h1).2.2⟩
  show _ + gr_w G _ = _
  rw [gr_w_eq h1]
