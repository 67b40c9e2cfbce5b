/-! ===== CreditGameModel: findNeeds, credit ===== -/
abbrev ttM (G : gr_T) (pl : Nat) (p q cap : Int) (g : Nat → Int) : Nat → Int := gm_tt cap (gr_adj G) (gr_tgt G) (cr_ow G pl) (cr_w G pl p q) g
/-- what the rounds keep -/
def rd_I (G : gr_T) (pl : Nat) (p q cap : Int) (g : Nat → Int) : Prop :=
  gm_rng (gr_n G) cap g ∧ (∀ v, v < gr_n G → g v ≤ ttM G pl p q cap g v) ∧ ∀ f', gm_pre (gr_n G) (gr_adj G) (gr_tgt G) (cr_ow G pl) (cr_w G pl p q) f' → (∀ v, v < gr_n G → cr_win G pl p q v → f' v ≤ cap) → ∀ v, v < gr_n G → cr_win G pl p q v → g v ≤ f' v
theorem rd_w {G : gr_T} (hg : gf_ok G) {pl : Nat} {p q : Int} (hq1 : 1 ≤ q) (hq7 : q ≤ 7) (hp1 : -63 ≤ p) (hp2 : p ≤ 63) : ∀ v, v < gr_n G → ∀ x ∈ gr_adj G v, -100000 ≤ cr_w G pl p q x := fun v hv x hx => by have := cr_M hg (pl := pl) hq1 hq7 hp1 hp2 v hv x hx; omega
theorem rd_0 {G : gr_T} (hg : gf_ok G) (hc : gr_cpl G) {pl : Nat} {p q cap : Int} (h0 : 0 ≤ cap) (h1 : cap ≤ 100000) (hq1 : 1 ≤ q) (hq7 : q ≤ 7) (hp1 : -63 ≤ p) (hp2 : p ≤ 63) {g : Nat → Int} (hz : ∀ v, v < gr_n G → g v = 0) : rd_I G pl p q cap g := by
  have hr : gm_rng (gr_n G) cap g := fun v hv => by rw [hz v hv]; exact ⟨Int.le_refl _, Or.inl h0⟩
  refine ⟨hr, fun v hv => ?_, fun f' hf' _ v hv hw => ?_⟩
  · rw [hz v hv]
    exact (gm_tt_rng hc.2 (gr_tgts hg) h1 (rd_w hg hq1 hq7 hp1 hp2) hr v hv).1
  · rw [hz v hv]
    exact (hf' v hv hw).1
theorem rd_next {G : gr_T} (hg : gf_ok G) (hc : gr_cpl G) {pl : Nat} {p q cap : Int} (h1 : cap ≤ 100000) (hq1 : 1 ≤ q) (hq7 : q ≤ 7) (hp1 : -63 ≤ p) (hp2 : p ≤ 63) {g g' : Nat → Int} (h : rd_I G pl p q cap g) (he : ∀ v, v < gr_n G → g' v = ttM G pl p q cap g v) : rd_I G pl p q cap g' := by
  have hr : gm_rng (gr_n G) cap g' := fun v hv => by rw [he v hv]; exact gm_tt_rng hc.2 (gr_tgts hg) h1 (rd_w hg hq1 hq7 hp1 hp2) h.1 v hv
  have hle : ∀ v, v < gr_n G → g v ≤ g' v := fun v hv => by rw [he v hv]; exact h.2.1 v hv
  obtain ⟨fm, -, -, hwt⟩ := gm_pre_ex (ow := cr_ow G pl) (w := cr_w G pl p q) (M := 126) hg.1 (by omega) (gr_tgts hg) (cr_M hg hq1 hq7 hp1 hp2)
  refine ⟨hr, fun v hv => ?_, fun f' hf' hfc v hv hw => ?_⟩
  · rw [he v hv]
    exact gm_tt_mono hc.2 (gr_tgts hg) h1 (rd_w hg hq1 hq7 hp1 hp2) h.1 hr hle hv
  · rw [he v hv]
    exact gm_tt_below hc.2 (gr_tgts hg) hwt h1 hf' hfc (h.2.2 f' hf' hfc) hv hw
theorem rd_end {G : gr_T} (hg : gf_ok G) (hc : gr_cpl G) {pl : Nat} {p q cap M : Int} (h0 : 0 ≤ M) (hM2 : M ≤ 1000) (hM : ∀ x, x < gr_E G → -M ≤ cr_w G pl p q x) (hcap : cap = (gr_n G : Int) * M) {g : Nat → Int} (h : rd_I G pl p q cap g) (hfix : ∀ v, v < gr_n G → ttM G pl p q cap g v = g v) : cr_is G pl p q (fun v => if g v = 1000000 then -1 else g v) := by
  have hc1 : cap ≤ 100000 := by
    rw [hcap]
    have h7 := hg.1
    have : (gr_n G : Int) * M ≤ 7 * M := Int.mul_le_mul_of_nonneg_right (by omega) h0
    omega
  exact gm_cr_model hg.1 h0 hc.2 (gr_tgts hg) (fun v hv x hx => hM x (gr_adj_mem hg hv hx).1) hcap hc1 (by omega) h.1 hfix h.2.2
theorem gm_sum_ext {f g : Nat → Int} {n : Nat} (h : ∀ u, u < n → f u = g u) : gm_sum f n = gm_sum g n := by
  have h1 := gm_sum_mono (n := n) (f := f) (g := g) (fun u hu => by rw [h u hu]; exact Int.le_refl _)
  have h2 := gm_sum_mono (n := n) (f := g) (g := f) (fun u hu => by rw [h u hu]; exact Int.le_refl _)
  omega
theorem i_gt {a b : Int32} (h : a.toInt = b.toInt) : a = b := i_eq h
/-- other cells stay -/
def km (S : List Nat) (d d' : mT) : Prop := kx S d.1 d'.1 ∧ d'.2 = d.2
theorem km.rf {S : List Nat} {d : mT} : km S d d := ⟨kx.rf, rfl⟩
theorem km.tr {S : List Nat} {a b c : mT} (h1 : km S a b) (h2 : km S b c) : km S a c := ⟨h1.1.tr h2.1, h2.2.trans h1.2⟩
theorem km.up {S : List Nat} {d : mT} {k : Nat} {f : Nat → Int32} (h : k ∈ S) : km S d (va_up d.1 k f, d.2) := ⟨kx.up h, rfl⟩
theorem km.wide {S T : List Nat} {d d' : mT} (h : km S d d') (hST : ∀ k ∈ S, k ∈ T) : km T d d' := ⟨h.1.wide hST, h.2⟩
theorem km.mi {S : List Nat} {G : gr_T} {d d' : mT} (h : km S d d') (hm : mi G d) (hS : ∀ k ∈ S, 6 ≤ k) : mi G d' :=
  mi_eq hm (by rw [h.1 0 (fun q => by have := hS 0 q; omega)]) (by rw [h.1 0 (fun q => by have := hS 0 q; omega)]) (fun k h1 h2 => h.1 k (fun q => by have := hS k q; omega))
theorem km.mkn {S : List Nat} {G : gr_T} {d d' : mT} (h : km S d d') (hm : mkn G d) (hS : ∀ k ∈ S, 8 ≤ k) : mkn G d' :=
  mkn_eq hm (by rw [h.1 0 (fun q => by have := hS 0 q; omega)]) (h.1 6 (fun q => by have := hS 6 q; omega)) (h.1 7 (fun q => by have := hS 7 q; omega))
theorem km.mci {S : List Nat} {G : gr_T} {d d' : mT} (h : km S d d') (hm : mci G d) (hS : ∀ k ∈ S, 8 ≤ k) : mci G d' := ⟨h.mi hm.1 (fun k q => by have := hS k q; omega), h.mkn hm.2 hS⟩
theorem rd_same {G : gr_T} (hg : gf_ok G) (hc : gr_cpl G) {pl : Nat} {p q cap : Int} (h1 : cap ≤ 100000) (hq1 : 1 ≤ q) (hq7 : q ≤ 7) (hp1 : -63 ≤ p) (hp2 : p ≤ 63) {g g2 : Nat → Int} (h : gm_rng (gr_n G) cap g) (he : ∀ v, v < gr_n G → g2 v = g v) {v : Nat} (hv : v < gr_n G) : ttM G pl p q cap g2 v = ttM G pl p q cap g v := by
  have h2 : gm_rng (gr_n G) cap g2 := fun u hu => by rw [he u hu]; exact h u hu
  have a := gm_tt_mono (ow := cr_ow G pl) hc.2 (gr_tgts hg) h1 (rd_w hg (pl := pl) hq1 hq7 hp1 hp2) h h2 (fun u hu => by rw [he u hu]; exact Int.le_refl _) hv
  have b := gm_tt_mono (ow := cr_ow G pl) hc.2 (gr_tgts hg) h1 (rd_w hg (pl := pl) hq1 hq7 hp1 hp2) h2 h (fun u hu => by rw [he u hu]; exact Int.le_refl _) hv
  show gm_tt _ _ _ _ _ _ _ = gm_tt _ _ _ _ _ _ _
  omega
theorem rd_fix {G : gr_T} (hg : gf_ok G) (hc : gr_cpl G) {pl : Nat} {p q cap : Int} (h1 : cap ≤ 100000) (hq1 : 1 ≤ q) (hq7 : q ≤ 7) (hp1 : -63 ≤ p) (hp2 : p ≤ 63) {g g2 : Nat → Int} (h : gm_rng (gr_n G) cap g) (he : ∀ v, v < gr_n G → g2 v = ttM G pl p q cap g v) (hf : ∀ v, v < gr_n G → ttM G pl p q cap g v = g v) : ∀ v, v < gr_n G → ttM G pl p q cap g2 v = g2 v := by
  intro v hv
  rw [rd_same hg hc h1 hq1 hq7 hp1 hp2 h (fun u hu => (he u hu).trans (hf u hu)) hv, he v hv]
theorem iw_X5_findNeeds_X5 : ∀ w ∈ wsX50, w ∈ wsX5_findNeeds := by decide +kernel
set_option maxHeartbeats 4000000 in
set_option maxRecDepth 100000 in
/--  -/
theorem cm_findNeeds (l : Launch) (en : en_T) (bd : Nat → Nat) (d : mT) (hI : mw_I bd) (sz : Nat) {G : gr_T} (hm : mi G d) (hc : gr_cpl G) (pl : Nat) (hpl : pl < 2) (p_ q_ : Int) (hq1 : 1 ≤ q_) (hq7 : q_ ≤ 7) (hp1 : -63 ≤ p_) (hp2 : p_ ≤ 63) (tI oI : Int32) (hw : wt_ok G pl p_ q_ tI oI) : Met l yX5_findNeeds wsX5_findNeeds (rm_ 4 0 0) (ct_Pc en [.ref (bd 0), .int tI, .int oI, .int (nI pl)] (fun H => H.size = sz ∧ va_P en.1 vwCl (mw en bd d) H)) (va_Qv (fun d' => km [10, 11] d d' ∧ cr_is G pl p_ q_ (fun v => if fM d' v = 1000000 then -1 else fM d' v) ∧ ∀ v, v < gr_n G → 0 ≤ fM d' v ∧ fM d' v ≤ 1000000) (fun d' t => va_P en.1 vwCl (mw en bd d') t.heap) (mw_A bd sz)) 0 0 (mw_A bd sz) := by
  refine Met.ofW (cc := cX5_findNeeds) (maxL := 8) (ret := none) (by decide) rfl ?_
  intro p e s m args below meth co s₁ B hml hv
  obtain ⟨rfl, hE, hsz, hP⟩ := hv
  subst hsz
  have hx := B.exec
  have hb := B.bytes
  have hr := B.returns
  have hts := atoms_spec (ws := wsX5_findNeeds) B.pre
  have hown : s.vm.findClass RX5 = some m.cls := findClass_of_methodNamed B.named
  have hlocks := B.notSynchronized
  have hS : va_S (mw_A bd s.heap.size) s.heap s.heap [] := va_S.rf
  have hl := lv_entry ([.ref (bd 0), .int tI, .int oI, .int (nI pl)]) (n := 8) (Nat.le_of_ble_eq_true rfl)
  rw [lg_entry_eq]
  generalize (lg_sl ([.ref (bd 0), .int tI, .int oI, .int (nI pl)]) ++ List.replicate (8 - (lg_sl ([.ref (bd 0), .int tI, .int oI, .int (nI pl)])).length) Slot.unset).toArray = ls at hl ⊢
  have hl : lv_has ls 8 [(0, .ref (bd 0)), (1, .int tI), (2, .int oI), (3, .int (nI pl))] := hl
  have hn7 := hm.n7
  have he24 := hm.e24
  refine lv_iconst (v := 0) hx hb dX5_findNeeds_0 (by decide) ?_
  refine lv_istore (lv' := [(4, .int 0), (0, .ref (bd 0)), (1, .int tI), (2, .int oI), (3, .int (nI pl))]) hx hb dX5_findNeeds_1 hl (by decide) rfl (fun ls hl => ?_)
  refine lv_iconst (v := (nI 0)) hx hb dX5_findNeeds_3 (by decide) ?_
  refine lv_istore (lv' := [(5, .int (nI 0)), (4, .int 0), (0, .ref (bd 0)), (1, .int tI), (2, .int oI), (3, .int (nI pl))]) hx hb dX5_findNeeds_4 hl (by decide) rfl (fun ls hl => ?_)
  have key6 : ∀ (n_ : Nat) (i : Nat) (mo : Int32) (ls : Array Slot), i ≤ gr_E G → gr_E G + 1 ≤ i + n_ → 0 ≤ mo.toInt → mo.toInt ≤ 126 → (∀ x, x < i → -mo.toInt ≤ cr_w G pl p_ q_ x) → lv_has ls 8 [(0, .ref (bd 0)), (1, .int tI), (2, .int oI), (3, .int (nI pl)), (4, .int mo), (5, .int (nI i))] → W p l e (headSpec wsX5_findNeeds (rm_ 4 0 0)).room s m ([.ref (bd 0), .int tI, .int oI, .int (nI pl)] : List Value).toArray below meth co s.heap [] 0 0 (MQ below (va_Qv (fun d' => km [10, 11] d d' ∧ cr_is G pl p_ q_ (fun v => if fM d' v = 1000000 then -1 else fM d' v) ∧ ∀ v, v < gr_n G → 0 ≤ fM d' v ∧ fM d' v ≤ 1000000) (fun d' t => va_P en.1 vwCl (mw en bd d') t.heap) (mw_A bd s.heap.size)) ([.ref (bd 0), .int tI, .int oI, .int (nI pl)] : List Value).toArray s 0 0 (mw_A bd s.heap.size)) (F0 m 6 ls []) := by
    intro n_
    induction n_ with
    | zero =>
      intro i mo ls hi_ hin hmo0 hmo1 hmx hl
      exact absurd hin (by omega)
    | succ n_ ih6 =>
      intro i mo ls hi_ hin hmo0 hmo1 hmx hl
      refine lv_iload hx hb dX5_findNeeds_6 (lv_at hl 5 rfl) ?_
      refine lv_aload_n hx hb dX5_findNeeds_8 rfl (lv_at hl 0 rfl) ?_
      refine va_get (D := en.1) (ci := 5) (v := .int (d.1 0 2)) (C := RX5) (T := TX5) (N := 16) hx hb hts iw_X5_findNeeds_X5 hown hE.1 hP 0 rfl rfl 4 (by decide) (hts (.fieldLink RX5 54 "CreditGameModel" "edges" "I") (by decide +kernel)) (fun _ h9 => h9) rfl dX5_findNeeds_9 ?_
      refine lv_icmp_ge (tgt := 57) hx hb dX5_findNeeds_12 (by decide) (fun b12 => ?_) (fun b12 => ?_)
      · skip
        have hin9 : i = gr_E G := by
          rcases Nat.lt_or_ge i (gr_E G) with q | q
          · exact absurd b12 (by rw [hm.2.2.1]; exact nI_ge q (by omega))
          · omega
        refine lv_iconst (v := (nI 0)) hx hb dX5_findNeeds_57 (by decide) ?_
        have hmx : ∀ x, x < gr_E G → -mo.toInt ≤ cr_w G pl p_ q_ x := fun x hx9 => hmx x (by omega)
        have hcap0 : 0 ≤ ((gr_n G : Int) * mo.toInt) := Int.mul_nonneg (by omega) hmo0
        have hcap1 : ((gr_n G : Int) * mo.toInt) ≤ 882 := by
          have h1 : (gr_n G : Int) * mo.toInt ≤ 7 * mo.toInt := Int.mul_le_mul_of_nonneg_right (by omega) hmo0
          omega
        have hcap1 : ((gr_n G : Int) * mo.toInt) ≤ 100000 := by omega
        refine lv_istore (lv' := [(5, .int (nI 0)), (0, .ref (bd 0)), (1, .int tI), (2, .int oI), (3, .int (nI pl)), (4, .int mo)]) hx hb dX5_findNeeds_58 hl (by decide) rfl (fun ls hl => ?_)
        have key60 : ∀ (n_ : Nat) (i : Nat) (d_ : mT) (H : Heap) (locs : List Loc) (ls : Array Slot), i ≤ gr_n G → gr_n G + 1 ≤ i + n_ → km [10, 11] d d_ → (∀ u, u < i → fM d_ u = 0) → va_P en.1 vwCl (mw en bd d_) H → va_S (mw_A bd s.heap.size) s.heap H locs → lv_has ls 8 [(0, .ref (bd 0)), (1, .int tI), (2, .int oI), (3, .int (nI pl)), (4, .int mo), (5, .int (nI i))] → W p l e (headSpec wsX5_findNeeds (rm_ 4 0 0)).room s m ([.ref (bd 0), .int tI, .int oI, .int (nI pl)] : List Value).toArray below meth co H locs 0 0 (MQ below (va_Qv (fun d' => km [10, 11] d d' ∧ cr_is G pl p_ q_ (fun v => if fM d' v = 1000000 then -1 else fM d' v) ∧ ∀ v, v < gr_n G → 0 ≤ fM d' v ∧ fM d' v ≤ 1000000) (fun d' t => va_P en.1 vwCl (mw en bd d') t.heap) (mw_A bd s.heap.size)) ([.ref (bd 0), .int tI, .int oI, .int (nI pl)] : List Value).toArray s 0 0 (mw_A bd s.heap.size)) (F0 m 60 ls []) := by
          intro n_
          induction n_ with
          | zero =>
            intro i d_ H locs ls hi_ hin hkc hz hP hS hl
            exact absurd hin (by omega)
          | succ n_ ih60 =>
            intro i d_ H locs ls hi_ hin hkc hz hP hS hl
            have hmb := hkc.mi hm (by decide)
            refine lv_iload hx hb dX5_findNeeds_60 (lv_at hl 5 rfl) ?_
            refine lv_aload_n hx hb dX5_findNeeds_62 rfl (lv_at hl 0 rfl) ?_
            refine va_get (D := en.1) (ci := 5) (v := .int (d_.1 0 1)) (C := RX5) (T := TX5) (N := 16) hx hb hts iw_X5_findNeeds_X5 hown hE.1 hP 0 rfl rfl 1 (by decide) (hts (.fieldLink RX5 51 "CreditGameModel" "vertices" "I") (by decide +kernel)) (fun _ h9 => h9) rfl dX5_findNeeds_63 ?_
            refine lv_icmp_ge (tgt := 83) hx hb dX5_findNeeds_66 (by decide) (fun b66 => ?_) (fun b66 => ?_)
            · skip
              have hin9 : i = gr_n G := by
                rcases Nat.lt_or_ge i (gr_n G) with q | q
                · exact absurd b66 (by rw [hmb.2.1]; exact nI_ge q (by omega))
                · omega
              refine lv_iconst (v := 1) hx hb dX5_findNeeds_83 (by decide) ?_
              refine lv_istore (lv' := [(5, .int 1), (0, .ref (bd 0)), (1, .int tI), (2, .int oI), (3, .int (nI pl)), (4, .int mo)]) hx hb dX5_findNeeds_84 hl (by decide) rfl (fun ls hl => ?_)
              have key86 : ∀ (n_ : Nat) (go : Int32) (d_ : mT) (H : Heap) (locs : List Loc) (ls : Array Slot), (go ≠ 0 → gm_sum (fun v => 1000000 - fM d_ v) (gr_n G) + 2 ≤ (n_ : Int)) ∧ 1 ≤ n_ → km [10, 11] d d_ → rd_I G pl p_ q_ ((gr_n G : Int) * mo.toInt) (fM d_) → (go = 0 → ∀ v, v < gr_n G → ttM G pl p_ q_ ((gr_n G : Int) * mo.toInt) (fM d_) v = fM d_ v) → va_P en.1 vwCl (mw en bd d_) H → va_S (mw_A bd s.heap.size) s.heap H locs → lv_has ls 8 [(0, .ref (bd 0)), (1, .int tI), (2, .int oI), (3, .int (nI pl)), (4, .int mo), (5, .int go)] → W p l e (headSpec wsX5_findNeeds (rm_ 4 0 0)).room s m ([.ref (bd 0), .int tI, .int oI, .int (nI pl)] : List Value).toArray below meth co H locs 0 0 (MQ below (va_Qv (fun d' => km [10, 11] d d' ∧ cr_is G pl p_ q_ (fun v => if fM d' v = 1000000 then -1 else fM d' v) ∧ ∀ v, v < gr_n G → 0 ≤ fM d' v ∧ fM d' v ≤ 1000000) (fun d' t => va_P en.1 vwCl (mw en bd d') t.heap) (mw_A bd s.heap.size)) ([.ref (bd 0), .int tI, .int oI, .int (nI pl)] : List Value).toArray s 0 0 (mw_A bd s.heap.size)) (F0 m 86 ls []) := by
                intro n_
                induction n_ with
                | zero =>
                  intro go d_ H locs ls hin hkc hrd hgo hP hS hl
                  exact absurd hin.2 (by omega)
                | succ n_ ih86 =>
                  intro go d_ H locs ls hin hkc hrd hgo hP hS hl
                  have hmc := hkc.mi hm (by decide)
                  refine lv_iload hx hb dX5_findNeeds_86 (lv_at hl 5 rfl) ?_
                  refine lv_if_eq (tgt := 213) hx hb dX5_findNeeds_88 (by decide) (fun b88 => ?_) (fun b88 => ?_)
                  · skip
                    exact W.vret hx hb hr (fun t ht hW => ⟨⟨d_, rfl, ⟨hkc, rd_end hm.1 hc hmo0 (by omega) hmx rfl hrd (hgo b88), fun v hv => by have := hrd.1 v hv; omega⟩, by show va_P _ _ _ t.heap; rw [ht]; exact hP⟩, hS.F ht⟩) hS.2.2 dX5_findNeeds_213
                  · skip
                    refine lv_iconst (v := 0) hx hb dX5_findNeeds_91 (by decide) ?_
                    refine lv_istore (lv' := [(5, .int 0), (0, .ref (bd 0)), (1, .int tI), (2, .int oI), (3, .int (nI pl)), (4, .int mo)]) hx hb dX5_findNeeds_92 hl (by decide) rfl (fun ls hl => ?_)
                    refine lv_iconst (v := (nI 0)) hx hb dX5_findNeeds_94 (by decide) ?_
                    refine lv_istore (lv' := [(6, .int (nI 0)), (5, .int 0), (0, .ref (bd 0)), (1, .int tI), (2, .int oI), (3, .int (nI pl)), (4, .int mo)]) hx hb dX5_findNeeds_95 hl (by decide) rfl (fun ls hl => ?_)
                    have key97 : ∀ (n_ : Nat) (i : Nat) (e_ : mT) (H : Heap) (locs : List Loc) (ls : Array Slot), i ≤ gr_n G → gr_n G + 1 ≤ i + n_ → km [11] d_ e_ → (∀ u, u < i → (e_.1 11 u).toInt = gm_nd (gr_adj G) (gr_tgt G) (cr_ow G pl) (cr_w G pl p_ q_) (fM d_) u) → va_P en.1 vwCl (mw en bd e_) H → va_S (mw_A bd s.heap.size) s.heap H locs → lv_has ls 8 [(0, .ref (bd 0)), (1, .int tI), (2, .int oI), (3, .int (nI pl)), (4, .int mo), (5, .int 0), (6, .int (nI i))] → W p l e (headSpec wsX5_findNeeds (rm_ 4 0 0)).room s m ([.ref (bd 0), .int tI, .int oI, .int (nI pl)] : List Value).toArray below meth co H locs 0 0 (MQ below (va_Qv (fun d' => km [10, 11] d d' ∧ cr_is G pl p_ q_ (fun v => if fM d' v = 1000000 then -1 else fM d' v) ∧ ∀ v, v < gr_n G → 0 ≤ fM d' v ∧ fM d' v ≤ 1000000) (fun d' t => va_P en.1 vwCl (mw en bd d') t.heap) (mw_A bd s.heap.size)) ([.ref (bd 0), .int tI, .int oI, .int (nI pl)] : List Value).toArray s 0 0 (mw_A bd s.heap.size)) (F0 m 97 ls []) := by
                      intro n_
                      induction n_ with
                      | zero =>
                        intro i e_ H locs ls hi_ hin2 hkD hmD hP hS hl
                        exact absurd hin2 (by omega)
                      | succ n_ ih97 =>
                        intro i e_ H locs ls hi_ hin2 hkD hmD hP hS hl
                        have hme := hkD.mi hmc (by decide)
                        have hfe : fM e_ = fM d_ := by funext u; show (e_.1 10 u).toInt = _; rw [hkD.1 10 (by decide)]
                        refine lv_iload hx hb dX5_findNeeds_97 (lv_at hl 6 rfl) ?_
                        refine lv_aload_n hx hb dX5_findNeeds_99 rfl (lv_at hl 0 rfl) ?_
                        refine va_get (D := en.1) (ci := 5) (v := .int (e_.1 0 1)) (C := RX5) (T := TX5) (N := 16) hx hb hts iw_X5_findNeeds_X5 hown hE.1 hP 0 rfl rfl 1 (by decide) (hts (.fieldLink RX5 51 "CreditGameModel" "vertices" "I") (by decide +kernel)) (fun _ h9 => h9) rfl dX5_findNeeds_100 ?_
                        refine lv_icmp_ge (tgt := 128) hx hb dX5_findNeeds_103 (by decide) (fun b103 => ?_) (fun b103 => ?_)
                        · skip
                          have hin9 : i = gr_n G := by
                            rcases Nat.lt_or_ge i (gr_n G) with q | q
                            · exact absurd b103 (by rw [hme.2.1]; exact nI_ge q (by omega))
                            · omega
                          refine lv_iconst (v := (nI 0)) hx hb dX5_findNeeds_128 (by decide) ?_
                          have hmD : ∀ u, u < gr_n G → (e_.1 11 u).toInt = gm_nd (gr_adj G) (gr_tgt G) (cr_ow G pl) (cr_w G pl p_ q_) (fM d_) u := fun u hu => hmD u (by omega)
                          refine lv_istore (lv' := [(6, .int (nI 0)), (0, .ref (bd 0)), (1, .int tI), (2, .int oI), (3, .int (nI pl)), (4, .int mo), (5, .int 0)]) hx hb dX5_findNeeds_129 hl (by decide) rfl (fun ls hl => ?_)
                          have key131 : ∀ (n_ : Nat) (i : Nat) (gq : Int32) (f_ : mT) (H : Heap) (locs : List Loc) (ls : Array Slot), i ≤ gr_n G → gr_n G + 1 ≤ i + n_ → km [10] e_ f_ → (∀ u, u < i → fM f_ u = ttM G pl p_ q_ ((gr_n G : Int) * mo.toInt) (fM d_) u) → (∀ u, i ≤ u → u < gr_n G → fM f_ u = fM d_ u) → (gq = 0 → ∀ u, u < i → ttM G pl p_ q_ ((gr_n G : Int) * mo.toInt) (fM d_) u = fM d_ u) → gm_sum (fun v => 1000000 - fM f_ v) (gr_n G) ≤ gm_sum (fun v => 1000000 - fM d_ v) (gr_n G) → (gq ≠ 0 → gm_sum (fun v => 1000000 - fM f_ v) (gr_n G) + 1 ≤ gm_sum (fun v => 1000000 - fM d_ v) (gr_n G)) → va_P en.1 vwCl (mw en bd f_) H → va_S (mw_A bd s.heap.size) s.heap H locs → lv_has ls 8 [(0, .ref (bd 0)), (1, .int tI), (2, .int oI), (3, .int (nI pl)), (4, .int mo), (5, .int gq), (6, .int (nI i))] → W p l e (headSpec wsX5_findNeeds (rm_ 4 0 0)).room s m ([.ref (bd 0), .int tI, .int oI, .int (nI pl)] : List Value).toArray below meth co H locs 0 0 (MQ below (va_Qv (fun d' => km [10, 11] d d' ∧ cr_is G pl p_ q_ (fun v => if fM d' v = 1000000 then -1 else fM d' v) ∧ ∀ v, v < gr_n G → 0 ≤ fM d' v ∧ fM d' v ≤ 1000000) (fun d' t => va_P en.1 vwCl (mw en bd d') t.heap) (mw_A bd s.heap.size)) ([.ref (bd 0), .int tI, .int oI, .int (nI pl)] : List Value).toArray s 0 0 (mw_A bd s.heap.size)) (F0 m 131 ls []) := by
                            intro n_
                            induction n_ with
                            | zero =>
                              intro i gq f_ H locs ls hi2 hin3 hkF hFd hFr hgq0 hle hgq1 hP hS hl
                              exact absurd hin3 (by omega)
                            | succ n_ ih131 =>
                              intro i gq f_ H locs ls hi2 hin3 hkF hFd hFr hgq0 hle hgq1 hP hS hl
                              have hmf := hkF.mi (hkD.mi hmc (by decide)) (by decide)
                              have h11 : f_.1 11 = e_.1 11 := hkF.1 11 (by decide)
                              refine lv_iload hx hb dX5_findNeeds_131 (lv_at hl 6 rfl) ?_
                              refine lv_aload_n hx hb dX5_findNeeds_133 rfl (lv_at hl 0 rfl) ?_
                              refine va_get (D := en.1) (ci := 5) (v := .int (f_.1 0 1)) (C := RX5) (T := TX5) (N := 16) hx hb hts iw_X5_findNeeds_X5 hown hE.1 hP 0 rfl rfl 1 (by decide) (hts (.fieldLink RX5 51 "CreditGameModel" "vertices" "I") (by decide +kernel)) (fun _ h9 => h9) rfl dX5_findNeeds_134 ?_
                              refine lv_icmp_ge (tgt := 210) hx hb dX5_findNeeds_137 (by decide) (fun b137 => ?_) (fun b137 => ?_)
                              · skip
                                have hin9 : i = gr_n G := by
                                  rcases Nat.lt_or_ge i (gr_n G) with q | q
                                  · exact absurd b137 (by rw [hmf.2.1]; exact nI_ge q (by omega))
                                  · omega
                                refine lv_goto (tgt := 86) hx hb dX5_findNeeds_210 (by decide) ?_
                                exact ih86 gq f_ _ _ _ ⟨fun q => by have h1 := hin.1 b88; have h2 := hgq1 q; omega, by have h1 := hin.1 b88; have h2 := (gm_sum_bd (f := fun v => 1000000 - fM d_ v) (B := 1000000) (by omega) (n := gr_n G) (fun u hu => by have := (hrd.1 u hu).1; show 1000000 - fM d_ u ≤ 1000000; omega)).1; omega⟩ (hkc.tr ((hkD.wide (by decide)).tr (hkF.wide (by decide)))) (rd_next hm.1 hc hcap1 hq1 hq7 hp1 hp2 hrd (fun v hv => hFd v (by omega))) (fun q => rd_fix hm.1 hc hcap1 hq1 hq7 hp1 hp2 hrd.1 (fun v hv => hFd v (by omega)) (fun v hv => hgq0 q v (by omega))) hP hS (lv_sub hl [0, 1, 2, 3, 4, 5] rfl)
                              · skip
                                have hlt : i < gr_n G := by
                                  rcases Nat.lt_or_ge i (gr_n G) with q | q
                                  · exact q
                                  · exact absurd (by rw [hmf.2.1]; exact nI_le q (by omega)) b137
                                refine lv_aload_n hx hb dX5_findNeeds_140 rfl (lv_at hl 0 rfl) ?_
                                refine va_get (D := en.1) (ci := 5) (v := .ref (bd 11)) (C := RX5) (T := TX5) (N := 16) hx hb hts iw_X5_findNeeds_X5 hown hE.1 hP 0 rfl rfl 14 (by decide) (hts (.fieldLink RX5 41 "CreditGameModel" "more" "[I") (by decide +kernel)) (fun _ h9 => h9) rfl dX5_findNeeds_141 ?_
                                refine lv_iload hx hb dX5_findNeeds_144 (lv_at hl 6 rfl) ?_
                                refine mr_ild hx hb hE hP 11 (by decide) i rfl (show _ < 7 by omega) dX5_findNeeds_146 ?_
                                refine lv_aload_n hx hb dX5_findNeeds_147 rfl (lv_at hl 0 rfl) ?_
                                refine va_get (D := en.1) (ci := 5) (v := .int (f_.1 0 1)) (C := RX5) (T := TX5) (N := 16) hx hb hts iw_X5_findNeeds_X5 hown hE.1 hP 0 rfl rfl 1 (by decide) (hts (.fieldLink RX5 51 "CreditGameModel" "vertices" "I") (by decide +kernel)) (fun _ h9 => h9) rfl dX5_findNeeds_148 ?_
                                refine lv_topi (fun z_148 ez_148 => ?_)
                                obtain rfl : z_148 = (nI (gr_n G)) := (ez_148.trans hmf.2.1)
                                refine lv_iload hx hb dX5_findNeeds_151 (lv_at hl 4 rfl) ?_
                                refine lv_imul hx hb dX5_findNeeds_153 ?_
                                refine lv_topi (fun cq hcq => ?_)
                                have hcq2 : cq.toInt = ((gr_n G : Int) * mo.toInt) := by
                                  have hni : (nI (gr_n G)).toInt = (gr_n G : Int) := nI_toInt (by omega)
                                  rw [hcq, i_mul (by rw [hni]; omega) (by rw [hni]; omega), hni]
                                have h11v : (f_.1 11 i).toInt = gm_nd (gr_adj G) (gr_tgt G) (cr_ow G pl) (cr_w G pl p_ q_) (fM d_) i := by rw [h11]; exact hmD i hlt
                                refine lv_icmp_le (tgt := 162) hx hb dX5_findNeeds_154 (by decide) (fun b154 => ?_) (fun b154 => ?_)
                                · skip
                                  have q154 := i_le.mp b154
                                  have hcv : (f_.1 11 i).toInt = ttM G pl p_ q_ ((gr_n G : Int) * mo.toInt) (fM d_) i := by show _ = gm_tt _ _ _ _ _ _ _; unfold gm_tt; rw [if_neg (by omega)]; exact h11v
                                  refine lv_aload_n hx hb dX5_findNeeds_162 rfl (lv_at hl 0 rfl) ?_
                                  refine va_get (D := en.1) (ci := 5) (v := .ref (bd 11)) (C := RX5) (T := TX5) (N := 16) hx hb hts iw_X5_findNeeds_X5 hown hE.1 hP 0 rfl rfl 14 (by decide) (hts (.fieldLink RX5 41 "CreditGameModel" "more" "[I") (by decide +kernel)) (fun _ h9 => h9) rfl dX5_findNeeds_163 ?_
                                  refine lv_iload hx hb dX5_findNeeds_166 (lv_at hl 6 rfl) ?_
                                  refine mr_ild hx hb hE hP 11 (by decide) i rfl (show _ < 7 by omega) dX5_findNeeds_168 ?_
                                  refine lv_istore (lv' := [(7, .int (f_.1 11 i)), (0, .ref (bd 0)), (1, .int tI), (2, .int oI), (3, .int (nI pl)), (4, .int mo), (5, .int gq), (6, .int (nI i))]) hx hb dX5_findNeeds_169 hl (by decide) rfl (fun ls hl => ?_)
                                  refine lv_iload hx hb dX5_findNeeds_171 (lv_at hl 6 rfl) ?_
                                  refine lv_if_ne (tgt := 188) hx hb dX5_findNeeds_173 (by decide) (fun b173 => ?_) (fun b173 => ?_)
                                  · skip
                                    refine lv_iconst (v := 1) hx hb dX5_findNeeds_188 (by decide) ?_
                                    refine lv_goto (tgt := 193) hx hb dX5_findNeeds_189 (by decide) ?_
                                    refine lv_istore (lv' := [(5, .int 1), (7, .int (f_.1 11 i)), (0, .ref (bd 0)), (1, .int tI), (2, .int oI), (3, .int (nI pl)), (4, .int mo), (6, .int (nI i))]) hx hb dX5_findNeeds_193 hl (by decide) rfl (fun ls hl => ?_)
                                    refine lv_aload_n hx hb dX5_findNeeds_195 rfl (lv_at hl 2 rfl) ?_
                                    refine va_get (D := en.1) (ci := 5) (v := .ref (bd 10)) (C := RX5) (T := TX5) (N := 16) hx hb hts iw_X5_findNeeds_X5 hown hE.1 hP 0 rfl rfl 13 (by decide) (hts (.fieldLink RX5 38 "CreditGameModel" "needs" "[I") (by decide +kernel)) (fun _ h9 => h9) rfl dX5_findNeeds_196 ?_
                                    refine lv_iload hx hb dX5_findNeeds_199 (lv_at hl 7 rfl) ?_
                                    refine lv_iload hx hb dX5_findNeeds_201 (lv_at hl 1 rfl) ?_
                                    refine mr_ist hx hb hE hP hI hS 10 (by decide) i rfl (show _ < 7 by omega) dX5_findNeeds_203 (fun H locs hP hS => ?_)
                                    obtain ⟨d203, ed203⟩ : ∃ z : mT, z = (va_up f_.1 10 (upd (f_.1 10) i (f_.1 11 i)), f_.2) := ⟨_, rfl⟩
                                    rw [← ed203] at hP
                                    have hfu : ∀ u, fM d203 u = if u = i then ((f_.1 11 i) : Int32).toInt else fM f_ u := by
                                      intro u
                                      show (d203.1 10 u).toInt = _
                                      rw [ed203]
                                      show (upd (f_.1 10) i ((f_.1 11 i)) u).toInt = _
                                      by_cases e9 : u = i
                                      · rw [e9, ud_at, if_pos rfl]
                                      · rw [ud_ne e9, if_neg e9]
                                    have hup : fM d_ i ≤ ((f_.1 11 i) : Int32).toInt := by rw [hcv]; exact hrd.2.1 i hlt
                                    have hrg9 := gm_tt_rng (ow := cr_ow G pl) hc.2 (gr_tgts hm.1) hcap1 (rd_w hm.1 (pl := pl) hq1 hq7 hp1 hp2) hrd.1 i hlt
                                    have hps : 0 ≤ 1000000 - fM d203 i := by
                                      rw [hfu, if_pos rfl, hcv]
                                      show 0 ≤ 1000000 - gm_tt _ _ _ _ _ _ _
                                      omega
                                    have hsl : gm_sum (fun v => 1000000 - fM d203 v) (gr_n G) ≤ gm_sum (fun v => 1000000 - fM f_ v) (gr_n G) := gm_sum_mono (fun u hu => by show 1000000 - fM d203 u ≤ 1000000 - fM f_ u; rw [hfu]; by_cases e9 : u = i; rw [if_pos e9, e9, hFr i (Nat.le_refl i) hlt]; omega; rw [if_neg e9]; exact Int.le_refl _)
                                    have hsl2 : ¬ ((f_.1 11 i) : Int32).toInt = fM d_ i → gm_sum (fun v => 1000000 - fM d203 v) (gr_n G) + 1 ≤ gm_sum (fun v => 1000000 - fM f_ v) (gr_n G) := fun hdf => gm_sum_lt (v := i) (fun u hu => by show 1000000 - fM d203 u ≤ 1000000 - fM f_ u; rw [hfu]; by_cases e9 : u = i; rw [if_pos e9, e9, hFr i (Nat.le_refl i) hlt]; omega; rw [if_neg e9]; exact Int.le_refl _) hlt hps (by show 1000000 - fM d203 i < 1000000 - fM f_ i; rw [hfu, if_pos rfl, hFr i (Nat.le_refl i) hlt]; omega)
                                    try have hsl3 := hsl2 hdif
                                    refine lv_iinc (v := (nI (i + 1))) (lv' := [(6, .int (nI (i + 1))), (5, .int 1), (7, .int (f_.1 11 i)), (0, .ref (bd 0)), (1, .int tI), (2, .int oI), (3, .int (nI pl)), (4, .int mo)]) hx hb dX5_findNeeds_204 hl (k := 7) rfl (nI_1 _) (by decide) rfl (fun ls hl => ?_)
                                    refine lv_goto (tgt := 131) hx hb dX5_findNeeds_207 (by decide) ?_
                                    exact ih131 (i + 1) 1 d203 _ _ _ (by omega) (by omega) (by rw [ed203]; exact hkF.tr (km.up (by decide))) (fun u h => by rw [hfu]; by_cases e9 : u = i; rw [if_pos e9, e9]; exact hcv; rw [if_neg e9]; exact hFd u (by omega)) (fun u h1 h2 => by rw [hfu, if_neg (by omega)]; exact hFr u (by omega) h2) (fun q => absurd q (by decide)) (by omega) (fun _ => by first | (have h1 := hgq1 b173; omega) | omega) hP hS (lv_sub hl [3, 4, 5, 6, 7, 1, 0] rfl)
                                  · skip
                                    refine lv_iload hx hb dX5_findNeeds_176 (lv_at hl 0 rfl) ?_
                                    refine lv_aload_n hx hb dX5_findNeeds_178 rfl (lv_at hl 1 rfl) ?_
                                    refine va_get (D := en.1) (ci := 5) (v := .ref (bd 10)) (C := RX5) (T := TX5) (N := 16) hx hb hts iw_X5_findNeeds_X5 hown hE.1 hP 0 rfl rfl 13 (by decide) (hts (.fieldLink RX5 38 "CreditGameModel" "needs" "[I") (by decide +kernel)) (fun _ h9 => h9) rfl dX5_findNeeds_179 ?_
                                    refine lv_iload hx hb dX5_findNeeds_182 (lv_at hl 7 rfl) ?_
                                    refine mr_ild hx hb hE hP 10 (by decide) i rfl (show _ < 7 by omega) dX5_findNeeds_184 ?_
                                    refine lv_icmp_eq (tgt := 192) hx hb dX5_findNeeds_185 (by decide) (fun b185 => ?_) (fun b185 => ?_)
                                    · skip
                                      have hsame : ((f_.1 11 i) : Int32).toInt = fM d_ i := by rw [b185]; exact hFr i (Nat.le_refl i) hlt
                                      refine lv_iconst (v := 0) hx hb dX5_findNeeds_192 (by decide) ?_
                                      refine lv_istore (lv' := [(5, .int 0), (7, .int (f_.1 11 i)), (0, .ref (bd 0)), (1, .int tI), (2, .int oI), (3, .int (nI pl)), (4, .int mo), (6, .int (nI i))]) hx hb dX5_findNeeds_193 hl (by decide) rfl (fun ls hl => ?_)
                                      refine lv_aload_n hx hb dX5_findNeeds_195 rfl (lv_at hl 2 rfl) ?_
                                      refine va_get (D := en.1) (ci := 5) (v := .ref (bd 10)) (C := RX5) (T := TX5) (N := 16) hx hb hts iw_X5_findNeeds_X5 hown hE.1 hP 0 rfl rfl 13 (by decide) (hts (.fieldLink RX5 38 "CreditGameModel" "needs" "[I") (by decide +kernel)) (fun _ h9 => h9) rfl dX5_findNeeds_196 ?_
                                      refine lv_iload hx hb dX5_findNeeds_199 (lv_at hl 7 rfl) ?_
                                      refine lv_iload hx hb dX5_findNeeds_201 (lv_at hl 1 rfl) ?_
                                      refine mr_ist hx hb hE hP hI hS 10 (by decide) i rfl (show _ < 7 by omega) dX5_findNeeds_203 (fun H locs hP hS => ?_)
                                      obtain ⟨d203, ed203⟩ : ∃ z : mT, z = (va_up f_.1 10 (upd (f_.1 10) i (f_.1 11 i)), f_.2) := ⟨_, rfl⟩
                                      rw [← ed203] at hP
                                      have hfu : ∀ u, fM d203 u = if u = i then ((f_.1 11 i) : Int32).toInt else fM f_ u := by
                                        intro u
                                        show (d203.1 10 u).toInt = _
                                        rw [ed203]
                                        show (upd (f_.1 10) i ((f_.1 11 i)) u).toInt = _
                                        by_cases e9 : u = i
                                        · rw [e9, ud_at, if_pos rfl]
                                        · rw [ud_ne e9, if_neg e9]
                                      have hup : fM d_ i ≤ ((f_.1 11 i) : Int32).toInt := by rw [hcv]; exact hrd.2.1 i hlt
                                      have hrg9 := gm_tt_rng (ow := cr_ow G pl) hc.2 (gr_tgts hm.1) hcap1 (rd_w hm.1 (pl := pl) hq1 hq7 hp1 hp2) hrd.1 i hlt
                                      have hps : 0 ≤ 1000000 - fM d203 i := by
                                        rw [hfu, if_pos rfl, hcv]
                                        show 0 ≤ 1000000 - gm_tt _ _ _ _ _ _ _
                                        omega
                                      have hsl : gm_sum (fun v => 1000000 - fM d203 v) (gr_n G) ≤ gm_sum (fun v => 1000000 - fM f_ v) (gr_n G) := gm_sum_mono (fun u hu => by show 1000000 - fM d203 u ≤ 1000000 - fM f_ u; rw [hfu]; by_cases e9 : u = i; rw [if_pos e9, e9, hFr i (Nat.le_refl i) hlt]; omega; rw [if_neg e9]; exact Int.le_refl _)
                                      have hsl2 : ¬ ((f_.1 11 i) : Int32).toInt = fM d_ i → gm_sum (fun v => 1000000 - fM d203 v) (gr_n G) + 1 ≤ gm_sum (fun v => 1000000 - fM f_ v) (gr_n G) := fun hdf => gm_sum_lt (v := i) (fun u hu => by show 1000000 - fM d203 u ≤ 1000000 - fM f_ u; rw [hfu]; by_cases e9 : u = i; rw [if_pos e9, e9, hFr i (Nat.le_refl i) hlt]; omega; rw [if_neg e9]; exact Int.le_refl _) hlt hps (by show 1000000 - fM d203 i < 1000000 - fM f_ i; rw [hfu, if_pos rfl, hFr i (Nat.le_refl i) hlt]; omega)
                                      try have hsl3 := hsl2 hdif
                                      refine lv_iinc (v := (nI (i + 1))) (lv' := [(6, .int (nI (i + 1))), (5, .int 0), (7, .int (f_.1 11 i)), (0, .ref (bd 0)), (1, .int tI), (2, .int oI), (3, .int (nI pl)), (4, .int mo)]) hx hb dX5_findNeeds_204 hl (k := 7) rfl (nI_1 _) (by decide) rfl (fun ls hl => ?_)
                                      refine lv_goto (tgt := 131) hx hb dX5_findNeeds_207 (by decide) ?_
                                      exact ih131 (i + 1) 0 d203 _ _ _ (by omega) (by omega) (by rw [ed203]; exact hkF.tr (km.up (by decide))) (fun u h => by rw [hfu]; by_cases e9 : u = i; rw [if_pos e9, e9]; exact hcv; rw [if_neg e9]; exact hFd u (by omega)) (fun u h1 h2 => by rw [hfu, if_neg (by omega)]; exact hFr u (by omega) h2) (fun _ u h => by by_cases e9 : u = i; rw [e9, ← hcv]; exact hsame; exact hgq0 b173 u (by omega)) (by omega) (fun q => absurd rfl q) hP hS (lv_sub hl [3, 4, 5, 6, 7, 1, 0] rfl)
                                    · skip
                                      have hdif : ¬ ((f_.1 11 i) : Int32).toInt = fM d_ i := fun q => b185 (i_eq (q.trans (hFr i (Nat.le_refl i) hlt).symm))
                                      refine lv_iconst (v := 1) hx hb dX5_findNeeds_188 (by decide) ?_
                                      refine lv_goto (tgt := 193) hx hb dX5_findNeeds_189 (by decide) ?_
                                      refine lv_istore (lv' := [(5, .int 1), (7, .int (f_.1 11 i)), (0, .ref (bd 0)), (1, .int tI), (2, .int oI), (3, .int (nI pl)), (4, .int mo), (6, .int (nI i))]) hx hb dX5_findNeeds_193 hl (by decide) rfl (fun ls hl => ?_)
                                      refine lv_aload_n hx hb dX5_findNeeds_195 rfl (lv_at hl 2 rfl) ?_
                                      refine va_get (D := en.1) (ci := 5) (v := .ref (bd 10)) (C := RX5) (T := TX5) (N := 16) hx hb hts iw_X5_findNeeds_X5 hown hE.1 hP 0 rfl rfl 13 (by decide) (hts (.fieldLink RX5 38 "CreditGameModel" "needs" "[I") (by decide +kernel)) (fun _ h9 => h9) rfl dX5_findNeeds_196 ?_
                                      refine lv_iload hx hb dX5_findNeeds_199 (lv_at hl 7 rfl) ?_
                                      refine lv_iload hx hb dX5_findNeeds_201 (lv_at hl 1 rfl) ?_
                                      refine mr_ist hx hb hE hP hI hS 10 (by decide) i rfl (show _ < 7 by omega) dX5_findNeeds_203 (fun H locs hP hS => ?_)
                                      obtain ⟨d203, ed203⟩ : ∃ z : mT, z = (va_up f_.1 10 (upd (f_.1 10) i (f_.1 11 i)), f_.2) := ⟨_, rfl⟩
                                      rw [← ed203] at hP
                                      have hfu : ∀ u, fM d203 u = if u = i then ((f_.1 11 i) : Int32).toInt else fM f_ u := by
                                        intro u
                                        show (d203.1 10 u).toInt = _
                                        rw [ed203]
                                        show (upd (f_.1 10) i ((f_.1 11 i)) u).toInt = _
                                        by_cases e9 : u = i
                                        · rw [e9, ud_at, if_pos rfl]
                                        · rw [ud_ne e9, if_neg e9]
                                      have hup : fM d_ i ≤ ((f_.1 11 i) : Int32).toInt := by rw [hcv]; exact hrd.2.1 i hlt
                                      have hrg9 := gm_tt_rng (ow := cr_ow G pl) hc.2 (gr_tgts hm.1) hcap1 (rd_w hm.1 (pl := pl) hq1 hq7 hp1 hp2) hrd.1 i hlt
                                      have hps : 0 ≤ 1000000 - fM d203 i := by
                                        rw [hfu, if_pos rfl, hcv]
                                        show 0 ≤ 1000000 - gm_tt _ _ _ _ _ _ _
                                        omega
                                      have hsl : gm_sum (fun v => 1000000 - fM d203 v) (gr_n G) ≤ gm_sum (fun v => 1000000 - fM f_ v) (gr_n G) := gm_sum_mono (fun u hu => by show 1000000 - fM d203 u ≤ 1000000 - fM f_ u; rw [hfu]; by_cases e9 : u = i; rw [if_pos e9, e9, hFr i (Nat.le_refl i) hlt]; omega; rw [if_neg e9]; exact Int.le_refl _)
                                      have hsl2 : ¬ ((f_.1 11 i) : Int32).toInt = fM d_ i → gm_sum (fun v => 1000000 - fM d203 v) (gr_n G) + 1 ≤ gm_sum (fun v => 1000000 - fM f_ v) (gr_n G) := fun hdf => gm_sum_lt (v := i) (fun u hu => by show 1000000 - fM d203 u ≤ 1000000 - fM f_ u; rw [hfu]; by_cases e9 : u = i; rw [if_pos e9, e9, hFr i (Nat.le_refl i) hlt]; omega; rw [if_neg e9]; exact Int.le_refl _) hlt hps (by show 1000000 - fM d203 i < 1000000 - fM f_ i; rw [hfu, if_pos rfl, hFr i (Nat.le_refl i) hlt]; omega)
                                      try have hsl3 := hsl2 hdif
                                      refine lv_iinc (v := (nI (i + 1))) (lv' := [(6, .int (nI (i + 1))), (5, .int 1), (7, .int (f_.1 11 i)), (0, .ref (bd 0)), (1, .int tI), (2, .int oI), (3, .int (nI pl)), (4, .int mo)]) hx hb dX5_findNeeds_204 hl (k := 7) rfl (nI_1 _) (by decide) rfl (fun ls hl => ?_)
                                      refine lv_goto (tgt := 131) hx hb dX5_findNeeds_207 (by decide) ?_
                                      exact ih131 (i + 1) 1 d203 _ _ _ (by omega) (by omega) (by rw [ed203]; exact hkF.tr (km.up (by decide))) (fun u h => by rw [hfu]; by_cases e9 : u = i; rw [if_pos e9, e9]; exact hcv; rw [if_neg e9]; exact hFd u (by omega)) (fun u h1 h2 => by rw [hfu, if_neg (by omega)]; exact hFr u (by omega) h2) (fun q => absurd q (by decide)) (by omega) (fun _ => by first | (have h1 := hgq1 b173; omega) | omega) hP hS (lv_sub hl [3, 4, 5, 6, 7, 1, 0] rfl)
                                · skip
                                  have q154 : ¬ _ := fun q => b154 (i_le.mpr q)
                                  have hcv : (1000000 : Int32).toInt = ttM G pl p_ q_ ((gr_n G : Int) * mo.toInt) (fM d_) i := by show _ = gm_tt _ _ _ _ _ _ _; unfold gm_tt; rw [if_pos (by omega), i_hi]
                                  refine lv_ldc (own := RX5) (v := 1000000) hx hb hown (hts (.constant RX5 77 (1000000)) (by decide +kernel)) dX5_findNeeds_157 ?_
                                  refine lv_goto (tgt := 169) hx hb dX5_findNeeds_159 (by decide) ?_
                                  refine lv_istore (lv' := [(7, .int 1000000), (0, .ref (bd 0)), (1, .int tI), (2, .int oI), (3, .int (nI pl)), (4, .int mo), (5, .int gq), (6, .int (nI i))]) hx hb dX5_findNeeds_169 hl (by decide) rfl (fun ls hl => ?_)
                                  refine lv_iload hx hb dX5_findNeeds_171 (lv_at hl 6 rfl) ?_
                                  refine lv_if_ne (tgt := 188) hx hb dX5_findNeeds_173 (by decide) (fun b173 => ?_) (fun b173 => ?_)
                                  · skip
                                    refine lv_iconst (v := 1) hx hb dX5_findNeeds_188 (by decide) ?_
                                    refine lv_goto (tgt := 193) hx hb dX5_findNeeds_189 (by decide) ?_
                                    refine lv_istore (lv' := [(5, .int 1), (7, .int 1000000), (0, .ref (bd 0)), (1, .int tI), (2, .int oI), (3, .int (nI pl)), (4, .int mo), (6, .int (nI i))]) hx hb dX5_findNeeds_193 hl (by decide) rfl (fun ls hl => ?_)
                                    refine lv_aload_n hx hb dX5_findNeeds_195 rfl (lv_at hl 2 rfl) ?_
                                    refine va_get (D := en.1) (ci := 5) (v := .ref (bd 10)) (C := RX5) (T := TX5) (N := 16) hx hb hts iw_X5_findNeeds_X5 hown hE.1 hP 0 rfl rfl 13 (by decide) (hts (.fieldLink RX5 38 "CreditGameModel" "needs" "[I") (by decide +kernel)) (fun _ h9 => h9) rfl dX5_findNeeds_196 ?_
                                    refine lv_iload hx hb dX5_findNeeds_199 (lv_at hl 7 rfl) ?_
                                    refine lv_iload hx hb dX5_findNeeds_201 (lv_at hl 1 rfl) ?_
                                    refine mr_ist hx hb hE hP hI hS 10 (by decide) i rfl (show _ < 7 by omega) dX5_findNeeds_203 (fun H locs hP hS => ?_)
                                    obtain ⟨d203, ed203⟩ : ∃ z : mT, z = (va_up f_.1 10 (upd (f_.1 10) i 1000000), f_.2) := ⟨_, rfl⟩
                                    rw [← ed203] at hP
                                    have hfu : ∀ u, fM d203 u = if u = i then (1000000 : Int32).toInt else fM f_ u := by
                                      intro u
                                      show (d203.1 10 u).toInt = _
                                      rw [ed203]
                                      show (upd (f_.1 10) i (1000000) u).toInt = _
                                      by_cases e9 : u = i
                                      · rw [e9, ud_at, if_pos rfl]
                                      · rw [ud_ne e9, if_neg e9]
                                    have hup : fM d_ i ≤ (1000000 : Int32).toInt := by rw [hcv]; exact hrd.2.1 i hlt
                                    have hrg9 := gm_tt_rng (ow := cr_ow G pl) hc.2 (gr_tgts hm.1) hcap1 (rd_w hm.1 (pl := pl) hq1 hq7 hp1 hp2) hrd.1 i hlt
                                    have hps : 0 ≤ 1000000 - fM d203 i := by
                                      rw [hfu, if_pos rfl, hcv]
                                      show 0 ≤ 1000000 - gm_tt _ _ _ _ _ _ _
                                      omega
                                    have hsl : gm_sum (fun v => 1000000 - fM d203 v) (gr_n G) ≤ gm_sum (fun v => 1000000 - fM f_ v) (gr_n G) := gm_sum_mono (fun u hu => by show 1000000 - fM d203 u ≤ 1000000 - fM f_ u; rw [hfu]; by_cases e9 : u = i; rw [if_pos e9, e9, hFr i (Nat.le_refl i) hlt]; omega; rw [if_neg e9]; exact Int.le_refl _)
                                    have hsl2 : ¬ (1000000 : Int32).toInt = fM d_ i → gm_sum (fun v => 1000000 - fM d203 v) (gr_n G) + 1 ≤ gm_sum (fun v => 1000000 - fM f_ v) (gr_n G) := fun hdf => gm_sum_lt (v := i) (fun u hu => by show 1000000 - fM d203 u ≤ 1000000 - fM f_ u; rw [hfu]; by_cases e9 : u = i; rw [if_pos e9, e9, hFr i (Nat.le_refl i) hlt]; omega; rw [if_neg e9]; exact Int.le_refl _) hlt hps (by show 1000000 - fM d203 i < 1000000 - fM f_ i; rw [hfu, if_pos rfl, hFr i (Nat.le_refl i) hlt]; omega)
                                    try have hsl3 := hsl2 hdif
                                    refine lv_iinc (v := (nI (i + 1))) (lv' := [(6, .int (nI (i + 1))), (5, .int 1), (7, .int 1000000), (0, .ref (bd 0)), (1, .int tI), (2, .int oI), (3, .int (nI pl)), (4, .int mo)]) hx hb dX5_findNeeds_204 hl (k := 7) rfl (nI_1 _) (by decide) rfl (fun ls hl => ?_)
                                    refine lv_goto (tgt := 131) hx hb dX5_findNeeds_207 (by decide) ?_
                                    exact ih131 (i + 1) 1 d203 _ _ _ (by omega) (by omega) (by rw [ed203]; exact hkF.tr (km.up (by decide))) (fun u h => by rw [hfu]; by_cases e9 : u = i; rw [if_pos e9, e9]; exact hcv; rw [if_neg e9]; exact hFd u (by omega)) (fun u h1 h2 => by rw [hfu, if_neg (by omega)]; exact hFr u (by omega) h2) (fun q => absurd q (by decide)) (by omega) (fun _ => by first | (have h1 := hgq1 b173; omega) | omega) hP hS (lv_sub hl [3, 4, 5, 6, 7, 1, 0] rfl)
                                  · skip
                                    refine lv_iload hx hb dX5_findNeeds_176 (lv_at hl 0 rfl) ?_
                                    refine lv_aload_n hx hb dX5_findNeeds_178 rfl (lv_at hl 1 rfl) ?_
                                    refine va_get (D := en.1) (ci := 5) (v := .ref (bd 10)) (C := RX5) (T := TX5) (N := 16) hx hb hts iw_X5_findNeeds_X5 hown hE.1 hP 0 rfl rfl 13 (by decide) (hts (.fieldLink RX5 38 "CreditGameModel" "needs" "[I") (by decide +kernel)) (fun _ h9 => h9) rfl dX5_findNeeds_179 ?_
                                    refine lv_iload hx hb dX5_findNeeds_182 (lv_at hl 7 rfl) ?_
                                    refine mr_ild hx hb hE hP 10 (by decide) i rfl (show _ < 7 by omega) dX5_findNeeds_184 ?_
                                    refine lv_icmp_eq (tgt := 192) hx hb dX5_findNeeds_185 (by decide) (fun b185 => ?_) (fun b185 => ?_)
                                    · skip
                                      have hsame : (1000000 : Int32).toInt = fM d_ i := by rw [b185]; exact hFr i (Nat.le_refl i) hlt
                                      refine lv_iconst (v := 0) hx hb dX5_findNeeds_192 (by decide) ?_
                                      refine lv_istore (lv' := [(5, .int 0), (7, .int 1000000), (0, .ref (bd 0)), (1, .int tI), (2, .int oI), (3, .int (nI pl)), (4, .int mo), (6, .int (nI i))]) hx hb dX5_findNeeds_193 hl (by decide) rfl (fun ls hl => ?_)
                                      refine lv_aload_n hx hb dX5_findNeeds_195 rfl (lv_at hl 2 rfl) ?_
                                      refine va_get (D := en.1) (ci := 5) (v := .ref (bd 10)) (C := RX5) (T := TX5) (N := 16) hx hb hts iw_X5_findNeeds_X5 hown hE.1 hP 0 rfl rfl 13 (by decide) (hts (.fieldLink RX5 38 "CreditGameModel" "needs" "[I") (by decide +kernel)) (fun _ h9 => h9) rfl dX5_findNeeds_196 ?_
                                      refine lv_iload hx hb dX5_findNeeds_199 (lv_at hl 7 rfl) ?_
                                      refine lv_iload hx hb dX5_findNeeds_201 (lv_at hl 1 rfl) ?_
                                      refine mr_ist hx hb hE hP hI hS 10 (by decide) i rfl (show _ < 7 by omega) dX5_findNeeds_203 (fun H locs hP hS => ?_)
                                      obtain ⟨d203, ed203⟩ : ∃ z : mT, z = (va_up f_.1 10 (upd (f_.1 10) i 1000000), f_.2) := ⟨_, rfl⟩
                                      rw [← ed203] at hP
                                      have hfu : ∀ u, fM d203 u = if u = i then (1000000 : Int32).toInt else fM f_ u := by
                                        intro u
                                        show (d203.1 10 u).toInt = _
                                        rw [ed203]
                                        show (upd (f_.1 10) i (1000000) u).toInt = _
                                        by_cases e9 : u = i
                                        · rw [e9, ud_at, if_pos rfl]
                                        · rw [ud_ne e9, if_neg e9]
                                      have hup : fM d_ i ≤ (1000000 : Int32).toInt := by rw [hcv]; exact hrd.2.1 i hlt
                                      have hrg9 := gm_tt_rng (ow := cr_ow G pl) hc.2 (gr_tgts hm.1) hcap1 (rd_w hm.1 (pl := pl) hq1 hq7 hp1 hp2) hrd.1 i hlt
                                      have hps : 0 ≤ 1000000 - fM d203 i := by
                                        rw [hfu, if_pos rfl, hcv]
                                        show 0 ≤ 1000000 - gm_tt _ _ _ _ _ _ _
                                        omega
                                      have hsl : gm_sum (fun v => 1000000 - fM d203 v) (gr_n G) ≤ gm_sum (fun v => 1000000 - fM f_ v) (gr_n G) := gm_sum_mono (fun u hu => by show 1000000 - fM d203 u ≤ 1000000 - fM f_ u; rw [hfu]; by_cases e9 : u = i; rw [if_pos e9, e9, hFr i (Nat.le_refl i) hlt]; omega; rw [if_neg e9]; exact Int.le_refl _)
                                      have hsl2 : ¬ (1000000 : Int32).toInt = fM d_ i → gm_sum (fun v => 1000000 - fM d203 v) (gr_n G) + 1 ≤ gm_sum (fun v => 1000000 - fM f_ v) (gr_n G) := fun hdf => gm_sum_lt (v := i) (fun u hu => by show 1000000 - fM d203 u ≤ 1000000 - fM f_ u; rw [hfu]; by_cases e9 : u = i; rw [if_pos e9, e9, hFr i (Nat.le_refl i) hlt]; omega; rw [if_neg e9]; exact Int.le_refl _) hlt hps (by show 1000000 - fM d203 i < 1000000 - fM f_ i; rw [hfu, if_pos rfl, hFr i (Nat.le_refl i) hlt]; omega)
                                      try have hsl3 := hsl2 hdif
                                      refine lv_iinc (v := (nI (i + 1))) (lv' := [(6, .int (nI (i + 1))), (5, .int 0), (7, .int 1000000), (0, .ref (bd 0)), (1, .int tI), (2, .int oI), (3, .int (nI pl)), (4, .int mo)]) hx hb dX5_findNeeds_204 hl (k := 7) rfl (nI_1 _) (by decide) rfl (fun ls hl => ?_)
                                      refine lv_goto (tgt := 131) hx hb dX5_findNeeds_207 (by decide) ?_
                                      exact ih131 (i + 1) 0 d203 _ _ _ (by omega) (by omega) (by rw [ed203]; exact hkF.tr (km.up (by decide))) (fun u h => by rw [hfu]; by_cases e9 : u = i; rw [if_pos e9, e9]; exact hcv; rw [if_neg e9]; exact hFd u (by omega)) (fun u h1 h2 => by rw [hfu, if_neg (by omega)]; exact hFr u (by omega) h2) (fun _ u h => by by_cases e9 : u = i; rw [e9, ← hcv]; exact hsame; exact hgq0 b173 u (by omega)) (by omega) (fun q => absurd rfl q) hP hS (lv_sub hl [3, 4, 5, 6, 7, 1, 0] rfl)
                                    · skip
                                      have hdif : ¬ (1000000 : Int32).toInt = fM d_ i := fun q => b185 (i_eq (q.trans (hFr i (Nat.le_refl i) hlt).symm))
                                      refine lv_iconst (v := 1) hx hb dX5_findNeeds_188 (by decide) ?_
                                      refine lv_goto (tgt := 193) hx hb dX5_findNeeds_189 (by decide) ?_
                                      refine lv_istore (lv' := [(5, .int 1), (7, .int 1000000), (0, .ref (bd 0)), (1, .int tI), (2, .int oI), (3, .int (nI pl)), (4, .int mo), (6, .int (nI i))]) hx hb dX5_findNeeds_193 hl (by decide) rfl (fun ls hl => ?_)
                                      refine lv_aload_n hx hb dX5_findNeeds_195 rfl (lv_at hl 2 rfl) ?_
                                      refine va_get (D := en.1) (ci := 5) (v := .ref (bd 10)) (C := RX5) (T := TX5) (N := 16) hx hb hts iw_X5_findNeeds_X5 hown hE.1 hP 0 rfl rfl 13 (by decide) (hts (.fieldLink RX5 38 "CreditGameModel" "needs" "[I") (by decide +kernel)) (fun _ h9 => h9) rfl dX5_findNeeds_196 ?_
                                      refine lv_iload hx hb dX5_findNeeds_199 (lv_at hl 7 rfl) ?_
                                      refine lv_iload hx hb dX5_findNeeds_201 (lv_at hl 1 rfl) ?_
                                      refine mr_ist hx hb hE hP hI hS 10 (by decide) i rfl (show _ < 7 by omega) dX5_findNeeds_203 (fun H locs hP hS => ?_)
                                      obtain ⟨d203, ed203⟩ : ∃ z : mT, z = (va_up f_.1 10 (upd (f_.1 10) i 1000000), f_.2) := ⟨_, rfl⟩
                                      rw [← ed203] at hP
                                      have hfu : ∀ u, fM d203 u = if u = i then (1000000 : Int32).toInt else fM f_ u := by
                                        intro u
                                        show (d203.1 10 u).toInt = _
                                        rw [ed203]
                                        show (upd (f_.1 10) i (1000000) u).toInt = _
                                        by_cases e9 : u = i
                                        · rw [e9, ud_at, if_pos rfl]
                                        · rw [ud_ne e9, if_neg e9]
                                      have hup : fM d_ i ≤ (1000000 : Int32).toInt := by rw [hcv]; exact hrd.2.1 i hlt
                                      have hrg9 := gm_tt_rng (ow := cr_ow G pl) hc.2 (gr_tgts hm.1) hcap1 (rd_w hm.1 (pl := pl) hq1 hq7 hp1 hp2) hrd.1 i hlt
                                      have hps : 0 ≤ 1000000 - fM d203 i := by
                                        rw [hfu, if_pos rfl, hcv]
                                        show 0 ≤ 1000000 - gm_tt _ _ _ _ _ _ _
                                        omega
                                      have hsl : gm_sum (fun v => 1000000 - fM d203 v) (gr_n G) ≤ gm_sum (fun v => 1000000 - fM f_ v) (gr_n G) := gm_sum_mono (fun u hu => by show 1000000 - fM d203 u ≤ 1000000 - fM f_ u; rw [hfu]; by_cases e9 : u = i; rw [if_pos e9, e9, hFr i (Nat.le_refl i) hlt]; omega; rw [if_neg e9]; exact Int.le_refl _)
                                      have hsl2 : ¬ (1000000 : Int32).toInt = fM d_ i → gm_sum (fun v => 1000000 - fM d203 v) (gr_n G) + 1 ≤ gm_sum (fun v => 1000000 - fM f_ v) (gr_n G) := fun hdf => gm_sum_lt (v := i) (fun u hu => by show 1000000 - fM d203 u ≤ 1000000 - fM f_ u; rw [hfu]; by_cases e9 : u = i; rw [if_pos e9, e9, hFr i (Nat.le_refl i) hlt]; omega; rw [if_neg e9]; exact Int.le_refl _) hlt hps (by show 1000000 - fM d203 i < 1000000 - fM f_ i; rw [hfu, if_pos rfl, hFr i (Nat.le_refl i) hlt]; omega)
                                      try have hsl3 := hsl2 hdif
                                      refine lv_iinc (v := (nI (i + 1))) (lv' := [(6, .int (nI (i + 1))), (5, .int 1), (7, .int 1000000), (0, .ref (bd 0)), (1, .int tI), (2, .int oI), (3, .int (nI pl)), (4, .int mo)]) hx hb dX5_findNeeds_204 hl (k := 7) rfl (nI_1 _) (by decide) rfl (fun ls hl => ?_)
                                      refine lv_goto (tgt := 131) hx hb dX5_findNeeds_207 (by decide) ?_
                                      exact ih131 (i + 1) 1 d203 _ _ _ (by omega) (by omega) (by rw [ed203]; exact hkF.tr (km.up (by decide))) (fun u h => by rw [hfu]; by_cases e9 : u = i; rw [if_pos e9, e9]; exact hcv; rw [if_neg e9]; exact hFd u (by omega)) (fun u h1 h2 => by rw [hfu, if_neg (by omega)]; exact hFr u (by omega) h2) (fun q => absurd q (by decide)) (by omega) (fun _ => by first | (have h1 := hgq1 b173; omega) | omega) hP hS (lv_sub hl [3, 4, 5, 6, 7, 1, 0] rfl)
                          exact key131 (gr_n G + 1) 0 0 e_ _ _ _ (Nat.zero_le _) (by omega) km.rf (fun u h => absurd h (Nat.not_lt_zero u)) (fun u _ _ => by rw [hfe]) (fun _ u h => absurd h (Nat.not_lt_zero u)) (by rw [hfe]; exact Int.le_refl _) (fun q => absurd rfl q) hP hS (lv_sub hl [1, 2, 3, 4, 5, 6, 0] rfl)
                        · skip
                          have hlt : i < gr_n G := by
                            rcases Nat.lt_or_ge i (gr_n G) with q | q
                            · exact q
                            · exact absurd (by rw [hme.2.1]; exact nI_le q (by omega)) b103
                          refine lv_aload_n hx hb dX5_findNeeds_106 rfl (lv_at hl 0 rfl) ?_
                          refine va_get (D := en.1) (ci := 5) (v := .ref (bd 11)) (C := RX5) (T := TX5) (N := 16) hx hb hts iw_X5_findNeeds_X5 hown hE.1 hP 0 rfl rfl 14 (by decide) (hts (.fieldLink RX5 41 "CreditGameModel" "more" "[I") (by decide +kernel)) (fun _ h9 => h9) rfl dX5_findNeeds_107 ?_
                          refine lv_iload hx hb dX5_findNeeds_110 (lv_at hl 6 rfl) ?_
                          refine lv_aload_n hx hb dX5_findNeeds_112 rfl (lv_at hl 0 rfl) ?_
                          refine lv_iload hx hb dX5_findNeeds_113 (lv_at hl 6 rfl) ?_
                          refine lv_iload_n hx hb dX5_findNeeds_115 rfl (lv_at hl 1 rfl) ?_
                          refine lv_iload_n hx hb dX5_findNeeds_116 rfl (lv_at hl 2 rfl) ?_
                          refine lv_iload_n hx hb dX5_findNeeds_117 rfl (lv_at hl 3 rfl) ?_
                          refine ro_calli (va_runV (As := [.int (nI i), .int tI, .int oI, .int (nI pl)]) (rest := [.int (nI i), .ref (bd 11)]) ⟨hx, hb, hml, hown, hts⟩ (cm_need l en bd e_ hme hc pl hpl p_ q_ tI oI hw ((gr_n G : Int) * mo.toInt) hcap1 (by rw [hfe]; exact hrd.1) i hlt) (cwV 4 hts gX5_findNeeds_X5_need rfl rfl rfl (by decide +kernel) ⟨Nat.le_of_ble_eq_true rfl, Nat.le_of_ble_eq_true rfl⟩) (ct_preV hE (va_recv hE.1 hP (ci := 5) (q0 := 0) rfl rfl) hP) rfl rfl hl.1 rfl (lv_room (Nat.le_of_ble_eq_true rfl)) dX5_findNeeds_118 ⟨Nat.le_of_ble_eq_true rfl, Nat.le_of_ble_eq_true rfl⟩) (fun r118 w118 => ?_)
                          refine mr_ist hx hb hE hP hI hS 11 (by decide) i rfl (show _ < 7 by omega) dX5_findNeeds_121 (fun H locs hP hS => ?_)
                          obtain ⟨d121, ed121⟩ : ∃ z : mT, z = (va_up e_.1 11 (upd (e_.1 11) i r118), e_.2) := ⟨_, rfl⟩
                          rw [← ed121] at hP
                          refine lv_iinc (v := (nI (i + 1))) (lv' := [(6, .int (nI (i + 1))), (0, .ref (bd 0)), (1, .int tI), (2, .int oI), (3, .int (nI pl)), (4, .int mo), (5, .int 0)]) hx hb dX5_findNeeds_122 hl (k := 6) rfl (nI_1 _) (by decide) rfl (fun ls hl => ?_)
                          refine lv_goto (tgt := 97) hx hb dX5_findNeeds_125 (by decide) ?_
                          exact ih97 (i + 1) d121 _ _ _ (by omega) (by omega) (by rw [ed121]; exact hkD.tr (km.up (by decide))) (fun u h => by rw [ed121]; show (upd (e_.1 11) i r118 u).toInt = _; by_cases e9 : u = i; rw [e9, ud_at, w118, hfe]; rw [ud_ne e9]; exact hmD u (by omega)) hP hS (lv_sub hl [1, 2, 3, 4, 5, 6, 0] rfl)
                    exact key97 (gr_n G + 1) 0 d_ _ _ _ (Nat.zero_le _) (by omega) km.rf (fun u h => absurd h (Nat.not_lt_zero u)) hP hS (lv_sub hl [2, 3, 4, 5, 6, 1, 0] rfl)
              exact key86 (7000010) 1 d_ _ _ _ ⟨fun _ => by have h1 := gm_sum_bd (f := fun v => 1000000 - fM d_ v) (B := 1000000) (by omega) (n := gr_n G) (fun u hu => by have := hz u (by omega); show 1000000 - fM d_ u ≤ 1000000; omega); omega, by omega⟩ hkc (rd_0 hm.1 hc hcap0 hcap1 hq1 hq7 hp1 hp2 (fun v hv => hz v (by omega))) (fun q => absurd q (by decide)) hP hS (lv_sub hl [1, 2, 3, 4, 5, 0] rfl)
            · skip
              have hlt : i < gr_n G := by
                rcases Nat.lt_or_ge i (gr_n G) with q | q
                · exact q
                · exact absurd (by rw [hmb.2.1]; exact nI_le q (by omega)) b66
              refine lv_aload_n hx hb dX5_findNeeds_69 rfl (lv_at hl 0 rfl) ?_
              refine va_get (D := en.1) (ci := 5) (v := .ref (bd 10)) (C := RX5) (T := TX5) (N := 16) hx hb hts iw_X5_findNeeds_X5 hown hE.1 hP 0 rfl rfl 13 (by decide) (hts (.fieldLink RX5 38 "CreditGameModel" "needs" "[I") (by decide +kernel)) (fun _ h9 => h9) rfl dX5_findNeeds_70 ?_
              refine lv_iload hx hb dX5_findNeeds_73 (lv_at hl 5 rfl) ?_
              refine lv_iconst (v := 0) hx hb dX5_findNeeds_75 (by decide) ?_
              refine mr_ist hx hb hE hP hI hS 10 (by decide) i rfl (show _ < 7 by omega) dX5_findNeeds_76 (fun H locs hP hS => ?_)
              obtain ⟨d76, ed76⟩ : ∃ z : mT, z = (va_up d_.1 10 (upd (d_.1 10) i 0), d_.2) := ⟨_, rfl⟩
              rw [← ed76] at hP
              refine lv_iinc (v := (nI (i + 1))) (lv' := [(5, .int (nI (i + 1))), (0, .ref (bd 0)), (1, .int tI), (2, .int oI), (3, .int (nI pl)), (4, .int mo)]) hx hb dX5_findNeeds_77 hl (k := 5) rfl (nI_1 _) (by decide) rfl (fun ls hl => ?_)
              refine lv_goto (tgt := 60) hx hb dX5_findNeeds_80 (by decide) ?_
              exact ih60 (i + 1) d76 _ _ _ (by omega) (by omega) (by rw [ed76]; exact hkc.tr (km.up (by decide))) (fun u h => by show (d76.1 10 u).toInt = 0; rw [ed76]; show (upd (d_.1 10) i 0 u).toInt = 0; by_cases e9 : u = i; rw [e9, ud_at]; decide; rw [ud_ne e9]; exact hz u (by omega)) hP hS (lv_sub hl [1, 2, 3, 4, 5, 0] rfl)
        exact key60 (gr_n G + 1) 0 d _ _ _ (Nat.zero_le _) (by omega) km.rf (fun u h => absurd h (Nat.not_lt_zero u)) hP hS (lv_sub hl [1, 2, 3, 4, 5, 0] rfl)
      · skip
        have hlt : i < gr_E G := by
          rcases Nat.lt_or_ge i (gr_E G) with q | q
          · exact q
          · exact absurd (by rw [hm.2.2.1]; exact nI_le q (by omega)) b12
        refine lv_iload_n hx hb dX5_findNeeds_15 rfl (lv_at hl 1 rfl) ?_
        refine lv_aload_n hx hb dX5_findNeeds_16 rfl (lv_at hl 0 rfl) ?_
        refine va_get (D := en.1) (ci := 5) (v := .ref (bd 5)) (C := RX5) (T := TX5) (N := 16) hx hb hts iw_X5_findNeeds_X5 hown hE.1 hP 0 rfl rfl 7 (by decide) (hts (.fieldLink RX5 22 "CreditGameModel" "weight" "[I") (by decide +kernel)) (fun _ h9 => h9) rfl dX5_findNeeds_17 ?_
        refine lv_iload hx hb dX5_findNeeds_20 (lv_at hl 5 rfl) ?_
        refine mr_ild hx hb hE hP 5 (by decide) i rfl (show _ < 24 by omega) dX5_findNeeds_22 ?_
        refine lv_topi (fun z_22 ez_22 => ?_)
        obtain rfl : z_22 = (gr_wt G i) := (ez_22.trans (hm.2.2.2.2 i hlt).2.2)
        refine lv_imul hx hb dX5_findNeeds_23 ?_
        refine lv_iload_n hx hb dX5_findNeeds_24 rfl (lv_at hl 2 rfl) ?_
        refine lv_isub hx hb dX5_findNeeds_25 ?_
        refine lv_topi (fun z1 hz1 => ?_)
        have hz2 := wt_val hm.1 hw hlt hz1
        refine lv_istore (lv' := [(6, .int z1), (0, .ref (bd 0)), (1, .int tI), (2, .int oI), (3, .int (nI pl)), (4, .int mo), (5, .int (nI i))]) hx hb dX5_findNeeds_26 hl (by decide) rfl (fun ls hl => ?_)
        refine lv_iload hx hb dX5_findNeeds_28 (lv_at hl 0 rfl) ?_
        refine lv_if_ge (tgt := 47) hx hb dX5_findNeeds_30 (by decide) (fun b30 => ?_) (fun b30 => ?_)
        · skip
          have q30 := i_le.mp b30
          rw [i_0] at q30
          refine lv_iload hx hb dX5_findNeeds_47 (lv_at hl 5 rfl) ?_
          refine lv_istore (lv' := [(4, .int mo), (6, .int z1), (0, .ref (bd 0)), (1, .int tI), (2, .int oI), (3, .int (nI pl)), (5, .int (nI i))]) hx hb dX5_findNeeds_49 hl (by decide) rfl (fun ls hl => ?_)
          refine lv_iinc (v := (nI (i + 1))) (lv' := [(5, .int (nI (i + 1))), (4, .int mo), (6, .int z1), (0, .ref (bd 0)), (1, .int tI), (2, .int oI), (3, .int (nI pl))]) hx hb dX5_findNeeds_51 hl (k := 6) rfl (nI_1 _) (by decide) rfl (fun ls hl => ?_)
          refine lv_goto (tgt := 6) hx hb dX5_findNeeds_54 (by decide) ?_
          exact ih6 (i + 1) mo _ (by omega) (by omega) hmo0 hmo1 (fun x hx9 => by by_cases e9 : x = i; rw [e9, ← hz2.1]; omega; exact hmx x (by omega)) (lv_sub hl [3, 4, 5, 6, 1, 0] rfl)
        · skip
          have q30 : ¬ _ := fun q => b30 (i_le.mpr q)
          rw [i_0] at q30
          have hng : (-z1).toInt = -z1.toInt := i_neg (by omega)
          refine lv_iload hx hb dX5_findNeeds_33 (lv_at hl 0 rfl) ?_
          refine lv_ineg hx hb dX5_findNeeds_35 ?_
          refine lv_iload hx hb dX5_findNeeds_36 (lv_at hl 5 rfl) ?_
          refine lv_icmp_le (tgt := 47) hx hb dX5_findNeeds_38 (by decide) (fun b38 => ?_) (fun b38 => ?_)
          · skip
            have q38 := i_le.mp b38
            refine lv_iload hx hb dX5_findNeeds_47 (lv_at hl 5 rfl) ?_
            refine lv_istore (lv' := [(4, .int mo), (6, .int z1), (0, .ref (bd 0)), (1, .int tI), (2, .int oI), (3, .int (nI pl)), (5, .int (nI i))]) hx hb dX5_findNeeds_49 hl (by decide) rfl (fun ls hl => ?_)
            refine lv_iinc (v := (nI (i + 1))) (lv' := [(5, .int (nI (i + 1))), (4, .int mo), (6, .int z1), (0, .ref (bd 0)), (1, .int tI), (2, .int oI), (3, .int (nI pl))]) hx hb dX5_findNeeds_51 hl (k := 6) rfl (nI_1 _) (by decide) rfl (fun ls hl => ?_)
            refine lv_goto (tgt := 6) hx hb dX5_findNeeds_54 (by decide) ?_
            exact ih6 (i + 1) mo _ (by omega) (by omega) hmo0 hmo1 (fun x hx9 => by by_cases e9 : x = i; rw [e9, ← hz2.1]; omega; exact hmx x (by omega)) (lv_sub hl [3, 4, 5, 6, 1, 0] rfl)
          · skip
            have q38 : ¬ _ := fun q => b38 (i_le.mpr q)
            refine lv_iload hx hb dX5_findNeeds_41 (lv_at hl 0 rfl) ?_
            refine lv_ineg hx hb dX5_findNeeds_43 ?_
            refine lv_goto (tgt := 49) hx hb dX5_findNeeds_44 (by decide) ?_
            refine lv_istore (lv' := [(4, .int (-z1)), (6, .int z1), (0, .ref (bd 0)), (1, .int tI), (2, .int oI), (3, .int (nI pl)), (5, .int (nI i))]) hx hb dX5_findNeeds_49 hl (by decide) rfl (fun ls hl => ?_)
            refine lv_iinc (v := (nI (i + 1))) (lv' := [(5, .int (nI (i + 1))), (4, .int (-z1)), (6, .int z1), (0, .ref (bd 0)), (1, .int tI), (2, .int oI), (3, .int (nI pl))]) hx hb dX5_findNeeds_51 hl (k := 6) rfl (nI_1 _) (by decide) rfl (fun ls hl => ?_)
            refine lv_goto (tgt := 6) hx hb dX5_findNeeds_54 (by decide) ?_
            exact ih6 (i + 1) (-z1) _ (by omega) (by omega) (by rw [i_neg (by omega)]; omega) (by rw [i_neg (by omega)]; omega) (fun x hx9 => by rw [i_neg (by omega)]; by_cases e9 : x = i; rw [e9, ← hz2.1]; omega; have := hmx x (by omega); omega) (lv_sub hl [3, 4, 5, 6, 1, 0] rfl)
  exact key6 (gr_E G + 1) 0 0 _ (Nat.zero_le _) (by omega) (by decide) (by decide) (fun x h => absurd h (Nat.not_lt_zero x)) (lv_sub hl [2, 3, 4, 5, 1, 0] rfl)
