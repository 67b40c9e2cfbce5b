/-! ===== longs; the nearest fraction; CreditGameModel: credit, findValues, nearest ===== -/
theorem l_add {a b : Int64} (h1 : -9223372036854775808 ≤ a.toInt + b.toInt) (h2 : a.toInt + b.toInt < 9223372036854775808) : (a + b).toInt = a.toInt + b.toInt := by
  rw [Int64.toInt_add]
  exact Int.bmod_eq_of_le (by omega) (by omega)
theorem l_sub {a b : Int64} (h1 : -9223372036854775808 ≤ a.toInt - b.toInt) (h2 : a.toInt - b.toInt < 9223372036854775808) : (a - b).toInt = a.toInt - b.toInt := by
  rw [Int64.toInt_sub]
  exact Int.bmod_eq_of_le (by omega) (by omega)
theorem l_mul {a b : Int64} (h1 : -9223372036854775808 ≤ a.toInt * b.toInt) (h2 : a.toInt * b.toInt < 9223372036854775808) : (a * b).toInt = a.toInt * b.toInt := by
  rw [Int64.toInt_mul]
  exact Int.bmod_eq_of_le (by omega) (by omega)
theorem l_neg {a : Int64} (h1 : -9223372036854775808 < a.toInt) : (-a).toInt = -a.toInt := by
  have h2 := Int64.toInt_lt a
  rw [Int64.toInt_neg]
  exact Int.bmod_eq_of_le (by omega) (by omega)
theorem l_lt {a b : Int64} : a < b ↔ a.toInt < b.toInt := Int64.lt_iff_toInt_lt
theorem l_le {a b : Int64} : a ≤ b ↔ a.toInt ≤ b.toInt := Int64.le_iff_toInt_le
theorem l_0 : (0 : Int64).toInt = 0 := by decide
theorem l_1 : (1 : Int64).toInt = 1 := by decide
theorem l_of (x : Int32) : x.toInt64.toInt = x.toInt := Int32.toInt_toInt64 x
theorem ab_mul {a b A B : Int} (h1 : -A ≤ a) (h2 : a ≤ A) (h3 : -B ≤ b) (h4 : b ≤ B) : -(A * B) ≤ a * b ∧ a * b ≤ A * B := by
  have h5 : (a * b).natAbs ≤ A.toNat * B.toNat := by
    rw [Int.natAbs_mul]
    exact Nat.mul_le_mul (by omega) (by omega)
  have h6 : ((A.toNat * B.toNat : Nat) : Int) = A * B := by
    rw [Int.natCast_mul, Int.toNat_of_nonneg (by omega), Int.toNat_of_nonneg (by omega)]
  omega
theorem st_eq {n : Nat} (h : n ≤ 7) : (4 : Int64) * lN n * lN n * lN n * 9 + 1 = lN (36 * n * n * n + 1) := by
  rcases (show n = 0 ∨ n = 1 ∨ n = 2 ∨ n = 3 ∨ n = 4 ∨ n = 5 ∨ n = 6 ∨ n = 7 by omega) with rfl | rfl | rfl | rfl | rfl | rfl | rfl | rfl <;> decide
theorem st_bd {n : Nat} (h : n ≤ 7) : 36 * n * n * n + 1 ≤ 12349 := by
  rcases (show n = 0 ∨ n = 1 ∨ n = 2 ∨ n = 3 ∨ n = 4 ∨ n = 5 ∨ n = 6 ∨ n = 7 by omega) with rfl | rfl | rfl | rfl | rfl | rfl | rfl | rfl <;> decide
/-! the fraction -/
theorem vl_q_min {P : Int} {x : Nat} (h1 : 1 ≤ x) (hx : x < vl_q P) : ¬ P * (x : Int) % 420 = 0 := by
  have h7 := vl_q_bd P
  intro hz
  have h8 : x < 7 := by omega
  unfold vl_q at hx
  rcases (show x = 1 ∨ x = 2 ∨ x = 3 ∨ x = 4 ∨ x = 5 ∨ x = 6 by omega) with rfl | rfl | rfl | rfl | rfl | rfl <;> (repeat' split at hx) <;> simp at hz <;> omega
theorem vl_q_le {P : Int} {d : Nat} (h1 : 1 ≤ d) (h : P * (d : Int) % 420 = 0) : vl_q P ≤ d := by
  rcases Nat.lt_or_ge d (vl_q P) with q | q
  · exact absurd h (vl_q_min h1 q)
  · exact q
theorem vl_cop {P : Int} (h : P * (vl_q P : Int) % 420 = 0) : Nat.gcd (vl_t P).natAbs (vl_q P) = 1 := by
  have hq := vl_q_bd P
  have e := vl_tq h
  have g1 := Nat.gcd_dvd_left (vl_t P).natAbs (vl_q P)
  have g2 := Nat.gcd_dvd_right (vl_t P).natAbs (vl_q P)
  have hgp : 0 < Nat.gcd (vl_t P).natAbs (vl_q P) := Nat.gcd_pos_of_pos_right _ (by omega)
  generalize hgg : Nat.gcd (vl_t P).natAbs (vl_q P) = g at g1 g2 hgp ⊢
  obtain ⟨q', hq'⟩ := g2
  have g3 : (g : Int) ∣ vl_t P := Int.ofNat_dvd_left.mpr g1
  obtain ⟨t', ht'⟩ := g3
  rcases Nat.lt_or_ge 1 g with c | c
  · exfalso
    have hq0 : 0 < q' := by
      rcases Nat.eq_zero_or_pos q' with z | z
      · rw [z, Nat.mul_zero] at hq'; omega
      · exact z
    have hlt : q' < vl_q P := by
      rw [hq']
      calc q' = 1 * q' := (Nat.one_mul _).symm
        _ < g * q' := Nat.mul_lt_mul_of_pos_right c hq0
    have e2 : P * (q' : Int) = 420 * t' := by
      have e3 : (g : Int) * (P * (q' : Int)) = (g : Int) * (420 * t') := by
        have e4 : (vl_q P : Int) = (g : Int) * (q' : Int) := by rw [← Int.natCast_mul, ← hq']
        rw [ht', e4] at e
        have a1 : (g : Int) * (P * (q' : Int)) = P * ((g : Int) * (q' : Int)) := by rw [← Int.mul_assoc, Int.mul_comm (g : Int) P, Int.mul_assoc]
        have a2 : (g : Int) * (420 * t') = (g : Int) * t' * 420 := by rw [Int.mul_comm 420 t', Int.mul_assoc]
        rw [a1, a2, e]
      exact Int.eq_of_mul_eq_mul_left (by omega) e3
    exact vl_q_min hq0 hlt (by rw [e2]; omega)
  · omega
theorem cop_uniq {p p0 : Int} {q q0 : Nat} (hq : 0 < q) (h0 : 0 < q0) (h1 : Nat.gcd p.natAbs q = 1) (h2 : Nat.gcd p0.natAbs q0 = 1) (h : p * (q0 : Int) = p0 * (q : Int)) : p = p0 ∧ q = q0 := by
  have hn : p.natAbs * q0 = p0.natAbs * q := by
    have := congrArg Int.natAbs h
    rw [Int.natAbs_mul, Int.natAbs_mul] at this
    simpa using this
  have d1 : q ∣ q0 := Nat.Coprime.dvd_of_dvd_mul_left (Nat.Coprime.symm h1) ⟨p0.natAbs, by rw [hn, Nat.mul_comm]⟩
  have d2 : q0 ∣ q := Nat.Coprime.dvd_of_dvd_mul_left (Nat.Coprime.symm h2) ⟨p.natAbs, by rw [← hn, Nat.mul_comm]⟩
  have e : q = q0 := Nat.dvd_antisymm d1 d2
  refine ⟨?_, e⟩
  subst e
  exact Int.eq_of_mul_eq_mul_right (by omega) h
/-- what is known of the fraction that is sought -/
def nr_H (n : Nat) (V st : Int) (p0 : Int) (q0 : Nat) : Prop :=
  1 ≤ q0 ∧ q0 ≤ n ∧ -(9 * (q0 : Int)) ≤ p0 ∧ p0 ≤ 9 * (q0 : Int) ∧ Nat.gcd p0.natAbs q0 = 1 ∧
  ∀ (p : Int) (q : Nat), 1 ≤ q → q ≤ n → Nat.gcd p.natAbs q = 1 → ¬ (p = p0 ∧ q = q0) → ((p0 * st - V * (q0 : Int)).natAbs : Int) * (q : Int) < ((p * st - V * (q : Int)).natAbs : Int) * (q0 : Int)
def nr_seen (p0 : Int) (q0 : Nat) (p : Int) (q : Nat) : Prop := q0 < q ∨ (q0 = q ∧ p0 < p)
/-- what the search keeps -/
def nr_S (n : Nat) (V st p0 : Int) (q0 : Nat) (p : Int) (q : Nat) (sm A B : Int32) (best : Int) : Prop :=
  (sm = 0 ∧ ¬ nr_seen p0 q0 p q) ∨ (sm = 1 ∧ ∃ (pb : Int) (qb : Nat), 1 ≤ qb ∧ qb ≤ n ∧ Nat.gcd pb.natAbs qb = 1 ∧ A.toInt = pb ∧ B = nI qb ∧ best = ((pb * st - V * (qb : Int)).natAbs : Int) ∧ -(9 * (qb : Int)) ≤ pb ∧ pb ≤ 9 * (qb : Int) ∧ (nr_seen p0 q0 p q → pb = p0 ∧ qb = q0))
theorem nr_first {n : Nat} {V st p0 : Int} {q0 : Nat} (h : nr_H n V st p0 q0) {A B : Int32} {best : Int} : nr_S n V st p0 q0 (-(9 * ((1 : Nat) : Int))) 1 0 A B best := by
  refine Or.inl ⟨rfl, ?_⟩
  obtain ⟨h1, h2, h3, h4, -⟩ := h
  rintro (c | ⟨c, d⟩)
  · omega
  · subst c; omega
theorem nr_row {n : Nat} {V st p0 : Int} {q0 : Nat} (h : nr_H n V st p0 q0) {p : Int} {q : Nat} {sm A B : Int32} {best : Int} (hs : nr_S n V st p0 q0 p q sm A B best) (hp : 9 * (q : Int) < p) : nr_S n V st p0 q0 (-(9 * ((q + 1 : Nat) : Int))) (q + 1) sm A B best := by
  obtain ⟨h1, h2, h3, h4, -⟩ := h
  have key : nr_seen p0 q0 (-(9 * ((q + 1 : Nat) : Int))) (q + 1) → nr_seen p0 q0 p q := by
    rintro (c | ⟨c, d⟩)
    · rcases Nat.lt_or_ge q0 q with c2 | c2
      · exact Or.inl c2
      · have : q0 = q := by omega
        subst this
        exact Or.inr ⟨rfl, by omega⟩
    · subst c; omega
  rcases hs with ⟨e, g⟩ | ⟨e, pb, qb, b1, b2, b3, b4, b5, b6, b7, b8, b9⟩
  · exact Or.inl ⟨e, fun q => g (key q)⟩
  · exact Or.inr ⟨e, pb, qb, b1, b2, b3, b4, b5, b6, b7, b8, fun q => b9 (key q)⟩
theorem nr_next {p0 p : Int} {q0 q : Nat} (h : nr_seen p0 q0 (p + 1) q) : nr_seen p0 q0 p q ∨ (p = p0 ∧ q = q0) := by
  rcases h with c | ⟨c, d⟩
  · exact Or.inl (Or.inl c)
  · rcases (show p0 < p ∨ p = p0 by omega) with e | e
    · exact Or.inl (Or.inr ⟨c, e⟩)
    · exact Or.inr ⟨e, c.symm⟩
theorem nr_skip {n : Nat} {V st p0 : Int} {q0 : Nat} (h : nr_H n V st p0 q0) {p : Int} {q : Nat} {sm A B : Int32} {best : Int} (hs : nr_S n V st p0 q0 p q sm A B best) (hg : ¬ Nat.gcd p.natAbs q = 1) : nr_S n V st p0 q0 (p + 1) q sm A B best := by
  obtain ⟨h1, h2, h3, h4, h5, -⟩ := h
  have key : nr_seen p0 q0 (p + 1) q → nr_seen p0 q0 p q := fun c => (nr_next c).elim id (fun ⟨e1, e2⟩ => absurd h5 (by rw [← e1, ← e2]; exact hg))
  rcases hs with ⟨e, g⟩ | ⟨e, pb, qb, b1, b2, b3, b4, b5, b6, b7, b8, b9⟩
  · exact Or.inl ⟨e, fun q => g (key q)⟩
  · exact Or.inr ⟨e, pb, qb, b1, b2, b3, b4, b5, b6, b7, b8, fun q => b9 (key q)⟩
theorem nr_take {n : Nat} {V st p0 : Int} {q0 : Nat} (h : nr_H n V st p0 q0) {p : Int} {q : Nat} {sm A B A' B' : Int32} {best off : Int} (hs : nr_S n V st p0 q0 p q sm A B best) (hg : Nat.gcd p.natAbs q = 1) (hq1 : 1 ≤ q) (hqn : q ≤ n) (hn : n ≤ 7) (hp1 : -(9 * (q : Int)) ≤ p) (hp2 : p ≤ 9 * (q : Int)) (hA : A'.toInt = p) (hB : B' = nI q) (ho : off = ((p * st - V * (q : Int)).natAbs : Int))
    (ht : sm = 0 ∨ off * B.toInt < best * (q : Int)) : nr_S n V st p0 q0 (p + 1) q 1 A' B' off := by
  refine Or.inr ⟨rfl, p, q, hq1, hqn, hg, hA, hB, ho, hp1, hp2, fun hsn => ?_⟩
  rcases nr_next hsn with c | c
  · exfalso
    rcases hs with ⟨-, g⟩ | ⟨e, pb, qb, b1, b2, b3, b4, b5, b6, b7, b8, b9⟩
    · exact g c
    · obtain ⟨rfl, rfl⟩ := b9 c
      have ht2 := ht.resolve_left (fun q => by rw [q] at e; exact absurd e (by decide))
      rw [b5, nI_toInt (by omega), b6, ho] at ht2
      by_cases hee : p = pb ∧ q = qb
      · obtain ⟨rfl, rfl⟩ := hee; exact Int.lt_irrefl _ ht2
      · exact Int.lt_asymm ht2 (h.2.2.2.2.2 p q hq1 hqn hg hee)
  · exact c
theorem nr_keep {n : Nat} {V st p0 : Int} {q0 : Nat} (h : nr_H n V st p0 q0) {p : Int} {q : Nat} {sm A B : Int32} {best off : Int} (hs : nr_S n V st p0 q0 p q sm A B best) (hn : n ≤ 7) (ho : off = ((p * st - V * (q : Int)).natAbs : Int))
    (hsm : ¬ sm = 0) (ht : ¬ off * B.toInt < best * (q : Int)) : nr_S n V st p0 q0 (p + 1) q sm A B best := by
  rcases hs with ⟨e, -⟩ | ⟨e, pb, qb, b1, b2, b3, b4, b5, b6, b7, b8, b9⟩
  · exact absurd e hsm
  · refine Or.inr ⟨e, pb, qb, b1, b2, b3, b4, b5, b6, b7, b8, fun hsn => ?_⟩
    rcases nr_next hsn with c | ⟨rfl, rfl⟩
    · exact b9 c
    · by_cases hee : pb = p ∧ qb = q
      · exact hee
      · exfalso
        have := h.2.2.2.2.2 pb qb b1 b2 b3 hee
        rw [b5, nI_toInt (by omega), b6, ho] at ht
        exact ht this
theorem nr_bd {n : Nat} {V st p0 : Int} {q0 : Nat} {p : Int} {q : Nat} {sm A B : Int32} {best : Int} (hs : nr_S n V st p0 q0 p q sm A B best) (hn : n ≤ 7) (hst : 0 ≤ st ∧ st ≤ 12349) (hV : -111141 ≤ V ∧ V ≤ 111141) (hsm : ¬ sm = 0) : (1 ≤ B.toInt ∧ B.toInt ≤ 7) ∧ 0 ≤ best ∧ best ≤ 1555974 := by
  rcases hs with ⟨e, -⟩ | ⟨e, pb, qb, b1, b2, b3, b4, b5, b6, b7, b8, b9⟩
  · exact absurd e hsm
  · rw [b5, nI_toInt (by omega), b6]
    have m1 := ab_mul (a := pb) (b := st) (A := 63) (B := 12349) (by omega) (by omega) (by omega) (by omega)
    have m2 := ab_mul (a := V) (b := (qb : Int)) (A := 111141) (B := 7) (by omega) (by omega) (by omega) (by omega)
    omega
theorem nr_last {n : Nat} {V st p0 : Int} {q0 : Nat} (h : nr_H n V st p0 q0) {p : Int} {q : Nat} {sm A B : Int32} {best : Int} (hs : nr_S n V st p0 q0 p q sm A B best) (hq : n < q) : A.toInt = p0 ∧ B = nI q0 := by
  have hsn : nr_seen p0 q0 p q := Or.inl (by have := h.2.1; omega)
  rcases hs with ⟨-, g⟩ | ⟨e, pb, qb, b1, b2, b3, b4, b5, b6, b7, b8, b9⟩
  · exact absurd hsn g
  · obtain ⟨e1, e2⟩ := b9 hsn
    exact ⟨b4.trans e1, by rw [b5, e2]⟩
abbrev viM (G : gr_T) (k : Nat) (v : Nat) : Int := gm_vi (gr_adj G) (gr_tgt G) (gr_ow G) (gr_w G) k v
theorem gr_W {G : gr_T} (hg : gf_ok G) : ∀ v, v < gr_n G → ∀ e ∈ gr_adj G v, -9 ≤ gr_w G e ∧ gr_w G e ≤ 9 := fun v hv e he => by
  have h1 := (gr_adj_mem hg hv he).1
  have h2 := (hg.ed e h1).2.2
  rw [gr_w_eq h1]
  exact h2
theorem viM_bd {G : gr_T} (hg : gf_ok G) (hc : gr_cpl G) {k v : Nat} (hk : k ≤ 100000) (hv : v < gr_n G) : -(9 * (k : Int)) ≤ viM G k v ∧ viM G k v ≤ 9 * (k : Int) := gm_vi_bd hc.2 (gr_tgts hg) (gr_W hg) k hk v hv
theorem nr_mk {G : gr_T} (hg : gf_ok G) (hc : gr_cpl G) {j st : Nat} (hj : j < gr_n G) (hst : st = 36 * gr_n G * gr_n G * gr_n G + 1) : nr_H (gr_n G) (viM G st j) (st : Int) (vl_t (vl_F G j)) (vl_q (vl_F G j)) := by
  have hdv := vl_F_dv hg hc hj
  have hbd := vl_F_bd hg hc hj
  have hq := vl_q_bd (vl_F G j)
  have e := vl_tq hdv
  have hqn : vl_q (vl_F G j) ≤ gr_n G := by
    obtain ⟨d, x, h1, h2, h3, h4, h5⟩ := gm_pay_form (ow := gr_ow G) hg.1 hc.2 (gr_tgts hg) (gr_W hg) 8 [] j 0 (by simp) gm_ok_nil hj gm_near_nil
    have h7 := hg.1
    have : vl_F G j * (d : Int) % 420 = 0 := by
      show gm_pay (gr_adj G) (gr_tgt G) (gr_ow G) (gr_w G) 8 [] j 0 * (d : Int) % 420 = 0
      rw [h5]
      rcases (show d = 1 ∨ d = 2 ∨ d = 3 ∨ d = 4 ∨ d = 5 ∨ d = 6 ∨ d = 7 by omega) with rfl | rfl | rfl | rfl | rfl | rfl | rfl <;> simp only [Nat.reduceDiv] <;> omega
    have := vl_q_le h1 this
    omega
  have hm := ab_mul (a := vl_F G j) (b := (vl_q (vl_F G j) : Int)) (A := 3780) (B := (vl_q (vl_F G j) : Int)) (by omega) (by omega) (by omega) (by omega)
  refine ⟨hq.1, hqn, by omega, by omega, vl_cop hdv, fun p q h1 h2 h3 h4 => ?_⟩
  have hk : st ≤ 100000 := by have := st_bd hg.1; omega
  have hv := gm_vi_near (ow := gr_ow G) hg.1 hc.2 (gr_tgts hg) (gr_W hg) hk hj
  exact gm_nearest hc.1 hst hv.1 hv.2 hq.1 hqn (by show vl_F G j * _ = _; rw [← e, Int.mul_comm]) h1 h2 (fun q9 => h4 (cop_uniq (by omega) (by omega) h3 (vl_cop hdv) q9))
/-- what findValues leaves -/
def fv_P (G : gr_T) (d d' : mT) : Prop := kx [0, 6, 7] d.1 d'.1 ∧ (∀ j, j ≠ 3 → d'.1 0 j = d.1 0 j) ∧ d'.1 0 3 = 1 ∧ ∀ v, v < gr_n G → (d'.1 6 v).toInt = vl_t (vl_F G v) ∧ d'.1 7 v = nI (vl_q (vl_F G v))
theorem fv_mi {G : gr_T} {d d' : mT} (h : fv_P G d d') (hm : mi G d) : mi G d' := mi_eq hm (h.2.1 1 (by omega)) (h.2.1 2 (by omega)) (fun k h1 h2 => h.1 k (by simp; omega))
theorem fv_mci {G : gr_T} {d d' : mT} (h : fv_P G d d') (hm : mi G d) (hc : gr_cpl G) : mci G d' := ⟨fv_mi h hm, Or.inr ⟨h.2.2.1, hc, h.2.2.2⟩⟩
/-- the longs alone change -/
def kl (d d' : mT) : Prop := d'.1 = d.1
theorem kl_mi {G : gr_T} {d d' : mT} (h : kl d d') (hm : mi G d) : mi G d' := mi_eq hm (by rw [h]) (by rw [h]) (fun k _ _ => by rw [h])
/-- one vertex's moves so far -/
def vd_P (L : List Nat) (f : Nat → Int) (mx : Bool) (sm : Int32) (got : Int) : Prop := (L = [] ∧ sm = 0) ∨ (L ≠ [] ∧ sm = 1 ∧ got = if mx = true then gm_mx (L.map f) else gm_mn (L.map f))
theorem vd_take {L : List Nat} {f : Nat → Int} {mx : Bool} {sm : Int32} {got c : Int} {x : Nat} (h : vd_P L f mx sm got) (hc : c = f x) (h0 : -1000000 ≤ c) (h1 : c ≤ 1000000) (ht : sm = 0 ∨ ((mx = true → got < c) ∧ (mx = false → c < got))) : vd_P (L ++ [x]) f mx 1 c := by
  refine Or.inr ⟨by simp, rfl, ?_⟩
  rw [List.map_append, List.map_singleton, gm_mn_app, gm_mx_app, ← hc]
  rcases h with ⟨rfl, hg⟩ | ⟨hn, hp, hg⟩
  · cases mx <;> simp [gm_mn, gm_mx] <;> omega
  · have h2 := ht.resolve_left (fun q => by rw [q] at hp; exact absurd hp (by decide))
    cases mx
    · have := h2.2 rfl; simp at hg ⊢; omega
    · have := h2.1 rfl; simp at hg ⊢; omega
theorem vd_keep {L : List Nat} {f : Nat → Int} {mx : Bool} {sm : Int32} {got c : Int} {x : Nat} (h : vd_P L f mx sm got) (hc : c = f x) (h0 : -1000000 ≤ c) (h1 : c ≤ 1000000) (hs : ¬ sm = 0) (ht : (mx = true → c ≤ got) ∧ (mx = false → got ≤ c)) : vd_P (L ++ [x]) f mx 1 got := by
  rcases h with ⟨rfl, hg⟩ | ⟨hn, hp, hg⟩
  · exact absurd hg hs
  · refine Or.inr ⟨by simp, rfl, ?_⟩
    rw [List.map_append, List.map_singleton, gm_mn_app, gm_mx_app, ← hc]
    cases mx
    · have := ht.2 rfl; simp at hg ⊢; omega
    · have := ht.1 rfl; simp at hg ⊢; omega
theorem vd_end {G : gr_T} (hg : gf_ok G) {j k : Nat} (hj : j < gr_n G) (hne : gr_adj G j ≠ []) {mx : Bool} {sm : Int32} {got : Int} (ho : gr_ow G j = mx) (h : vd_P (nd_L G j (gr_E G)) (fun e => gr_w G e + viM G k (gr_tgt G e)) mx sm got) : got = viM G (k + 1) j := by
  rcases h with ⟨he, -⟩ | ⟨-, -, hg2⟩
  · exfalso
    obtain ⟨x, hx⟩ := List.exists_mem_of_ne_nil _ hne
    have := (nd_mem hg hj).mpr hx
    rw [he] at this
    cases this
  · show got = gm_vi _ _ _ _ (k + 1) j
    unfold gm_vi
    rw [hg2, ho, gm_mn_set (gm_map_set (f := fun e => gr_w G e + viM G k (gr_tgt G e)) (fun a => nd_mem hg hj (x := a))), gm_mx_set (gm_map_set (f := fun e => gr_w G e + viM G k (gr_tgt G e)) (fun a => nd_mem hg hj (x := a)))]
theorem ow_t {G : gr_T} {j : Nat} (hj : j < gr_n G) (h : gr_own G j = 0) : gr_ow G j = true := by simp [gr_ow, gp_ow, hj, h]
theorem ow_f {G : gr_T} {j : Nat} (h : ¬ gr_own G j = 0) : gr_ow G j = false := by simp [gr_ow, gp_ow, h]
theorem wt_cr {G : gr_T} : wt_ok G 0 0 1 1 0 := by
  refine ⟨by decide, by decide, fun x hx => ?_⟩
  show (1 : Int32).toInt * _ - (0 : Int32).toInt = 1 * _ - 0
  rw [i_1, i_0]
theorem iw_X5_credit_X5 : ∀ w ∈ wsX50, w ∈ wsX5_credit := by decide +kernel
set_option maxHeartbeats 4000000 in
set_option maxRecDepth 100000 in
/--  -/
theorem cm_credit (l : Launch) (en : en_T) (bd : Nat → Nat) (d : mT) (hI : mw_I bd) (sz : Nat) {G : gr_T} (hc_ : mci G d) (v : Int32) : Met l yX5_credit wsX5_credit (rm_ 6 0 0) (ct_Pc en [.ref (bd 0), .int v] (fun H => H.size = sz ∧ va_P en.1 vwCl (mw en bd d) H)) (va_Qi (fun r d' => (¬ (∃ j, j < gr_n G ∧ v = nI j) ∧ d'.1 0 0 = 1 ∧ mci G d') ∨ ((∃ j, j < gr_n G ∧ v = nI j) ∧ ¬ gr_cpl G ∧ d'.1 0 0 = 2 ∧ mci G d') ∨ (gr_cpl G ∧ (∃ j, j < gr_n G ∧ v = nI j ∧ r.toInt = cr_f G 0 0 1 j) ∧ d'.1 0 0 = 0 ∧ mci G d')) (fun d' t => va_P en.1 vwCl (mw en bd d') t.heap) (mw_A bd sz)) 0 0 (mw_A bd sz) := by
  refine Met.ofW (cc := cX5_credit) (maxL := 2) (ret := (some .int)) (by decide) rfl ?_
  intro p e s m args below meth co s₁ B hml hv
  obtain ⟨rfl, hE, hsz, hP⟩ := hv
  subst hsz
  have hx := B.exec
  have hb := B.bytes
  have hr := B.returns
  have hts := atoms_spec (ws := wsX5_credit) B.pre
  have hown : s.vm.findClass RX5 = some m.cls := findClass_of_methodNamed B.named
  have hlocks := B.notSynchronized
  have hS : va_S (mw_A bd s.heap.size) s.heap s.heap [] := va_S.rf
  have hl := lv_entry ([.ref (bd 0), .int v]) (n := 2) (Nat.le_of_ble_eq_true rfl)
  rw [lg_entry_eq]
  generalize (lg_sl ([.ref (bd 0), .int v]) ++ List.replicate (2 - (lg_sl ([.ref (bd 0), .int v])).length) Slot.unset).toArray = ls at hl ⊢
  have hl : lv_has ls 2 [(0, .ref (bd 0)), (1, .int v)] := hl
  have hm := hc_.1
  have hn7 := hm.n7
  have he24 := hm.e24
  refine lv_aload_n hx hb dX5_credit_0 rfl (lv_at hl 0 rfl) ?_
  refine lv_iload_n hx hb dX5_credit_1 rfl (lv_at hl 1 rfl) ?_
  refine mr_calli (va_runV (As := [.int v]) (rest := []) ⟨hx, hb, hml, hown, hts⟩ (cm_refuses l en bd d hI _ hm v) (cwV 1 hts gX5_credit_X5_refuses rfl rfl rfl (by decide +kernel) ⟨Nat.le_of_ble_eq_true rfl, Nat.le_of_ble_eq_true rfl⟩) (ct_preV hE (va_recv hE.1 hP (ci := 5) (q0 := 0) rfl rfl) ⟨rfl, hP⟩) rfl rfl hl.1 rfl (lv_room (Nat.le_of_ble_eq_true rfl)) dX5_credit_2 ⟨Nat.le_of_ble_eq_true rfl, Nat.le_of_ble_eq_true rfl⟩) hS (fun r2 d2 H locs w2 hP hS => ?_)
  refine lv_if_eq (tgt := 10) hx hb dX5_credit_5 (by decide) (fun b5 => ?_) (fun b5 => ?_)
  · skip
    obtain ⟨-, ⟨j, hj, ej⟩, hcp, hth⟩ := (w2.resolve_left (fun q => absurd (q.1.symm.trans b5) (by decide))).resolve_left (fun q => absurd (q.1.symm.trans b5) (by decide))
    have hm1 := hth.mi hm
    refine lv_aload_n hx hb dX5_credit_10 rfl (lv_at hl 0 rfl) ?_
    refine lv_iconst (v := 1) hx hb dX5_credit_11 (by decide) ?_
    refine lv_iconst (v := 0) hx hb dX5_credit_12 (by decide) ?_
    refine lv_iconst (v := (nI 0)) hx hb dX5_credit_13 (by decide) ?_
    refine mr_callv (va_runV (As := [.int 1, .int 0, .int (nI 0)]) (rest := []) ⟨hx, hb, hml, hown, hts⟩ (cm_findNeeds l en bd d2 hI _ hm1 hcp 0 (by omega) 0 1 (by omega) (by omega) (by omega) (by omega) 1 0 wt_cr) (cwV 3 hts gX5_credit_X5_findNeeds rfl rfl rfl (by decide +kernel) ⟨Nat.le_of_ble_eq_true rfl, Nat.le_of_ble_eq_true rfl⟩) (ct_preV hE (va_recv hE.1 hP (ci := 5) (q0 := 0) rfl rfl) ⟨rfl, hP⟩) rfl rfl hl.1 rfl (lv_room (Nat.le_of_ble_eq_true rfl)) dX5_credit_14 ⟨Nat.le_of_ble_eq_true rfl, Nat.le_of_ble_eq_true rfl⟩) hS (fun d14 H locs w14 hP hS => ?_)
    have hcr := cr_f_eq w14.2.1 hj
    refine lv_aload_n hx hb dX5_credit_17 rfl (lv_at hl 0 rfl) ?_
    refine va_get (D := en.1) (ci := 5) (v := .ref (bd 10)) (C := RX5) (T := TX5) (N := 16) hx hb hts iw_X5_credit_X5 hown hE.1 hP 0 rfl rfl 13 (by decide) (hts (.fieldLink RX5 38 "CreditGameModel" "needs" "[I") (by decide +kernel)) (fun _ h9 => h9) rfl dX5_credit_18 ?_
    refine lv_iload_n hx hb dX5_credit_21 rfl (lv_at hl 1 rfl) ?_
    refine mr_ild hx hb hE hP 10 (by decide) j ej (show _ < 7 by omega) dX5_credit_22 ?_
    refine lv_ldc (own := RX5) (v := 1000000) hx hb hown (hts (.constant RX5 77 (1000000)) (by decide +kernel)) dX5_credit_23 ?_
    refine lv_icmp_ne (tgt := 32) hx hb dX5_credit_25 (by decide) (fun b25 => ?_) (fun b25 => ?_)
    · skip
      have hff : (d14.1 10 j).toInt = cr_f G 0 0 1 j := by
        rw [← hcr]
        exact (if_neg (fun q => b25 (i_eq (by rw [i_hi]; exact q)))).symm
      refine lv_aload_n hx hb dX5_credit_32 rfl (lv_at hl 0 rfl) ?_
      refine va_get (D := en.1) (ci := 5) (v := .ref (bd 10)) (C := RX5) (T := TX5) (N := 16) hx hb hts iw_X5_credit_X5 hown hE.1 hP 0 rfl rfl 13 (by decide) (hts (.fieldLink RX5 38 "CreditGameModel" "needs" "[I") (by decide +kernel)) (fun _ h9 => h9) rfl dX5_credit_33 ?_
      refine lv_iload_n hx hb dX5_credit_36 rfl (lv_at hl 1 rfl) ?_
      refine mr_ild hx hb hE hP 10 (by decide) j ej (show _ < 7 by omega) dX5_credit_37 ?_
      exact W.iret (v := (d14.1 10 j)) hx hb hr (fun t ht hW => ⟨⟨_, d14, rfl, (Or.inr (Or.inr ⟨hcp, ⟨j, hj, ej, hff⟩, by rw [w14.1.1 0 (by decide)]; exact hth.thr, w14.1.mci (hth.mci hc_) (by decide)⟩)), by show va_P _ _ _ t.heap; rw [ht]; exact hP⟩, hS.F ht⟩) hS.2.2 dX5_credit_38
    · skip
      have hff : (-1 : Int32).toInt = cr_f G 0 0 1 j := by
        rw [← hcr, i_m1]
        exact (if_pos (by show (d14.1 10 j).toInt = _; rw [b25, i_hi])).symm
      refine lv_iconst (v := (-1)) hx hb dX5_credit_28 (by decide) ?_
      refine lv_goto (tgt := 38) hx hb dX5_credit_29 (by decide) ?_
      exact W.iret (v := (-1)) hx hb hr (fun t ht hW => ⟨⟨_, d14, rfl, (Or.inr (Or.inr ⟨hcp, ⟨j, hj, ej, hff⟩, by rw [w14.1.1 0 (by decide)]; exact hth.thr, w14.1.mci (hth.mci hc_) (by decide)⟩)), by show va_P _ _ _ t.heap; rw [ht]; exact hP⟩, hS.F ht⟩) hS.2.2 dX5_credit_38
  · skip
    have hrf : (¬ (∃ j, j < gr_n G ∧ v = nI j) ∧ d2.1 0 0 = 1 ∧ mci G d2) ∨ ((∃ j, j < gr_n G ∧ v = nI j) ∧ ¬ gr_cpl G ∧ d2.1 0 0 = 2 ∧ mci G d2) := by
      rcases w2 with q | q | q
      · exact Or.inl ⟨q.2.1, q.2.2.thr, q.2.2.mci hc_⟩
      · exact Or.inr ⟨q.2.1, q.2.2.1, q.2.2.2.thr, q.2.2.2.mci hc_⟩
      · exact absurd q.1 b5
    skip
    refine lv_iconst (v := 0) hx hb dX5_credit_8 (by decide) ?_
    exact W.iret (v := 0) hx hb hr (fun t ht hW => ⟨⟨_, d2, rfl, (hrf.elim Or.inl (fun q => Or.inr (Or.inl q))), by show va_P _ _ _ t.heap; rw [ht]; exact hP⟩, hS.F ht⟩) hS.2.2 dX5_credit_9
theorem iw_X5_nearest_X5 : ∀ w ∈ wsX50, w ∈ wsX5_nearest := by decide +kernel
set_option maxHeartbeats 4000000 in
set_option maxRecDepth 100000 in
/--  -/
theorem cm_nearest (l : Launch) (en : en_T) (bd : Nat → Nat) (d : mT) (hI : mw_I bd) (sz : Nat) {G : gr_T} (hm : mi G d) (hc : gr_cpl G) (j : Nat) (hj : j < gr_n G) (st : Nat) (hst : st = 36 * gr_n G * gr_n G * gr_n G + 1) (hnow : (d.2 8 j).toInt = viM G st j) : Met l yX5_nearest wsX5_nearest (rm_ 2 0 0) (ct_Pc en [.ref (bd 0), .int (nI j), .long (lN st), .int (nI (gr_n G))] (fun H => H.size = sz ∧ va_P en.1 vwCl (mw en bd d) H)) (va_Qv (fun d' => (d'.2 = d.2 ∧ kx [6, 7] d.1 d'.1 ∧ ∀ u, u ≠ j → d'.1 6 u = d.1 6 u ∧ d'.1 7 u = d.1 7 u) ∧ (d'.1 6 j).toInt = vl_t (vl_F G j) ∧ d'.1 7 j = nI (vl_q (vl_F G j))) (fun d' t => va_P en.1 vwCl (mw en bd d') t.heap) (mw_A bd sz)) 0 0 (mw_A bd sz) := by
  refine Met.ofW (cc := cX5_nearest) (maxL := 12) (ret := none) (by decide) rfl ?_
  intro p e s m args below meth co s₁ B hml hv
  obtain ⟨rfl, hE, hsz, hP⟩ := hv
  subst hsz
  have hx := B.exec
  have hb := B.bytes
  have hr := B.returns
  have hts := atoms_spec (ws := wsX5_nearest) B.pre
  have hown : s.vm.findClass RX5 = some m.cls := findClass_of_methodNamed B.named
  have hlocks := B.notSynchronized
  have hS : va_S (mw_A bd s.heap.size) s.heap s.heap [] := va_S.rf
  have hl := lv_entry ([.ref (bd 0), .int (nI j), .long (lN st), .int (nI (gr_n G))]) (n := 12) (Nat.le_of_ble_eq_true rfl)
  rw [lg_entry_eq]
  generalize (lg_sl ([.ref (bd 0), .int (nI j), .long (lN st), .int (nI (gr_n G))]) ++ List.replicate (12 - (lg_sl ([.ref (bd 0), .int (nI j), .long (lN st), .int (nI (gr_n G))])).length) Slot.unset).toArray = ls at hl ⊢
  have hl : lv_has ls 12 [(0, .ref (bd 0)), (1, .int (nI j)), (2, .long (lN st)), (4, .int (nI (gr_n G)))] := hl
  have hn7 := hm.n7
  have hH := nr_mk hm.1 hc hj hst
  have hsb : st ≤ 12349 := by rw [hst]; exact st_bd hn7
  have hV := viM_bd hm.1 hc (k := st) (by omega) hj
  have hsl : (lN st).toInt = (st : Int) := lN_toInt (by omega)
  refine lv_lconst (v := 0) hx hb dX5_nearest_0 (by decide) ?_
  refine lv_lstore (lv' := [(5, .long 0), (0, .ref (bd 0)), (1, .int (nI j)), (2, .long (lN st)), (4, .int (nI (gr_n G)))]) hx hb dX5_nearest_1 hl (by decide) rfl (fun ls hl => ?_)
  refine lv_iconst (v := 0) hx hb dX5_nearest_3 (by decide) ?_
  refine lv_istore (lv' := [(7, .int 0), (5, .long 0), (0, .ref (bd 0)), (1, .int (nI j)), (2, .long (lN st)), (4, .int (nI (gr_n G)))]) hx hb dX5_nearest_4 hl (by decide) rfl (fun ls hl => ?_)
  refine lv_iconst (v := (nI 1)) hx hb dX5_nearest_6 (by decide) ?_
  refine lv_istore (lv' := [(8, .int (nI 1)), (7, .int 0), (5, .long 0), (0, .ref (bd 0)), (1, .int (nI j)), (2, .long (lN st)), (4, .int (nI (gr_n G)))]) hx hb dX5_nearest_7 hl (by decide) rfl (fun ls hl => ?_)
  have key9 : ∀ (n_ : Nat) (q : Nat) (sm : Int32) (bs : Int64) (d_ : mT) (H : Heap) (locs : List Loc) (ls : Array Slot), 1 ≤ q → q ≤ gr_n G + 1 → gr_n G + 2 ≤ q + n_ → (d_.2 = d.2 ∧ kx [6, 7] d.1 d_.1 ∧ ∀ u, u ≠ j → d_.1 6 u = d.1 6 u ∧ d_.1 7 u = d.1 7 u) → nr_S (gr_n G) (viM G st j) (st : Int) (vl_t (vl_F G j)) (vl_q (vl_F G j)) (-(9 * (q : Int))) q sm (d_.1 6 j) (d_.1 7 j) bs.toInt → va_P en.1 vwCl (mw en bd d_) H → va_S (mw_A bd s.heap.size) s.heap H locs → lv_has ls 12 [(0, .ref (bd 0)), (1, .int (nI j)), (2, .long (lN st)), (4, .int (nI (gr_n G))), (5, .long bs), (7, .int sm), (8, .int (nI q))] → W p l e (headSpec wsX5_nearest (rm_ 2 0 0)).room s m ([.ref (bd 0), .int (nI j), .long (lN st), .int (nI (gr_n G))] : List Value).toArray below meth co H locs 0 0 (MQ below (va_Qv (fun d' => (d'.2 = d.2 ∧ kx [6, 7] d.1 d'.1 ∧ ∀ u, u ≠ j → d'.1 6 u = d.1 6 u ∧ d'.1 7 u = d.1 7 u) ∧ (d'.1 6 j).toInt = vl_t (vl_F G j) ∧ d'.1 7 j = nI (vl_q (vl_F G j))) (fun d' t => va_P en.1 vwCl (mw en bd d') t.heap) (mw_A bd s.heap.size)) ([.ref (bd 0), .int (nI j), .long (lN st), .int (nI (gr_n G))] : List Value).toArray s 0 0 (mw_A bd s.heap.size)) (F0 m 9 ls []) := by
    intro n_
    induction n_ with
    | zero =>
      intro q sm bs d_ H locs ls hq1 hq8 hin hk_ hs_ hP hS hl
      omega
    | succ n_ ih9 =>
      intro q sm bs d_ H locs ls hq1 hq8 hin hk_ hs_ hP hS hl
      refine lv_iload hx hb dX5_nearest_9 (lv_at hl 6 rfl) ?_
      refine lv_iload hx hb dX5_nearest_11 (lv_at hl 3 rfl) ?_
      refine lv_icmp_gt (tgt := 156) hx hb dX5_nearest_13 (by decide) (fun b13 => ?_) (fun b13 => ?_)
      · skip
        have hin9 : gr_n G < q := by
          rcases Nat.lt_or_ge (gr_n G) q with q9 | q9
          · exact q9
          · exact absurd (nI_le q9 (by omega)) (fun h => absurd b13 (Int32.not_lt.mpr h))
        exact W.vret hx hb hr (fun t ht hW => ⟨⟨d_, rfl, ⟨hk_, nr_last hH hs_ hin9⟩, by show va_P _ _ _ t.heap; rw [ht]; exact hP⟩, hS.F ht⟩) hS.2.2 dX5_nearest_156
      · skip
        have hqn : q ≤ gr_n G := by
          rcases Nat.lt_or_ge (gr_n G) q with q9 | q9
          · exact absurd (nI_lt q9 (by omega)) b13
          · exact q9
        refine lv_bipush (v := (-9)) hx hb dX5_nearest_16 (by decide) ?_
        refine lv_iload hx hb dX5_nearest_18 (lv_at hl 6 rfl) ?_
        refine lv_imul hx hb dX5_nearest_20 ?_
        refine lv_topi (fun m9 hm9_ => ?_)
        have hm9 : m9.toInt = -(9 * (q : Int)) := by
          have h9 : (-9 : Int32).toInt = -9 := by decide
          rw [hm9_, i_mul (by rw [nI_toInt (by omega), h9]; omega) (by rw [nI_toInt (by omega), h9]; omega), nI_toInt (by omega), h9]; omega
        refine lv_istore (lv' := [(9, .int m9), (0, .ref (bd 0)), (1, .int (nI j)), (2, .long (lN st)), (4, .int (nI (gr_n G))), (5, .long bs), (7, .int sm), (8, .int (nI q))]) hx hb dX5_nearest_21 hl (by decide) rfl (fun ls hl => ?_)
        have key23 : ∀ (n_ : Nat) (pI sm2 : Int32) (bs2 : Int64) (e_ : mT) (H : Heap) (locs : List Loc) (ls : Array Slot), -(9 * (q : Int)) ≤ pI.toInt → pI.toInt ≤ 9 * (q : Int) + 1 → 9 * (q : Int) + 2 ≤ pI.toInt + (n_ : Int) → (e_.2 = d.2 ∧ kx [6, 7] d.1 e_.1 ∧ ∀ u, u ≠ j → e_.1 6 u = d.1 6 u ∧ e_.1 7 u = d.1 7 u) → nr_S (gr_n G) (viM G st j) (st : Int) (vl_t (vl_F G j)) (vl_q (vl_F G j)) pI.toInt q sm2 (e_.1 6 j) (e_.1 7 j) bs2.toInt → va_P en.1 vwCl (mw en bd e_) H → va_S (mw_A bd s.heap.size) s.heap H locs → lv_has ls 12 [(0, .ref (bd 0)), (1, .int (nI j)), (2, .long (lN st)), (4, .int (nI (gr_n G))), (5, .long bs2), (7, .int sm2), (8, .int (nI q)), (9, .int pI)] → W p l e (headSpec wsX5_nearest (rm_ 2 0 0)).room s m ([.ref (bd 0), .int (nI j), .long (lN st), .int (nI (gr_n G))] : List Value).toArray below meth co H locs 0 0 (MQ below (va_Qv (fun d' => (d'.2 = d.2 ∧ kx [6, 7] d.1 d'.1 ∧ ∀ u, u ≠ j → d'.1 6 u = d.1 6 u ∧ d'.1 7 u = d.1 7 u) ∧ (d'.1 6 j).toInt = vl_t (vl_F G j) ∧ d'.1 7 j = nI (vl_q (vl_F G j))) (fun d' t => va_P en.1 vwCl (mw en bd d') t.heap) (mw_A bd s.heap.size)) ([.ref (bd 0), .int (nI j), .long (lN st), .int (nI (gr_n G))] : List Value).toArray s 0 0 (mw_A bd s.heap.size)) (F0 m 23 ls []) := by
          intro n_
          induction n_ with
          | zero =>
            intro pI sm2 bs2 e_ H locs ls hlo hhi hin2 hk2 hs2 hP hS hl
            exact absurd hin2 (by omega)
          | succ n_ ih23 =>
            intro pI sm2 bs2 e_ H locs ls hlo hhi hin2 hk2 hs2 hP hS hl
            have hqi : (nI q).toInt = (q : Int) := nI_toInt (by omega)
            have h9q : ((9 : Int32) * nI q).toInt = 9 * (q : Int) := by
              have h9 : (9 : Int32).toInt = 9 := by decide
              rw [i_mul (by rw [hqi, h9]; omega) (by rw [hqi, h9]; omega), hqi, h9]
            have hnw : (e_.2 8 j).toInt = viM G st j := by rw [hk2.1]; exact hnow
            refine lv_iload hx hb dX5_nearest_23 (lv_at hl 7 rfl) ?_
            refine lv_bipush (v := 9) hx hb dX5_nearest_25 (by decide) ?_
            refine lv_iload hx hb dX5_nearest_27 (lv_at hl 6 rfl) ?_
            refine lv_imul hx hb dX5_nearest_29 ?_
            refine lv_icmp_gt (tgt := 150) hx hb dX5_nearest_30 (by decide) (fun b30 => ?_) (fun b30 => ?_)
            · skip
              have q30 := i_lt.mp b30
              rw [h9q] at q30
              refine lv_iinc (v := (nI (q + 1))) (lv' := [(8, .int (nI (q + 1))), (0, .ref (bd 0)), (1, .int (nI j)), (2, .long (lN st)), (4, .int (nI (gr_n G))), (5, .long bs2), (7, .int sm2), (9, .int pI)]) hx hb dX5_nearest_150 hl (k := 6) rfl (nI_1 _) (by decide) rfl (fun ls hl => ?_)
              refine lv_goto (tgt := 9) hx hb dX5_nearest_153 (by decide) ?_
              exact ih9 (q + 1) sm2 bs2 e_ _ _ _ (by omega) (by omega) (by omega) hk2 (nr_row hH hs2 q30) hP hS (lv_sub hl [1, 2, 3, 4, 5, 6, 0] rfl)
            · skip
              have q30 : ¬ _ := fun q => b30 (i_lt.mpr q)
              rw [h9q] at q30
              have q30 : pI.toInt ≤ 9 * (q : Int) := by omega
              have hp1 : (pI + 1).toInt = pI.toInt + 1 := by rw [i_add (by rw [i_1]; omega) (by rw [i_1]; omega), i_1]
              refine lv_iload hx hb dX5_nearest_33 (lv_at hl 7 rfl) ?_
              refine lv_if_ge (tgt := 44) hx hb dX5_nearest_35 (by decide) (fun b35 => ?_) (fun b35 => ?_)
              · skip
                skip
                have q35 := i_le.mp b35
                rw [i_0] at q35
                obtain ⟨a, ha, ea⟩ : ∃ a : Nat, a ≤ 63 ∧ pI = nI a := ⟨pI.toInt.toNat, by omega, i_eq (by rw [nI_toInt (by omega)]; omega)⟩
                have hab : pI.toInt.natAbs = a := by rw [ea, nI_toInt (by omega)]; rfl
                refine lv_iload hx hb dX5_nearest_44 (lv_at hl 7 rfl) ?_
                refine lv_topi (fun z_46 ez_46 => ?_)
                obtain rfl : z_46 = nI a := ez_46.trans ea
                refine lv_iload hx hb dX5_nearest_46 (lv_at hl 6 rfl) ?_
                refine ro_calli (va_runS (As := [.int (nI a), .int (nI q)]) (rest := []) ⟨hx, hb, hml, hown, hts⟩ (cm_common l en bd d a q (by omega) (by omega)) (va_cwS 2 hts gX5_nearest_X5_common rfl rfl rfl (by decide +kernel) ⟨Nat.le_of_ble_eq_true rfl, Nat.le_of_ble_eq_true rfl⟩) (ct_preS hE trivial) rfl rfl hl.1 rfl (lv_room (Nat.le_of_ble_eq_true rfl)) dX5_nearest_48 ⟨Nat.le_of_ble_eq_true rfl, Nat.le_of_ble_eq_true rfl⟩) (fun r48 w48 => ?_)
                refine lv_iconst (v := 1) hx hb dX5_nearest_51 (by decide) ?_
                refine lv_icmp_eq (tgt := 58) hx hb dX5_nearest_52 (by decide) (fun b52 => ?_) (fun b52 => ?_)
                · skip
                  have hg1 : Nat.gcd pI.toInt.natAbs q = 1 := by rw [hab]; exact (nI_eq (a := Nat.gcd a q) (b := 1) (by have := Nat.gcd_le_right (n := q) a (by omega); omega) (by omega)).mp (w48.symm.trans b52)
                  refine lv_iload hx hb dX5_nearest_58 (lv_at hl 7 rfl) ?_
                  refine lv_i2l (v := pI.toInt64) hx hb dX5_nearest_60 rfl ?_
                  refine lv_lload_n hx hb dX5_nearest_61 rfl (lv_at hl 2 rfl) ?_
                  refine lv_lmul hx hb dX5_nearest_62 ?_
                  refine lv_aload_n hx hb dX5_nearest_63 rfl (lv_at hl 0 rfl) ?_
                  refine va_get (D := en.1) (ci := 5) (v := .ref (bd 8)) (C := RX5) (T := TX5) (N := 16) hx hb hts iw_X5_nearest_X5 hown hE.1 hP 0 rfl rfl 11 (by decide) (hts (.fieldLink RX5 31 "CreditGameModel" "now" "[J") (by decide +kernel)) (fun _ h9 => h9) rfl dX5_nearest_64 ?_
                  refine lv_iload_n hx hb dX5_nearest_67 rfl (lv_at hl 1 rfl) ?_
                  refine mr_lld hx hb hE hP 8 (by decide) j rfl (show _ < 7 by omega) dX5_nearest_68 ?_
                  refine lv_iload hx hb dX5_nearest_69 (lv_at hl 6 rfl) ?_
                  refine lv_i2l (v := (lN q)) hx hb dX5_nearest_71 (nI_l (by omega)) ?_
                  refine lv_lmul hx hb dX5_nearest_72 ?_
                  refine lv_lsub hx hb dX5_nearest_73 ?_
                  refine lv_topl (fun z1 hz1 => ?_)
                  have m1 := ab_mul (a := pI.toInt) (b := (st : Int)) (A := 63) (B := 12349) (by omega) (by omega) (by omega) (by omega)
                  have m2 := ab_mul (a := viM G st j) (b := (q : Int)) (A := 111141) (B := 7) (by omega) (by omega) (by omega) (by omega)
                  have e62 : (pI.toInt64 * lN st).toInt = pI.toInt * (st : Int) := by rw [l_mul (by rw [l_of, hsl]; omega) (by rw [l_of, hsl]; omega), l_of, hsl]
                  have e72 : (e_.2 8 j * lN q).toInt = viM G st j * (q : Int) := by rw [l_mul (by rw [hnw, lN_toInt (by omega)]; omega) (by rw [hnw, lN_toInt (by omega)]; omega), hnw, lN_toInt (by omega)]
                  have ez : z1.toInt = pI.toInt * (st : Int) - viM G st j * (q : Int) := by rw [hz1, l_sub (by rw [e62, e72]; omega) (by rw [e62, e72]; omega), e62, e72]
                  refine lv_lstore (lv' := [(10, .long z1), (0, .ref (bd 0)), (1, .int (nI j)), (2, .long (lN st)), (4, .int (nI (gr_n G))), (5, .long bs2), (7, .int sm2), (8, .int (nI q)), (9, .int pI)]) hx hb dX5_nearest_74 hl (by decide) rfl (fun ls hl => ?_)
                  refine lv_lload hx hb dX5_nearest_76 (lv_at hl 0 rfl) ?_
                  refine lv_lconst (v := 0) hx hb dX5_nearest_78 (by decide) ?_
                  refine W.lcmp hx hb dX5_nearest_79 ?_
                  refine lv_if_ge (tgt := 89) hx hb dX5_nearest_80 (by decide) (fun b80 => ?_) (fun b80 => ?_)
                  · skip
                    have q80 := l_le.mp ((lg_cmp_ge _ _).mp b80)
                    rw [l_0] at q80
                    have hoff : z1.toInt = ((pI.toInt * (st : Int) - viM G st j * (q : Int)).natAbs : Int) := by omega
                    refine lv_lload hx hb dX5_nearest_89 (lv_at hl 0 rfl) ?_
                    refine lv_lstore (lv' := [(10, .long z1), (0, .ref (bd 0)), (1, .int (nI j)), (2, .long (lN st)), (4, .int (nI (gr_n G))), (5, .long bs2), (7, .int sm2), (8, .int (nI q)), (9, .int pI)]) hx hb dX5_nearest_91 hl (by decide) rfl (fun ls hl => ?_)
                    refine lv_iload hx hb dX5_nearest_93 (lv_at hl 6 rfl) ?_
                    refine lv_if_eq (tgt := 121) hx hb dX5_nearest_95 (by decide) (fun b95 => ?_) (fun b95 => ?_)
                    · skip
                      have ht_ : sm2 = 0 ∨ (z1).toInt * (e_.1 7 j).toInt < bs2.toInt * (q : Int) := Or.inl b95
                      refine lv_iconst (v := 1) hx hb dX5_nearest_121 (by decide) ?_
                      refine lv_istore (lv' := [(7, .int 1), (10, .long z1), (0, .ref (bd 0)), (1, .int (nI j)), (2, .long (lN st)), (4, .int (nI (gr_n G))), (5, .long bs2), (8, .int (nI q)), (9, .int pI)]) hx hb dX5_nearest_122 hl (by decide) rfl (fun ls hl => ?_)
                      refine lv_lload hx hb dX5_nearest_124 (lv_at hl 1 rfl) ?_
                      refine lv_lstore (lv' := [(5, .long z1), (7, .int 1), (10, .long z1), (0, .ref (bd 0)), (1, .int (nI j)), (2, .long (lN st)), (4, .int (nI (gr_n G))), (8, .int (nI q)), (9, .int pI)]) hx hb dX5_nearest_126 hl (by decide) rfl (fun ls hl => ?_)
                      refine lv_aload_n hx hb dX5_nearest_128 rfl (lv_at hl 3 rfl) ?_
                      refine va_get (D := en.1) (ci := 5) (v := .ref (bd 6)) (C := RX5) (T := TX5) (N := 16) hx hb hts iw_X5_nearest_X5 hown hE.1 hP 0 rfl rfl 9 (by decide) (hts (.fieldLink RX5 25 "CreditGameModel" "above" "[I") (by decide +kernel)) (fun _ h9 => h9) rfl dX5_nearest_129 ?_
                      refine lv_iload_n hx hb dX5_nearest_132 rfl (lv_at hl 4 rfl) ?_
                      refine lv_iload hx hb dX5_nearest_133 (lv_at hl 8 rfl) ?_
                      refine mr_ist hx hb hE hP hI hS 6 (by decide) j rfl (show _ < 7 by omega) dX5_nearest_135 (fun H locs hP hS => ?_)
                      obtain ⟨d135, ed135⟩ : ∃ z : mT, z = (va_up e_.1 6 (upd (e_.1 6) j pI), e_.2) := ⟨_, rfl⟩
                      rw [← ed135] at hP
                      refine lv_aload_n hx hb dX5_nearest_136 rfl (lv_at hl 3 rfl) ?_
                      refine va_get (D := en.1) (ci := 5) (v := .ref (bd 7)) (C := RX5) (T := TX5) (N := 16) hx hb hts iw_X5_nearest_X5 hown hE.1 hP 0 rfl rfl 10 (by decide) (hts (.fieldLink RX5 28 "CreditGameModel" "below" "[I") (by decide +kernel)) (fun _ h9 => h9) rfl dX5_nearest_137 ?_
                      refine lv_iload_n hx hb dX5_nearest_140 rfl (lv_at hl 4 rfl) ?_
                      refine lv_iload hx hb dX5_nearest_141 (lv_at hl 7 rfl) ?_
                      refine mr_ist hx hb hE hP hI hS 7 (by decide) j rfl (show _ < 7 by omega) dX5_nearest_143 (fun H locs hP hS => ?_)
                      obtain ⟨d143, ed143⟩ : ∃ z : mT, z = (va_up d135.1 7 (upd (d135.1 7) j (nI q)), d135.2) := ⟨_, rfl⟩
                      rw [← ed143] at hP
                      refine lv_iinc (v := (pI + 1)) (lv' := [(9, .int (pI + 1)), (5, .long z1), (7, .int 1), (10, .long z1), (0, .ref (bd 0)), (1, .int (nI j)), (2, .long (lN st)), (4, .int (nI (gr_n G))), (8, .int (nI q))]) hx hb dX5_nearest_144 hl (k := 8) rfl rfl (by decide) rfl (fun ls hl => ?_)
                      refine lv_goto (tgt := 23) hx hb dX5_nearest_147 (by decide) ?_
                      exact ih23 (pI + 1) 1 z1 d143 _ _ _ (by rw [hp1]; omega) (by rw [hp1]; omega) (by rw [hp1]; omega) (by rw [ed143, ed135]; exact ⟨hk2.1, hk2.2.1.tr ((kx.up (by decide)).tr (kx.up (by decide))), fun u hu => ⟨(ud_ne hu).trans (hk2.2.2 u hu).1, (ud_ne hu).trans (hk2.2.2 u hu).2⟩⟩) (by rw [hp1]; exact nr_take hH hs2 hg1 hq1 hqn hn7 hlo q30 (by rw [ed143, ed135]; show (upd (e_.1 6) j pI j).toInt = _; rw [ud_at]) (by rw [ed143, ed135]; show upd (e_.1 7) j (nI q) j = _; rw [ud_at]) hoff ht_) hP hS (lv_sub hl [4, 5, 6, 7, 1, 2, 8, 0] rfl)
                    · skip
                      have hsm := b95
                      have hbd := nr_bd hs2 hn7 ⟨by omega, by omega⟩ ⟨by omega, by omega⟩ hsm
                      have m3 := ab_mul (a := (z1).toInt) (b := (e_.1 7 j).toInt) (A := 1555974) (B := 7) (by omega) (by omega) (by omega) (by omega)
                      have m4 := ab_mul (a := bs2.toInt) (b := (q : Int)) (A := 1555974) (B := 7) (by omega) (by omega) (by omega) (by omega)
                      have e107 : (z1 * (e_.1 7 j).toInt64).toInt = (z1).toInt * (e_.1 7 j).toInt := by rw [l_mul (by rw [l_of]; omega) (by rw [l_of]; omega), l_of]
                      have e113 : (bs2 * lN q).toInt = bs2.toInt * (q : Int) := by rw [l_mul (by rw [lN_toInt (by omega)]; omega) (by rw [lN_toInt (by omega)]; omega), lN_toInt (by omega)]
                      refine lv_lload hx hb dX5_nearest_98 (lv_at hl 0 rfl) ?_
                      refine lv_aload_n hx hb dX5_nearest_100 rfl (lv_at hl 1 rfl) ?_
                      refine va_get (D := en.1) (ci := 5) (v := .ref (bd 7)) (C := RX5) (T := TX5) (N := 16) hx hb hts iw_X5_nearest_X5 hown hE.1 hP 0 rfl rfl 10 (by decide) (hts (.fieldLink RX5 28 "CreditGameModel" "below" "[I") (by decide +kernel)) (fun _ h9 => h9) rfl dX5_nearest_101 ?_
                      refine lv_iload_n hx hb dX5_nearest_104 rfl (lv_at hl 2 rfl) ?_
                      refine mr_ild hx hb hE hP 7 (by decide) j rfl (show _ < 7 by omega) dX5_nearest_105 ?_
                      refine lv_i2l (v := (e_.1 7 j).toInt64) hx hb dX5_nearest_106 rfl ?_
                      refine lv_lmul hx hb dX5_nearest_107 ?_
                      refine lv_lload hx hb dX5_nearest_108 (lv_at hl 5 rfl) ?_
                      refine lv_iload hx hb dX5_nearest_110 (lv_at hl 7 rfl) ?_
                      refine lv_i2l (v := (lN q)) hx hb dX5_nearest_112 (nI_l (by omega)) ?_
                      refine lv_lmul hx hb dX5_nearest_113 ?_
                      refine W.lcmp hx hb dX5_nearest_114 ?_
                      refine lv_if_lt (tgt := 121) hx hb dX5_nearest_115 (by decide) (fun b115 => ?_) (fun b115 => ?_)
                      · skip
                        have ht_ : sm2 = 0 ∨ (z1).toInt * (e_.1 7 j).toInt < bs2.toInt * (q : Int) := Or.inr (by have h9 := l_lt.mp ((lg_cmp_lt _ _).mp b115); rw [e107, e113] at h9; exact h9)
                        refine lv_iconst (v := 1) hx hb dX5_nearest_121 (by decide) ?_
                        refine lv_istore (lv' := [(7, .int 1), (10, .long z1), (0, .ref (bd 0)), (1, .int (nI j)), (2, .long (lN st)), (4, .int (nI (gr_n G))), (5, .long bs2), (8, .int (nI q)), (9, .int pI)]) hx hb dX5_nearest_122 hl (by decide) rfl (fun ls hl => ?_)
                        refine lv_lload hx hb dX5_nearest_124 (lv_at hl 1 rfl) ?_
                        refine lv_lstore (lv' := [(5, .long z1), (7, .int 1), (10, .long z1), (0, .ref (bd 0)), (1, .int (nI j)), (2, .long (lN st)), (4, .int (nI (gr_n G))), (8, .int (nI q)), (9, .int pI)]) hx hb dX5_nearest_126 hl (by decide) rfl (fun ls hl => ?_)
                        refine lv_aload_n hx hb dX5_nearest_128 rfl (lv_at hl 3 rfl) ?_
                        refine va_get (D := en.1) (ci := 5) (v := .ref (bd 6)) (C := RX5) (T := TX5) (N := 16) hx hb hts iw_X5_nearest_X5 hown hE.1 hP 0 rfl rfl 9 (by decide) (hts (.fieldLink RX5 25 "CreditGameModel" "above" "[I") (by decide +kernel)) (fun _ h9 => h9) rfl dX5_nearest_129 ?_
                        refine lv_iload_n hx hb dX5_nearest_132 rfl (lv_at hl 4 rfl) ?_
                        refine lv_iload hx hb dX5_nearest_133 (lv_at hl 8 rfl) ?_
                        refine mr_ist hx hb hE hP hI hS 6 (by decide) j rfl (show _ < 7 by omega) dX5_nearest_135 (fun H locs hP hS => ?_)
                        obtain ⟨d135, ed135⟩ : ∃ z : mT, z = (va_up e_.1 6 (upd (e_.1 6) j pI), e_.2) := ⟨_, rfl⟩
                        rw [← ed135] at hP
                        refine lv_aload_n hx hb dX5_nearest_136 rfl (lv_at hl 3 rfl) ?_
                        refine va_get (D := en.1) (ci := 5) (v := .ref (bd 7)) (C := RX5) (T := TX5) (N := 16) hx hb hts iw_X5_nearest_X5 hown hE.1 hP 0 rfl rfl 10 (by decide) (hts (.fieldLink RX5 28 "CreditGameModel" "below" "[I") (by decide +kernel)) (fun _ h9 => h9) rfl dX5_nearest_137 ?_
                        refine lv_iload_n hx hb dX5_nearest_140 rfl (lv_at hl 4 rfl) ?_
                        refine lv_iload hx hb dX5_nearest_141 (lv_at hl 7 rfl) ?_
                        refine mr_ist hx hb hE hP hI hS 7 (by decide) j rfl (show _ < 7 by omega) dX5_nearest_143 (fun H locs hP hS => ?_)
                        obtain ⟨d143, ed143⟩ : ∃ z : mT, z = (va_up d135.1 7 (upd (d135.1 7) j (nI q)), d135.2) := ⟨_, rfl⟩
                        rw [← ed143] at hP
                        refine lv_iinc (v := (pI + 1)) (lv' := [(9, .int (pI + 1)), (5, .long z1), (7, .int 1), (10, .long z1), (0, .ref (bd 0)), (1, .int (nI j)), (2, .long (lN st)), (4, .int (nI (gr_n G))), (8, .int (nI q))]) hx hb dX5_nearest_144 hl (k := 8) rfl rfl (by decide) rfl (fun ls hl => ?_)
                        refine lv_goto (tgt := 23) hx hb dX5_nearest_147 (by decide) ?_
                        exact ih23 (pI + 1) 1 z1 d143 _ _ _ (by rw [hp1]; omega) (by rw [hp1]; omega) (by rw [hp1]; omega) (by rw [ed143, ed135]; exact ⟨hk2.1, hk2.2.1.tr ((kx.up (by decide)).tr (kx.up (by decide))), fun u hu => ⟨(ud_ne hu).trans (hk2.2.2 u hu).1, (ud_ne hu).trans (hk2.2.2 u hu).2⟩⟩) (by rw [hp1]; exact nr_take hH hs2 hg1 hq1 hqn hn7 hlo q30 (by rw [ed143, ed135]; show (upd (e_.1 6) j pI j).toInt = _; rw [ud_at]) (by rw [ed143, ed135]; show upd (e_.1 7) j (nI q) j = _; rw [ud_at]) hoff ht_) hP hS (lv_sub hl [4, 5, 6, 7, 1, 2, 8, 0] rfl)
                      · skip
                        skip
                        have ht_ : ¬ (z1).toInt * (e_.1 7 j).toInt < bs2.toInt * (q : Int) := fun h9 => b115 ((lg_cmp_lt _ _).mpr (l_lt.mpr (by rw [e107, e113]; exact h9)))
                        refine lv_goto (tgt := 144) hx hb dX5_nearest_118 (by decide) ?_
                        refine lv_iinc (v := (pI + 1)) (lv' := [(9, .int (pI + 1)), (10, .long z1), (0, .ref (bd 0)), (1, .int (nI j)), (2, .long (lN st)), (4, .int (nI (gr_n G))), (5, .long bs2), (7, .int sm2), (8, .int (nI q))]) hx hb dX5_nearest_144 hl (k := 8) rfl rfl (by decide) rfl (fun ls hl => ?_)
                        refine lv_goto (tgt := 23) hx hb dX5_nearest_147 (by decide) ?_
                        exact ih23 (pI + 1) sm2 bs2 e_ _ _ _ (by rw [hp1]; omega) (by rw [hp1]; omega) (by rw [hp1]; omega) hk2 (by rw [hp1]; exact nr_keep hH hs2 hn7 hoff hsm ht_) hP hS (lv_sub hl [2, 3, 4, 5, 6, 7, 8, 0] rfl)
                  · skip
                    have q80 : ¬ _ := fun q => b80 ((lg_cmp_ge _ _).mpr (l_le.mpr q))
                    rw [l_0] at q80
                    have hoff : (-z1).toInt = ((pI.toInt * (st : Int) - viM G st j * (q : Int)).natAbs : Int) := by rw [l_neg (by omega)]; omega
                    refine lv_lload hx hb dX5_nearest_83 (lv_at hl 0 rfl) ?_
                    refine lv_lneg hx hb dX5_nearest_85 ?_
                    refine lv_goto (tgt := 91) hx hb dX5_nearest_86 (by decide) ?_
                    refine lv_lstore (lv' := [(10, .long (-z1)), (0, .ref (bd 0)), (1, .int (nI j)), (2, .long (lN st)), (4, .int (nI (gr_n G))), (5, .long bs2), (7, .int sm2), (8, .int (nI q)), (9, .int pI)]) hx hb dX5_nearest_91 hl (by decide) rfl (fun ls hl => ?_)
                    refine lv_iload hx hb dX5_nearest_93 (lv_at hl 6 rfl) ?_
                    refine lv_if_eq (tgt := 121) hx hb dX5_nearest_95 (by decide) (fun b95 => ?_) (fun b95 => ?_)
                    · skip
                      have ht_ : sm2 = 0 ∨ ((-z1)).toInt * (e_.1 7 j).toInt < bs2.toInt * (q : Int) := Or.inl b95
                      refine lv_iconst (v := 1) hx hb dX5_nearest_121 (by decide) ?_
                      refine lv_istore (lv' := [(7, .int 1), (10, .long (-z1)), (0, .ref (bd 0)), (1, .int (nI j)), (2, .long (lN st)), (4, .int (nI (gr_n G))), (5, .long bs2), (8, .int (nI q)), (9, .int pI)]) hx hb dX5_nearest_122 hl (by decide) rfl (fun ls hl => ?_)
                      refine lv_lload hx hb dX5_nearest_124 (lv_at hl 1 rfl) ?_
                      refine lv_lstore (lv' := [(5, .long (-z1)), (7, .int 1), (10, .long (-z1)), (0, .ref (bd 0)), (1, .int (nI j)), (2, .long (lN st)), (4, .int (nI (gr_n G))), (8, .int (nI q)), (9, .int pI)]) hx hb dX5_nearest_126 hl (by decide) rfl (fun ls hl => ?_)
                      refine lv_aload_n hx hb dX5_nearest_128 rfl (lv_at hl 3 rfl) ?_
                      refine va_get (D := en.1) (ci := 5) (v := .ref (bd 6)) (C := RX5) (T := TX5) (N := 16) hx hb hts iw_X5_nearest_X5 hown hE.1 hP 0 rfl rfl 9 (by decide) (hts (.fieldLink RX5 25 "CreditGameModel" "above" "[I") (by decide +kernel)) (fun _ h9 => h9) rfl dX5_nearest_129 ?_
                      refine lv_iload_n hx hb dX5_nearest_132 rfl (lv_at hl 4 rfl) ?_
                      refine lv_iload hx hb dX5_nearest_133 (lv_at hl 8 rfl) ?_
                      refine mr_ist hx hb hE hP hI hS 6 (by decide) j rfl (show _ < 7 by omega) dX5_nearest_135 (fun H locs hP hS => ?_)
                      obtain ⟨d135, ed135⟩ : ∃ z : mT, z = (va_up e_.1 6 (upd (e_.1 6) j pI), e_.2) := ⟨_, rfl⟩
                      rw [← ed135] at hP
                      refine lv_aload_n hx hb dX5_nearest_136 rfl (lv_at hl 3 rfl) ?_
                      refine va_get (D := en.1) (ci := 5) (v := .ref (bd 7)) (C := RX5) (T := TX5) (N := 16) hx hb hts iw_X5_nearest_X5 hown hE.1 hP 0 rfl rfl 10 (by decide) (hts (.fieldLink RX5 28 "CreditGameModel" "below" "[I") (by decide +kernel)) (fun _ h9 => h9) rfl dX5_nearest_137 ?_
                      refine lv_iload_n hx hb dX5_nearest_140 rfl (lv_at hl 4 rfl) ?_
                      refine lv_iload hx hb dX5_nearest_141 (lv_at hl 7 rfl) ?_
                      refine mr_ist hx hb hE hP hI hS 7 (by decide) j rfl (show _ < 7 by omega) dX5_nearest_143 (fun H locs hP hS => ?_)
                      obtain ⟨d143, ed143⟩ : ∃ z : mT, z = (va_up d135.1 7 (upd (d135.1 7) j (nI q)), d135.2) := ⟨_, rfl⟩
                      rw [← ed143] at hP
                      refine lv_iinc (v := (pI + 1)) (lv' := [(9, .int (pI + 1)), (5, .long (-z1)), (7, .int 1), (10, .long (-z1)), (0, .ref (bd 0)), (1, .int (nI j)), (2, .long (lN st)), (4, .int (nI (gr_n G))), (8, .int (nI q))]) hx hb dX5_nearest_144 hl (k := 8) rfl rfl (by decide) rfl (fun ls hl => ?_)
                      refine lv_goto (tgt := 23) hx hb dX5_nearest_147 (by decide) ?_
                      exact ih23 (pI + 1) 1 (-z1) d143 _ _ _ (by rw [hp1]; omega) (by rw [hp1]; omega) (by rw [hp1]; omega) (by rw [ed143, ed135]; exact ⟨hk2.1, hk2.2.1.tr ((kx.up (by decide)).tr (kx.up (by decide))), fun u hu => ⟨(ud_ne hu).trans (hk2.2.2 u hu).1, (ud_ne hu).trans (hk2.2.2 u hu).2⟩⟩) (by rw [hp1]; exact nr_take hH hs2 hg1 hq1 hqn hn7 hlo q30 (by rw [ed143, ed135]; show (upd (e_.1 6) j pI j).toInt = _; rw [ud_at]) (by rw [ed143, ed135]; show upd (e_.1 7) j (nI q) j = _; rw [ud_at]) hoff ht_) hP hS (lv_sub hl [4, 5, 6, 7, 1, 2, 8, 0] rfl)
                    · skip
                      have hsm := b95
                      have hbd := nr_bd hs2 hn7 ⟨by omega, by omega⟩ ⟨by omega, by omega⟩ hsm
                      have m3 := ab_mul (a := ((-z1)).toInt) (b := (e_.1 7 j).toInt) (A := 1555974) (B := 7) (by omega) (by omega) (by omega) (by omega)
                      have m4 := ab_mul (a := bs2.toInt) (b := (q : Int)) (A := 1555974) (B := 7) (by omega) (by omega) (by omega) (by omega)
                      have e107 : ((-z1) * (e_.1 7 j).toInt64).toInt = ((-z1)).toInt * (e_.1 7 j).toInt := by rw [l_mul (by rw [l_of]; omega) (by rw [l_of]; omega), l_of]
                      have e113 : (bs2 * lN q).toInt = bs2.toInt * (q : Int) := by rw [l_mul (by rw [lN_toInt (by omega)]; omega) (by rw [lN_toInt (by omega)]; omega), lN_toInt (by omega)]
                      refine lv_lload hx hb dX5_nearest_98 (lv_at hl 0 rfl) ?_
                      refine lv_aload_n hx hb dX5_nearest_100 rfl (lv_at hl 1 rfl) ?_
                      refine va_get (D := en.1) (ci := 5) (v := .ref (bd 7)) (C := RX5) (T := TX5) (N := 16) hx hb hts iw_X5_nearest_X5 hown hE.1 hP 0 rfl rfl 10 (by decide) (hts (.fieldLink RX5 28 "CreditGameModel" "below" "[I") (by decide +kernel)) (fun _ h9 => h9) rfl dX5_nearest_101 ?_
                      refine lv_iload_n hx hb dX5_nearest_104 rfl (lv_at hl 2 rfl) ?_
                      refine mr_ild hx hb hE hP 7 (by decide) j rfl (show _ < 7 by omega) dX5_nearest_105 ?_
                      refine lv_i2l (v := (e_.1 7 j).toInt64) hx hb dX5_nearest_106 rfl ?_
                      refine lv_lmul hx hb dX5_nearest_107 ?_
                      refine lv_lload hx hb dX5_nearest_108 (lv_at hl 5 rfl) ?_
                      refine lv_iload hx hb dX5_nearest_110 (lv_at hl 7 rfl) ?_
                      refine lv_i2l (v := (lN q)) hx hb dX5_nearest_112 (nI_l (by omega)) ?_
                      refine lv_lmul hx hb dX5_nearest_113 ?_
                      refine W.lcmp hx hb dX5_nearest_114 ?_
                      refine lv_if_lt (tgt := 121) hx hb dX5_nearest_115 (by decide) (fun b115 => ?_) (fun b115 => ?_)
                      · skip
                        have ht_ : sm2 = 0 ∨ ((-z1)).toInt * (e_.1 7 j).toInt < bs2.toInt * (q : Int) := Or.inr (by have h9 := l_lt.mp ((lg_cmp_lt _ _).mp b115); rw [e107, e113] at h9; exact h9)
                        refine lv_iconst (v := 1) hx hb dX5_nearest_121 (by decide) ?_
                        refine lv_istore (lv' := [(7, .int 1), (10, .long (-z1)), (0, .ref (bd 0)), (1, .int (nI j)), (2, .long (lN st)), (4, .int (nI (gr_n G))), (5, .long bs2), (8, .int (nI q)), (9, .int pI)]) hx hb dX5_nearest_122 hl (by decide) rfl (fun ls hl => ?_)
                        refine lv_lload hx hb dX5_nearest_124 (lv_at hl 1 rfl) ?_
                        refine lv_lstore (lv' := [(5, .long (-z1)), (7, .int 1), (10, .long (-z1)), (0, .ref (bd 0)), (1, .int (nI j)), (2, .long (lN st)), (4, .int (nI (gr_n G))), (8, .int (nI q)), (9, .int pI)]) hx hb dX5_nearest_126 hl (by decide) rfl (fun ls hl => ?_)
                        refine lv_aload_n hx hb dX5_nearest_128 rfl (lv_at hl 3 rfl) ?_
                        refine va_get (D := en.1) (ci := 5) (v := .ref (bd 6)) (C := RX5) (T := TX5) (N := 16) hx hb hts iw_X5_nearest_X5 hown hE.1 hP 0 rfl rfl 9 (by decide) (hts (.fieldLink RX5 25 "CreditGameModel" "above" "[I") (by decide +kernel)) (fun _ h9 => h9) rfl dX5_nearest_129 ?_
                        refine lv_iload_n hx hb dX5_nearest_132 rfl (lv_at hl 4 rfl) ?_
                        refine lv_iload hx hb dX5_nearest_133 (lv_at hl 8 rfl) ?_
                        refine mr_ist hx hb hE hP hI hS 6 (by decide) j rfl (show _ < 7 by omega) dX5_nearest_135 (fun H locs hP hS => ?_)
                        obtain ⟨d135, ed135⟩ : ∃ z : mT, z = (va_up e_.1 6 (upd (e_.1 6) j pI), e_.2) := ⟨_, rfl⟩
                        rw [← ed135] at hP
                        refine lv_aload_n hx hb dX5_nearest_136 rfl (lv_at hl 3 rfl) ?_
                        refine va_get (D := en.1) (ci := 5) (v := .ref (bd 7)) (C := RX5) (T := TX5) (N := 16) hx hb hts iw_X5_nearest_X5 hown hE.1 hP 0 rfl rfl 10 (by decide) (hts (.fieldLink RX5 28 "CreditGameModel" "below" "[I") (by decide +kernel)) (fun _ h9 => h9) rfl dX5_nearest_137 ?_
                        refine lv_iload_n hx hb dX5_nearest_140 rfl (lv_at hl 4 rfl) ?_
                        refine lv_iload hx hb dX5_nearest_141 (lv_at hl 7 rfl) ?_
                        refine mr_ist hx hb hE hP hI hS 7 (by decide) j rfl (show _ < 7 by omega) dX5_nearest_143 (fun H locs hP hS => ?_)
                        obtain ⟨d143, ed143⟩ : ∃ z : mT, z = (va_up d135.1 7 (upd (d135.1 7) j (nI q)), d135.2) := ⟨_, rfl⟩
                        rw [← ed143] at hP
                        refine lv_iinc (v := (pI + 1)) (lv' := [(9, .int (pI + 1)), (5, .long (-z1)), (7, .int 1), (10, .long (-z1)), (0, .ref (bd 0)), (1, .int (nI j)), (2, .long (lN st)), (4, .int (nI (gr_n G))), (8, .int (nI q))]) hx hb dX5_nearest_144 hl (k := 8) rfl rfl (by decide) rfl (fun ls hl => ?_)
                        refine lv_goto (tgt := 23) hx hb dX5_nearest_147 (by decide) ?_
                        exact ih23 (pI + 1) 1 (-z1) d143 _ _ _ (by rw [hp1]; omega) (by rw [hp1]; omega) (by rw [hp1]; omega) (by rw [ed143, ed135]; exact ⟨hk2.1, hk2.2.1.tr ((kx.up (by decide)).tr (kx.up (by decide))), fun u hu => ⟨(ud_ne hu).trans (hk2.2.2 u hu).1, (ud_ne hu).trans (hk2.2.2 u hu).2⟩⟩) (by rw [hp1]; exact nr_take hH hs2 hg1 hq1 hqn hn7 hlo q30 (by rw [ed143, ed135]; show (upd (e_.1 6) j pI j).toInt = _; rw [ud_at]) (by rw [ed143, ed135]; show upd (e_.1 7) j (nI q) j = _; rw [ud_at]) hoff ht_) hP hS (lv_sub hl [4, 5, 6, 7, 1, 2, 8, 0] rfl)
                      · skip
                        skip
                        have ht_ : ¬ ((-z1)).toInt * (e_.1 7 j).toInt < bs2.toInt * (q : Int) := fun h9 => b115 ((lg_cmp_lt _ _).mpr (l_lt.mpr (by rw [e107, e113]; exact h9)))
                        refine lv_goto (tgt := 144) hx hb dX5_nearest_118 (by decide) ?_
                        refine lv_iinc (v := (pI + 1)) (lv' := [(9, .int (pI + 1)), (10, .long (-z1)), (0, .ref (bd 0)), (1, .int (nI j)), (2, .long (lN st)), (4, .int (nI (gr_n G))), (5, .long bs2), (7, .int sm2), (8, .int (nI q))]) hx hb dX5_nearest_144 hl (k := 8) rfl rfl (by decide) rfl (fun ls hl => ?_)
                        refine lv_goto (tgt := 23) hx hb dX5_nearest_147 (by decide) ?_
                        exact ih23 (pI + 1) sm2 bs2 e_ _ _ _ (by rw [hp1]; omega) (by rw [hp1]; omega) (by rw [hp1]; omega) hk2 (by rw [hp1]; exact nr_keep hH hs2 hn7 hoff hsm ht_) hP hS (lv_sub hl [2, 3, 4, 5, 6, 7, 8, 0] rfl)
                · skip
                  skip
                  have hng : ¬ Nat.gcd pI.toInt.natAbs q = 1 := by rw [hab]; exact fun h9 => b52 (w48.trans (by rw [h9]; rfl))
                  refine lv_goto (tgt := 144) hx hb dX5_nearest_55 (by decide) ?_
                  refine lv_iinc (v := (pI + 1)) (lv' := [(9, .int (pI + 1)), (0, .ref (bd 0)), (1, .int (nI j)), (2, .long (lN st)), (4, .int (nI (gr_n G))), (5, .long bs2), (7, .int sm2), (8, .int (nI q))]) hx hb dX5_nearest_144 hl (k := 7) rfl rfl (by decide) rfl (fun ls hl => ?_)
                  refine lv_goto (tgt := 23) hx hb dX5_nearest_147 (by decide) ?_
                  exact ih23 (pI + 1) sm2 bs2 e_ _ _ _ (by rw [hp1]; omega) (by rw [hp1]; omega) (by rw [hp1]; omega) hk2 (by rw [hp1]; exact nr_skip hH hs2 hng) hP hS (lv_sub hl [1, 2, 3, 4, 5, 6, 7, 0] rfl)
              · skip
                skip
                have q35 : ¬ _ := fun q => b35 (i_le.mpr q)
                rw [i_0] at q35
                obtain ⟨a, ha, ea⟩ : ∃ a : Nat, a ≤ 63 ∧ -pI = nI a := ⟨(-pI.toInt).toNat, by omega, i_eq (by rw [i_neg (by omega), nI_toInt (by omega)]; omega)⟩
                have hab : pI.toInt.natAbs = a := by have h9 := congrArg Int32.toInt ea; rw [i_neg (by omega), nI_toInt (by omega)] at h9; omega
                refine lv_iload hx hb dX5_nearest_38 (lv_at hl 7 rfl) ?_
                refine lv_ineg hx hb dX5_nearest_40 ?_
                refine lv_goto (tgt := 46) hx hb dX5_nearest_41 (by decide) ?_
                refine lv_topi (fun z_46 ez_46 => ?_)
                obtain rfl : z_46 = nI a := ez_46.trans ea
                refine lv_iload hx hb dX5_nearest_46 (lv_at hl 6 rfl) ?_
                refine ro_calli (va_runS (As := [.int (nI a), .int (nI q)]) (rest := []) ⟨hx, hb, hml, hown, hts⟩ (cm_common l en bd d a q (by omega) (by omega)) (va_cwS 2 hts gX5_nearest_X5_common rfl rfl rfl (by decide +kernel) ⟨Nat.le_of_ble_eq_true rfl, Nat.le_of_ble_eq_true rfl⟩) (ct_preS hE trivial) rfl rfl hl.1 rfl (lv_room (Nat.le_of_ble_eq_true rfl)) dX5_nearest_48 ⟨Nat.le_of_ble_eq_true rfl, Nat.le_of_ble_eq_true rfl⟩) (fun r48 w48 => ?_)
                refine lv_iconst (v := 1) hx hb dX5_nearest_51 (by decide) ?_
                refine lv_icmp_eq (tgt := 58) hx hb dX5_nearest_52 (by decide) (fun b52 => ?_) (fun b52 => ?_)
                · skip
                  have hg1 : Nat.gcd pI.toInt.natAbs q = 1 := by rw [hab]; exact (nI_eq (a := Nat.gcd a q) (b := 1) (by have := Nat.gcd_le_right (n := q) a (by omega); omega) (by omega)).mp (w48.symm.trans b52)
                  refine lv_iload hx hb dX5_nearest_58 (lv_at hl 7 rfl) ?_
                  refine lv_i2l (v := pI.toInt64) hx hb dX5_nearest_60 rfl ?_
                  refine lv_lload_n hx hb dX5_nearest_61 rfl (lv_at hl 2 rfl) ?_
                  refine lv_lmul hx hb dX5_nearest_62 ?_
                  refine lv_aload_n hx hb dX5_nearest_63 rfl (lv_at hl 0 rfl) ?_
                  refine va_get (D := en.1) (ci := 5) (v := .ref (bd 8)) (C := RX5) (T := TX5) (N := 16) hx hb hts iw_X5_nearest_X5 hown hE.1 hP 0 rfl rfl 11 (by decide) (hts (.fieldLink RX5 31 "CreditGameModel" "now" "[J") (by decide +kernel)) (fun _ h9 => h9) rfl dX5_nearest_64 ?_
                  refine lv_iload_n hx hb dX5_nearest_67 rfl (lv_at hl 1 rfl) ?_
                  refine mr_lld hx hb hE hP 8 (by decide) j rfl (show _ < 7 by omega) dX5_nearest_68 ?_
                  refine lv_iload hx hb dX5_nearest_69 (lv_at hl 6 rfl) ?_
                  refine lv_i2l (v := (lN q)) hx hb dX5_nearest_71 (nI_l (by omega)) ?_
                  refine lv_lmul hx hb dX5_nearest_72 ?_
                  refine lv_lsub hx hb dX5_nearest_73 ?_
                  refine lv_topl (fun z1 hz1 => ?_)
                  have m1 := ab_mul (a := pI.toInt) (b := (st : Int)) (A := 63) (B := 12349) (by omega) (by omega) (by omega) (by omega)
                  have m2 := ab_mul (a := viM G st j) (b := (q : Int)) (A := 111141) (B := 7) (by omega) (by omega) (by omega) (by omega)
                  have e62 : (pI.toInt64 * lN st).toInt = pI.toInt * (st : Int) := by rw [l_mul (by rw [l_of, hsl]; omega) (by rw [l_of, hsl]; omega), l_of, hsl]
                  have e72 : (e_.2 8 j * lN q).toInt = viM G st j * (q : Int) := by rw [l_mul (by rw [hnw, lN_toInt (by omega)]; omega) (by rw [hnw, lN_toInt (by omega)]; omega), hnw, lN_toInt (by omega)]
                  have ez : z1.toInt = pI.toInt * (st : Int) - viM G st j * (q : Int) := by rw [hz1, l_sub (by rw [e62, e72]; omega) (by rw [e62, e72]; omega), e62, e72]
                  refine lv_lstore (lv' := [(10, .long z1), (0, .ref (bd 0)), (1, .int (nI j)), (2, .long (lN st)), (4, .int (nI (gr_n G))), (5, .long bs2), (7, .int sm2), (8, .int (nI q)), (9, .int pI)]) hx hb dX5_nearest_74 hl (by decide) rfl (fun ls hl => ?_)
                  refine lv_lload hx hb dX5_nearest_76 (lv_at hl 0 rfl) ?_
                  refine lv_lconst (v := 0) hx hb dX5_nearest_78 (by decide) ?_
                  refine W.lcmp hx hb dX5_nearest_79 ?_
                  refine lv_if_ge (tgt := 89) hx hb dX5_nearest_80 (by decide) (fun b80 => ?_) (fun b80 => ?_)
                  · skip
                    have q80 := l_le.mp ((lg_cmp_ge _ _).mp b80)
                    rw [l_0] at q80
                    have hoff : z1.toInt = ((pI.toInt * (st : Int) - viM G st j * (q : Int)).natAbs : Int) := by omega
                    refine lv_lload hx hb dX5_nearest_89 (lv_at hl 0 rfl) ?_
                    refine lv_lstore (lv' := [(10, .long z1), (0, .ref (bd 0)), (1, .int (nI j)), (2, .long (lN st)), (4, .int (nI (gr_n G))), (5, .long bs2), (7, .int sm2), (8, .int (nI q)), (9, .int pI)]) hx hb dX5_nearest_91 hl (by decide) rfl (fun ls hl => ?_)
                    refine lv_iload hx hb dX5_nearest_93 (lv_at hl 6 rfl) ?_
                    refine lv_if_eq (tgt := 121) hx hb dX5_nearest_95 (by decide) (fun b95 => ?_) (fun b95 => ?_)
                    · skip
                      have ht_ : sm2 = 0 ∨ (z1).toInt * (e_.1 7 j).toInt < bs2.toInt * (q : Int) := Or.inl b95
                      refine lv_iconst (v := 1) hx hb dX5_nearest_121 (by decide) ?_
                      refine lv_istore (lv' := [(7, .int 1), (10, .long z1), (0, .ref (bd 0)), (1, .int (nI j)), (2, .long (lN st)), (4, .int (nI (gr_n G))), (5, .long bs2), (8, .int (nI q)), (9, .int pI)]) hx hb dX5_nearest_122 hl (by decide) rfl (fun ls hl => ?_)
                      refine lv_lload hx hb dX5_nearest_124 (lv_at hl 1 rfl) ?_
                      refine lv_lstore (lv' := [(5, .long z1), (7, .int 1), (10, .long z1), (0, .ref (bd 0)), (1, .int (nI j)), (2, .long (lN st)), (4, .int (nI (gr_n G))), (8, .int (nI q)), (9, .int pI)]) hx hb dX5_nearest_126 hl (by decide) rfl (fun ls hl => ?_)
                      refine lv_aload_n hx hb dX5_nearest_128 rfl (lv_at hl 3 rfl) ?_
                      refine va_get (D := en.1) (ci := 5) (v := .ref (bd 6)) (C := RX5) (T := TX5) (N := 16) hx hb hts iw_X5_nearest_X5 hown hE.1 hP 0 rfl rfl 9 (by decide) (hts (.fieldLink RX5 25 "CreditGameModel" "above" "[I") (by decide +kernel)) (fun _ h9 => h9) rfl dX5_nearest_129 ?_
                      refine lv_iload_n hx hb dX5_nearest_132 rfl (lv_at hl 4 rfl) ?_
                      refine lv_iload hx hb dX5_nearest_133 (lv_at hl 8 rfl) ?_
                      refine mr_ist hx hb hE hP hI hS 6 (by decide) j rfl (show _ < 7 by omega) dX5_nearest_135 (fun H locs hP hS => ?_)
                      obtain ⟨d135, ed135⟩ : ∃ z : mT, z = (va_up e_.1 6 (upd (e_.1 6) j pI), e_.2) := ⟨_, rfl⟩
                      rw [← ed135] at hP
                      refine lv_aload_n hx hb dX5_nearest_136 rfl (lv_at hl 3 rfl) ?_
                      refine va_get (D := en.1) (ci := 5) (v := .ref (bd 7)) (C := RX5) (T := TX5) (N := 16) hx hb hts iw_X5_nearest_X5 hown hE.1 hP 0 rfl rfl 10 (by decide) (hts (.fieldLink RX5 28 "CreditGameModel" "below" "[I") (by decide +kernel)) (fun _ h9 => h9) rfl dX5_nearest_137 ?_
                      refine lv_iload_n hx hb dX5_nearest_140 rfl (lv_at hl 4 rfl) ?_
                      refine lv_iload hx hb dX5_nearest_141 (lv_at hl 7 rfl) ?_
                      refine mr_ist hx hb hE hP hI hS 7 (by decide) j rfl (show _ < 7 by omega) dX5_nearest_143 (fun H locs hP hS => ?_)
                      obtain ⟨d143, ed143⟩ : ∃ z : mT, z = (va_up d135.1 7 (upd (d135.1 7) j (nI q)), d135.2) := ⟨_, rfl⟩
                      rw [← ed143] at hP
                      refine lv_iinc (v := (pI + 1)) (lv' := [(9, .int (pI + 1)), (5, .long z1), (7, .int 1), (10, .long z1), (0, .ref (bd 0)), (1, .int (nI j)), (2, .long (lN st)), (4, .int (nI (gr_n G))), (8, .int (nI q))]) hx hb dX5_nearest_144 hl (k := 8) rfl rfl (by decide) rfl (fun ls hl => ?_)
                      refine lv_goto (tgt := 23) hx hb dX5_nearest_147 (by decide) ?_
                      exact ih23 (pI + 1) 1 z1 d143 _ _ _ (by rw [hp1]; omega) (by rw [hp1]; omega) (by rw [hp1]; omega) (by rw [ed143, ed135]; exact ⟨hk2.1, hk2.2.1.tr ((kx.up (by decide)).tr (kx.up (by decide))), fun u hu => ⟨(ud_ne hu).trans (hk2.2.2 u hu).1, (ud_ne hu).trans (hk2.2.2 u hu).2⟩⟩) (by rw [hp1]; exact nr_take hH hs2 hg1 hq1 hqn hn7 hlo q30 (by rw [ed143, ed135]; show (upd (e_.1 6) j pI j).toInt = _; rw [ud_at]) (by rw [ed143, ed135]; show upd (e_.1 7) j (nI q) j = _; rw [ud_at]) hoff ht_) hP hS (lv_sub hl [4, 5, 6, 7, 1, 2, 8, 0] rfl)
                    · skip
                      have hsm := b95
                      have hbd := nr_bd hs2 hn7 ⟨by omega, by omega⟩ ⟨by omega, by omega⟩ hsm
                      have m3 := ab_mul (a := (z1).toInt) (b := (e_.1 7 j).toInt) (A := 1555974) (B := 7) (by omega) (by omega) (by omega) (by omega)
                      have m4 := ab_mul (a := bs2.toInt) (b := (q : Int)) (A := 1555974) (B := 7) (by omega) (by omega) (by omega) (by omega)
                      have e107 : (z1 * (e_.1 7 j).toInt64).toInt = (z1).toInt * (e_.1 7 j).toInt := by rw [l_mul (by rw [l_of]; omega) (by rw [l_of]; omega), l_of]
                      have e113 : (bs2 * lN q).toInt = bs2.toInt * (q : Int) := by rw [l_mul (by rw [lN_toInt (by omega)]; omega) (by rw [lN_toInt (by omega)]; omega), lN_toInt (by omega)]
                      refine lv_lload hx hb dX5_nearest_98 (lv_at hl 0 rfl) ?_
                      refine lv_aload_n hx hb dX5_nearest_100 rfl (lv_at hl 1 rfl) ?_
                      refine va_get (D := en.1) (ci := 5) (v := .ref (bd 7)) (C := RX5) (T := TX5) (N := 16) hx hb hts iw_X5_nearest_X5 hown hE.1 hP 0 rfl rfl 10 (by decide) (hts (.fieldLink RX5 28 "CreditGameModel" "below" "[I") (by decide +kernel)) (fun _ h9 => h9) rfl dX5_nearest_101 ?_
                      refine lv_iload_n hx hb dX5_nearest_104 rfl (lv_at hl 2 rfl) ?_
                      refine mr_ild hx hb hE hP 7 (by decide) j rfl (show _ < 7 by omega) dX5_nearest_105 ?_
                      refine lv_i2l (v := (e_.1 7 j).toInt64) hx hb dX5_nearest_106 rfl ?_
                      refine lv_lmul hx hb dX5_nearest_107 ?_
                      refine lv_lload hx hb dX5_nearest_108 (lv_at hl 5 rfl) ?_
                      refine lv_iload hx hb dX5_nearest_110 (lv_at hl 7 rfl) ?_
                      refine lv_i2l (v := (lN q)) hx hb dX5_nearest_112 (nI_l (by omega)) ?_
                      refine lv_lmul hx hb dX5_nearest_113 ?_
                      refine W.lcmp hx hb dX5_nearest_114 ?_
                      refine lv_if_lt (tgt := 121) hx hb dX5_nearest_115 (by decide) (fun b115 => ?_) (fun b115 => ?_)
                      · skip
                        have ht_ : sm2 = 0 ∨ (z1).toInt * (e_.1 7 j).toInt < bs2.toInt * (q : Int) := Or.inr (by have h9 := l_lt.mp ((lg_cmp_lt _ _).mp b115); rw [e107, e113] at h9; exact h9)
                        refine lv_iconst (v := 1) hx hb dX5_nearest_121 (by decide) ?_
                        refine lv_istore (lv' := [(7, .int 1), (10, .long z1), (0, .ref (bd 0)), (1, .int (nI j)), (2, .long (lN st)), (4, .int (nI (gr_n G))), (5, .long bs2), (8, .int (nI q)), (9, .int pI)]) hx hb dX5_nearest_122 hl (by decide) rfl (fun ls hl => ?_)
                        refine lv_lload hx hb dX5_nearest_124 (lv_at hl 1 rfl) ?_
                        refine lv_lstore (lv' := [(5, .long z1), (7, .int 1), (10, .long z1), (0, .ref (bd 0)), (1, .int (nI j)), (2, .long (lN st)), (4, .int (nI (gr_n G))), (8, .int (nI q)), (9, .int pI)]) hx hb dX5_nearest_126 hl (by decide) rfl (fun ls hl => ?_)
                        refine lv_aload_n hx hb dX5_nearest_128 rfl (lv_at hl 3 rfl) ?_
                        refine va_get (D := en.1) (ci := 5) (v := .ref (bd 6)) (C := RX5) (T := TX5) (N := 16) hx hb hts iw_X5_nearest_X5 hown hE.1 hP 0 rfl rfl 9 (by decide) (hts (.fieldLink RX5 25 "CreditGameModel" "above" "[I") (by decide +kernel)) (fun _ h9 => h9) rfl dX5_nearest_129 ?_
                        refine lv_iload_n hx hb dX5_nearest_132 rfl (lv_at hl 4 rfl) ?_
                        refine lv_iload hx hb dX5_nearest_133 (lv_at hl 8 rfl) ?_
                        refine mr_ist hx hb hE hP hI hS 6 (by decide) j rfl (show _ < 7 by omega) dX5_nearest_135 (fun H locs hP hS => ?_)
                        obtain ⟨d135, ed135⟩ : ∃ z : mT, z = (va_up e_.1 6 (upd (e_.1 6) j pI), e_.2) := ⟨_, rfl⟩
                        rw [← ed135] at hP
                        refine lv_aload_n hx hb dX5_nearest_136 rfl (lv_at hl 3 rfl) ?_
                        refine va_get (D := en.1) (ci := 5) (v := .ref (bd 7)) (C := RX5) (T := TX5) (N := 16) hx hb hts iw_X5_nearest_X5 hown hE.1 hP 0 rfl rfl 10 (by decide) (hts (.fieldLink RX5 28 "CreditGameModel" "below" "[I") (by decide +kernel)) (fun _ h9 => h9) rfl dX5_nearest_137 ?_
                        refine lv_iload_n hx hb dX5_nearest_140 rfl (lv_at hl 4 rfl) ?_
                        refine lv_iload hx hb dX5_nearest_141 (lv_at hl 7 rfl) ?_
                        refine mr_ist hx hb hE hP hI hS 7 (by decide) j rfl (show _ < 7 by omega) dX5_nearest_143 (fun H locs hP hS => ?_)
                        obtain ⟨d143, ed143⟩ : ∃ z : mT, z = (va_up d135.1 7 (upd (d135.1 7) j (nI q)), d135.2) := ⟨_, rfl⟩
                        rw [← ed143] at hP
                        refine lv_iinc (v := (pI + 1)) (lv' := [(9, .int (pI + 1)), (5, .long z1), (7, .int 1), (10, .long z1), (0, .ref (bd 0)), (1, .int (nI j)), (2, .long (lN st)), (4, .int (nI (gr_n G))), (8, .int (nI q))]) hx hb dX5_nearest_144 hl (k := 8) rfl rfl (by decide) rfl (fun ls hl => ?_)
                        refine lv_goto (tgt := 23) hx hb dX5_nearest_147 (by decide) ?_
                        exact ih23 (pI + 1) 1 z1 d143 _ _ _ (by rw [hp1]; omega) (by rw [hp1]; omega) (by rw [hp1]; omega) (by rw [ed143, ed135]; exact ⟨hk2.1, hk2.2.1.tr ((kx.up (by decide)).tr (kx.up (by decide))), fun u hu => ⟨(ud_ne hu).trans (hk2.2.2 u hu).1, (ud_ne hu).trans (hk2.2.2 u hu).2⟩⟩) (by rw [hp1]; exact nr_take hH hs2 hg1 hq1 hqn hn7 hlo q30 (by rw [ed143, ed135]; show (upd (e_.1 6) j pI j).toInt = _; rw [ud_at]) (by rw [ed143, ed135]; show upd (e_.1 7) j (nI q) j = _; rw [ud_at]) hoff ht_) hP hS (lv_sub hl [4, 5, 6, 7, 1, 2, 8, 0] rfl)
                      · skip
                        skip
                        have ht_ : ¬ (z1).toInt * (e_.1 7 j).toInt < bs2.toInt * (q : Int) := fun h9 => b115 ((lg_cmp_lt _ _).mpr (l_lt.mpr (by rw [e107, e113]; exact h9)))
                        refine lv_goto (tgt := 144) hx hb dX5_nearest_118 (by decide) ?_
                        refine lv_iinc (v := (pI + 1)) (lv' := [(9, .int (pI + 1)), (10, .long z1), (0, .ref (bd 0)), (1, .int (nI j)), (2, .long (lN st)), (4, .int (nI (gr_n G))), (5, .long bs2), (7, .int sm2), (8, .int (nI q))]) hx hb dX5_nearest_144 hl (k := 8) rfl rfl (by decide) rfl (fun ls hl => ?_)
                        refine lv_goto (tgt := 23) hx hb dX5_nearest_147 (by decide) ?_
                        exact ih23 (pI + 1) sm2 bs2 e_ _ _ _ (by rw [hp1]; omega) (by rw [hp1]; omega) (by rw [hp1]; omega) hk2 (by rw [hp1]; exact nr_keep hH hs2 hn7 hoff hsm ht_) hP hS (lv_sub hl [2, 3, 4, 5, 6, 7, 8, 0] rfl)
                  · skip
                    have q80 : ¬ _ := fun q => b80 ((lg_cmp_ge _ _).mpr (l_le.mpr q))
                    rw [l_0] at q80
                    have hoff : (-z1).toInt = ((pI.toInt * (st : Int) - viM G st j * (q : Int)).natAbs : Int) := by rw [l_neg (by omega)]; omega
                    refine lv_lload hx hb dX5_nearest_83 (lv_at hl 0 rfl) ?_
                    refine lv_lneg hx hb dX5_nearest_85 ?_
                    refine lv_goto (tgt := 91) hx hb dX5_nearest_86 (by decide) ?_
                    refine lv_lstore (lv' := [(10, .long (-z1)), (0, .ref (bd 0)), (1, .int (nI j)), (2, .long (lN st)), (4, .int (nI (gr_n G))), (5, .long bs2), (7, .int sm2), (8, .int (nI q)), (9, .int pI)]) hx hb dX5_nearest_91 hl (by decide) rfl (fun ls hl => ?_)
                    refine lv_iload hx hb dX5_nearest_93 (lv_at hl 6 rfl) ?_
                    refine lv_if_eq (tgt := 121) hx hb dX5_nearest_95 (by decide) (fun b95 => ?_) (fun b95 => ?_)
                    · skip
                      have ht_ : sm2 = 0 ∨ ((-z1)).toInt * (e_.1 7 j).toInt < bs2.toInt * (q : Int) := Or.inl b95
                      refine lv_iconst (v := 1) hx hb dX5_nearest_121 (by decide) ?_
                      refine lv_istore (lv' := [(7, .int 1), (10, .long (-z1)), (0, .ref (bd 0)), (1, .int (nI j)), (2, .long (lN st)), (4, .int (nI (gr_n G))), (5, .long bs2), (8, .int (nI q)), (9, .int pI)]) hx hb dX5_nearest_122 hl (by decide) rfl (fun ls hl => ?_)
                      refine lv_lload hx hb dX5_nearest_124 (lv_at hl 1 rfl) ?_
                      refine lv_lstore (lv' := [(5, .long (-z1)), (7, .int 1), (10, .long (-z1)), (0, .ref (bd 0)), (1, .int (nI j)), (2, .long (lN st)), (4, .int (nI (gr_n G))), (8, .int (nI q)), (9, .int pI)]) hx hb dX5_nearest_126 hl (by decide) rfl (fun ls hl => ?_)
                      refine lv_aload_n hx hb dX5_nearest_128 rfl (lv_at hl 3 rfl) ?_
                      refine va_get (D := en.1) (ci := 5) (v := .ref (bd 6)) (C := RX5) (T := TX5) (N := 16) hx hb hts iw_X5_nearest_X5 hown hE.1 hP 0 rfl rfl 9 (by decide) (hts (.fieldLink RX5 25 "CreditGameModel" "above" "[I") (by decide +kernel)) (fun _ h9 => h9) rfl dX5_nearest_129 ?_
                      refine lv_iload_n hx hb dX5_nearest_132 rfl (lv_at hl 4 rfl) ?_
                      refine lv_iload hx hb dX5_nearest_133 (lv_at hl 8 rfl) ?_
                      refine mr_ist hx hb hE hP hI hS 6 (by decide) j rfl (show _ < 7 by omega) dX5_nearest_135 (fun H locs hP hS => ?_)
                      obtain ⟨d135, ed135⟩ : ∃ z : mT, z = (va_up e_.1 6 (upd (e_.1 6) j pI), e_.2) := ⟨_, rfl⟩
                      rw [← ed135] at hP
                      refine lv_aload_n hx hb dX5_nearest_136 rfl (lv_at hl 3 rfl) ?_
                      refine va_get (D := en.1) (ci := 5) (v := .ref (bd 7)) (C := RX5) (T := TX5) (N := 16) hx hb hts iw_X5_nearest_X5 hown hE.1 hP 0 rfl rfl 10 (by decide) (hts (.fieldLink RX5 28 "CreditGameModel" "below" "[I") (by decide +kernel)) (fun _ h9 => h9) rfl dX5_nearest_137 ?_
                      refine lv_iload_n hx hb dX5_nearest_140 rfl (lv_at hl 4 rfl) ?_
                      refine lv_iload hx hb dX5_nearest_141 (lv_at hl 7 rfl) ?_
                      refine mr_ist hx hb hE hP hI hS 7 (by decide) j rfl (show _ < 7 by omega) dX5_nearest_143 (fun H locs hP hS => ?_)
                      obtain ⟨d143, ed143⟩ : ∃ z : mT, z = (va_up d135.1 7 (upd (d135.1 7) j (nI q)), d135.2) := ⟨_, rfl⟩
                      rw [← ed143] at hP
                      refine lv_iinc (v := (pI + 1)) (lv' := [(9, .int (pI + 1)), (5, .long (-z1)), (7, .int 1), (10, .long (-z1)), (0, .ref (bd 0)), (1, .int (nI j)), (2, .long (lN st)), (4, .int (nI (gr_n G))), (8, .int (nI q))]) hx hb dX5_nearest_144 hl (k := 8) rfl rfl (by decide) rfl (fun ls hl => ?_)
                      refine lv_goto (tgt := 23) hx hb dX5_nearest_147 (by decide) ?_
                      exact ih23 (pI + 1) 1 (-z1) d143 _ _ _ (by rw [hp1]; omega) (by rw [hp1]; omega) (by rw [hp1]; omega) (by rw [ed143, ed135]; exact ⟨hk2.1, hk2.2.1.tr ((kx.up (by decide)).tr (kx.up (by decide))), fun u hu => ⟨(ud_ne hu).trans (hk2.2.2 u hu).1, (ud_ne hu).trans (hk2.2.2 u hu).2⟩⟩) (by rw [hp1]; exact nr_take hH hs2 hg1 hq1 hqn hn7 hlo q30 (by rw [ed143, ed135]; show (upd (e_.1 6) j pI j).toInt = _; rw [ud_at]) (by rw [ed143, ed135]; show upd (e_.1 7) j (nI q) j = _; rw [ud_at]) hoff ht_) hP hS (lv_sub hl [4, 5, 6, 7, 1, 2, 8, 0] rfl)
                    · skip
                      have hsm := b95
                      have hbd := nr_bd hs2 hn7 ⟨by omega, by omega⟩ ⟨by omega, by omega⟩ hsm
                      have m3 := ab_mul (a := ((-z1)).toInt) (b := (e_.1 7 j).toInt) (A := 1555974) (B := 7) (by omega) (by omega) (by omega) (by omega)
                      have m4 := ab_mul (a := bs2.toInt) (b := (q : Int)) (A := 1555974) (B := 7) (by omega) (by omega) (by omega) (by omega)
                      have e107 : ((-z1) * (e_.1 7 j).toInt64).toInt = ((-z1)).toInt * (e_.1 7 j).toInt := by rw [l_mul (by rw [l_of]; omega) (by rw [l_of]; omega), l_of]
                      have e113 : (bs2 * lN q).toInt = bs2.toInt * (q : Int) := by rw [l_mul (by rw [lN_toInt (by omega)]; omega) (by rw [lN_toInt (by omega)]; omega), lN_toInt (by omega)]
                      refine lv_lload hx hb dX5_nearest_98 (lv_at hl 0 rfl) ?_
                      refine lv_aload_n hx hb dX5_nearest_100 rfl (lv_at hl 1 rfl) ?_
                      refine va_get (D := en.1) (ci := 5) (v := .ref (bd 7)) (C := RX5) (T := TX5) (N := 16) hx hb hts iw_X5_nearest_X5 hown hE.1 hP 0 rfl rfl 10 (by decide) (hts (.fieldLink RX5 28 "CreditGameModel" "below" "[I") (by decide +kernel)) (fun _ h9 => h9) rfl dX5_nearest_101 ?_
                      refine lv_iload_n hx hb dX5_nearest_104 rfl (lv_at hl 2 rfl) ?_
                      refine mr_ild hx hb hE hP 7 (by decide) j rfl (show _ < 7 by omega) dX5_nearest_105 ?_
                      refine lv_i2l (v := (e_.1 7 j).toInt64) hx hb dX5_nearest_106 rfl ?_
                      refine lv_lmul hx hb dX5_nearest_107 ?_
                      refine lv_lload hx hb dX5_nearest_108 (lv_at hl 5 rfl) ?_
                      refine lv_iload hx hb dX5_nearest_110 (lv_at hl 7 rfl) ?_
                      refine lv_i2l (v := (lN q)) hx hb dX5_nearest_112 (nI_l (by omega)) ?_
                      refine lv_lmul hx hb dX5_nearest_113 ?_
                      refine W.lcmp hx hb dX5_nearest_114 ?_
                      refine lv_if_lt (tgt := 121) hx hb dX5_nearest_115 (by decide) (fun b115 => ?_) (fun b115 => ?_)
                      · skip
                        have ht_ : sm2 = 0 ∨ ((-z1)).toInt * (e_.1 7 j).toInt < bs2.toInt * (q : Int) := Or.inr (by have h9 := l_lt.mp ((lg_cmp_lt _ _).mp b115); rw [e107, e113] at h9; exact h9)
                        refine lv_iconst (v := 1) hx hb dX5_nearest_121 (by decide) ?_
                        refine lv_istore (lv' := [(7, .int 1), (10, .long (-z1)), (0, .ref (bd 0)), (1, .int (nI j)), (2, .long (lN st)), (4, .int (nI (gr_n G))), (5, .long bs2), (8, .int (nI q)), (9, .int pI)]) hx hb dX5_nearest_122 hl (by decide) rfl (fun ls hl => ?_)
                        refine lv_lload hx hb dX5_nearest_124 (lv_at hl 1 rfl) ?_
                        refine lv_lstore (lv' := [(5, .long (-z1)), (7, .int 1), (10, .long (-z1)), (0, .ref (bd 0)), (1, .int (nI j)), (2, .long (lN st)), (4, .int (nI (gr_n G))), (8, .int (nI q)), (9, .int pI)]) hx hb dX5_nearest_126 hl (by decide) rfl (fun ls hl => ?_)
                        refine lv_aload_n hx hb dX5_nearest_128 rfl (lv_at hl 3 rfl) ?_
                        refine va_get (D := en.1) (ci := 5) (v := .ref (bd 6)) (C := RX5) (T := TX5) (N := 16) hx hb hts iw_X5_nearest_X5 hown hE.1 hP 0 rfl rfl 9 (by decide) (hts (.fieldLink RX5 25 "CreditGameModel" "above" "[I") (by decide +kernel)) (fun _ h9 => h9) rfl dX5_nearest_129 ?_
                        refine lv_iload_n hx hb dX5_nearest_132 rfl (lv_at hl 4 rfl) ?_
                        refine lv_iload hx hb dX5_nearest_133 (lv_at hl 8 rfl) ?_
                        refine mr_ist hx hb hE hP hI hS 6 (by decide) j rfl (show _ < 7 by omega) dX5_nearest_135 (fun H locs hP hS => ?_)
                        obtain ⟨d135, ed135⟩ : ∃ z : mT, z = (va_up e_.1 6 (upd (e_.1 6) j pI), e_.2) := ⟨_, rfl⟩
                        rw [← ed135] at hP
                        refine lv_aload_n hx hb dX5_nearest_136 rfl (lv_at hl 3 rfl) ?_
                        refine va_get (D := en.1) (ci := 5) (v := .ref (bd 7)) (C := RX5) (T := TX5) (N := 16) hx hb hts iw_X5_nearest_X5 hown hE.1 hP 0 rfl rfl 10 (by decide) (hts (.fieldLink RX5 28 "CreditGameModel" "below" "[I") (by decide +kernel)) (fun _ h9 => h9) rfl dX5_nearest_137 ?_
                        refine lv_iload_n hx hb dX5_nearest_140 rfl (lv_at hl 4 rfl) ?_
                        refine lv_iload hx hb dX5_nearest_141 (lv_at hl 7 rfl) ?_
                        refine mr_ist hx hb hE hP hI hS 7 (by decide) j rfl (show _ < 7 by omega) dX5_nearest_143 (fun H locs hP hS => ?_)
                        obtain ⟨d143, ed143⟩ : ∃ z : mT, z = (va_up d135.1 7 (upd (d135.1 7) j (nI q)), d135.2) := ⟨_, rfl⟩
                        rw [← ed143] at hP
                        refine lv_iinc (v := (pI + 1)) (lv' := [(9, .int (pI + 1)), (5, .long (-z1)), (7, .int 1), (10, .long (-z1)), (0, .ref (bd 0)), (1, .int (nI j)), (2, .long (lN st)), (4, .int (nI (gr_n G))), (8, .int (nI q))]) hx hb dX5_nearest_144 hl (k := 8) rfl rfl (by decide) rfl (fun ls hl => ?_)
                        refine lv_goto (tgt := 23) hx hb dX5_nearest_147 (by decide) ?_
                        exact ih23 (pI + 1) 1 (-z1) d143 _ _ _ (by rw [hp1]; omega) (by rw [hp1]; omega) (by rw [hp1]; omega) (by rw [ed143, ed135]; exact ⟨hk2.1, hk2.2.1.tr ((kx.up (by decide)).tr (kx.up (by decide))), fun u hu => ⟨(ud_ne hu).trans (hk2.2.2 u hu).1, (ud_ne hu).trans (hk2.2.2 u hu).2⟩⟩) (by rw [hp1]; exact nr_take hH hs2 hg1 hq1 hqn hn7 hlo q30 (by rw [ed143, ed135]; show (upd (e_.1 6) j pI j).toInt = _; rw [ud_at]) (by rw [ed143, ed135]; show upd (e_.1 7) j (nI q) j = _; rw [ud_at]) hoff ht_) hP hS (lv_sub hl [4, 5, 6, 7, 1, 2, 8, 0] rfl)
                      · skip
                        skip
                        have ht_ : ¬ ((-z1)).toInt * (e_.1 7 j).toInt < bs2.toInt * (q : Int) := fun h9 => b115 ((lg_cmp_lt _ _).mpr (l_lt.mpr (by rw [e107, e113]; exact h9)))
                        refine lv_goto (tgt := 144) hx hb dX5_nearest_118 (by decide) ?_
                        refine lv_iinc (v := (pI + 1)) (lv' := [(9, .int (pI + 1)), (10, .long (-z1)), (0, .ref (bd 0)), (1, .int (nI j)), (2, .long (lN st)), (4, .int (nI (gr_n G))), (5, .long bs2), (7, .int sm2), (8, .int (nI q))]) hx hb dX5_nearest_144 hl (k := 8) rfl rfl (by decide) rfl (fun ls hl => ?_)
                        refine lv_goto (tgt := 23) hx hb dX5_nearest_147 (by decide) ?_
                        exact ih23 (pI + 1) sm2 bs2 e_ _ _ _ (by rw [hp1]; omega) (by rw [hp1]; omega) (by rw [hp1]; omega) hk2 (by rw [hp1]; exact nr_keep hH hs2 hn7 hoff hsm ht_) hP hS (lv_sub hl [2, 3, 4, 5, 6, 7, 8, 0] rfl)
                · skip
                  skip
                  have hng : ¬ Nat.gcd pI.toInt.natAbs q = 1 := by rw [hab]; exact fun h9 => b52 (w48.trans (by rw [h9]; rfl))
                  refine lv_goto (tgt := 144) hx hb dX5_nearest_55 (by decide) ?_
                  refine lv_iinc (v := (pI + 1)) (lv' := [(9, .int (pI + 1)), (0, .ref (bd 0)), (1, .int (nI j)), (2, .long (lN st)), (4, .int (nI (gr_n G))), (5, .long bs2), (7, .int sm2), (8, .int (nI q))]) hx hb dX5_nearest_144 hl (k := 7) rfl rfl (by decide) rfl (fun ls hl => ?_)
                  refine lv_goto (tgt := 23) hx hb dX5_nearest_147 (by decide) ?_
                  exact ih23 (pI + 1) sm2 bs2 e_ _ _ _ (by rw [hp1]; omega) (by rw [hp1]; omega) (by rw [hp1]; omega) hk2 (by rw [hp1]; exact nr_skip hH hs2 hng) hP hS (lv_sub hl [1, 2, 3, 4, 5, 6, 7, 0] rfl)
        exact key23 (18 * q + 2) m9 sm bs d_ _ _ _ (by omega) (by omega) (by omega) hk_ (by rw [hm9]; exact hs_) hP hS (lv_sub hl [1, 2, 3, 4, 5, 6, 7, 0] rfl)
  exact key9 (gr_n G + 2) 1 0 0 d _ _ _ (Nat.le_refl 1) (by omega) (by omega) ⟨rfl, kx.rf, fun _ _ => ⟨rfl, rfl⟩⟩ (nr_first hH) hP hS (lv_sub hl [3, 4, 5, 6, 2, 1, 0] rfl)
