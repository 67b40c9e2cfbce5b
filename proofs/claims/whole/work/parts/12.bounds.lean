/-! ===== k moves: the sum of the weights stays near k times the value; the nearest fraction ===== -/
/-- what k moves bring -/
def gm_vi (adj : Nat → List Nat) (tgt : Nat → Nat) (ow : Nat → Bool) (w : Nat → Int) : Nat → Nat → Int
  | 0, _ => 0
  | k + 1, v => if ow v = true then gm_mx ((adj v).map (fun e => w e + gm_vi adj tgt ow w k (tgt e))) else gm_mn ((adj v).map (fun e => w e + gm_vi adj tgt ow w k (tgt e)))
section GB
variable {n : Nat} {adj : Nat → List Nat} {tgt : Nat → Nat} {ow : Nat → Bool} {w : Nat → Int}
theorem gm_vi_bd (hA : ∀ v, v < n → adj v ≠ []) (hT : ∀ v, v < n → ∀ e ∈ adj v, tgt e < n) (hW : ∀ v, v < n → ∀ e ∈ adj v, -9 ≤ w e ∧ w e ≤ 9) : ∀ (k : Nat), k ≤ 100000 → ∀ v, v < n → -(9 * (k : Int)) ≤ gm_vi adj tgt ow w k v ∧ gm_vi adj tgt ow w k v ≤ 9 * (k : Int) := by
  intro k
  induction k with
  | zero => intro _ v _; simp [gm_vi]
  | succ k ih =>
    intro hk v hv
    have step : ∀ e ∈ adj v, -(9 * ((k + 1 : Nat) : Int)) ≤ w e + gm_vi adj tgt ow w k (tgt e) ∧ w e + gm_vi adj tgt ow w k (tgt e) ≤ 9 * ((k + 1 : Nat) : Int) := by
      intro e he
      have h1 := ih (by omega) (tgt e) (hT v hv e he)
      have h2 := hW v hv e he
      omega
    obtain ⟨e0, he0⟩ : ∃ e, e ∈ adj v := List.exists_mem_of_ne_nil _ (hA v hv)
    have h0 := step e0 he0
    simp only [gm_vi]
    split
    · have hin := gm_mx_in (l := (adj v).map (fun e => w e + gm_vi adj tgt ow w k (tgt e))) ⟨_, List.mem_map.mpr ⟨e0, he0, rfl⟩, by omega⟩
      obtain ⟨e, he, h⟩ := List.mem_map.mp hin
      rw [← h]
      exact step e he
    · have hin := gm_mn_in (l := (adj v).map (fun e => w e + gm_vi adj tgt ow w k (tgt e))) ⟨_, List.mem_map.mpr ⟨e0, he0, rfl⟩, by omega⟩
      obtain ⟨e, he, h⟩ := List.mem_map.mp hin
      rw [← h]
      exact step e he
theorem gm_vi_in (hA : ∀ v, v < n → adj v ≠ []) (hT : ∀ v, v < n → ∀ e ∈ adj v, tgt e < n) (hW : ∀ v, v < n → ∀ e ∈ adj v, -9 ≤ w e ∧ w e ≤ 9) {k : Nat} (hk : k < 100000) {v : Nat} (hv : v < n) : ∃ e ∈ adj v, gm_vi adj tgt ow w (k + 1) v = w e + gm_vi adj tgt ow w k (tgt e) := by
  obtain ⟨e0, he0⟩ : ∃ e, e ∈ adj v := List.exists_mem_of_ne_nil _ (hA v hv)
  have h1 := gm_vi_bd (ow := ow) hA hT hW k (by omega) (tgt e0) (hT v hv e0 he0)
  have h2 := hW v hv e0 he0
  simp only [gm_vi]
  split
  · have hin := gm_mx_in (l := (adj v).map (fun e => w e + gm_vi adj tgt ow w k (tgt e))) ⟨_, List.mem_map.mpr ⟨e0, he0, rfl⟩, by omega⟩
    obtain ⟨e, he, h⟩ := List.mem_map.mp hin
    exact ⟨e, he, h.symm⟩
  · have hin := gm_mn_in (l := (adj v).map (fun e => w e + gm_vi adj tgt ow w k (tgt e))) ⟨_, List.mem_map.mpr ⟨e0, he0, rfl⟩, by omega⟩
    obtain ⟨e, he, h⟩ := List.mem_map.mp hin
    exact ⟨e, he, h.symm⟩
/-- from a vertex that is won at p / q, k moves bring no less than k * p / q, but for what its credit takes -/
theorem gm_vi_low (hA : ∀ v, v < n → adj v ≠ []) (hT : ∀ v, v < n → ∀ e ∈ adj v, tgt e < n) (hW : ∀ v, v < n → ∀ e ∈ adj v, -9 ≤ w e ∧ w e ≤ 9) {p q : Int} (hq : 0 < q) {S : Nat → Prop} {f : Nat → Int} (hf0 : ∀ v, v < n → S v → 0 ≤ f v)
    (h1 : ∀ v, v < n → S v → ow v = true → ∃ e ∈ adj v, S (tgt e) ∧ f (tgt e) ≤ f v + (q * w e - p)) (h2 : ∀ v, v < n → S v → ow v = false → ∀ e ∈ adj v, S (tgt e) ∧ f (tgt e) ≤ f v + (q * w e - p)) :
    ∀ k, k ≤ 100000 → ∀ v, v < n → S v → -(f v) ≤ q * gm_vi adj tgt ow w k v - p * (k : Int) := by
  intro k
  induction k with
  | zero =>
    intro _ v hv hS
    have := hf0 v hv hS
    simp only [gm_vi]
    omega
  | succ k ih =>
    intro hk v hv hS
    have step : ∀ e ∈ adj v, S (tgt e) ∧ f (tgt e) ≤ f v + (q * w e - p) → -(f v) ≤ q * (w e + gm_vi adj tgt ow w k (tgt e)) - p * ((k + 1 : Nat) : Int) := by
      intro e he h
      have h3 := ih (by omega) (tgt e) (hT v hv e he) h.1
      have e1 : p * ((k + 1 : Nat) : Int) = p * (k : Int) + p := by simp only [Int.natCast_add, Int.natCast_one, Int.mul_add, Int.mul_one]
      rw [e1, Int.mul_add]
      omega
    cases ho : ow v with
    | true =>
      obtain ⟨e, he, h⟩ := h1 v hv hS ho
      have h3 := step e he h
      have h4 : w e + gm_vi adj tgt ow w k (tgt e) ≤ gm_vi adj tgt ow w (k + 1) v := by
        simp only [gm_vi, ho, if_true]
        exact gm_mx_mem (List.mem_map.mpr ⟨e, he, rfl⟩)
      have h5 := Int.mul_le_mul_of_nonneg_left h4 (show 0 ≤ q by omega)
      omega
    | false =>
      obtain ⟨e, he, h⟩ := gm_vi_in (ow := ow) hA hT hW (k := k) (by omega) hv
      rw [h]
      exact step e he (h2 v hv hS ho e he)
theorem gm_vi_up (hA : ∀ v, v < n → adj v ≠ []) (hT : ∀ v, v < n → ∀ e ∈ adj v, tgt e < n) (hW : ∀ v, v < n → ∀ e ∈ adj v, -9 ≤ w e ∧ w e ≤ 9) {p q : Int} (hq : 0 < q) {S : Nat → Prop} {f : Nat → Int} (hf0 : ∀ v, v < n → S v → 0 ≤ f v)
    (h1 : ∀ v, v < n → S v → ow v = false → ∃ e ∈ adj v, S (tgt e) ∧ f (tgt e) ≤ f v + ((-q) * w e - (-p))) (h2 : ∀ v, v < n → S v → ow v = true → ∀ e ∈ adj v, S (tgt e) ∧ f (tgt e) ≤ f v + ((-q) * w e - (-p))) :
    ∀ k, k ≤ 100000 → ∀ v, v < n → S v → q * gm_vi adj tgt ow w k v - p * (k : Int) ≤ f v := by
  intro k
  induction k with
  | zero =>
    intro _ v hv hS
    have := hf0 v hv hS
    simp only [gm_vi]
    omega
  | succ k ih =>
    intro hk v hv hS
    have step : ∀ e ∈ adj v, S (tgt e) ∧ f (tgt e) ≤ f v + ((-q) * w e - (-p)) → q * (w e + gm_vi adj tgt ow w k (tgt e)) - p * ((k + 1 : Nat) : Int) ≤ f v := by
      intro e he h
      have h3 := ih (by omega) (tgt e) (hT v hv e he) h.1
      have h4 := h.2
      rw [Int.neg_mul] at h4
      have e1 : p * ((k + 1 : Nat) : Int) = p * (k : Int) + p := by simp only [Int.natCast_add, Int.natCast_one, Int.mul_add, Int.mul_one]
      rw [e1, Int.mul_add]
      omega
    cases ho : ow v with
    | false =>
      obtain ⟨e, he, h⟩ := h1 v hv hS ho
      have h3 := step e he h
      have h4 : gm_vi adj tgt ow w (k + 1) v ≤ w e + gm_vi adj tgt ow w k (tgt e) := by
        simp only [gm_vi, ho, Bool.false_eq_true, if_false]
        exact gm_mn_mem (List.mem_map.mpr ⟨e, he, rfl⟩)
      have h5 := Int.mul_le_mul_of_nonneg_left h4 (show 0 ≤ q by omega)
      omega
    | true =>
      obtain ⟨e, he, h⟩ := gm_vi_in (ow := ow) hA hT hW (k := k) (by omega) hv
      rw [h]
      exact step e he (h2 v hv hS ho e he)
theorem gm_bnot_t {b : Bool} (h : (!b) = true) : b = false := by cases b <;> simp_all
theorem gm_bnot_f {b : Bool} (h : (!b) = false) : b = true := by cases b <;> simp_all
/-- k moves bring k times the value, but for 18 * (n - 1) -/
theorem gm_vi_near (hn : n ≤ 7) (hA : ∀ v, v < n → adj v ≠ []) (hT : ∀ v, v < n → ∀ e ∈ adj v, tgt e < n) (hW : ∀ v, v < n → ∀ e ∈ adj v, -9 ≤ w e ∧ w e ≤ 9) {k : Nat} (hk : k ≤ 100000) {v : Nat} (hv : v < n) :
    -(((n : Int) - 1) * 7560) ≤ 420 * gm_vi adj tgt ow w k v - gm_pay adj tgt ow w 8 [] v 0 * (k : Int) ∧ 420 * gm_vi adj tgt ow w k v - gm_pay adj tgt ow w 8 [] v 0 * (k : Int) ≤ ((n : Int) - 1) * 7560 := by
  have hok : gm_ok n [] := ⟨List.nodup_nil, fun q h => by cases h⟩
  have hb := gm_pay_bd (ow := ow) (k := 8) (π := []) (s := 0) hn hA hT hW (by simp) hok hv (fun u d s0 h => by simp [gm_at] at h)
  generalize hP : gm_pay adj tgt ow w 8 [] v 0 = P at hb ⊢
  constructor
  · have hwin := (gm_pay_ge (ow := ow) (w := w) (p := P) (q := 420) hn hT (by omega) (by omega) (by omega) 8 [] v 0 (by simp) hok hv).mp (by rw [hP]; omega)
    have hwin : gm_win adj tgt ow (fun e => 420 * w e - P) 8 [] v 0 := by simpa [gm_lift] using hwin
    obtain ⟨f, hf⟩ := gm_main (ow := ow) (w := fun e => 420 * w e - P) (M := 7560) hn (by omega) hT (fun v hv e he => by have := hW v hv e he; omega)
    have h3 := gm_vi_low (ow := ow) hA hT hW (p := P) (q := 420) (by omega) (S := fun u => gm_win adj tgt ow (fun e => 420 * w e - P) 8 [] u 0) (f := f) (fun u hu hS => (hf u hu hS).1.1) (fun u hu hS => (hf u hu hS).2.1) (fun u hu hS => (hf u hu hS).2.2) k hk v hv hwin
    have h4 := (hf v hv hwin).1.2
    omega
  · have hwin := (gm_pay_le (ow := ow) (w := w) (p := P) (q := 420) hn hT (by omega) (by omega) (by omega) 8 [] v 0 (by simp) hok hv).mp (by rw [hP]; omega)
    have hwin : gm_win adj tgt (fun v => !ow v) (fun e => (-420) * w e - (-P)) 8 [] v 0 := by simpa [gm_lift] using hwin
    obtain ⟨f, hf⟩ := gm_main (ow := fun v => !ow v) (w := fun e => (-420) * w e - (-P)) (M := 7560) hn (by omega) hT (fun v hv e he => by have := hW v hv e he; omega)
    have h3 := gm_vi_up (ow := ow) hA hT hW (p := P) (q := 420) (by omega) (S := fun u => gm_win adj tgt (fun v => !ow v) (fun e => (-420) * w e - (-P)) 8 [] u 0) (f := f) (fun u hu hS => (hf u hu hS).1.1) (fun u hu hS ho => (hf u hu hS).2.1 (by simp [ho])) (fun u hu hS ho => (hf u hu hS).2.2 (by simp [ho])) k hk v hv hwin
    have h4 := (hf v hv hwin).1.2
    omega
end GB
/-- a fraction of the right kind lies nearest: |p * st - V * q| / q is least at p0 / q0 alone -/
theorem gm_nearest {n st : Nat} {V P p0 p : Int} {q0 q : Nat} (hn : 1 ≤ n) (hst : st = 36 * n * n * n + 1) (h1 : -(((n : Int) - 1) * 7560) ≤ 420 * V - P * (st : Int)) (h2 : 420 * V - P * (st : Int) ≤ ((n : Int) - 1) * 7560)
    (hq0 : 1 ≤ q0) (hq0n : q0 ≤ n) (hP : P * (q0 : Int) = 420 * p0) (hq : 1 ≤ q) (hqn : q ≤ n) (hne : p * (q0 : Int) ≠ p0 * (q : Int)) :
    ((p0 * (st : Int) - V * (q0 : Int)).natAbs : Int) * (q : Int) < ((p * (st : Int) - V * (q : Int)).natAbs : Int) * (q0 : Int) := by
  -- off0 = p0 * st - V * q0, |off0| ≤ q0 * (n - 1) * 18
  have e0 : 420 * (p0 * (st : Int) - V * (q0 : Int)) = -((420 * V - P * (st : Int)) * (q0 : Int)) := by
    have : 420 * (p0 * (st : Int)) = P * (q0 : Int) * (st : Int) := by rw [hP, Int.mul_assoc]
    rw [Int.mul_sub, this, Int.sub_mul]
    have e2 : P * (st : Int) * (q0 : Int) = P * (q0 : Int) * (st : Int) := by rw [Int.mul_assoc, Int.mul_comm (st : Int), ← Int.mul_assoc]
    have e4 : 420 * V * (q0 : Int) = 420 * (V * (q0 : Int)) := Int.mul_assoc _ _ _
    rw [e2, e4]
    omega
  generalize hD : 420 * V - P * (st : Int) = D at e0 h1 h2
  have hq0' : (0 : Int) ≤ (q0 : Int) := by omega
  have b1 : -(((n : Int) - 1) * 7560) * (q0 : Int) ≤ D * (q0 : Int) := Int.mul_le_mul_of_nonneg_right h1 hq0'
  have b2 : D * (q0 : Int) ≤ ((n : Int) - 1) * 7560 * (q0 : Int) := Int.mul_le_mul_of_nonneg_right h2 hq0'
  have e3 : ((n : Int) - 1) * 7560 * (q0 : Int) = 7560 * (((n : Int) - 1) * (q0 : Int)) := by
    rw [Int.mul_comm ((n : Int) - 1) 7560, Int.mul_assoc]
  rw [Int.neg_mul, e3] at b1
  rw [e3] at b2
  generalize hX : ((n : Int) - 1) * (q0 : Int) = X at b1 b2
  generalize hO : p0 * (st : Int) - V * (q0 : Int) = O at e0 ⊢
  have c1 : -(18 * X) ≤ O := by omega
  have c2 : O ≤ 18 * X := by omega
  -- the other one
  have e5 : (p * (st : Int) - V * (q : Int)) * (q0 : Int) = (st : Int) * (p * (q0 : Int) - p0 * (q : Int)) + O * (q : Int) := by
    rw [← hO]
    simp only [Int.sub_mul, Int.mul_sub]
    have a1 : p * (st : Int) * (q0 : Int) = (st : Int) * (p * (q0 : Int)) := by rw [Int.mul_comm p, Int.mul_assoc]
    have a2 : V * (q : Int) * (q0 : Int) = V * (q0 : Int) * (q : Int) := by rw [Int.mul_assoc, Int.mul_comm (q : Int), ← Int.mul_assoc]
    have a3 : p0 * (st : Int) * (q : Int) = (st : Int) * (p0 * (q : Int)) := by rw [Int.mul_comm p0, Int.mul_assoc]
    rw [a1, a2, a3]
    omega
  have hq' : (0 : Int) ≤ (q : Int) := by omega
  have d1 : -(18 * X) * (q : Int) ≤ O * (q : Int) := Int.mul_le_mul_of_nonneg_right c1 hq'
  have d2 : O * (q : Int) ≤ 18 * X * (q : Int) := Int.mul_le_mul_of_nonneg_right c2 hq'
  have e6 : 18 * X * (q : Int) = 18 * (X * (q : Int)) := Int.mul_assoc _ _ _
  rw [Int.neg_mul, e6] at d1
  rw [e6] at d2
  -- X * q ≤ (n - 1) * n * n
  have hXq : X * (q : Int) ≤ ((n : Int) - 1) * (n : Int) * (n : Int) := by
    rw [← hX]
    have f1 : ((n : Int) - 1) * (q0 : Int) ≤ ((n : Int) - 1) * (n : Int) := Int.mul_le_mul_of_nonneg_left (by omega) (by omega)
    have f2 : ((n : Int) - 1) * (q0 : Int) * (q : Int) ≤ ((n : Int) - 1) * (n : Int) * (q : Int) := Int.mul_le_mul_of_nonneg_right f1 hq'
    have f3 : ((n : Int) - 1) * (n : Int) * (q : Int) ≤ ((n : Int) - 1) * (n : Int) * (n : Int) := Int.mul_le_mul_of_nonneg_left (by omega) (Int.mul_nonneg (by omega) (by omega))
    omega
  have hst' : (st : Int) = 36 * ((n : Int) * (n : Int) * (n : Int)) + 1 := by
    rw [hst]
    simp only [Int.natCast_add, Int.natCast_mul, Int.natCast_one, Int.mul_assoc]
    rfl
  have hnn : ((n : Int) - 1) * (n : Int) * (n : Int) ≤ (n : Int) * (n : Int) * (n : Int) := by
    have g1 : ((n : Int) - 1) * (n : Int) ≤ (n : Int) * (n : Int) := Int.mul_le_mul_of_nonneg_right (by omega) (by omega)
    exact Int.mul_le_mul_of_nonneg_right g1 (by omega)
  generalize X * (q : Int) = Y at d1 d2 hXq
  generalize (n : Int) * (n : Int) * (n : Int) = N3 at hst' hnn
  have hY : 36 * Y < (st : Int) := by omega
  -- |st * z| ≥ st
  have hz : p * (q0 : Int) - p0 * (q : Int) ≠ 0 := fun h => hne (by omega)
  generalize p * (q0 : Int) - p0 * (q : Int) = z at hz e5
  have hstz : (st : Int) ≤ (st : Int) * z ∨ (st : Int) * z ≤ -(st : Int) := by
    rcases Int.lt_or_gt_of_ne hz with h | h
    · right
      have : (st : Int) * z ≤ (st : Int) * (-1) := Int.mul_le_mul_of_nonneg_left (by omega) (by omega)
      omega
    · left
      have : (st : Int) * 1 ≤ (st : Int) * z := Int.mul_le_mul_of_nonneg_left (by omega) (by omega)
      omega
  generalize (st : Int) * z = Z at e5 hstz
  have m1 : ((O.natAbs : Nat) : Int) * (q : Int) = ((O * (q : Int)).natAbs : Int) := by
    rw [Int.natAbs_mul, Int.natCast_mul, Int.natAbs_natCast]
  have m2 : ((p * (st : Int) - V * (q : Int)).natAbs : Int) * (q0 : Int) = (((p * (st : Int) - V * (q : Int)) * (q0 : Int)).natAbs : Int) := by
    rw [Int.natAbs_mul, Int.natCast_mul, Int.natAbs_natCast]
  rw [m1, m2, e5]
  generalize O * (q : Int) = U at d1 d2 ⊢
  omega
