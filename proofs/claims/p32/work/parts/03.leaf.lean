-- numbers
theorem Zn_lt {a b : Nat} (ha : a < 2 ^ 31) (hb : b < 2 ^ 31) : nI a < nI b ↔ a < b := nI_ltI ha hb
theorem Zn_le {a b : Nat} (ha : a < 2 ^ 31) (hb : b < 2 ^ 31) : nI a ≤ nI b ↔ a ≤ b := nI_leI ha hb
theorem Zn_eq {a b : Nat} (ha : a < 2 ^ 31) (hb : b < 2 ^ 31) : nI a = nI b ↔ a = b := nI_eq ha hb
theorem Zlt_i (a b : Int32) : a < b ↔ a.toInt < b.toInt := Int32.lt_iff_toInt_lt
theorem Zle_i (a b : Int32) : a ≤ b ↔ a.toInt ≤ b.toInt := Int32.le_iff_toInt_le
theorem Zeq_i (a b : Int32) : a = b ↔ a.toInt = b.toInt := ⟨fun h => by rw [h], fun h => Int32.toInt_inj.mp h⟩
theorem Zr_lo (a : Int32) : -2147483648 ≤ a.toInt := by have := Int32.le_toInt a; omega
theorem Zr_hi (a : Int32) : a.toInt ≤ 2147483647 := by have := Int32.toInt_lt a; omega
theorem Zn_i {n : Nat} (h : n < 2 ^ 31) : (nI n).toInt = (n : Int) := nI_toInt h
theorem Zneg_i {n : Nat} (h : n < 2 ^ 31) : (-(nI n)).toInt = -(n : Int) := by
  rw [Int32.toInt_neg, nI_toInt h]
  exact Int.bmod_eq_of_le (by omega) (by omega)
theorem Zadd_i {a b : Int32} (h1 : -2147483648 ≤ a.toInt + b.toInt) (h2 : a.toInt + b.toInt < 2147483648) : (a + b).toInt = a.toInt + b.toInt := by
  rw [Int32.toInt_add]
  exact Int.bmod_eq_of_le (by omega) (by omega)
theorem Zsub_i {a b : Int32} (h1 : -2147483648 ≤ a.toInt - b.toInt) (h2 : a.toInt - b.toInt < 2147483648) : (a - b).toInt = a.toInt - b.toInt := by
  rw [Int32.toInt_sub]
  exact Int.bmod_eq_of_le (by omega) (by omega)
theorem Zmul_i {a b : Int32} (h1 : -2147483648 ≤ a.toInt * b.toInt) (h2 : a.toInt * b.toInt < 2147483648) : (a * b).toInt = a.toInt * b.toInt := by
  rw [Int32.toInt_mul]
  exact Int.bmod_eq_of_le (by omega) (by omega)
theorem Zin_i {x : Int32} {n : Nat} : vp_in x n ↔ 0 ≤ x.toInt ∧ x.toInt < n := vp_in_iff
theorem Zin_n {j n : Nat} (h : j < n) (hn : n < 2 ^ 31) : vp_in (nI j) n := vp_in_nI h hn
theorem Zof {x : Int32} (h : 0 ≤ x.toInt) : ∃ j : Nat, j < 2 ^ 31 ∧ x = nI j ∧ x.toInt = j := by
  refine ⟨x.toInt.toNat, by have := Zr_hi x; omega, ?_, by omega⟩
  rw [Zeq_i, Zn_i (by have := Zr_hi x; omega)]
  omega
theorem Zcl_n {j : Nat} (h : j < 2 ^ 31) : (nI j).toNatClampNeg = j := nI_clamp h
theorem Zn0 : nI 0 = 0 := nI_0
/-- what nobody keeps from one call to the next -/
def scr (o k : Nat) : Bool := match o with
  | 10 => true | 26 => true | 13 => true | 16 => true | 29 => true | 32 => true
  | 33 => true | 34 => true | 35 => true | 36 => true | 37 => true | 38 => true | 39 => true
  | 40 => k != 1 | 41 => true | 42 => true | 44 => true
  | 11 => k == 4 | 14 => k == 4 | 27 => k == 4 | 30 => k == 4
  | 53 => k != 2 && k != 19
  | 56 => true | 57 => true | 58 => true | 59 => true | 60 => true | 61 => true | 62 => true | 63 => true | 64 => true | 65 => true | 69 => true
  | _ => false
/-- nothing is changed but what nobody keeps -/
def Sc (M M' : Zmem) : Prop := ∀ o k, scr o k = false → M' o k = M o k
theorem Sc.rf (M : Zmem) : Sc M M := fun _ _ _ => rfl
theorem Sc.tr {M M' M'' : Zmem} (h : Sc M M') (h2 : Sc M' M'') : Sc M M'' := fun o k q => (h2 o k q).trans (h o k q)
theorem Zu_k (M : Zmem) (o k : Nat) (v : Int32) (a j : Nat) : Zu M o k v a j = if a = o ∧ j = k then v else M a j := by
  unfold Zu upd
  by_cases h : a = o
  · by_cases h2 : j = k
    · simp [h, h2]
    · simp [h, h2]
  · simp [h]
theorem Sc.u {M M' : Zmem} {o k : Nat} (h : Sc M M') (v : Int32) (hs : scr o k = true) : Sc M (Zu M' o k v) := by
  intro a j hq
  rw [Zu_k, if_neg]
  · exact h a j hq
  · rintro ⟨rfl, rfl⟩
    rw [hs] at hq
    cases hq
/-- a truth value as a number -/
def Zb (r : Option Value) (C : Prop) : Prop := (r = some (.int (nI 1)) ∧ C) ∨ (r = some (.int (nI 0)) ∧ ¬ C)

set_option maxRecDepth 20000 in
theorem c_max (a b : Int32) (M : Zmem) : ZC 200 0 [.int a, .int b] M (fun r M' => r = some (.int (if a < b then b else a)) ∧ M = M') := by
  refine ZC_of Zt200 Zk200 (Nat.le_of_ble_eq_true rfl) (by decide) rfl (fun X hX hE => ?_)
  refine Zgo hX 2 rfl trivial ?_
  refine Zs_ilt hX (List.cons_ne_nil _ _) (fun h2 => ?_) (fun h2 => ?_)
  · skip
    refine Zgo hX 1 rfl trivial ?_
    refine Zs_ret hX hE rfl ⟨by first | rw [if_pos h2] | rw [if_neg h2], rfl⟩
  · skip
    refine Zgo hX 2 rfl trivial ?_
    refine Zs_ret hX hE rfl ⟨by first | rw [if_pos h2] | rw [if_neg h2], rfl⟩

set_option maxRecDepth 20000 in
theorem c_min (a b : Int32) (M : Zmem) : ZC 201 0 [.int a, .int b] M (fun r M' => r = some (.int (if b < a then b else a)) ∧ M = M') := by
  refine ZC_of Zt201 Zk201 (Nat.le_of_ble_eq_true rfl) (by decide) rfl (fun X hX hE => ?_)
  refine Zgo hX 2 rfl trivial ?_
  refine Zs_igt hX (List.cons_ne_nil _ _) (fun h2 => ?_) (fun h2 => ?_)
  · skip
    refine Zgo hX 1 rfl trivial ?_
    refine Zs_ret hX hE rfl ⟨by first | rw [if_pos h2] | rw [if_neg h2], rfl⟩
  · skip
    refine Zgo hX 2 rfl trivial ?_
    refine Zs_ret hX hE rfl ⟨by first | rw [if_pos h2] | rw [if_neg h2], rfl⟩

set_option maxRecDepth 20000 in
theorem c_abs (a : Int32) (M : Zmem) : ZC 198 0 [.int a] M (fun r M' => r = some (.int (if 0 ≤ a then a else -a)) ∧ M = M') := by
  refine ZC_of Zt198 Zk198 (Nat.le_of_ble_eq_true rfl) (by decide) rfl (fun X hX hE => ?_)
  refine Zgo hX 1 rfl trivial ?_
  refine Zs_ge hX (List.cons_ne_nil _ _) (fun h1 => ?_) (fun h1 => ?_)
  · skip
    refine Zgo hX 1 rfl trivial ?_
    refine Zs_ret hX hE rfl ⟨by first | rw [if_pos h1] | rw [if_neg h1], rfl⟩
  · skip
    refine Zgo hX 3 rfl trivial ?_
    refine Zs_ret hX hE rfl ⟨by first | rw [if_pos h1] | rw [if_neg h1], rfl⟩

set_option maxRecDepth 20000 in
theorem c_floorMod (a b : Int32) (M : Zmem) (h0 : ¬ b = nI 0) : ZC 199 0 [.int a, .int b] M (fun r M' => r = some (.int (if (a ^^^ b) < 0 ∧ ¬ (a - a / b * b) = 0 then a - a / b * b + b else a - a / b * b)) ∧ M = M') := by
  refine ZC_of Zt199 Zk199 (Nat.le_of_ble_eq_true rfl) (by decide) rfl (fun X hX hE => ?_)
  refine Zgo hX 7 rfl h0 ?_
  refine Zs_ge hX (List.cons_ne_nil _ _) (fun h7 => ?_) (fun h7 => ?_)
  · skip
    refine Zgo hX 1 rfl trivial ?_
    refine Zs_ret hX hE rfl ⟨by rw [if_neg (by intro q; first | exact Int32.not_lt.mpr h7 q.1 | exact q.2 h11)], rfl⟩
  · skip
    refine Zgo hX 1 rfl trivial ?_
    refine Zs_eq hX (List.cons_ne_nil _ _) (fun h11 => ?_) (fun h11 => ?_)
    · skip
      refine Zgo hX 1 rfl trivial ?_
      refine Zs_ret hX hE rfl ⟨by rw [if_neg (by intro q; first | exact Int32.not_lt.mpr h7 q.1 | exact q.2 h11)], rfl⟩
    · skip
      refine Zgo hX 3 rfl trivial ?_
      refine Zs_ret hX hE rfl ⟨by rw [if_pos ⟨Int32.not_le.mp h7, h11⟩], rfl⟩

set_option maxRecDepth 20000 in
theorem c_bitCount (a : Int32) (M : Zmem) : ZC 197 0 [.int a] M (fun r M' => (∃ v : Int32, r = some (.int v)) ∧ M = M') := by
  refine ZC_of Zt197 Zk197 (Nat.le_of_ble_eq_true rfl) (by decide) rfl (fun X hX hE => ?_)
  refine Zgo hX 41 rfl trivial ?_
  refine Zs_ret hX hE rfl ⟨⟨_, rfl⟩, rfl⟩

set_option maxRecDepth 20000 in
theorem k_within (v a b : Int32) (M : Zmem) : ZC 46 0 [.int v, .int a, .int b] M (fun r M' => Zb r (a ≤ v ∧ v ≤ b) ∧ M = M') := by
  refine ZC_of Zt46 Zk46 (Nat.le_of_ble_eq_true rfl) (by decide) rfl (fun X hX hE => ?_)
  refine Zgo hX 2 rfl trivial ?_
  refine Zs_ilt hX (List.cons_ne_nil _ _) (fun h1 => ?_) (fun h1 => ?_)
  · skip
    refine Zgo hX 1 rfl trivial ?_
    refine Zs_retz hX hE rfl (by first | exact Or.inl rfl | exact Or.inr rfl | assumption) ⟨by first | exact Or.inr ⟨rfl, fun q => Int32.not_le.mpr h1 q.1⟩ | exact Or.inr ⟨rfl, fun q => Int32.not_le.mpr h2 q.2⟩ | exact Or.inl ⟨rfl, Int32.not_lt.mp h1, Int32.not_lt.mp h2⟩, rfl⟩
  · skip
    refine Zgo hX 2 rfl trivial ?_
    refine Zs_igt hX (List.cons_ne_nil _ _) (fun h2 => ?_) (fun h2 => ?_)
    · skip
      refine Zgo hX 1 rfl trivial ?_
      refine Zs_retz hX hE rfl (by first | exact Or.inl rfl | exact Or.inr rfl | assumption) ⟨by first | exact Or.inr ⟨rfl, fun q => Int32.not_le.mpr h1 q.1⟩ | exact Or.inr ⟨rfl, fun q => Int32.not_le.mpr h2 q.2⟩ | exact Or.inl ⟨rfl, Int32.not_lt.mp h1, Int32.not_lt.mp h2⟩, rfl⟩
    · skip
      refine Zgo hX 2 rfl trivial ?_
      refine Zs_retz hX hE rfl (by first | exact Or.inl rfl | exact Or.inr rfl | assumption) ⟨by first | exact Or.inr ⟨rfl, fun q => Int32.not_le.mpr h1 q.1⟩ | exact Or.inr ⟨rfl, fun q => Int32.not_le.mpr h2 q.2⟩ | exact Or.inl ⟨rfl, Int32.not_lt.mp h1, Int32.not_lt.mp h2⟩, rfl⟩

set_option maxRecDepth 20000 in
theorem s_in (v a b : Int32) (M : Zmem) : ZC 51 0 [.int v, .int a, .int b] M (fun r M' => Zb r (a ≤ v ∧ v ≤ b) ∧ M = M') := by
  refine ZC_of Zt51 Zk51 (Nat.le_of_ble_eq_true rfl) (by decide) rfl (fun X hX hE => ?_)
  refine Zgo hX 2 rfl trivial ?_
  refine Zs_ilt hX (List.cons_ne_nil _ _) (fun h1 => ?_) (fun h1 => ?_)
  · skip
    refine Zgo hX 1 rfl trivial ?_
    refine Zs_retz hX hE rfl (by first | exact Or.inl rfl | exact Or.inr rfl | assumption) ⟨by first | exact Or.inr ⟨rfl, fun q => Int32.not_le.mpr h1 q.1⟩ | exact Or.inr ⟨rfl, fun q => Int32.not_le.mpr h2 q.2⟩ | exact Or.inl ⟨rfl, Int32.not_lt.mp h1, Int32.not_lt.mp h2⟩, rfl⟩
  · skip
    refine Zgo hX 2 rfl trivial ?_
    refine Zs_igt hX (List.cons_ne_nil _ _) (fun h2 => ?_) (fun h2 => ?_)
    · skip
      refine Zgo hX 1 rfl trivial ?_
      refine Zs_retz hX hE rfl (by first | exact Or.inl rfl | exact Or.inr rfl | assumption) ⟨by first | exact Or.inr ⟨rfl, fun q => Int32.not_le.mpr h1 q.1⟩ | exact Or.inr ⟨rfl, fun q => Int32.not_le.mpr h2 q.2⟩ | exact Or.inl ⟨rfl, Int32.not_lt.mp h1, Int32.not_lt.mp h2⟩, rfl⟩
    · skip
      refine Zgo hX 2 rfl trivial ?_
      refine Zs_retz hX hE rfl (by first | exact Or.inl rfl | exact Or.inr rfl | assumption) ⟨by first | exact Or.inr ⟨rfl, fun q => Int32.not_le.mpr h1 q.1⟩ | exact Or.inr ⟨rfl, fun q => Int32.not_le.mpr h2 q.2⟩ | exact Or.inl ⟨rfl, Int32.not_lt.mp h1, Int32.not_lt.mp h2⟩, rfl⟩

set_option maxRecDepth 20000 in
theorem k_held (v a b : Int32) (M : Zmem) : ZC 47 1 [.int v, .int a, .int b] M (fun r M' => r = some (.int (if a < (if v < b then v else b) then (if v < b then v else b) else a)) ∧ M = M') := by
  refine ZC_of Zt47 Zk47 (Nat.le_of_ble_eq_true rfl) (by decide) rfl (fun X hX hE => ?_)
  refine Zgo hX 3 rfl trivial ?_
  refine Zs_calls hX (List.cons_ne_nil _ _) (by decide) (c_min _ _ _) (by decide) rfl rfl (by decide) (Nat.le_of_ble_eq_true rfl) (fun r M' hc => ?_)
  obtain ⟨rfl, rfl⟩ := hc
  refine Zs_calls hX (List.cons_ne_nil _ _) (by decide) (c_max _ _ _) (by decide) rfl rfl (by decide) (Nat.le_of_ble_eq_true rfl) (fun r M' hc => ?_)
  obtain ⟨rfl, rfl⟩ := hc
  refine Zs_ret hX hE rfl ⟨rfl, rfl⟩

set_option maxRecDepth 20000 in
theorem s_held (v a b : Int32) (M : Zmem) : ZC 52 0 [.int v, .int a, .int b] M (fun r M' => r = some (.int (if v < a then a else if b < v then b else v)) ∧ M = M') := by
  refine ZC_of Zt52 Zk52 (Nat.le_of_ble_eq_true rfl) (by decide) rfl (fun X hX hE => ?_)
  refine Zgo hX 2 rfl trivial ?_
  refine Zs_ige hX (List.cons_ne_nil _ _) (fun h1 => ?_) (fun h1 => ?_)
  · skip
    refine Zgo hX 2 rfl trivial ?_
    refine Zs_ile hX (List.cons_ne_nil _ _) (fun h2 => ?_) (fun h2 => ?_)
    · skip
      refine Zgo hX 1 rfl trivial ?_
      refine Zs_ret hX hE rfl ⟨by first | rw [if_pos (Int32.not_le.mp h1)] | rw [if_neg (Int32.not_lt.mpr h1), if_pos (Int32.not_le.mp h2)] | rw [if_neg (Int32.not_lt.mpr h1), if_neg (Int32.not_lt.mpr h2)], rfl⟩
    · skip
      refine Zgo hX 2 rfl trivial ?_
      refine Zs_ret hX hE rfl ⟨by first | rw [if_pos (Int32.not_le.mp h1)] | rw [if_neg (Int32.not_lt.mpr h1), if_pos (Int32.not_le.mp h2)] | rw [if_neg (Int32.not_lt.mpr h1), if_neg (Int32.not_lt.mpr h2)], rfl⟩
  · skip
    refine Zgo hX 2 rfl trivial ?_
    refine Zs_ret hX hE rfl ⟨by first | rw [if_pos (Int32.not_le.mp h1)] | rw [if_neg (Int32.not_lt.mpr h1), if_pos (Int32.not_le.mp h2)] | rw [if_neg (Int32.not_lt.mpr h1), if_neg (Int32.not_lt.mpr h2)], rfl⟩

set_option maxRecDepth 20000 in
theorem k_isStitch (v : Int32) (M : Zmem) : ZC 39 1 [.int v] M (fun r M' => Zb r (nI 0 ≤ v ∧ v ≤ nI 69) ∧ M = M') := by
  refine ZC_of Zt39 Zk39 (Nat.le_of_ble_eq_true rfl) (by decide) rfl (fun X hX hE => ?_)
  refine Zgo hX 3 rfl trivial ?_
  refine Zs_calls hX (List.cons_ne_nil _ _) (by decide) (k_within _ _ _ _) (by decide) rfl rfl (by decide) (Nat.le_of_ble_eq_true rfl) (fun r M' hc => ?_)
  rcases hc with ⟨⟨rfl, hb⟩ | ⟨rfl, hb⟩, rfl⟩
  · skip
    refine Zs_retz hX hE rfl (by first | exact Or.inl rfl | exact Or.inr rfl | assumption) ⟨by first | exact Or.inl ⟨rfl, hb⟩ | exact Or.inr ⟨rfl, hb⟩, rfl⟩
  · skip
    refine Zs_retz hX hE rfl (by first | exact Or.inl rfl | exact Or.inr rfl | assumption) ⟨by first | exact Or.inl ⟨rfl, hb⟩ | exact Or.inr ⟨rfl, hb⟩, rfl⟩

set_option maxRecDepth 20000 in
theorem k_isTension (v : Int32) (M : Zmem) : ZC 40 1 [.int v] M (fun r M' => Zb r (-(nI 9) ≤ v ∧ v ≤ nI 9) ∧ M = M') := by
  refine ZC_of Zt40 Zk40 (Nat.le_of_ble_eq_true rfl) (by decide) rfl (fun X hX hE => ?_)
  refine Zgo hX 3 rfl trivial ?_
  refine Zs_calls hX (List.cons_ne_nil _ _) (by decide) (k_within _ _ _ _) (by decide) rfl rfl (by decide) (Nat.le_of_ble_eq_true rfl) (fun r M' hc => ?_)
  rcases hc with ⟨⟨rfl, hb⟩ | ⟨rfl, hb⟩, rfl⟩
  · skip
    refine Zs_retz hX hE rfl (by first | exact Or.inl rfl | exact Or.inr rfl | assumption) ⟨by first | exact Or.inl ⟨rfl, hb⟩ | exact Or.inr ⟨rfl, hb⟩, rfl⟩
  · skip
    refine Zs_retz hX hE rfl (by first | exact Or.inl rfl | exact Or.inr rfl | assumption) ⟨by first | exact Or.inl ⟨rfl, hb⟩ | exact Or.inr ⟨rfl, hb⟩, rfl⟩

set_option maxRecDepth 20000 in
theorem k_isWater (v : Int32) (M : Zmem) : ZC 41 1 [.int v] M (fun r M' => Zb r (nI 0 ≤ v ∧ v ≤ nI 999) ∧ M = M') := by
  refine ZC_of Zt41 Zk41 (Nat.le_of_ble_eq_true rfl) (by decide) rfl (fun X hX hE => ?_)
  refine Zgo hX 3 rfl trivial ?_
  refine Zs_calls hX (List.cons_ne_nil _ _) (by decide) (k_within _ _ _ _) (by decide) rfl rfl (by decide) (Nat.le_of_ble_eq_true rfl) (fun r M' hc => ?_)
  rcases hc with ⟨⟨rfl, hb⟩ | ⟨rfl, hb⟩, rfl⟩
  · skip
    refine Zs_retz hX hE rfl (by first | exact Or.inl rfl | exact Or.inr rfl | assumption) ⟨by first | exact Or.inl ⟨rfl, hb⟩ | exact Or.inr ⟨rfl, hb⟩, rfl⟩
  · skip
    refine Zs_retz hX hE rfl (by first | exact Or.inl rfl | exact Or.inr rfl | assumption) ⟨by first | exact Or.inl ⟨rfl, hb⟩ | exact Or.inr ⟨rfl, hb⟩, rfl⟩

set_option maxRecDepth 20000 in
theorem k_isUse (v : Int32) (M : Zmem) : ZC 42 1 [.int v] M (fun r M' => Zb r (nI 0 ≤ v ∧ v ≤ nI 1) ∧ M = M') := by
  refine ZC_of Zt42 Zk42 (Nat.le_of_ble_eq_true rfl) (by decide) rfl (fun X hX hE => ?_)
  refine Zgo hX 3 rfl trivial ?_
  refine Zs_calls hX (List.cons_ne_nil _ _) (by decide) (k_within _ _ _ _) (by decide) rfl rfl (by decide) (Nat.le_of_ble_eq_true rfl) (fun r M' hc => ?_)
  rcases hc with ⟨⟨rfl, hb⟩ | ⟨rfl, hb⟩, rfl⟩
  · skip
    refine Zs_retz hX hE rfl (by first | exact Or.inl rfl | exact Or.inr rfl | assumption) ⟨by first | exact Or.inl ⟨rfl, hb⟩ | exact Or.inr ⟨rfl, hb⟩, rfl⟩
  · skip
    refine Zs_retz hX hE rfl (by first | exact Or.inl rfl | exact Or.inr rfl | assumption) ⟨by first | exact Or.inl ⟨rfl, hb⟩ | exact Or.inr ⟨rfl, hb⟩, rfl⟩

set_option maxRecDepth 20000 in
theorem k_isSheet (v : Int32) (M : Zmem) : ZC 43 1 [.int v] M (fun r M' => Zb r (nI 0 ≤ v ∧ v ≤ nI 3) ∧ M = M') := by
  refine ZC_of Zt43 Zk43 (Nat.le_of_ble_eq_true rfl) (by decide) rfl (fun X hX hE => ?_)
  refine Zgo hX 3 rfl trivial ?_
  refine Zs_calls hX (List.cons_ne_nil _ _) (by decide) (k_within _ _ _ _) (by decide) rfl rfl (by decide) (Nat.le_of_ble_eq_true rfl) (fun r M' hc => ?_)
  rcases hc with ⟨⟨rfl, hb⟩ | ⟨rfl, hb⟩, rfl⟩
  · skip
    refine Zs_retz hX hE rfl (by first | exact Or.inl rfl | exact Or.inr rfl | assumption) ⟨by first | exact Or.inl ⟨rfl, hb⟩ | exact Or.inr ⟨rfl, hb⟩, rfl⟩
  · skip
    refine Zs_retz hX hE rfl (by first | exact Or.inl rfl | exact Or.inr rfl | assumption) ⟨by first | exact Or.inl ⟨rfl, hb⟩ | exact Or.inr ⟨rfl, hb⟩, rfl⟩

set_option maxRecDepth 20000 in
theorem s_isTension (v : Int32) (M : Zmem) : ZC 55 1 [.int v] M (fun r M' => Zb r (-(nI 9) ≤ v ∧ v ≤ nI 9) ∧ M = M') := by
  refine ZC_of Zt55 Zk55 (Nat.le_of_ble_eq_true rfl) (by decide) rfl (fun X hX hE => ?_)
  refine Zgo hX 3 rfl trivial ?_
  refine Zs_calls hX (List.cons_ne_nil _ _) (by decide) (s_in _ _ _ _) (by decide) rfl rfl (by decide) (Nat.le_of_ble_eq_true rfl) (fun r M' hc => ?_)
  rcases hc with ⟨⟨rfl, hb⟩ | ⟨rfl, hb⟩, rfl⟩
  · skip
    refine Zs_retz hX hE rfl (by first | exact Or.inl rfl | exact Or.inr rfl | assumption) ⟨by first | exact Or.inl ⟨rfl, hb⟩ | exact Or.inr ⟨rfl, hb⟩, rfl⟩
  · skip
    refine Zs_retz hX hE rfl (by first | exact Or.inl rfl | exact Or.inr rfl | assumption) ⟨by first | exact Or.inl ⟨rfl, hb⟩ | exact Or.inr ⟨rfl, hb⟩, rfl⟩

set_option maxRecDepth 20000 in
theorem s_isKind (v : Int32) (M : Zmem) : ZC 88 1 [.int v] M (fun r M' => Zb r (nI 0 ≤ v ∧ v ≤ nI 69) ∧ M = M') := by
  refine ZC_of Zt88 Zk88 (Nat.le_of_ble_eq_true rfl) (by decide) rfl (fun X hX hE => ?_)
  refine Zgo hX 3 rfl trivial ?_
  refine Zs_calls hX (List.cons_ne_nil _ _) (by decide) (s_in _ _ _ _) (by decide) rfl rfl (by decide) (Nat.le_of_ble_eq_true rfl) (fun r M' hc => ?_)
  rcases hc with ⟨⟨rfl, hb⟩ | ⟨rfl, hb⟩, rfl⟩
  · skip
    refine Zs_retz hX hE rfl (by first | exact Or.inl rfl | exact Or.inr rfl | assumption) ⟨by first | exact Or.inl ⟨rfl, hb⟩ | exact Or.inr ⟨rfl, hb⟩, rfl⟩
  · skip
    refine Zs_retz hX hE rfl (by first | exact Or.inl rfl | exact Or.inr rfl | assumption) ⟨by first | exact Or.inl ⟨rfl, hb⟩ | exact Or.inr ⟨rfl, hb⟩, rfl⟩

set_option maxRecDepth 20000 in
theorem s_isWater (v : Int32) (M : Zmem) : ZC 99 1 [.int v] M (fun r M' => Zb r (nI 0 ≤ v ∧ v ≤ nI 999) ∧ M = M') := by
  refine ZC_of Zt99 Zk99 (Nat.le_of_ble_eq_true rfl) (by decide) rfl (fun X hX hE => ?_)
  refine Zgo hX 3 rfl trivial ?_
  refine Zs_calls hX (List.cons_ne_nil _ _) (by decide) (s_in _ _ _ _) (by decide) rfl rfl (by decide) (Nat.le_of_ble_eq_true rfl) (fun r M' hc => ?_)
  rcases hc with ⟨⟨rfl, hb⟩ | ⟨rfl, hb⟩, rfl⟩
  · skip
    refine Zs_retz hX hE rfl (by first | exact Or.inl rfl | exact Or.inr rfl | assumption) ⟨by first | exact Or.inl ⟨rfl, hb⟩ | exact Or.inr ⟨rfl, hb⟩, rfl⟩
  · skip
    refine Zs_retz hX hE rfl (by first | exact Or.inl rfl | exact Or.inr rfl | assumption) ⟨by first | exact Or.inl ⟨rfl, hb⟩ | exact Or.inr ⟨rfl, hb⟩, rfl⟩

set_option maxRecDepth 20000 in
theorem s_isSheet (v : Int32) (M : Zmem) : ZC 123 1 [.int v] M (fun r M' => Zb r (nI 0 ≤ v ∧ v ≤ nI 3) ∧ M = M') := by
  refine ZC_of Zt123 Zk123 (Nat.le_of_ble_eq_true rfl) (by decide) rfl (fun X hX hE => ?_)
  refine Zgo hX 3 rfl trivial ?_
  refine Zs_calls hX (List.cons_ne_nil _ _) (by decide) (s_in _ _ _ _) (by decide) rfl rfl (by decide) (Nat.le_of_ble_eq_true rfl) (fun r M' hc => ?_)
  rcases hc with ⟨⟨rfl, hb⟩ | ⟨rfl, hb⟩, rfl⟩
  · skip
    refine Zs_retz hX hE rfl (by first | exact Or.inl rfl | exact Or.inr rfl | assumption) ⟨by first | exact Or.inl ⟨rfl, hb⟩ | exact Or.inr ⟨rfl, hb⟩, rfl⟩
  · skip
    refine Zs_retz hX hE rfl (by first | exact Or.inl rfl | exact Or.inr rfl | assumption) ⟨by first | exact Or.inl ⟨rfl, hb⟩ | exact Or.inr ⟨rfl, hb⟩, rfl⟩
