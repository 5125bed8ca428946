-- numbers
theorem Zn_lt {a_z b_z : Nat} (ha_z : a_z < 2 ^ 31) (hb_z : b_z < 2 ^ 31) : nI a_z < nI b_z ↔ a_z < b_z := nI_ltI ha_z hb_z
theorem Zn_le {a_z b_z : Nat} (ha_z : a_z < 2 ^ 31) (hb_z : b_z < 2 ^ 31) : nI a_z ≤ nI b_z ↔ a_z ≤ b_z := nI_leI ha_z hb_z
theorem Zn_eq {a_z b_z : Nat} (ha_z : a_z < 2 ^ 31) (hb_z : b_z < 2 ^ 31) : nI a_z = nI b_z ↔ a_z = b_z := nI_eq ha_z hb_z
theorem Zlt_i (a_z b_z : Int32) : a_z < b_z ↔ a_z.toInt < b_z.toInt := Int32.lt_iff_toInt_lt
theorem Zle_i (a_z b_z : Int32) : a_z ≤ b_z ↔ a_z.toInt ≤ b_z.toInt := Int32.le_iff_toInt_le
theorem Zeq_i (a_z b_z : Int32) : a_z = b_z ↔ a_z.toInt = b_z.toInt := ⟨fun h_z => by rw [h_z], fun h_z => Int32.toInt_inj.mp h_z⟩
theorem Zr_lo (a_z : Int32) : -2147483648 ≤ a_z.toInt := by have := Int32.le_toInt a_z; omega
theorem Zr_hi (a_z : Int32) : a_z.toInt ≤ 2147483647 := by have := Int32.toInt_lt a_z; omega
theorem Zn_i {n_z : Nat} (h_z : n_z < 2 ^ 31) : (nI n_z).toInt = (n_z : Int) := nI_toInt h_z
theorem Zneg_i {n_z : Nat} (h_z : n_z < 2 ^ 31) : (-(nI n_z)).toInt = -(n_z : Int) := by
  rw [Int32.toInt_neg, nI_toInt h_z]
  exact Int.bmod_eq_of_le (by omega) (by omega)
theorem Zadd_i {a_z b_z : Int32} (h1_z : -2147483648 ≤ a_z.toInt + b_z.toInt) (h2_z : a_z.toInt + b_z.toInt < 2147483648) : (a_z + b_z).toInt = a_z.toInt + b_z.toInt := by
  rw [Int32.toInt_add]
  exact Int.bmod_eq_of_le (by omega) (by omega)
theorem Zsub_i {a_z b_z : Int32} (h1_z : -2147483648 ≤ a_z.toInt - b_z.toInt) (h2_z : a_z.toInt - b_z.toInt < 2147483648) : (a_z - b_z).toInt = a_z.toInt - b_z.toInt := by
  rw [Int32.toInt_sub]
  exact Int.bmod_eq_of_le (by omega) (by omega)
theorem Zmul_i {a_z b_z : Int32} (h1_z : -2147483648 ≤ a_z.toInt * b_z.toInt) (h2_z : a_z.toInt * b_z.toInt < 2147483648) : (a_z * b_z).toInt = a_z.toInt * b_z.toInt := by
  rw [Int32.toInt_mul]
  exact Int.bmod_eq_of_le (by omega) (by omega)
theorem Zin_i {x_z : Int32} {n_z : Nat} : vp_in x_z n_z ↔ 0 ≤ x_z.toInt ∧ x_z.toInt < n_z := vp_in_iff
theorem Zin_n {j_z n_z : Nat} (h_z : j_z < n_z) (hn_z : n_z < 2 ^ 31) : vp_in (nI j_z) n_z := vp_in_nI h_z hn_z
theorem Zof {x_z : Int32} (h_z : 0 ≤ x_z.toInt) : ∃ j_z : Nat, j_z < 2 ^ 31 ∧ x_z = nI j_z ∧ x_z.toInt = j_z := by
  refine ⟨x_z.toInt.toNat, by have := Zr_hi x_z; omega, ?_, by omega⟩
  rw [Zeq_i, Zn_i (by have := Zr_hi x_z; omega)]
  omega
theorem Zcl_n {j_z : Nat} (h_z : j_z < 2 ^ 31) : (nI j_z).toNatClampNeg = j_z := nI_clamp h_z
theorem Zn0 : nI 0 = 0 := nI_0
/-- what nobody keeps from one call to the next -/
def scr (o_z k_z : Nat) : Bool := match o_z with
  | 10 => true | 26 => true | 13 => true | 16 => true | 29 => true | 32 => true
  | 33 => true | 34 => true | 35 => true | 36 => true | 37 => true | 38 => true | 39 => true
  | 40 => k_z != 1 | 41 => true | 42 => true | 44 => true
  | 11 => k_z == 4 | 14 => k_z == 4 | 27 => k_z == 4 | 30 => k_z == 4
  | 53 => k_z != 2 && k_z != 19
  | 56 => true | 57 => true | 58 => true | 59 => true | 60 => true | 61 => true | 62 => true | 63 => true | 64 => true | 65 => true | 69 => true
  | _ => false
/-- nothing is changed but what nobody keeps -/
def Sc (M M' : Zmem) : Prop := ∀ o_z k_z, scr o_z k_z = false → M' o_z k_z = M o_z k_z
theorem Sc.rf (M : Zmem) : Sc M M := fun _ _ _ => rfl
theorem Sc.tr {M M' M'' : Zmem} (h_z : Sc M M') (h2_z : Sc M' M'') : Sc M M'' := fun o_z k_z q_z => (h2_z o_z k_z q_z).trans (h_z o_z k_z q_z)
theorem Zu_k (M : Zmem) (o_z k_z : Nat) (v_z : Int32) (a_z j_z : Nat) : Zu M o_z k_z v_z a_z j_z = if a_z = o_z ∧ j_z = k_z then v_z else M a_z j_z := by
  unfold Zu upd
  by_cases h_z : a_z = o_z
  · by_cases h2_z : j_z = k_z
    · simp [h_z, h2_z]
    · simp [h_z, h2_z]
  · simp [h_z]
theorem Sc.u {M M' : Zmem} {o_z k_z : Nat} (h_z : Sc M M') (v_z : Int32) (hs_z : scr o_z k_z = true) : Sc M (Zu M' o_z k_z v_z) := by
  intro a_z j_z hq_z
  rw [Zu_k, if_neg]
  · exact h_z a_z j_z hq_z
  · rintro ⟨rfl, rfl⟩
    rw [hs_z] at hq_z
    cases hq_z
/-- a_z truth value as a_z number -/
def Zb (r_z : Option Value) (C : Prop) : Prop := (r_z = some (.int (nI 1)) ∧ C) ∨ (r_z = some (.int (nI 0)) ∧ ¬ C)

set_option maxRecDepth 20000 in
theorem c_max (a_z b_z : Int32) (M : Zmem) : ZC 200 0 [.int a_z, .int b_z] M (fun r_z M' => r_z = some (.int (if a_z < b_z then b_z else a_z)) ∧ M = M') := by
  refine ZC_of Zt200 Zk200 (Nat.le_of_ble_eq_true rfl) (by decide) rfl (fun X hX hE => ?_)
  refine Zgo hX 2 rfl trivial ?_
  refine Zs_ilt hX (List.cons_ne_nil _ _) (fun h2_z => ?_) (fun h2_z => ?_)
  · skip
    refine Zgo hX 1 rfl trivial ?_
    refine Zs_ret hX hE rfl ⟨by first | rw [if_pos h2_z] | rw [if_neg h2_z], rfl⟩
  · skip
    refine Zgo hX 2 rfl trivial ?_
    refine Zs_ret hX hE rfl ⟨by first | rw [if_pos h2_z] | rw [if_neg h2_z], rfl⟩

set_option maxRecDepth 20000 in
theorem c_min (a_z b_z : Int32) (M : Zmem) : ZC 201 0 [.int a_z, .int b_z] M (fun r_z M' => r_z = some (.int (if b_z < a_z then b_z else a_z)) ∧ M = M') := by
  refine ZC_of Zt201 Zk201 (Nat.le_of_ble_eq_true rfl) (by decide) rfl (fun X hX hE => ?_)
  refine Zgo hX 2 rfl trivial ?_
  refine Zs_igt hX (List.cons_ne_nil _ _) (fun h2_z => ?_) (fun h2_z => ?_)
  · skip
    refine Zgo hX 1 rfl trivial ?_
    refine Zs_ret hX hE rfl ⟨by first | rw [if_pos h2_z] | rw [if_neg h2_z], rfl⟩
  · skip
    refine Zgo hX 2 rfl trivial ?_
    refine Zs_ret hX hE rfl ⟨by first | rw [if_pos h2_z] | rw [if_neg h2_z], rfl⟩

set_option maxRecDepth 20000 in
theorem c_abs (a_z : Int32) (M : Zmem) : ZC 198 0 [.int a_z] M (fun r_z M' => r_z = some (.int (if 0 ≤ a_z then a_z else -a_z)) ∧ M = M') := by
  refine ZC_of Zt198 Zk198 (Nat.le_of_ble_eq_true rfl) (by decide) rfl (fun X hX hE => ?_)
  refine Zgo hX 1 rfl trivial ?_
  refine Zs_ge hX (List.cons_ne_nil _ _) (fun h1_z => ?_) (fun h1_z => ?_)
  · skip
    refine Zgo hX 1 rfl trivial ?_
    refine Zs_ret hX hE rfl ⟨by first | rw [if_pos h1_z] | rw [if_neg h1_z], rfl⟩
  · skip
    refine Zgo hX 3 rfl trivial ?_
    refine Zs_ret hX hE rfl ⟨by first | rw [if_pos h1_z] | rw [if_neg h1_z], rfl⟩

set_option maxRecDepth 20000 in
theorem c_floorMod (a_z b_z : Int32) (M : Zmem) (h0_z : ¬ b_z = nI 0) : ZC 199 0 [.int a_z, .int b_z] M (fun r_z M' => r_z = some (.int (if (a_z ^^^ b_z) < 0 ∧ ¬ (a_z - a_z / b_z * b_z) = 0 then a_z - a_z / b_z * b_z + b_z else a_z - a_z / b_z * b_z)) ∧ M = M') := by
  refine ZC_of Zt199 Zk199 (Nat.le_of_ble_eq_true rfl) (by decide) rfl (fun X hX hE => ?_)
  refine Zgo hX 7 rfl h0_z ?_
  refine Zs_ge hX (List.cons_ne_nil _ _) (fun h7_z => ?_) (fun h7_z => ?_)
  · skip
    refine Zgo hX 1 rfl trivial ?_
    refine Zs_ret hX hE rfl ⟨by rw [if_neg (by intro q_z; first | exact Int32.not_lt.mpr h7_z q_z.1 | exact q_z.2 h11_z)], rfl⟩
  · skip
    refine Zgo hX 1 rfl trivial ?_
    refine Zs_eq hX (List.cons_ne_nil _ _) (fun h11_z => ?_) (fun h11_z => ?_)
    · skip
      refine Zgo hX 1 rfl trivial ?_
      refine Zs_ret hX hE rfl ⟨by rw [if_neg (by intro q_z; first | exact Int32.not_lt.mpr h7_z q_z.1 | exact q_z.2 h11_z)], rfl⟩
    · skip
      refine Zgo hX 3 rfl trivial ?_
      refine Zs_ret hX hE rfl ⟨by rw [if_pos ⟨Int32.not_le.mp h7_z, h11_z⟩], rfl⟩

set_option maxRecDepth 20000 in
theorem c_bitCount (a_z : Int32) (M : Zmem) : ZC 197 0 [.int a_z] M (fun r_z M' => (∃ v_z : Int32, r_z = some (.int v_z)) ∧ M = M') := by
  refine ZC_of Zt197 Zk197 (Nat.le_of_ble_eq_true rfl) (by decide) rfl (fun X hX hE => ?_)
  refine Zgo hX 41 rfl trivial ?_
  refine Zs_ret hX hE rfl ⟨⟨_, rfl⟩, rfl⟩

set_option maxRecDepth 20000 in
theorem k_within (v_z a_z b_z : Int32) (M : Zmem) : ZC 46 0 [.int v_z, .int a_z, .int b_z] M (fun r_z M' => Zb r_z (a_z ≤ v_z ∧ v_z ≤ b_z) ∧ M = M') := by
  refine ZC_of Zt46 Zk46 (Nat.le_of_ble_eq_true rfl) (by decide) rfl (fun X hX hE => ?_)
  refine Zgo hX 2 rfl trivial ?_
  refine Zs_ilt hX (List.cons_ne_nil _ _) (fun h1_z => ?_) (fun h1_z => ?_)
  · skip
    refine Zgo hX 1 rfl trivial ?_
    refine Zs_retz hX hE rfl (by first | exact Or.inl rfl | exact Or.inr rfl | assumption) ⟨by first | exact Or.inr ⟨rfl, fun q_z => Int32.not_le.mpr h1_z q_z.1⟩ | exact Or.inr ⟨rfl, fun q_z => Int32.not_le.mpr h2_z q_z.2⟩ | exact Or.inl ⟨rfl, Int32.not_lt.mp h1_z, Int32.not_lt.mp h2_z⟩, rfl⟩
  · skip
    refine Zgo hX 2 rfl trivial ?_
    refine Zs_igt hX (List.cons_ne_nil _ _) (fun h2_z => ?_) (fun h2_z => ?_)
    · skip
      refine Zgo hX 1 rfl trivial ?_
      refine Zs_retz hX hE rfl (by first | exact Or.inl rfl | exact Or.inr rfl | assumption) ⟨by first | exact Or.inr ⟨rfl, fun q_z => Int32.not_le.mpr h1_z q_z.1⟩ | exact Or.inr ⟨rfl, fun q_z => Int32.not_le.mpr h2_z q_z.2⟩ | exact Or.inl ⟨rfl, Int32.not_lt.mp h1_z, Int32.not_lt.mp h2_z⟩, rfl⟩
    · skip
      refine Zgo hX 2 rfl trivial ?_
      refine Zs_retz hX hE rfl (by first | exact Or.inl rfl | exact Or.inr rfl | assumption) ⟨by first | exact Or.inr ⟨rfl, fun q_z => Int32.not_le.mpr h1_z q_z.1⟩ | exact Or.inr ⟨rfl, fun q_z => Int32.not_le.mpr h2_z q_z.2⟩ | exact Or.inl ⟨rfl, Int32.not_lt.mp h1_z, Int32.not_lt.mp h2_z⟩, rfl⟩

set_option maxRecDepth 20000 in
theorem s_in (v_z a_z b_z : Int32) (M : Zmem) : ZC 51 0 [.int v_z, .int a_z, .int b_z] M (fun r_z M' => Zb r_z (a_z ≤ v_z ∧ v_z ≤ b_z) ∧ M = M') := by
  refine ZC_of Zt51 Zk51 (Nat.le_of_ble_eq_true rfl) (by decide) rfl (fun X hX hE => ?_)
  refine Zgo hX 2 rfl trivial ?_
  refine Zs_ilt hX (List.cons_ne_nil _ _) (fun h1_z => ?_) (fun h1_z => ?_)
  · skip
    refine Zgo hX 1 rfl trivial ?_
    refine Zs_retz hX hE rfl (by first | exact Or.inl rfl | exact Or.inr rfl | assumption) ⟨by first | exact Or.inr ⟨rfl, fun q_z => Int32.not_le.mpr h1_z q_z.1⟩ | exact Or.inr ⟨rfl, fun q_z => Int32.not_le.mpr h2_z q_z.2⟩ | exact Or.inl ⟨rfl, Int32.not_lt.mp h1_z, Int32.not_lt.mp h2_z⟩, rfl⟩
  · skip
    refine Zgo hX 2 rfl trivial ?_
    refine Zs_igt hX (List.cons_ne_nil _ _) (fun h2_z => ?_) (fun h2_z => ?_)
    · skip
      refine Zgo hX 1 rfl trivial ?_
      refine Zs_retz hX hE rfl (by first | exact Or.inl rfl | exact Or.inr rfl | assumption) ⟨by first | exact Or.inr ⟨rfl, fun q_z => Int32.not_le.mpr h1_z q_z.1⟩ | exact Or.inr ⟨rfl, fun q_z => Int32.not_le.mpr h2_z q_z.2⟩ | exact Or.inl ⟨rfl, Int32.not_lt.mp h1_z, Int32.not_lt.mp h2_z⟩, rfl⟩
    · skip
      refine Zgo hX 2 rfl trivial ?_
      refine Zs_retz hX hE rfl (by first | exact Or.inl rfl | exact Or.inr rfl | assumption) ⟨by first | exact Or.inr ⟨rfl, fun q_z => Int32.not_le.mpr h1_z q_z.1⟩ | exact Or.inr ⟨rfl, fun q_z => Int32.not_le.mpr h2_z q_z.2⟩ | exact Or.inl ⟨rfl, Int32.not_lt.mp h1_z, Int32.not_lt.mp h2_z⟩, rfl⟩

set_option maxRecDepth 20000 in
theorem k_held (v_z a_z b_z : Int32) (M : Zmem) : ZC 47 1 [.int v_z, .int a_z, .int b_z] M (fun r_z M' => r_z = some (.int (if a_z < (if v_z < b_z then v_z else b_z) then (if v_z < b_z then v_z else b_z) else a_z)) ∧ M = M') := by
  refine ZC_of Zt47 Zk47 (Nat.le_of_ble_eq_true rfl) (by decide) rfl (fun X hX hE => ?_)
  refine Zgo hX 3 rfl trivial ?_
  refine Zs_calls hX (List.cons_ne_nil _ _) (by decide) (c_min _ _ _) (by decide) rfl rfl (by decide) (Nat.le_of_ble_eq_true rfl) (fun r_z M' hc_z => ?_)
  obtain ⟨rfl, rfl⟩ := hc_z
  refine Zs_calls hX (List.cons_ne_nil _ _) (by decide) (c_max _ _ _) (by decide) rfl rfl (by decide) (Nat.le_of_ble_eq_true rfl) (fun r_z M' hc_z => ?_)
  obtain ⟨rfl, rfl⟩ := hc_z
  refine Zs_ret hX hE rfl ⟨rfl, rfl⟩

set_option maxRecDepth 20000 in
theorem s_held (v_z a_z b_z : Int32) (M : Zmem) : ZC 52 0 [.int v_z, .int a_z, .int b_z] M (fun r_z M' => r_z = some (.int (if v_z < a_z then a_z else if b_z < v_z then b_z else v_z)) ∧ M = M') := by
  refine ZC_of Zt52 Zk52 (Nat.le_of_ble_eq_true rfl) (by decide) rfl (fun X hX hE => ?_)
  refine Zgo hX 2 rfl trivial ?_
  refine Zs_ige hX (List.cons_ne_nil _ _) (fun h1_z => ?_) (fun h1_z => ?_)
  · skip
    refine Zgo hX 2 rfl trivial ?_
    refine Zs_ile hX (List.cons_ne_nil _ _) (fun h2_z => ?_) (fun h2_z => ?_)
    · skip
      refine Zgo hX 1 rfl trivial ?_
      refine Zs_ret hX hE rfl ⟨by first | rw [if_pos (Int32.not_le.mp h1_z)] | rw [if_neg (Int32.not_lt.mpr h1_z), if_pos (Int32.not_le.mp h2_z)] | rw [if_neg (Int32.not_lt.mpr h1_z), if_neg (Int32.not_lt.mpr h2_z)], rfl⟩
    · skip
      refine Zgo hX 2 rfl trivial ?_
      refine Zs_ret hX hE rfl ⟨by first | rw [if_pos (Int32.not_le.mp h1_z)] | rw [if_neg (Int32.not_lt.mpr h1_z), if_pos (Int32.not_le.mp h2_z)] | rw [if_neg (Int32.not_lt.mpr h1_z), if_neg (Int32.not_lt.mpr h2_z)], rfl⟩
  · skip
    refine Zgo hX 2 rfl trivial ?_
    refine Zs_ret hX hE rfl ⟨by first | rw [if_pos (Int32.not_le.mp h1_z)] | rw [if_neg (Int32.not_lt.mpr h1_z), if_pos (Int32.not_le.mp h2_z)] | rw [if_neg (Int32.not_lt.mpr h1_z), if_neg (Int32.not_lt.mpr h2_z)], rfl⟩

set_option maxRecDepth 20000 in
theorem k_isStitch (v_z : Int32) (M : Zmem) : ZC 39 1 [.int v_z] M (fun r_z M' => Zb r_z (nI 0 ≤ v_z ∧ v_z ≤ nI 69) ∧ M = M') := by
  refine ZC_of Zt39 Zk39 (Nat.le_of_ble_eq_true rfl) (by decide) rfl (fun X hX hE => ?_)
  refine Zgo hX 3 rfl trivial ?_
  refine Zs_calls hX (List.cons_ne_nil _ _) (by decide) (k_within _ _ _ _) (by decide) rfl rfl (by decide) (Nat.le_of_ble_eq_true rfl) (fun r_z M' hc_z => ?_)
  rcases hc_z with ⟨⟨rfl, hb_z⟩ | ⟨rfl, hb_z⟩, rfl⟩
  · skip
    refine Zs_retz hX hE rfl (by first | exact Or.inl rfl | exact Or.inr rfl | assumption) ⟨by first | exact Or.inl ⟨rfl, hb_z⟩ | exact Or.inr ⟨rfl, hb_z⟩, rfl⟩
  · skip
    refine Zs_retz hX hE rfl (by first | exact Or.inl rfl | exact Or.inr rfl | assumption) ⟨by first | exact Or.inl ⟨rfl, hb_z⟩ | exact Or.inr ⟨rfl, hb_z⟩, rfl⟩

set_option maxRecDepth 20000 in
theorem k_isTension (v_z : Int32) (M : Zmem) : ZC 40 1 [.int v_z] M (fun r_z M' => Zb r_z (-(nI 9) ≤ v_z ∧ v_z ≤ nI 9) ∧ M = M') := by
  refine ZC_of Zt40 Zk40 (Nat.le_of_ble_eq_true rfl) (by decide) rfl (fun X hX hE => ?_)
  refine Zgo hX 3 rfl trivial ?_
  refine Zs_calls hX (List.cons_ne_nil _ _) (by decide) (k_within _ _ _ _) (by decide) rfl rfl (by decide) (Nat.le_of_ble_eq_true rfl) (fun r_z M' hc_z => ?_)
  rcases hc_z with ⟨⟨rfl, hb_z⟩ | ⟨rfl, hb_z⟩, rfl⟩
  · skip
    refine Zs_retz hX hE rfl (by first | exact Or.inl rfl | exact Or.inr rfl | assumption) ⟨by first | exact Or.inl ⟨rfl, hb_z⟩ | exact Or.inr ⟨rfl, hb_z⟩, rfl⟩
  · skip
    refine Zs_retz hX hE rfl (by first | exact Or.inl rfl | exact Or.inr rfl | assumption) ⟨by first | exact Or.inl ⟨rfl, hb_z⟩ | exact Or.inr ⟨rfl, hb_z⟩, rfl⟩

set_option maxRecDepth 20000 in
theorem k_isWater (v_z : Int32) (M : Zmem) : ZC 41 1 [.int v_z] M (fun r_z M' => Zb r_z (nI 0 ≤ v_z ∧ v_z ≤ nI 999) ∧ M = M') := by
  refine ZC_of Zt41 Zk41 (Nat.le_of_ble_eq_true rfl) (by decide) rfl (fun X hX hE => ?_)
  refine Zgo hX 3 rfl trivial ?_
  refine Zs_calls hX (List.cons_ne_nil _ _) (by decide) (k_within _ _ _ _) (by decide) rfl rfl (by decide) (Nat.le_of_ble_eq_true rfl) (fun r_z M' hc_z => ?_)
  rcases hc_z with ⟨⟨rfl, hb_z⟩ | ⟨rfl, hb_z⟩, rfl⟩
  · skip
    refine Zs_retz hX hE rfl (by first | exact Or.inl rfl | exact Or.inr rfl | assumption) ⟨by first | exact Or.inl ⟨rfl, hb_z⟩ | exact Or.inr ⟨rfl, hb_z⟩, rfl⟩
  · skip
    refine Zs_retz hX hE rfl (by first | exact Or.inl rfl | exact Or.inr rfl | assumption) ⟨by first | exact Or.inl ⟨rfl, hb_z⟩ | exact Or.inr ⟨rfl, hb_z⟩, rfl⟩

set_option maxRecDepth 20000 in
theorem k_isUse (v_z : Int32) (M : Zmem) : ZC 42 1 [.int v_z] M (fun r_z M' => Zb r_z (nI 0 ≤ v_z ∧ v_z ≤ nI 1) ∧ M = M') := by
  refine ZC_of Zt42 Zk42 (Nat.le_of_ble_eq_true rfl) (by decide) rfl (fun X hX hE => ?_)
  refine Zgo hX 3 rfl trivial ?_
  refine Zs_calls hX (List.cons_ne_nil _ _) (by decide) (k_within _ _ _ _) (by decide) rfl rfl (by decide) (Nat.le_of_ble_eq_true rfl) (fun r_z M' hc_z => ?_)
  rcases hc_z with ⟨⟨rfl, hb_z⟩ | ⟨rfl, hb_z⟩, rfl⟩
  · skip
    refine Zs_retz hX hE rfl (by first | exact Or.inl rfl | exact Or.inr rfl | assumption) ⟨by first | exact Or.inl ⟨rfl, hb_z⟩ | exact Or.inr ⟨rfl, hb_z⟩, rfl⟩
  · skip
    refine Zs_retz hX hE rfl (by first | exact Or.inl rfl | exact Or.inr rfl | assumption) ⟨by first | exact Or.inl ⟨rfl, hb_z⟩ | exact Or.inr ⟨rfl, hb_z⟩, rfl⟩

set_option maxRecDepth 20000 in
theorem k_isSheet (v_z : Int32) (M : Zmem) : ZC 43 1 [.int v_z] M (fun r_z M' => Zb r_z (nI 0 ≤ v_z ∧ v_z ≤ nI 3) ∧ M = M') := by
  refine ZC_of Zt43 Zk43 (Nat.le_of_ble_eq_true rfl) (by decide) rfl (fun X hX hE => ?_)
  refine Zgo hX 3 rfl trivial ?_
  refine Zs_calls hX (List.cons_ne_nil _ _) (by decide) (k_within _ _ _ _) (by decide) rfl rfl (by decide) (Nat.le_of_ble_eq_true rfl) (fun r_z M' hc_z => ?_)
  rcases hc_z with ⟨⟨rfl, hb_z⟩ | ⟨rfl, hb_z⟩, rfl⟩
  · skip
    refine Zs_retz hX hE rfl (by first | exact Or.inl rfl | exact Or.inr rfl | assumption) ⟨by first | exact Or.inl ⟨rfl, hb_z⟩ | exact Or.inr ⟨rfl, hb_z⟩, rfl⟩
  · skip
    refine Zs_retz hX hE rfl (by first | exact Or.inl rfl | exact Or.inr rfl | assumption) ⟨by first | exact Or.inl ⟨rfl, hb_z⟩ | exact Or.inr ⟨rfl, hb_z⟩, rfl⟩

set_option maxRecDepth 20000 in
theorem s_isTension (v_z : Int32) (M : Zmem) : ZC 55 1 [.int v_z] M (fun r_z M' => Zb r_z (-(nI 9) ≤ v_z ∧ v_z ≤ nI 9) ∧ M = M') := by
  refine ZC_of Zt55 Zk55 (Nat.le_of_ble_eq_true rfl) (by decide) rfl (fun X hX hE => ?_)
  refine Zgo hX 3 rfl trivial ?_
  refine Zs_calls hX (List.cons_ne_nil _ _) (by decide) (s_in _ _ _ _) (by decide) rfl rfl (by decide) (Nat.le_of_ble_eq_true rfl) (fun r_z M' hc_z => ?_)
  rcases hc_z with ⟨⟨rfl, hb_z⟩ | ⟨rfl, hb_z⟩, rfl⟩
  · skip
    refine Zs_retz hX hE rfl (by first | exact Or.inl rfl | exact Or.inr rfl | assumption) ⟨by first | exact Or.inl ⟨rfl, hb_z⟩ | exact Or.inr ⟨rfl, hb_z⟩, rfl⟩
  · skip
    refine Zs_retz hX hE rfl (by first | exact Or.inl rfl | exact Or.inr rfl | assumption) ⟨by first | exact Or.inl ⟨rfl, hb_z⟩ | exact Or.inr ⟨rfl, hb_z⟩, rfl⟩

set_option maxRecDepth 20000 in
theorem s_isKind (v_z : Int32) (M : Zmem) : ZC 88 1 [.int v_z] M (fun r_z M' => Zb r_z (nI 0 ≤ v_z ∧ v_z ≤ nI 69) ∧ M = M') := by
  refine ZC_of Zt88 Zk88 (Nat.le_of_ble_eq_true rfl) (by decide) rfl (fun X hX hE => ?_)
  refine Zgo hX 3 rfl trivial ?_
  refine Zs_calls hX (List.cons_ne_nil _ _) (by decide) (s_in _ _ _ _) (by decide) rfl rfl (by decide) (Nat.le_of_ble_eq_true rfl) (fun r_z M' hc_z => ?_)
  rcases hc_z with ⟨⟨rfl, hb_z⟩ | ⟨rfl, hb_z⟩, rfl⟩
  · skip
    refine Zs_retz hX hE rfl (by first | exact Or.inl rfl | exact Or.inr rfl | assumption) ⟨by first | exact Or.inl ⟨rfl, hb_z⟩ | exact Or.inr ⟨rfl, hb_z⟩, rfl⟩
  · skip
    refine Zs_retz hX hE rfl (by first | exact Or.inl rfl | exact Or.inr rfl | assumption) ⟨by first | exact Or.inl ⟨rfl, hb_z⟩ | exact Or.inr ⟨rfl, hb_z⟩, rfl⟩

set_option maxRecDepth 20000 in
theorem s_isWater (v_z : Int32) (M : Zmem) : ZC 99 1 [.int v_z] M (fun r_z M' => Zb r_z (nI 0 ≤ v_z ∧ v_z ≤ nI 999) ∧ M = M') := by
  refine ZC_of Zt99 Zk99 (Nat.le_of_ble_eq_true rfl) (by decide) rfl (fun X hX hE => ?_)
  refine Zgo hX 3 rfl trivial ?_
  refine Zs_calls hX (List.cons_ne_nil _ _) (by decide) (s_in _ _ _ _) (by decide) rfl rfl (by decide) (Nat.le_of_ble_eq_true rfl) (fun r_z M' hc_z => ?_)
  rcases hc_z with ⟨⟨rfl, hb_z⟩ | ⟨rfl, hb_z⟩, rfl⟩
  · skip
    refine Zs_retz hX hE rfl (by first | exact Or.inl rfl | exact Or.inr rfl | assumption) ⟨by first | exact Or.inl ⟨rfl, hb_z⟩ | exact Or.inr ⟨rfl, hb_z⟩, rfl⟩
  · skip
    refine Zs_retz hX hE rfl (by first | exact Or.inl rfl | exact Or.inr rfl | assumption) ⟨by first | exact Or.inl ⟨rfl, hb_z⟩ | exact Or.inr ⟨rfl, hb_z⟩, rfl⟩

set_option maxRecDepth 20000 in
theorem s_isSheet (v_z : Int32) (M : Zmem) : ZC 123 1 [.int v_z] M (fun r_z M' => Zb r_z (nI 0 ≤ v_z ∧ v_z ≤ nI 3) ∧ M = M') := by
  refine ZC_of Zt123 Zk123 (Nat.le_of_ble_eq_true rfl) (by decide) rfl (fun X hX hE => ?_)
  refine Zgo hX 3 rfl trivial ?_
  refine Zs_calls hX (List.cons_ne_nil _ _) (by decide) (s_in _ _ _ _) (by decide) rfl rfl (by decide) (Nat.le_of_ble_eq_true rfl) (fun r_z M' hc_z => ?_)
  rcases hc_z with ⟨⟨rfl, hb_z⟩ | ⟨rfl, hb_z⟩, rfl⟩
  · skip
    refine Zs_retz hX hE rfl (by first | exact Or.inl rfl | exact Or.inr rfl | assumption) ⟨by first | exact Or.inl ⟨rfl, hb_z⟩ | exact Or.inr ⟨rfl, hb_z⟩, rfl⟩
  · skip
    refine Zs_retz hX hE rfl (by first | exact Or.inl rfl | exact Or.inr rfl | assumption) ⟨by first | exact Or.inl ⟨rfl, hb_z⟩ | exact Or.inr ⟨rfl, hb_z⟩, rfl⟩
