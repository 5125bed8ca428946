def Er (k_z : Nat) : Int32 := -(nI 1000000000) - nI k_z
def Zsaid (kd_z m_z : Nat) (w_z t se : Int32) : Int32 := match kd_z with
  | 1 => nI 2 * w_z - t + nI 1
  | 2 => nI 3 * (nI 2 * w_z - t) / nI 2
  | 3 => (nI 2 * w_z - t) / nI 2
  | 4 => nI 2 * w_z - t + nI 1 + nI m_z
  | 5 => if se - se / nI 4 * nI 4 = nI 3 then nI 3 * (nI 2 * w_z - t) / nI 2 else nI 3 * (nI 2 * w_z - t) / nI 2 / nI 2
  | 6 => nI 2 * w_z - t + w_z
  | _ => nI 2 * w_z - t
def Zbend (kd_z m_z : Nat) : Int32 := match kd_z with
  | 1 => nI (m_z % 3) - nI 1
  | 4 => nI 2 * (nI (m_z % 3) - nI 1)
  | 6 => nI 2
  | _ => nI 0
def Zabv (kd_z : Nat) : Int32 := ([-1, 0, 0, 0, 1, 2, 0] : List Int32).getD kd_z 0
def Zjn (c_z : Nat) (x_z y_z : Int32) : Int32 := match c_z with
  | 43 => x_z + y_z
  | 45 => x_z - y_z
  | 42 => x_z * y_z
  | 47 => if y_z = 0 then nI 0 else x_z / y_z
  | 37 => if y_z = 0 then nI 0 else x_z - x_z / y_z * y_z
  | 60 => if x_z < y_z then nI 1 else nI 0
  | 62 => if y_z < x_z then nI 1 else nI 0
  | 61 => if x_z = y_z then nI 1 else nI 0
  | 38 => if ¬ x_z = 0 ∧ ¬ y_z = 0 then nI 1 else nI 0
  | 124 => if ¬ x_z = 0 ∨ ¬ y_z = 0 then nI 1 else nI 0
  | _ => nI 0
def Zsg (c_z : Nat) : Prop := c_z = 124 ∨ c_z = 38 ∨ c_z = 60 ∨ c_z = 61 ∨ c_z = 62 ∨ c_z = 43 ∨ c_z = 45 ∨ c_z = 42 ∨ c_z = 47 ∨ c_z = 37
theorem Zdiv_m1 (x_z : Int32) : x_z / -(nI 1) = -x_z := by
  have e_z : -(nI 1) = (-1 : Int32) := by decide
  rw [e_z]
  apply Int32.toInt_inj.mp
  have h1_z : (-1 : Int32).toInt = -1 := by decide
  rw [Int32.toInt_div, h1_z, Int32.toInt_neg, Int.tdiv_neg, Int.tdiv_one]
theorem Zrem_m1 (x_z : Int32) : x_z - x_z / -(nI 1) * -(nI 1) = nI 0 := by
  rw [Zdiv_m1]
  have e_z : -(nI 1) = (-1 : Int32) := by decide
  rw [e_z, Int32.mul_neg, Int32.mul_one, Int32.neg_neg, Int32.sub_self]
  rfl
/-- between the first and the last number, as a_z place -/
theorem Zrow_iff {row_z : Int32} {n_z : Nat} (hn_z : n_z ≤ 1000) : (nI 0 ≤ row_z ∧ row_z ≤ nI n_z - nI 1) ↔ vp_in row_z n_z := by
  rw [Zle_i, Zle_i, Zin_i, Zn_i (by decide)]
  rw [Zsub_i (by rw [Zn_i (by omega), Zn_i (by decide)]; omega) (by rw [Zn_i (by omega), Zn_i (by decide)]; omega), Zn_i (by omega), Zn_i (by decide)]
  omega
theorem Zin_ex {x_z : Int32} {n_z : Nat} (h_z : vp_in x_z n_z) (hn_z : n_z < 2 ^ 31) : ∃ j_z, j_z < n_z ∧ x_z = nI j_z := vp_in_of h_z hn_z
/-- a_z row_z of numbers between 0 and b_z -/
theorem Zbt_ex {x_z : Int32} {b_z : Nat} (hb_z : b_z < 2 ^ 31) (h_z : nI 0 ≤ x_z ∧ x_z ≤ nI b_z) : ∃ j_z, j_z ≤ b_z ∧ x_z = nI j_z := by
  obtain ⟨h1_z, h2_z⟩ := h_z
  rw [Zle_i, Zn_i (by decide)] at h1_z
  rw [Zle_i, Zn_i hb_z] at h2_z
  obtain ⟨j_z, hj_z, e_z, e2_z⟩ := Zof (x_z := x_z) (by omega)
  exact ⟨j_z, by omega, e_z⟩
theorem Zbt_of {j_z b_z : Nat} (hb_z : b_z < 2 ^ 31) (h_z : j_z ≤ b_z) : nI 0 ≤ nI j_z ∧ nI j_z ≤ nI b_z := ⟨(Zn_le (by decide) (by omega)).mpr (Nat.zero_le _), (Zn_le (by omega) hb_z).mpr h_z⟩
theorem Zbt_no {j_z b_z : Nat} (hb_z : j_z < 2 ^ 31) (h_z : b_z < j_z) : ¬ (nI 0 ≤ nI j_z ∧ nI j_z ≤ nI b_z) := fun q_z => absurd ((Zn_le hb_z (by omega)).mp q_z.2) (by omega)
theorem Zne {a_z b_z : Nat} (ha_z : a_z < 2 ^ 31) (hb_z : b_z < 2 ^ 31) (h_z : ¬ nI a_z = nI b_z) : a_z ≠ b_z := fun q_z => h_z (by rw [q_z])
theorem Zeq {a_z b_z : Nat} (ha_z : a_z < 2 ^ 31) (hb_z : b_z < 2 ^ 31) (h_z : nI a_z = nI b_z) : a_z = b_z := (Zn_eq ha_z hb_z).mp h_z

set_option maxRecDepth 20000 in
theorem k_refuse (k_z : Nat) (M : Zmem) (hk_z : 1 ≤ k_z ∧ k_z ≤ 6) : ZC 37 1 [.ref 0, .int (nI k_z)] M (fun r_z M' => r_z = some (.int (Er k_z)) ∧ Sc M M') := by
  refine ZC_of Zt37 Zk37 (Nat.le_of_ble_eq_true rfl) (by decide) rfl (fun X hX hE => ?_)
  refine Zgo hX 3 rfl (by first | exact True.intro | (dsimp only [ZallP]; and_intros <;> (first | decide | ((try simp only [pk_mul, nI_add]); exact Zin_n (by omega) (by decide))))) ?_
  refine Zs_calls hX (List.cons_ne_nil _ _) (by decide) (k_within _ _ _ _) (by decide) rfl rfl (by decide) (Nat.le_of_ble_eq_true rfl) (fun r_z M' hc_z => ?_)
  rcases hc_z with ⟨⟨rfl, hb_z⟩ | ⟨rfl, hb_z⟩, rfl⟩
  · skip
    refine Zs_eq hX (List.cons_ne_nil _ _) (fun q_z => absurd q_z (by decide)) (fun _ => ?_)
    refine Zgo hX 11 rfl (by first | exact True.intro | (dsimp only [ZallP]; and_intros <;> (first | decide | ((try simp only [pk_mul, nI_add]); exact Zin_n (by omega) (by decide))))) ?_
    refine Zs_ret hX hE rfl ⟨rfl, (Sc.rf _).u _ rfl⟩
  · skip
    exact absurd ⟨(Zn_le (by decide) (by omega)).mpr hk_z.1, (Zn_le (by omega) (by decide)).mpr hk_z.2⟩ hb_z

set_option maxRecDepth 20000 in
theorem s_error (k_z : Nat) (M : Zmem) (hk_z : 1 ≤ k_z ∧ k_z ≤ 6) : ZC 50 0 [.ref 53, .int (nI k_z)] M (fun r_z M' => r_z = some (.int (Er k_z)) ∧ Sc M M') := by
  refine ZC_of Zt50 Zk50 (Nat.le_of_ble_eq_true rfl) (by decide) rfl (fun X hX hE => ?_)
  refine Zgo hX 11 rfl (by first | exact True.intro | (dsimp only [ZallP]; and_intros <;> (first | decide | ((try simp only [pk_mul, nI_add]); exact Zin_n (by omega) (by decide))))) ?_
  refine Zs_ret hX hE rfl ⟨rfl, (Sc.rf _).u _ rfl⟩

set_option maxRecDepth 20000 in
theorem k_isRow (row_z : Int32) (n_z : Nat) (M : Zmem) (hn_z : M 1 5 = nI n_z) (hn2 : n_z ≤ 15) : ZC 38 1 [.ref 0, .int row_z] M (fun r_z M' => Zb r_z (vp_in row_z n_z) ∧ M = M') := by
  refine ZC_of Zt38 Zk38 (Nat.le_of_ble_eq_true rfl) (by decide) rfl (fun X hX hE => ?_)
  refine Zgo hX 7 rfl (by first | exact True.intro | (dsimp only [ZallP]; and_intros <;> (first | decide | ((try simp only [pk_mul, nI_add]); exact Zin_n (by omega) (by decide))))) ?_
  try simp only [Zcl_n, Nat.reducePow, Nat.reduceLT]
  refine Zs_calls hX (List.cons_ne_nil _ _) (by decide) (k_within _ _ _ _) (by decide) rfl rfl (by decide) (Nat.le_of_ble_eq_true rfl) (fun r_z M' hc_z => ?_)
  rcases hc_z with ⟨⟨rfl, hb_z⟩ | ⟨rfl, hb_z⟩, rfl⟩
  · skip
    refine Zs_retz hX hE rfl (by first | exact Or.inl rfl | exact Or.inr rfl | assumption) ⟨by first | exact Or.inl ⟨rfl, (Zrow_iff (by omega)).mp (by rw [← hn_z]; exact hb_z)⟩ | exact Or.inr ⟨rfl, fun q_z => hb_z (by rw [hn_z]; exact (Zrow_iff (by omega)).mpr q_z)⟩, rfl⟩
  · skip
    refine Zs_retz hX hE rfl (by first | exact Or.inl rfl | exact Or.inr rfl | assumption) ⟨by first | exact Or.inl ⟨rfl, (Zrow_iff (by omega)).mp (by rw [← hn_z]; exact hb_z)⟩ | exact Or.inr ⟨rfl, fun q_z => hb_z (by rw [hn_z]; exact (Zrow_iff (by omega)).mpr q_z)⟩, rfl⟩

set_option maxRecDepth 20000 in
theorem s_isRow (row_z : Int32) (n_z : Nat) (M : Zmem) (hn_z : M 54 7 = nI n_z) (hn2 : n_z ≤ 15) : ZC 54 1 [.ref 53, .int row_z] M (fun r_z M' => Zb r_z (vp_in row_z n_z) ∧ M = M') := by
  refine ZC_of Zt54 Zk54 (Nat.le_of_ble_eq_true rfl) (by decide) rfl (fun X hX hE => ?_)
  refine Zgo hX 8 rfl (by first | exact True.intro | (dsimp only [ZallP]; and_intros <;> (first | decide | ((try simp only [pk_mul, nI_add]); exact Zin_n (by omega) (by decide))))) ?_
  try simp only [Zcl_n, Nat.reducePow, Nat.reduceLT]
  refine Zs_calls hX (List.cons_ne_nil _ _) (by decide) (s_in _ _ _ _) (by decide) rfl rfl (by decide) (Nat.le_of_ble_eq_true rfl) (fun r_z M' hc_z => ?_)
  rcases hc_z with ⟨⟨rfl, hb_z⟩ | ⟨rfl, hb_z⟩, rfl⟩
  · skip
    refine Zs_retz hX hE rfl (by first | exact Or.inl rfl | exact Or.inr rfl | assumption) ⟨by first | exact Or.inl ⟨rfl, (Zrow_iff (by omega)).mp (by rw [← hn_z]; exact hb_z)⟩ | exact Or.inr ⟨rfl, fun q_z => hb_z (by rw [hn_z]; exact (Zrow_iff (by omega)).mpr q_z)⟩, rfl⟩
  · skip
    refine Zs_retz hX hE rfl (by first | exact Or.inl rfl | exact Or.inr rfl | assumption) ⟨by first | exact Or.inl ⟨rfl, (Zrow_iff (by omega)).mp (by rw [← hn_z]; exact hb_z)⟩ | exact Or.inr ⟨rfl, fun q_z => hb_z (by rw [hn_z]; exact (Zrow_iff (by omega)).mpr q_z)⟩, rfl⟩

set_option maxRecDepth 20000 in
theorem s_its (i_z w_z : Nat) (M : Zmem) (hi_z : i_z < 15) (hw_z : w_z < 5) : ZC 56 0 [.ref 53, .int (nI i_z), .int (nI w_z)] M (fun r_z M' => r_z = some (.int (M 54 (9 + 5 * i_z + w_z))) ∧ M = M') := by
  refine ZC_of Zt56 Zk56 (Nat.le_of_ble_eq_true rfl) (by decide) rfl (fun X hX hE => ?_)
  refine Zgo hX 10 rfl (by first | exact True.intro | (dsimp only [ZallP]; and_intros <;> (first | decide | ((try simp only [pk_mul, nI_add]); exact Zin_n (by omega) (by decide))))) ?_
  refine Zs_ret hX hE rfl ⟨(by rw [pk_mul, nI_add, nI_add, Zcl_n (by omega)]), rfl⟩

set_option maxRecDepth 20000 in
theorem s_lays1 (i_z w_z : Nat) (v_z : Int32) (M : Zmem) (hi_z : i_z < 15) (hw_z : w_z < 5) : ZC 57 0 [.ref 53, .int (nI i_z), .int (nI w_z), .int v_z] M (fun r_z M' => r_z = none ∧ Zu M 54 (9 + 5 * i_z + w_z) v_z = M') := by
  refine ZC_of Zt57 Zk57 (Nat.le_of_ble_eq_true rfl) (by decide) rfl (fun X hX hE => ?_)
  refine Zgo hX 11 rfl (by first | exact True.intro | (dsimp only [ZallP]; and_intros <;> (first | decide | ((try simp only [pk_mul, nI_add]); exact Zin_n (by omega) (by decide))))) ?_
  refine Zs_retv hX hE rfl ⟨rfl, (by rw [pk_mul, nI_add, nI_add, Zcl_n (by omega)])⟩

set_option maxRecDepth 20000 in
theorem s_change1 (j_z : Nat) (v_z : Int32) (M : Zmem) (hj_z : j_z < 418) : ZC 58 0 [.ref 53, .int (nI j_z), .int v_z] M (fun r_z M' => r_z = some (.int (M 54 j_z)) ∧ Zu M 54 j_z v_z = M') := by
  refine ZC_of Zt58 Zk58 (Nat.le_of_ble_eq_true rfl) (by decide) rfl (fun X hX hE => ?_)
  refine Zgo hX 11 rfl (by first | exact True.intro | (dsimp only [ZallP]; and_intros <;> (first | decide | ((try simp only [pk_mul, nI_add]); exact Zin_n (by omega) (by decide))))) ?_
  refine Zs_ret hX hE rfl ⟨by rw [Zcl_n (by omega)], by rw [Zcl_n (by omega)]⟩

set_option maxRecDepth 20000 in
theorem s_hasText (u_z n_z : Nat) (M : Zmem) (hu_z : u_z < 2) (hn_z : M 54 (84 + 125 * u_z) = nI n_z) (hn2 : n_z ≤ 60) : ZC 70 0 [.ref 53, .int (nI u_z)] M (fun r_z M' => Zb r_z (0 < n_z) ∧ M = M') := by
  refine ZC_of Zt70 Zk70 (Nat.le_of_ble_eq_true rfl) (by decide) rfl (fun X hX hE => ?_)
  refine Zgo hX 8 rfl (by first | exact True.intro | (dsimp only [ZallP]; and_intros <;> (first | decide | ((try simp only [pk_mul, nI_add]); exact Zin_n (by omega) (by decide))))) ?_
  rw [show (nI 84 + nI 125 * nI u_z).toNatClampNeg = 84 + 125 * u_z by rw [pk_mul, nI_add, Zcl_n (by omega)], hn_z]
  refine Zs_le hX (List.cons_ne_nil _ _) (fun h12_z => ?_) (fun h12_z => ?_)
  · skip
    refine Zgo hX 1 rfl (by first | exact True.intro | (dsimp only [ZallP]; and_intros <;> (first | decide | ((try simp only [pk_mul, nI_add]); exact Zin_n (by omega) (by decide))))) ?_
    refine Zs_retz hX hE rfl (by first | exact Or.inl rfl | exact Or.inr rfl | assumption) ⟨by first | exact Or.inl ⟨rfl, Nat.pos_of_ne_zero (fun q_z => h12_z (by rw [q_z]; decide))⟩ | exact Or.inr ⟨rfl, fun q_z => absurd h12_z (by rw [Zle_i, Zn_i (by omega)]; show ¬ ((n_z : Int) ≤ 0); omega)⟩, rfl⟩
  · skip
    refine Zgo hX 2 rfl (by first | exact True.intro | (dsimp only [ZallP]; and_intros <;> (first | decide | ((try simp only [pk_mul, nI_add]); exact Zin_n (by omega) (by decide))))) ?_
    refine Zs_retz hX hE rfl (by first | exact Or.inl rfl | exact Or.inr rfl | assumption) ⟨by first | exact Or.inl ⟨rfl, Nat.pos_of_ne_zero (fun q_z => h12_z (by rw [q_z]; decide))⟩ | exact Or.inr ⟨rfl, fun q_z => absurd h12_z (by rw [Zle_i, Zn_i (by omega)]; show ¬ ((n_z : Int) ≤ 0); omega)⟩, rfl⟩

set_option maxRecDepth 20000 in
theorem k_yarn (kd_z m_z : Nat) (w_z t se : Int32) (M : Zmem) (hkd : kd_z ≤ 6) (hm_z : m_z ≤ 9) : ZC 145 0 [.int (nI (10 * kd_z + m_z)), .int w_z, .int t, .int se] M (fun r_z M' => r_z = some (.int (Zsaid kd_z m_z w_z t se)) ∧ M = M') := by
  refine ZC_of Zt145 Zk145 (Nat.le_of_ble_eq_true rfl) (by decide) rfl (fun X hX hE => ?_)
  have e10 : nI (10 * kd_z + m_z) / nI 10 = nI kd_z := by rw [pk_div (by omega) (by decide) (by decide)]; congr 1; omega
  have r10 : nI (10 * kd_z + m_z) - nI (10 * kd_z + m_z) / nI 10 * nI 10 = nI m_z := by rw [pk_rem (by omega) (by decide) (by decide)]; congr 1; omega
  refine Zgo hX 15 rfl (by first | exact True.intro | (dsimp only [ZallP]; and_intros <;> (first | decide | ((try simp only [pk_mul, nI_add]); exact Zin_n (by omega) (by decide))))) ?_
  rw [e10]
  by_cases s19_0 : nI kd_z = nI 1
  · skip
    refine Zs_sw [(nI 1, 56), (nI 2, 61), (nI 3, 64), (nI 4, 69), (nI 5, 79), (nI 6, 96)] 101 hX (by decide +kernel) (by decide +kernel) (t := 56) (if_pos s19_0) ?_
    obtain rfl : kd_z = 1 := Zeq (by omega) (by decide) s19_0
    refine Zgo hX 3 rfl (by first | exact True.intro | (dsimp only [ZallP]; and_intros <;> (first | decide | ((try simp only [pk_mul, nI_add]); exact Zin_n (by omega) (by decide))))) ?_
    refine Zs_ret hX hE rfl ⟨rfl, rfl⟩
  by_cases s19_1 : nI kd_z = nI 2
  · skip
    refine Zs_sw [(nI 1, 56), (nI 2, 61), (nI 3, 64), (nI 4, 69), (nI 5, 79), (nI 6, 96)] 101 hX (by decide +kernel) (by decide +kernel) (t := 61) ((if_neg s19_0).trans (if_pos s19_1)) ?_
    obtain rfl : kd_z = 2 := Zeq (by omega) (by decide) s19_1
    refine Zgo hX 1 rfl (by first | exact True.intro | (dsimp only [ZallP]; and_intros <;> (first | decide | ((try simp only [pk_mul, nI_add]); exact Zin_n (by omega) (by decide))))) ?_
    refine Zs_ret hX hE rfl ⟨rfl, rfl⟩
  by_cases s19_2 : nI kd_z = nI 3
  · skip
    refine Zs_sw [(nI 1, 56), (nI 2, 61), (nI 3, 64), (nI 4, 69), (nI 5, 79), (nI 6, 96)] 101 hX (by decide +kernel) (by decide +kernel) (t := 64) ((if_neg s19_0).trans ((if_neg s19_1).trans (if_pos s19_2))) ?_
    obtain rfl : kd_z = 3 := Zeq (by omega) (by decide) s19_2
    refine Zgo hX 3 rfl (by first | exact True.intro | (dsimp only [ZallP]; and_intros <;> (first | decide | ((try simp only [pk_mul, nI_add]); exact Zin_n (by omega) (by decide))))) ?_
    refine Zs_ret hX hE rfl ⟨rfl, rfl⟩
  by_cases s19_3 : nI kd_z = nI 4
  · skip
    refine Zs_sw [(nI 1, 56), (nI 2, 61), (nI 3, 64), (nI 4, 69), (nI 5, 79), (nI 6, 96)] 101 hX (by decide +kernel) (by decide +kernel) (t := 69) ((if_neg s19_0).trans ((if_neg s19_1).trans ((if_neg s19_2).trans (if_pos s19_3)))) ?_
    obtain rfl : kd_z = 4 := Zeq (by omega) (by decide) s19_3
    refine Zgo hX 7 rfl (by first | exact True.intro | (dsimp only [ZallP]; and_intros <;> (first | decide | ((try simp only [pk_mul, nI_add]); exact Zin_n (by omega) (by decide))))) ?_
    refine Zs_ret hX hE rfl ⟨by rw [r10]; rfl, rfl⟩
  by_cases s19_4 : nI kd_z = nI 5
  · skip
    refine Zs_sw [(nI 1, 56), (nI 2, 61), (nI 3, 64), (nI 4, 69), (nI 5, 79), (nI 6, 96)] 101 hX (by decide +kernel) (by decide +kernel) (t := 79) ((if_neg s19_0).trans ((if_neg s19_1).trans ((if_neg s19_2).trans ((if_neg s19_3).trans (if_pos s19_4))))) ?_
    obtain rfl : kd_z = 5 := Zeq (by omega) (by decide) s19_4
    refine Zgo hX 4 rfl (by first | exact True.intro | (dsimp only [ZallP]; and_intros <;> (first | decide | ((try simp only [pk_mul, nI_add]); exact Zin_n (by omega) (by decide))))) ?_
    refine Zs_ine hX (List.cons_ne_nil _ _) (fun h83_z => ?_) (fun h83_z => ?_)
    · skip
      refine Zgo hX 3 rfl (by first | exact True.intro | (dsimp only [ZallP]; and_intros <;> (first | decide | ((try simp only [pk_mul, nI_add]); exact Zin_n (by omega) (by decide))))) ?_
      refine Zs_ret hX hE rfl ⟨by first | (simp only [Zsaid]; exact congrArg (fun z_z => some (Value.int z_z)) (if_pos h83_z).symm) | (simp only [Zsaid]; exact congrArg (fun z_z => some (Value.int z_z)) (if_neg h83_z).symm), rfl⟩
    · skip
      refine Zgo hX 2 rfl (by first | exact True.intro | (dsimp only [ZallP]; and_intros <;> (first | decide | ((try simp only [pk_mul, nI_add]); exact Zin_n (by omega) (by decide))))) ?_
      refine Zs_ret hX hE rfl ⟨by first | (simp only [Zsaid]; exact congrArg (fun z_z => some (Value.int z_z)) (if_pos h83_z).symm) | (simp only [Zsaid]; exact congrArg (fun z_z => some (Value.int z_z)) (if_neg h83_z).symm), rfl⟩
  by_cases s19_5 : nI kd_z = nI 6
  · skip
    refine Zs_sw [(nI 1, 56), (nI 2, 61), (nI 3, 64), (nI 4, 69), (nI 5, 79), (nI 6, 96)] 101 hX (by decide +kernel) (by decide +kernel) (t := 96) ((if_neg s19_0).trans ((if_neg s19_1).trans ((if_neg s19_2).trans ((if_neg s19_3).trans ((if_neg s19_4).trans (if_pos s19_5)))))) ?_
    obtain rfl : kd_z = 6 := Zeq (by omega) (by decide) s19_5
    refine Zgo hX 3 rfl (by first | exact True.intro | (dsimp only [ZallP]; and_intros <;> (first | decide | ((try simp only [pk_mul, nI_add]); exact Zin_n (by omega) (by decide))))) ?_
    refine Zs_ret hX hE rfl ⟨rfl, rfl⟩
  refine Zs_sw [(nI 1, 56), (nI 2, 61), (nI 3, 64), (nI 4, 69), (nI 5, 79), (nI 6, 96)] 101 hX (by decide +kernel) (by decide +kernel) (t := 101) ((if_neg s19_0).trans ((if_neg s19_1).trans ((if_neg s19_2).trans ((if_neg s19_3).trans ((if_neg s19_4).trans (if_neg s19_5)))))) ?_
  have z19_0 : kd_z ≠ 1 := Zne (by omega) (by decide) s19_0
  have z19_1 : kd_z ≠ 2 := Zne (by omega) (by decide) s19_1
  have z19_2 : kd_z ≠ 3 := Zne (by omega) (by decide) s19_2
  have z19_3 : kd_z ≠ 4 := Zne (by omega) (by decide) s19_3
  have z19_4 : kd_z ≠ 5 := Zne (by omega) (by decide) s19_4
  have z19_5 : kd_z ≠ 6 := Zne (by omega) (by decide) s19_5
  refine Zgo hX 1 rfl (by first | exact True.intro | (dsimp only [ZallP]; and_intros <;> (first | decide | ((try simp only [pk_mul, nI_add]); exact Zin_n (by omega) (by decide))))) ?_
  refine Zs_ret hX hE rfl ⟨?_, rfl⟩
  obtain rfl : kd_z = 0 := by omega
  rfl

set_option maxRecDepth 20000 in
theorem s_saidOf (kd_z m_z : Nat) (w_z t : Int32) (M : Zmem) (hkd : kd_z ≤ 6) (hm_z : m_z ≤ 9) : ZC 75 0 [.ref 53, .int (nI kd_z), .int (nI m_z), .int w_z, .int t] M (fun r_z M' => r_z = some (.int (Zsaid kd_z m_z w_z t (M 54 2))) ∧ M = M') := by
  refine ZC_of Zt75 Zk75 (Nat.le_of_ble_eq_true rfl) (by decide) rfl (fun X hX hE => ?_)
  refine Zgo hX 7 rfl (by first | exact True.intro | (dsimp only [ZallP]; and_intros <;> (first | decide | ((try simp only [pk_mul, nI_add]); exact Zin_n (by omega) (by decide))))) ?_
  by_cases s9_0 : nI kd_z = nI 1
  · skip
    refine Zs_sw [(nI 1, 48), (nI 2, 53), (nI 3, 60), (nI 4, 65), (nI 5, 72), (nI 6, 102)] 107 hX (by decide +kernel) (by decide +kernel) (t := 48) (if_pos s9_0) ?_
    obtain rfl : kd_z = 1 := Zeq (by omega) (by decide) s9_0
    refine Zgo hX 3 rfl (by first | exact True.intro | (dsimp only [ZallP]; and_intros <;> (first | decide | ((try simp only [pk_mul, nI_add]); exact Zin_n (by omega) (by decide))))) ?_
    refine Zs_ret hX hE rfl ⟨rfl, rfl⟩
  by_cases s9_1 : nI kd_z = nI 2
  · skip
    refine Zs_sw [(nI 1, 48), (nI 2, 53), (nI 3, 60), (nI 4, 65), (nI 5, 72), (nI 6, 102)] 107 hX (by decide +kernel) (by decide +kernel) (t := 53) ((if_neg s9_0).trans (if_pos s9_1)) ?_
    obtain rfl : kd_z = 2 := Zeq (by omega) (by decide) s9_1
    refine Zgo hX 5 rfl (by first | exact True.intro | (dsimp only [ZallP]; and_intros <;> (first | decide | ((try simp only [pk_mul, nI_add]); exact Zin_n (by omega) (by decide))))) ?_
    refine Zs_ret hX hE rfl ⟨rfl, rfl⟩
  by_cases s9_2 : nI kd_z = nI 3
  · skip
    refine Zs_sw [(nI 1, 48), (nI 2, 53), (nI 3, 60), (nI 4, 65), (nI 5, 72), (nI 6, 102)] 107 hX (by decide +kernel) (by decide +kernel) (t := 60) ((if_neg s9_0).trans ((if_neg s9_1).trans (if_pos s9_2))) ?_
    obtain rfl : kd_z = 3 := Zeq (by omega) (by decide) s9_2
    refine Zgo hX 3 rfl (by first | exact True.intro | (dsimp only [ZallP]; and_intros <;> (first | decide | ((try simp only [pk_mul, nI_add]); exact Zin_n (by omega) (by decide))))) ?_
    refine Zs_ret hX hE rfl ⟨rfl, rfl⟩
  by_cases s9_3 : nI kd_z = nI 4
  · skip
    refine Zs_sw [(nI 1, 48), (nI 2, 53), (nI 3, 60), (nI 4, 65), (nI 5, 72), (nI 6, 102)] 107 hX (by decide +kernel) (by decide +kernel) (t := 65) ((if_neg s9_0).trans ((if_neg s9_1).trans ((if_neg s9_2).trans (if_pos s9_3)))) ?_
    obtain rfl : kd_z = 4 := Zeq (by omega) (by decide) s9_3
    refine Zgo hX 5 rfl (by first | exact True.intro | (dsimp only [ZallP]; and_intros <;> (first | decide | ((try simp only [pk_mul, nI_add]); exact Zin_n (by omega) (by decide))))) ?_
    refine Zs_ret hX hE rfl ⟨rfl, rfl⟩
  by_cases s9_4 : nI kd_z = nI 5
  · skip
    refine Zs_sw [(nI 1, 48), (nI 2, 53), (nI 3, 60), (nI 4, 65), (nI 5, 72), (nI 6, 102)] 107 hX (by decide +kernel) (by decide +kernel) (t := 72) ((if_neg s9_0).trans ((if_neg s9_1).trans ((if_neg s9_2).trans ((if_neg s9_3).trans (if_pos s9_4))))) ?_
    obtain rfl : kd_z = 5 := Zeq (by omega) (by decide) s9_4
    refine Zgo hX 7 rfl (by first | exact True.intro | (dsimp only [ZallP]; and_intros <;> (first | decide | ((try simp only [pk_mul, nI_add]); exact Zin_n (by omega) (by decide))))) ?_
    refine Zs_ine hX (List.cons_ne_nil _ _) (fun h81_z => ?_) (fun h81_z => ?_)
    · skip
      refine Zgo hX 7 rfl (by first | exact True.intro | (dsimp only [ZallP]; and_intros <;> (first | decide | ((try simp only [pk_mul, nI_add]); exact Zin_n (by omega) (by decide))))) ?_
      refine Zs_ret hX hE rfl ⟨by first | (simp only [Zsaid]; exact congrArg (fun z_z => some (Value.int z_z)) (if_pos h81_z).symm) | (simp only [Zsaid]; exact congrArg (fun z_z => some (Value.int z_z)) (if_neg h81_z).symm), rfl⟩
    · skip
      refine Zgo hX 6 rfl (by first | exact True.intro | (dsimp only [ZallP]; and_intros <;> (first | decide | ((try simp only [pk_mul, nI_add]); exact Zin_n (by omega) (by decide))))) ?_
      refine Zs_ret hX hE rfl ⟨by first | (simp only [Zsaid]; exact congrArg (fun z_z => some (Value.int z_z)) (if_pos h81_z).symm) | (simp only [Zsaid]; exact congrArg (fun z_z => some (Value.int z_z)) (if_neg h81_z).symm), rfl⟩
  by_cases s9_5 : nI kd_z = nI 6
  · skip
    refine Zs_sw [(nI 1, 48), (nI 2, 53), (nI 3, 60), (nI 4, 65), (nI 5, 72), (nI 6, 102)] 107 hX (by decide +kernel) (by decide +kernel) (t := 102) ((if_neg s9_0).trans ((if_neg s9_1).trans ((if_neg s9_2).trans ((if_neg s9_3).trans ((if_neg s9_4).trans (if_pos s9_5)))))) ?_
    obtain rfl : kd_z = 6 := Zeq (by omega) (by decide) s9_5
    refine Zgo hX 3 rfl (by first | exact True.intro | (dsimp only [ZallP]; and_intros <;> (first | decide | ((try simp only [pk_mul, nI_add]); exact Zin_n (by omega) (by decide))))) ?_
    refine Zs_ret hX hE rfl ⟨rfl, rfl⟩
  refine Zs_sw [(nI 1, 48), (nI 2, 53), (nI 3, 60), (nI 4, 65), (nI 5, 72), (nI 6, 102)] 107 hX (by decide +kernel) (by decide +kernel) (t := 107) ((if_neg s9_0).trans ((if_neg s9_1).trans ((if_neg s9_2).trans ((if_neg s9_3).trans ((if_neg s9_4).trans (if_neg s9_5)))))) ?_
  have z9_0 : kd_z ≠ 1 := Zne (by omega) (by decide) s9_0
  have z9_1 : kd_z ≠ 2 := Zne (by omega) (by decide) s9_1
  have z9_2 : kd_z ≠ 3 := Zne (by omega) (by decide) s9_2
  have z9_3 : kd_z ≠ 4 := Zne (by omega) (by decide) s9_3
  have z9_4 : kd_z ≠ 5 := Zne (by omega) (by decide) s9_4
  have z9_5 : kd_z ≠ 6 := Zne (by omega) (by decide) s9_5
  refine Zgo hX 1 rfl (by first | exact True.intro | (dsimp only [ZallP]; and_intros <;> (first | decide | ((try simp only [pk_mul, nI_add]); exact Zin_n (by omega) (by decide))))) ?_
  refine Zs_ret hX hE rfl ⟨?_, rfl⟩
  obtain rfl : kd_z = 0 := by omega
  rfl

set_option maxRecDepth 20000 in
theorem k_bends (kd_z m_z : Nat) (M : Zmem) (hkd : kd_z ≤ 6) (hm_z : m_z ≤ 9) : ZC 146 0 [.int (nI kd_z), .int (nI m_z)] M (fun r_z M' => r_z = some (.int (Zbend kd_z m_z)) ∧ M = M') := by
  refine ZC_of Zt146 Zk146 (Nat.le_of_ble_eq_true rfl) (by decide) rfl (fun X hX hE => ?_)
  have r3 : nI m_z - nI m_z / nI 3 * nI 3 = nI (m_z % 3) := pk_rem (by omega) (by decide) (by decide)
  refine Zgo hX 7 rfl (by first | exact True.intro | (dsimp only [ZallP]; and_intros <;> (first | decide | ((try simp only [pk_mul, nI_add]); exact Zin_n (by omega) (by decide))))) ?_
  by_cases s7_0 : nI kd_z = nI 1
  · skip
    refine Zs_sw [(nI 1, 40), (nI 4, 42), (nI 6, 46)] 48 hX (by decide +kernel) (by decide +kernel) (t := 40) (if_pos s7_0) ?_
    obtain rfl : kd_z = 1 := Zeq (by omega) (by decide) s7_0
    refine Zgo hX 1 rfl (by first | exact True.intro | (dsimp only [ZallP]; and_intros <;> (first | decide | ((try simp only [pk_mul, nI_add]); exact Zin_n (by omega) (by decide))))) ?_
    refine Zs_ret hX hE rfl ⟨by rw [r3]; rfl, rfl⟩
  by_cases s7_1 : nI kd_z = nI 4
  · skip
    refine Zs_sw [(nI 1, 40), (nI 4, 42), (nI 6, 46)] 48 hX (by decide +kernel) (by decide +kernel) (t := 42) ((if_neg s7_0).trans (if_pos s7_1)) ?_
    obtain rfl : kd_z = 4 := Zeq (by omega) (by decide) s7_1
    refine Zgo hX 3 rfl (by first | exact True.intro | (dsimp only [ZallP]; and_intros <;> (first | decide | ((try simp only [pk_mul, nI_add]); exact Zin_n (by omega) (by decide))))) ?_
    refine Zs_ret hX hE rfl ⟨by rw [r3]; rfl, rfl⟩
  by_cases s7_2 : nI kd_z = nI 6
  · skip
    refine Zs_sw [(nI 1, 40), (nI 4, 42), (nI 6, 46)] 48 hX (by decide +kernel) (by decide +kernel) (t := 46) ((if_neg s7_0).trans ((if_neg s7_1).trans (if_pos s7_2))) ?_
    obtain rfl : kd_z = 6 := Zeq (by omega) (by decide) s7_2
    refine Zgo hX 1 rfl (by first | exact True.intro | (dsimp only [ZallP]; and_intros <;> (first | decide | ((try simp only [pk_mul, nI_add]); exact Zin_n (by omega) (by decide))))) ?_
    refine Zs_ret hX hE rfl ⟨rfl, rfl⟩
  refine Zs_sw [(nI 1, 40), (nI 4, 42), (nI 6, 46)] 48 hX (by decide +kernel) (by decide +kernel) (t := 48) ((if_neg s7_0).trans ((if_neg s7_1).trans (if_neg s7_2))) ?_
  have z7_0 : kd_z ≠ 1 := Zne (by omega) (by decide) s7_0
  have z7_1 : kd_z ≠ 4 := Zne (by omega) (by decide) s7_1
  have z7_2 : kd_z ≠ 6 := Zne (by omega) (by decide) s7_2
  refine Zgo hX 1 rfl (by first | exact True.intro | (dsimp only [ZallP]; and_intros <;> (first | decide | ((try simp only [pk_mul, nI_add]); exact Zin_n (by omega) (by decide))))) ?_
  refine Zs_ret hX hE rfl ⟨?_, rfl⟩
  obtain h0_z | h0_z | h0_z | h0_z : kd_z = 0 ∨ kd_z = 2 ∨ kd_z = 3 ∨ kd_z = 5 := by omega
  all_goals (subst h0_z; rfl)

set_option maxRecDepth 20000 in
theorem s_bendsAs (kd_z m_z : Nat) (M : Zmem) (hkd : kd_z ≤ 6) (hm_z : m_z ≤ 9) : ZC 81 0 [.int (nI kd_z), .int (nI m_z)] M (fun r_z M' => r_z = some (.int (Zbend kd_z m_z)) ∧ M = M') := by
  refine ZC_of Zt81 Zk81 (Nat.le_of_ble_eq_true rfl) (by decide) rfl (fun X hX hE => ?_)
  have r3 : nI m_z - nI m_z / nI 3 * nI 3 = nI (m_z % 3) := pk_rem (by omega) (by decide) (by decide)
  refine Zgo hX 1 rfl (by first | exact True.intro | (dsimp only [ZallP]; and_intros <;> (first | decide | ((try simp only [pk_mul, nI_add]); exact Zin_n (by omega) (by decide))))) ?_
  by_cases s1_0 : nI kd_z = nI 1
  · skip
    refine Zs_sw [(nI 1, 36), (nI 4, 42), (nI 6, 50)] 52 hX (by decide +kernel) (by decide +kernel) (t := 36) (if_pos s1_0) ?_
    obtain rfl : kd_z = 1 := Zeq (by omega) (by decide) s1_0
    refine Zgo hX 5 rfl (by first | exact True.intro | (dsimp only [ZallP]; and_intros <;> (first | decide | ((try simp only [pk_mul, nI_add]); exact Zin_n (by omega) (by decide))))) ?_
    refine Zs_ret hX hE rfl ⟨by rw [r3]; rfl, rfl⟩
  by_cases s1_1 : nI kd_z = nI 4
  · skip
    refine Zs_sw [(nI 1, 36), (nI 4, 42), (nI 6, 50)] 52 hX (by decide +kernel) (by decide +kernel) (t := 42) ((if_neg s1_0).trans (if_pos s1_1)) ?_
    obtain rfl : kd_z = 4 := Zeq (by omega) (by decide) s1_1
    refine Zgo hX 7 rfl (by first | exact True.intro | (dsimp only [ZallP]; and_intros <;> (first | decide | ((try simp only [pk_mul, nI_add]); exact Zin_n (by omega) (by decide))))) ?_
    refine Zs_ret hX hE rfl ⟨by rw [r3]; rfl, rfl⟩
  by_cases s1_2 : nI kd_z = nI 6
  · skip
    refine Zs_sw [(nI 1, 36), (nI 4, 42), (nI 6, 50)] 52 hX (by decide +kernel) (by decide +kernel) (t := 50) ((if_neg s1_0).trans ((if_neg s1_1).trans (if_pos s1_2))) ?_
    obtain rfl : kd_z = 6 := Zeq (by omega) (by decide) s1_2
    refine Zgo hX 1 rfl (by first | exact True.intro | (dsimp only [ZallP]; and_intros <;> (first | decide | ((try simp only [pk_mul, nI_add]); exact Zin_n (by omega) (by decide))))) ?_
    refine Zs_ret hX hE rfl ⟨rfl, rfl⟩
  refine Zs_sw [(nI 1, 36), (nI 4, 42), (nI 6, 50)] 52 hX (by decide +kernel) (by decide +kernel) (t := 52) ((if_neg s1_0).trans ((if_neg s1_1).trans (if_neg s1_2))) ?_
  have z1_0 : kd_z ≠ 1 := Zne (by omega) (by decide) s1_0
  have z1_1 : kd_z ≠ 4 := Zne (by omega) (by decide) s1_1
  have z1_2 : kd_z ≠ 6 := Zne (by omega) (by decide) s1_2
  refine Zgo hX 1 rfl (by first | exact True.intro | (dsimp only [ZallP]; and_intros <;> (first | decide | ((try simp only [pk_mul, nI_add]); exact Zin_n (by omega) (by decide))))) ?_
  refine Zs_ret hX hE rfl ⟨?_, rfl⟩
  obtain h0_z | h0_z | h0_z | h0_z : kd_z = 0 ∨ kd_z = 2 ∨ kd_z = 3 ∨ kd_z = 5 := by omega
  all_goals (subst h0_z; rfl)

set_option maxRecDepth 20000 in
theorem k_above (v_z : Int32) (M : Zmem) : ZC 143 1 [.int v_z] M (fun r_z M' => (∃ x_z : Int32, r_z = some (.int x_z) ∧ ((∃ kd_z, kd_z ≤ 6 ∧ v_z = nI kd_z ∧ x_z = Zabv kd_z) ∨ (¬ (nI 0 ≤ v_z ∧ v_z ≤ nI 6) ∧ x_z = -(nI 1)))) ∧ M = M') := by
  refine ZC_of Zt143 Zk143 (Nat.le_of_ble_eq_true rfl) (by decide) rfl (fun X hX hE => ?_)
  refine Zgo hX 3 rfl (by first | exact True.intro | (dsimp only [ZallP]; and_intros <;> (first | decide | ((try simp only [pk_mul, nI_add]); exact Zin_n (by omega) (by decide))))) ?_
  refine Zs_calls hX (List.cons_ne_nil _ _) (by decide) (k_within _ _ _ _) (by decide) rfl rfl (by decide) (Nat.le_of_ble_eq_true rfl) (fun r_z M' hc_z => ?_)
  rcases hc_z with ⟨⟨rfl, hb_z⟩ | ⟨rfl, hb_z⟩, rfl⟩
  · skip
    refine Zs_eq hX (List.cons_ne_nil _ _) (fun q_z => absurd q_z (by decide)) (fun _ => ?_)
    obtain ⟨kd_z, hkd, rfl⟩ := Zbt_ex (by decide) hb_z
    refine Zgo hX 4 rfl (Zin_n (by omega) (by decide)) ?_
    refine Zs_ret hX hE rfl ⟨⟨_, rfl, by first | exact Or.inl ⟨kd_z, hkd, rfl, by rw [Zcl_n (by omega)]; rfl⟩ | exact Or.inr ⟨hb_z, rfl⟩⟩, rfl⟩
  · skip
    refine Zs_eq hX (List.cons_ne_nil _ _) (fun _ => ?_) (fun q_z => absurd rfl q_z)
    refine Zgo hX 1 rfl (by first | exact True.intro | (dsimp only [ZallP]; and_intros <;> (first | decide | ((try simp only [pk_mul, nI_add]); exact Zin_n (by omega) (by decide))))) ?_
    refine Zs_ret hX hE rfl ⟨⟨_, rfl, by first | exact Or.inl ⟨kd_z, hkd, rfl, by rw [Zcl_n (by omega)]; rfl⟩ | exact Or.inr ⟨hb_z, rfl⟩⟩, rfl⟩

set_option maxRecDepth 20000 in
theorem s_above (v_z : Int32) (M : Zmem) : ZC 114 0 [.int v_z] M (fun r_z M' => r_z = some (.int (if v_z = nI 4 then nI 1 else if v_z = nI 5 then nI 2 else nI 0)) ∧ M = M') := by
  refine ZC_of Zt114 Zk114 (Nat.le_of_ble_eq_true rfl) (by decide) rfl (fun X hX hE => ?_)
  refine Zgo hX 2 rfl (by first | exact True.intro | (dsimp only [ZallP]; and_intros <;> (first | decide | ((try simp only [pk_mul, nI_add]); exact Zin_n (by omega) (by decide))))) ?_
  refine Zs_ine hX (List.cons_ne_nil _ _) (fun h1_z => ?_) (fun h1_z => ?_)
  · skip
    refine Zgo hX 2 rfl (by first | exact True.intro | (dsimp only [ZallP]; and_intros <;> (first | decide | ((try simp only [pk_mul, nI_add]); exact Zin_n (by omega) (by decide))))) ?_
    refine Zs_ine hX (List.cons_ne_nil _ _) (fun h2_z => ?_) (fun h2_z => ?_)
    · skip
      refine Zgo hX 1 rfl (by first | exact True.intro | (dsimp only [ZallP]; and_intros <;> (first | decide | ((try simp only [pk_mul, nI_add]); exact Zin_n (by omega) (by decide))))) ?_
      refine Zs_ret hX hE rfl ⟨by first | rw [if_pos h1_z] | rw [if_neg h1_z, if_pos h2_z] | rw [if_neg h1_z, if_neg h2_z], rfl⟩
    · skip
      refine Zgo hX 2 rfl (by first | exact True.intro | (dsimp only [ZallP]; and_intros <;> (first | decide | ((try simp only [pk_mul, nI_add]); exact Zin_n (by omega) (by decide))))) ?_
      refine Zs_ret hX hE rfl ⟨by first | rw [if_pos h1_z] | rw [if_neg h1_z, if_pos h2_z] | rw [if_neg h1_z, if_neg h2_z], rfl⟩
  · skip
    refine Zgo hX 2 rfl (by first | exact True.intro | (dsimp only [ZallP]; and_intros <;> (first | decide | ((try simp only [pk_mul, nI_add]); exact Zin_n (by omega) (by decide))))) ?_
    refine Zs_ret hX hE rfl ⟨by first | rw [if_pos h1_z] | rw [if_neg h1_z, if_pos h2_z] | rw [if_neg h1_z, if_neg h2_z], rfl⟩

set_option maxRecDepth 20000 in
theorem k_draw (M : Zmem) : ZC 178 0 [.ref 1] M (fun r_z M' => r_z = some (.int ((M 1 10 * nI 1103515245 + nI 12345).toUInt32 >>> ((nI 8).toUInt32 &&& Int32.toUInt32 31)).toInt32) ∧ Zu M 1 10 (M 1 10 * nI 1103515245 + nI 12345) = M') := by
  refine ZC_of Zt178 Zk178 (Nat.le_of_ble_eq_true rfl) (by decide) rfl (fun X hX hE => ?_)
  refine Zgo hX 12 rfl (by first | exact True.intro | (dsimp only [ZallP]; and_intros <;> (first | decide | ((try simp only [pk_mul, nI_add]); exact Zin_n (by omega) (by decide))))) ?_
  refine Zs_ret hX hE rfl ⟨by rw [Zu_k, if_pos ⟨rfl, rfl⟩], rfl⟩

set_option maxRecDepth 20000 in
theorem s_draw (M : Zmem) : ZC 84 0 [.ref 53] M (fun r_z M' => r_z = some (.int ((M 54 4 * nI 1103515245 + nI 12345).toUInt32 >>> ((nI 8).toUInt32 &&& Int32.toUInt32 31)).toInt32) ∧ Zu M 54 4 (M 54 4 * nI 1103515245 + nI 12345) = M') := by
  refine ZC_of Zt84 Zk84 (Nat.le_of_ble_eq_true rfl) (by decide) rfl (fun X hX hE => ?_)
  refine Zgo hX 18 rfl (by first | exact True.intro | (dsimp only [ZallP]; and_intros <;> (first | decide | ((try simp only [pk_mul, nI_add]); exact Zin_n (by omega) (by decide))))) ?_
  refine Zs_ret hX hE rfl ⟨by rw [Zcl_n (by decide), Zu_k, if_pos ⟨rfl, rfl⟩], by rw [Zcl_n (by decide)]⟩
