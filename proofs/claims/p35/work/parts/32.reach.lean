
def Zst_ (o_z : Nat) : Nat := ([0, 10, 12, 60] : List Nat).getD o_z 0
theorem Zst_k : ∀ {o_z : Nat}, o_z < 4 → ∃ kd_z m_z, kd_z ≤ 6 ∧ m_z ≤ 9 ∧ Zst_ o_z = 10 * kd_z + m_z ∧ (([0, 10, 12, 60] : List Int32).getD o_z 0) = nI (10 * kd_z + m_z) := by
  intro o_z h_z
  rcases (show o_z = 0 ∨ o_z = 1 ∨ o_z = 2 ∨ o_z = 3 by omega) with rfl | rfl | rfl | rfl
  · exact ⟨0, 0, by decide, by decide, rfl, rfl⟩
  · exact ⟨1, 0, by decide, by decide, rfl, rfl⟩
  · exact ⟨1, 2, by decide, by decide, rfl, rfl⟩
  · exact ⟨6, 0, by decide, by decide, rfl, rfl⟩
theorem Zabs_n {a_z : Int32} (h1_z : -1000 ≤ a_z.toInt) (h2_z : a_z.toInt ≤ 1000) : (if 0 ≤ a_z then a_z else -a_z) = nI a_z.toInt.natAbs ∧ a_z.toInt.natAbs ≤ 1000 := by
  refine ⟨?_, by omega⟩
  split
  · rename_i h_z
    rw [Zeq_i, Zn_i (by omega)]
    have := (Zle_i 0 a_z).mp h_z
    have e0_z : (0 : Int32).toInt = 0 := rfl
    omega
  · rename_i h_z
    have h3_z : a_z.toInt < 0 := by
      have := Int32.not_le.mp h_z
      exact (Zlt_i a_z 0).mp this
    rw [Zeq_i, Zn_i (by omega), Int32.toInt_neg, Int.bmod_eq_of_le (by omega) (by omega)]
    omega
theorem Z4p {F : Nat} (h_z : F ≤ 5) : nI 1 <<< ((nI 2 * nI F) &&& 31) = nI (4 ^ F) ∧ 4 ^ F ≤ 1024 := by
  have key : ∀ F, F < 6 → nI 1 <<< ((nI 2 * nI F) &&& 31) = nI (4 ^ F) ∧ 4 ^ F ≤ 1024 := by decide +kernel
  exact key F (by omega)

set_option maxRecDepth 20000 in
set_option maxHeartbeats 1000000 in
theorem k_digit (a_z b_z c_z : Int32) (M : Zmem) : ZC 153 0 [.int a_z, .int b_z, .int c_z] M (fun r_z M' => (∃ j_z, j_z < 4 ∧ r_z = some (.int (nI j_z))) ∧ M = M') := by
  refine ZC_of Zt153 Zk153 (Nat.le_of_ble_eq_true rfl) (by decide) rfl (fun X hX hE => ?_)
  refine Zgo hX 11 rfl (by (first | exact True.intro | assumption | (dsimp only [ZallP]; and_intros <;> (first | assumption | decide | omega | ((try simp (disch := omega) only [pk_mul, nI_add, Zcl_n]); exact Zin_n (by omega) (by decide)))))) ?_
  obtain ⟨j_z, hj_z, e_z⟩ := pk_andE ((a_z.toUInt32 >>> ((nI 2 * (b_z - nI 1 - c_z)).toUInt32 &&& Int32.toUInt32 31)).toInt32) (m := nI 3) 2 (by decide +kernel)
  rw [e_z]
  refine Zs_ret hX hE rfl ⟨⟨j_z, by omega, rfl⟩, rfl⟩

set_option maxRecDepth 20000 in
set_option maxHeartbeats 1000000 in
theorem k_ryarn (F : Nat) (row_z : Int32) (M : Zmem) (hF : F ≤ 5) (hm_z : M 38 1 = nI F) : ZC 152 1 [.ref 38, .int row_z] M (fun r_z M' => (∃ v_z : Int32, r_z = some (.int v_z)) ∧ M = M') := by
  refine ZC_of Zt152 Zk152 (Nat.le_of_ble_eq_true rfl) (by decide) rfl (fun X hX hE => ?_)
  have L : ∀ (q_z i_z : Nat) (sm : Int32), i_z + q_z = F → ZP X Zt152 (Zsf Zt152 4) [(2, .int sm), (3, .int (nI i_z)), (0, .ref 38), (1, .int row_z)] [] M := by
    intro q_z
    induction q_z with
    | zero =>
      intro i_z sm hi_z
      obtain rfl : i_z = F := by omega
      refine Zgo hX 3 rfl (by (first | exact True.intro | assumption | (dsimp only [ZallP]; and_intros <;> (first | assumption | decide | omega | ((try simp (disch := omega) only [pk_mul, nI_add, Zcl_n]); exact Zin_n (by omega) (by decide)))))) ?_
      rw [hm_z]
      refine Zs_ige hX (List.cons_ne_nil _ _) (fun h_z => ?_) (fun h_z => ?_)
      · refine Zgo hX 1 rfl (by (first | exact True.intro | assumption | (dsimp only [ZallP]; and_intros <;> (first | assumption | decide | omega | ((try simp (disch := omega) only [pk_mul, nI_add, Zcl_n]); exact Zin_n (by omega) (by decide)))))) ?_
        refine Zs_ret hX hE rfl ⟨⟨_, rfl⟩, rfl⟩
      · exact absurd (Int32.le_refl _) h_z
    | succ q_z ih_z =>
      intro i_z sm hi_z
      refine Zgo hX 3 rfl (by (first | exact True.intro | assumption | (dsimp only [ZallP]; and_intros <;> (first | assumption | decide | omega | ((try simp (disch := omega) only [pk_mul, nI_add, Zcl_n]); exact Zin_n (by omega) (by decide)))))) ?_
      rw [hm_z]
      refine Zs_ige hX (List.cons_ne_nil _ _) (fun h_z => ?_) (fun h_z => ?_)
      · exact absurd ((Zn_le (by omega) (by omega)).mp h_z) (by omega)
      · refine Zgo hX 7 rfl (by (first | exact True.intro | assumption | (dsimp only [ZallP]; and_intros <;> (first | assumption | decide | omega | ((try simp (disch := omega) only [pk_mul, nI_add, Zcl_n]); exact Zin_n (by omega) (by decide)))))) ?_
        refine Zs_calls hX (List.cons_ne_nil _ _) (by decide) (k_digit _ _ _ _) (by first | decide | omega) rfl rfl (by decide) (Nat.le_of_ble_eq_true rfl) (fun r_z M' hc_z => ?_)
        obtain ⟨⟨j_z, hj_z, rfl⟩, rfl⟩ := hc_z
        refine Zgo hX 5 rfl (Zin_n hj_z (by decide)) ?_
        rw [nI_add]
        refine Zs_sub (l' := [(2, .int (sm + M 39 (nI j_z).toNatClampNeg)), (3, .int (nI (i_z + 1))), (0, .ref 38), (1, .int row_z)]) rfl ?_
        exact ih_z (i_z + 1) _ (by omega)
  refine Zgo hX 4 rfl (by (first | exact True.intro | assumption | (dsimp only [ZallP]; and_intros <;> (first | assumption | decide | omega | ((try simp (disch := omega) only [pk_mul, nI_add, Zcl_n]); exact Zin_n (by omega) (by decide)))))) ?_
  refine Zs_sub (l' := [(2, .int (nI 0)), (3, .int (nI 0)), (0, .ref 38), (1, .int row_z)]) rfl ?_
  exact L F 0 _ (by omega)

set_option maxRecDepth 20000 in
set_option maxHeartbeats 1000000 in
theorem k_keepIfLess2 (F : Nat) (row_z : Int32) (M : Zmem) (hF : F ≤ 5) (hm_z : M 38 1 = nI F) : ZC 150 2 [.ref 38, .int row_z] M (fun r_z M' => r_z = none ∧ Sc M M' ∧ M' 38 1 = nI F ∧ ∀ j_z, M' 35 j_z = M 35 j_z) := by
  refine ZC_of Zt150 Zk150 (Nat.le_of_ble_eq_true rfl) (by decide) rfl (fun X hX hE => ?_)
  refine Zgo hX 2 rfl (by (first | exact True.intro | assumption | (dsimp only [ZallP]; and_intros <;> (first | assumption | decide | omega | ((try simp (disch := omega) only [pk_mul, nI_add, Zcl_n]); exact Zin_n (by omega) (by decide)))))) ?_
  refine Zs_callv hX (List.cons_ne_nil _ _) (k_ryarn F row_z M hF hm_z) (by first | decide | omega) (by decide) rfl rfl rfl (by decide) (Nat.le_of_ble_eq_true rfl) (fun r_z M' hc_z => ?_)
  obtain ⟨⟨v_z, rfl⟩, rfl⟩ := hc_z
  have TAKE : ZP X Zt150 (Zsf Zt150 21) [(2, .int v_z), (0, .ref 38), (1, .int row_z)] [] M := by
    refine Zgo hX 6 rfl (by (first | exact True.intro | assumption | (dsimp only [ZallP]; and_intros <;> (first | assumption | decide | omega | ((try simp (disch := omega) only [pk_mul, nI_add, Zcl_n]); exact Zin_n (by omega) (by decide)))))) ?_
    refine Zs_retv hX hE rfl ⟨rfl, ((Sc.rf M).u _ rfl).u _ rfl, hm_z, fun _ => rfl⟩
  refine Zgo hX 3 rfl (by (first | exact True.intro | assumption | (dsimp only [ZallP]; and_intros <;> (first | assumption | decide | omega | ((try simp (disch := omega) only [pk_mul, nI_add, Zcl_n]); exact Zin_n (by omega) (by decide)))))) ?_
  refine Zs_lt hX (List.cons_ne_nil _ _) (fun h_z => ?_) (fun h_z => ?_)
  · refine Zs_sub (l' := [(2, .int v_z), (0, .ref 38), (1, .int row_z)]) rfl ?_
    exact TAKE
  · refine Zgo hX 3 rfl (by (first | exact True.intro | assumption | (dsimp only [ZallP]; and_intros <;> (first | assumption | decide | omega | ((try simp (disch := omega) only [pk_mul, nI_add, Zcl_n]); exact Zin_n (by omega) (by decide)))))) ?_
    refine Zs_ige hX (List.cons_ne_nil _ _) (fun h2_z => ?_) (fun h2_z => ?_)
    · refine Zs_retv hX hE rfl ⟨rfl, Sc.rf _, hm_z, fun _ => rfl⟩
    · refine Zs_sub (l' := [(2, .int v_z), (0, .ref 38), (1, .int row_z)]) rfl ?_
      exact TAKE

set_option maxRecDepth 20000 in
set_option maxHeartbeats 1000000 in
theorem k_leads (n_z F w_z : Nat) (row_z x_z y_z : Int32) (M : Zmem) (hn_z : n_z ≤ 15) (hF : F ≤ 5) (hm_z : M 38 1 = nI F) (hr_z : M 35 2 = nI n_z) (hw_z : w_z < 4) (hg_z : M 35 3 = nI w_z) : ZC 151 2 [.ref 38, .int row_z, .ref 35, .int x_z, .int y_z] M (fun r_z M' => (r_z = some (.int (nI 0)) ∨ r_z = some (.int (nI 1))) ∧ M = M') := by
  refine ZC_of Zt151 Zk151 (Nat.le_of_ble_eq_true rfl) (by decide) rfl (fun X hX hE => ?_)
  have L : ∀ (q_z i_z w_z : Nat) (ax dx : Int32), i_z + q_z = F → w_z < 4 → ZP X Zt151 (Zsf Zt151 31) [(8, .int (nI i_z)), (7, .int (nI w_z)), (5, .int ax), (6, .int dx), (0, .ref 38), (1, .int row_z), (3, .int x_z), (4, .int y_z)] [] M := by
    intro q_z
    induction q_z with
    | zero =>
      intro i_z w_z ax dx hi_z hw_z
      obtain rfl : i_z = F := by omega
      refine Zgo hX 3 rfl (by (first | exact True.intro | assumption | (dsimp only [ZallP]; and_intros <;> (first | assumption | decide | omega | ((try simp (disch := omega) only [pk_mul, nI_add, Zcl_n]); exact Zin_n (by omega) (by decide)))))) ?_
      rw [hm_z]
      refine Zs_ige hX (List.cons_ne_nil _ _) (fun h_z => ?_) (fun h_z => ?_)
      · refine Zgo hX 2 rfl (by (first | exact True.intro | assumption | (dsimp only [ZallP]; and_intros <;> (first | assumption | decide | omega | ((try simp (disch := omega) only [pk_mul, nI_add, Zcl_n]); exact Zin_n (by omega) (by decide)))))) ?_
        refine Zs_ine hX (List.cons_ne_nil _ _) (fun h2_z => ?_) (fun h2_z => ?_)
        · refine Zgo hX 1 rfl (by (first | exact True.intro | assumption | (dsimp only [ZallP]; and_intros <;> (first | assumption | decide | omega | ((try simp (disch := omega) only [pk_mul, nI_add, Zcl_n]); exact Zin_n (by omega) (by decide)))))) ?_
          refine Zs_retz hX hE rfl (by first | exact Or.inl rfl | exact Or.inr rfl) ⟨Or.inl rfl, rfl⟩
        · refine Zgo hX 2 rfl (by (first | exact True.intro | assumption | (dsimp only [ZallP]; and_intros <;> (first | assumption | decide | omega | ((try simp (disch := omega) only [pk_mul, nI_add, Zcl_n]); exact Zin_n (by omega) (by decide)))))) ?_
          refine Zs_ine hX (List.cons_ne_nil _ _) (fun h3_z => ?_) (fun h3_z => ?_)
          · refine Zgo hX 1 rfl (by (first | exact True.intro | assumption | (dsimp only [ZallP]; and_intros <;> (first | assumption | decide | omega | ((try simp (disch := omega) only [pk_mul, nI_add, Zcl_n]); exact Zin_n (by omega) (by decide)))))) ?_
            refine Zs_retz hX hE rfl (by first | exact Or.inl rfl | exact Or.inr rfl) ⟨Or.inl rfl, rfl⟩
          · refine Zgo hX 2 rfl (by (first | exact True.intro | assumption | (dsimp only [ZallP]; and_intros <;> (first | assumption | decide | omega | ((try simp (disch := omega) only [pk_mul, nI_add, Zcl_n]); exact Zin_n (by omega) (by decide)))))) ?_
            refine Zs_retz hX hE rfl (by first | exact Or.inl rfl | exact Or.inr rfl) ⟨Or.inr rfl, rfl⟩
      · exact absurd (Int32.le_refl _) h_z
    | succ q_z ih_z =>
      intro i_z w_z ax dx hi_z hw_z
      refine Zgo hX 3 rfl (by (first | exact True.intro | assumption | (dsimp only [ZallP]; and_intros <;> (first | assumption | decide | omega | ((try simp (disch := omega) only [pk_mul, nI_add, Zcl_n]); exact Zin_n (by omega) (by decide)))))) ?_
      rw [hm_z]
      refine Zs_ige hX (List.cons_ne_nil _ _) (fun h_z => ?_) (fun h_z => ?_)
      · exact absurd ((Zn_le (by omega) (by omega)).mp h_z) (by omega)
      · refine Zgo hX 5 rfl (by (first | exact True.intro | assumption | (dsimp only [ZallP]; and_intros <;> (first | assumption | decide | omega | ((try simp (disch := omega) only [pk_mul, nI_add, Zcl_n]); exact Zin_n (by omega) (by decide)))))) ?_
        rw [hm_z]
        refine Zs_calls hX (List.cons_ne_nil _ _) (by decide) (k_digit _ _ _ _) (by first | decide | omega) rfl rfl (by decide) (Nat.le_of_ble_eq_true rfl) (fun r_z M' hc_z => ?_)
        obtain ⟨⟨j_z, hj_z, rfl⟩, rfl⟩ := hc_z
        obtain ⟨kd_z, m_z, hkd, hm9, e1_z, e2_z⟩ := Zst_k hj_z
        obtain ⟨b1_z, b2_z⟩ := Zbn_ok hkd hm9
        refine Zgo hX 9 rfl (by dsimp only [ZallP]; exact ⟨⟨Zin_n hj_z (by decide), (show ¬ nI 10 = nI 0 by decide)⟩, (show ¬ nI 10 = nI 0 by decide)⟩) ?_
        dsimp only
        rw [Zcl_n (show j_z < 2 ^ 31 by omega), e2_z, pk_rem (by omega) (by decide) (by decide), pk_div (by omega) (by decide) (by decide), show (10 * kd_z + m_z) / 10 = kd_z by omega, show (10 * kd_z + m_z) % 10 = m_z by omega]
        refine Zs_calls hX (List.cons_ne_nil _ _) (by decide) (k_bends kd_z m_z _ hkd hm9) (by first | decide | omega) rfl rfl (by decide) (Nat.le_of_ble_eq_true rfl) (fun r_z M' hc_z => ?_)
        obtain ⟨rfl, rfl⟩ := hc_z
        rw [b1_z]
        refine Zs_calls hX (List.cons_ne_nil _ _) (by decide) (k_turned w_z (Zbn kd_z m_z) _ hw_z b2_z) (by first | decide | omega) rfl rfl (by decide) (Nat.le_of_ble_eq_true rfl) (fun r_z M' hc_z => ?_)
        obtain ⟨rfl, rfl⟩ := hc_z
        have hv_z := Zgn_lt w_z (Zbn kd_z m_z)
        refine Zgo hX 3 rfl (by (first | exact True.intro | assumption | (dsimp only [ZallP]; and_intros <;> (first | assumption | decide | omega | ((try simp (disch := omega) only [pk_mul, nI_add, Zcl_n]); exact Zin_n (by omega) (by decide)))))) ?_
        refine Zs_calls hX (List.cons_ne_nil _ _) (by decide) (k_acrossMore _ _ hv_z) (by first | decide | omega) rfl rfl (by decide) (Nat.le_of_ble_eq_true rfl) (fun r_z M' hc_z => ?_)
        obtain ⟨rfl, rfl⟩ := hc_z
        refine Zgo hX 4 rfl (by (first | exact True.intro | assumption | (dsimp only [ZallP]; and_intros <;> (first | assumption | decide | omega | ((try simp (disch := omega) only [pk_mul, nI_add, Zcl_n]); exact Zin_n (by omega) (by decide)))))) ?_
        refine Zs_calls hX (List.cons_ne_nil _ _) (by decide) (k_downMore _ _ hv_z) (by first | decide | omega) rfl rfl (by decide) (Nat.le_of_ble_eq_true rfl) (fun r_z M' hc_z => ?_)
        obtain ⟨rfl, rfl⟩ := hc_z
        refine Zgo hX 4 rfl (by (first | exact True.intro | assumption | (dsimp only [ZallP]; and_intros <;> (first | assumption | decide | omega | ((try simp (disch := omega) only [pk_mul, nI_add, Zcl_n]); exact Zin_n (by omega) (by decide)))))) ?_
        rw [nI_add]
        refine Zs_sub (l' := [(8, .int (nI (i_z + 1))), (7, .int (nI (Zgn w_z (Zbn kd_z m_z)))), (5, .int (ax + Zam (Zgn w_z (Zbn kd_z m_z)))), (6, .int (dx + Zdm (Zgn w_z (Zbn kd_z m_z)))), (0, .ref 38), (1, .int row_z), (3, .int x_z), (4, .int y_z)]) rfl ?_
        exact ih_z (i_z + 1) _ _ _ (by omega) hv_z
  refine Zgo hX 17 rfl (by dsimp only [ZallP]; rw [hr_z]; exact ⟨Zin_n (by omega) (by decide), Zin_n (by omega) (by decide)⟩) ?_
  rw [hr_z, hg_z, Zcl_n (show n_z < 2 ^ 31 by omega)]
  refine Zs_sub (l' := [(8, .int (nI 0)), (7, .int (nI w_z)), (5, .int (M 36 n_z)), (6, .int (M 37 n_z)), (0, .ref 38), (1, .int row_z), (3, .int x_z), (4, .int y_z)]) rfl ?_
  exact L F 0 w_z _ _ (by omega) hw_z

set_option maxRecDepth 20000 in
set_option maxHeartbeats 1000000 in
theorem k_finds (f_z : Nat → Int32) (n_z : Nat) (w_z : Nat) (x_z y_z ax dx : Int32) (M : Zmem) (hz_z : Zrv 1 f_z M) (hfi : Zfi f_z) (hn_z : f_z 7 = nI n_z) (hn2 : n_z ≤ 15) (hr_z : M 35 2 = nI n_z) (hw_z : w_z < 4) (hg_z : M 35 3 = nI w_z) (hax : M 36 n_z = ax) (hdx : M 37 n_z = dx) (hab : -15 ≤ ax.toInt ∧ ax.toInt ≤ 15) (hdb : -15 ≤ dx.toInt ∧ dx.toInt ≤ 15) (hx_z : -9 ≤ x_z.toInt ∧ x_z.toInt ≤ 9) (hy : -9 ≤ y_z.toInt ∧ y_z.toInt ≤ 9) : ZC 149 5 [.ref 38, .ref 1, .ref 35, .int x_z, .int y_z] M (fun r_z M' => (r_z = some (.int (nI 0)) ∨ r_z = some (.int (nI 1))) ∧ Sc M M' ∧ (r_z = some (.int (nI 1)) → ∃ F, F ≤ 5 ∧ M' 38 1 = nI F)) := by
  refine ZC_of Zt149 Zk149 (Nat.le_of_ble_eq_true rfl) (by decide) rfl (fun X hX hE => ?_)
  have dx1 : (x_z - ax).toInt = x_z.toInt - ax.toInt := Zsub_i (by omega) (by omega)
  have dy1 : (y_z - dx).toInt = y_z.toInt - dx.toInt := Zsub_i (by omega) (by omega)
  obtain ⟨ea, ba⟩ := Zabs_n (a_z := x_z - ax) (by omega) (by omega)
  obtain ⟨eb, bb⟩ := Zabs_n (a_z := y_z - dx) (by omega) (by omega)
  refine Zgo hX 7 rfl (by rw [hr_z]; exact Zin_n (by omega) (by decide)) ?_
  rw [hr_z, Zcl_n (show n_z < 2 ^ 31 by omega), hax]
  refine Zs_calls hX (List.cons_ne_nil _ _) (by decide) (c_abs _ _) (by first | decide | omega) rfl rfl (by decide) (Nat.le_of_ble_eq_true rfl) (fun r_z M' hc_z => ?_)
  obtain ⟨rfl, rfl⟩ := hc_z
  rw [ea]
  refine Zgo hX 7 rfl (by rw [hr_z]; exact Zin_n (by omega) (by decide)) ?_
  rw [hr_z, Zcl_n (show n_z < 2 ^ 31 by omega), hdx]
  refine Zs_calls hX (List.cons_ne_nil _ _) (by decide) (c_abs _ _) (by first | decide | omega) rfl rfl (by decide) (Nat.le_of_ble_eq_true rfl) (fun r_z M' hc_z => ?_)
  obtain ⟨rfl, rfl⟩ := hc_z
  rw [eb]
  refine Zgo hX 8 rfl (by (first | exact True.intro | assumption | (dsimp only [ZallP]; and_intros <;> (first | assumption | decide | omega | ((try simp (disch := omega) only [pk_mul, nI_add, Zcl_n]); exact Zin_n (by omega) (by decide)))))) ?_
  rw [hr_z, nI_add, pk_sub (show n_z ≤ 15 by omega)]
  refine Zs_calls hX (List.cons_ne_nil _ _) (by decide) (c_min _ _ _) (by first | decide | omega) rfl rfl (by decide) (Nat.le_of_ble_eq_true rfl) (fun r_z M' hc_z => ?_)
  obtain ⟨rfl, rfl⟩ := hc_z
  generalize hF0 : (x_z - ax).toInt.natAbs + (y_z - dx).toInt.natAbs = F
  have emin : (if nI (15 - n_z) < nI 5 then nI (15 - n_z) else nI 5) = nI (if 15 - n_z < 5 then 15 - n_z else 5) := by
    by_cases c_z : 15 - n_z < 5
    · rw [if_pos c_z, if_pos ((Zn_lt (by omega) (by omega)).mpr c_z)]
    · rw [if_neg c_z, if_neg (fun q_z => c_z ((Zn_lt (by omega) (by omega)).mp q_z))]
  rw [emin]
  have hmn : (if 15 - n_z < 5 then 15 - n_z else 5) ≤ 5 := by split <;> omega
  refine Zs_ile hX (List.cons_ne_nil _ _) (fun h_z => ?_) (fun h_z => ?_)
  · have hF : F ≤ 5 := Nat.le_trans ((Zn_le (by omega) (by omega)).mp h_z) hmn
    have LR : ∀ (q_z i_z : Nat) (M1 : Zmem), i_z + q_z = 4 ^ F → Sc M M1 → M1 38 1 = nI F → M1 35 2 = nI n_z → M1 35 3 = nI w_z → ZP X Zt149 (Zsf Zt149 101) [(6, .int (nI i_z)), (5, .int (nI F)), (0, .ref 38), (1, .ref 1), (2, .ref 35), (3, .int x_z), (4, .int y_z)] [] M1 := by
      intro q_z
      induction q_z with
      | zero =>
        intro i_z M1 hi_z hsc hm_z h1_z h2_z
        refine Zgo hX 7 rfl (by (first | exact True.intro | assumption | (dsimp only [ZallP]; and_intros <;> (first | assumption | decide | omega | ((try simp (disch := omega) only [pk_mul, nI_add, Zcl_n]); exact Zin_n (by omega) (by decide)))))) ?_
        rw [hm_z, (Z4p hF).1]
        refine Zs_ige hX (List.cons_ne_nil _ _) (fun h3_z => ?_) (fun h3_z => ?_)
        · refine Zgo hX 2 rfl (by (first | exact True.intro | assumption | (dsimp only [ZallP]; and_intros <;> (first | assumption | decide | omega | ((try simp (disch := omega) only [pk_mul, nI_add, Zcl_n]); exact Zin_n (by omega) (by decide)))))) ?_
          refine Zs_lt hX (List.cons_ne_nil _ _) (fun h4_z => ?_) (fun h4_z => ?_)
          · refine Zgo hX 1 rfl (by (first | exact True.intro | assumption | (dsimp only [ZallP]; and_intros <;> (first | assumption | decide | omega | ((try simp (disch := omega) only [pk_mul, nI_add, Zcl_n]); exact Zin_n (by omega) (by decide)))))) ?_
            refine Zs_retz hX hE rfl (by first | exact Or.inl rfl | exact Or.inr rfl) ⟨Or.inl rfl, hsc, fun q_z => absurd q_z (by decide)⟩
          · refine Zgo hX 2 rfl (by (first | exact True.intro | assumption | (dsimp only [ZallP]; and_intros <;> (first | assumption | decide | omega | ((try simp (disch := omega) only [pk_mul, nI_add, Zcl_n]); exact Zin_n (by omega) (by decide)))))) ?_
            refine Zs_retz hX hE rfl (by first | exact Or.inl rfl | exact Or.inr rfl) ⟨Or.inr rfl, hsc, fun _ => ⟨F, hF, hm_z⟩⟩
        · have := (Z4p hF).2
          exact absurd ((Zn_le (by omega) (by omega)).mpr (by omega)) h3_z
      | succ q_z ih_z =>
        intro i_z M1 hi_z hsc hm_z h1_z h2_z
        have h4p := (Z4p hF).2
        refine Zgo hX 7 rfl (by (first | exact True.intro | assumption | (dsimp only [ZallP]; and_intros <;> (first | assumption | decide | omega | ((try simp (disch := omega) only [pk_mul, nI_add, Zcl_n]); exact Zin_n (by omega) (by decide)))))) ?_
        rw [hm_z, (Z4p hF).1]
        refine Zs_ige hX (List.cons_ne_nil _ _) (fun h3_z => ?_) (fun h3_z => ?_)
        · exact absurd ((Zn_le (by omega) (by omega)).mp h3_z) (by omega)
        · refine Zgo hX 5 rfl (by (first | exact True.intro | assumption | (dsimp only [ZallP]; and_intros <;> (first | assumption | decide | omega | ((try simp (disch := omega) only [pk_mul, nI_add, Zcl_n]); exact Zin_n (by omega) (by decide)))))) ?_
          refine Zs_callv hX (List.cons_ne_nil _ _) (k_leads n_z F w_z (nI i_z) x_z y_z _ hn2 hF hm_z h1_z hw_z h2_z) (by first | decide | omega) (by decide) rfl rfl rfl (by decide) (Nat.le_of_ble_eq_true rfl) (fun r_z M' hc_z => ?_)
          obtain ⟨hz0, rfl⟩ := hc_z
          rcases hz0 with rfl | rfl
          · refine Zs_eq hX (List.cons_ne_nil _ _) (fun _ => ?_) (fun q_z => False.elim (by revert q_z; decide))
            refine Zgo hX 2 rfl (by (first | exact True.intro | assumption | (dsimp only [ZallP]; and_intros <;> (first | assumption | decide | omega | ((try simp (disch := omega) only [pk_mul, nI_add, Zcl_n]); exact Zin_n (by omega) (by decide)))))) ?_
            rw [nI_add]
            refine Zs_sub (l' := [(6, .int (nI (i_z + 1))), (5, .int (nI F)), (0, .ref 38), (1, .ref 1), (2, .ref 35), (3, .int x_z), (4, .int y_z)]) rfl ?_
            exact ih_z (i_z + 1) M1 (by omega) hsc hm_z h1_z h2_z
          · refine Zs_eq hX (List.cons_ne_nil _ _) (fun q_z => False.elim (by revert q_z; decide)) (fun _ => ?_)
            refine Zgo hX 2 rfl (by (first | exact True.intro | assumption | (dsimp only [ZallP]; and_intros <;> (first | assumption | decide | omega | ((try simp (disch := omega) only [pk_mul, nI_add, Zcl_n]); exact Zin_n (by omega) (by decide)))))) ?_
            refine Zs_callv hX (List.cons_ne_nil _ _) (k_keepIfLess2 F (nI i_z) _ hF hm_z) (by first | decide | omega) (by decide) rfl rfl rfl (by decide) (Nat.le_of_ble_eq_true rfl) (fun r_z M' hc_z => ?_)
            obtain ⟨rfl, hs2, hm2, h35_z⟩ := hc_z
            have k1_z : M' 35 2 = nI n_z := (h35_z 2).trans h1_z
            have k2_z : M' 35 3 = nI w_z := (h35_z 3).trans h2_z
            refine Zgo hX 2 rfl (by (first | exact True.intro | assumption | (dsimp only [ZallP]; and_intros <;> (first | assumption | decide | omega | ((try simp (disch := omega) only [pk_mul, nI_add, Zcl_n]); exact Zin_n (by omega) (by decide)))))) ?_
            rw [nI_add]
            refine Zs_sub (l' := [(6, .int (nI (i_z + 1))), (5, .int (nI F)), (0, .ref 38), (1, .ref 1), (2, .ref 35), (3, .int x_z), (4, .int y_z)]) rfl ?_
            exact ih_z (i_z + 1) M' (by omega) (hsc.tr hs2) hm2 k1_z k2_z
    have LA : ∀ (q_z i_z : Nat) (M1 : Zmem), i_z + q_z = 4 → Sc M M1 → M1 35 2 = nI n_z → M1 35 3 = nI w_z → ZP X Zt149 (Zsf Zt149 53) [(6, .int (nI i_z)), (5, .int (nI F)), (0, .ref 38), (1, .ref 1), (2, .ref 35), (3, .int x_z), (4, .int y_z)] [] M1 := by
      intro q_z
      induction q_z with
      | zero =>
        intro i_z M1 hi_z hsc h1_z h2_z
        obtain rfl : i_z = 4 := by omega
        refine Zgo hX 3 rfl (by (first | exact True.intro | assumption | (dsimp only [ZallP]; and_intros <;> (first | assumption | decide | omega | ((try simp (disch := omega) only [pk_mul, nI_add, Zcl_n]); exact Zin_n (by omega) (by decide)))))) ?_
        refine Zs_ige hX (List.cons_ne_nil _ _) (fun _ => ?_) (fun q_z => False.elim ((q_z (Int32.le_refl _))))
        refine Zgo hX 8 rfl (by (first | exact True.intro | assumption | (dsimp only [ZallP]; and_intros <;> (first | assumption | decide | omega | ((try simp (disch := omega) only [pk_mul, nI_add, Zcl_n]); exact Zin_n (by omega) (by decide)))))) ?_
        refine Zs_sub (l' := [(6, .int (nI 0)), (5, .int (nI F)), (0, .ref 38), (1, .ref 1), (2, .ref 35), (3, .int x_z), (4, .int y_z)]) rfl ?_
        exact LR (4 ^ F) 0 _ (by omega) ((hsc.u _ rfl).u _ rfl) rfl h1_z h2_z
      | succ q_z ih_z =>
        intro i_z M1 hi_z hsc h1_z h2_z
        have hz1 := hz_z.sc (Or.inl rfl) hsc
        obtain ⟨kd_z, m_z, hkd, hm9, e1_z, e2_z⟩ := Zst_k (show i_z < 4 by omega)
        refine Zgo hX 3 rfl (by (first | exact True.intro | assumption | (dsimp only [ZallP]; and_intros <;> (first | assumption | decide | omega | ((try simp (disch := omega) only [pk_mul, nI_add, Zcl_n]); exact Zin_n (by omega) (by decide)))))) ?_
        refine Zs_ige hX (List.cons_ne_nil _ _) (fun q_z => False.elim ((absurd ((Zn_le (by omega) (by omega)).mp q_z) (by omega)))) (fun _ => ?_)
        refine Zgo hX 9 rfl (Zin_n (by omega) (by decide)) ?_
        dsimp only
        rw [Zcl_n (show i_z < 2 ^ 31 by omega), e2_z]
        refine Zs_callv hX (List.cons_ne_nil _ _) (k_yarnFor f_z kd_z m_z _ _ _ hkd hm9 hz1.1.2.2.2.1 hz1.2.2.2.2.1 hfi.2.2.2.1) (by first | decide | omega) (by decide) rfl rfl rfl (by decide) (Nat.le_of_ble_eq_true rfl) (fun r_z M' hc_z => ?_)
        obtain ⟨rfl, hs2⟩ := hc_z
        refine Zgo hX 3 rfl (Zin_n (by omega) (by decide)) ?_
        rw [nI_add]
        refine Zs_sub (l' := [(6, .int (nI (i_z + 1))), (5, .int (nI F)), (0, .ref 38), (1, .ref 1), (2, .ref 35), (3, .int x_z), (4, .int y_z)]) rfl ?_
        exact ih_z (i_z + 1) _ (by omega) ((hsc.tr hs2.sc).u _ rfl) ((hs2 35 2 rfl).trans h1_z) ((hs2 35 3 rfl).trans h2_z)
    refine Zgo hX 2 rfl (by (first | exact True.intro | assumption | (dsimp only [ZallP]; and_intros <;> (first | assumption | decide | omega | ((try simp (disch := omega) only [pk_mul, nI_add, Zcl_n]); exact Zin_n (by omega) (by decide)))))) ?_
    refine Zs_sub (l' := [(6, .int (nI 0)), (5, .int (nI F)), (0, .ref 38), (1, .ref 1), (2, .ref 35), (3, .int x_z), (4, .int y_z)]) rfl ?_
    exact LA 4 0 _ rfl (Sc.rf _) hr_z hg_z
  · refine Zgo hX 1 rfl (by (first | exact True.intro | assumption | (dsimp only [ZallP]; and_intros <;> (first | assumption | decide | omega | ((try simp (disch := omega) only [pk_mul, nI_add, Zcl_n]); exact Zin_n (by omega) (by decide)))))) ?_
    refine Zs_retz hX hE rfl (by first | exact Or.inl rfl | exact Or.inr rfl) ⟨Or.inl rfl, Sc.rf _, fun q_z => absurd q_z (by decide)⟩

set_option maxRecDepth 20000 in
set_option maxHeartbeats 1000000 in
theorem k_stitch (F : Nat) (p_z : Int32) (M : Zmem) (hm_z : M 38 1 = nI F) (hF : F ≤ 5) : ZC 148 1 [.ref 38, .int p_z] M (fun r_z M' => (∃ v_z : Int32, r_z = some (.int v_z)) ∧ M = M') := by
  refine ZC_of Zt148 Zk148 (Nat.le_of_ble_eq_true rfl) (by decide) rfl (fun X hX hE => ?_)
  refine Zgo hX 1 rfl (by (first | exact True.intro | assumption | (dsimp only [ZallP]; and_intros <;> (first | assumption | decide | omega | ((try simp (disch := omega) only [pk_mul, nI_add, Zcl_n]); exact Zin_n (by omega) (by decide)))))) ?_
  refine Zs_lt hX (List.cons_ne_nil _ _) (fun h_z => ?_) (fun h_z => ?_)
  · refine Zgo hX 1 rfl (by (first | exact True.intro | assumption | (dsimp only [ZallP]; and_intros <;> (first | assumption | decide | omega | ((try simp (disch := omega) only [pk_mul, nI_add, Zcl_n]); exact Zin_n (by omega) (by decide)))))) ?_
    refine Zs_ret hX hE rfl ⟨⟨_, rfl⟩, rfl⟩
  · refine Zgo hX 3 rfl (by (first | exact True.intro | assumption | (dsimp only [ZallP]; and_intros <;> (first | assumption | decide | omega | ((try simp (disch := omega) only [pk_mul, nI_add, Zcl_n]); exact Zin_n (by omega) (by decide)))))) ?_
    refine Zs_ige hX (List.cons_ne_nil _ _) (fun h2_z => ?_) (fun h2_z => ?_)
    · refine Zgo hX 1 rfl (by (first | exact True.intro | assumption | (dsimp only [ZallP]; and_intros <;> (first | assumption | decide | omega | ((try simp (disch := omega) only [pk_mul, nI_add, Zcl_n]); exact Zin_n (by omega) (by decide)))))) ?_
      refine Zs_ret hX hE rfl ⟨⟨_, rfl⟩, rfl⟩
    · refine Zgo hX 6 rfl (by (first | exact True.intro | assumption | (dsimp only [ZallP]; and_intros <;> (first | assumption | decide | omega | ((try simp (disch := omega) only [pk_mul, nI_add, Zcl_n]); exact Zin_n (by omega) (by decide)))))) ?_
      refine Zs_calls hX (List.cons_ne_nil _ _) (by decide) (k_digit _ _ _ _) (by first | decide | omega) rfl rfl (by decide) (Nat.le_of_ble_eq_true rfl) (fun r_z M' hc_z => ?_)
      obtain ⟨⟨j_z, hj_z, rfl⟩, rfl⟩ := hc_z
      refine Zgo hX 2 rfl (Zin_n hj_z (by decide)) ?_
      refine Zs_ret hX hE rfl ⟨⟨_, rfl⟩, rfl⟩

set_option maxRecDepth 20000 in
set_option maxHeartbeats 1000000 in
theorem k_reach (f_z : Nat → Int32) (n_z : Nat) (x_z y_z what : Int32) (M : Zmem) (hz_z : Zrv 1 f_z M) (hfi : Zfi f_z) (hn_z : f_z 7 = nI n_z) (hn2 : n_z ≤ 15) : ZC 20 6 [.ref 0, .int x_z, .int y_z, .int what] M (Zq M) := by
  refine ZC_of Zt20 Zk20 (Nat.le_of_ble_eq_true rfl) (by decide) rfl (fun X hX hE => ?_)
  have BAD : ZP X Zt20 (Zsf Zt20 32) (lv_args 0 [.ref 0, .int x_z, .int y_z, .int what]) [] M := by
    refine Zgo hX 2 rfl (by (first | exact True.intro | assumption | (dsimp only [ZallP]; and_intros <;> (first | assumption | decide | omega | ((try simp (disch := omega) only [pk_mul, nI_add, Zcl_n]); exact Zin_n (by omega) (by decide)))))) ?_
    refine Zs_callv hX (List.cons_ne_nil _ _) (k_refuse 1 _ (by decide)) (by first | decide | omega) (by decide) rfl rfl rfl (by decide) (Nat.le_of_ble_eq_true rfl) (fun r_z M' hc_z => ?_)
    obtain ⟨rfl, hsc⟩ := hc_z
    refine Zs_ret hX hE rfl (Zq_e hsc)
  refine Zgo hX 3 rfl (by (first | exact True.intro | assumption | (dsimp only [ZallP]; and_intros <;> (first | assumption | decide | omega | ((try simp (disch := omega) only [pk_mul, nI_add, Zcl_n]); exact Zin_n (by omega) (by decide)))))) ?_
  refine Zs_calls hX (List.cons_ne_nil _ _) (by decide) (k_within _ _ _ _) (by first | decide | omega) rfl rfl (by decide) (Nat.le_of_ble_eq_true rfl) (fun r_z M' hc_z => ?_)
  rcases hc_z with ⟨⟨rfl, h1_z⟩ | ⟨rfl, h1_z⟩, rfl⟩
  · refine Zs_eq hX (List.cons_ne_nil _ _) (fun q_z => False.elim (by revert q_z; decide)) (fun _ => ?_)
    refine Zgo hX 3 rfl (by (first | exact True.intro | assumption | (dsimp only [ZallP]; and_intros <;> (first | assumption | decide | omega | ((try simp (disch := omega) only [pk_mul, nI_add, Zcl_n]); exact Zin_n (by omega) (by decide)))))) ?_
    refine Zs_calls hX (List.cons_ne_nil _ _) (by decide) (k_within _ _ _ _) (by first | decide | omega) rfl rfl (by decide) (Nat.le_of_ble_eq_true rfl) (fun r_z M' hc_z => ?_)
    rcases hc_z with ⟨⟨rfl, h2_z⟩ | ⟨rfl, h2_z⟩, rfl⟩
    · refine Zs_eq hX (List.cons_ne_nil _ _) (fun q_z => False.elim (by revert q_z; decide)) (fun _ => ?_)
      refine Zgo hX 3 rfl (by (first | exact True.intro | assumption | (dsimp only [ZallP]; and_intros <;> (first | assumption | decide | omega | ((try simp (disch := omega) only [pk_mul, nI_add, Zcl_n]); exact Zin_n (by omega) (by decide)))))) ?_
      refine Zs_calls hX (List.cons_ne_nil _ _) (by decide) (k_within _ _ _ _) (by first | decide | omega) rfl rfl (by decide) (Nat.le_of_ble_eq_true rfl) (fun r_z M' hc_z => ?_)
      rcases hc_z with ⟨⟨rfl, h3_z⟩ | ⟨rfl, h3_z⟩, rfl⟩
      · refine Zs_ne hX (List.cons_ne_nil _ _) (fun _ => ?_) (fun q_z => False.elim (by revert q_z; decide))
        refine Zgo hX 4 rfl (by (first | exact True.intro | assumption | (dsimp only [ZallP]; and_intros <;> (first | assumption | decide | omega | ((try simp (disch := omega) only [pk_mul, nI_add, Zcl_n]); exact Zin_n (by omega) (by decide)))))) ?_
        refine Zs_callv hX (List.cons_ne_nil _ _) (k_follow f_z n_z M hz_z hfi hn_z hn2) (by first | decide | omega) (by decide) rfl rfl rfl (by decide) (Nat.le_of_ble_eq_true rfl) (fun r_z M' hc_z => ?_)
        obtain ⟨rfl, hsc, hr_z, hg_z, hco⟩ := hc_z
        have bx := Zax_b f_z n_z (by omega)
        have bd := Zdx_b f_z n_z (by omega)
        refine Zgo hX 8 rfl (by (first | exact True.intro | assumption | (dsimp only [ZallP]; and_intros <;> (first | assumption | decide | omega | ((try simp (disch := omega) only [pk_mul, nI_add, Zcl_n]); exact Zin_n (by omega) (by decide)))))) ?_
        refine Zs_callv hX (List.cons_ne_nil _ _) (k_finds f_z n_z (Zgw f_z n_z) x_z y_z (Zax f_z n_z) (Zdx f_z n_z) _ (hz_z.sc (Or.inl rfl) hsc) hfi hn_z hn2 hr_z (Zgw_lt hfi n_z) hg_z (hco n_z (Nat.le_refl _)).1 (hco n_z (Nat.le_refl _)).2 (by omega) (by omega) (by have := (Zle_i _ _).mp h1_z.1; have := (Zle_i _ _).mp h1_z.2; rw [Zn_i (by decide)] at this; have e_z := Zneg9; omega) (by have := (Zle_i _ _).mp h2_z.1; have := (Zle_i _ _).mp h2_z.2; rw [Zn_i (by decide)] at this; have e_z := Zneg9; omega)) (by first | decide | omega) (by decide) rfl rfl rfl (by decide) (Nat.le_of_ble_eq_true rfl) (fun r_z M' hc_z => ?_)
        obtain ⟨hz0, hs2, hF⟩ := hc_z
        rcases hz0 with rfl | rfl
        · refine Zs_ne hX (List.cons_ne_nil _ _) (fun q_z => False.elim (by revert q_z; decide)) (fun _ => ?_)
          refine Zgo hX 2 rfl (by (first | exact True.intro | assumption | (dsimp only [ZallP]; and_intros <;> (first | assumption | decide | omega | ((try simp (disch := omega) only [pk_mul, nI_add, Zcl_n]); exact Zin_n (by omega) (by decide)))))) ?_
          refine Zs_callv hX (List.cons_ne_nil _ _) (k_refuse 2 _ (by decide)) (by first | decide | omega) (by decide) rfl rfl rfl (by decide) (Nat.le_of_ble_eq_true rfl) (fun r_z M' hc_z => ?_)
          obtain ⟨rfl, hs3⟩ := hc_z
          refine Zs_ret hX hE rfl (Zq_e ((hsc.tr hs2).tr hs3))
        · obtain ⟨F, hF5, hm_z⟩ := hF rfl
          refine Zs_ne hX (List.cons_ne_nil _ _) (fun _ => ?_) (fun q_z => False.elim (by revert q_z; decide))
          refine Zgo hX 2 rfl (by (first | exact True.intro | assumption | (dsimp only [ZallP]; and_intros <;> (first | assumption | decide | omega | ((try simp (disch := omega) only [pk_mul, nI_add, Zcl_n]); exact Zin_n (by omega) (by decide)))))) ?_
          refine Zs_ine hX (List.cons_ne_nil _ _) (fun h4_z => ?_) (fun h4_z => ?_)
          · refine Zgo hX 2 rfl (by (first | exact True.intro | assumption | (dsimp only [ZallP]; and_intros <;> (first | assumption | decide | omega | ((try simp (disch := omega) only [pk_mul, nI_add, Zcl_n]); exact Zin_n (by omega) (by decide)))))) ?_
            refine Zs_ine hX (List.cons_ne_nil _ _) (fun h5_z => ?_) (fun h5_z => ?_)
            · refine Zgo hX 3 rfl (by (first | exact True.intro | assumption | (dsimp only [ZallP]; and_intros <;> (first | assumption | decide | omega | ((try simp (disch := omega) only [pk_mul, nI_add, Zcl_n]); exact Zin_n (by omega) (by decide)))))) ?_
              refine Zs_callv hX (List.cons_ne_nil _ _) (k_stitch F what _ hm_z hF5) (by first | decide | omega) (by decide) rfl rfl rfl (by decide) (Nat.le_of_ble_eq_true rfl) (fun r_z M' hc_z => ?_)
              obtain ⟨⟨v_z, rfl⟩, rfl⟩ := hc_z
              refine Zs_ret hX hE rfl (Zq_e (hsc.tr hs2))
            · refine Zgo hX 4 rfl (by (first | exact True.intro | assumption | (dsimp only [ZallP]; and_intros <;> (first | assumption | decide | omega | ((try simp (disch := omega) only [pk_mul, nI_add, Zcl_n]); exact Zin_n (by omega) (by decide)))))) ?_
              refine Zs_ret hX hE rfl (Zq_e (hsc.tr hs2))
          · refine Zgo hX 3 rfl (by (first | exact True.intro | assumption | (dsimp only [ZallP]; and_intros <;> (first | assumption | decide | omega | ((try simp (disch := omega) only [pk_mul, nI_add, Zcl_n]); exact Zin_n (by omega) (by decide)))))) ?_
            refine Zs_ret hX hE rfl (Zq_e (hsc.tr hs2))
      · refine Zs_ne hX (List.cons_ne_nil _ _) (fun q_z => False.elim (by revert q_z; decide)) (fun _ => ?_)
        exact BAD
    · refine Zs_eq hX (List.cons_ne_nil _ _) (fun _ => ?_) (fun q_z => False.elim (by revert q_z; decide))
      exact BAD
  · refine Zs_eq hX (List.cons_ne_nil _ _) (fun _ => ?_) (fun q_z => False.elim (by revert q_z; decide))
    exact BAD

set_option maxRecDepth 20000 in
set_option maxHeartbeats 1000000 in
theorem s_stitchOf (o_z : Nat) (M : Zmem) (ho : o_z < 4) : ZC 106 0 [.int (nI o_z)] M (fun r_z M' => r_z = some (.int (nI (Zst_ o_z))) ∧ M = M') := by
  refine ZC_of Zt106 Zk106 (Nat.le_of_ble_eq_true rfl) (by decide) rfl (fun X hX hE => ?_)
  refine Zgo hX 1 rfl (by (first | exact True.intro | assumption | (dsimp only [ZallP]; and_intros <;> (first | assumption | decide | omega | ((try simp (disch := omega) only [pk_mul, nI_add, Zcl_n]); exact Zin_n (by omega) (by decide)))))) ?_
  refine Zs_ne hX (List.cons_ne_nil _ _) (fun h_z => ?_) (fun h_z => ?_)
  · have n0_z : o_z ≠ 0 := fun q_z => h_z (by rw [q_z]; rfl)
    refine Zgo hX 2 rfl (by (first | exact True.intro | assumption | (dsimp only [ZallP]; and_intros <;> (first | assumption | decide | omega | ((try simp (disch := omega) only [pk_mul, nI_add, Zcl_n]); exact Zin_n (by omega) (by decide)))))) ?_
    refine Zs_ine hX (List.cons_ne_nil _ _) (fun h1_z => ?_) (fun h1_z => ?_)
    · have n1_z : o_z ≠ 1 := Zne (by omega) (by decide) h1_z
      refine Zgo hX 2 rfl (by (first | exact True.intro | assumption | (dsimp only [ZallP]; and_intros <;> (first | assumption | decide | omega | ((try simp (disch := omega) only [pk_mul, nI_add, Zcl_n]); exact Zin_n (by omega) (by decide)))))) ?_
      refine Zs_ine hX (List.cons_ne_nil _ _) (fun h2_z => ?_) (fun h2_z => ?_)
      · have n2_z : o_z ≠ 2 := Zne (by omega) (by decide) h2_z
        obtain rfl : o_z = 3 := by omega
        refine Zgo hX 1 rfl (by (first | exact True.intro | assumption | (dsimp only [ZallP]; and_intros <;> (first | assumption | decide | omega | ((try simp (disch := omega) only [pk_mul, nI_add, Zcl_n]); exact Zin_n (by omega) (by decide)))))) ?_
        refine Zs_ret hX hE rfl ⟨rfl, rfl⟩
      · obtain rfl : o_z = 2 := Zeq (by omega) (by decide) h2_z
        refine Zgo hX 2 rfl (by (first | exact True.intro | assumption | (dsimp only [ZallP]; and_intros <;> (first | assumption | decide | omega | ((try simp (disch := omega) only [pk_mul, nI_add, Zcl_n]); exact Zin_n (by omega) (by decide)))))) ?_
        refine Zs_ret hX hE rfl ⟨rfl, rfl⟩
    · obtain rfl : o_z = 1 := Zeq (by omega) (by decide) h1_z
      refine Zgo hX 2 rfl (by (first | exact True.intro | assumption | (dsimp only [ZallP]; and_intros <;> (first | assumption | decide | omega | ((try simp (disch := omega) only [pk_mul, nI_add, Zcl_n]); exact Zin_n (by omega) (by decide)))))) ?_
      refine Zs_ret hX hE rfl ⟨rfl, rfl⟩
  · obtain rfl : o_z = 0 := Zeq (b_z := 0) (by omega) (by decide) h_z
    refine Zgo hX 2 rfl (by (first | exact True.intro | assumption | (dsimp only [ZallP]; and_intros <;> (first | assumption | decide | omega | ((try simp (disch := omega) only [pk_mul, nI_add, Zcl_n]); exact Zin_n (by omega) (by decide)))))) ?_
    refine Zs_ret hX hE rfl ⟨rfl, rfl⟩


def Zlq (n_z w_z : Nat) (M : Zmem) (r_z : Option Value) (M' : Zmem) : Prop := (r_z = some (.int (nI 0)) ∨ r_z = some (.int (nI 1))) ∧ Sc M M' ∧ M' 53 15 = nI w_z

set_option maxRecDepth 20000 in
set_option maxHeartbeats 1000000 in
theorem s_leads0 (n_z N w_z fr : Nat) (x_z y_z yn : Int32) (M : Zmem) (hn_z : M 54 7 = nI n_z) (hN : N ≤ 5) (hnN : n_z + N ≤ 15) (hg_z : M 53 15 = nI w_z) : ZC 107 fr [.ref 53, .int (nI N), .int (nI N), .int x_z, .int y_z, .int yn] M (Zlq n_z w_z M) := by
  refine ZC_of Zt107 Zk107 (Nat.le_of_ble_eq_true rfl) (by decide) rfl (fun X hX hE => ?_)
  refine Zgo hX 9 rfl (Zin_n (by decide) (by decide)) ?_
  try simp (disch := omega) only [Zcl_n, pk_mul, nI_add]
  rw [hn_z, nI_add]
  refine Zs_ine hX (List.cons_ne_nil _ _) (fun q_z => False.elim ((q_z rfl))) (fun _ => ?_)
  have ENDZ : ∀ (z_z : Int32) (l : List (Nat × Value)) (M1 : Zmem), (z_z = nI 0 ∨ z_z = nI 1) → Sc M M1 → M1 53 15 = nI w_z → l = [(7, .int z_z)] → ZP X Zt107 (Zsf Zt107 103) l [] M1 := by
    rintro z_z l M1 hz_z hsc hg1 rfl
    refine Zgo hX 1 rfl (by (first | exact True.intro | assumption | (dsimp only [ZallP]; and_intros <;> (first | assumption | decide | omega | ((try simp (disch := omega) only [pk_mul, nI_add, Zcl_n]); exact Zin_n (by omega) (by decide)))))) ?_
    rcases hz_z with rfl | rfl
    · refine Zs_retz hX hE rfl (by first | exact Or.inl rfl | exact Or.inr rfl) ⟨Or.inl rfl, hsc, hg1⟩
    · refine Zs_retz hX hE rfl (by first | exact Or.inl rfl | exact Or.inr rfl) ⟨Or.inr rfl, hsc, hg1⟩
  have LC : ∀ (q_z i_z : Nat) (M1 : Zmem), i_z + q_z = N → Sc M M1 → M1 53 15 = nI w_z → ZP X Zt107 (Zsf Zt107 77) [(7, .int (nI 1)), (8, .int (nI i_z)), (0, .ref 53), (2, .int (nI N))] [] M1 := by
    intro q_z
    induction q_z with
    | zero =>
      intro i_z M1 hi_z hsc hg1
      obtain rfl : i_z = N := by omega
      refine Zgo hX 2 rfl (by (first | exact True.intro | assumption | (dsimp only [ZallP]; and_intros <;> (first | assumption | decide | omega | ((try simp (disch := omega) only [pk_mul, nI_add, Zcl_n]); exact Zin_n (by omega) (by decide)))))) ?_
      refine Zs_ige hX (List.cons_ne_nil _ _) (fun _ => ?_) (fun q_z => False.elim ((q_z (Int32.le_refl _))))
      refine Zs_sub (l' := [(7, .int (nI 1))]) rfl ?_
      exact ENDZ _ _ M1 (Or.inr rfl) hsc hg1 rfl
    | succ q_z ih_z =>
      intro i_z M1 hi_z hsc hg1
      refine Zgo hX 2 rfl (by (first | exact True.intro | assumption | (dsimp only [ZallP]; and_intros <;> (first | assumption | decide | omega | ((try simp (disch := omega) only [pk_mul, nI_add, Zcl_n]); exact Zin_n (by omega) (by decide)))))) ?_
      refine Zs_ige hX (List.cons_ne_nil _ _) (fun q_z => False.elim ((absurd ((Zn_le (by omega) (by omega)).mp q_z) (by omega)))) (fun _ => ?_)
      refine Zgo hX 10 rfl (by dsimp only [ZallP]; exact ⟨Zin_n (by omega) (by decide), Zin_n (by omega) (by decide)⟩) ?_
      rw [nI_add]
      refine Zs_sub (l' := [(7, .int (nI 1)), (8, .int (nI (i_z + 1))), (0, .ref 53), (2, .int (nI N))]) rfl ?_
      exact ih_z (i_z + 1) _ (by omega) (hsc.u _ rfl) hg1
  have L44 : ∀ z_z : Int32, (z_z = nI 0 ∨ z_z = nI 1) → ZP X Zt107 (Zsf Zt107 44) [(0, .ref 53), (2, .int (nI N)), (5, .int yn)] [.int z_z] M := by
    intro z_z hz_z
    rcases hz_z with rfl | rfl
    · refine Zgo hX 2 rfl (by (first | exact True.intro | assumption | (dsimp only [ZallP]; and_intros <;> (first | assumption | decide | omega | ((try simp (disch := omega) only [pk_mul, nI_add, Zcl_n]); exact Zin_n (by omega) (by decide)))))) ?_
      refine Zs_eq hX (List.cons_ne_nil _ _) (fun _ => ?_) (fun q_z => False.elim (by revert q_z; decide))
      refine Zs_sub (l' := [(7, .int (nI 0))]) rfl ?_
      exact ENDZ _ _ M (Or.inl rfl) (Sc.rf _) hg_z rfl
    · refine Zgo hX 2 rfl (by (first | exact True.intro | assumption | (dsimp only [ZallP]; and_intros <;> (first | assumption | decide | omega | ((try simp (disch := omega) only [pk_mul, nI_add, Zcl_n]); exact Zin_n (by omega) (by decide)))))) ?_
      refine Zs_eq hX (List.cons_ne_nil _ _) (fun q_z => False.elim (by revert q_z; decide)) (fun _ => ?_)
      have TAKE : ZP X Zt107 (Zsf Zt107 68) [(7, .int (nI 1)), (0, .ref 53), (2, .int (nI N)), (5, .int yn)] [] M := by
        refine Zgo hX 5 rfl (by (first | exact True.intro | assumption | (dsimp only [ZallP]; and_intros <;> (first | assumption | decide | omega | ((try simp (disch := omega) only [pk_mul, nI_add, Zcl_n]); exact Zin_n (by omega) (by decide)))))) ?_
        refine Zs_sub (l' := [(7, .int (nI 1)), (8, .int (nI 0)), (0, .ref 53), (2, .int (nI N))]) rfl ?_
        exact LC N 0 _ (by omega) ((Sc.rf M).u _ rfl) hg_z
      refine Zgo hX 3 rfl (by (first | exact True.intro | assumption | (dsimp only [ZallP]; and_intros <;> (first | assumption | decide | omega | ((try simp (disch := omega) only [pk_mul, nI_add, Zcl_n]); exact Zin_n (by omega) (by decide)))))) ?_
      refine Zs_ieq hX (List.cons_ne_nil _ _) (fun h_z => ?_) (fun h_z => ?_)
      · refine Zs_sub (l' := [(7, .int (nI 1)), (0, .ref 53), (2, .int (nI N)), (5, .int yn)]) rfl ?_
        exact TAKE
      · refine Zgo hX 3 rfl (by (first | exact True.intro | assumption | (dsimp only [ZallP]; and_intros <;> (first | assumption | decide | omega | ((try simp (disch := omega) only [pk_mul, nI_add, Zcl_n]); exact Zin_n (by omega) (by decide)))))) ?_
        refine Zs_ige hX (List.cons_ne_nil _ _) (fun h2_z => ?_) (fun h2_z => ?_)
        · refine Zs_sub (l' := [(7, .int (nI 1))]) rfl ?_
          exact ENDZ _ _ M (Or.inr rfl) (Sc.rf _) hg_z rfl
        · refine Zs_sub (l' := [(7, .int (nI 1)), (0, .ref 53), (2, .int (nI N)), (5, .int yn)]) rfl ?_
          exact TAKE
  refine Zgo hX 5 rfl (Zin_n (by omega) (by decide)) ?_
  refine Zs_ine hX (List.cons_ne_nil _ _) (fun h_z => ?_) (fun h_z => ?_)
  · refine Zgo hX 1 rfl (by (first | exact True.intro | assumption | (dsimp only [ZallP]; and_intros <;> (first | assumption | decide | omega | ((try simp (disch := omega) only [pk_mul, nI_add, Zcl_n]); exact Zin_n (by omega) (by decide)))))) ?_
    refine Zs_sub (l' := [(0, .ref 53), (2, .int (nI N)), (5, .int yn)]) rfl ?_
    exact L44 _ (Or.inl rfl)
  · refine Zgo hX 5 rfl (Zin_n (by omega) (by decide)) ?_
    refine Zs_ine hX (List.cons_ne_nil _ _) (fun h2_z => ?_) (fun h2_z => ?_)
    · refine Zgo hX 1 rfl (by (first | exact True.intro | assumption | (dsimp only [ZallP]; and_intros <;> (first | assumption | decide | omega | ((try simp (disch := omega) only [pk_mul, nI_add, Zcl_n]); exact Zin_n (by omega) (by decide)))))) ?_
      refine Zs_sub (l' := [(0, .ref 53), (2, .int (nI N)), (5, .int yn)]) rfl ?_
      exact L44 _ (Or.inl rfl)
    · refine Zgo hX 2 rfl (by (first | exact True.intro | assumption | (dsimp only [ZallP]; and_intros <;> (first | assumption | decide | omega | ((try simp (disch := omega) only [pk_mul, nI_add, Zcl_n]); exact Zin_n (by omega) (by decide)))))) ?_
      refine Zs_sub (l' := [(0, .ref 53), (2, .int (nI N)), (5, .int yn)]) rfl ?_
      exact L44 _ (Or.inr rfl)

set_option maxRecDepth 20000 in
set_option maxHeartbeats 1000000 in
theorem s_leads1 (n_z N k_z w_z fr : Nat) (x_z y_z yn : Int32) (M : Zmem) (hfi : Zfi (M 54)) (hn_z : M 54 7 = nI n_z) (hN : N ≤ 5) (hkN : k_z < N) (hnN : n_z + N ≤ 15) (hw_z : w_z < 4) (hg_z : M 53 15 = nI w_z) (hfr : 4 ≤ fr) (ih_z : ∀ (w_z : Nat) (yn : Int32) (M : Zmem), Zfi (M 54) → M 54 7 = nI n_z → w_z < 4 → M 53 15 = nI w_z → ZC 107 fr [.ref 53, .int (nI (k_z + 1)), .int (nI N), .int x_z, .int y_z, .int yn] M (Zlq n_z w_z M)) : ZC 107 (fr + 1) [.ref 53, .int (nI k_z), .int (nI N), .int x_z, .int y_z, .int yn] M (Zlq n_z w_z M) := by
  refine ZC_of Zt107 Zk107 (Nat.le_of_ble_eq_true rfl) (by decide) rfl (fun X hX hE => ?_)
  refine Zgo hX 9 rfl (Zin_n (by decide) (by decide)) ?_
  try simp (disch := omega) only [Zcl_n, pk_mul, nI_add]
  rw [hn_z, nI_add]
  refine Zs_ine hX (List.cons_ne_nil _ _) (fun _ => ?_) (fun q_z => False.elim ((absurd (Zeq (by omega) (by omega) q_z) (by omega))))
  have L : ∀ (q_z o_z : Nat) (iz : Int32) (M1 : Zmem), o_z + q_z = 4 → (iz = nI 0 ∨ iz = nI 1) → Sc M M1 → ZP X Zt107 (Zsf Zt107 118) [(7, .int (nI w_z)), (8, .int iz), (9, .int (nI o_z)), (0, .ref 53), (1, .int (nI k_z)), (2, .int (nI N)), (3, .int x_z), (4, .int y_z), (5, .int yn), (6, .int (nI (n_z + k_z)))] [] M1 := by
    intro q_z
    induction q_z with
    | zero =>
      intro o_z iz M1 ho hiz hsc
      obtain rfl : o_z = 4 := by omega
      refine Zgo hX 2 rfl (by (first | exact True.intro | assumption | (dsimp only [ZallP]; and_intros <;> (first | assumption | decide | omega | ((try simp (disch := omega) only [pk_mul, nI_add, Zcl_n]); exact Zin_n (by omega) (by decide)))))) ?_
      refine Zs_ige hX (List.cons_ne_nil _ _) (fun _ => ?_) (fun q_z => False.elim ((q_z (Int32.le_refl _))))
      refine Zgo hX 4 rfl (by (first | exact True.intro | assumption | (dsimp only [ZallP]; and_intros <;> (first | assumption | decide | omega | ((try simp (disch := omega) only [pk_mul, nI_add, Zcl_n]); exact Zin_n (by omega) (by decide)))))) ?_
      rcases hiz with rfl | rfl
      · refine Zs_retz hX hE rfl (by first | exact Or.inl rfl | exact Or.inr rfl) ⟨Or.inl rfl, hsc.u _ rfl, rfl⟩
      · refine Zs_retz hX hE rfl (by first | exact Or.inl rfl | exact Or.inr rfl) ⟨Or.inr rfl, hsc.u _ rfl, rfl⟩
    | succ q_z ihq =>
      intro o_z iz M1 ho hiz hsc
      obtain ⟨kd_z, m_z, hkd, hm9, e1_z, e2_z⟩ := Zst_k (show o_z < 4 by omega)
      obtain ⟨b1_z, b2_z⟩ := Zbn_ok hkd hm9
      refine Zgo hX 2 rfl (by (first | exact True.intro | assumption | (dsimp only [ZallP]; and_intros <;> (first | assumption | decide | omega | ((try simp (disch := omega) only [pk_mul, nI_add, Zcl_n]); exact Zin_n (by omega) (by decide)))))) ?_
      refine Zs_ige hX (List.cons_ne_nil _ _) (fun q_z => False.elim ((absurd ((Zn_le (by omega) (by omega)).mp q_z) (by omega)))) (fun _ => ?_)
      refine Zgo hX 4 rfl (by (first | exact True.intro | assumption | (dsimp only [ZallP]; and_intros <;> (first | assumption | decide | omega | ((try simp (disch := omega) only [pk_mul, nI_add, Zcl_n]); exact Zin_n (by omega) (by decide)))))) ?_
      refine Zs_calls hX (List.cons_ne_nil _ _) (by decide) (s_stitchOf o_z _ (by omega)) (by first | decide | omega) rfl rfl (by decide) (Nat.le_of_ble_eq_true rfl) (fun r_z M' hc_z => ?_)
      obtain ⟨rfl, rfl⟩ := hc_z
      rw [e1_z]
      refine Zgo hX 18 rfl (by dsimp only [ZallP]; exact ⟨⟨⟨⟨Zin_n (by omega) (by decide), Zin_n (by omega) (by decide)⟩, (show ¬ nI 10 = nI 0 by decide)⟩, Zin_n (by omega) (by decide)⟩, (show ¬ nI 10 = nI 0 by decide)⟩) ?_
      rw [Zcl_n (show k_z < 2 ^ 31 by omega), show (Zu (Zu M1 63 k_z (nI (10 * kd_z + m_z))) 53 15 (nI w_z)) 63 k_z = nI (10 * kd_z + m_z) from (by rw [Zu_o (by omega), Zu_s]), pk_rem (by omega) (by decide) (by decide), pk_div (by omega) (by decide) (by decide), show (10 * kd_z + m_z) / 10 = kd_z by omega, show (10 * kd_z + m_z) % 10 = m_z by omega]
      refine Zs_calls hX (List.cons_ne_nil _ _) (by decide) (s_bendsAs kd_z m_z _ hkd hm9) (by first | decide | omega) rfl rfl (by decide) (Nat.le_of_ble_eq_true rfl) (fun r_z M' hc_z => ?_)
      obtain ⟨rfl, rfl⟩ := hc_z
      rw [b1_z]
      refine Zs_callv hX (List.cons_ne_nil _ _) (s_step (n_z + k_z) w_z (Zbn kd_z m_z) _ _ _ (by omega) hw_z b2_z rfl rfl rfl) (by first | decide | omega) (by decide) rfl rfl rfl (by decide) (Nat.le_of_ble_eq_true rfl) (fun r_z M' hc_z => ?_)
      obtain ⟨rfl, rfl⟩ := hc_z
      have hv_z := Zgn_lt w_z (Zbn kd_z m_z)
      refine Zs_abs (fun M2 => Sc M M2 ∧ M2 53 15 = nI (Zgn w_z (Zbn kd_z m_z)) ∧ M2 63 k_z = nI (10 * kd_z + m_z)) ⟨((((hsc.u _ rfl).u _ rfl).u _ rfl).u _ rfl).u _ rfl, rfl, by rw [Zu_o (by omega), Zu_o (by omega), Zu_o (by omega), Zu_o (by omega), Zu_s]⟩ (fun M2 hM2 => ?_)
      obtain ⟨hsc2, hg2, hst2⟩ := hM2
      refine Zgo hX 15 rfl (Zin_n (by omega) (by decide)) ?_
      rw [Zcl_n (show k_z < 2 ^ 31 by omega), hst2, nI_add]
      refine Zs_callv hX (List.cons_ne_nil _ _) (s_yarnAs kd_z m_z _ _ _ hkd hm9 (by rw [hsc2.f54]; exact hfi.2.2.2.1)) (by first | decide | omega) (by decide) rfl rfl rfl (by decide) (Nat.le_of_ble_eq_true rfl) (fun r_z M' hc_z => ?_)
      obtain ⟨rfl, hs3⟩ := hc_z
      have hsc3 := hsc2.tr hs3.sc
      refine Zgo hX 1 rfl (by (first | exact True.intro | assumption | (dsimp only [ZallP]; and_intros <;> (first | assumption | decide | omega | ((try simp (disch := omega) only [pk_mul, nI_add, Zcl_n]); exact Zin_n (by omega) (by decide)))))) ?_
      refine Zs_callv hX (List.cons_ne_nil _ _) (ih_z (Zgn w_z (Zbn kd_z m_z)) _ _ (by rw [hsc3.f54]; exact hfi) (by rw [hsc3.f54]; exact hn_z) hv_z ((hs3 53 15 rfl).trans hg2)) (by first | decide | omega) (by decide) rfl rfl rfl (by decide) (Nat.le_of_ble_eq_true rfl) (fun r_z M' hc_z => ?_)
      obtain ⟨hor, hs4, hg4⟩ := hc_z
      have hsc4 := hsc3.tr hs4
      have NEXT : ∀ (v_z : Int32) (own : Int32) (M3 : Zmem), (v_z = nI 0 ∨ v_z = nI 1) → Sc M M3 → ZP X Zt107 (Zsf Zt107 211) [(10, .int own), (7, .int (nI w_z)), (8, .int iz), (9, .int (nI o_z)), (0, .ref 53), (1, .int (nI k_z)), (2, .int (nI N)), (3, .int x_z), (4, .int y_z), (5, .int yn), (6, .int (nI (n_z + k_z)))] [.int v_z] M3 := by
        intro v_z own M3 hv3 hsc5
        refine Zgo hX 3 rfl (by (first | exact True.intro | assumption | (dsimp only [ZallP]; and_intros <;> (first | assumption | decide | omega | ((try simp (disch := omega) only [pk_mul, nI_add, Zcl_n]); exact Zin_n (by omega) (by decide)))))) ?_
        rw [nI_add]
        refine Zs_sub (l' := [(7, .int (nI w_z)), (8, .int v_z), (9, .int (nI (o_z + 1))), (0, .ref 53), (1, .int (nI k_z)), (2, .int (nI N)), (3, .int x_z), (4, .int y_z), (5, .int yn), (6, .int (nI (n_z + k_z)))]) rfl ?_
        exact ihq (o_z + 1) v_z M3 (by omega) hv3 hsc5
      rcases hor with rfl | rfl
      · refine Zgo hX 2 rfl (by (first | exact True.intro | assumption | (dsimp only [ZallP]; and_intros <;> (first | assumption | decide | omega | ((try simp (disch := omega) only [pk_mul, nI_add, Zcl_n]); exact Zin_n (by omega) (by decide)))))) ?_
        refine Zs_ne hX (List.cons_ne_nil _ _) (fun h_z => ?_) (fun h_z => ?_)
        · refine Zgo hX 2 rfl (by (first | exact True.intro | assumption | (dsimp only [ZallP]; and_intros <;> (first | assumption | decide | omega | ((try simp (disch := omega) only [pk_mul, nI_add, Zcl_n]); exact Zin_n (by omega) (by decide)))))) ?_
          refine Zs_sub (l' := [(10, .int (nI 0)), (7, .int (nI w_z)), (8, .int iz), (9, .int (nI o_z)), (0, .ref 53), (1, .int (nI k_z)), (2, .int (nI N)), (3, .int x_z), (4, .int y_z), (5, .int yn), (6, .int (nI (n_z + k_z)))]) rfl ?_
          exact NEXT _ _ _ (Or.inr rfl) hsc4
        · refine Zgo hX 1 rfl (by (first | exact True.intro | assumption | (dsimp only [ZallP]; and_intros <;> (first | assumption | decide | omega | ((try simp (disch := omega) only [pk_mul, nI_add, Zcl_n]); exact Zin_n (by omega) (by decide)))))) ?_
          refine Zs_eq hX (List.cons_ne_nil _ _) (fun _ => ?_) (fun q_z => False.elim (by revert q_z; decide))
          refine Zgo hX 1 rfl (by (first | exact True.intro | assumption | (dsimp only [ZallP]; and_intros <;> (first | assumption | decide | omega | ((try simp (disch := omega) only [pk_mul, nI_add, Zcl_n]); exact Zin_n (by omega) (by decide)))))) ?_
          refine Zs_sub (l' := [(10, .int (nI 0)), (7, .int (nI w_z)), (8, .int iz), (9, .int (nI o_z)), (0, .ref 53), (1, .int (nI k_z)), (2, .int (nI N)), (3, .int x_z), (4, .int y_z), (5, .int yn), (6, .int (nI (n_z + k_z)))]) rfl ?_
          exact NEXT _ _ _ (Or.inl rfl) hsc4
      · refine Zgo hX 2 rfl (by (first | exact True.intro | assumption | (dsimp only [ZallP]; and_intros <;> (first | assumption | decide | omega | ((try simp (disch := omega) only [pk_mul, nI_add, Zcl_n]); exact Zin_n (by omega) (by decide)))))) ?_
        refine Zs_ne hX (List.cons_ne_nil _ _) (fun h_z => ?_) (fun h_z => ?_)
        · refine Zgo hX 2 rfl (by (first | exact True.intro | assumption | (dsimp only [ZallP]; and_intros <;> (first | assumption | decide | omega | ((try simp (disch := omega) only [pk_mul, nI_add, Zcl_n]); exact Zin_n (by omega) (by decide)))))) ?_
          refine Zs_sub (l' := [(10, .int (nI 1)), (7, .int (nI w_z)), (8, .int iz), (9, .int (nI o_z)), (0, .ref 53), (1, .int (nI k_z)), (2, .int (nI N)), (3, .int x_z), (4, .int y_z), (5, .int yn), (6, .int (nI (n_z + k_z)))]) rfl ?_
          exact NEXT _ _ _ (Or.inr rfl) hsc4
        · refine Zgo hX 1 rfl (by (first | exact True.intro | assumption | (dsimp only [ZallP]; and_intros <;> (first | assumption | decide | omega | ((try simp (disch := omega) only [pk_mul, nI_add, Zcl_n]); exact Zin_n (by omega) (by decide)))))) ?_
          refine Zs_eq hX (List.cons_ne_nil _ _) (fun q_z => False.elim (by revert q_z; decide)) (fun _ => ?_)
          refine Zgo hX 2 rfl (by (first | exact True.intro | assumption | (dsimp only [ZallP]; and_intros <;> (first | assumption | decide | omega | ((try simp (disch := omega) only [pk_mul, nI_add, Zcl_n]); exact Zin_n (by omega) (by decide)))))) ?_
          refine Zs_sub (l' := [(10, .int (nI 1)), (7, .int (nI w_z)), (8, .int iz), (9, .int (nI o_z)), (0, .ref 53), (1, .int (nI k_z)), (2, .int (nI N)), (3, .int x_z), (4, .int y_z), (5, .int yn), (6, .int (nI (n_z + k_z)))]) rfl ?_
          exact NEXT _ _ _ (Or.inr rfl) hsc4
  refine Zgo hX 7 rfl (by (first | exact True.intro | assumption | (dsimp only [ZallP]; and_intros <;> (first | assumption | decide | omega | ((try simp (disch := omega) only [pk_mul, nI_add, Zcl_n]); exact Zin_n (by omega) (by decide)))))) ?_
  rw [hg_z]
  refine Zs_sub (l' := [(7, .int (nI w_z)), (8, .int (nI 0)), (9, .int (nI 0)), (0, .ref 53), (1, .int (nI k_z)), (2, .int (nI N)), (3, .int x_z), (4, .int y_z), (5, .int yn), (6, .int (nI (n_z + k_z)))]) rfl ?_
  exact L 4 0 _ M rfl (Or.inl rfl) (Sc.rf _)


theorem s_leads (n_z N w_z : Nat) (x_z y_z : Int32) : ∀ (q_z k_z : Nat), k_z + q_z = N → N ≤ 5 → n_z + N ≤ 15 → ∀ (w_z : Nat) (yn : Int32) (M : Zmem), Zfi (M 54) → M 54 7 = nI n_z → w_z < 4 → M 53 15 = nI w_z → ZC 107 (4 + q_z) [.ref 53, .int (nI k_z), .int (nI N), .int x_z, .int y_z, .int yn] M (Zlq n_z w_z M) := by
  intro q_z
  induction q_z with
  | zero =>
    intro k_z hk_z hN hnN w_z yn M hfi hn_z hw_z hg_z
    obtain rfl : k_z = N := by omega
    exact s_leads0 n_z k_z w_z (4 + 0) x_z y_z yn M hn_z hN hnN hg_z
  | succ q_z ih_z =>
    intro k_z hk_z hN hnN w_z yn M hfi hn_z hw_z hg_z
    exact s_leads1 n_z N k_z w_z (4 + q_z) x_z y_z yn M hfi hn_z hN (by omega) hnN hw_z hg_z (by omega) (ih_z (k_z + 1) (by omega) hN hnN)

set_option maxRecDepth 20000 in
set_option maxHeartbeats 1000000 in
theorem s_reach (n_z : Nat) (x_z y_z what : Int32) (M : Zmem) (hfi : Zfi (M 54)) (hn_z : M 54 7 = nI n_z) (hn2 : n_z ≤ 15) : ZC 108 10 [.ref 53, .int x_z, .int y_z, .int what] M (Zq M) := by
  refine ZC_of Zt108 Zk108 (Nat.le_of_ble_eq_true rfl) (by decide) rfl (fun X hX hE => ?_)
  have BAD : ZP X Zt108 (Zsf Zt108 32) (lv_args 0 [.ref 53, .int x_z, .int y_z, .int what]) [] M := by
    refine Zgo hX 2 rfl (by (first | exact True.intro | assumption | (dsimp only [ZallP]; and_intros <;> (first | assumption | decide | omega | ((try simp (disch := omega) only [pk_mul, nI_add, Zcl_n]); exact Zin_n (by omega) (by decide)))))) ?_
    refine Zs_callv hX (List.cons_ne_nil _ _) (s_error 1 _ (by decide)) (by first | decide | omega) (by decide) rfl rfl rfl (by decide) (Nat.le_of_ble_eq_true rfl) (fun r_z M' hc_z => ?_)
    obtain ⟨rfl, hsc⟩ := hc_z
    refine Zs_ret hX hE rfl (Zq_e hsc)
  refine Zgo hX 3 rfl (by (first | exact True.intro | assumption | (dsimp only [ZallP]; and_intros <;> (first | assumption | decide | omega | ((try simp (disch := omega) only [pk_mul, nI_add, Zcl_n]); exact Zin_n (by omega) (by decide)))))) ?_
  refine Zs_calls hX (List.cons_ne_nil _ _) (by decide) (s_in _ _ _ _) (by first | decide | omega) rfl rfl (by decide) (Nat.le_of_ble_eq_true rfl) (fun r_z M' hc_z => ?_)
  rcases hc_z with ⟨⟨rfl, h1_z⟩ | ⟨rfl, h1_z⟩, rfl⟩
  · refine Zs_eq hX (List.cons_ne_nil _ _) (fun q_z => False.elim (by revert q_z; decide)) (fun _ => ?_)
    refine Zgo hX 3 rfl (by (first | exact True.intro | assumption | (dsimp only [ZallP]; and_intros <;> (first | assumption | decide | omega | ((try simp (disch := omega) only [pk_mul, nI_add, Zcl_n]); exact Zin_n (by omega) (by decide)))))) ?_
    refine Zs_calls hX (List.cons_ne_nil _ _) (by decide) (s_in _ _ _ _) (by first | decide | omega) rfl rfl (by decide) (Nat.le_of_ble_eq_true rfl) (fun r_z M' hc_z => ?_)
    rcases hc_z with ⟨⟨rfl, h2_z⟩ | ⟨rfl, h2_z⟩, rfl⟩
    · refine Zs_eq hX (List.cons_ne_nil _ _) (fun q_z => False.elim (by revert q_z; decide)) (fun _ => ?_)
      refine Zgo hX 3 rfl (by (first | exact True.intro | assumption | (dsimp only [ZallP]; and_intros <;> (first | assumption | decide | omega | ((try simp (disch := omega) only [pk_mul, nI_add, Zcl_n]); exact Zin_n (by omega) (by decide)))))) ?_
      refine Zs_calls hX (List.cons_ne_nil _ _) (by decide) (s_in _ _ _ _) (by first | decide | omega) rfl rfl (by decide) (Nat.le_of_ble_eq_true rfl) (fun r_z M' hc_z => ?_)
      rcases hc_z with ⟨⟨rfl, h3_z⟩ | ⟨rfl, h3_z⟩, rfl⟩
      · refine Zs_ne hX (List.cons_ne_nil _ _) (fun _ => ?_) (fun q_z => False.elim (by revert q_z; decide))
        refine Zgo hX 1 rfl (by (first | exact True.intro | assumption | (dsimp only [ZallP]; and_intros <;> (first | assumption | decide | omega | ((try simp (disch := omega) only [pk_mul, nI_add, Zcl_n]); exact Zin_n (by omega) (by decide)))))) ?_
        refine Zs_callv hX (List.cons_ne_nil _ _) (s_findCourse n_z M hfi hn_z hn2) (by first | decide | omega) (by decide) rfl rfl rfl (by decide) (Nat.le_of_ble_eq_true rfl) (fun r_z M' hc_z => ?_)
        obtain ⟨rfl, hsc, hg_z, hco⟩ := hc_z
        have END : ∀ (N : Nat) (M1 : Zmem), N ≤ 6 → Sc M M1 → ZP X Zt108 (Zsf Zt108 90) [(4, .int (nI N)), (0, .ref 53), (1, .int x_z), (2, .int y_z), (3, .int what)] [] M1 := by
          intro N M1 hN hsc1
          refine Zgo hX 2 rfl (by (first | exact True.intro | assumption | (dsimp only [ZallP]; and_intros <;> (first | assumption | decide | omega | ((try simp (disch := omega) only [pk_mul, nI_add, Zcl_n]); exact Zin_n (by omega) (by decide)))))) ?_
          refine Zs_ile hX (List.cons_ne_nil _ _) (fun h4_z => ?_) (fun h4_z => ?_)
          · have hN5 : N ≤ 5 := (Zn_le (by omega) (by decide)).mp h4_z
            refine Zgo hX 2 rfl (by (first | exact True.intro | assumption | (dsimp only [ZallP]; and_intros <;> (first | assumption | decide | omega | ((try simp (disch := omega) only [pk_mul, nI_add, Zcl_n]); exact Zin_n (by omega) (by decide)))))) ?_
            refine Zs_ine hX (List.cons_ne_nil _ _) (fun h5_z => ?_) (fun h5_z => ?_)
            · refine Zgo hX 2 rfl (by (first | exact True.intro | assumption | (dsimp only [ZallP]; and_intros <;> (first | assumption | decide | omega | ((try simp (disch := omega) only [pk_mul, nI_add, Zcl_n]); exact Zin_n (by omega) (by decide)))))) ?_
              refine Zs_ine hX (List.cons_ne_nil _ _) (fun h6_z => ?_) (fun h6_z => ?_)
              · refine Zgo hX 2 rfl (by (first | exact True.intro | assumption | (dsimp only [ZallP]; and_intros <;> (first | assumption | decide | omega | ((try simp (disch := omega) only [pk_mul, nI_add, Zcl_n]); exact Zin_n (by omega) (by decide)))))) ?_
                refine Zs_ige hX (List.cons_ne_nil _ _) (fun h7_z => ?_) (fun h7_z => ?_)
                · refine Zgo hX 1 rfl (by (first | exact True.intro | assumption | (dsimp only [ZallP]; and_intros <;> (first | assumption | decide | omega | ((try simp (disch := omega) only [pk_mul, nI_add, Zcl_n]); exact Zin_n (by omega) (by decide)))))) ?_
                  refine Zs_ret hX hE rfl (Zq_e hsc1)
                · have h3' := (Zle_i _ _).mp h3_z.1
                  have e2_z : (-(nI 2)).toInt = -2 := Zneg_i (by decide)
                  have n2_z : ¬ what.toInt = -2 := fun q_z => h5_z (by rw [Zeq_i, e2_z]; exact q_z)
                  have n1_z : ¬ what.toInt = -1 := fun q_z => h6_z (by rw [Zeq_i, Zneg_i (by decide)]; exact q_z)
                  have h7' : what.toInt < N := by
                    have := (Zlt_i what (nI N)).mp (Int32.not_le.mp h7_z)
                    rw [Zn_i (by omega)] at this
                    exact this
                  refine Zgo hX 5 rfl (Zin_i.mpr (by omega)) ?_
                  refine Zs_ret hX hE rfl (Zq_e hsc1)
              · refine Zgo hX 3 rfl (by (first | exact True.intro | assumption | (dsimp only [ZallP]; and_intros <;> (first | assumption | decide | omega | ((try simp (disch := omega) only [pk_mul, nI_add, Zcl_n]); exact Zin_n (by omega) (by decide)))))) ?_
                refine Zs_ret hX hE rfl (Zq_e hsc1)
            · refine Zgo hX 2 rfl (by (first | exact True.intro | assumption | (dsimp only [ZallP]; and_intros <;> (first | assumption | decide | omega | ((try simp (disch := omega) only [pk_mul, nI_add, Zcl_n]); exact Zin_n (by omega) (by decide)))))) ?_
              refine Zs_ret hX hE rfl (Zq_e hsc1)
          · refine Zgo hX 2 rfl (by (first | exact True.intro | assumption | (dsimp only [ZallP]; and_intros <;> (first | assumption | decide | omega | ((try simp (disch := omega) only [pk_mul, nI_add, Zcl_n]); exact Zin_n (by omega) (by decide)))))) ?_
            refine Zs_callv hX (List.cons_ne_nil _ _) (s_error 2 _ (by decide)) (by first | decide | omega) (by decide) rfl rfl rfl (by decide) (Nat.le_of_ble_eq_true rfl) (fun r_z M' hc_z => ?_)
            obtain ⟨rfl, hs3⟩ := hc_z
            refine Zs_ret hX hE rfl (Zq_e (hsc1.tr hs3))
        have L : ∀ (q_z N w_z : Nat) (M1 : Zmem), N + q_z = 6 → Sc M M1 → w_z < 4 → M1 53 15 = nI w_z → ZP X Zt108 (Zsf Zt108 50) [(4, .int (nI N)), (0, .ref 53), (1, .int x_z), (2, .int y_z), (3, .int what)] [] M1 := by
          intro q_z
          induction q_z with
          | zero =>
            intro N w_z M1 hN hsc1 hw_z hg1
            obtain rfl : N = 6 := by omega
            refine Zgo hX 2 rfl (by (first | exact True.intro | assumption | (dsimp only [ZallP]; and_intros <;> (first | assumption | decide | omega | ((try simp (disch := omega) only [pk_mul, nI_add, Zcl_n]); exact Zin_n (by omega) (by decide)))))) ?_
            refine Zs_igt hX (List.cons_ne_nil _ _) (fun _ => ?_) (fun q_z => False.elim ((q_z (by decide))))
            exact END 6 M1 (by decide) hsc1
          | succ q_z ih_z =>
            intro N w_z M1 hN hsc1 hw_z hg1
            refine Zgo hX 2 rfl (by (first | exact True.intro | assumption | (dsimp only [ZallP]; and_intros <;> (first | assumption | decide | omega | ((try simp (disch := omega) only [pk_mul, nI_add, Zcl_n]); exact Zin_n (by omega) (by decide)))))) ?_
            refine Zs_igt hX (List.cons_ne_nil _ _) (fun q_z => False.elim ((absurd ((Zn_lt (by decide) (by omega)).mp q_z) (by omega)))) (fun _ => ?_)
            refine Zgo hX 7 rfl (Zin_n (by decide) (by decide)) ?_
            try simp (disch := omega) only [Zcl_n, pk_mul, nI_add]
            rw [hsc1.f54, hn_z, nI_add]
            refine Zs_igt hX (List.cons_ne_nil _ _) (fun h4_z => ?_) (fun h4_z => ?_)
            · refine Zgo hX 2 rfl (by (first | exact True.intro | assumption | (dsimp only [ZallP]; and_intros <;> (first | assumption | decide | omega | ((try simp (disch := omega) only [pk_mul, nI_add, Zcl_n]); exact Zin_n (by omega) (by decide)))))) ?_
              rw [nI_add]
              refine Zs_sub (l' := [(4, .int (nI (N + 1))), (0, .ref 53), (1, .int x_z), (2, .int y_z), (3, .int what)]) rfl ?_
              exact ih_z (N + 1) w_z M1 (by omega) hsc1 hw_z hg1
            · have hle : n_z + N ≤ 15 := (Nat.lt_or_ge 15 (n_z + N)).elim (fun q_z => absurd ((Zn_lt (by omega) (by omega)).mpr q_z) h4_z) id
              refine Zgo hX 6 rfl (by (first | exact True.intro | assumption | (dsimp only [ZallP]; and_intros <;> (first | assumption | decide | omega | ((try simp (disch := omega) only [pk_mul, nI_add, Zcl_n]); exact Zin_n (by omega) (by decide)))))) ?_
              refine Zs_callv hX (List.cons_ne_nil _ _) (s_leads n_z N 0 x_z y_z N 0 (by omega) (by omega) hle w_z _ M1 (by rw [hsc1.f54]; exact hfi) (by rw [hsc1.f54]; exact hn_z) hw_z hg1) (by first | decide | omega) (by decide) rfl rfl rfl (by decide) (Nat.le_of_ble_eq_true rfl) (fun r_z M' hc_z => ?_)
              obtain ⟨hor, hs4, hg4⟩ := hc_z
              rcases hor with rfl | rfl
              · refine Zs_ne hX (List.cons_ne_nil _ _) (fun q_z => False.elim (by revert q_z; decide)) (fun _ => ?_)
                refine Zgo hX 2 rfl (by (first | exact True.intro | assumption | (dsimp only [ZallP]; and_intros <;> (first | assumption | decide | omega | ((try simp (disch := omega) only [pk_mul, nI_add, Zcl_n]); exact Zin_n (by omega) (by decide)))))) ?_
                rw [nI_add]
                refine Zs_sub (l' := [(4, .int (nI (N + 1))), (0, .ref 53), (1, .int x_z), (2, .int y_z), (3, .int what)]) rfl ?_
                exact ih_z (N + 1) w_z M' (by omega) (hsc1.tr hs4) hw_z hg4
              · refine Zs_ne hX (List.cons_ne_nil _ _) (fun _ => ?_) (fun q_z => False.elim (by revert q_z; decide))
                refine Zs_sub (l' := [(4, .int (nI N)), (0, .ref 53), (1, .int x_z), (2, .int y_z), (3, .int what)]) rfl ?_
                exact END N M' (by omega) (hsc1.tr hs4)
        refine Zgo hX 5 rfl (by (first | exact True.intro | assumption | (dsimp only [ZallP]; and_intros <;> (first | assumption | decide | omega | ((try simp (disch := omega) only [pk_mul, nI_add, Zcl_n]); exact Zin_n (by omega) (by decide)))))) ?_
        refine Zs_sub (l' := [(4, .int (nI 0)), (0, .ref 53), (1, .int x_z), (2, .int y_z), (3, .int what)]) rfl ?_
        exact L 6 0 (Zgw (M 54) n_z) _ rfl (hsc.u _ rfl) (Zgw_lt hfi n_z) hg_z
      · refine Zs_ne hX (List.cons_ne_nil _ _) (fun q_z => False.elim (by revert q_z; decide)) (fun _ => ?_)
        exact BAD
    · refine Zs_eq hX (List.cons_ne_nil _ _) (fun _ => ?_) (fun q_z => False.elim (by revert q_z; decide))
      exact BAD
  · refine Zs_eq hX (List.cons_ne_nil _ _) (fun _ => ?_) (fun q_z => False.elim (by revert q_z; decide))
    exact BAD
