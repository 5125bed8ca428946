
theorem Zm9 {i_z : Nat} (h_z : i_z < 20) : nI i_z - nI 9 + nI 1 = nI (i_z + 1) - nI 9 ∧ (nI 9 < nI i_z - nI 9 ↔ 18 < i_z) := by
  have key : ∀ i_z, i_z < 20 → nI i_z - nI 9 + nI 1 = nI (i_z + 1) - nI 9 ∧ (nI 9 < nI i_z - nI 9 ↔ 18 < i_z) := by decide +kernel
  exact key i_z h_z
theorem Znand (a_z b_z : Nat) : nI a_z &&& nI b_z = nI (a_z &&& b_z) := by
  apply Int32.toBitVec_inj.1
  show BitVec.ofNat 32 a_z &&& BitVec.ofNat 32 b_z = BitVec.ofNat 32 (a_z &&& b_z)
  apply BitVec.eq_of_getLsbD_eq
  intro i_z hi_z
  simp [hi_z]

set_option maxRecDepth 20000 in
set_option maxHeartbeats 1000000 in
theorem k_flow (f_z : Nat → Int32) (n_z : Nat) (much row_z what : Int32) (M : Zmem) (hz_z : Zrv 1 f_z M) (hfi : Zfi f_z) (hn_z : f_z 7 = nI n_z) (hn2 : n_z ≤ 15) : ZC 17 5 [.ref 0, .int much, .int row_z, .int what] M (fun r_z M' => r_z = some (.int (Fflow f_z n_z much row_z what)) ∧ Sc M M') := by
  refine ZC_of Zt17 Zk17 (Nat.le_of_ble_eq_true rfl) (by decide) rfl (fun X hX hE => ?_)
  have BAD : ¬ ((nI 0 ≤ much ∧ much ≤ nI 999) ∧ (nI 0 ≤ row_z ∧ row_z ≤ nI n_z) ∧ nI 0 ≤ what ∧ what ≤ nI 1) → ZP X Zt17 (Zsf Zt17 31) (lv_args 0 [.ref 0, .int much, .int row_z, .int what]) [] M := by
    intro h_z
    refine Zgo hX 2 rfl (by (first | exact True.intro | assumption | (dsimp only [ZallP]; and_intros <;> (first | assumption | decide | omega | ((try simp (disch := omega) only [pk_mul, nI_add, Zcl_n]); exact Zin_n (by omega) (by decide)))))) ?_
    refine Zs_callv hX (List.cons_ne_nil _ _) (k_refuse 1 _ (by decide)) (by first | decide | omega) (by decide) rfl rfl rfl (by decide) (Nat.le_of_ble_eq_true rfl) (fun r_z M' hc_z => ?_)
    obtain ⟨rfl, hsc⟩ := hc_z
    refine Zs_ret hX hE rfl ⟨by rw [Fflow, if_neg h_z], hsc⟩
  refine Zgo hX 1 rfl (by (first | exact True.intro | assumption | (dsimp only [ZallP]; and_intros <;> (first | assumption | decide | omega | ((try simp (disch := omega) only [pk_mul, nI_add, Zcl_n]); exact Zin_n (by omega) (by decide)))))) ?_
  refine Zs_calls hX (List.cons_ne_nil _ _) (by decide) (k_isWater _ _) (by first | decide | omega) rfl rfl (by decide) (Nat.le_of_ble_eq_true rfl) (fun r_z M' hc_z => ?_)
  rcases hc_z with ⟨⟨rfl, h1_z⟩ | ⟨rfl, h1_z⟩, rfl⟩
  · refine Zs_eq hX (List.cons_ne_nil _ _) (fun q_z => False.elim (by revert q_z; decide)) (fun _ => ?_)
    refine Zgo hX 5 rfl (by (first | exact True.intro | assumption | (dsimp only [ZallP]; and_intros <;> (first | assumption | decide | omega | ((try simp (disch := omega) only [pk_mul, nI_add, Zcl_n]); exact Zin_n (by omega) (by decide)))))) ?_
    rw [hz_z.n hn_z]
    refine Zs_calls hX (List.cons_ne_nil _ _) (by decide) (k_within _ _ _ _) (by first | decide | omega) rfl rfl (by decide) (Nat.le_of_ble_eq_true rfl) (fun r_z M' hc_z => ?_)
    rcases hc_z with ⟨⟨rfl, h2_z⟩ | ⟨rfl, h2_z⟩, rfl⟩
    · refine Zs_eq hX (List.cons_ne_nil _ _) (fun q_z => False.elim (by revert q_z; decide)) (fun _ => ?_)
      refine Zgo hX 3 rfl (by (first | exact True.intro | assumption | (dsimp only [ZallP]; and_intros <;> (first | assumption | decide | omega | ((try simp (disch := omega) only [pk_mul, nI_add, Zcl_n]); exact Zin_n (by omega) (by decide)))))) ?_
      refine Zs_calls hX (List.cons_ne_nil _ _) (by decide) (k_within _ _ _ _) (by first | decide | omega) rfl rfl (by decide) (Nat.le_of_ble_eq_true rfl) (fun r_z M' hc_z => ?_)
      rcases hc_z with ⟨⟨rfl, h3_z⟩ | ⟨rfl, h3_z⟩, rfl⟩
      · refine Zs_ne hX (List.cons_ne_nil _ _) (fun _ => ?_) (fun q_z => False.elim (by revert q_z; decide))
        have hall := And.intro h1_z (And.intro h2_z h3_z)
        obtain ⟨i_z, hi_z, rfl⟩ := Zbt_ex (by omega) h2_z
        refine Zgo hX 4 rfl (by (first | exact True.intro | assumption | (dsimp only [ZallP]; and_intros <;> (first | assumption | decide | omega | ((try simp (disch := omega) only [pk_mul, nI_add, Zcl_n]); exact Zin_n (by omega) (by decide)))))) ?_
        refine Zs_callv hX (List.cons_ne_nil _ _) (k_waters f_z n_z much (nI 0) M hz_z hfi hn_z hn2) (by first | decide | omega) (by decide) rfl rfl rfl (by decide) (Nat.le_of_ble_eq_true rfl) (fun r_z M' hc_z => ?_)
        obtain ⟨rfl, hsc, hco⟩ := hc_z
        refine Zgo hX 2 rfl (by (first | exact True.intro | assumption | (dsimp only [ZallP]; and_intros <;> (first | assumption | decide | omega | ((try simp (disch := omega) only [pk_mul, nI_add, Zcl_n]); exact Zin_n (by omega) (by decide)))))) ?_
        refine Zs_ne hX (List.cons_ne_nil _ _) (fun h4_z => ?_) (fun h4_z => ?_)
        · refine Zgo hX 1 rfl (by (first | exact True.intro | assumption | (dsimp only [ZallP]; and_intros <;> (first | assumption | decide | omega | ((try simp (disch := omega) only [pk_mul, nI_add, Zcl_n]); exact Zin_n (by omega) (by decide)))))) ?_
          refine Zs_ret hX hE rfl ⟨by rw [Fflow, if_pos hall, if_neg h4_z], hsc⟩
        · refine Zgo hX 6 rfl (Zin_n (by omega) (by decide)) ?_
          rw [Zcl_n (show i_z < 2 ^ 31 by omega), hco i_z hi_z]
          refine Zs_ret hX hE rfl ⟨by rw [Fflow, if_pos hall, if_pos h4_z, Zcl_n (show i_z < 2 ^ 31 by omega)], hsc⟩
      · refine Zs_ne hX (List.cons_ne_nil _ _) (fun q_z => False.elim (by revert q_z; decide)) (fun _ => ?_)
        exact BAD (fun q_z => h3_z q_z.2.2)
    · refine Zs_eq hX (List.cons_ne_nil _ _) (fun _ => ?_) (fun q_z => False.elim (by revert q_z; decide))
      exact BAD (fun q_z => h2_z q_z.2.1)
  · refine Zs_eq hX (List.cons_ne_nil _ _) (fun _ => ?_) (fun q_z => False.elim (by revert q_z; decide))
    exact BAD (fun q_z => h1_z q_z.1)

set_option maxRecDepth 20000 in
set_option maxHeartbeats 1000000 in
theorem s_flow (n_z : Nat) (much row_z what : Int32) (M : Zmem) (hfi : Zfi (M 54)) (hn_z : M 54 7 = nI n_z) (hn2 : n_z ≤ 15) : ZC 103 5 [.ref 53, .int much, .int row_z, .int what] M (fun r_z M' => r_z = some (.int (Fflow (M 54) n_z much row_z what)) ∧ Sc M M') := by
  refine ZC_of Zt103 Zk103 (Nat.le_of_ble_eq_true rfl) (by decide) rfl (fun X hX hE => ?_)
  have BAD : ¬ ((nI 0 ≤ much ∧ much ≤ nI 999) ∧ (nI 0 ≤ row_z ∧ row_z ≤ nI n_z) ∧ nI 0 ≤ what ∧ what ≤ nI 1) → ZP X Zt103 (Zsf Zt103 31) (lv_args 0 [.ref 53, .int much, .int row_z, .int what]) [] M := by
    intro h_z
    refine Zgo hX 2 rfl (by (first | exact True.intro | assumption | (dsimp only [ZallP]; and_intros <;> (first | assumption | decide | omega | ((try simp (disch := omega) only [pk_mul, nI_add, Zcl_n]); exact Zin_n (by omega) (by decide)))))) ?_
    refine Zs_callv hX (List.cons_ne_nil _ _) (s_error 1 _ (by decide)) (by first | decide | omega) (by decide) rfl rfl rfl (by decide) (Nat.le_of_ble_eq_true rfl) (fun r_z M' hc_z => ?_)
    obtain ⟨rfl, hsc⟩ := hc_z
    refine Zs_ret hX hE rfl ⟨by rw [Fflow, if_neg h_z], hsc⟩
  refine Zgo hX 1 rfl (by (first | exact True.intro | assumption | (dsimp only [ZallP]; and_intros <;> (first | assumption | decide | omega | ((try simp (disch := omega) only [pk_mul, nI_add, Zcl_n]); exact Zin_n (by omega) (by decide)))))) ?_
  refine Zs_calls hX (List.cons_ne_nil _ _) (by decide) (s_isWater _ _) (by first | decide | omega) rfl rfl (by decide) (Nat.le_of_ble_eq_true rfl) (fun r_z M' hc_z => ?_)
  rcases hc_z with ⟨⟨rfl, h1_z⟩ | ⟨rfl, h1_z⟩, rfl⟩
  · refine Zs_eq hX (List.cons_ne_nil _ _) (fun q_z => False.elim (by revert q_z; decide)) (fun _ => ?_)
    refine Zgo hX 6 rfl (Zin_n (by decide) (by decide)) ?_
    try simp (disch := omega) only [Zcl_n, pk_mul, nI_add]
    rw [hn_z]
    refine Zs_calls hX (List.cons_ne_nil _ _) (by decide) (s_in _ _ _ _) (by first | decide | omega) rfl rfl (by decide) (Nat.le_of_ble_eq_true rfl) (fun r_z M' hc_z => ?_)
    rcases hc_z with ⟨⟨rfl, h2_z⟩ | ⟨rfl, h2_z⟩, rfl⟩
    · refine Zs_eq hX (List.cons_ne_nil _ _) (fun q_z => False.elim (by revert q_z; decide)) (fun _ => ?_)
      refine Zgo hX 3 rfl (by (first | exact True.intro | assumption | (dsimp only [ZallP]; and_intros <;> (first | assumption | decide | omega | ((try simp (disch := omega) only [pk_mul, nI_add, Zcl_n]); exact Zin_n (by omega) (by decide)))))) ?_
      refine Zs_calls hX (List.cons_ne_nil _ _) (by decide) (s_in _ _ _ _) (by first | decide | omega) rfl rfl (by decide) (Nat.le_of_ble_eq_true rfl) (fun r_z M' hc_z => ?_)
      rcases hc_z with ⟨⟨rfl, h3_z⟩ | ⟨rfl, h3_z⟩, rfl⟩
      · refine Zs_ne hX (List.cons_ne_nil _ _) (fun _ => ?_) (fun q_z => False.elim (by revert q_z; decide))
        have hall := And.intro h1_z (And.intro h2_z h3_z)
        obtain ⟨i_z, hi_z, rfl⟩ := Zbt_ex (by omega) h2_z
        refine Zgo hX 3 rfl (by (first | exact True.intro | assumption | (dsimp only [ZallP]; and_intros <;> (first | assumption | decide | omega | ((try simp (disch := omega) only [pk_mul, nI_add, Zcl_n]); exact Zin_n (by omega) (by decide)))))) ?_
        refine Zs_callv hX (List.cons_ne_nil _ _) (s_letDown n_z much (nI 0) M hfi hn_z hn2) (by first | decide | omega) (by decide) rfl rfl rfl (by decide) (Nat.le_of_ble_eq_true rfl) (fun r_z M' hc_z => ?_)
        obtain ⟨rfl, hsc, hfl, hco⟩ := hc_z
        refine Zgo hX 1 rfl (by (first | exact True.intro | assumption | (dsimp only [ZallP]; and_intros <;> (first | assumption | decide | omega | ((try simp (disch := omega) only [pk_mul, nI_add, Zcl_n]); exact Zin_n (by omega) (by decide)))))) ?_
        refine Zs_ne hX (List.cons_ne_nil _ _) (fun h4_z => ?_) (fun h4_z => ?_)
        · refine Zgo hX 2 rfl (by (first | exact True.intro | assumption | (dsimp only [ZallP]; and_intros <;> (first | assumption | decide | omega | ((try simp (disch := omega) only [pk_mul, nI_add, Zcl_n]); exact Zin_n (by omega) (by decide)))))) ?_
          rw [hfl]
          refine Zs_ret hX hE rfl ⟨by rw [Fflow, if_pos hall, if_neg h4_z], hsc⟩
        · refine Zgo hX 5 rfl (Zin_n (by omega) (by decide)) ?_
          rw [Zcl_n (show i_z < 2 ^ 31 by omega), hco i_z hi_z]
          refine Zs_ret hX hE rfl ⟨by rw [Fflow, if_pos hall, if_pos h4_z, Zcl_n (show i_z < 2 ^ 31 by omega)], hsc⟩
      · refine Zs_ne hX (List.cons_ne_nil _ _) (fun q_z => False.elim (by revert q_z; decide)) (fun _ => ?_)
        exact BAD (fun q_z => h3_z q_z.2.2)
    · refine Zs_eq hX (List.cons_ne_nil _ _) (fun _ => ?_) (fun q_z => False.elim (by revert q_z; decide))
      exact BAD (fun q_z => h2_z q_z.2.1)
  · refine Zs_eq hX (List.cons_ne_nil _ _) (fun _ => ?_) (fun q_z => False.elim (by revert q_z; decide))
    exact BAD (fun q_z => h1_z q_z.1)

set_option maxRecDepth 20000 in
set_option maxHeartbeats 1000000 in
theorem k_turned (w_z b_z : Nat) (M : Zmem) (hw_z : w_z < 4) (hb_z : b_z < 5) : ZC 137 1 [.int (nI w_z), .int (nI b_z - nI 2)] M (fun r_z M' => r_z = some (.int (nI (Zgn w_z b_z))) ∧ M = M') := by
  refine ZC_of Zt137 Zk137 (Nat.le_of_ble_eq_true rfl) (by decide) rfl (fun X hX hE => ?_)
  refine Zgo hX 4 rfl (by (first | exact True.intro | assumption | (dsimp only [ZallP]; and_intros <;> (first | assumption | decide | omega | ((try simp (disch := omega) only [pk_mul, nI_add, Zcl_n]); exact Zin_n (by omega) (by decide)))))) ?_
  refine Zs_calls hX (List.cons_ne_nil _ _) (by decide) (c_floorMod _ _ _ (by decide)) (by first | decide | omega) rfl rfl (by decide) (Nat.le_of_ble_eq_true rfl) (fun r_z M' hc_z => ?_)
  obtain ⟨rfl, rfl⟩ := hc_z
  rw [Zgn_k hw_z hb_z]
  refine Zs_ret hX hE rfl ⟨rfl, rfl⟩

set_option maxRecDepth 20000 in
set_option maxHeartbeats 1000000 in
theorem k_acrossMore (w_z : Nat) (M : Zmem) (hw_z : w_z < 4) : ZC 138 0 [.int (nI w_z)] M (fun r_z M' => r_z = some (.int (Zam w_z)) ∧ M = M') := by
  refine ZC_of Zt138 Zk138 (Nat.le_of_ble_eq_true rfl) (by decide) rfl (fun X hX hE => ?_)
  refine Zgo hX 2 rfl (by (first | exact True.intro | assumption | (dsimp only [ZallP]; and_intros <;> (first | assumption | decide | omega | ((try simp (disch := omega) only [pk_mul, nI_add, Zcl_n]); exact Zin_n (by omega) (by decide)))))) ?_
  refine Zs_ine hX (List.cons_ne_nil _ _) (fun h1_z => ?_) (fun h1_z => ?_)
  · have n1_z : w_z ≠ 1 := Zne (by omega) (by decide) h1_z
    refine Zgo hX 2 rfl (by (first | exact True.intro | assumption | (dsimp only [ZallP]; and_intros <;> (first | assumption | decide | omega | ((try simp (disch := omega) only [pk_mul, nI_add, Zcl_n]); exact Zin_n (by omega) (by decide)))))) ?_
    refine Zs_ine hX (List.cons_ne_nil _ _) (fun h2_z => ?_) (fun h2_z => ?_)
    · have n2_z : w_z ≠ 3 := fun q_z => h2_z (by rw [q_z]; first | done | rfl)
      refine Zgo hX 1 rfl (by (first | exact True.intro | assumption | (dsimp only [ZallP]; and_intros <;> (first | assumption | decide | omega | ((try simp (disch := omega) only [pk_mul, nI_add, Zcl_n]); exact Zin_n (by omega) (by decide)))))) ?_
      refine Zs_ret hX hE rfl ⟨by rw [Zam, if_neg n1_z, if_neg n2_z], rfl⟩
    · have n2_z : w_z = 3 := Zeq (by omega) (by decide) h2_z
      refine Zgo hX 2 rfl (by (first | exact True.intro | assumption | (dsimp only [ZallP]; and_intros <;> (first | assumption | decide | omega | ((try simp (disch := omega) only [pk_mul, nI_add, Zcl_n]); exact Zin_n (by omega) (by decide)))))) ?_
      refine Zs_ret hX hE rfl ⟨by rw [Zam, if_neg n1_z, if_pos n2_z], rfl⟩
  · have n1_z : w_z = 1 := Zeq (by omega) (by decide) h1_z
    refine Zgo hX 2 rfl (by (first | exact True.intro | assumption | (dsimp only [ZallP]; and_intros <;> (first | assumption | decide | omega | ((try simp (disch := omega) only [pk_mul, nI_add, Zcl_n]); exact Zin_n (by omega) (by decide)))))) ?_
    refine Zs_ret hX hE rfl ⟨by rw [Zam, if_pos n1_z], rfl⟩

set_option maxRecDepth 20000 in
set_option maxHeartbeats 1000000 in
theorem k_downMore (w_z : Nat) (M : Zmem) (hw_z : w_z < 4) : ZC 139 0 [.int (nI w_z)] M (fun r_z M' => r_z = some (.int (Zdm w_z)) ∧ M = M') := by
  refine ZC_of Zt139 Zk139 (Nat.le_of_ble_eq_true rfl) (by decide) rfl (fun X hX hE => ?_)
  refine Zgo hX 2 rfl (by (first | exact True.intro | assumption | (dsimp only [ZallP]; and_intros <;> (first | assumption | decide | omega | ((try simp (disch := omega) only [pk_mul, nI_add, Zcl_n]); exact Zin_n (by omega) (by decide)))))) ?_
  refine Zs_ine hX (List.cons_ne_nil _ _) (fun h1_z => ?_) (fun h1_z => ?_)
  · have n1_z : w_z ≠ 2 := Zne (by omega) (by decide) h1_z
    refine Zgo hX 1 rfl (by (first | exact True.intro | assumption | (dsimp only [ZallP]; and_intros <;> (first | assumption | decide | omega | ((try simp (disch := omega) only [pk_mul, nI_add, Zcl_n]); exact Zin_n (by omega) (by decide)))))) ?_
    refine Zs_ne hX (List.cons_ne_nil _ _) (fun h2_z => ?_) (fun h2_z => ?_)
    · have n2_z : w_z ≠ 0 := fun q_z => h2_z (by rw [q_z]; first | done | rfl)
      refine Zgo hX 1 rfl (by (first | exact True.intro | assumption | (dsimp only [ZallP]; and_intros <;> (first | assumption | decide | omega | ((try simp (disch := omega) only [pk_mul, nI_add, Zcl_n]); exact Zin_n (by omega) (by decide)))))) ?_
      refine Zs_ret hX hE rfl ⟨by rw [Zdm, if_neg n1_z, if_neg n2_z], rfl⟩
    · have n2_z : w_z = 0 := Zeq (by omega) (by decide) h2_z
      refine Zgo hX 2 rfl (by (first | exact True.intro | assumption | (dsimp only [ZallP]; and_intros <;> (first | assumption | decide | omega | ((try simp (disch := omega) only [pk_mul, nI_add, Zcl_n]); exact Zin_n (by omega) (by decide)))))) ?_
      refine Zs_ret hX hE rfl ⟨by rw [Zdm, if_neg n1_z, if_pos n2_z], rfl⟩
  · have n1_z : w_z = 2 := Zeq (by omega) (by decide) h1_z
    refine Zgo hX 2 rfl (by (first | exact True.intro | assumption | (dsimp only [ZallP]; and_intros <;> (first | assumption | decide | omega | ((try simp (disch := omega) only [pk_mul, nI_add, Zcl_n]); exact Zin_n (by omega) (by decide)))))) ?_
    refine Zs_ret hX hE rfl ⟨by rw [Zdm, if_pos n1_z], rfl⟩

set_option maxRecDepth 20000 in
set_option maxHeartbeats 1000000 in
theorem k_follow (f_z : Nat → Int32) (n_z : Nat) (M : Zmem) (hz_z : Zrv 1 f_z M) (hfi : Zfi f_z) (hn_z : f_z 7 = nI n_z) (hn2 : n_z ≤ 15) : ZC 140 2 [.ref 35, .ref 1] M (fun r_z M' => r_z = none ∧ Sc M M' ∧ M' 35 2 = nI n_z ∧ M' 35 3 = nI (Zgw f_z n_z) ∧ ∀ i_z, i_z ≤ n_z → M' 36 i_z = Zax f_z i_z ∧ M' 37 i_z = Zdx f_z i_z) := by
  refine ZC_of Zt140 Zk140 (Nat.le_of_ble_eq_true rfl) (by decide) rfl (fun X hX hE => ?_)
  have L : ∀ (q_z i_z : Nat) (M1 : Zmem), n_z - i_z < q_z → i_z ≤ n_z → Sc M M1 → M1 35 2 = nI n_z → M1 35 3 = nI (Zgw f_z i_z) → (∀ j_z, j_z ≤ i_z → M1 36 j_z = Zax f_z j_z ∧ M1 37 j_z = Zdx f_z j_z) → ZP X Zt140 (Zsf Zt140 32) [(2, .int (nI i_z)), (0, .ref 35), (1, .ref 1)] [] M1 := by
    intro q_z
    induction q_z with
    | zero => intro i_z M1 hq_z; exact absurd hq_z (Nat.not_lt_zero _)
    | succ q_z ih_z =>
      intro i_z M1 hq_z hi_z hsc h2_z h3_z h4_z
      have hz1 := hz_z.sc (Or.inl rfl) hsc
      refine Zgo hX 3 rfl (by (first | exact True.intro | assumption | (dsimp only [ZallP]; and_intros <;> (first | assumption | decide | omega | ((try simp (disch := omega) only [pk_mul, nI_add, Zcl_n]); exact Zin_n (by omega) (by decide)))))) ?_
      rw [h2_z]
      refine Zs_ige hX (List.cons_ne_nil _ _) (fun h5_z => ?_) (fun h5_z => ?_)
      · obtain rfl : i_z = n_z := by have := (Zn_le (by omega) (by omega)).mp h5_z; omega
        refine Zs_retv hX hE rfl ⟨rfl, hsc, h2_z, h3_z, h4_z⟩
      · have hlt : i_z < n_z := (Nat.lt_or_ge i_z n_z).elim id (fun q_z => absurd ((Zn_le (by omega) (by omega)).mpr q_z) h5_z)
        obtain ⟨⟨kd_z, hkd, e1_z⟩, ⟨m_z, hm_z, e2_z⟩, -, -, -⟩ := hfi.rw hn_z hn2 hlt
        obtain ⟨b1_z, b2_z⟩ := Zbn_ok hkd hm_z
        have eg : Zgn (Zgw f_z i_z) (Zbn kd_z m_z) = Zgw f_z (i_z + 1) := by rw [Zgw, e1_z, e2_z, Zcl_n (show kd_z < 2 ^ 31 by omega), Zcl_n (show m_z < 2 ^ 31 by omega)]
        refine Zgo hX 11 rfl (by dsimp only [ZallP]; exact ⟨Zin_n (by omega) (by decide), Zin_n (by omega) (by decide)⟩) ?_
        rw [Zcl_n (show i_z < 2 ^ 31 by omega), (hz1.row (by omega)).1, (hz1.row (by omega)).2.1, e1_z, e2_z, h3_z]
        refine Zs_calls hX (List.cons_ne_nil _ _) (by decide) (k_bends kd_z m_z _ hkd hm_z) (by first | decide | omega) rfl rfl (by decide) (Nat.le_of_ble_eq_true rfl) (fun r_z M' hc_z => ?_)
        obtain ⟨rfl, rfl⟩ := hc_z
        rw [b1_z]
        refine Zs_calls hX (List.cons_ne_nil _ _) (by decide) (k_turned (Zgw f_z i_z) (Zbn kd_z m_z) _ (Zgw_lt hfi i_z) b2_z) (by first | decide | omega) rfl rfl (by decide) (Nat.le_of_ble_eq_true rfl) (fun r_z M' hc_z => ?_)
        obtain ⟨rfl, rfl⟩ := hc_z
        rw [eg]
        refine Zgo hX 12 rfl (Zin_n (by omega) (by decide)) ?_
        rw [Zcl_n (show i_z < 2 ^ 31 by omega), nI_add, show (Zu M1 35 3 (nI (Zgw f_z (i_z + 1)))) 36 i_z = Zax f_z i_z from (h4_z i_z (Nat.le_refl _)).1, show (Zu M1 35 3 (nI (Zgw f_z (i_z + 1)))) 35 3 = nI (Zgw f_z (i_z + 1)) from rfl]
        refine Zs_calls hX (List.cons_ne_nil _ _) (by decide) (k_acrossMore _ _ (Zgw_lt hfi _)) (by first | decide | omega) rfl rfl (by decide) (Nat.le_of_ble_eq_true rfl) (fun r_z M' hc_z => ?_)
        obtain ⟨rfl, rfl⟩ := hc_z
        refine Zgo hX 13 rfl (by dsimp only [ZallP]; exact ⟨Zin_n (by omega) (by decide), Zin_n (by omega) (by decide)⟩) ?_
        rw [Zcl_n (show i_z + 1 < 2 ^ 31 by omega), Zcl_n (show i_z < 2 ^ 31 by omega), nI_add, show (Zu (Zu M1 35 3 (nI (Zgw f_z (i_z + 1)))) 36 (i_z + 1) (Zax f_z i_z + Zam (Zgw f_z (i_z + 1)))) 37 i_z = Zdx f_z i_z from (h4_z i_z (Nat.le_refl _)).2, show (Zu (Zu M1 35 3 (nI (Zgw f_z (i_z + 1)))) 36 (i_z + 1) (Zax f_z i_z + Zam (Zgw f_z (i_z + 1)))) 35 3 = nI (Zgw f_z (i_z + 1)) from rfl]
        refine Zs_calls hX (List.cons_ne_nil _ _) (by decide) (k_downMore _ _ (Zgw_lt hfi _)) (by first | decide | omega) rfl rfl (by decide) (Nat.le_of_ble_eq_true rfl) (fun r_z M' hc_z => ?_)
        obtain ⟨rfl, rfl⟩ := hc_z
        refine Zgo hX 4 rfl (Zin_n (by omega) (by decide)) ?_
        rw [Zcl_n (show i_z + 1 < 2 ^ 31 by omega), nI_add]
        refine Zs_sub (l' := [(2, .int (nI (i_z + 1))), (0, .ref 35), (1, .ref 1)]) rfl ?_
        refine ih_z (i_z + 1) _ (by omega) hlt (((hsc.u _ rfl).u _ rfl).u _ rfl) h2_z rfl (fun j_z hj_z => ?_)
        by_cases e_z : j_z = i_z + 1
        · subst e_z
          exact ⟨by rw [Zu_o (by omega), Zu_s]; rfl, by rw [Zu_s]; rfl⟩
        · exact ⟨by rw [Zu_o (by omega), Zu_o (by omega), Zu_o (by omega)]; exact (h4_z j_z (by omega)).1, by rw [Zu_o (by omega), Zu_o (by omega), Zu_o (by omega)]; exact (h4_z j_z (by omega)).2⟩
  refine Zgo hX 20 rfl (by dsimp only [ZallP]; exact ⟨Zin_n (by decide) (by decide), Zin_n (by decide) (by decide)⟩) ?_
  try simp (disch := omega) only [Zcl_n, pk_mul, nI_add]
  rw [show M 1 7 = f_z 1 from hz_z.1.2.2.1, show (Zu M 35 3 (f_z 1)) 1 5 = nI n_z from hz_z.n hn_z]
  obtain ⟨wy, g1, g2⟩ := hfi.wyq
  refine Zs_sub (l' := [(2, .int (nI 0)), (0, .ref 35), (1, .ref 1)]) rfl ?_
  refine L (n_z + 1) 0 _ (by omega) (by omega) (((((Sc.rf M).u _ rfl).u _ rfl).u _ rfl).u _ rfl) rfl (by show f_z 1 = _; rw [Zgw, g2, Zcl_n (show wy < 2 ^ 31 by omega)]) (fun j_z hj_z => ?_)
  obtain rfl : j_z = 0 := by omega
  exact ⟨rfl, rfl⟩

set_option maxRecDepth 20000 in
set_option maxHeartbeats 1000000 in
theorem s_step (at_ w_z b_z : Nat) (a_z d_z : Int32) (M : Zmem) (hat : at_ < 21) (hw_z : w_z < 4) (hb_z : b_z < 5) (hg_z : M 53 15 = nI w_z) (ha_z : M 61 at_ = a_z) (hd_z : M 62 at_ = d_z) : ZC 86 0 [.ref 53, .int (nI at_), .int (nI b_z - nI 2)] M (fun r_z M' => r_z = none ∧ Zu (Zu (Zu M 53 15 (nI (Zgn w_z b_z))) 61 (at_ + 1) (a_z + Zam (Zgn w_z b_z))) 62 (at_ + 1) (d_z + Zdm (Zgn w_z b_z)) = M') := by
  refine ZC_of Zt86 Zk86 (Nat.le_of_ble_eq_true rfl) (by decide) rfl (fun X hX hE => ?_)
  have hv_z := Zgn_lt w_z b_z
  have L92 : ∀ v_z : Int32, v_z = Zdm (Zgn w_z b_z) → ZP X Zt86 (Zsf Zt86 92) (lv_args 0 [.ref 53, .int (nI at_), .int (nI b_z - nI 2)]) [.int v_z, .int d_z, .int (nI (at_ + 1)), .ref 62] (Zu (Zu M 53 15 (nI (Zgn w_z b_z))) 61 (at_ + 1) (a_z + Zam (Zgn w_z b_z))) := by
    rintro v_z rfl
    refine Zgo hX 2 rfl (Zin_n (by omega) (by decide)) ?_
    rw [Zcl_n (show at_ + 1 < 2 ^ 31 by omega)]
    refine Zs_retv hX hE rfl ⟨rfl, rfl⟩
  have L53 : ∀ v_z : Int32, v_z = Zam (Zgn w_z b_z) → ZP X Zt86 (Zsf Zt86 53) (lv_args 0 [.ref 53, .int (nI at_), .int (nI b_z - nI 2)]) [.int v_z, .int a_z, .int (nI (at_ + 1)), .ref 61] (Zu M 53 15 (nI (Zgn w_z b_z))) := by
    rintro v_z rfl
    refine Zgo hX 14 rfl (by dsimp only [ZallP]; exact ⟨Zin_n (by omega) (by decide), Zin_n (by omega) (by decide)⟩) ?_
    rw [Zcl_n (show at_ + 1 < 2 ^ 31 by omega), Zcl_n (show at_ < 2 ^ 31 by omega), nI_add, show (Zu (Zu M 53 15 (nI (Zgn w_z b_z))) 61 (at_ + 1) (a_z + Zam (Zgn w_z b_z))) 62 at_ = d_z from hd_z, show (Zu (Zu M 53 15 (nI (Zgn w_z b_z))) 61 (at_ + 1) (a_z + Zam (Zgn w_z b_z))) 53 15 = nI (Zgn w_z b_z) from rfl]
    refine Zs_ine hX (List.cons_ne_nil _ _) (fun h1_z => ?_) (fun h1_z => ?_)
    · have n1_z : Zgn w_z b_z ≠ 2 := Zne (by omega) (by decide) h1_z
      refine Zgo hX 2 rfl (by (first | exact True.intro | assumption | (dsimp only [ZallP]; and_intros <;> (first | assumption | decide | omega | ((try simp (disch := omega) only [pk_mul, nI_add, Zcl_n]); exact Zin_n (by omega) (by decide)))))) ?_
      rw [show (Zu (Zu M 53 15 (nI (Zgn w_z b_z))) 61 (at_ + 1) (a_z + Zam (Zgn w_z b_z))) 53 15 = nI (Zgn w_z b_z) from rfl]
      refine Zs_ne hX (List.cons_ne_nil _ _) (fun h2_z => ?_) (fun h2_z => ?_)
      · have n2_z : Zgn w_z b_z ≠ 0 := fun q_z => h2_z (by rw [q_z]; rfl)
        refine Zgo hX 1 rfl (by (first | exact True.intro | assumption | (dsimp only [ZallP]; and_intros <;> (first | assumption | decide | omega | ((try simp (disch := omega) only [pk_mul, nI_add, Zcl_n]); exact Zin_n (by omega) (by decide)))))) ?_
        exact L92 _ (by rw [Zdm, if_neg n1_z, if_neg n2_z])
      · have n2_z : Zgn w_z b_z = 0 := Zeq (by omega) (by decide) h2_z
        refine Zgo hX 2 rfl (by (first | exact True.intro | assumption | (dsimp only [ZallP]; and_intros <;> (first | assumption | decide | omega | ((try simp (disch := omega) only [pk_mul, nI_add, Zcl_n]); exact Zin_n (by omega) (by decide)))))) ?_
        exact L92 _ (by rw [Zdm, if_neg n1_z, if_pos n2_z])
    · have n1_z : Zgn w_z b_z = 2 := Zeq (by omega) (by decide) h1_z
      refine Zgo hX 2 rfl (by (first | exact True.intro | assumption | (dsimp only [ZallP]; and_intros <;> (first | assumption | decide | omega | ((try simp (disch := omega) only [pk_mul, nI_add, Zcl_n]); exact Zin_n (by omega) (by decide)))))) ?_
      exact L92 _ (by rw [Zdm, if_pos n1_z])
  refine Zgo hX 22 rfl (by dsimp only [ZallP]; exact ⟨(show ¬ nI 4 = nI 0 by decide), Zin_n (by omega) (by decide)⟩) ?_
  rw [hg_z, Zgn_s hw_z hb_z, Zcl_n (show at_ < 2 ^ 31 by omega), nI_add, show (Zu M 53 15 (nI (Zgn w_z b_z))) 61 at_ = a_z from ha_z, show (Zu M 53 15 (nI (Zgn w_z b_z))) 53 15 = nI (Zgn w_z b_z) from rfl]
  refine Zs_ine hX (List.cons_ne_nil _ _) (fun h1_z => ?_) (fun h1_z => ?_)
  · have n1_z : Zgn w_z b_z ≠ 1 := Zne (by omega) (by decide) h1_z
    refine Zgo hX 3 rfl (by (first | exact True.intro | assumption | (dsimp only [ZallP]; and_intros <;> (first | assumption | decide | omega | ((try simp (disch := omega) only [pk_mul, nI_add, Zcl_n]); exact Zin_n (by omega) (by decide)))))) ?_
    rw [show (Zu M 53 15 (nI (Zgn w_z b_z))) 53 15 = nI (Zgn w_z b_z) from rfl]
    refine Zs_ine hX (List.cons_ne_nil _ _) (fun h2_z => ?_) (fun h2_z => ?_)
    · have n2_z : Zgn w_z b_z ≠ 3 := Zne (by omega) (by decide) h2_z
      refine Zgo hX 1 rfl (by (first | exact True.intro | assumption | (dsimp only [ZallP]; and_intros <;> (first | assumption | decide | omega | ((try simp (disch := omega) only [pk_mul, nI_add, Zcl_n]); exact Zin_n (by omega) (by decide)))))) ?_
      exact L53 _ (by rw [Zam, if_neg n1_z, if_neg n2_z])
    · have n2_z : Zgn w_z b_z = 3 := Zeq (by omega) (by decide) h2_z
      refine Zgo hX 2 rfl (by (first | exact True.intro | assumption | (dsimp only [ZallP]; and_intros <;> (first | assumption | decide | omega | ((try simp (disch := omega) only [pk_mul, nI_add, Zcl_n]); exact Zin_n (by omega) (by decide)))))) ?_
      exact L53 _ (by rw [Zam, if_neg n1_z, if_pos n2_z])
  · have n1_z : Zgn w_z b_z = 1 := Zeq (by omega) (by decide) h1_z
    refine Zgo hX 2 rfl (by (first | exact True.intro | assumption | (dsimp only [ZallP]; and_intros <;> (first | assumption | decide | omega | ((try simp (disch := omega) only [pk_mul, nI_add, Zcl_n]); exact Zin_n (by omega) (by decide)))))) ?_
    exact L53 _ (by rw [Zam, if_pos n1_z])

set_option maxRecDepth 20000 in
set_option maxHeartbeats 1000000 in
theorem s_findCourse (n_z : Nat) (M : Zmem) (hfi : Zfi (M 54)) (hn_z : M 54 7 = nI n_z) (hn2 : n_z ≤ 15) : ZC 87 2 [.ref 53] M (fun r_z M' => r_z = none ∧ Sc M M' ∧ M' 53 15 = nI (Zgw (M 54) n_z) ∧ ∀ i_z, i_z ≤ n_z → M' 61 i_z = Zax (M 54) i_z ∧ M' 62 i_z = Zdx (M 54) i_z) := by
  refine ZC_of Zt87 Zk87 (Nat.le_of_ble_eq_true rfl) (by decide) rfl (fun X hX hE => ?_)
  have L : ∀ (q_z i_z : Nat) (M1 : Zmem), n_z - i_z < q_z → i_z ≤ n_z → Sc M M1 → M1 53 15 = nI (Zgw (M 54) i_z) → (∀ j_z, j_z ≤ i_z → M1 61 j_z = Zax (M 54) j_z ∧ M1 62 j_z = Zdx (M 54) j_z) → ZP X Zt87 (Zsf Zt87 26) [(1, .int (nI i_z)), (0, .ref 53)] [] M1 := by
    intro q_z
    induction q_z with
    | zero => intro i_z M1 hq_z; exact absurd hq_z (Nat.not_lt_zero _)
    | succ q_z ih_z =>
      intro i_z M1 hq_z hi_z hsc h3_z h4_z
      have e54 := hsc.f54
      refine Zgo hX 5 rfl (Zin_n (by decide) (by decide)) ?_
      try simp (disch := omega) only [Zcl_n, pk_mul, nI_add]
      rw [e54, hn_z]
      refine Zs_ige hX (List.cons_ne_nil _ _) (fun h5_z => ?_) (fun h5_z => ?_)
      · obtain rfl : i_z = n_z := by have := (Zn_le (by omega) (by omega)).mp h5_z; omega
        refine Zs_retv hX hE rfl ⟨rfl, hsc, h3_z, h4_z⟩
      · have hlt : i_z < n_z := (Nat.lt_or_ge i_z n_z).elim id (fun q_z => absurd ((Zn_le (by omega) (by omega)).mpr q_z) h5_z)
        obtain ⟨⟨kd_z, hkd, e1_z⟩, ⟨m_z, hm_z, e2_z⟩, -, -, -⟩ := hfi.rw hn_z hn2 hlt
        obtain ⟨b1_z, b2_z⟩ := Zbn_ok hkd hm_z
        have eg : Zgn (Zgw (M 54) i_z) (Zbn kd_z m_z) = Zgw (M 54) (i_z + 1) := by rw [Zgw, e1_z, e2_z, Zcl_n (show kd_z < 2 ^ 31 by omega), Zcl_n (show m_z < 2 ^ 31 by omega)]
        refine Zgo hX 5 rfl (by (first | exact True.intro | assumption | (dsimp only [ZallP]; and_intros <;> (first | assumption | decide | omega | ((try simp (disch := omega) only [pk_mul, nI_add, Zcl_n]); exact Zin_n (by omega) (by decide)))))) ?_
        refine Zs_callv hX (List.cons_ne_nil _ _) (s_its i_z 0 _ (by omega) (by decide)) (by first | decide | omega) (by decide) rfl rfl rfl (by decide) (Nat.le_of_ble_eq_true rfl) (fun r_z M' hc_z => ?_)
        obtain ⟨rfl, rfl⟩ := hc_z
        refine Zgo hX 3 rfl (by (first | exact True.intro | assumption | (dsimp only [ZallP]; and_intros <;> (first | assumption | decide | omega | ((try simp (disch := omega) only [pk_mul, nI_add, Zcl_n]); exact Zin_n (by omega) (by decide)))))) ?_
        refine Zs_callv hX (List.cons_ne_nil _ _) (s_its i_z 1 _ (by omega) (by decide)) (by first | decide | omega) (by decide) rfl rfl rfl (by decide) (Nat.le_of_ble_eq_true rfl) (fun r_z M' hc_z => ?_)
        obtain ⟨rfl, rfl⟩ := hc_z
        rw [e54, show M 54 (9 + 5 * i_z + 0) = nI kd_z from e1_z, show 9 + 5 * i_z + 1 = 10 + 5 * i_z by omega, e2_z]
        refine Zs_calls hX (List.cons_ne_nil _ _) (by decide) (s_bendsAs kd_z m_z _ hkd hm_z) (by first | decide | omega) rfl rfl (by decide) (Nat.le_of_ble_eq_true rfl) (fun r_z M' hc_z => ?_)
        obtain ⟨rfl, rfl⟩ := hc_z
        rw [b1_z]
        refine Zs_callv hX (List.cons_ne_nil _ _) (s_step i_z (Zgw (M 54) i_z) (Zbn kd_z m_z) _ _ _ (by omega) (Zgw_lt hfi i_z) b2_z h3_z (h4_z i_z (Nat.le_refl _)).1 (h4_z i_z (Nat.le_refl _)).2) (by first | decide | omega) (by decide) rfl rfl rfl (by decide) (Nat.le_of_ble_eq_true rfl) (fun r_z M' hc_z => ?_)
        obtain ⟨rfl, rfl⟩ := hc_z
        rw [eg]
        refine Zgo hX 2 rfl (by (first | exact True.intro | assumption | (dsimp only [ZallP]; and_intros <;> (first | assumption | decide | omega | ((try simp (disch := omega) only [pk_mul, nI_add, Zcl_n]); exact Zin_n (by omega) (by decide)))))) ?_
        rw [nI_add]
        refine Zs_sub (l' := [(1, .int (nI (i_z + 1))), (0, .ref 53)]) rfl ?_
        refine ih_z (i_z + 1) _ (by omega) hlt (((hsc.u _ rfl).u _ rfl).u _ rfl) rfl (fun j_z hj_z => ?_)
        by_cases e_z : j_z = i_z + 1
        · subst e_z
          exact ⟨by rw [Zu_o (by omega), Zu_s]; rfl, by rw [Zu_s]; rfl⟩
        · exact ⟨by rw [Zu_o (by omega), Zu_o (by omega), Zu_o (by omega)]; exact (h4_z j_z (by omega)).1, by rw [Zu_o (by omega), Zu_o (by omega), Zu_o (by omega)]; exact (h4_z j_z (by omega)).2⟩
  refine Zgo hX 18 rfl (by dsimp only [ZallP]; exact ⟨⟨Zin_n (by decide) (by decide), Zin_n (by decide) (by decide)⟩, Zin_n (by decide) (by decide)⟩) ?_
  try simp (disch := omega) only [Zcl_n, pk_mul, nI_add]
  obtain ⟨wy, g1, g2⟩ := hfi.wyq
  refine Zs_sub (l' := [(1, .int (nI 0)), (0, .ref 53)]) rfl ?_
  refine L (n_z + 1) 0 _ (by omega) (by omega) ((((Sc.rf M).u _ rfl).u _ rfl).u _ rfl) (by show M 54 1 = _; rw [Zgw, g2, Zcl_n (show wy < 2 ^ 31 by omega)]) (fun j_z hj_z => ?_)
  obtain rfl : j_z = 0 := by omega
  exact ⟨rfl, rfl⟩

set_option maxRecDepth 20000 in
set_option maxHeartbeats 1000000 in
theorem k_course (f_z : Nat → Int32) (n_z : Nat) (row_z what : Int32) (M : Zmem) (hz_z : Zrv 1 f_z M) (hfi : Zfi f_z) (hn_z : f_z 7 = nI n_z) (hn2 : n_z ≤ 15) : ZC 18 4 [.ref 0, .int row_z, .int what] M (fun r_z M' => r_z = some (.int (Fcourse f_z n_z row_z what)) ∧ Sc M M') := by
  refine ZC_of Zt18 Zk18 (Nat.le_of_ble_eq_true rfl) (by decide) rfl (fun X hX hE => ?_)
  have BAD : ¬ ((nI 0 ≤ row_z ∧ row_z ≤ nI n_z) ∧ nI 0 ≤ what ∧ what ≤ nI 1) → ZP X Zt18 (Zsf Zt18 24) (lv_args 0 [.ref 0, .int row_z, .int what]) [] M := by
    intro h_z
    refine Zgo hX 2 rfl (by (first | exact True.intro | assumption | (dsimp only [ZallP]; and_intros <;> (first | assumption | decide | omega | ((try simp (disch := omega) only [pk_mul, nI_add, Zcl_n]); exact Zin_n (by omega) (by decide)))))) ?_
    refine Zs_callv hX (List.cons_ne_nil _ _) (k_refuse 1 _ (by decide)) (by first | decide | omega) (by decide) rfl rfl rfl (by decide) (Nat.le_of_ble_eq_true rfl) (fun r_z M' hc_z => ?_)
    obtain ⟨rfl, hsc⟩ := hc_z
    refine Zs_ret hX hE rfl ⟨by rw [Fcourse, if_neg h_z], hsc⟩
  refine Zgo hX 5 rfl (by (first | exact True.intro | assumption | (dsimp only [ZallP]; and_intros <;> (first | assumption | decide | omega | ((try simp (disch := omega) only [pk_mul, nI_add, Zcl_n]); exact Zin_n (by omega) (by decide)))))) ?_
  rw [hz_z.n hn_z]
  refine Zs_calls hX (List.cons_ne_nil _ _) (by decide) (k_within _ _ _ _) (by first | decide | omega) rfl rfl (by decide) (Nat.le_of_ble_eq_true rfl) (fun r_z M' hc_z => ?_)
  rcases hc_z with ⟨⟨rfl, h2_z⟩ | ⟨rfl, h2_z⟩, rfl⟩
  · refine Zs_eq hX (List.cons_ne_nil _ _) (fun q_z => False.elim (by revert q_z; decide)) (fun _ => ?_)
    refine Zgo hX 3 rfl (by (first | exact True.intro | assumption | (dsimp only [ZallP]; and_intros <;> (first | assumption | decide | omega | ((try simp (disch := omega) only [pk_mul, nI_add, Zcl_n]); exact Zin_n (by omega) (by decide)))))) ?_
    refine Zs_calls hX (List.cons_ne_nil _ _) (by decide) (k_within _ _ _ _) (by first | decide | omega) rfl rfl (by decide) (Nat.le_of_ble_eq_true rfl) (fun r_z M' hc_z => ?_)
    rcases hc_z with ⟨⟨rfl, h3_z⟩ | ⟨rfl, h3_z⟩, rfl⟩
    · refine Zs_ne hX (List.cons_ne_nil _ _) (fun _ => ?_) (fun q_z => False.elim (by revert q_z; decide))
      have hall := And.intro h2_z h3_z
      obtain ⟨i_z, hi_z, rfl⟩ := Zbt_ex (by omega) h2_z
      refine Zgo hX 4 rfl (by (first | exact True.intro | assumption | (dsimp only [ZallP]; and_intros <;> (first | assumption | decide | omega | ((try simp (disch := omega) only [pk_mul, nI_add, Zcl_n]); exact Zin_n (by omega) (by decide)))))) ?_
      refine Zs_callv hX (List.cons_ne_nil _ _) (k_follow f_z n_z M hz_z hfi hn_z hn2) (by first | decide | omega) (by decide) rfl rfl rfl (by decide) (Nat.le_of_ble_eq_true rfl) (fun r_z M' hc_z => ?_)
      obtain ⟨rfl, hsc, -, -, hco⟩ := hc_z
      refine Zgo hX 1 rfl (by (first | exact True.intro | assumption | (dsimp only [ZallP]; and_intros <;> (first | assumption | decide | omega | ((try simp (disch := omega) only [pk_mul, nI_add, Zcl_n]); exact Zin_n (by omega) (by decide)))))) ?_
      refine Zs_ne hX (List.cons_ne_nil _ _) (fun h4_z => ?_) (fun h4_z => ?_)
      · refine Zgo hX 5 rfl (Zin_n (by omega) (by decide)) ?_
        rw [Zcl_n (show i_z < 2 ^ 31 by omega), (hco i_z hi_z).2]
        refine Zs_ret hX hE rfl ⟨by rw [Fcourse, if_pos hall, if_neg h4_z, Zcl_n (show i_z < 2 ^ 31 by omega)], hsc⟩
      · refine Zgo hX 6 rfl (Zin_n (by omega) (by decide)) ?_
        rw [Zcl_n (show i_z < 2 ^ 31 by omega), (hco i_z hi_z).1]
        refine Zs_ret hX hE rfl ⟨by rw [Fcourse, if_pos hall, if_pos h4_z, Zcl_n (show i_z < 2 ^ 31 by omega)], hsc⟩
    · refine Zs_ne hX (List.cons_ne_nil _ _) (fun q_z => False.elim (by revert q_z; decide)) (fun _ => ?_)
      exact BAD (fun q_z => h3_z q_z.2)
  · refine Zs_eq hX (List.cons_ne_nil _ _) (fun _ => ?_) (fun q_z => False.elim (by revert q_z; decide))
    exact BAD (fun q_z => h2_z q_z.1)

set_option maxRecDepth 20000 in
set_option maxHeartbeats 1000000 in
theorem s_course (n_z : Nat) (row_z what : Int32) (M : Zmem) (hfi : Zfi (M 54)) (hn_z : M 54 7 = nI n_z) (hn2 : n_z ≤ 15) : ZC 104 4 [.ref 53, .int row_z, .int what] M (fun r_z M' => r_z = some (.int (Fcourse (M 54) n_z row_z what)) ∧ Sc M M') := by
  refine ZC_of Zt104 Zk104 (Nat.le_of_ble_eq_true rfl) (by decide) rfl (fun X hX hE => ?_)
  have BAD : ¬ ((nI 0 ≤ row_z ∧ row_z ≤ nI n_z) ∧ nI 0 ≤ what ∧ what ≤ nI 1) → ZP X Zt104 (Zsf Zt104 24) (lv_args 0 [.ref 53, .int row_z, .int what]) [] M := by
    intro h_z
    refine Zgo hX 2 rfl (by (first | exact True.intro | assumption | (dsimp only [ZallP]; and_intros <;> (first | assumption | decide | omega | ((try simp (disch := omega) only [pk_mul, nI_add, Zcl_n]); exact Zin_n (by omega) (by decide)))))) ?_
    refine Zs_callv hX (List.cons_ne_nil _ _) (s_error 1 _ (by decide)) (by first | decide | omega) (by decide) rfl rfl rfl (by decide) (Nat.le_of_ble_eq_true rfl) (fun r_z M' hc_z => ?_)
    obtain ⟨rfl, hsc⟩ := hc_z
    refine Zs_ret hX hE rfl ⟨by rw [Fcourse, if_neg h_z], hsc⟩
  refine Zgo hX 6 rfl (Zin_n (by decide) (by decide)) ?_
  try simp (disch := omega) only [Zcl_n, pk_mul, nI_add]
  rw [hn_z]
  refine Zs_calls hX (List.cons_ne_nil _ _) (by decide) (s_in _ _ _ _) (by first | decide | omega) rfl rfl (by decide) (Nat.le_of_ble_eq_true rfl) (fun r_z M' hc_z => ?_)
  rcases hc_z with ⟨⟨rfl, h2_z⟩ | ⟨rfl, h2_z⟩, rfl⟩
  · refine Zs_eq hX (List.cons_ne_nil _ _) (fun q_z => False.elim (by revert q_z; decide)) (fun _ => ?_)
    refine Zgo hX 3 rfl (by (first | exact True.intro | assumption | (dsimp only [ZallP]; and_intros <;> (first | assumption | decide | omega | ((try simp (disch := omega) only [pk_mul, nI_add, Zcl_n]); exact Zin_n (by omega) (by decide)))))) ?_
    refine Zs_calls hX (List.cons_ne_nil _ _) (by decide) (s_in _ _ _ _) (by first | decide | omega) rfl rfl (by decide) (Nat.le_of_ble_eq_true rfl) (fun r_z M' hc_z => ?_)
    rcases hc_z with ⟨⟨rfl, h3_z⟩ | ⟨rfl, h3_z⟩, rfl⟩
    · refine Zs_ne hX (List.cons_ne_nil _ _) (fun _ => ?_) (fun q_z => False.elim (by revert q_z; decide))
      have hall := And.intro h2_z h3_z
      obtain ⟨i_z, hi_z, rfl⟩ := Zbt_ex (by omega) h2_z
      refine Zgo hX 1 rfl (by (first | exact True.intro | assumption | (dsimp only [ZallP]; and_intros <;> (first | assumption | decide | omega | ((try simp (disch := omega) only [pk_mul, nI_add, Zcl_n]); exact Zin_n (by omega) (by decide)))))) ?_
      refine Zs_callv hX (List.cons_ne_nil _ _) (s_findCourse n_z M hfi hn_z hn2) (by first | decide | omega) (by decide) rfl rfl rfl (by decide) (Nat.le_of_ble_eq_true rfl) (fun r_z M' hc_z => ?_)
      obtain ⟨rfl, hsc, -, hco⟩ := hc_z
      refine Zgo hX 1 rfl (by (first | exact True.intro | assumption | (dsimp only [ZallP]; and_intros <;> (first | assumption | decide | omega | ((try simp (disch := omega) only [pk_mul, nI_add, Zcl_n]); exact Zin_n (by omega) (by decide)))))) ?_
      refine Zs_ne hX (List.cons_ne_nil _ _) (fun h4_z => ?_) (fun h4_z => ?_)
      · refine Zgo hX 4 rfl (Zin_n (by omega) (by decide)) ?_
        rw [Zcl_n (show i_z < 2 ^ 31 by omega), (hco i_z hi_z).2]
        refine Zs_ret hX hE rfl ⟨by rw [Fcourse, if_pos hall, if_neg h4_z, Zcl_n (show i_z < 2 ^ 31 by omega)], hsc⟩
      · refine Zgo hX 5 rfl (Zin_n (by omega) (by decide)) ?_
        rw [Zcl_n (show i_z < 2 ^ 31 by omega), (hco i_z hi_z).1]
        refine Zs_ret hX hE rfl ⟨by rw [Fcourse, if_pos hall, if_pos h4_z, Zcl_n (show i_z < 2 ^ 31 by omega)], hsc⟩
    · refine Zs_ne hX (List.cons_ne_nil _ _) (fun q_z => False.elim (by revert q_z; decide)) (fun _ => ?_)
      exact BAD (fun q_z => h3_z q_z.2)
  · refine Zs_eq hX (List.cons_ne_nil _ _) (fun _ => ?_) (fun q_z => False.elim (by revert q_z; decide))
    exact BAD (fun q_z => h2_z q_z.1)

set_option maxRecDepth 20000 in
set_option maxHeartbeats 1000000 in
theorem k_wasAhead (f_z : Nat → Int32) (r_z : Nat) (M : Zmem) (hr_z : r_z ≤ 15) (hco : ∀ i_z, i_z ≤ r_z → M 36 i_z = Zax f_z i_z ∧ M 37 i_z = Zdx f_z i_z) : ZC 142 0 [.ref 35, .int (nI r_z)] M (fun r_ M' => Zb r_ (Zwa f_z r_z r_z) ∧ M = M') := by
  refine ZC_of Zt142 Zk142 (Nat.le_of_ble_eq_true rfl) (by decide) rfl (fun X hX hE => ?_)
  have L : ∀ (q_z o_z : Nat), o_z + q_z = r_z → ¬ Zwa f_z r_z o_z → ZP X Zt142 (Zsf Zt142 2) [(2, .int (nI o_z)), (0, .ref 35), (1, .int (nI r_z))] [] M := by
    intro q_z
    induction q_z with
    | zero =>
      intro o_z ho hw_z
      obtain rfl : o_z = r_z := by omega
      refine Zgo hX 2 rfl (by (first | exact True.intro | assumption | (dsimp only [ZallP]; and_intros <;> (first | assumption | decide | omega | ((try simp (disch := omega) only [pk_mul, nI_add, Zcl_n]); exact Zin_n (by omega) (by decide)))))) ?_
      refine Zs_ige hX (List.cons_ne_nil _ _) (fun h_z => ?_) (fun h_z => ?_)
      · refine Zgo hX 1 rfl (by (first | exact True.intro | assumption | (dsimp only [ZallP]; and_intros <;> (first | assumption | decide | omega | ((try simp (disch := omega) only [pk_mul, nI_add, Zcl_n]); exact Zin_n (by omega) (by decide)))))) ?_
        refine Zs_retz hX hE rfl (by first | exact Or.inl rfl | exact Or.inr rfl) ⟨Or.inr ⟨rfl, hw_z⟩, rfl⟩
      · exact absurd (Int32.le_refl _) h_z
    | succ q_z ih_z =>
      intro o_z ho hw_z
      refine Zgo hX 2 rfl (by (first | exact True.intro | assumption | (dsimp only [ZallP]; and_intros <;> (first | assumption | decide | omega | ((try simp (disch := omega) only [pk_mul, nI_add, Zcl_n]); exact Zin_n (by omega) (by decide)))))) ?_
      refine Zs_ige hX (List.cons_ne_nil _ _) (fun h_z => ?_) (fun h_z => ?_)
      · exact absurd ((Zn_le (by omega) (by omega)).mp h_z) (by omega)
      · have ex := hco o_z (by omega)
        have er := hco r_z (Nat.le_refl _)
        have NEXT : ¬ (Zax f_z o_z = Zax f_z r_z ∧ Zdx f_z o_z = Zdx f_z r_z) → ZP X Zt142 (Zsf Zt142 39) [(2, .int (nI o_z)), (0, .ref 35), (1, .int (nI r_z))] [] M := by
          intro c_z
          refine Zgo hX 2 rfl (by (first | exact True.intro | assumption | (dsimp only [ZallP]; and_intros <;> (first | assumption | decide | omega | ((try simp (disch := omega) only [pk_mul, nI_add, Zcl_n]); exact Zin_n (by omega) (by decide)))))) ?_
          rw [nI_add]
          refine Zs_sub (l' := [(2, .int (nI (o_z + 1))), (0, .ref 35), (1, .int (nI r_z))]) rfl ?_
          exact ih_z (o_z + 1) (by omega) (fun q_z => q_z.elim hw_z c_z)
        have YES : (Zax f_z o_z = Zax f_z r_z ∧ Zdx f_z o_z = Zdx f_z r_z) → Zwa f_z r_z r_z := by
          intro c_z
          have key : ∀ k_z, o_z < k_z → Zwa f_z r_z k_z := by
            intro k_z
            induction k_z with
            | zero => intro h_z; exact absurd h_z (Nat.not_lt_zero _)
            | succ k_z ih2 =>
              intro h_z
              by_cases e_z : o_z = k_z
              · subst e_z; exact Or.inr c_z
              · exact Or.inl (ih2 (by omega))
          exact key r_z (by omega)
        refine Zgo hX 8 rfl (by dsimp only [ZallP]; exact ⟨Zin_n (by omega) (by decide), Zin_n (by omega) (by decide)⟩) ?_
        rw [Zcl_n (show o_z < 2 ^ 31 by omega), Zcl_n (show r_z < 2 ^ 31 by omega), ex.1, er.1]
        refine Zs_ine hX (List.cons_ne_nil _ _) (fun h2_z => ?_) (fun h2_z => ?_)
        · exact NEXT (fun q_z => h2_z q_z.1)
        · refine Zgo hX 8 rfl (by dsimp only [ZallP]; exact ⟨Zin_n (by omega) (by decide), Zin_n (by omega) (by decide)⟩) ?_
          rw [Zcl_n (show o_z < 2 ^ 31 by omega), Zcl_n (show r_z < 2 ^ 31 by omega), ex.2, er.2]
          refine Zs_ine hX (List.cons_ne_nil _ _) (fun h3_z => ?_) (fun h3_z => ?_)
          · exact NEXT (fun q_z => h3_z q_z.2)
          · refine Zgo hX 1 rfl (by (first | exact True.intro | assumption | (dsimp only [ZallP]; and_intros <;> (first | assumption | decide | omega | ((try simp (disch := omega) only [pk_mul, nI_add, Zcl_n]); exact Zin_n (by omega) (by decide)))))) ?_
            refine Zs_retz hX hE rfl (by first | exact Or.inl rfl | exact Or.inr rfl) ⟨Or.inl ⟨rfl, YES ⟨h2_z, h3_z⟩⟩, rfl⟩
  refine Zgo hX 2 rfl (by (first | exact True.intro | assumption | (dsimp only [ZallP]; and_intros <;> (first | assumption | decide | omega | ((try simp (disch := omega) only [pk_mul, nI_add, Zcl_n]); exact Zin_n (by omega) (by decide)))))) ?_
  refine Zs_sub (l' := [(2, .int (nI 0)), (0, .ref 35), (1, .int (nI r_z))]) rfl ?_
  exact L r_z 0 (by omega) (fun q_z => q_z)

set_option maxRecDepth 20000 in
set_option maxHeartbeats 1000000 in
theorem k_crossings (f_z : Nat → Int32) (n_z : Nat) (M : Zmem) (hn2 : n_z ≤ 15) (hrows : M 35 2 = nI n_z) (hco : ∀ i_z, i_z ≤ n_z → M 36 i_z = Zax f_z i_z ∧ M 37 i_z = Zdx f_z i_z) : ZC 141 1 [.ref 35] M (fun r_z M' => r_z = some (.int (nI (Zcc f_z n_z))) ∧ M = M') := by
  refine ZC_of Zt141 Zk141 (Nat.le_of_ble_eq_true rfl) (by decide) rfl (fun X hX hE => ?_)
  have L : ∀ (q_z r_z : Nat), r_z + q_z = n_z → ZP X Zt141 (Zsf Zt141 4) [(1, .int (nI (Zcc f_z r_z))), (2, .int (nI (r_z + 1))), (0, .ref 35)] [] M := by
    intro q_z
    induction q_z with
    | zero =>
      intro r_z hr_z
      obtain rfl : r_z = n_z := by omega
      refine Zgo hX 3 rfl (by (first | exact True.intro | assumption | (dsimp only [ZallP]; and_intros <;> (first | assumption | decide | omega | ((try simp (disch := omega) only [pk_mul, nI_add, Zcl_n]); exact Zin_n (by omega) (by decide)))))) ?_
      rw [hrows]
      refine Zs_igt hX (List.cons_ne_nil _ _) (fun h_z => ?_) (fun h_z => ?_)
      · refine Zgo hX 1 rfl (by (first | exact True.intro | assumption | (dsimp only [ZallP]; and_intros <;> (first | assumption | decide | omega | ((try simp (disch := omega) only [pk_mul, nI_add, Zcl_n]); exact Zin_n (by omega) (by decide)))))) ?_
        refine Zs_ret hX hE rfl ⟨rfl, rfl⟩
      · exact absurd ((Zn_lt (by omega) (by omega)).mpr (Nat.lt_succ_self r_z)) h_z
    | succ q_z ih_z =>
      intro r_z hr_z
      refine Zgo hX 3 rfl (by (first | exact True.intro | assumption | (dsimp only [ZallP]; and_intros <;> (first | assumption | decide | omega | ((try simp (disch := omega) only [pk_mul, nI_add, Zcl_n]); exact Zin_n (by omega) (by decide)))))) ?_
      rw [hrows]
      refine Zs_igt hX (List.cons_ne_nil _ _) (fun h_z => ?_) (fun h_z => ?_)
      · exact absurd ((Zn_lt (by omega) (by omega)).mp h_z) (by omega)
      · refine Zgo hX 2 rfl (by (first | exact True.intro | assumption | (dsimp only [ZallP]; and_intros <;> (first | assumption | decide | omega | ((try simp (disch := omega) only [pk_mul, nI_add, Zcl_n]); exact Zin_n (by omega) (by decide)))))) ?_
        refine Zs_callv hX (List.cons_ne_nil _ _) (k_wasAhead f_z (r_z + 1) _ (by omega) (fun i_z hi_z => hco i_z (by omega))) (by first | decide | omega) (by decide) rfl rfl rfl (by decide) (Nat.le_of_ble_eq_true rfl) (fun r_z M' hc_z => ?_)
        rcases hc_z with ⟨⟨rfl, h2_z⟩ | ⟨rfl, h2_z⟩, rfl⟩
        · refine Zs_eq hX (List.cons_ne_nil _ _) (fun q_z => False.elim (by revert q_z; decide)) (fun _ => ?_)
          refine Zgo hX 3 rfl (by (first | exact True.intro | assumption | (dsimp only [ZallP]; and_intros <;> (first | assumption | decide | omega | ((try simp (disch := omega) only [pk_mul, nI_add, Zcl_n]); exact Zin_n (by omega) (by decide)))))) ?_
          rw [nI_add, nI_add, ← Zcc_y h2_z]
          refine Zs_sub (l' := [(1, .int (nI (Zcc f_z (r_z + 1)))), (2, .int (nI (r_z + 1 + 1))), (0, .ref 35)]) rfl ?_
          exact ih_z (r_z + 1) (by omega)
        · refine Zs_eq hX (List.cons_ne_nil _ _) (fun _ => ?_) (fun q_z => False.elim (by revert q_z; decide))
          refine Zgo hX 2 rfl (by (first | exact True.intro | assumption | (dsimp only [ZallP]; and_intros <;> (first | assumption | decide | omega | ((try simp (disch := omega) only [pk_mul, nI_add, Zcl_n]); exact Zin_n (by omega) (by decide)))))) ?_
          rw [nI_add, ← Zcc_n h2_z]
          refine Zs_sub (l' := [(1, .int (nI (Zcc f_z (r_z + 1)))), (2, .int (nI (r_z + 1 + 1))), (0, .ref 35)]) rfl ?_
          exact ih_z (r_z + 1) (by omega)
  refine Zgo hX 4 rfl (by (first | exact True.intro | assumption | (dsimp only [ZallP]; and_intros <;> (first | assumption | decide | omega | ((try simp (disch := omega) only [pk_mul, nI_add, Zcl_n]); exact Zin_n (by omega) (by decide)))))) ?_
  refine Zs_sub (l' := [(1, .int (nI (Zcc f_z 0))), (2, .int (nI (0 + 1))), (0, .ref 35)]) rfl ?_
  exact L n_z 0 (by omega)

set_option maxRecDepth 20000 in
set_option maxHeartbeats 1000000 in
theorem k_crosses (f_z : Nat → Int32) (n_z : Nat) (M : Zmem) (hz_z : Zrv 1 f_z M) (hfi : Zfi f_z) (hn_z : f_z 7 = nI n_z) (hn2 : n_z ≤ 15) : ZC 19 3 [.ref 0] M (fun r_z M' => r_z = some (.int (nI (Zcc f_z n_z))) ∧ Sc M M') := by
  refine ZC_of Zt19 Zk19 (Nat.le_of_ble_eq_true rfl) (by decide) rfl (fun X hX hE => ?_)
  refine Zgo hX 4 rfl (by (first | exact True.intro | assumption | (dsimp only [ZallP]; and_intros <;> (first | assumption | decide | omega | ((try simp (disch := omega) only [pk_mul, nI_add, Zcl_n]); exact Zin_n (by omega) (by decide)))))) ?_
  refine Zs_callv hX (List.cons_ne_nil _ _) (k_follow f_z n_z M hz_z hfi hn_z hn2) (by first | decide | omega) (by decide) rfl rfl rfl (by decide) (Nat.le_of_ble_eq_true rfl) (fun r_z M' hc_z => ?_)
  obtain ⟨rfl, hsc, hrows, -, hco⟩ := hc_z
  refine Zgo hX 2 rfl (by (first | exact True.intro | assumption | (dsimp only [ZallP]; and_intros <;> (first | assumption | decide | omega | ((try simp (disch := omega) only [pk_mul, nI_add, Zcl_n]); exact Zin_n (by omega) (by decide)))))) ?_
  refine Zs_callv hX (List.cons_ne_nil _ _) (k_crossings f_z n_z _ hn2 hrows hco) (by first | decide | omega) (by decide) rfl rfl rfl (by decide) (Nat.le_of_ble_eq_true rfl) (fun r_z M' hc_z => ?_)
  obtain ⟨rfl, rfl⟩ := hc_z
  refine Zs_ret hX hE rfl ⟨rfl, hsc⟩

set_option maxRecDepth 20000 in
set_option maxHeartbeats 1000000 in
theorem s_crosses (n_z : Nat) (M : Zmem) (hfi : Zfi (M 54)) (hn_z : M 54 7 = nI n_z) (hn2 : n_z ≤ 15) : ZC 105 3 [.ref 53] M (fun r_z M' => r_z = some (.int (nI (Zcc (M 54) n_z))) ∧ Sc M M') := by
  refine ZC_of Zt105 Zk105 (Nat.le_of_ble_eq_true rfl) (by decide) rfl (fun X hX hE => ?_)
  refine Zgo hX 1 rfl (by (first | exact True.intro | assumption | (dsimp only [ZallP]; and_intros <;> (first | assumption | decide | omega | ((try simp (disch := omega) only [pk_mul, nI_add, Zcl_n]); exact Zin_n (by omega) (by decide)))))) ?_
  refine Zs_callv hX (List.cons_ne_nil _ _) (s_findCourse n_z M hfi hn_z hn2) (by first | decide | omega) (by decide) rfl rfl rfl (by decide) (Nat.le_of_ble_eq_true rfl) (fun r_z M' hc_z => ?_)
  obtain ⟨rfl, hsc, -, hco⟩ := hc_z
  have e7 : M' 54 7 = nI n_z := by rw [hsc.f54]; exact hn_z
  have L : ∀ (q_z r_z : Nat), r_z + q_z = n_z → ZP X Zt105 (Zsf Zt105 8) [(1, .int (nI (Zcc (M 54) r_z))), (2, .int (nI (r_z + 1))), (0, .ref 53)] [] M' := by
    intro q_z
    induction q_z with
    | zero =>
      intro r_z hr_z
      obtain rfl : r_z = n_z := by omega
      refine Zgo hX 5 rfl (Zin_n (by decide) (by decide)) ?_
      try simp (disch := omega) only [Zcl_n, pk_mul, nI_add]
      rw [e7]
      refine Zs_igt hX (List.cons_ne_nil _ _) (fun h_z => ?_) (fun h_z => ?_)
      · refine Zgo hX 1 rfl (by (first | exact True.intro | assumption | (dsimp only [ZallP]; and_intros <;> (first | assumption | decide | omega | ((try simp (disch := omega) only [pk_mul, nI_add, Zcl_n]); exact Zin_n (by omega) (by decide)))))) ?_
        refine Zs_ret hX hE rfl ⟨rfl, hsc⟩
      · exact absurd ((Zn_lt (by omega) (by omega)).mpr (Nat.lt_succ_self r_z)) h_z
    | succ q_z ih_z =>
      intro r_z hr_z
      refine Zgo hX 5 rfl (Zin_n (by decide) (by decide)) ?_
      try simp (disch := omega) only [Zcl_n, pk_mul, nI_add]
      rw [e7]
      refine Zs_igt hX (List.cons_ne_nil _ _) (fun h_z => ?_) (fun h_z => ?_)
      · exact absurd ((Zn_lt (by omega) (by omega)).mp h_z) (by omega)
      · have er := hco (r_z + 1) (by omega)
        have I : ∀ (p_z o_z : Nat) (w_z : Int32), o_z + p_z = r_z + 1 → ((w_z = nI 1 ∧ Zwa (M 54) (r_z + 1) o_z) ∨ (w_z = nI 0 ∧ ¬ Zwa (M 54) (r_z + 1) o_z)) → ZP X Zt105 (Zsf Zt105 24) [(4, .int (nI o_z)), (3, .int w_z), (1, .int (nI (Zcc (M 54) r_z))), (2, .int (nI (r_z + 1))), (0, .ref 53)] [] M' := by
          intro p_z
          induction p_z with
          | zero =>
            intro o_z w_z ho hw_z
            obtain rfl : o_z = r_z + 1 := by omega
            refine Zgo hX 2 rfl (by (first | exact True.intro | assumption | (dsimp only [ZallP]; and_intros <;> (first | assumption | decide | omega | ((try simp (disch := omega) only [pk_mul, nI_add, Zcl_n]); exact Zin_n (by omega) (by decide)))))) ?_
            refine Zs_ige hX (List.cons_ne_nil _ _) (fun h3_z => ?_) (fun h3_z => ?_)
            · rcases hw_z with ⟨rfl, hw_z⟩ | ⟨rfl, hw_z⟩
              · refine Zgo hX 2 rfl (by (first | exact True.intro | assumption | (dsimp only [ZallP]; and_intros <;> (first | assumption | decide | omega | ((try simp (disch := omega) only [pk_mul, nI_add, Zcl_n]); exact Zin_n (by omega) (by decide)))))) ?_
                refine Zs_eq hX (List.cons_ne_nil _ _) (fun q_z => False.elim (by revert q_z; decide)) (fun _ => ?_)
                refine Zgo hX 6 rfl (by (first | exact True.intro | assumption | (dsimp only [ZallP]; and_intros <;> (first | assumption | decide | omega | ((try simp (disch := omega) only [pk_mul, nI_add, Zcl_n]); exact Zin_n (by omega) (by decide)))))) ?_
                rw [nI_add, nI_add, ← Zcc_y hw_z]
                refine Zs_sub (l' := [(1, .int (nI (Zcc (M 54) (r_z + 1)))), (2, .int (nI (r_z + 1 + 1))), (0, .ref 53)]) rfl ?_
                exact ih_z (r_z + 1) (by omega)
              · refine Zgo hX 2 rfl (by (first | exact True.intro | assumption | (dsimp only [ZallP]; and_intros <;> (first | assumption | decide | omega | ((try simp (disch := omega) only [pk_mul, nI_add, Zcl_n]); exact Zin_n (by omega) (by decide)))))) ?_
                refine Zs_eq hX (List.cons_ne_nil _ _) (fun _ => ?_) (fun q_z => False.elim (by revert q_z; decide))
                refine Zgo hX 5 rfl (by (first | exact True.intro | assumption | (dsimp only [ZallP]; and_intros <;> (first | assumption | decide | omega | ((try simp (disch := omega) only [pk_mul, nI_add, Zcl_n]); exact Zin_n (by omega) (by decide)))))) ?_
                rw [nI_add, nI_add, show Zcc (M 54) r_z + 0 = Zcc (M 54) r_z from rfl, ← Zcc_n hw_z]
                refine Zs_sub (l' := [(1, .int (nI (Zcc (M 54) (r_z + 1)))), (2, .int (nI (r_z + 1 + 1))), (0, .ref 53)]) rfl ?_
                exact ih_z (r_z + 1) (by omega)
            · exact absurd (Int32.le_refl _) h3_z
          | succ p_z ihp =>
            intro o_z w_z ho hw_z
            have ex := hco o_z (by omega)
            refine Zgo hX 2 rfl (by (first | exact True.intro | assumption | (dsimp only [ZallP]; and_intros <;> (first | assumption | decide | omega | ((try simp (disch := omega) only [pk_mul, nI_add, Zcl_n]); exact Zin_n (by omega) (by decide)))))) ?_
            refine Zs_ige hX (List.cons_ne_nil _ _) (fun h3_z => ?_) (fun h3_z => ?_)
            · exact absurd ((Zn_le (by omega) (by omega)).mp h3_z) (by omega)
            · have NEXT : ∀ v_z : Int32, ((v_z = nI 1 ∧ Zwa (M 54) (r_z + 1) (o_z + 1)) ∨ (v_z = nI 0 ∧ ¬ Zwa (M 54) (r_z + 1) (o_z + 1))) → ZP X Zt105 (Zsf Zt105 71) [(4, .int (nI o_z)), (3, .int w_z), (1, .int (nI (Zcc (M 54) r_z))), (2, .int (nI (r_z + 1))), (0, .ref 53)] [.int v_z] M' := by
                intro v_z hv_z
                refine Zgo hX 3 rfl (by (first | exact True.intro | assumption | (dsimp only [ZallP]; and_intros <;> (first | assumption | decide | omega | ((try simp (disch := omega) only [pk_mul, nI_add, Zcl_n]); exact Zin_n (by omega) (by decide)))))) ?_
                rw [nI_add]
                refine Zs_sub (l' := [(4, .int (nI (o_z + 1))), (3, .int v_z), (1, .int (nI (Zcc (M 54) r_z))), (2, .int (nI (r_z + 1))), (0, .ref 53)]) rfl ?_
                exact ihp (o_z + 1) v_z (by omega) hv_z
              rcases hw_z with ⟨rfl, hw_z⟩ | ⟨rfl, hw_z⟩
              · refine Zgo hX 1 rfl (by (first | exact True.intro | assumption | (dsimp only [ZallP]; and_intros <;> (first | assumption | decide | omega | ((try simp (disch := omega) only [pk_mul, nI_add, Zcl_n]); exact Zin_n (by omega) (by decide)))))) ?_
                refine Zs_ne hX (List.cons_ne_nil _ _) (fun _ => ?_) (fun q_z => False.elim (by revert q_z; decide))
                refine Zgo hX 2 rfl (by (first | exact True.intro | assumption | (dsimp only [ZallP]; and_intros <;> (first | assumption | decide | omega | ((try simp (disch := omega) only [pk_mul, nI_add, Zcl_n]); exact Zin_n (by omega) (by decide)))))) ?_
                exact NEXT _ (Or.inl ⟨rfl, Or.inl hw_z⟩)
              · refine Zgo hX 1 rfl (by (first | exact True.intro | assumption | (dsimp only [ZallP]; and_intros <;> (first | assumption | decide | omega | ((try simp (disch := omega) only [pk_mul, nI_add, Zcl_n]); exact Zin_n (by omega) (by decide)))))) ?_
                refine Zs_ne hX (List.cons_ne_nil _ _) (fun q_z => False.elim (by revert q_z; decide)) (fun _ => ?_)
                refine Zgo hX 8 rfl (by dsimp only [ZallP]; exact ⟨Zin_n (by omega) (by decide), Zin_n (by omega) (by decide)⟩) ?_
                rw [Zcl_n (show o_z < 2 ^ 31 by omega), Zcl_n (show r_z + 1 < 2 ^ 31 by omega), ex.1, er.1]
                refine Zs_ine hX (List.cons_ne_nil _ _) (fun h4_z => ?_) (fun h4_z => ?_)
                · refine Zgo hX 1 rfl (by (first | exact True.intro | assumption | (dsimp only [ZallP]; and_intros <;> (first | assumption | decide | omega | ((try simp (disch := omega) only [pk_mul, nI_add, Zcl_n]); exact Zin_n (by omega) (by decide)))))) ?_
                  exact NEXT _ (Or.inr ⟨rfl, fun q_z => q_z.elim hw_z (fun q_z => h4_z q_z.1)⟩)
                · refine Zgo hX 8 rfl (by dsimp only [ZallP]; exact ⟨Zin_n (by omega) (by decide), Zin_n (by omega) (by decide)⟩) ?_
                  rw [Zcl_n (show o_z < 2 ^ 31 by omega), Zcl_n (show r_z + 1 < 2 ^ 31 by omega), ex.2, er.2]
                  refine Zs_ine hX (List.cons_ne_nil _ _) (fun h5_z => ?_) (fun h5_z => ?_)
                  · refine Zgo hX 1 rfl (by (first | exact True.intro | assumption | (dsimp only [ZallP]; and_intros <;> (first | assumption | decide | omega | ((try simp (disch := omega) only [pk_mul, nI_add, Zcl_n]); exact Zin_n (by omega) (by decide)))))) ?_
                    exact NEXT _ (Or.inr ⟨rfl, fun q_z => q_z.elim hw_z (fun q_z => h5_z q_z.2)⟩)
                  · refine Zgo hX 2 rfl (by (first | exact True.intro | assumption | (dsimp only [ZallP]; and_intros <;> (first | assumption | decide | omega | ((try simp (disch := omega) only [pk_mul, nI_add, Zcl_n]); exact Zin_n (by omega) (by decide)))))) ?_
                    exact NEXT _ (Or.inl ⟨rfl, Or.inr ⟨h4_z, h5_z⟩⟩)
        refine Zgo hX 4 rfl (by (first | exact True.intro | assumption | (dsimp only [ZallP]; and_intros <;> (first | assumption | decide | omega | ((try simp (disch := omega) only [pk_mul, nI_add, Zcl_n]); exact Zin_n (by omega) (by decide)))))) ?_
        refine Zs_sub (l' := [(4, .int (nI 0)), (3, .int (nI 0)), (1, .int (nI (Zcc (M 54) r_z))), (2, .int (nI (r_z + 1))), (0, .ref 53)]) rfl ?_
        exact I (r_z + 1) 0 (nI 0) (by omega) (Or.inr ⟨rfl, fun q_z => q_z⟩)
  refine Zgo hX 4 rfl (by (first | exact True.intro | assumption | (dsimp only [ZallP]; and_intros <;> (first | assumption | decide | omega | ((try simp (disch := omega) only [pk_mul, nI_add, Zcl_n]); exact Zin_n (by omega) (by decide)))))) ?_
  refine Zs_sub (l' := [(1, .int (nI (Zcc (M 54) 0))), (2, .int (nI (0 + 1))), (0, .ref 53)]) rfl ?_
  exact L n_z 0 (by omega)
