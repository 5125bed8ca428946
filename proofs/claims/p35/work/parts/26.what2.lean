set_option maxRecDepth 20000 in
set_option maxHeartbeats 1000000 in
theorem k_rowIs (f_z : Nat → Int32) (n_z : Nat) (row_z what : Int32) (M : Zmem) (hz_z : Zrv 1 f_z M) (hfi : Zfi f_z) (hn_z : f_z 7 = nI n_z) (hn2 : n_z ≤ 15) : ZC 2 5 [.ref 0, .int row_z, .int what] M (fun r_z M' => r_z = some (.int (Frow f_z n_z row_z what)) ∧ Sc M M') := by
  refine ZC_of Zt2 Zk2 (Nat.le_of_ble_eq_true rfl) (by decide) rfl (fun X hX hE => ?_)
  refine Zgo hX 2 rfl (by (first | exact True.intro | assumption | (dsimp only [ZallP]; and_intros <;> (first | assumption | decide | omega | ((try simp (disch := omega) only [pk_mul, nI_add, Zcl_n]); exact Zin_n (by omega) (by decide)))))) ?_
  refine Zs_callv hX (List.cons_ne_nil _ _) (k_isRow row_z n_z M (hz_z.n hn_z) hn2) (by first | decide | omega) (by decide) rfl rfl rfl (by decide) (Nat.le_of_ble_eq_true rfl) (fun r_z M' hc_z => ?_)
  rcases hc_z with ⟨⟨rfl, h1_z⟩ | ⟨rfl, h1_z⟩, rfl⟩
  · refine Zs_ne hX (List.cons_ne_nil _ _) (fun _ => ?_) (fun q_z => False.elim (by revert q_z; decide))
    refine Zgo hX 1 rfl (by (first | exact True.intro | assumption | (dsimp only [ZallP]; and_intros <;> (first | assumption | decide | omega | ((try simp (disch := omega) only [pk_mul, nI_add, Zcl_n]); exact Zin_n (by omega) (by decide)))))) ?_
    by_cases h2_z : nI 0 ≤ what ∧ what ≤ nI 7
    · have hall := And.intro h1_z h2_z
      obtain ⟨i_z, hi_z, rfl, ei⟩ := Zvp h1_z (by omega)
      obtain ⟨w_z, hw_z, rfl⟩ := Zbt_ex (b_z := 7) (by decide) h2_z
      rcases (show w_z = 0 ∨ w_z = 1 ∨ w_z = 2 ∨ w_z = 3 ∨ w_z = 4 ∨ w_z = 5 ∨ w_z = 6 ∨ w_z = 7 by omega) with rfl | rfl | rfl | rfl | rfl | rfl | rfl | rfl
      · refine Zs_sw [(nI 0, 60), (nI 1, 70), (nI 2, 80), (nI 3, 90), (nI 4, 100), (nI 5, 110), (nI 6, 119), (nI 7, 129)] 151 hX (by decide +kernel) (by decide +kernel) (t := 60) ((by decide +kernel)) ?_
        refine Zgo hX 5 rfl (Zin_n (by omega) (by decide)) ?_
        rw [Zcl_n (show i_z < 2 ^ 31 by omega), (hz_z.row (by omega)).1]
        refine Zs_ret hX hE rfl ⟨by rw [Frow, if_pos hall, ei, show (nI 0).toNatClampNeg = 0 from Zcl_n (by decide), if_pos (by decide), show 9 + 5 * i_z + 0 = 9 + 5 * i_z by omega], Sc.rf _⟩
      · refine Zs_sw [(nI 0, 60), (nI 1, 70), (nI 2, 80), (nI 3, 90), (nI 4, 100), (nI 5, 110), (nI 6, 119), (nI 7, 129)] 151 hX (by decide +kernel) (by decide +kernel) (t := 70) ((by decide +kernel)) ?_
        refine Zgo hX 5 rfl (Zin_n (by omega) (by decide)) ?_
        rw [Zcl_n (show i_z < 2 ^ 31 by omega), (hz_z.row (by omega)).2.1]
        refine Zs_ret hX hE rfl ⟨by rw [Frow, if_pos hall, ei, show (nI 1).toNatClampNeg = 1 from Zcl_n (by decide), if_pos (by decide), show 9 + 5 * i_z + 1 = 10 + 5 * i_z by omega], Sc.rf _⟩
      · refine Zs_sw [(nI 0, 60), (nI 1, 70), (nI 2, 80), (nI 3, 90), (nI 4, 100), (nI 5, 110), (nI 6, 119), (nI 7, 129)] 151 hX (by decide +kernel) (by decide +kernel) (t := 80) ((by decide +kernel)) ?_
        refine Zgo hX 5 rfl (Zin_n (by omega) (by decide)) ?_
        rw [Zcl_n (show i_z < 2 ^ 31 by omega), (hz_z.row (by omega)).2.2.1]
        refine Zs_ret hX hE rfl ⟨by rw [Frow, if_pos hall, ei, show (nI 2).toNatClampNeg = 2 from Zcl_n (by decide), if_pos (by decide), show 9 + 5 * i_z + 2 = 11 + 5 * i_z by omega], Sc.rf _⟩
      · refine Zs_sw [(nI 0, 60), (nI 1, 70), (nI 2, 80), (nI 3, 90), (nI 4, 100), (nI 5, 110), (nI 6, 119), (nI 7, 129)] 151 hX (by decide +kernel) (by decide +kernel) (t := 90) ((by decide +kernel)) ?_
        refine Zgo hX 5 rfl (Zin_n (by omega) (by decide)) ?_
        rw [Zcl_n (show i_z < 2 ^ 31 by omega), (hz_z.row (by omega)).2.2.2.1]
        refine Zs_ret hX hE rfl ⟨by rw [Frow, if_pos hall, ei, show (nI 3).toNatClampNeg = 3 from Zcl_n (by decide), if_pos (by decide), show 9 + 5 * i_z + 3 = 12 + 5 * i_z by omega], Sc.rf _⟩
      · refine Zs_sw [(nI 0, 60), (nI 1, 70), (nI 2, 80), (nI 3, 90), (nI 4, 100), (nI 5, 110), (nI 6, 119), (nI 7, 129)] 151 hX (by decide +kernel) (by decide +kernel) (t := 100) ((by decide +kernel)) ?_
        refine Zgo hX 5 rfl (Zin_n (by omega) (by decide)) ?_
        rw [Zcl_n (show i_z < 2 ^ 31 by omega), (hz_z.row (by omega)).2.2.2.2]
        refine Zs_ret hX hE rfl ⟨by rw [Frow, if_pos hall, ei, show (nI 4).toNatClampNeg = 4 from Zcl_n (by decide), if_pos (by decide), show 9 + 5 * i_z + 4 = 13 + 5 * i_z by omega], Sc.rf _⟩
      · refine Zs_sw [(nI 0, 60), (nI 1, 70), (nI 2, 80), (nI 3, 90), (nI 4, 100), (nI 5, 110), (nI 6, 119), (nI 7, 129)] 151 hX (by decide +kernel) (by decide +kernel) (t := 110) ((by decide +kernel)) ?_
        refine Zgo hX 3 rfl (by (first | exact True.intro | assumption | (dsimp only [ZallP]; and_intros <;> (first | assumption | decide | omega | ((try simp (disch := omega) only [pk_mul, nI_add, Zcl_n]); exact Zin_n (by omega) (by decide)))))) ?_
        refine Zs_callv hX (List.cons_ne_nil _ _) (k_yarnR hz_z hfi hn_z hn2 hi_z) (by first | decide | omega) (by decide) rfl rfl rfl (by decide) (Nat.le_of_ble_eq_true rfl) (fun r_z M' hc_z => ?_)
        obtain ⟨rfl, hs2⟩ := hc_z
        refine Zs_ret hX hE rfl ⟨by rw [Frow, if_pos hall, ei, show (nI 5).toNatClampNeg = 5 from Zcl_n (by decide), if_neg (by decide), if_pos rfl], hs2.sc⟩
      · refine Zs_sw [(nI 0, 60), (nI 1, 70), (nI 2, 80), (nI 3, 90), (nI 4, 100), (nI 5, 110), (nI 6, 119), (nI 7, 129)] 151 hX (by decide +kernel) (by decide +kernel) (t := 119) ((by decide +kernel)) ?_
        refine Zgo hX 4 rfl (by (first | exact True.intro | assumption | (dsimp only [ZallP]; and_intros <;> (first | assumption | decide | omega | ((try simp (disch := omega) only [pk_mul, nI_add, Zcl_n]); exact Zin_n (by omega) (by decide)))))) ?_
        refine Zs_callv hX (List.cons_ne_nil _ _) (k_holdsR (nI 0) hz_z hfi hn_z hn2 hi_z) (by first | decide | omega) (by decide) rfl rfl rfl (by decide) (Nat.le_of_ble_eq_true rfl) (fun r_z M' hc_z => ?_)
        obtain ⟨rfl, hs2⟩ := hc_z
        refine Zs_ret hX hE rfl ⟨by rw [Frow, if_pos hall, ei, show (nI 6).toNatClampNeg = 6 from Zcl_n (by decide), if_neg (by decide), if_neg (by decide), if_pos rfl], hs2.sc⟩
      · refine Zs_sw [(nI 0, 60), (nI 1, 70), (nI 2, 80), (nI 3, 90), (nI 4, 100), (nI 5, 110), (nI 6, 119), (nI 7, 129)] 151 hX (by decide +kernel) (by decide +kernel) (t := 129) ((by decide +kernel)) ?_
        obtain ⟨⟨kd_z, hkd, e1_z⟩, ⟨m_z, hm_z, e2_z⟩, -, -, -⟩ := hfi.rw hn_z hn2 hi_z
        refine Zgo hX 10 rfl (by dsimp only [ZallP]; exact ⟨Zin_n (by omega) (by decide), Zin_n (by omega) (by decide)⟩) ?_
        rw [Zcl_n (show i_z < 2 ^ 31 by omega), (hz_z.row (by omega)).1, (hz_z.row (by omega)).2.1, e1_z, e2_z]
        refine Zs_calls hX (List.cons_ne_nil _ _) (by decide) (k_bends kd_z m_z _ hkd hm_z) (by first | decide | omega) rfl rfl (by decide) (Nat.le_of_ble_eq_true rfl) (fun r_z M' hc_z => ?_)
        obtain ⟨rfl, rfl⟩ := hc_z
        refine Zs_ret hX hE rfl ⟨by rw [Frow, if_pos hall, ei, show (nI 7).toNatClampNeg = 7 from Zcl_n (by decide), if_neg (by decide), if_neg (by decide), if_neg (by decide), e1_z, e2_z, Zcl_n (show kd_z < 2 ^ 31 by omega), Zcl_n (show m_z < 2 ^ 31 by omega)], Sc.rf _⟩
    · have hne : ∀ w_z, w_z ≤ 7 → ¬ what = nI w_z := fun w_z hw_z q_z => h2_z (by rw [q_z]; exact Zbt_of (by decide) hw_z)
      refine Zs_sw [(nI 0, 60), (nI 1, 70), (nI 2, 80), (nI 3, 90), (nI 4, 100), (nI 5, 110), (nI 6, 119), (nI 7, 129)] 151 hX (by decide +kernel) (by decide +kernel) (t := 151) (((if_neg (hne 0 (by decide))).trans ((if_neg (hne 1 (by decide))).trans ((if_neg (hne 2 (by decide))).trans ((if_neg (hne 3 (by decide))).trans ((if_neg (hne 4 (by decide))).trans ((if_neg (hne 5 (by decide))).trans ((if_neg (hne 6 (by decide))).trans (if_neg (hne 7 (by decide))))))))))) ?_
      refine Zgo hX 2 rfl (by (first | exact True.intro | assumption | (dsimp only [ZallP]; and_intros <;> (first | assumption | decide | omega | ((try simp (disch := omega) only [pk_mul, nI_add, Zcl_n]); exact Zin_n (by omega) (by decide)))))) ?_
      refine Zs_callv hX (List.cons_ne_nil _ _) (k_refuse 1 _ (by decide)) (by first | decide | omega) (by decide) rfl rfl rfl (by decide) (Nat.le_of_ble_eq_true rfl) (fun r_z M' hc_z => ?_)
      obtain ⟨rfl, hsc⟩ := hc_z
      refine Zs_ret hX hE rfl ⟨by rw [Frow, if_neg (fun q_z => h2_z q_z.2)], hsc⟩
  · refine Zs_ne hX (List.cons_ne_nil _ _) (fun q_z => False.elim (by revert q_z; decide)) (fun _ => ?_)
    refine Zgo hX 2 rfl (by (first | exact True.intro | assumption | (dsimp only [ZallP]; and_intros <;> (first | assumption | decide | omega | ((try simp (disch := omega) only [pk_mul, nI_add, Zcl_n]); exact Zin_n (by omega) (by decide)))))) ?_
    refine Zs_callv hX (List.cons_ne_nil _ _) (k_refuse 1 _ (by decide)) (by first | decide | omega) (by decide) rfl rfl rfl (by decide) (Nat.le_of_ble_eq_true rfl) (fun r_z M' hc_z => ?_)
    obtain ⟨rfl, hsc⟩ := hc_z
    refine Zs_ret hX hE rfl ⟨by rw [Frow, if_neg (fun q_z => h1_z q_z.1)], hsc⟩

set_option maxRecDepth 20000 in
set_option maxHeartbeats 1000000 in
theorem s_rowIs (n_z : Nat) (row_z what : Int32) (M : Zmem) (hfi : Zfi (M 54)) (hn_z : M 54 7 = nI n_z) (hn2 : n_z ≤ 15) : ZC 90 5 [.ref 53, .int row_z, .int what] M (fun r_z M' => r_z = some (.int (Frow (M 54) n_z row_z what)) ∧ Sc M M') := by
  refine ZC_of Zt90 Zk90 (Nat.le_of_ble_eq_true rfl) (by decide) rfl (fun X hX hE => ?_)
  refine Zgo hX 2 rfl (by (first | exact True.intro | assumption | (dsimp only [ZallP]; and_intros <;> (first | assumption | decide | omega | ((try simp (disch := omega) only [pk_mul, nI_add, Zcl_n]); exact Zin_n (by omega) (by decide)))))) ?_
  refine Zs_callv hX (List.cons_ne_nil _ _) (s_isRow row_z n_z M hn_z hn2) (by first | decide | omega) (by decide) rfl rfl rfl (by decide) (Nat.le_of_ble_eq_true rfl) (fun r_z M' hc_z => ?_)
  rcases hc_z with ⟨⟨rfl, h1_z⟩ | ⟨rfl, h1_z⟩, rfl⟩
  · refine Zs_eq hX (List.cons_ne_nil _ _) (fun q_z => False.elim (by revert q_z; decide)) (fun _ => ?_)
    refine Zgo hX 3 rfl (by (first | exact True.intro | assumption | (dsimp only [ZallP]; and_intros <;> (first | assumption | decide | omega | ((try simp (disch := omega) only [pk_mul, nI_add, Zcl_n]); exact Zin_n (by omega) (by decide)))))) ?_
    refine Zs_calls hX (List.cons_ne_nil _ _) (by decide) (s_in _ _ _ _) (by first | decide | omega) rfl rfl (by decide) (Nat.le_of_ble_eq_true rfl) (fun r_z M' hc_z => ?_)
    rcases hc_z with ⟨⟨rfl, h2_z⟩ | ⟨rfl, h2_z⟩, rfl⟩
    · refine Zs_ne hX (List.cons_ne_nil _ _) (fun _ => ?_) (fun q_z => False.elim (by revert q_z; decide))
      have hall := And.intro h1_z h2_z
      obtain ⟨i_z, hi_z, rfl, ei⟩ := Zvp h1_z (by omega)
      obtain ⟨w_z, hw_z, rfl⟩ := Zbt_ex (b_z := 7) (by decide) h2_z
      refine Zgo hX 2 rfl (by (first | exact True.intro | assumption | (dsimp only [ZallP]; and_intros <;> (first | assumption | decide | omega | ((try simp (disch := omega) only [pk_mul, nI_add, Zcl_n]); exact Zin_n (by omega) (by decide)))))) ?_
      refine Zs_ige hX (List.cons_ne_nil _ _) (fun h3_z => ?_) (fun h3_z => ?_)
      · have h5_z : 5 ≤ w_z := (Zn_le (by decide) (by omega)).mp h3_z
        refine Zgo hX 2 rfl (by (first | exact True.intro | assumption | (dsimp only [ZallP]; and_intros <;> (first | assumption | decide | omega | ((try simp (disch := omega) only [pk_mul, nI_add, Zcl_n]); exact Zin_n (by omega) (by decide)))))) ?_
        refine Zs_ine hX (List.cons_ne_nil _ _) (fun h4_z => ?_) (fun h4_z => ?_)
        · have n5 : w_z ≠ 5 := Zne (by omega) (by decide) h4_z
          refine Zgo hX 2 rfl (by (first | exact True.intro | assumption | (dsimp only [ZallP]; and_intros <;> (first | assumption | decide | omega | ((try simp (disch := omega) only [pk_mul, nI_add, Zcl_n]); exact Zin_n (by omega) (by decide)))))) ?_
          refine Zs_ine hX (List.cons_ne_nil _ _) (fun h6_z => ?_) (fun h6_z => ?_)
          · have n6 : w_z ≠ 6 := Zne (by omega) (by decide) h6_z
            obtain ⟨⟨kd_z, hkd, e1_z⟩, ⟨m_z, hm_z, e2_z⟩, -, -, -⟩ := hfi.rw hn_z hn2 hi_z
            refine Zgo hX 3 rfl (by (first | exact True.intro | assumption | (dsimp only [ZallP]; and_intros <;> (first | assumption | decide | omega | ((try simp (disch := omega) only [pk_mul, nI_add, Zcl_n]); exact Zin_n (by omega) (by decide)))))) ?_
            refine Zs_callv hX (List.cons_ne_nil _ _) (s_its i_z 0 _ (by omega) (by decide)) (by first | decide | omega) (by decide) rfl rfl rfl (by decide) (Nat.le_of_ble_eq_true rfl) (fun r_z M' hc_z => ?_)
            obtain ⟨rfl, rfl⟩ := hc_z
            refine Zgo hX 3 rfl (by (first | exact True.intro | assumption | (dsimp only [ZallP]; and_intros <;> (first | assumption | decide | omega | ((try simp (disch := omega) only [pk_mul, nI_add, Zcl_n]); exact Zin_n (by omega) (by decide)))))) ?_
            refine Zs_callv hX (List.cons_ne_nil _ _) (s_its i_z 1 _ (by omega) (by decide)) (by first | decide | omega) (by decide) rfl rfl rfl (by decide) (Nat.le_of_ble_eq_true rfl) (fun r_z M' hc_z => ?_)
            obtain ⟨rfl, rfl⟩ := hc_z
            rw [show M 54 (9 + 5 * i_z + 0) = nI kd_z from e1_z, show 9 + 5 * i_z + 1 = 10 + 5 * i_z by omega, e2_z]
            refine Zs_calls hX (List.cons_ne_nil _ _) (by decide) (s_bendsAs kd_z m_z _ hkd hm_z) (by first | decide | omega) rfl rfl (by decide) (Nat.le_of_ble_eq_true rfl) (fun r_z M' hc_z => ?_)
            obtain ⟨rfl, rfl⟩ := hc_z
            refine Zs_ret hX hE rfl ⟨by rw [Frow, if_pos hall, ei, Zcl_n (show w_z < 2 ^ 31 by omega), if_neg (by omega), if_neg n5, if_neg n6, e1_z, e2_z, Zcl_n (show kd_z < 2 ^ 31 by omega), Zcl_n (show m_z < 2 ^ 31 by omega)], Sc.rf _⟩
          · have n6 : w_z = 6 := Zeq (by omega) (by decide) h6_z
            refine Zgo hX 3 rfl (by (first | exact True.intro | assumption | (dsimp only [ZallP]; and_intros <;> (first | assumption | decide | omega | ((try simp (disch := omega) only [pk_mul, nI_add, Zcl_n]); exact Zin_n (by omega) (by decide)))))) ?_
            refine Zs_callv hX (List.cons_ne_nil _ _) (s_holdsBy i_z (nI 0) _ (by omega) hfi.2.2.2.2) (by first | decide | omega) (by decide) rfl rfl rfl (by decide) (Nat.le_of_ble_eq_true rfl) (fun r_z M' hc_z => ?_)
            obtain ⟨rfl, hs2⟩ := hc_z
            refine Zgo hX 1 rfl (by (first | exact True.intro | assumption | (dsimp only [ZallP]; and_intros <;> (first | assumption | decide | omega | ((try simp (disch := omega) only [pk_mul, nI_add, Zcl_n]); exact Zin_n (by omega) (by decide)))))) ?_
            refine Zs_ret hX hE rfl ⟨by rw [Frow, if_pos hall, ei, Zcl_n (show w_z < 2 ^ 31 by omega), if_neg (by omega), if_neg n5, if_pos n6], hs2.sc⟩
        · have n5 : w_z = 5 := Zeq (by omega) (by decide) h4_z
          refine Zgo hX 2 rfl (by (first | exact True.intro | assumption | (dsimp only [ZallP]; and_intros <;> (first | assumption | decide | omega | ((try simp (disch := omega) only [pk_mul, nI_add, Zcl_n]); exact Zin_n (by omega) (by decide)))))) ?_
          refine Zs_callv hX (List.cons_ne_nil _ _) (s_yarnOf i_z _ (by omega) (hfi.rw hn_z hn2 hi_z) hfi.2.2.2.1) (by first | decide | omega) (by decide) rfl rfl rfl (by decide) (Nat.le_of_ble_eq_true rfl) (fun r_z M' hc_z => ?_)
          obtain ⟨rfl, hs2⟩ := hc_z
          refine Zgo hX 1 rfl (by (first | exact True.intro | assumption | (dsimp only [ZallP]; and_intros <;> (first | assumption | decide | omega | ((try simp (disch := omega) only [pk_mul, nI_add, Zcl_n]); exact Zin_n (by omega) (by decide)))))) ?_
          refine Zs_ret hX hE rfl ⟨by rw [Frow, if_pos hall, ei, Zcl_n (show w_z < 2 ^ 31 by omega), if_neg (by omega), if_pos n5], hs2.sc⟩
      · have h5_z : w_z < 5 := (Nat.lt_or_ge w_z 5).elim id (fun q_z => absurd ((Zn_le (by omega) (by omega)).mpr q_z) h3_z)
        refine Zgo hX 3 rfl (by (first | exact True.intro | assumption | (dsimp only [ZallP]; and_intros <;> (first | assumption | decide | omega | ((try simp (disch := omega) only [pk_mul, nI_add, Zcl_n]); exact Zin_n (by omega) (by decide)))))) ?_
        refine Zs_callv hX (List.cons_ne_nil _ _) (s_its i_z w_z _ (by omega) h5_z) (by first | decide | omega) (by decide) rfl rfl rfl (by decide) (Nat.le_of_ble_eq_true rfl) (fun r_z M' hc_z => ?_)
        obtain ⟨rfl, rfl⟩ := hc_z
        refine Zgo hX 1 rfl (by (first | exact True.intro | assumption | (dsimp only [ZallP]; and_intros <;> (first | assumption | decide | omega | ((try simp (disch := omega) only [pk_mul, nI_add, Zcl_n]); exact Zin_n (by omega) (by decide)))))) ?_
        refine Zs_ret hX hE rfl ⟨by rw [Frow, if_pos hall, ei, Zcl_n (show w_z < 2 ^ 31 by omega), if_pos h5_z], Sc.rf _⟩
    · refine Zs_ne hX (List.cons_ne_nil _ _) (fun q_z => False.elim (by revert q_z; decide)) (fun _ => ?_)
      refine Zgo hX 2 rfl (by (first | exact True.intro | assumption | (dsimp only [ZallP]; and_intros <;> (first | assumption | decide | omega | ((try simp (disch := omega) only [pk_mul, nI_add, Zcl_n]); exact Zin_n (by omega) (by decide)))))) ?_
      refine Zs_callv hX (List.cons_ne_nil _ _) (s_error 1 _ (by decide)) (by first | decide | omega) (by decide) rfl rfl rfl (by decide) (Nat.le_of_ble_eq_true rfl) (fun r_z M' hc_z => ?_)
      obtain ⟨rfl, hsc⟩ := hc_z
      refine Zs_ret hX hE rfl ⟨by rw [Frow, if_neg (fun q_z => h2_z q_z.2)], hsc⟩
  · refine Zs_eq hX (List.cons_ne_nil _ _) (fun _ => ?_) (fun q_z => False.elim (by revert q_z; decide))
    refine Zgo hX 2 rfl (by (first | exact True.intro | assumption | (dsimp only [ZallP]; and_intros <;> (first | assumption | decide | omega | ((try simp (disch := omega) only [pk_mul, nI_add, Zcl_n]); exact Zin_n (by omega) (by decide)))))) ?_
    refine Zs_callv hX (List.cons_ne_nil _ _) (s_error 1 _ (by decide)) (by first | decide | omega) (by decide) rfl rfl rfl (by decide) (Nat.le_of_ble_eq_true rfl) (fun r_z M' hc_z => ?_)
    obtain ⟨rfl, hsc⟩ := hc_z
    refine Zs_ret hX hE rfl ⟨by rw [Frow, if_neg (fun q_z => h1_z q_z.1)], hsc⟩

set_option maxRecDepth 20000 in
set_option maxHeartbeats 1000000 in
theorem k_under (kd_z : Nat) (other : Int32) (M : Zmem) (hkd : kd_z ≤ 6) : ZC 144 2 [.int (nI kd_z), .int other] M (fun r_z M' => Zb r_z (other ∈ Zchn kd_z) ∧ M = M') := by
  refine ZC_of Zt144 Zk144 (Nat.le_of_ble_eq_true rfl) (by decide) rfl (fun X hX hE => ?_)
  obtain ⟨L0, e0_z, hl0, hcv0⟩ := Zcv_ok hkd
  rw [e0_z] at hE
  have L : ∀ (L : List Int32) (a_z a0 : Int32) (i_z : Nat) (C : Prop), Zcv (a_z :: L) → i_z + L.length ≤ 5 → (C ↔ other ∈ a_z :: L) → (C ↔ other ∈ nI kd_z :: L0) → ZP X Zt144 (Zsf Zt144 4) [(2, .int a_z), (3, .int (nI i_z)), (0, .int a0), (1, .int other)] [] M := by
    intro L
    induction L with
    | nil =>
      intro a_z a0 i_z C hcv hi_z hC hC2
      obtain ⟨⟨kd', h1_z, rfl⟩, h0_z⟩ := hcv
      obtain rfl : kd' = 0 := Zeq (by omega) (by decide) h0_z
      simp only [List.length_nil] at hi_z
      refine Zgo hX 2 rfl (by (first | exact True.intro | assumption | (dsimp only [ZallP]; and_intros <;> (first | assumption | decide | omega | ((try simp (disch := omega) only [pk_mul, nI_add, Zcl_n]); exact Zin_n (by omega) (by decide)))))) ?_
      refine Zs_igt hX (List.cons_ne_nil _ _) (fun h2_z => ?_) (fun h2_z => ?_)
      · exact absurd h2_z (Int32.not_lt.mpr ((Zn_le (by omega) (by decide)).mpr (by omega)))
      · refine Zgo hX 1 rfl (by (first | exact True.intro | assumption | (dsimp only [ZallP]; and_intros <;> (first | assumption | decide | omega | ((try simp (disch := omega) only [pk_mul, nI_add, Zcl_n]); exact Zin_n (by omega) (by decide)))))) ?_
        refine Zs_lt hX (List.cons_ne_nil _ _) (fun q_z => False.elim (by revert q_z; decide)) (fun _ => ?_)
        refine Zgo hX 2 rfl (by (first | exact True.intro | assumption | (dsimp only [ZallP]; and_intros <;> (first | assumption | decide | omega | ((try simp (disch := omega) only [pk_mul, nI_add, Zcl_n]); exact Zin_n (by omega) (by decide)))))) ?_
        refine Zs_ine hX (List.cons_ne_nil _ _) (fun h3_z => ?_) (fun h3_z => ?_)
        · refine Zgo hX 1 rfl (by (first | exact True.intro | assumption | (dsimp only [ZallP]; and_intros <;> (first | assumption | decide | omega | ((try simp (disch := omega) only [pk_mul, nI_add, Zcl_n]); exact Zin_n (by omega) (by decide)))))) ?_
          refine Zs_calls hX (List.cons_ne_nil _ _) (by decide) (k_above _ _) (by first | decide | omega) rfl rfl (by decide) (Nat.le_of_ble_eq_true rfl) (fun r_z M' hc_z => ?_)
          obtain ⟨⟨x_z, rfl, hx_z⟩, rfl⟩ := hc_z
          have ex : x_z = -(nI 1) := by
            rcases hx_z with ⟨k9, h9_z, e9, e8⟩ | ⟨-, e9⟩
            · obtain rfl : k9 = 0 := Zeq (by omega) (by decide) e9.symm
              exact e8
            · exact e9
          rw [ex]
          refine Zgo hX 3 rfl (by (first | exact True.intro | assumption | (dsimp only [ZallP]; and_intros <;> (first | assumption | decide | omega | ((try simp (disch := omega) only [pk_mul, nI_add, Zcl_n]); exact Zin_n (by omega) (by decide)))))) ?_
          rw [nI_add]
          refine Zgo hX 2 rfl (by (first | exact True.intro | assumption | (dsimp only [ZallP]; and_intros <;> (first | assumption | decide | omega | ((try simp (disch := omega) only [pk_mul, nI_add, Zcl_n]); exact Zin_n (by omega) (by decide)))))) ?_
          refine Zs_igt hX (List.cons_ne_nil _ _) (fun h4_z => ?_) (fun h4_z => ?_)
          · refine Zgo hX 1 rfl (by (first | exact True.intro | assumption | (dsimp only [ZallP]; and_intros <;> (first | assumption | decide | omega | ((try simp (disch := omega) only [pk_mul, nI_add, Zcl_n]); exact Zin_n (by omega) (by decide)))))) ?_
            refine Zs_retz hX hE rfl (by first | exact Or.inl rfl | exact Or.inr rfl) ⟨Or.inr ⟨rfl, fun q_z => h3_z ((by simpa using hC.mp (hC2.mpr q_z) : other = nI 0).symm)⟩, rfl⟩
          · refine Zgo hX 1 rfl (by (first | exact True.intro | assumption | (dsimp only [ZallP]; and_intros <;> (first | assumption | decide | omega | ((try simp (disch := omega) only [pk_mul, nI_add, Zcl_n]); exact Zin_n (by omega) (by decide)))))) ?_
            refine Zs_lt hX (List.cons_ne_nil _ _) (fun _ => ?_) (fun q_z => False.elim (by revert q_z; decide))
            refine Zgo hX 1 rfl (by (first | exact True.intro | assumption | (dsimp only [ZallP]; and_intros <;> (first | assumption | decide | omega | ((try simp (disch := omega) only [pk_mul, nI_add, Zcl_n]); exact Zin_n (by omega) (by decide)))))) ?_
            refine Zs_retz hX hE rfl (by first | exact Or.inl rfl | exact Or.inr rfl) ⟨Or.inr ⟨rfl, fun q_z => h3_z ((by simpa using hC.mp (hC2.mpr q_z) : other = nI 0).symm)⟩, rfl⟩
        · refine Zgo hX 1 rfl (by (first | exact True.intro | assumption | (dsimp only [ZallP]; and_intros <;> (first | assumption | decide | omega | ((try simp (disch := omega) only [pk_mul, nI_add, Zcl_n]); exact Zin_n (by omega) (by decide)))))) ?_
          refine Zs_retz hX hE rfl (by first | exact Or.inl rfl | exact Or.inr rfl) ⟨Or.inl ⟨rfl, hC2.mp (hC.mpr (by rw [h3_z]; exact List.mem_cons_self))⟩, rfl⟩
    | cons b_z L ih_z =>
      intro a_z a0 i_z C hcv hi_z hC hC2
      obtain ⟨⟨kd', h1_z, rfl, hb_z, hk0⟩, -, hcv2⟩ := hcv
      simp only [List.length_cons] at hi_z
      refine Zgo hX 2 rfl (by (first | exact True.intro | assumption | (dsimp only [ZallP]; and_intros <;> (first | assumption | decide | omega | ((try simp (disch := omega) only [pk_mul, nI_add, Zcl_n]); exact Zin_n (by omega) (by decide)))))) ?_
      refine Zs_igt hX (List.cons_ne_nil _ _) (fun h2_z => ?_) (fun h2_z => ?_)
      · exact absurd h2_z (Int32.not_lt.mpr ((Zn_le (by omega) (by decide)).mpr (by omega)))
      · refine Zgo hX 1 rfl (by (first | exact True.intro | assumption | (dsimp only [ZallP]; and_intros <;> (first | assumption | decide | omega | ((try simp (disch := omega) only [pk_mul, nI_add, Zcl_n]); exact Zin_n (by omega) (by decide)))))) ?_
        refine Zs_lt hX (List.cons_ne_nil _ _) (fun h5_z => ?_) (fun h5_z => ?_)
        · exact absurd h5_z (Zn_nlt0 (by omega))
        · refine Zgo hX 2 rfl (by (first | exact True.intro | assumption | (dsimp only [ZallP]; and_intros <;> (first | assumption | decide | omega | ((try simp (disch := omega) only [pk_mul, nI_add, Zcl_n]); exact Zin_n (by omega) (by decide)))))) ?_
          refine Zs_ine hX (List.cons_ne_nil _ _) (fun h3_z => ?_) (fun h3_z => ?_)
          · refine Zgo hX 1 rfl (by (first | exact True.intro | assumption | (dsimp only [ZallP]; and_intros <;> (first | assumption | decide | omega | ((try simp (disch := omega) only [pk_mul, nI_add, Zcl_n]); exact Zin_n (by omega) (by decide)))))) ?_
            refine Zs_calls hX (List.cons_ne_nil _ _) (by decide) (k_above _ _) (by first | decide | omega) rfl rfl (by decide) (Nat.le_of_ble_eq_true rfl) (fun r_z M' hc_z => ?_)
            obtain ⟨⟨x_z, rfl, hx_z⟩, rfl⟩ := hc_z
            have ex : x_z = b_z := by
              rcases hx_z with ⟨k9, h9_z, e9, e8⟩ | ⟨e9, -⟩
              · obtain rfl : kd' = k9 := Zeq (by omega) (by omega) e9
                rw [e8, hb_z]
              · exact absurd (Zbt_of (by decide) h1_z) e9
            rw [ex]
            refine Zgo hX 3 rfl (by (first | exact True.intro | assumption | (dsimp only [ZallP]; and_intros <;> (first | assumption | decide | omega | ((try simp (disch := omega) only [pk_mul, nI_add, Zcl_n]); exact Zin_n (by omega) (by decide)))))) ?_
            rw [nI_add]
            refine Zs_sub (l' := [(2, .int b_z), (3, .int (nI (i_z + 1))), (0, .int a0), (1, .int other)]) rfl ?_
            refine ih_z b_z a0 (i_z + 1) C hcv2 (by omega) (hC.trans ⟨fun q_z => ?_, fun q_z => List.mem_cons_of_mem _ q_z⟩) hC2
            rcases List.mem_cons.mp q_z with e_z | e_z
            · exact absurd e_z.symm h3_z
            · exact e_z
          · refine Zgo hX 1 rfl (by (first | exact True.intro | assumption | (dsimp only [ZallP]; and_intros <;> (first | assumption | decide | omega | ((try simp (disch := omega) only [pk_mul, nI_add, Zcl_n]); exact Zin_n (by omega) (by decide)))))) ?_
            refine Zs_retz hX hE rfl (by first | exact Or.inl rfl | exact Or.inr rfl) ⟨Or.inl ⟨rfl, hC2.mp (hC.mpr (by rw [h3_z]; exact List.mem_cons_self))⟩, rfl⟩
  refine Zgo hX 4 rfl (by (first | exact True.intro | assumption | (dsimp only [ZallP]; and_intros <;> (first | assumption | decide | omega | ((try simp (disch := omega) only [pk_mul, nI_add, Zcl_n]); exact Zin_n (by omega) (by decide)))))) ?_
  refine Zs_sub (l' := [(2, .int (nI kd_z)), (3, .int (nI 0)), (0, .int (nI kd_z)), (1, .int other)]) rfl ?_
  exact L L0 (nI kd_z) (nI kd_z) 0 (other ∈ nI kd_z :: L0) hcv0 (by omega) Iff.rfl Iff.rfl

set_option maxRecDepth 20000 in
set_option maxHeartbeats 1000000 in
theorem k_as (f_z : Nat → Int32) (n_z : Nat) (row_z kind : Int32) (M : Zmem) (hz_z : Zrv 1 f_z M) (hfi : Zfi f_z) (hn_z : f_z 7 = nI n_z) (hn2 : n_z ≤ 15) : ZC 4 4 [.ref 0, .int row_z, .int kind] M (fun r_z M' => r_z = some (.int (Fas f_z n_z row_z kind)) ∧ Sc M M') := by
  refine ZC_of Zt4 Zk4 (Nat.le_of_ble_eq_true rfl) (by decide) rfl (fun X hX hE => ?_)
  have BAD : ¬ (vp_in row_z n_z ∧ nI 0 ≤ kind ∧ kind ≤ nI 6) → ZP X Zt4 (Zsf Zt4 18) (lv_args 0 [.ref 0, .int row_z, .int kind]) [] M := by
    intro h_z
    refine Zgo hX 2 rfl (by (first | exact True.intro | assumption | (dsimp only [ZallP]; and_intros <;> (first | assumption | decide | omega | ((try simp (disch := omega) only [pk_mul, nI_add, Zcl_n]); exact Zin_n (by omega) (by decide)))))) ?_
    refine Zs_callv hX (List.cons_ne_nil _ _) (k_refuse 1 _ (by decide)) (by first | decide | omega) (by decide) rfl rfl rfl (by decide) (Nat.le_of_ble_eq_true rfl) (fun r_z M' hc_z => ?_)
    obtain ⟨rfl, hsc⟩ := hc_z
    refine Zs_ret hX hE rfl ⟨by rw [Fas, if_neg h_z], hsc⟩
  refine Zgo hX 2 rfl (by (first | exact True.intro | assumption | (dsimp only [ZallP]; and_intros <;> (first | assumption | decide | omega | ((try simp (disch := omega) only [pk_mul, nI_add, Zcl_n]); exact Zin_n (by omega) (by decide)))))) ?_
  refine Zs_callv hX (List.cons_ne_nil _ _) (k_isRow row_z n_z M (hz_z.n hn_z) hn2) (by first | decide | omega) (by decide) rfl rfl rfl (by decide) (Nat.le_of_ble_eq_true rfl) (fun r_z M' hc_z => ?_)
  rcases hc_z with ⟨⟨rfl, h1_z⟩ | ⟨rfl, h1_z⟩, rfl⟩
  · refine Zs_eq hX (List.cons_ne_nil _ _) (fun q_z => False.elim (by revert q_z; decide)) (fun _ => ?_)
    refine Zgo hX 3 rfl (by (first | exact True.intro | assumption | (dsimp only [ZallP]; and_intros <;> (first | assumption | decide | omega | ((try simp (disch := omega) only [pk_mul, nI_add, Zcl_n]); exact Zin_n (by omega) (by decide)))))) ?_
    refine Zs_calls hX (List.cons_ne_nil _ _) (by decide) (k_within _ _ _ _) (by first | decide | omega) rfl rfl (by decide) (Nat.le_of_ble_eq_true rfl) (fun r_z M' hc_z => ?_)
    rcases hc_z with ⟨⟨rfl, h2_z⟩ | ⟨rfl, h2_z⟩, rfl⟩
    · refine Zs_ne hX (List.cons_ne_nil _ _) (fun _ => ?_) (fun q_z => False.elim (by revert q_z; decide))
      have hall := And.intro h1_z h2_z
      obtain ⟨i_z, hi_z, rfl, ei⟩ := Zvp h1_z (by omega)
      obtain ⟨⟨kd_z, hkd, e1_z⟩, -, -, -, -⟩ := hfi.rw hn_z hn2 hi_z
      refine Zgo hX 6 rfl (Zin_n (by omega) (by decide)) ?_
      rw [Zcl_n (show i_z < 2 ^ 31 by omega), (hz_z.row (by omega)).1, e1_z]
      refine Zs_calls hX (List.cons_ne_nil _ _) (by decide) (k_under kd_z kind _ hkd) (by first | decide | omega) rfl rfl (by decide) (Nat.le_of_ble_eq_true rfl) (fun r_z M' hc_z => ?_)
      rcases hc_z with ⟨⟨rfl, h3_z⟩ | ⟨rfl, h3_z⟩, rfl⟩
      · refine Zs_eq hX (List.cons_ne_nil _ _) (fun q_z => False.elim (by revert q_z; decide)) (fun _ => ?_)
        refine Zgo hX 6 rfl (Zin_n (by omega) (by decide)) ?_
        rw [Zcl_n (show i_z < 2 ^ 31 by omega), (hz_z.row (by omega)).2.1]
        refine Zs_ret hX hE rfl ⟨by rw [Fas, if_pos hall, ei, e1_z, Zcl_n (show kd_z < 2 ^ 31 by omega), if_pos h3_z], Sc.rf _⟩
      · refine Zs_eq hX (List.cons_ne_nil _ _) (fun _ => ?_) (fun q_z => False.elim (by revert q_z; decide))
        refine Zgo hX 2 rfl (by (first | exact True.intro | assumption | (dsimp only [ZallP]; and_intros <;> (first | assumption | decide | omega | ((try simp (disch := omega) only [pk_mul, nI_add, Zcl_n]); exact Zin_n (by omega) (by decide)))))) ?_
        refine Zs_callv hX (List.cons_ne_nil _ _) (k_refuse 5 _ (by decide)) (by first | decide | omega) (by decide) rfl rfl rfl (by decide) (Nat.le_of_ble_eq_true rfl) (fun r_z M' hc_z => ?_)
        obtain ⟨rfl, hsc⟩ := hc_z
        refine Zs_ret hX hE rfl ⟨by rw [Fas, if_pos hall, ei, e1_z, Zcl_n (show kd_z < 2 ^ 31 by omega), if_neg h3_z], hsc⟩
    · refine Zs_ne hX (List.cons_ne_nil _ _) (fun q_z => False.elim (by revert q_z; decide)) (fun _ => ?_)
      exact BAD (fun q_z => h2_z q_z.2)
  · refine Zs_eq hX (List.cons_ne_nil _ _) (fun _ => ?_) (fun q_z => False.elim (by revert q_z; decide))
    exact BAD (fun q_z => h1_z q_z.1)

set_option maxRecDepth 20000 in
set_option maxHeartbeats 1000000 in
theorem s_as (n_z : Nat) (row_z kind : Int32) (M : Zmem) (hfi : Zfi (M 54)) (hn_z : M 54 7 = nI n_z) (hn2 : n_z ≤ 15) : ZC 92 4 [.ref 53, .int row_z, .int kind] M (fun r_z M' => r_z = some (.int (Fas (M 54) n_z row_z kind)) ∧ Sc M M') := by
  refine ZC_of Zt92 Zk92 (Nat.le_of_ble_eq_true rfl) (by decide) rfl (fun X hX hE => ?_)
  have BAD : ¬ (vp_in row_z n_z ∧ nI 0 ≤ kind ∧ kind ≤ nI 6) → ZP X Zt92 (Zsf Zt92 18) (lv_args 0 [.ref 53, .int row_z, .int kind]) [] M := by
    intro h_z
    refine Zgo hX 2 rfl (by (first | exact True.intro | assumption | (dsimp only [ZallP]; and_intros <;> (first | assumption | decide | omega | ((try simp (disch := omega) only [pk_mul, nI_add, Zcl_n]); exact Zin_n (by omega) (by decide)))))) ?_
    refine Zs_callv hX (List.cons_ne_nil _ _) (s_error 1 _ (by decide)) (by first | decide | omega) (by decide) rfl rfl rfl (by decide) (Nat.le_of_ble_eq_true rfl) (fun r_z M' hc_z => ?_)
    obtain ⟨rfl, hsc⟩ := hc_z
    refine Zs_ret hX hE rfl ⟨by rw [Fas, if_neg h_z], hsc⟩
  refine Zgo hX 2 rfl (by (first | exact True.intro | assumption | (dsimp only [ZallP]; and_intros <;> (first | assumption | decide | omega | ((try simp (disch := omega) only [pk_mul, nI_add, Zcl_n]); exact Zin_n (by omega) (by decide)))))) ?_
  refine Zs_callv hX (List.cons_ne_nil _ _) (s_isRow row_z n_z M hn_z hn2) (by first | decide | omega) (by decide) rfl rfl rfl (by decide) (Nat.le_of_ble_eq_true rfl) (fun r_z M' hc_z => ?_)
  rcases hc_z with ⟨⟨rfl, h1_z⟩ | ⟨rfl, h1_z⟩, rfl⟩
  · refine Zs_eq hX (List.cons_ne_nil _ _) (fun q_z => False.elim (by revert q_z; decide)) (fun _ => ?_)
    refine Zgo hX 3 rfl (by (first | exact True.intro | assumption | (dsimp only [ZallP]; and_intros <;> (first | assumption | decide | omega | ((try simp (disch := omega) only [pk_mul, nI_add, Zcl_n]); exact Zin_n (by omega) (by decide)))))) ?_
    refine Zs_calls hX (List.cons_ne_nil _ _) (by decide) (s_in _ _ _ _) (by first | decide | omega) rfl rfl (by decide) (Nat.le_of_ble_eq_true rfl) (fun r_z M' hc_z => ?_)
    rcases hc_z with ⟨⟨rfl, h2_z⟩ | ⟨rfl, h2_z⟩, rfl⟩
    · refine Zs_ne hX (List.cons_ne_nil _ _) (fun _ => ?_) (fun q_z => False.elim (by revert q_z; decide))
      have hall := And.intro h1_z h2_z
      obtain ⟨i_z, hi_z, rfl, ei⟩ := Zvp h1_z (by omega)
      obtain ⟨⟨kd_z, hkd, e1_z⟩, -, -, -, -⟩ := hfi.rw hn_z hn2 hi_z
      obtain ⟨L0, e0_z, hl0, hcv0⟩ := Zcv_ok hkd
      have YES : kind ∈ nI kd_z :: L0 → ∀ a_z : Int32, ZP X Zt92 (Zsf Zt92 53) [(3, .int a_z), (0, .ref 53), (1, .int (nI i_z)), (2, .int kind)] [] M := by
        intro q_z a_z
        refine Zgo hX 3 rfl (by (first | exact True.intro | assumption | (dsimp only [ZallP]; and_intros <;> (first | assumption | decide | omega | ((try simp (disch := omega) only [pk_mul, nI_add, Zcl_n]); exact Zin_n (by omega) (by decide)))))) ?_
        refine Zs_callv hX (List.cons_ne_nil _ _) (s_its i_z 1 _ (by omega) (by decide)) (by first | decide | omega) (by decide) rfl rfl rfl (by decide) (Nat.le_of_ble_eq_true rfl) (fun r_z M' hc_z => ?_)
        obtain ⟨rfl, rfl⟩ := hc_z
        rw [show 9 + 5 * i_z + 1 = 10 + 5 * i_z by omega]
        refine Zgo hX 1 rfl (by (first | exact True.intro | assumption | (dsimp only [ZallP]; and_intros <;> (first | assumption | decide | omega | ((try simp (disch := omega) only [pk_mul, nI_add, Zcl_n]); exact Zin_n (by omega) (by decide)))))) ?_
        refine Zs_ret hX hE rfl ⟨by rw [Fas, if_pos hall, ei, e1_z, Zcl_n (show kd_z < 2 ^ 31 by omega), e0_z, if_pos q_z], Sc.rf _⟩
      have NO : ¬ kind ∈ nI kd_z :: L0 → ∀ a_z : Int32, ZP X Zt92 (Zsf Zt92 62) [(3, .int a_z), (0, .ref 53), (1, .int (nI i_z)), (2, .int kind)] [] M := by
        intro q_z a_z
        refine Zgo hX 2 rfl (by (first | exact True.intro | assumption | (dsimp only [ZallP]; and_intros <;> (first | assumption | decide | omega | ((try simp (disch := omega) only [pk_mul, nI_add, Zcl_n]); exact Zin_n (by omega) (by decide)))))) ?_
        refine Zs_callv hX (List.cons_ne_nil _ _) (s_error 5 _ (by decide)) (by first | decide | omega) (by decide) rfl rfl rfl (by decide) (Nat.le_of_ble_eq_true rfl) (fun r_z M' hc_z => ?_)
        obtain ⟨rfl, hsc⟩ := hc_z
        refine Zs_ret hX hE rfl ⟨by rw [Fas, if_pos hall, ei, e1_z, Zcl_n (show kd_z < 2 ^ 31 by omega), e0_z, if_neg q_z], hsc⟩
      have L : ∀ (L : List Int32) (a_z : Int32) (C : Prop), Zcv (a_z :: L) → (C ↔ kind ∈ a_z :: L) → (C ↔ kind ∈ nI kd_z :: L0) → ZP X Zt92 (Zsf Zt92 31) [(3, .int a_z), (0, .ref 53), (1, .int (nI i_z)), (2, .int kind)] [] M := by
        intro L
        induction L with
        | nil =>
          intro a_z C hcv hC hC2
          obtain ⟨-, rfl⟩ := hcv
          refine Zgo hX 2 rfl (by (first | exact True.intro | assumption | (dsimp only [ZallP]; and_intros <;> (first | assumption | decide | omega | ((try simp (disch := omega) only [pk_mul, nI_add, Zcl_n]); exact Zin_n (by omega) (by decide)))))) ?_
          refine Zs_ieq hX (List.cons_ne_nil _ _) (fun h3_z => ?_) (fun h3_z => ?_)
          · refine Zgo hX 2 rfl (by (first | exact True.intro | assumption | (dsimp only [ZallP]; and_intros <;> (first | assumption | decide | omega | ((try simp (disch := omega) only [pk_mul, nI_add, Zcl_n]); exact Zin_n (by omega) (by decide)))))) ?_
            refine Zs_ine hX (List.cons_ne_nil _ _) (fun q_z => False.elim ((q_z h3_z))) (fun _ => ?_)
            refine Zs_sub (l' := [(3, .int (nI 0)), (0, .ref 53), (1, .int (nI i_z)), (2, .int kind)]) rfl ?_
            exact YES (hC2.mp (hC.mpr (by rw [h3_z]; exact List.mem_cons_self))) _
          · refine Zgo hX 1 rfl (by (first | exact True.intro | assumption | (dsimp only [ZallP]; and_intros <;> (first | assumption | decide | omega | ((try simp (disch := omega) only [pk_mul, nI_add, Zcl_n]); exact Zin_n (by omega) (by decide)))))) ?_
            refine Zs_eq hX (List.cons_ne_nil _ _) (fun _ => ?_) (fun q_z => False.elim (by revert q_z; decide))
            refine Zgo hX 2 rfl (by (first | exact True.intro | assumption | (dsimp only [ZallP]; and_intros <;> (first | assumption | decide | omega | ((try simp (disch := omega) only [pk_mul, nI_add, Zcl_n]); exact Zin_n (by omega) (by decide)))))) ?_
            refine Zs_ine hX (List.cons_ne_nil _ _) (fun _ => ?_) (fun q_z => False.elim ((h3_z q_z)))
            refine Zs_sub (l' := [(3, .int (nI 0)), (0, .ref 53), (1, .int (nI i_z)), (2, .int kind)]) rfl ?_
            exact NO (fun q_z => h3_z (by simpa using hC.mp (hC2.mpr q_z) : kind = nI 0).symm) _
        | cons b_z L ih_z =>
          intro a_z C hcv hC hC2
          obtain ⟨⟨kd', h1_z, rfl, hb_z, hk0⟩, hb2, hcv2⟩ := hcv
          refine Zgo hX 2 rfl (by (first | exact True.intro | assumption | (dsimp only [ZallP]; and_intros <;> (first | assumption | decide | omega | ((try simp (disch := omega) only [pk_mul, nI_add, Zcl_n]); exact Zin_n (by omega) (by decide)))))) ?_
          refine Zs_ieq hX (List.cons_ne_nil _ _) (fun h3_z => ?_) (fun h3_z => ?_)
          · refine Zgo hX 2 rfl (by (first | exact True.intro | assumption | (dsimp only [ZallP]; and_intros <;> (first | assumption | decide | omega | ((try simp (disch := omega) only [pk_mul, nI_add, Zcl_n]); exact Zin_n (by omega) (by decide)))))) ?_
            refine Zs_ine hX (List.cons_ne_nil _ _) (fun q_z => False.elim ((q_z h3_z))) (fun _ => ?_)
            refine Zs_sub (l' := [(3, .int (nI kd')), (0, .ref 53), (1, .int (nI i_z)), (2, .int kind)]) rfl ?_
            exact YES (hC2.mp (hC.mpr (by rw [h3_z]; exact List.mem_cons_self))) _
          · refine Zgo hX 1 rfl (by (first | exact True.intro | assumption | (dsimp only [ZallP]; and_intros <;> (first | assumption | decide | omega | ((try simp (disch := omega) only [pk_mul, nI_add, Zcl_n]); exact Zin_n (by omega) (by decide)))))) ?_
            refine Zs_eq hX (List.cons_ne_nil _ _) (fun q_z => False.elim ((hk0 (Zeq (b_z := 0) (by omega) (by decide) q_z)))) (fun _ => ?_)
            refine Zgo hX 1 rfl (by (first | exact True.intro | assumption | (dsimp only [ZallP]; and_intros <;> (first | assumption | decide | omega | ((try simp (disch := omega) only [pk_mul, nI_add, Zcl_n]); exact Zin_n (by omega) (by decide)))))) ?_
            refine Zs_calls hX (List.cons_ne_nil _ _) (by decide) (s_above _ _) (by first | decide | omega) rfl rfl (by decide) (Nat.le_of_ble_eq_true rfl) (fun r_z M' hc_z => ?_)
            obtain ⟨rfl, rfl⟩ := hc_z
            rw [hb2]
            refine Zgo hX 2 rfl (by (first | exact True.intro | assumption | (dsimp only [ZallP]; and_intros <;> (first | assumption | decide | omega | ((try simp (disch := omega) only [pk_mul, nI_add, Zcl_n]); exact Zin_n (by omega) (by decide)))))) ?_
            refine Zs_sub (l' := [(3, .int b_z), (0, .ref 53), (1, .int (nI i_z)), (2, .int kind)]) rfl ?_
            refine ih_z b_z C hcv2 (hC.trans ⟨fun q_z => ?_, fun q_z => List.mem_cons_of_mem _ q_z⟩) hC2
            rcases List.mem_cons.mp q_z with e_z | e_z
            · exact absurd e_z.symm h3_z
            · exact e_z
      refine Zgo hX 3 rfl (by (first | exact True.intro | assumption | (dsimp only [ZallP]; and_intros <;> (first | assumption | decide | omega | ((try simp (disch := omega) only [pk_mul, nI_add, Zcl_n]); exact Zin_n (by omega) (by decide)))))) ?_
      refine Zs_callv hX (List.cons_ne_nil _ _) (s_its i_z 0 _ (by omega) (by decide)) (by first | decide | omega) (by decide) rfl rfl rfl (by decide) (Nat.le_of_ble_eq_true rfl) (fun r_z M' hc_z => ?_)
      obtain ⟨rfl, rfl⟩ := hc_z
      rw [show M 54 (9 + 5 * i_z + 0) = nI kd_z from e1_z]
      refine Zgo hX 1 rfl (by (first | exact True.intro | assumption | (dsimp only [ZallP]; and_intros <;> (first | assumption | decide | omega | ((try simp (disch := omega) only [pk_mul, nI_add, Zcl_n]); exact Zin_n (by omega) (by decide)))))) ?_
      refine Zs_sub (l' := [(3, .int (nI kd_z)), (0, .ref 53), (1, .int (nI i_z)), (2, .int kind)]) rfl ?_
      exact L L0 (nI kd_z) (kind ∈ nI kd_z :: L0) hcv0 Iff.rfl Iff.rfl
    · refine Zs_ne hX (List.cons_ne_nil _ _) (fun q_z => False.elim (by revert q_z; decide)) (fun _ => ?_)
      exact BAD (fun q_z => h2_z q_z.2)
  · refine Zs_eq hX (List.cons_ne_nil _ _) (fun _ => ?_) (fun q_z => False.elim (by revert q_z; decide))
    exact BAD (fun q_z => h1_z q_z.1)
