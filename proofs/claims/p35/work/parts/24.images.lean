
theorem Zct_cp {M M2 : Zmem} {src t u_z s_z : Nat} {f_z : Nat → Int32} (h_z : Zct M src u_z f_z) (hs_z : M src 2 = nI s_z) (hs60 : s_z ≤ 60) (e0_z : M2 t 0 = M src 0) (e2_z : M2 t 2 = nI s_z) (ei : ∀ i_z, i_z < s_z → M2 (t + 1) i_z = M (src + 1) i_z) : Zct M2 t u_z f_z := by
  obtain ⟨n_z, g1, g2, ⟨m_z, g3, g4⟩, g5⟩ := h_z
  refine ⟨n_z, g1, g2, ⟨s_z, hs60, e2_z⟩, ?_⟩
  rcases g5 with ⟨g5, g6, g7, g8⟩ | ⟨g5, g6⟩
  · obtain rfl : n_z = s_z := Zeq (by omega) (by omega) (g7.symm.trans hs_z)
    exact Or.inl ⟨g5, by rw [e0_z]; exact g6, e2_z, fun i_z hi_z => by rw [ei i_z hi_z]; exact g8 i_z hi_z⟩
  · exact Or.inr ⟨g5, by rw [e0_z]; exact g6⟩
theorem Zct_kn {M : Zmem} {t u_z : Nat} {f_z : Nat → Int32} (h_z : Zct M t u_z f_z) : (∃ s_z, s_z ≤ 60 ∧ M t 2 = nI s_z) ∧ (M t 0 = nI 0 ∨ M t 0 = nI 1) := by
  obtain ⟨n_z, g1, g2, g3, g5⟩ := h_z
  refine ⟨g3, ?_⟩
  rcases g5 with ⟨g5, g6, g7, g8⟩ | ⟨g5, g6⟩
  · exact Or.inr g6
  · exact Or.inl g6
/-- all but the texts is copied -/
def Zmid (b2_z b_z : Nat) (f_z : Nat → Int32) (M M9 : Zmem) : Prop := (M9 b2_z 5 = f_z 7 ∧ M9 b2_z 6 = f_z 0 ∧ M9 b2_z 7 = f_z 1 ∧ M9 b2_z 8 = f_z 2 ∧ M9 b2_z 9 = f_z 3 ∧ M9 b2_z 10 = f_z 4 ∧ M9 b2_z 12 = f_z 5 ∧ M9 b2_z 14 = f_z 6) ∧
  (∀ i_z, i_z < 15 → M9 (b2_z + 1) i_z = f_z (9 + 5 * i_z) ∧ M9 (b2_z + 2) i_z = f_z (10 + 5 * i_z) ∧ M9 (b2_z + 3) i_z = f_z (11 + 5 * i_z) ∧ M9 (b2_z + 4) i_z = f_z (12 + 5 * i_z) ∧ M9 (b2_z + 5) i_z = f_z (13 + 5 * i_z)) ∧
  (∀ i_z, i_z < 60 → M9 (b2_z + 6) i_z = Zsb (f_z (334 + i_z)).toNatClampNeg) ∧ (∀ i_z, i_z < 24 → M9 (b2_z + 7) i_z = f_z (394 + i_z)) ∧ ∀ o_z k_z, (o_z < b2_z ∨ b2_z + 7 < o_z) → M9 o_z k_z = M o_z k_z
theorem Zcpy_i {M : Zmem} {a_z b_z n_z i_z : Nat} (hi_z : i_z < n_z) {x_z : Int32} (h_z : M a_z i_z = x_z) : va_cpy (M a_z) (M b_z) 0 0 n_z i_z = x_z := by
  rw [pk_cpy_in (Nat.zero_le _) (by omega), Nat.zero_add, Nat.sub_zero]
  exact h_z

set_option maxRecDepth 20000 in
set_option maxHeartbeats 1000000 in
theorem k_tcopy27 (s_z : Nat) (M : Zmem) (hs_z : M 11 2 = nI s_z) (hs60 : s_z ≤ 60) (hk_z : M 11 0 = nI 0 ∨ M 11 0 = nI 1) : ZC 185 3 [.ref 27, .ref 11] M (fun r_z M' => r_z = none ∧ Zu (Ztk 27 12 s_z M) 27 0 (M 11 0) = M') := by
  refine ZC_of Zt185 Zk185 (Nat.le_of_ble_eq_true rfl) (by decide) rfl (fun X hX hE => ?_)
  refine Zgo hX 5 rfl (by (first | exact True.intro | assumption | (dsimp only [ZallP]; and_intros <;> (first | assumption | decide | omega | ((try simp (disch := omega) only [pk_mul, nI_add, Zcl_n]); exact Zin_n (by omega) (by decide)))))) ?_
  rw [hs_z]
  refine Zs_callv hX (List.cons_ne_nil _ _) (k_take27_12 s_z M hs60) (by first | decide | omega) (by decide) rfl rfl rfl (by decide) (Nat.le_of_ble_eq_true rfl) (fun r_z M' hc_z => ?_)
  obtain ⟨rfl, rfl⟩ := hc_z
  have e_z : Ztk 27 12 s_z M 11 0 = M 11 0 := Ztk_o (by decide) (by decide)
  refine Zgo hX 4 rfl (by show (Ztk 27 12 s_z M 11 0 = nI 0 ∨ Ztk 27 12 s_z M 11 0 = nI 1); rw [e_z]; exact hk_z) ?_
  rw [e_z]
  refine Zs_retv hX hE rfl ⟨rfl, rfl⟩

set_option maxRecDepth 20000 in
set_option maxHeartbeats 1000000 in
theorem k_tcopy30 (s_z : Nat) (M : Zmem) (hs_z : M 14 2 = nI s_z) (hs60 : s_z ≤ 60) (hk_z : M 14 0 = nI 0 ∨ M 14 0 = nI 1) : ZC 185 3 [.ref 30, .ref 14] M (fun r_z M' => r_z = none ∧ Zu (Ztk 30 15 s_z M) 30 0 (M 14 0) = M') := by
  refine ZC_of Zt185 Zk185 (Nat.le_of_ble_eq_true rfl) (by decide) rfl (fun X hX hE => ?_)
  refine Zgo hX 5 rfl (by (first | exact True.intro | assumption | (dsimp only [ZallP]; and_intros <;> (first | assumption | decide | omega | ((try simp (disch := omega) only [pk_mul, nI_add, Zcl_n]); exact Zin_n (by omega) (by decide)))))) ?_
  rw [hs_z]
  refine Zs_callv hX (List.cons_ne_nil _ _) (k_take30_15 s_z M hs60) (by first | decide | omega) (by decide) rfl rfl rfl (by decide) (Nat.le_of_ble_eq_true rfl) (fun r_z M' hc_z => ?_)
  obtain ⟨rfl, rfl⟩ := hc_z
  have e_z : Ztk 30 15 s_z M 14 0 = M 14 0 := Ztk_o (by decide) (by decide)
  refine Zgo hX 4 rfl (by show (Ztk 30 15 s_z M 14 0 = nI 0 ∨ Ztk 30 15 s_z M 14 0 = nI 1); rw [e_z]; exact hk_z) ?_
  rw [e_z]
  refine Zs_retv hX hE rfl ⟨rfl, rfl⟩

set_option maxRecDepth 20000 in
set_option maxHeartbeats 1000000 in
theorem k_tcopy11 (s_z : Nat) (M : Zmem) (hs_z : M 27 2 = nI s_z) (hs60 : s_z ≤ 60) (hk_z : M 27 0 = nI 0 ∨ M 27 0 = nI 1) : ZC 185 3 [.ref 11, .ref 27] M (fun r_z M' => r_z = none ∧ Zu (Ztk 11 28 s_z M) 11 0 (M 27 0) = M') := by
  refine ZC_of Zt185 Zk185 (Nat.le_of_ble_eq_true rfl) (by decide) rfl (fun X hX hE => ?_)
  refine Zgo hX 5 rfl (by (first | exact True.intro | assumption | (dsimp only [ZallP]; and_intros <;> (first | assumption | decide | omega | ((try simp (disch := omega) only [pk_mul, nI_add, Zcl_n]); exact Zin_n (by omega) (by decide)))))) ?_
  rw [hs_z]
  refine Zs_callv hX (List.cons_ne_nil _ _) (k_take11_28 s_z M hs60) (by first | decide | omega) (by decide) rfl rfl rfl (by decide) (Nat.le_of_ble_eq_true rfl) (fun r_z M' hc_z => ?_)
  obtain ⟨rfl, rfl⟩ := hc_z
  have e_z : Ztk 11 28 s_z M 27 0 = M 27 0 := Ztk_o (by decide) (by decide)
  refine Zgo hX 4 rfl (by show (Ztk 11 28 s_z M 27 0 = nI 0 ∨ Ztk 11 28 s_z M 27 0 = nI 1); rw [e_z]; exact hk_z) ?_
  rw [e_z]
  refine Zs_retv hX hE rfl ⟨rfl, rfl⟩

set_option maxRecDepth 20000 in
set_option maxHeartbeats 1000000 in
theorem k_tcopy14 (s_z : Nat) (M : Zmem) (hs_z : M 30 2 = nI s_z) (hs60 : s_z ≤ 60) (hk_z : M 30 0 = nI 0 ∨ M 30 0 = nI 1) : ZC 185 3 [.ref 14, .ref 30] M (fun r_z M' => r_z = none ∧ Zu (Ztk 14 31 s_z M) 14 0 (M 30 0) = M') := by
  refine ZC_of Zt185 Zk185 (Nat.le_of_ble_eq_true rfl) (by decide) rfl (fun X hX hE => ?_)
  refine Zgo hX 5 rfl (by (first | exact True.intro | assumption | (dsimp only [ZallP]; and_intros <;> (first | assumption | decide | omega | ((try simp (disch := omega) only [pk_mul, nI_add, Zcl_n]); exact Zin_n (by omega) (by decide)))))) ?_
  rw [hs_z]
  refine Zs_callv hX (List.cons_ne_nil _ _) (k_take14_31 s_z M hs60) (by first | decide | omega) (by decide) rfl rfl rfl (by decide) (Nat.le_of_ble_eq_true rfl) (fun r_z M' hc_z => ?_)
  obtain ⟨rfl, rfl⟩ := hc_z
  have e_z : Ztk 14 31 s_z M 30 0 = M 30 0 := Ztk_o (by decide) (by decide)
  refine Zgo hX 4 rfl (by show (Ztk 14 31 s_z M 30 0 = nI 0 ∨ Ztk 14 31 s_z M 30 0 = nI 1); rw [e_z]; exact hk_z) ?_
  rw [e_z]
  refine Zs_retv hX hE rfl ⟨rfl, rfl⟩

set_option maxRecDepth 20000 in
set_option maxHeartbeats 4000000 in
theorem k_copy17 (f_z : Nat → Int32) (M : Zmem) (hz_z : Zrv 1 f_z M) : ZC 167 4 [.ref 17, .ref 1] M (fun r_z M' => r_z = none ∧ Zrv 17 f_z M' ∧ ∀ o_z k_z, (o_z < 17 ∨ 32 < o_z) → M' o_z k_z = M o_z k_z) := by
  refine ZC_of Zt167 Zk167 (Nat.le_of_ble_eq_true rfl) (by decide) rfl (fun X hX hE => ?_)
  refine Zgo hX 7 rfl (by (first | exact True.intro | assumption | (dsimp only [ZallP]; and_intros <;> (first | assumption | decide | omega | ((try simp (disch := omega) only [pk_mul, nI_add, Zcl_n]); exact Zin_n (by omega) (by decide)))))) ?_
  refine Zs_cp 15 hX (List.cons_ne_nil _ _) (by decide) (by decide) (by decide) (Or.inl rfl) rfl rfl (by decide) (by decide) (by decide) (fun q_z => absurd q_z (by decide)) (by decide) ?_
  refine Zgo hX 7 rfl (by (first | exact True.intro | assumption | (dsimp only [ZallP]; and_intros <;> (first | assumption | decide | omega | ((try simp (disch := omega) only [pk_mul, nI_add, Zcl_n]); exact Zin_n (by omega) (by decide)))))) ?_
  refine Zs_cp 15 hX (List.cons_ne_nil _ _) (by decide) (by decide) (by decide) (Or.inl rfl) rfl rfl (by decide) (by decide) (by decide) (fun q_z => absurd q_z (by decide)) (by decide) ?_
  refine Zgo hX 7 rfl (by (first | exact True.intro | assumption | (dsimp only [ZallP]; and_intros <;> (first | assumption | decide | omega | ((try simp (disch := omega) only [pk_mul, nI_add, Zcl_n]); exact Zin_n (by omega) (by decide)))))) ?_
  refine Zs_cp 15 hX (List.cons_ne_nil _ _) (by decide) (by decide) (by decide) (Or.inl rfl) rfl rfl (by decide) (by decide) (by decide) (fun q_z => absurd q_z (by decide)) (by decide) ?_
  refine Zgo hX 7 rfl (by (first | exact True.intro | assumption | (dsimp only [ZallP]; and_intros <;> (first | assumption | decide | omega | ((try simp (disch := omega) only [pk_mul, nI_add, Zcl_n]); exact Zin_n (by omega) (by decide)))))) ?_
  refine Zs_cp 15 hX (List.cons_ne_nil _ _) (by decide) (by decide) (by decide) (Or.inl rfl) rfl rfl (by decide) (by decide) (by decide) (fun q_z => absurd q_z (by decide)) (by decide) ?_
  refine Zgo hX 7 rfl (by (first | exact True.intro | assumption | (dsimp only [ZallP]; and_intros <;> (first | assumption | decide | omega | ((try simp (disch := omega) only [pk_mul, nI_add, Zcl_n]); exact Zin_n (by omega) (by decide)))))) ?_
  refine Zs_cp 15 hX (List.cons_ne_nil _ _) (by decide) (by decide) (by decide) (Or.inl rfl) rfl rfl (by decide) (by decide) (by decide) (fun q_z => absurd q_z (by decide)) (by decide) ?_
  refine Zgo hX 31 rfl (by (first | exact True.intro | assumption | (dsimp only [ZallP]; and_intros <;> (first | assumption | decide | omega | ((try simp (disch := omega) only [pk_mul, nI_add, Zcl_n]); exact Zin_n (by omega) (by decide)))))) ?_
  refine Zs_cp 60 hX (List.cons_ne_nil _ _) (by decide) (by decide) (by decide) (Or.inr rfl) rfl rfl (by decide) (by decide) (by decide) (fun _ j_z hj_z => (show fits .byte (.int (M 7 j_z)) = true by rw [hz_z.2.2.1 j_z hj_z]; exact Zsb_fits _)) (by decide) ?_
  refine Zgo hX 11 rfl (by (first | exact True.intro | assumption | (dsimp only [ZallP]; and_intros <;> (first | assumption | decide | omega | ((try simp (disch := omega) only [pk_mul, nI_add, Zcl_n]); exact Zin_n (by omega) (by decide)))))) ?_
  refine Zs_cp 24 hX (List.cons_ne_nil _ _) (by decide) (by decide) (by decide) (Or.inl rfl) rfl rfl (by decide) (by decide) (by decide) (fun q_z => absurd q_z (by decide)) (by decide) ?_
  refine Zgo hX 7 rfl (by (first | exact True.intro | assumption | (dsimp only [ZallP]; and_intros <;> (first | assumption | decide | omega | ((try simp (disch := omega) only [pk_mul, nI_add, Zcl_n]); exact Zin_n (by omega) (by decide)))))) ?_
  refine Zs_abs (fun M9 => Zmid 17 1 f_z M M9) ⟨⟨hz_z.1.1, hz_z.1.2.1, hz_z.1.2.2.1, hz_z.1.2.2.2.1, hz_z.1.2.2.2.2.1, hz_z.1.2.2.2.2.2.1, hz_z.1.2.2.2.2.2.2.1, hz_z.1.2.2.2.2.2.2.2⟩, fun i_z hi_z => ⟨(show va_cpy (M 2) (M 18) 0 0 15 i_z = _ from Zcpy_i hi_z (hz_z.2.1 i_z hi_z).1), (show va_cpy (M 3) (M 19) 0 0 15 i_z = _ from Zcpy_i hi_z (hz_z.2.1 i_z hi_z).2.1), (show va_cpy (M 4) (M 20) 0 0 15 i_z = _ from Zcpy_i hi_z (hz_z.2.1 i_z hi_z).2.2.1), (show va_cpy (M 5) (M 21) 0 0 15 i_z = _ from Zcpy_i hi_z (hz_z.2.1 i_z hi_z).2.2.2.1), (show va_cpy (M 6) (M 22) 0 0 15 i_z = _ from Zcpy_i hi_z (hz_z.2.1 i_z hi_z).2.2.2.2)⟩, fun i_z hi_z => (show va_cpy (M 7) (M 23) 0 0 60 i_z = _ from Zcpy_i hi_z (hz_z.2.2.1 i_z hi_z)), fun i_z hi_z => (show va_cpy (M 8) (M 24) 0 0 24 i_z = _ from Zcpy_i hi_z (hz_z.2.2.2.1 i_z hi_z)), fun o_z k_z ho => by
    have n17 : o_z ≠ 17 := by omega
    have n18 : o_z ≠ 18 := by omega
    have n19 : o_z ≠ 19 := by omega
    have n20 : o_z ≠ 20 := by omega
    have n21 : o_z ≠ 21 := by omega
    have n22 : o_z ≠ 22 := by omega
    have n23 : o_z ≠ 23 := by omega
    have n24 : o_z ≠ 24 := by omega
    simp only [Zcpy, Zu, n17, n18, n19, n20, n21, n22, n23, n24, if_false]⟩ (fun M9 h9_z => ?_)
  obtain ⟨k1_z, k2_z, k3, k4, k5⟩ := h9_z
  have hc0 : Zct M9 11 0 f_z := Zct_kp hz_z.2.2.2.2.1 (k5 _ _ (by omega)) (k5 _ _ (by omega)) (fun i_z => k5 _ _ (by omega)) (fun _ _ _ => rfl)
  have hc1 : Zct M9 14 1 f_z := Zct_kp hz_z.2.2.2.2.2 (k5 _ _ (by omega)) (k5 _ _ (by omega)) (fun i_z => k5 _ _ (by omega)) (fun _ _ _ => rfl)
  obtain ⟨⟨s_z, hs60, hs_z⟩, hkn⟩ := Zct_kn hc0
  obtain ⟨⟨s', hs60', hs'⟩, hkn'⟩ := Zct_kn hc1
  refine Zs_aald hX (List.cons_ne_nil _ _) (by decide) rfl (by decide) (j := 0) rfl (by decide) (by decide) rfl ?_
  refine Zgo hX 3 rfl (by (first | exact True.intro | assumption | (dsimp only [ZallP]; and_intros <;> (first | assumption | decide | omega | ((try simp (disch := omega) only [pk_mul, nI_add, Zcl_n]); exact Zin_n (by omega) (by decide)))))) ?_
  refine Zs_aald hX (List.cons_ne_nil _ _) (by decide) rfl (by decide) (j := 0) rfl (by decide) (by decide) rfl ?_
  refine Zs_callv hX (List.cons_ne_nil _ _) (k_tcopy27 s_z M9 hs_z hs60 hkn) (by first | decide | omega) (by decide) rfl rfl rfl (by decide) (Nat.le_of_ble_eq_true rfl) (fun r_z M' hc_z => ?_)
  obtain ⟨rfl, hM1⟩ := hc_z
  have l1 : ∀ o_z k_z, o_z ≠ 28 → ¬ (o_z = 27 ∧ (k_z = 0 ∨ k_z = 2)) → M' o_z k_z = M9 o_z k_z := fun o_z k_z h1_z h2_z => by rw [← hM1, Zu_o (by omega), Ztk_o h1_z h2_z]
  have hq0 : Zct M' 27 0 f_z := Zct_cp hc0 hs_z hs60 (by rw [← hM1, Zu_s]) (by rw [← hM1, Zu_o (by omega), Ztk_2]) (fun i_z hi_z => by rw [← hM1, Zu_o (by omega), Ztk_i (by decide) hi_z])
  have hc1' : Zct M' 14 1 f_z := Zct_kp hc1 (l1 _ _ (by decide) (by decide)) (l1 _ _ (by decide) (by decide)) (fun i_z => l1 _ _ (by decide) (fun q_z => absurd q_z.1 (by decide))) (fun _ _ _ => rfl)
  have hsx : M' 14 2 = nI s' := (l1 _ _ (by decide) (by decide)).trans hs'
  have hkx : M' 14 0 = nI 0 ∨ M' 14 0 = nI 1 := by rw [l1 _ _ (by decide) (by decide)]; exact hkn'
  clear hM1
  refine Zgo hX 3 rfl (by (first | exact True.intro | assumption | (dsimp only [ZallP]; and_intros <;> (first | assumption | decide | omega | ((try simp (disch := omega) only [pk_mul, nI_add, Zcl_n]); exact Zin_n (by omega) (by decide)))))) ?_
  refine Zs_aald hX (List.cons_ne_nil _ _) (by decide) rfl (by decide) (j := 1) rfl (by decide) (by decide) rfl ?_
  refine Zgo hX 3 rfl (by (first | exact True.intro | assumption | (dsimp only [ZallP]; and_intros <;> (first | assumption | decide | omega | ((try simp (disch := omega) only [pk_mul, nI_add, Zcl_n]); exact Zin_n (by omega) (by decide)))))) ?_
  refine Zs_aald hX (List.cons_ne_nil _ _) (by decide) rfl (by decide) (j := 1) rfl (by decide) (by decide) rfl ?_
  refine Zs_callv hX (List.cons_ne_nil _ _) (k_tcopy30 s' M' hsx hs60' hkx) (by first | decide | omega) (by decide) rfl rfl rfl (by decide) (Nat.le_of_ble_eq_true rfl) (fun r_z M' hc_z => ?_)
  obtain ⟨rfl, rfl⟩ := hc_z
  have l2 : ∀ o_z k_z, o_z ≠ 31 → ¬ (o_z = 30 ∧ (k_z = 0 ∨ k_z = 2)) → (Zu (Ztk 30 15 s' M') 30 0 (M' 14 0)) o_z k_z = M' o_z k_z := fun o_z k_z h1_z h2_z => by rw [Zu_o (by omega), Ztk_o h1_z h2_z]
  have l3 : ∀ o_z k_z, (o_z < 27 ∨ 32 < o_z) → (Zu (Ztk 30 15 s' M') 30 0 (M' 14 0)) o_z k_z = M9 o_z k_z := fun o_z k_z h_z => (l2 o_z k_z (by omega) (by omega)).trans (l1 o_z k_z (by omega) (by omega))
  refine Zs_retv hX hE rfl ⟨rfl, ⟨⟨(l3 _ _ (by omega)).trans k1_z.1, (l3 _ _ (by omega)).trans k1_z.2.1, (l3 _ _ (by omega)).trans k1_z.2.2.1, (l3 _ _ (by omega)).trans k1_z.2.2.2.1, (l3 _ _ (by omega)).trans k1_z.2.2.2.2.1, (l3 _ _ (by omega)).trans k1_z.2.2.2.2.2.1, (l3 _ _ (by omega)).trans k1_z.2.2.2.2.2.2.1, (l3 _ _ (by omega)).trans k1_z.2.2.2.2.2.2.2⟩, fun i_z hi_z => ⟨(l3 _ _ (by omega)).trans (k2_z i_z hi_z).1, (l3 _ _ (by omega)).trans (k2_z i_z hi_z).2.1, (l3 _ _ (by omega)).trans (k2_z i_z hi_z).2.2.1, (l3 _ _ (by omega)).trans (k2_z i_z hi_z).2.2.2.1, (l3 _ _ (by omega)).trans (k2_z i_z hi_z).2.2.2.2⟩, fun i_z hi_z => (l3 _ _ (by omega)).trans (k3 i_z hi_z), fun i_z hi_z => (l3 _ _ (by omega)).trans (k4 i_z hi_z), Zct_kp hq0 (l2 _ _ (by decide) (by decide)) (l2 _ _ (by decide) (by decide)) (fun i_z => l2 _ _ (by decide) (fun q_z => absurd q_z.1 (by decide))) (fun _ _ _ => rfl), Zct_cp hc1' hsx hs60' (by rw [Zu_s]) (by rw [Zu_o (by omega), Ztk_2]) (fun i_z hi_z => by rw [Zu_o (by omega), Ztk_i (by decide) hi_z])⟩, fun o_z k_z h_z => (l3 o_z k_z (by omega)).trans (k5 o_z k_z (by omega))⟩

set_option maxRecDepth 20000 in
set_option maxHeartbeats 4000000 in
theorem k_copy1 (f_z : Nat → Int32) (M : Zmem) (hz_z : Zrv 17 f_z M) : ZC 167 4 [.ref 1, .ref 17] M (fun r_z M' => r_z = none ∧ Zrv 1 f_z M' ∧ ∀ o_z k_z, (o_z < 1 ∨ 16 < o_z) → M' o_z k_z = M o_z k_z) := by
  refine ZC_of Zt167 Zk167 (Nat.le_of_ble_eq_true rfl) (by decide) rfl (fun X hX hE => ?_)
  refine Zgo hX 7 rfl (by (first | exact True.intro | assumption | (dsimp only [ZallP]; and_intros <;> (first | assumption | decide | omega | ((try simp (disch := omega) only [pk_mul, nI_add, Zcl_n]); exact Zin_n (by omega) (by decide)))))) ?_
  refine Zs_cp 15 hX (List.cons_ne_nil _ _) (by decide) (by decide) (by decide) (Or.inl rfl) rfl rfl (by decide) (by decide) (by decide) (fun q_z => absurd q_z (by decide)) (by decide) ?_
  refine Zgo hX 7 rfl (by (first | exact True.intro | assumption | (dsimp only [ZallP]; and_intros <;> (first | assumption | decide | omega | ((try simp (disch := omega) only [pk_mul, nI_add, Zcl_n]); exact Zin_n (by omega) (by decide)))))) ?_
  refine Zs_cp 15 hX (List.cons_ne_nil _ _) (by decide) (by decide) (by decide) (Or.inl rfl) rfl rfl (by decide) (by decide) (by decide) (fun q_z => absurd q_z (by decide)) (by decide) ?_
  refine Zgo hX 7 rfl (by (first | exact True.intro | assumption | (dsimp only [ZallP]; and_intros <;> (first | assumption | decide | omega | ((try simp (disch := omega) only [pk_mul, nI_add, Zcl_n]); exact Zin_n (by omega) (by decide)))))) ?_
  refine Zs_cp 15 hX (List.cons_ne_nil _ _) (by decide) (by decide) (by decide) (Or.inl rfl) rfl rfl (by decide) (by decide) (by decide) (fun q_z => absurd q_z (by decide)) (by decide) ?_
  refine Zgo hX 7 rfl (by (first | exact True.intro | assumption | (dsimp only [ZallP]; and_intros <;> (first | assumption | decide | omega | ((try simp (disch := omega) only [pk_mul, nI_add, Zcl_n]); exact Zin_n (by omega) (by decide)))))) ?_
  refine Zs_cp 15 hX (List.cons_ne_nil _ _) (by decide) (by decide) (by decide) (Or.inl rfl) rfl rfl (by decide) (by decide) (by decide) (fun q_z => absurd q_z (by decide)) (by decide) ?_
  refine Zgo hX 7 rfl (by (first | exact True.intro | assumption | (dsimp only [ZallP]; and_intros <;> (first | assumption | decide | omega | ((try simp (disch := omega) only [pk_mul, nI_add, Zcl_n]); exact Zin_n (by omega) (by decide)))))) ?_
  refine Zs_cp 15 hX (List.cons_ne_nil _ _) (by decide) (by decide) (by decide) (Or.inl rfl) rfl rfl (by decide) (by decide) (by decide) (fun q_z => absurd q_z (by decide)) (by decide) ?_
  refine Zgo hX 31 rfl (by (first | exact True.intro | assumption | (dsimp only [ZallP]; and_intros <;> (first | assumption | decide | omega | ((try simp (disch := omega) only [pk_mul, nI_add, Zcl_n]); exact Zin_n (by omega) (by decide)))))) ?_
  refine Zs_cp 60 hX (List.cons_ne_nil _ _) (by decide) (by decide) (by decide) (Or.inr rfl) rfl rfl (by decide) (by decide) (by decide) (fun _ j_z hj_z => (show fits .byte (.int (M 23 j_z)) = true by rw [hz_z.2.2.1 j_z hj_z]; exact Zsb_fits _)) (by decide) ?_
  refine Zgo hX 11 rfl (by (first | exact True.intro | assumption | (dsimp only [ZallP]; and_intros <;> (first | assumption | decide | omega | ((try simp (disch := omega) only [pk_mul, nI_add, Zcl_n]); exact Zin_n (by omega) (by decide)))))) ?_
  refine Zs_cp 24 hX (List.cons_ne_nil _ _) (by decide) (by decide) (by decide) (Or.inl rfl) rfl rfl (by decide) (by decide) (by decide) (fun q_z => absurd q_z (by decide)) (by decide) ?_
  refine Zgo hX 7 rfl (by (first | exact True.intro | assumption | (dsimp only [ZallP]; and_intros <;> (first | assumption | decide | omega | ((try simp (disch := omega) only [pk_mul, nI_add, Zcl_n]); exact Zin_n (by omega) (by decide)))))) ?_
  refine Zs_abs (fun M9 => Zmid 1 17 f_z M M9) ⟨⟨hz_z.1.1, hz_z.1.2.1, hz_z.1.2.2.1, hz_z.1.2.2.2.1, hz_z.1.2.2.2.2.1, hz_z.1.2.2.2.2.2.1, hz_z.1.2.2.2.2.2.2.1, hz_z.1.2.2.2.2.2.2.2⟩, fun i_z hi_z => ⟨(show va_cpy (M 18) (M 2) 0 0 15 i_z = _ from Zcpy_i hi_z (hz_z.2.1 i_z hi_z).1), (show va_cpy (M 19) (M 3) 0 0 15 i_z = _ from Zcpy_i hi_z (hz_z.2.1 i_z hi_z).2.1), (show va_cpy (M 20) (M 4) 0 0 15 i_z = _ from Zcpy_i hi_z (hz_z.2.1 i_z hi_z).2.2.1), (show va_cpy (M 21) (M 5) 0 0 15 i_z = _ from Zcpy_i hi_z (hz_z.2.1 i_z hi_z).2.2.2.1), (show va_cpy (M 22) (M 6) 0 0 15 i_z = _ from Zcpy_i hi_z (hz_z.2.1 i_z hi_z).2.2.2.2)⟩, fun i_z hi_z => (show va_cpy (M 23) (M 7) 0 0 60 i_z = _ from Zcpy_i hi_z (hz_z.2.2.1 i_z hi_z)), fun i_z hi_z => (show va_cpy (M 24) (M 8) 0 0 24 i_z = _ from Zcpy_i hi_z (hz_z.2.2.2.1 i_z hi_z)), fun o_z k_z ho => by
    have n1_z : o_z ≠ 1 := by omega
    have n2_z : o_z ≠ 2 := by omega
    have n3 : o_z ≠ 3 := by omega
    have n4 : o_z ≠ 4 := by omega
    have n5 : o_z ≠ 5 := by omega
    have n6 : o_z ≠ 6 := by omega
    have n7 : o_z ≠ 7 := by omega
    have n8 : o_z ≠ 8 := by omega
    simp only [Zcpy, Zu, n1_z, n2_z, n3, n4, n5, n6, n7, n8, if_false]⟩ (fun M9 h9_z => ?_)
  obtain ⟨k1_z, k2_z, k3, k4, k5⟩ := h9_z
  have hc0 : Zct M9 27 0 f_z := Zct_kp hz_z.2.2.2.2.1 (k5 _ _ (by omega)) (k5 _ _ (by omega)) (fun i_z => k5 _ _ (by omega)) (fun _ _ _ => rfl)
  have hc1 : Zct M9 30 1 f_z := Zct_kp hz_z.2.2.2.2.2 (k5 _ _ (by omega)) (k5 _ _ (by omega)) (fun i_z => k5 _ _ (by omega)) (fun _ _ _ => rfl)
  obtain ⟨⟨s_z, hs60, hs_z⟩, hkn⟩ := Zct_kn hc0
  obtain ⟨⟨s', hs60', hs'⟩, hkn'⟩ := Zct_kn hc1
  refine Zs_aald hX (List.cons_ne_nil _ _) (by decide) rfl (by decide) (j := 0) rfl (by decide) (by decide) rfl ?_
  refine Zgo hX 3 rfl (by (first | exact True.intro | assumption | (dsimp only [ZallP]; and_intros <;> (first | assumption | decide | omega | ((try simp (disch := omega) only [pk_mul, nI_add, Zcl_n]); exact Zin_n (by omega) (by decide)))))) ?_
  refine Zs_aald hX (List.cons_ne_nil _ _) (by decide) rfl (by decide) (j := 0) rfl (by decide) (by decide) rfl ?_
  refine Zs_callv hX (List.cons_ne_nil _ _) (k_tcopy11 s_z M9 hs_z hs60 hkn) (by first | decide | omega) (by decide) rfl rfl rfl (by decide) (Nat.le_of_ble_eq_true rfl) (fun r_z M' hc_z => ?_)
  obtain ⟨rfl, hM1⟩ := hc_z
  have l1 : ∀ o_z k_z, o_z ≠ 12 → ¬ (o_z = 11 ∧ (k_z = 0 ∨ k_z = 2)) → M' o_z k_z = M9 o_z k_z := fun o_z k_z h1_z h2_z => by rw [← hM1, Zu_o (by omega), Ztk_o h1_z h2_z]
  have hq0 : Zct M' 11 0 f_z := Zct_cp hc0 hs_z hs60 (by rw [← hM1, Zu_s]) (by rw [← hM1, Zu_o (by omega), Ztk_2]) (fun i_z hi_z => by rw [← hM1, Zu_o (by omega), Ztk_i (by decide) hi_z])
  have hc1' : Zct M' 30 1 f_z := Zct_kp hc1 (l1 _ _ (by decide) (by decide)) (l1 _ _ (by decide) (by decide)) (fun i_z => l1 _ _ (by decide) (fun q_z => absurd q_z.1 (by decide))) (fun _ _ _ => rfl)
  have hsx : M' 30 2 = nI s' := (l1 _ _ (by decide) (by decide)).trans hs'
  have hkx : M' 30 0 = nI 0 ∨ M' 30 0 = nI 1 := by rw [l1 _ _ (by decide) (by decide)]; exact hkn'
  clear hM1
  refine Zgo hX 3 rfl (by (first | exact True.intro | assumption | (dsimp only [ZallP]; and_intros <;> (first | assumption | decide | omega | ((try simp (disch := omega) only [pk_mul, nI_add, Zcl_n]); exact Zin_n (by omega) (by decide)))))) ?_
  refine Zs_aald hX (List.cons_ne_nil _ _) (by decide) rfl (by decide) (j := 1) rfl (by decide) (by decide) rfl ?_
  refine Zgo hX 3 rfl (by (first | exact True.intro | assumption | (dsimp only [ZallP]; and_intros <;> (first | assumption | decide | omega | ((try simp (disch := omega) only [pk_mul, nI_add, Zcl_n]); exact Zin_n (by omega) (by decide)))))) ?_
  refine Zs_aald hX (List.cons_ne_nil _ _) (by decide) rfl (by decide) (j := 1) rfl (by decide) (by decide) rfl ?_
  refine Zs_callv hX (List.cons_ne_nil _ _) (k_tcopy14 s' M' hsx hs60' hkx) (by first | decide | omega) (by decide) rfl rfl rfl (by decide) (Nat.le_of_ble_eq_true rfl) (fun r_z M' hc_z => ?_)
  obtain ⟨rfl, rfl⟩ := hc_z
  have l2 : ∀ o_z k_z, o_z ≠ 15 → ¬ (o_z = 14 ∧ (k_z = 0 ∨ k_z = 2)) → (Zu (Ztk 14 31 s' M') 14 0 (M' 30 0)) o_z k_z = M' o_z k_z := fun o_z k_z h1_z h2_z => by rw [Zu_o (by omega), Ztk_o h1_z h2_z]
  have l3 : ∀ o_z k_z, (o_z < 11 ∨ 16 < o_z) → (Zu (Ztk 14 31 s' M') 14 0 (M' 30 0)) o_z k_z = M9 o_z k_z := fun o_z k_z h_z => (l2 o_z k_z (by omega) (by omega)).trans (l1 o_z k_z (by omega) (by omega))
  refine Zs_retv hX hE rfl ⟨rfl, ⟨⟨(l3 _ _ (by omega)).trans k1_z.1, (l3 _ _ (by omega)).trans k1_z.2.1, (l3 _ _ (by omega)).trans k1_z.2.2.1, (l3 _ _ (by omega)).trans k1_z.2.2.2.1, (l3 _ _ (by omega)).trans k1_z.2.2.2.2.1, (l3 _ _ (by omega)).trans k1_z.2.2.2.2.2.1, (l3 _ _ (by omega)).trans k1_z.2.2.2.2.2.2.1, (l3 _ _ (by omega)).trans k1_z.2.2.2.2.2.2.2⟩, fun i_z hi_z => ⟨(l3 _ _ (by omega)).trans (k2_z i_z hi_z).1, (l3 _ _ (by omega)).trans (k2_z i_z hi_z).2.1, (l3 _ _ (by omega)).trans (k2_z i_z hi_z).2.2.1, (l3 _ _ (by omega)).trans (k2_z i_z hi_z).2.2.2.1, (l3 _ _ (by omega)).trans (k2_z i_z hi_z).2.2.2.2⟩, fun i_z hi_z => (l3 _ _ (by omega)).trans (k3 i_z hi_z), fun i_z hi_z => (l3 _ _ (by omega)).trans (k4 i_z hi_z), Zct_kp hq0 (l2 _ _ (by decide) (by decide)) (l2 _ _ (by decide) (by decide)) (fun i_z => l2 _ _ (by decide) (fun q_z => absurd q_z.1 (by decide))) (fun _ _ _ => rfl), Zct_cp hc1' hsx hs60' (by rw [Zu_s]) (by rw [Zu_o (by omega), Ztk_2]) (fun i_z hi_z => by rw [Zu_o (by omega), Ztk_i (by decide) hi_z])⟩, fun o_z k_z h_z => (l3 o_z k_z (by omega)).trans (k5 o_z k_z (by omega))⟩

set_option maxRecDepth 20000 in
set_option maxHeartbeats 1000000 in
theorem k_image (f_z : Nat → Int32) (M : Zmem) (hz_z : Zrv 1 f_z M) : ZC 31 5 [.ref 0] M (fun r_z M' => r_z = some (.int (M 0 8 + nI 1)) ∧ Zrv 17 f_z M' ∧ M' 0 8 = M 0 8 + nI 1 ∧ ∀ o_z k_z, ¬ (17 ≤ o_z ∧ o_z ≤ 32) → ¬ (o_z = 0 ∧ k_z = 8) → M' o_z k_z = M o_z k_z) := by
  refine ZC_of Zt31 Zk31 (Nat.le_of_ble_eq_true rfl) (by decide) rfl (fun X hX hE => ?_)
  refine Zgo hX 4 rfl (by (first | exact True.intro | assumption | (dsimp only [ZallP]; and_intros <;> (first | assumption | decide | omega | ((try simp (disch := omega) only [pk_mul, nI_add, Zcl_n]); exact Zin_n (by omega) (by decide)))))) ?_
  refine Zs_callv hX (List.cons_ne_nil _ _) (k_copy17 f_z M hz_z) (by first | decide | omega) (by decide) rfl rfl rfl (by decide) (Nat.le_of_ble_eq_true rfl) (fun r_z M' hc_z => ?_)
  obtain ⟨rfl, hz2, hk2⟩ := hc_z
  refine Zgo hX 8 rfl (by (first | exact True.intro | assumption | (dsimp only [ZallP]; and_intros <;> (first | assumption | decide | omega | ((try simp (disch := omega) only [pk_mul, nI_add, Zcl_n]); exact Zin_n (by omega) (by decide)))))) ?_
  rw [hk2 0 8 (by omega)]
  refine Zs_ret hX hE rfl ⟨by first | rfl | rw [Zu_s], Zrv_kp hz2 (Or.inr rfl) (fun o_z k_z _ h1_z h2_z => Zu_o (by omega)), by rw [Zu_s], fun o_z k_z h1_z h2_z => (Zu_o h2_z).trans (hk2 o_z k_z (by omega))⟩

set_option maxRecDepth 20000 in
set_option maxHeartbeats 1000000 in
theorem k_restore (f_z : Nat → Int32) (M : Zmem) (hz_z : ¬ M 0 8 = 0 → Zrv 17 f_z M) : ZC 32 5 [.ref 0] M (fun r_z M' => (M 0 8 = 0 ∧ r_z = some (.int (Er 2)) ∧ Sc M M') ∨ (¬ M 0 8 = 0 ∧ r_z = some (.int (f_z 2)) ∧ Zrv 1 f_z M' ∧ ∀ o_z k_z, ¬ (1 ≤ o_z ∧ o_z ≤ 16) → M' o_z k_z = M o_z k_z)) := by
  refine ZC_of Zt32 Zk32 (Nat.le_of_ble_eq_true rfl) (by decide) rfl (fun X hX hE => ?_)
  refine Zgo hX 2 rfl (by (first | exact True.intro | assumption | (dsimp only [ZallP]; and_intros <;> (first | assumption | decide | omega | ((try simp (disch := omega) only [pk_mul, nI_add, Zcl_n]); exact Zin_n (by omega) (by decide)))))) ?_
  refine Zs_ne hX (List.cons_ne_nil _ _) (fun h_z => ?_) (fun h_z => ?_)
  · refine Zgo hX 4 rfl (by (first | exact True.intro | assumption | (dsimp only [ZallP]; and_intros <;> (first | assumption | decide | omega | ((try simp (disch := omega) only [pk_mul, nI_add, Zcl_n]); exact Zin_n (by omega) (by decide)))))) ?_
    refine Zs_callv hX (List.cons_ne_nil _ _) (k_copy1 f_z M (hz_z h_z)) (by first | decide | omega) (by decide) rfl rfl rfl (by decide) (Nat.le_of_ble_eq_true rfl) (fun r_z M' hc_z => ?_)
    obtain ⟨rfl, hz2, hk2⟩ := hc_z
    refine Zgo hX 3 rfl (by (first | exact True.intro | assumption | (dsimp only [ZallP]; and_intros <;> (first | assumption | decide | omega | ((try simp (disch := omega) only [pk_mul, nI_add, Zcl_n]); exact Zin_n (by omega) (by decide)))))) ?_
    rw [hz2.1.2.2.2.1]
    refine Zs_ret hX hE rfl (Or.inr ⟨h_z, rfl, hz2, fun o_z k_z h1_z => hk2 o_z k_z (by omega)⟩)
  · refine Zgo hX 2 rfl (by (first | exact True.intro | assumption | (dsimp only [ZallP]; and_intros <;> (first | assumption | decide | omega | ((try simp (disch := omega) only [pk_mul, nI_add, Zcl_n]); exact Zin_n (by omega) (by decide)))))) ?_
    refine Zs_callv hX (List.cons_ne_nil _ _) (k_refuse 2 _ (by decide)) (by first | decide | omega) (by decide) rfl rfl rfl (by decide) (Nat.le_of_ble_eq_true rfl) (fun r_z M' hc_z => ?_)
    obtain ⟨rfl, hsc⟩ := hc_z
    refine Zs_ret hX hE rfl (Or.inl ⟨h_z, rfl, hsc⟩)

set_option maxRecDepth 20000 in
set_option maxHeartbeats 1000000 in
theorem s_copyAll55 (M : Zmem) : ZC 53 0 [.ref 54, .ref 55] M (fun r_z M' => r_z = none ∧ (∀ j_z, j_z < 418 → M' 55 j_z = M 54 j_z) ∧ ∀ o_z, o_z ≠ 55 → M' o_z = M o_z) := by
  refine ZC_of Zt53 Zk53 (Nat.le_of_ble_eq_true rfl) (by decide) rfl (fun X hX hE => ?_)
  have L : ∀ (q_z k_z : Nat) (M1 : Zmem), 418 - k_z < q_z → k_z ≤ 418 → (∀ j_z, j_z < k_z → M1 55 j_z = M 54 j_z) → (∀ o_z, o_z ≠ 55 → M1 o_z = M o_z) → ZP X Zt53 (Zsf Zt53 2) [(2, .int (nI k_z)), (0, .ref 54), (1, .ref 55)] [] M1 := by
    intro q_z
    induction q_z with
    | zero => intro k_z M1 hq_z; exact absurd hq_z (Nat.not_lt_zero _)
    | succ q_z ih_z =>
      intro k_z M1 hq_z hk_z hd_z hs_z
      refine Zgo hX 2 rfl (by (first | exact True.intro | assumption | (dsimp only [ZallP]; and_intros <;> (first | assumption | decide | omega | ((try simp (disch := omega) only [pk_mul, nI_add, Zcl_n]); exact Zin_n (by omega) (by decide)))))) ?_
      refine Zs_ige hX (List.cons_ne_nil _ _) (fun h_z => ?_) (fun h_z => ?_)
      · obtain rfl : k_z = 418 := by have := (Zn_le (by omega) (by omega)).mp h_z; omega
        refine Zs_retv hX hE rfl ⟨rfl, hd_z, hs_z⟩
      · have hlt : k_z < 418 := (Nat.lt_or_ge k_z 418).elim id (fun q_z => absurd ((Zn_le (by omega) (by omega)).mpr q_z) h_z)
        refine Zgo hX 8 rfl (by dsimp only [ZallP]; exact ⟨Zin_n (by omega) (by decide), Zin_n (by omega) (by decide)⟩) ?_
        rw [Zcl_n (show k_z < 2 ^ 31 by omega), nI_add, hs_z 54 (by decide)]
        refine Zs_sub (l' := [(2, .int (nI (k_z + 1))), (0, .ref 54), (1, .ref 55)]) rfl ?_
        refine ih_z (k_z + 1) _ (by omega) hlt (fun j_z hj_z => ?_) (fun o_z ho => by rw [Zu_ne _ _ _ ho]; exact hs_z o_z ho)
        by_cases e_z : j_z = k_z
        · subst e_z; rw [Zu_s]
        · rw [Zu_o (by omega)]; exact hd_z j_z (by omega)
  refine Zgo hX 2 rfl (by (first | exact True.intro | assumption | (dsimp only [ZallP]; and_intros <;> (first | assumption | decide | omega | ((try simp (disch := omega) only [pk_mul, nI_add, Zcl_n]); exact Zin_n (by omega) (by decide)))))) ?_
  refine Zs_sub (l' := [(2, .int (nI 0)), (0, .ref 54), (1, .ref 55)]) rfl ?_
  exact L 419 0 M (by decide) (by decide) (fun j_z hj_z => absurd hj_z (Nat.not_lt_zero _)) (fun o_z _ => rfl)

set_option maxRecDepth 20000 in
set_option maxHeartbeats 1000000 in
theorem s_copyAll54 (M : Zmem) : ZC 53 0 [.ref 55, .ref 54] M (fun r_z M' => r_z = none ∧ (∀ j_z, j_z < 418 → M' 54 j_z = M 55 j_z) ∧ ∀ o_z, o_z ≠ 54 → M' o_z = M o_z) := by
  refine ZC_of Zt53 Zk53 (Nat.le_of_ble_eq_true rfl) (by decide) rfl (fun X hX hE => ?_)
  have L : ∀ (q_z k_z : Nat) (M1 : Zmem), 418 - k_z < q_z → k_z ≤ 418 → (∀ j_z, j_z < k_z → M1 54 j_z = M 55 j_z) → (∀ o_z, o_z ≠ 54 → M1 o_z = M o_z) → ZP X Zt53 (Zsf Zt53 2) [(2, .int (nI k_z)), (0, .ref 55), (1, .ref 54)] [] M1 := by
    intro q_z
    induction q_z with
    | zero => intro k_z M1 hq_z; exact absurd hq_z (Nat.not_lt_zero _)
    | succ q_z ih_z =>
      intro k_z M1 hq_z hk_z hd_z hs_z
      refine Zgo hX 2 rfl (by (first | exact True.intro | assumption | (dsimp only [ZallP]; and_intros <;> (first | assumption | decide | omega | ((try simp (disch := omega) only [pk_mul, nI_add, Zcl_n]); exact Zin_n (by omega) (by decide)))))) ?_
      refine Zs_ige hX (List.cons_ne_nil _ _) (fun h_z => ?_) (fun h_z => ?_)
      · obtain rfl : k_z = 418 := by have := (Zn_le (by omega) (by omega)).mp h_z; omega
        refine Zs_retv hX hE rfl ⟨rfl, hd_z, hs_z⟩
      · have hlt : k_z < 418 := (Nat.lt_or_ge k_z 418).elim id (fun q_z => absurd ((Zn_le (by omega) (by omega)).mpr q_z) h_z)
        refine Zgo hX 8 rfl (by dsimp only [ZallP]; exact ⟨Zin_n (by omega) (by decide), Zin_n (by omega) (by decide)⟩) ?_
        rw [Zcl_n (show k_z < 2 ^ 31 by omega), nI_add, hs_z 55 (by decide)]
        refine Zs_sub (l' := [(2, .int (nI (k_z + 1))), (0, .ref 55), (1, .ref 54)]) rfl ?_
        refine ih_z (k_z + 1) _ (by omega) hlt (fun j_z hj_z => ?_) (fun o_z ho => by rw [Zu_ne _ _ _ ho]; exact hs_z o_z ho)
        by_cases e_z : j_z = k_z
        · subst e_z; rw [Zu_s]
        · rw [Zu_o (by omega)]; exact hd_z j_z (by omega)
  refine Zgo hX 2 rfl (by (first | exact True.intro | assumption | (dsimp only [ZallP]; and_intros <;> (first | assumption | decide | omega | ((try simp (disch := omega) only [pk_mul, nI_add, Zcl_n]); exact Zin_n (by omega) (by decide)))))) ?_
  refine Zs_sub (l' := [(2, .int (nI 0)), (0, .ref 55), (1, .ref 54)]) rfl ?_
  exact L 419 0 M (by decide) (by decide) (fun j_z hj_z => absurd hj_z (Nat.not_lt_zero _)) (fun o_z _ => rfl)

set_option maxRecDepth 20000 in
set_option maxHeartbeats 1000000 in
theorem s_image (M : Zmem) : ZC 130 1 [.ref 53] M (fun r_z M' => r_z = some (.int (M 53 2 + nI 1)) ∧ (∀ j_z, j_z < 418 → M' 55 j_z = M 54 j_z) ∧ M' 53 2 = M 53 2 + nI 1 ∧ ∀ o_z k_z, o_z ≠ 55 → ¬ (o_z = 53 ∧ k_z = 2) → M' o_z k_z = M o_z k_z) := by
  refine ZC_of Zt130 Zk130 (Nat.le_of_ble_eq_true rfl) (by decide) rfl (fun X hX hE => ?_)
  refine Zgo hX 4 rfl (by (first | exact True.intro | assumption | (dsimp only [ZallP]; and_intros <;> (first | assumption | decide | omega | ((try simp (disch := omega) only [pk_mul, nI_add, Zcl_n]); exact Zin_n (by omega) (by decide)))))) ?_
  refine Zs_calls hX (List.cons_ne_nil _ _) (by decide) (s_copyAll55 M) (by first | decide | omega) rfl rfl (by decide) (Nat.le_of_ble_eq_true rfl) (fun r_z M' hc_z => ?_)
  obtain ⟨rfl, hd_z, hs_z⟩ := hc_z
  refine Zgo hX 8 rfl (by (first | exact True.intro | assumption | (dsimp only [ZallP]; and_intros <;> (first | assumption | decide | omega | ((try simp (disch := omega) only [pk_mul, nI_add, Zcl_n]); exact Zin_n (by omega) (by decide)))))) ?_
  rw [hs_z 53 (by decide)]
  refine Zs_ret hX hE rfl ⟨by first | rfl | rw [Zu_s], fun j_z hj_z => (Zu_o (by omega)).trans (hd_z j_z hj_z), by rw [Zu_s], fun o_z k_z h1_z h2_z => by rw [Zu_o h2_z, hs_z o_z h1_z]⟩

set_option maxRecDepth 20000 in
set_option maxHeartbeats 1000000 in
theorem s_restore (M : Zmem) : ZC 131 1 [.ref 53] M (fun r_z M' => (M 53 2 = 0 ∧ r_z = some (.int (Er 2)) ∧ Sc M M') ∨ (¬ M 53 2 = 0 ∧ r_z = some (.int (M 55 2)) ∧ (∀ j_z, j_z < 418 → M' 54 j_z = M 55 j_z) ∧ ∀ o_z, o_z ≠ 54 → M' o_z = M o_z)) := by
  refine ZC_of Zt131 Zk131 (Nat.le_of_ble_eq_true rfl) (by decide) rfl (fun X hX hE => ?_)
  refine Zgo hX 2 rfl (by (first | exact True.intro | assumption | (dsimp only [ZallP]; and_intros <;> (first | assumption | decide | omega | ((try simp (disch := omega) only [pk_mul, nI_add, Zcl_n]); exact Zin_n (by omega) (by decide)))))) ?_
  refine Zs_ne hX (List.cons_ne_nil _ _) (fun h_z => ?_) (fun h_z => ?_)
  · refine Zgo hX 4 rfl (by (first | exact True.intro | assumption | (dsimp only [ZallP]; and_intros <;> (first | assumption | decide | omega | ((try simp (disch := omega) only [pk_mul, nI_add, Zcl_n]); exact Zin_n (by omega) (by decide)))))) ?_
    refine Zs_calls hX (List.cons_ne_nil _ _) (by decide) (s_copyAll54 M) (by first | decide | omega) rfl rfl (by decide) (Nat.le_of_ble_eq_true rfl) (fun r_z M' hc_z => ?_)
    obtain ⟨rfl, hd_z, hs_z⟩ := hc_z
    refine Zgo hX 4 rfl (Zin_n (by decide) (by decide)) ?_
    simp (disch := omega) only [Zcl_n, pk_mul, nI_add, Zu_s, Zu_o]
    rw [hd_z 2 (by decide)]
    refine Zs_ret hX hE rfl (Or.inr ⟨h_z, rfl, hd_z, hs_z⟩)
  · refine Zgo hX 2 rfl (by (first | exact True.intro | assumption | (dsimp only [ZallP]; and_intros <;> (first | assumption | decide | omega | ((try simp (disch := omega) only [pk_mul, nI_add, Zcl_n]); exact Zin_n (by omega) (by decide)))))) ?_
    refine Zs_callv hX (List.cons_ne_nil _ _) (s_error 2 _ (by decide)) (by first | decide | omega) (by decide) rfl rfl rfl (by decide) (Nat.le_of_ble_eq_true rfl) (fun r_z M' hc_z => ?_)
    obtain ⟨rfl, hsc⟩ := hc_z
    refine Zs_ret hX hE rfl (Or.inl ⟨h_z, rfl, hsc⟩)
