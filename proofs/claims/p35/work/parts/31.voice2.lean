set_option maxRecDepth 20000 in
set_option maxHeartbeats 1000000 in
theorem s_starts (kd_z row_z m_z : Nat) (b_z : Int32) (M : Zmem) (hv_z : Zso kd_z row_z m_z M) : ZC 113 0 [.ref 53, .int b_z] M (fun r_z M' => r_z = none ∧ Zhw M M' ∧ Zso kd_z row_z m_z M' ∧ M' 53 22 = M 53 22) := by
  refine ZC_of Zt113 Zk113 (Nat.le_of_ble_eq_true rfl) (by decide) rfl (fun X hX hE => ?_)
  obtain ⟨g0, g1, g2, g3, a_z, ha_z, g4⟩ := id hv_z
  refine Zgo hX 3 rfl (by (first | exact True.intro | assumption | (dsimp only [ZallP]; and_intros <;> (first | assumption | decide | omega | ((try simp (disch := omega) only [pk_mul, nI_add, Zcl_n]); exact Zin_n (by omega) (by decide)))))) ?_
  rw [g4]
  refine Zs_ige hX (List.cons_ne_nil _ _) (fun h_z => ?_) (fun h_z => ?_)
  · refine Zs_retv hX hE rfl ⟨rfl, Zhw.rf _, hv_z, rfl⟩
  · have hlt : a_z < 30 := (Nat.lt_or_ge a_z 30).elim id (fun q_z => absurd ((Zn_le (by decide) (by omega)).mpr q_z) h_z)
    refine Zgo hX 12 rfl (by show vp_in (M 53 19) 30; rw [g4]; exact Zin_n (by omega) (by decide)) ?_
    rw [g4, Zcl_n (show a_z < 2 ^ 31 by omega), show (Zu M 65 a_z b_z) 53 19 = nI a_z from g4, nI_add]
    refine Zs_retv hX hE rfl ⟨rfl, ((Zhw.rf M).u _ (Or.inl rfl)).u _ (Or.inr ⟨rfl, rfl⟩), ⟨g0, g1, g2, g3, a_z + 1, by omega, rfl⟩, rfl⟩

set_option maxRecDepth 20000 in
set_option maxHeartbeats 1000000 in
theorem s_kindNow (kd_z row_z m_z : Nat) (M : Zmem) (hv_z : Zso kd_z row_z m_z M) : ZC 115 1 [.ref 53] M (fun r_z M' => r_z = some (.int (nI kd_z)) ∧ M = M') := by
  refine ZC_of Zt115 Zk115 (Nat.le_of_ble_eq_true rfl) (by decide) rfl (fun X hX hE => ?_)
  obtain ⟨g0, g1, g2, g3, -⟩ := hv_z
  refine Zgo hX 4 rfl (by (first | exact True.intro | assumption | (dsimp only [ZallP]; and_intros <;> (first | assumption | decide | omega | ((try simp (disch := omega) only [pk_mul, nI_add, Zcl_n]); exact Zin_n (by omega) (by decide)))))) ?_
  rw [g1]
  refine Zs_callv hX (List.cons_ne_nil _ _) (s_its row_z 0 _ g0 (by decide)) (by first | decide | omega) (by decide) rfl rfl rfl (by decide) (Nat.le_of_ble_eq_true rfl) (fun r_z M' hc_z => ?_)
  obtain ⟨rfl, rfl⟩ := hc_z
  refine Zs_ret hX hE rfl ⟨by rw [show M 54 (9 + 5 * row_z + 0) = nI kd_z from g2], rfl⟩

set_option maxRecDepth 20000 in
set_option maxHeartbeats 1000000 in
theorem s_mNow (kd_z row_z m_z : Nat) (M : Zmem) (hv_z : Zso kd_z row_z m_z M) : ZC 116 1 [.ref 53] M (fun r_z M' => r_z = some (.int (nI m_z)) ∧ M = M') := by
  refine ZC_of Zt116 Zk116 (Nat.le_of_ble_eq_true rfl) (by decide) rfl (fun X hX hE => ?_)
  obtain ⟨g0, g1, g2, g3, -⟩ := hv_z
  refine Zgo hX 4 rfl (by (first | exact True.intro | assumption | (dsimp only [ZallP]; and_intros <;> (first | assumption | decide | omega | ((try simp (disch := omega) only [pk_mul, nI_add, Zcl_n]); exact Zin_n (by omega) (by decide)))))) ?_
  rw [g1]
  refine Zs_callv hX (List.cons_ne_nil _ _) (s_its row_z 1 _ g0 (by decide)) (by first | decide | omega) (by decide) rfl rfl rfl (by decide) (Nat.le_of_ble_eq_true rfl) (fun r_z M' hc_z => ?_)
  obtain ⟨rfl, rfl⟩ := hc_z
  refine Zs_ret hX hE rfl ⟨by rw [show M 54 (9 + 5 * row_z + 1) = nI m_z from (by rw [show 9 + 5 * row_z + 1 = 10 + 5 * row_z by omega]; exact g3)], rfl⟩

set_option maxRecDepth 20000 in
set_option maxHeartbeats 1000000 in
theorem s_v0_0 (kd_z row_z m_z : Nat) (x_z : Int32) (fr : Nat) (M : Zmem) (hkd : kd_z ≤ 6) (hv_z : Zso kd_z row_z m_z M) (hfr : 3 ≤ fr) : ZC 117 fr [.ref 53, .int (nI 0), .int x_z] M (Zwq kd_z row_z m_z (Vr (nI row_z) 0 x_z) M) := by
  refine ZC_of Zt117 Zk117 (Nat.le_of_ble_eq_true rfl) (by decide) rfl (fun X hX hE => ?_)
  refine Zgo hX 1 rfl (by (first | exact True.intro | assumption | (dsimp only [ZallP]; and_intros <;> (first | assumption | decide | omega | ((try simp (disch := omega) only [pk_mul, nI_add, Zcl_n]); exact Zin_n (by omega) (by decide)))))) ?_
  refine Zs_sw [(nI 0, 44), (nI 1, 57), (nI 2, 102), (nI 3, 102), (nI 4, 75), (nI 5, 102), (nI 6, 93)] 102 hX (by decide +kernel) (by decide +kernel) (t := 44) ((by decide +kernel)) ?_
  refine Zgo hX 2 rfl (by (first | exact True.intro | assumption | (dsimp only [ZallP]; and_intros <;> (first | assumption | decide | omega | ((try simp (disch := omega) only [pk_mul, nI_add, Zcl_n]); exact Zin_n (by omega) (by decide)))))) ?_
  refine Zs_callv hX (List.cons_ne_nil _ _) (s_starts kd_z row_z m_z _ _ hv_z) (by first | decide | omega) (by decide) rfl rfl rfl (by decide) (Nat.le_of_ble_eq_true rfl) (fun r_z M' hc_z => ?_)
  obtain ⟨rfl, hh1, hv1, hp1⟩ := hc_z
  refine Zgo hX 4 rfl (by (first | exact True.intro | assumption | (dsimp only [ZallP]; and_intros <;> (first | assumption | decide | omega | ((try simp (disch := omega) only [pk_mul, nI_add, Zcl_n]); exact Zin_n (by omega) (by decide)))))) ?_
  rw [hv1.2.1]
  refine Zs_ret hX hE rfl ⟨rfl, hh1, hv1, hp1⟩

set_option maxRecDepth 20000 in
set_option maxHeartbeats 1000000 in
theorem s_v0_1 (kd_z row_z m_z : Nat) (x_z : Int32) (fr : Nat) (M : Zmem) (hkd : kd_z ≤ 6) (hv_z : Zso kd_z row_z m_z M) (hfr : 4 ≤ fr) : ZC 117 fr [.ref 53, .int (nI 1), .int x_z] M (Zwq kd_z row_z m_z (Vr (nI row_z) 1 x_z) M) := by
  refine ZC_of Zt117 Zk117 (Nat.le_of_ble_eq_true rfl) (by decide) rfl (fun X hX hE => ?_)
  refine Zgo hX 1 rfl (by (first | exact True.intro | assumption | (dsimp only [ZallP]; and_intros <;> (first | assumption | decide | omega | ((try simp (disch := omega) only [pk_mul, nI_add, Zcl_n]); exact Zin_n (by omega) (by decide)))))) ?_
  refine Zs_sw [(nI 0, 44), (nI 1, 57), (nI 2, 102), (nI 3, 102), (nI 4, 75), (nI 5, 102), (nI 6, 93)] 102 hX (by decide +kernel) (by decide +kernel) (t := 57) ((by decide +kernel)) ?_
  refine Zgo hX 2 rfl (by (first | exact True.intro | assumption | (dsimp only [ZallP]; and_intros <;> (first | assumption | decide | omega | ((try simp (disch := omega) only [pk_mul, nI_add, Zcl_n]); exact Zin_n (by omega) (by decide)))))) ?_
  refine Zs_callv hX (List.cons_ne_nil _ _) (s_starts kd_z row_z m_z _ _ hv_z) (by first | decide | omega) (by decide) rfl rfl rfl (by decide) (Nat.le_of_ble_eq_true rfl) (fun r_z M' hc_z => ?_)
  obtain ⟨rfl, hh1, hv1, hp1⟩ := hc_z
  refine Zgo hX 2 rfl (by (first | exact True.intro | assumption | (dsimp only [ZallP]; and_intros <;> (first | assumption | decide | omega | ((try simp (disch := omega) only [pk_mul, nI_add, Zcl_n]); exact Zin_n (by omega) (by decide)))))) ?_
  refine Zs_calls hX (List.cons_ne_nil _ _) (by decide) (s_above _ _) (by first | decide | omega) rfl rfl (by decide) (Nat.le_of_ble_eq_true rfl) (fun r_z M' hc_z => ?_)
  obtain ⟨rfl, rfl⟩ := hc_z
  rw [show (if nI 1 = nI 4 then nI 1 else if nI 1 = nI 5 then nI 2 else nI 0) = nI 0 by decide +kernel]
  refine Zgo hX 1 rfl (by (first | exact True.intro | assumption | (dsimp only [ZallP]; and_intros <;> (first | assumption | decide | omega | ((try simp (disch := omega) only [pk_mul, nI_add, Zcl_n]); exact Zin_n (by omega) (by decide)))))) ?_
  refine Zs_callv hX (List.cons_ne_nil _ _) (s_v0_0 kd_z row_z m_z x_z (fr - 1) _ hkd hv1 (by omega)) (by first | decide | omega) (by decide) rfl rfl rfl (by decide) (Nat.le_of_ble_eq_true rfl) (fun r_z M' hc_z => ?_)
  obtain ⟨rfl, hh2, hv2, hp2⟩ := hc_z
  refine Zgo hX 2 rfl (by (first | exact True.intro | assumption | (dsimp only [ZallP]; and_intros <;> (first | assumption | decide | omega | ((try simp (disch := omega) only [pk_mul, nI_add, Zcl_n]); exact Zin_n (by omega) (by decide)))))) ?_
  refine Zs_ret hX hE rfl ⟨rfl, hh1.tr hh2, hv2, hp2.trans hp1⟩

set_option maxRecDepth 20000 in
set_option maxHeartbeats 1000000 in
theorem s_v0_2 (kd_z row_z m_z : Nat) (x_z : Int32) (fr : Nat) (M : Zmem) (hkd : kd_z ≤ 6) (hv_z : Zso kd_z row_z m_z M) (hfr : 4 ≤ fr) : ZC 117 fr [.ref 53, .int (nI 2), .int x_z] M (Zwq kd_z row_z m_z (Vr (nI row_z) 2 x_z) M) := by
  refine ZC_of Zt117 Zk117 (Nat.le_of_ble_eq_true rfl) (by decide) rfl (fun X hX hE => ?_)
  refine Zgo hX 1 rfl (by (first | exact True.intro | assumption | (dsimp only [ZallP]; and_intros <;> (first | assumption | decide | omega | ((try simp (disch := omega) only [pk_mul, nI_add, Zcl_n]); exact Zin_n (by omega) (by decide)))))) ?_
  refine Zs_sw [(nI 0, 44), (nI 1, 57), (nI 2, 102), (nI 3, 102), (nI 4, 75), (nI 5, 102), (nI 6, 93)] 102 hX (by decide +kernel) (by decide +kernel) (t := 102) ((by decide +kernel)) ?_
  refine Zgo hX 2 rfl (by (first | exact True.intro | assumption | (dsimp only [ZallP]; and_intros <;> (first | assumption | decide | omega | ((try simp (disch := omega) only [pk_mul, nI_add, Zcl_n]); exact Zin_n (by omega) (by decide)))))) ?_
  refine Zs_calls hX (List.cons_ne_nil _ _) (by decide) (s_above _ _) (by first | decide | omega) rfl rfl (by decide) (Nat.le_of_ble_eq_true rfl) (fun r_z M' hc_z => ?_)
  obtain ⟨rfl, rfl⟩ := hc_z
  rw [show (if nI 2 = nI 4 then nI 1 else if nI 2 = nI 5 then nI 2 else nI 0) = nI 0 by decide +kernel]
  refine Zgo hX 1 rfl (by (first | exact True.intro | assumption | (dsimp only [ZallP]; and_intros <;> (first | assumption | decide | omega | ((try simp (disch := omega) only [pk_mul, nI_add, Zcl_n]); exact Zin_n (by omega) (by decide)))))) ?_
  refine Zs_callv hX (List.cons_ne_nil _ _) (s_v0_0 kd_z row_z m_z x_z (fr - 1) _ hkd hv_z (by omega)) (by first | decide | omega) (by decide) rfl rfl rfl (by decide) (Nat.le_of_ble_eq_true rfl) (fun r_z M' hc_z => ?_)
  obtain ⟨rfl, hh2, hv2, hp2⟩ := hc_z
  refine Zs_ret hX hE rfl ⟨rfl, hh2, hv2, hp2⟩

set_option maxRecDepth 20000 in
set_option maxHeartbeats 1000000 in
theorem s_v0_3 (kd_z row_z m_z : Nat) (x_z : Int32) (fr : Nat) (M : Zmem) (hkd : kd_z ≤ 6) (hv_z : Zso kd_z row_z m_z M) (hfr : 4 ≤ fr) : ZC 117 fr [.ref 53, .int (nI 3), .int x_z] M (Zwq kd_z row_z m_z (Vr (nI row_z) 3 x_z) M) := by
  refine ZC_of Zt117 Zk117 (Nat.le_of_ble_eq_true rfl) (by decide) rfl (fun X hX hE => ?_)
  refine Zgo hX 1 rfl (by (first | exact True.intro | assumption | (dsimp only [ZallP]; and_intros <;> (first | assumption | decide | omega | ((try simp (disch := omega) only [pk_mul, nI_add, Zcl_n]); exact Zin_n (by omega) (by decide)))))) ?_
  refine Zs_sw [(nI 0, 44), (nI 1, 57), (nI 2, 102), (nI 3, 102), (nI 4, 75), (nI 5, 102), (nI 6, 93)] 102 hX (by decide +kernel) (by decide +kernel) (t := 102) ((by decide +kernel)) ?_
  refine Zgo hX 2 rfl (by (first | exact True.intro | assumption | (dsimp only [ZallP]; and_intros <;> (first | assumption | decide | omega | ((try simp (disch := omega) only [pk_mul, nI_add, Zcl_n]); exact Zin_n (by omega) (by decide)))))) ?_
  refine Zs_calls hX (List.cons_ne_nil _ _) (by decide) (s_above _ _) (by first | decide | omega) rfl rfl (by decide) (Nat.le_of_ble_eq_true rfl) (fun r_z M' hc_z => ?_)
  obtain ⟨rfl, rfl⟩ := hc_z
  rw [show (if nI 3 = nI 4 then nI 1 else if nI 3 = nI 5 then nI 2 else nI 0) = nI 0 by decide +kernel]
  refine Zgo hX 1 rfl (by (first | exact True.intro | assumption | (dsimp only [ZallP]; and_intros <;> (first | assumption | decide | omega | ((try simp (disch := omega) only [pk_mul, nI_add, Zcl_n]); exact Zin_n (by omega) (by decide)))))) ?_
  refine Zs_callv hX (List.cons_ne_nil _ _) (s_v0_0 kd_z row_z m_z x_z (fr - 1) _ hkd hv_z (by omega)) (by first | decide | omega) (by decide) rfl rfl rfl (by decide) (Nat.le_of_ble_eq_true rfl) (fun r_z M' hc_z => ?_)
  obtain ⟨rfl, hh2, hv2, hp2⟩ := hc_z
  refine Zs_ret hX hE rfl ⟨rfl, hh2, hv2, hp2⟩

set_option maxRecDepth 20000 in
set_option maxHeartbeats 1000000 in
theorem s_v0_4 (kd_z row_z m_z : Nat) (x_z : Int32) (fr : Nat) (M : Zmem) (hkd : kd_z ≤ 6) (hv_z : Zso kd_z row_z m_z M) (hfr : 5 ≤ fr) : ZC 117 fr [.ref 53, .int (nI 4), .int x_z] M (Zwq kd_z row_z m_z (Vr (nI row_z) 4 x_z) M) := by
  refine ZC_of Zt117 Zk117 (Nat.le_of_ble_eq_true rfl) (by decide) rfl (fun X hX hE => ?_)
  refine Zgo hX 1 rfl (by (first | exact True.intro | assumption | (dsimp only [ZallP]; and_intros <;> (first | assumption | decide | omega | ((try simp (disch := omega) only [pk_mul, nI_add, Zcl_n]); exact Zin_n (by omega) (by decide)))))) ?_
  refine Zs_sw [(nI 0, 44), (nI 1, 57), (nI 2, 102), (nI 3, 102), (nI 4, 75), (nI 5, 102), (nI 6, 93)] 102 hX (by decide +kernel) (by decide +kernel) (t := 75) ((by decide +kernel)) ?_
  refine Zgo hX 2 rfl (by (first | exact True.intro | assumption | (dsimp only [ZallP]; and_intros <;> (first | assumption | decide | omega | ((try simp (disch := omega) only [pk_mul, nI_add, Zcl_n]); exact Zin_n (by omega) (by decide)))))) ?_
  refine Zs_callv hX (List.cons_ne_nil _ _) (s_starts kd_z row_z m_z _ _ hv_z) (by first | decide | omega) (by decide) rfl rfl rfl (by decide) (Nat.le_of_ble_eq_true rfl) (fun r_z M' hc_z => ?_)
  obtain ⟨rfl, hh1, hv1, hp1⟩ := hc_z
  refine Zgo hX 2 rfl (by (first | exact True.intro | assumption | (dsimp only [ZallP]; and_intros <;> (first | assumption | decide | omega | ((try simp (disch := omega) only [pk_mul, nI_add, Zcl_n]); exact Zin_n (by omega) (by decide)))))) ?_
  refine Zs_calls hX (List.cons_ne_nil _ _) (by decide) (s_above _ _) (by first | decide | omega) rfl rfl (by decide) (Nat.le_of_ble_eq_true rfl) (fun r_z M' hc_z => ?_)
  obtain ⟨rfl, rfl⟩ := hc_z
  rw [show (if nI 4 = nI 4 then nI 1 else if nI 4 = nI 5 then nI 2 else nI 0) = nI 1 by decide +kernel]
  refine Zgo hX 1 rfl (by (first | exact True.intro | assumption | (dsimp only [ZallP]; and_intros <;> (first | assumption | decide | omega | ((try simp (disch := omega) only [pk_mul, nI_add, Zcl_n]); exact Zin_n (by omega) (by decide)))))) ?_
  refine Zs_callv hX (List.cons_ne_nil _ _) (s_v0_1 kd_z row_z m_z x_z (fr - 1) _ hkd hv1 (by omega)) (by first | decide | omega) (by decide) rfl rfl rfl (by decide) (Nat.le_of_ble_eq_true rfl) (fun r_z M' hc_z => ?_)
  obtain ⟨rfl, hh2, hv2, hp2⟩ := hc_z
  refine Zgo hX 2 rfl (by (first | exact True.intro | assumption | (dsimp only [ZallP]; and_intros <;> (first | assumption | decide | omega | ((try simp (disch := omega) only [pk_mul, nI_add, Zcl_n]); exact Zin_n (by omega) (by decide)))))) ?_
  refine Zs_ret hX hE rfl ⟨rfl, hh1.tr hh2, hv2, hp2.trans hp1⟩

set_option maxRecDepth 20000 in
set_option maxHeartbeats 1000000 in
theorem s_v0_5 (kd_z row_z m_z : Nat) (x_z : Int32) (fr : Nat) (M : Zmem) (hkd : kd_z ≤ 6) (hv_z : Zso kd_z row_z m_z M) (hfr : 5 ≤ fr) : ZC 117 fr [.ref 53, .int (nI 5), .int x_z] M (Zwq kd_z row_z m_z (Vr (nI row_z) 5 x_z) M) := by
  refine ZC_of Zt117 Zk117 (Nat.le_of_ble_eq_true rfl) (by decide) rfl (fun X hX hE => ?_)
  refine Zgo hX 1 rfl (by (first | exact True.intro | assumption | (dsimp only [ZallP]; and_intros <;> (first | assumption | decide | omega | ((try simp (disch := omega) only [pk_mul, nI_add, Zcl_n]); exact Zin_n (by omega) (by decide)))))) ?_
  refine Zs_sw [(nI 0, 44), (nI 1, 57), (nI 2, 102), (nI 3, 102), (nI 4, 75), (nI 5, 102), (nI 6, 93)] 102 hX (by decide +kernel) (by decide +kernel) (t := 102) ((by decide +kernel)) ?_
  refine Zgo hX 2 rfl (by (first | exact True.intro | assumption | (dsimp only [ZallP]; and_intros <;> (first | assumption | decide | omega | ((try simp (disch := omega) only [pk_mul, nI_add, Zcl_n]); exact Zin_n (by omega) (by decide)))))) ?_
  refine Zs_calls hX (List.cons_ne_nil _ _) (by decide) (s_above _ _) (by first | decide | omega) rfl rfl (by decide) (Nat.le_of_ble_eq_true rfl) (fun r_z M' hc_z => ?_)
  obtain ⟨rfl, rfl⟩ := hc_z
  rw [show (if nI 5 = nI 4 then nI 1 else if nI 5 = nI 5 then nI 2 else nI 0) = nI 2 by decide +kernel]
  refine Zgo hX 1 rfl (by (first | exact True.intro | assumption | (dsimp only [ZallP]; and_intros <;> (first | assumption | decide | omega | ((try simp (disch := omega) only [pk_mul, nI_add, Zcl_n]); exact Zin_n (by omega) (by decide)))))) ?_
  refine Zs_callv hX (List.cons_ne_nil _ _) (s_v0_2 kd_z row_z m_z x_z (fr - 1) _ hkd hv_z (by omega)) (by first | decide | omega) (by decide) rfl rfl rfl (by decide) (Nat.le_of_ble_eq_true rfl) (fun r_z M' hc_z => ?_)
  obtain ⟨rfl, hh2, hv2, hp2⟩ := hc_z
  refine Zs_ret hX hE rfl ⟨rfl, hh2, hv2, hp2⟩

set_option maxRecDepth 20000 in
set_option maxHeartbeats 1000000 in
theorem s_v0_6 (kd_z row_z m_z : Nat) (x_z : Int32) (fr : Nat) (M : Zmem) (hkd : kd_z ≤ 6) (hv_z : Zso kd_z row_z m_z M) (hfr : 3 ≤ fr) : ZC 117 fr [.ref 53, .int (nI 6), .int x_z] M (Zwq kd_z row_z m_z (Vr (nI row_z) 6 x_z) M) := by
  refine ZC_of Zt117 Zk117 (Nat.le_of_ble_eq_true rfl) (by decide) rfl (fun X hX hE => ?_)
  refine Zgo hX 1 rfl (by (first | exact True.intro | assumption | (dsimp only [ZallP]; and_intros <;> (first | assumption | decide | omega | ((try simp (disch := omega) only [pk_mul, nI_add, Zcl_n]); exact Zin_n (by omega) (by decide)))))) ?_
  refine Zs_sw [(nI 0, 44), (nI 1, 57), (nI 2, 102), (nI 3, 102), (nI 4, 75), (nI 5, 102), (nI 6, 93)] 102 hX (by decide +kernel) (by decide +kernel) (t := 93) ((by decide +kernel)) ?_
  refine Zgo hX 2 rfl (by (first | exact True.intro | assumption | (dsimp only [ZallP]; and_intros <;> (first | assumption | decide | omega | ((try simp (disch := omega) only [pk_mul, nI_add, Zcl_n]); exact Zin_n (by omega) (by decide)))))) ?_
  refine Zs_callv hX (List.cons_ne_nil _ _) (s_starts kd_z row_z m_z _ _ hv_z) (by first | decide | omega) (by decide) rfl rfl rfl (by decide) (Nat.le_of_ble_eq_true rfl) (fun r_z M' hc_z => ?_)
  obtain ⟨rfl, hh1, hv1, hp1⟩ := hc_z
  refine Zgo hX 1 rfl (by (first | exact True.intro | assumption | (dsimp only [ZallP]; and_intros <;> (first | assumption | decide | omega | ((try simp (disch := omega) only [pk_mul, nI_add, Zcl_n]); exact Zin_n (by omega) (by decide)))))) ?_
  refine Zs_ret hX hE rfl ⟨rfl, hh1, hv1, hp1⟩


theorem s_va0 (kd_z row_z m_z : Nat) (x_z : Int32) (fr : Nat) (M : Zmem) (hkd : kd_z ≤ 6) (hv_z : Zso kd_z row_z m_z M) (hfr : 5 ≤ fr) : ZC 117 fr [.ref 53, .int (nI kd_z), .int x_z] M (Zwq kd_z row_z m_z (Vr (nI row_z) kd_z x_z) M) := by
  rcases Zseven hkd with rfl | rfl | rfl | rfl | rfl | rfl | rfl
  · exact s_v0_0 0 row_z m_z x_z fr M hkd hv_z (by omega)
  · exact s_v0_1 1 row_z m_z x_z fr M hkd hv_z (by omega)
  · exact s_v0_2 2 row_z m_z x_z fr M hkd hv_z (by omega)
  · exact s_v0_3 3 row_z m_z x_z fr M hkd hv_z (by omega)
  · exact s_v0_4 4 row_z m_z x_z fr M hkd hv_z (by omega)
  · exact s_v0_5 5 row_z m_z x_z fr M hkd hv_z (by omega)
  · exact s_v0_6 6 row_z m_z x_z fr M hkd hv_z (by omega)

set_option maxRecDepth 20000 in
set_option maxHeartbeats 1000000 in
theorem s_v1_0 (kd_z row_z m_z : Nat) (x_z : Int32) (fr : Nat) (M : Zmem) (hkd : kd_z ≤ 6) (hv_z : Zso kd_z row_z m_z M) (hfr : 6 ≤ fr) : ZC 118 fr [.ref 53, .int (nI 0), .int x_z] M (Zwq kd_z row_z m_z (Vt kd_z (nI row_z) (nI m_z) 0 x_z) M) := by
  refine ZC_of Zt118 Zk118 (Nat.le_of_ble_eq_true rfl) (by decide) rfl (fun X hX hE => ?_)
  refine Zgo hX 1 rfl (by (first | exact True.intro | assumption | (dsimp only [ZallP]; and_intros <;> (first | assumption | decide | omega | ((try simp (disch := omega) only [pk_mul, nI_add, Zcl_n]); exact Zin_n (by omega) (by decide)))))) ?_
  refine Zs_sw [(nI 0, 44), (nI 1, 120), (nI 2, 62), (nI 3, 120), (nI 4, 120), (nI 5, 80), (nI 6, 98)] 120 hX (by decide +kernel) (by decide +kernel) (t := 44) ((by decide +kernel)) ?_
  refine Zgo hX 2 rfl (by (first | exact True.intro | assumption | (dsimp only [ZallP]; and_intros <;> (first | assumption | decide | omega | ((try simp (disch := omega) only [pk_mul, nI_add, Zcl_n]); exact Zin_n (by omega) (by decide)))))) ?_
  refine Zs_callv hX (List.cons_ne_nil _ _) (s_starts kd_z row_z m_z _ _ hv_z) (by first | decide | omega) (by decide) rfl rfl rfl (by decide) (Nat.le_of_ble_eq_true rfl) (fun r_z M' hc_z => ?_)
  obtain ⟨rfl, hh1, hv1, hp1⟩ := hc_z
  refine Zgo hX 2 rfl (by (first | exact True.intro | assumption | (dsimp only [ZallP]; and_intros <;> (first | assumption | decide | omega | ((try simp (disch := omega) only [pk_mul, nI_add, Zcl_n]); exact Zin_n (by omega) (by decide)))))) ?_
  refine Zs_callv hX (List.cons_ne_nil _ _) (s_kindNow kd_z row_z m_z _ hv1) (by first | decide | omega) (by decide) rfl rfl rfl (by decide) (Nat.le_of_ble_eq_true rfl) (fun r_z M' hc_z => ?_)
  obtain ⟨rfl, rfl⟩ := hc_z
  refine Zgo hX 1 rfl (by (first | exact True.intro | assumption | (dsimp only [ZallP]; and_intros <;> (first | assumption | decide | omega | ((try simp (disch := omega) only [pk_mul, nI_add, Zcl_n]); exact Zin_n (by omega) (by decide)))))) ?_
  refine Zs_callv hX (List.cons_ne_nil _ _) (s_va0 kd_z row_z m_z x_z (fr - 1) _ hkd hv1 (by omega)) (by first | decide | omega) (by decide) rfl rfl rfl (by decide) (Nat.le_of_ble_eq_true rfl) (fun r_z M' hc_z => ?_)
  obtain ⟨rfl, hh2, hv2, hp2⟩ := hc_z
  refine Zgo hX 2 rfl (by (first | exact True.intro | assumption | (dsimp only [ZallP]; and_intros <;> (first | assumption | decide | omega | ((try simp (disch := omega) only [pk_mul, nI_add, Zcl_n]); exact Zin_n (by omega) (by decide)))))) ?_
  refine Zs_ret hX hE rfl ⟨rfl, hh1.tr hh2, hv2, hp2.trans hp1⟩

set_option maxRecDepth 20000 in
set_option maxHeartbeats 1000000 in
theorem s_v1_1 (kd_z row_z m_z : Nat) (x_z : Int32) (fr : Nat) (M : Zmem) (hkd : kd_z ≤ 6) (hv_z : Zso kd_z row_z m_z M) (hfr : 7 ≤ fr) : ZC 118 fr [.ref 53, .int (nI 1), .int x_z] M (Zwq kd_z row_z m_z (Vt kd_z (nI row_z) (nI m_z) 1 x_z) M) := by
  refine ZC_of Zt118 Zk118 (Nat.le_of_ble_eq_true rfl) (by decide) rfl (fun X hX hE => ?_)
  refine Zgo hX 1 rfl (by (first | exact True.intro | assumption | (dsimp only [ZallP]; and_intros <;> (first | assumption | decide | omega | ((try simp (disch := omega) only [pk_mul, nI_add, Zcl_n]); exact Zin_n (by omega) (by decide)))))) ?_
  refine Zs_sw [(nI 0, 44), (nI 1, 120), (nI 2, 62), (nI 3, 120), (nI 4, 120), (nI 5, 80), (nI 6, 98)] 120 hX (by decide +kernel) (by decide +kernel) (t := 120) ((by decide +kernel)) ?_
  refine Zgo hX 2 rfl (by (first | exact True.intro | assumption | (dsimp only [ZallP]; and_intros <;> (first | assumption | decide | omega | ((try simp (disch := omega) only [pk_mul, nI_add, Zcl_n]); exact Zin_n (by omega) (by decide)))))) ?_
  refine Zs_calls hX (List.cons_ne_nil _ _) (by decide) (s_above _ _) (by first | decide | omega) rfl rfl (by decide) (Nat.le_of_ble_eq_true rfl) (fun r_z M' hc_z => ?_)
  obtain ⟨rfl, rfl⟩ := hc_z
  rw [show (if nI 1 = nI 4 then nI 1 else if nI 1 = nI 5 then nI 2 else nI 0) = nI 0 by decide +kernel]
  refine Zgo hX 1 rfl (by (first | exact True.intro | assumption | (dsimp only [ZallP]; and_intros <;> (first | assumption | decide | omega | ((try simp (disch := omega) only [pk_mul, nI_add, Zcl_n]); exact Zin_n (by omega) (by decide)))))) ?_
  refine Zs_callv hX (List.cons_ne_nil _ _) (s_v1_0 kd_z row_z m_z x_z (fr - 1) _ hkd hv_z (by omega)) (by first | decide | omega) (by decide) rfl rfl rfl (by decide) (Nat.le_of_ble_eq_true rfl) (fun r_z M' hc_z => ?_)
  obtain ⟨rfl, hh2, hv2, hp2⟩ := hc_z
  refine Zs_ret hX hE rfl ⟨rfl, hh2, hv2, hp2⟩

set_option maxRecDepth 20000 in
set_option maxHeartbeats 1000000 in
theorem s_v1_2 (kd_z row_z m_z : Nat) (x_z : Int32) (fr : Nat) (M : Zmem) (hkd : kd_z ≤ 6) (hv_z : Zso kd_z row_z m_z M) (hfr : 7 ≤ fr) : ZC 118 fr [.ref 53, .int (nI 2), .int x_z] M (Zwq kd_z row_z m_z (Vt kd_z (nI row_z) (nI m_z) 2 x_z) M) := by
  refine ZC_of Zt118 Zk118 (Nat.le_of_ble_eq_true rfl) (by decide) rfl (fun X hX hE => ?_)
  refine Zgo hX 1 rfl (by (first | exact True.intro | assumption | (dsimp only [ZallP]; and_intros <;> (first | assumption | decide | omega | ((try simp (disch := omega) only [pk_mul, nI_add, Zcl_n]); exact Zin_n (by omega) (by decide)))))) ?_
  refine Zs_sw [(nI 0, 44), (nI 1, 120), (nI 2, 62), (nI 3, 120), (nI 4, 120), (nI 5, 80), (nI 6, 98)] 120 hX (by decide +kernel) (by decide +kernel) (t := 62) ((by decide +kernel)) ?_
  refine Zgo hX 2 rfl (by (first | exact True.intro | assumption | (dsimp only [ZallP]; and_intros <;> (first | assumption | decide | omega | ((try simp (disch := omega) only [pk_mul, nI_add, Zcl_n]); exact Zin_n (by omega) (by decide)))))) ?_
  refine Zs_callv hX (List.cons_ne_nil _ _) (s_starts kd_z row_z m_z _ _ hv_z) (by first | decide | omega) (by decide) rfl rfl rfl (by decide) (Nat.le_of_ble_eq_true rfl) (fun r_z M' hc_z => ?_)
  obtain ⟨rfl, hh1, hv1, hp1⟩ := hc_z
  refine Zgo hX 3 rfl (by (first | exact True.intro | assumption | (dsimp only [ZallP]; and_intros <;> (first | assumption | decide | omega | ((try simp (disch := omega) only [pk_mul, nI_add, Zcl_n]); exact Zin_n (by omega) (by decide)))))) ?_
  refine Zs_calls hX (List.cons_ne_nil _ _) (by decide) (s_above _ _) (by first | decide | omega) rfl rfl (by decide) (Nat.le_of_ble_eq_true rfl) (fun r_z M' hc_z => ?_)
  obtain ⟨rfl, rfl⟩ := hc_z
  rw [show (if nI 2 = nI 4 then nI 1 else if nI 2 = nI 5 then nI 2 else nI 0) = nI 0 by decide +kernel]
  refine Zgo hX 1 rfl (by (first | exact True.intro | assumption | (dsimp only [ZallP]; and_intros <;> (first | assumption | decide | omega | ((try simp (disch := omega) only [pk_mul, nI_add, Zcl_n]); exact Zin_n (by omega) (by decide)))))) ?_
  refine Zs_callv hX (List.cons_ne_nil _ _) (s_v1_0 kd_z row_z m_z x_z (fr - 1) _ hkd hv1 (by omega)) (by first | decide | omega) (by decide) rfl rfl rfl (by decide) (Nat.le_of_ble_eq_true rfl) (fun r_z M' hc_z => ?_)
  obtain ⟨rfl, hh2, hv2, hp2⟩ := hc_z
  refine Zgo hX 1 rfl (by (first | exact True.intro | assumption | (dsimp only [ZallP]; and_intros <;> (first | assumption | decide | omega | ((try simp (disch := omega) only [pk_mul, nI_add, Zcl_n]); exact Zin_n (by omega) (by decide)))))) ?_
  refine Zs_ret hX hE rfl ⟨rfl, hh1.tr hh2, hv2, hp2.trans hp1⟩

set_option maxRecDepth 20000 in
set_option maxHeartbeats 1000000 in
theorem s_v1_3 (kd_z row_z m_z : Nat) (x_z : Int32) (fr : Nat) (M : Zmem) (hkd : kd_z ≤ 6) (hv_z : Zso kd_z row_z m_z M) (hfr : 7 ≤ fr) : ZC 118 fr [.ref 53, .int (nI 3), .int x_z] M (Zwq kd_z row_z m_z (Vt kd_z (nI row_z) (nI m_z) 3 x_z) M) := by
  refine ZC_of Zt118 Zk118 (Nat.le_of_ble_eq_true rfl) (by decide) rfl (fun X hX hE => ?_)
  refine Zgo hX 1 rfl (by (first | exact True.intro | assumption | (dsimp only [ZallP]; and_intros <;> (first | assumption | decide | omega | ((try simp (disch := omega) only [pk_mul, nI_add, Zcl_n]); exact Zin_n (by omega) (by decide)))))) ?_
  refine Zs_sw [(nI 0, 44), (nI 1, 120), (nI 2, 62), (nI 3, 120), (nI 4, 120), (nI 5, 80), (nI 6, 98)] 120 hX (by decide +kernel) (by decide +kernel) (t := 120) ((by decide +kernel)) ?_
  refine Zgo hX 2 rfl (by (first | exact True.intro | assumption | (dsimp only [ZallP]; and_intros <;> (first | assumption | decide | omega | ((try simp (disch := omega) only [pk_mul, nI_add, Zcl_n]); exact Zin_n (by omega) (by decide)))))) ?_
  refine Zs_calls hX (List.cons_ne_nil _ _) (by decide) (s_above _ _) (by first | decide | omega) rfl rfl (by decide) (Nat.le_of_ble_eq_true rfl) (fun r_z M' hc_z => ?_)
  obtain ⟨rfl, rfl⟩ := hc_z
  rw [show (if nI 3 = nI 4 then nI 1 else if nI 3 = nI 5 then nI 2 else nI 0) = nI 0 by decide +kernel]
  refine Zgo hX 1 rfl (by (first | exact True.intro | assumption | (dsimp only [ZallP]; and_intros <;> (first | assumption | decide | omega | ((try simp (disch := omega) only [pk_mul, nI_add, Zcl_n]); exact Zin_n (by omega) (by decide)))))) ?_
  refine Zs_callv hX (List.cons_ne_nil _ _) (s_v1_0 kd_z row_z m_z x_z (fr - 1) _ hkd hv_z (by omega)) (by first | decide | omega) (by decide) rfl rfl rfl (by decide) (Nat.le_of_ble_eq_true rfl) (fun r_z M' hc_z => ?_)
  obtain ⟨rfl, hh2, hv2, hp2⟩ := hc_z
  refine Zs_ret hX hE rfl ⟨rfl, hh2, hv2, hp2⟩

set_option maxRecDepth 20000 in
set_option maxHeartbeats 1000000 in
theorem s_v1_4 (kd_z row_z m_z : Nat) (x_z : Int32) (fr : Nat) (M : Zmem) (hkd : kd_z ≤ 6) (hv_z : Zso kd_z row_z m_z M) (hfr : 8 ≤ fr) : ZC 118 fr [.ref 53, .int (nI 4), .int x_z] M (Zwq kd_z row_z m_z (Vt kd_z (nI row_z) (nI m_z) 4 x_z) M) := by
  refine ZC_of Zt118 Zk118 (Nat.le_of_ble_eq_true rfl) (by decide) rfl (fun X hX hE => ?_)
  refine Zgo hX 1 rfl (by (first | exact True.intro | assumption | (dsimp only [ZallP]; and_intros <;> (first | assumption | decide | omega | ((try simp (disch := omega) only [pk_mul, nI_add, Zcl_n]); exact Zin_n (by omega) (by decide)))))) ?_
  refine Zs_sw [(nI 0, 44), (nI 1, 120), (nI 2, 62), (nI 3, 120), (nI 4, 120), (nI 5, 80), (nI 6, 98)] 120 hX (by decide +kernel) (by decide +kernel) (t := 120) ((by decide +kernel)) ?_
  refine Zgo hX 2 rfl (by (first | exact True.intro | assumption | (dsimp only [ZallP]; and_intros <;> (first | assumption | decide | omega | ((try simp (disch := omega) only [pk_mul, nI_add, Zcl_n]); exact Zin_n (by omega) (by decide)))))) ?_
  refine Zs_calls hX (List.cons_ne_nil _ _) (by decide) (s_above _ _) (by first | decide | omega) rfl rfl (by decide) (Nat.le_of_ble_eq_true rfl) (fun r_z M' hc_z => ?_)
  obtain ⟨rfl, rfl⟩ := hc_z
  rw [show (if nI 4 = nI 4 then nI 1 else if nI 4 = nI 5 then nI 2 else nI 0) = nI 1 by decide +kernel]
  refine Zgo hX 1 rfl (by (first | exact True.intro | assumption | (dsimp only [ZallP]; and_intros <;> (first | assumption | decide | omega | ((try simp (disch := omega) only [pk_mul, nI_add, Zcl_n]); exact Zin_n (by omega) (by decide)))))) ?_
  refine Zs_callv hX (List.cons_ne_nil _ _) (s_v1_1 kd_z row_z m_z x_z (fr - 1) _ hkd hv_z (by omega)) (by first | decide | omega) (by decide) rfl rfl rfl (by decide) (Nat.le_of_ble_eq_true rfl) (fun r_z M' hc_z => ?_)
  obtain ⟨rfl, hh2, hv2, hp2⟩ := hc_z
  refine Zs_ret hX hE rfl ⟨rfl, hh2, hv2, hp2⟩

set_option maxRecDepth 20000 in
set_option maxHeartbeats 1000000 in
theorem s_v1_5 (kd_z row_z m_z : Nat) (x_z : Int32) (fr : Nat) (M : Zmem) (hkd : kd_z ≤ 6) (hv_z : Zso kd_z row_z m_z M) (hfr : 8 ≤ fr) : ZC 118 fr [.ref 53, .int (nI 5), .int x_z] M (Zwq kd_z row_z m_z (Vt kd_z (nI row_z) (nI m_z) 5 x_z) M) := by
  refine ZC_of Zt118 Zk118 (Nat.le_of_ble_eq_true rfl) (by decide) rfl (fun X hX hE => ?_)
  refine Zgo hX 1 rfl (by (first | exact True.intro | assumption | (dsimp only [ZallP]; and_intros <;> (first | assumption | decide | omega | ((try simp (disch := omega) only [pk_mul, nI_add, Zcl_n]); exact Zin_n (by omega) (by decide)))))) ?_
  refine Zs_sw [(nI 0, 44), (nI 1, 120), (nI 2, 62), (nI 3, 120), (nI 4, 120), (nI 5, 80), (nI 6, 98)] 120 hX (by decide +kernel) (by decide +kernel) (t := 80) ((by decide +kernel)) ?_
  refine Zgo hX 2 rfl (by (first | exact True.intro | assumption | (dsimp only [ZallP]; and_intros <;> (first | assumption | decide | omega | ((try simp (disch := omega) only [pk_mul, nI_add, Zcl_n]); exact Zin_n (by omega) (by decide)))))) ?_
  refine Zs_callv hX (List.cons_ne_nil _ _) (s_starts kd_z row_z m_z _ _ hv_z) (by first | decide | omega) (by decide) rfl rfl rfl (by decide) (Nat.le_of_ble_eq_true rfl) (fun r_z M' hc_z => ?_)
  obtain ⟨rfl, hh1, hv1, hp1⟩ := hc_z
  refine Zgo hX 2 rfl (by (first | exact True.intro | assumption | (dsimp only [ZallP]; and_intros <;> (first | assumption | decide | omega | ((try simp (disch := omega) only [pk_mul, nI_add, Zcl_n]); exact Zin_n (by omega) (by decide)))))) ?_
  refine Zs_calls hX (List.cons_ne_nil _ _) (by decide) (s_above _ _) (by first | decide | omega) rfl rfl (by decide) (Nat.le_of_ble_eq_true rfl) (fun r_z M' hc_z => ?_)
  obtain ⟨rfl, rfl⟩ := hc_z
  rw [show (if nI 5 = nI 4 then nI 1 else if nI 5 = nI 5 then nI 2 else nI 0) = nI 2 by decide +kernel]
  refine Zgo hX 3 rfl (by (first | exact True.intro | assumption | (dsimp only [ZallP]; and_intros <;> (first | assumption | decide | omega | ((try simp (disch := omega) only [pk_mul, nI_add, Zcl_n]); exact Zin_n (by omega) (by decide)))))) ?_
  refine Zs_callv hX (List.cons_ne_nil _ _) (s_v1_2 kd_z row_z m_z (x_z + nI 1) (fr - 1) _ hkd hv1 (by omega)) (by first | decide | omega) (by decide) rfl rfl rfl (by decide) (Nat.le_of_ble_eq_true rfl) (fun r_z M' hc_z => ?_)
  obtain ⟨rfl, hh2, hv2, hp2⟩ := hc_z
  refine Zs_ret hX hE rfl ⟨rfl, hh1.tr hh2, hv2, hp2.trans hp1⟩

set_option maxRecDepth 20000 in
set_option maxHeartbeats 1000000 in
theorem s_v1_6 (kd_z row_z m_z : Nat) (x_z : Int32) (fr : Nat) (M : Zmem) (hkd : kd_z ≤ 6) (hv_z : Zso kd_z row_z m_z M) (hfr : 7 ≤ fr) : ZC 118 fr [.ref 53, .int (nI 6), .int x_z] M (Zwq kd_z row_z m_z (Vt kd_z (nI row_z) (nI m_z) 6 x_z) M) := by
  refine ZC_of Zt118 Zk118 (Nat.le_of_ble_eq_true rfl) (by decide) rfl (fun X hX hE => ?_)
  refine Zgo hX 1 rfl (by (first | exact True.intro | assumption | (dsimp only [ZallP]; and_intros <;> (first | assumption | decide | omega | ((try simp (disch := omega) only [pk_mul, nI_add, Zcl_n]); exact Zin_n (by omega) (by decide)))))) ?_
  refine Zs_sw [(nI 0, 44), (nI 1, 120), (nI 2, 62), (nI 3, 120), (nI 4, 120), (nI 5, 80), (nI 6, 98)] 120 hX (by decide +kernel) (by decide +kernel) (t := 98) ((by decide +kernel)) ?_
  refine Zgo hX 2 rfl (by (first | exact True.intro | assumption | (dsimp only [ZallP]; and_intros <;> (first | assumption | decide | omega | ((try simp (disch := omega) only [pk_mul, nI_add, Zcl_n]); exact Zin_n (by omega) (by decide)))))) ?_
  refine Zs_callv hX (List.cons_ne_nil _ _) (s_starts kd_z row_z m_z _ _ hv_z) (by first | decide | omega) (by decide) rfl rfl rfl (by decide) (Nat.le_of_ble_eq_true rfl) (fun r_z M' hc_z => ?_)
  obtain ⟨rfl, hh1, hv1, hp1⟩ := hc_z
  refine Zgo hX 2 rfl (by (first | exact True.intro | assumption | (dsimp only [ZallP]; and_intros <;> (first | assumption | decide | omega | ((try simp (disch := omega) only [pk_mul, nI_add, Zcl_n]); exact Zin_n (by omega) (by decide)))))) ?_
  refine Zs_calls hX (List.cons_ne_nil _ _) (by decide) (s_above _ _) (by first | decide | omega) rfl rfl (by decide) (Nat.le_of_ble_eq_true rfl) (fun r_z M' hc_z => ?_)
  obtain ⟨rfl, rfl⟩ := hc_z
  rw [show (if nI 6 = nI 4 then nI 1 else if nI 6 = nI 5 then nI 2 else nI 0) = nI 0 by decide +kernel]
  refine Zgo hX 1 rfl (by (first | exact True.intro | assumption | (dsimp only [ZallP]; and_intros <;> (first | assumption | decide | omega | ((try simp (disch := omega) only [pk_mul, nI_add, Zcl_n]); exact Zin_n (by omega) (by decide)))))) ?_
  refine Zs_callv hX (List.cons_ne_nil _ _) (s_v1_0 kd_z row_z m_z x_z (fr - 1) _ hkd hv1 (by omega)) (by first | decide | omega) (by decide) rfl rfl rfl (by decide) (Nat.le_of_ble_eq_true rfl) (fun r_z M' hc_z => ?_)
  obtain ⟨rfl, hh2, hv2, hp2⟩ := hc_z
  refine Zgo hX 1 rfl (by (first | exact True.intro | assumption | (dsimp only [ZallP]; and_intros <;> (first | assumption | decide | omega | ((try simp (disch := omega) only [pk_mul, nI_add, Zcl_n]); exact Zin_n (by omega) (by decide)))))) ?_
  refine Zs_callv hX (List.cons_ne_nil _ _) (s_mNow kd_z row_z m_z _ hv2) (by first | decide | omega) (by decide) rfl rfl rfl (by decide) (Nat.le_of_ble_eq_true rfl) (fun r_z M' hc_z => ?_)
  obtain ⟨rfl, rfl⟩ := hc_z
  refine Zgo hX 1 rfl (by (first | exact True.intro | assumption | (dsimp only [ZallP]; and_intros <;> (first | assumption | decide | omega | ((try simp (disch := omega) only [pk_mul, nI_add, Zcl_n]); exact Zin_n (by omega) (by decide)))))) ?_
  refine Zs_ret hX hE rfl ⟨rfl, hh1.tr hh2, hv2, hp2.trans hp1⟩


theorem s_va1 (kd_z row_z m_z : Nat) (x_z : Int32) (fr : Nat) (M : Zmem) (hkd : kd_z ≤ 6) (hv_z : Zso kd_z row_z m_z M) (hfr : 8 ≤ fr) : ZC 118 fr [.ref 53, .int (nI kd_z), .int x_z] M (Zwq kd_z row_z m_z (Vt kd_z (nI row_z) (nI m_z) kd_z x_z) M) := by
  rcases Zseven hkd with rfl | rfl | rfl | rfl | rfl | rfl | rfl
  · exact s_v1_0 0 row_z m_z x_z fr M hkd hv_z (by omega)
  · exact s_v1_1 1 row_z m_z x_z fr M hkd hv_z (by omega)
  · exact s_v1_2 2 row_z m_z x_z fr M hkd hv_z (by omega)
  · exact s_v1_3 3 row_z m_z x_z fr M hkd hv_z (by omega)
  · exact s_v1_4 4 row_z m_z x_z fr M hkd hv_z (by omega)
  · exact s_v1_5 5 row_z m_z x_z fr M hkd hv_z (by omega)
  · exact s_v1_6 6 row_z m_z x_z fr M hkd hv_z (by omega)

set_option maxRecDepth 20000 in
set_option maxHeartbeats 1000000 in
theorem s_v2_0 (kd_z row_z m_z : Nat) (x_z : Int32) (fr : Nat) (M : Zmem) (hkd : kd_z ≤ 6) (hv_z : Zso kd_z row_z m_z M) (hfr : 9 ≤ fr) : ZC 119 fr [.ref 53, .int (nI 0), .int x_z] M (Zwq kd_z row_z m_z (Vp kd_z (nI row_z) (nI m_z) 0 x_z) M) := by
  refine ZC_of Zt119 Zk119 (Nat.le_of_ble_eq_true rfl) (by decide) rfl (fun X hX hE => ?_)
  refine Zgo hX 1 rfl (by (first | exact True.intro | assumption | (dsimp only [ZallP]; and_intros <;> (first | assumption | decide | omega | ((try simp (disch := omega) only [pk_mul, nI_add, Zcl_n]); exact Zin_n (by omega) (by decide)))))) ?_
  refine Zs_sw [(nI 0, 36), (nI 1, 96), (nI 2, 96), (nI 3, 57), (nI 4, 75)] 96 hX (by decide +kernel) (by decide +kernel) (t := 36) ((by decide +kernel)) ?_
  refine Zgo hX 2 rfl (by (first | exact True.intro | assumption | (dsimp only [ZallP]; and_intros <;> (first | assumption | decide | omega | ((try simp (disch := omega) only [pk_mul, nI_add, Zcl_n]); exact Zin_n (by omega) (by decide)))))) ?_
  refine Zs_callv hX (List.cons_ne_nil _ _) (s_starts kd_z row_z m_z _ _ hv_z) (by first | decide | omega) (by decide) rfl rfl rfl (by decide) (Nat.le_of_ble_eq_true rfl) (fun r_z M' hc_z => ?_)
  obtain ⟨rfl, hh1, hv1, hp1⟩ := hc_z
  refine Zgo hX 2 rfl (by (first | exact True.intro | assumption | (dsimp only [ZallP]; and_intros <;> (first | assumption | decide | omega | ((try simp (disch := omega) only [pk_mul, nI_add, Zcl_n]); exact Zin_n (by omega) (by decide)))))) ?_
  refine Zs_callv hX (List.cons_ne_nil _ _) (s_kindNow kd_z row_z m_z _ hv1) (by first | decide | omega) (by decide) rfl rfl rfl (by decide) (Nat.le_of_ble_eq_true rfl) (fun r_z M' hc_z => ?_)
  obtain ⟨rfl, rfl⟩ := hc_z
  refine Zgo hX 1 rfl (by (first | exact True.intro | assumption | (dsimp only [ZallP]; and_intros <;> (first | assumption | decide | omega | ((try simp (disch := omega) only [pk_mul, nI_add, Zcl_n]); exact Zin_n (by omega) (by decide)))))) ?_
  refine Zs_callv hX (List.cons_ne_nil _ _) (s_va1 kd_z row_z m_z x_z (fr - 1) _ hkd hv1 (by omega)) (by first | decide | omega) (by decide) rfl rfl rfl (by decide) (Nat.le_of_ble_eq_true rfl) (fun r_z M' hc_z => ?_)
  obtain ⟨rfl, hh2, hv2, hp2⟩ := hc_z
  refine Zgo hX 1 rfl (by (first | exact True.intro | assumption | (dsimp only [ZallP]; and_intros <;> (first | assumption | decide | omega | ((try simp (disch := omega) only [pk_mul, nI_add, Zcl_n]); exact Zin_n (by omega) (by decide)))))) ?_
  refine Zs_callv hX (List.cons_ne_nil _ _) (s_mNow kd_z row_z m_z _ hv2) (by first | decide | omega) (by decide) rfl rfl rfl (by decide) (Nat.le_of_ble_eq_true rfl) (fun r_z M' hc_z => ?_)
  obtain ⟨rfl, rfl⟩ := hc_z
  refine Zgo hX 1 rfl (by (first | exact True.intro | assumption | (dsimp only [ZallP]; and_intros <;> (first | assumption | decide | omega | ((try simp (disch := omega) only [pk_mul, nI_add, Zcl_n]); exact Zin_n (by omega) (by decide)))))) ?_
  refine Zs_ret hX hE rfl ⟨rfl, hh1.tr hh2, hv2, hp2.trans hp1⟩

set_option maxRecDepth 20000 in
set_option maxHeartbeats 1000000 in
theorem s_v2_1 (kd_z row_z m_z : Nat) (x_z : Int32) (fr : Nat) (M : Zmem) (hkd : kd_z ≤ 6) (hv_z : Zso kd_z row_z m_z M) (hfr : 10 ≤ fr) : ZC 119 fr [.ref 53, .int (nI 1), .int x_z] M (Zwq kd_z row_z m_z (Vp kd_z (nI row_z) (nI m_z) 1 x_z) M) := by
  refine ZC_of Zt119 Zk119 (Nat.le_of_ble_eq_true rfl) (by decide) rfl (fun X hX hE => ?_)
  refine Zgo hX 1 rfl (by (first | exact True.intro | assumption | (dsimp only [ZallP]; and_intros <;> (first | assumption | decide | omega | ((try simp (disch := omega) only [pk_mul, nI_add, Zcl_n]); exact Zin_n (by omega) (by decide)))))) ?_
  refine Zs_sw [(nI 0, 36), (nI 1, 96), (nI 2, 96), (nI 3, 57), (nI 4, 75)] 96 hX (by decide +kernel) (by decide +kernel) (t := 96) ((by decide +kernel)) ?_
  refine Zgo hX 2 rfl (by (first | exact True.intro | assumption | (dsimp only [ZallP]; and_intros <;> (first | assumption | decide | omega | ((try simp (disch := omega) only [pk_mul, nI_add, Zcl_n]); exact Zin_n (by omega) (by decide)))))) ?_
  refine Zs_calls hX (List.cons_ne_nil _ _) (by decide) (s_above _ _) (by first | decide | omega) rfl rfl (by decide) (Nat.le_of_ble_eq_true rfl) (fun r_z M' hc_z => ?_)
  obtain ⟨rfl, rfl⟩ := hc_z
  rw [show (if nI 1 = nI 4 then nI 1 else if nI 1 = nI 5 then nI 2 else nI 0) = nI 0 by decide +kernel]
  refine Zgo hX 1 rfl (by (first | exact True.intro | assumption | (dsimp only [ZallP]; and_intros <;> (first | assumption | decide | omega | ((try simp (disch := omega) only [pk_mul, nI_add, Zcl_n]); exact Zin_n (by omega) (by decide)))))) ?_
  refine Zs_callv hX (List.cons_ne_nil _ _) (s_v2_0 kd_z row_z m_z x_z (fr - 1) _ hkd hv_z (by omega)) (by first | decide | omega) (by decide) rfl rfl rfl (by decide) (Nat.le_of_ble_eq_true rfl) (fun r_z M' hc_z => ?_)
  obtain ⟨rfl, hh2, hv2, hp2⟩ := hc_z
  refine Zs_ret hX hE rfl ⟨rfl, hh2, hv2, hp2⟩

set_option maxRecDepth 20000 in
set_option maxHeartbeats 1000000 in
theorem s_v2_2 (kd_z row_z m_z : Nat) (x_z : Int32) (fr : Nat) (M : Zmem) (hkd : kd_z ≤ 6) (hv_z : Zso kd_z row_z m_z M) (hfr : 10 ≤ fr) : ZC 119 fr [.ref 53, .int (nI 2), .int x_z] M (Zwq kd_z row_z m_z (Vp kd_z (nI row_z) (nI m_z) 2 x_z) M) := by
  refine ZC_of Zt119 Zk119 (Nat.le_of_ble_eq_true rfl) (by decide) rfl (fun X hX hE => ?_)
  refine Zgo hX 1 rfl (by (first | exact True.intro | assumption | (dsimp only [ZallP]; and_intros <;> (first | assumption | decide | omega | ((try simp (disch := omega) only [pk_mul, nI_add, Zcl_n]); exact Zin_n (by omega) (by decide)))))) ?_
  refine Zs_sw [(nI 0, 36), (nI 1, 96), (nI 2, 96), (nI 3, 57), (nI 4, 75)] 96 hX (by decide +kernel) (by decide +kernel) (t := 96) ((by decide +kernel)) ?_
  refine Zgo hX 2 rfl (by (first | exact True.intro | assumption | (dsimp only [ZallP]; and_intros <;> (first | assumption | decide | omega | ((try simp (disch := omega) only [pk_mul, nI_add, Zcl_n]); exact Zin_n (by omega) (by decide)))))) ?_
  refine Zs_calls hX (List.cons_ne_nil _ _) (by decide) (s_above _ _) (by first | decide | omega) rfl rfl (by decide) (Nat.le_of_ble_eq_true rfl) (fun r_z M' hc_z => ?_)
  obtain ⟨rfl, rfl⟩ := hc_z
  rw [show (if nI 2 = nI 4 then nI 1 else if nI 2 = nI 5 then nI 2 else nI 0) = nI 0 by decide +kernel]
  refine Zgo hX 1 rfl (by (first | exact True.intro | assumption | (dsimp only [ZallP]; and_intros <;> (first | assumption | decide | omega | ((try simp (disch := omega) only [pk_mul, nI_add, Zcl_n]); exact Zin_n (by omega) (by decide)))))) ?_
  refine Zs_callv hX (List.cons_ne_nil _ _) (s_v2_0 kd_z row_z m_z x_z (fr - 1) _ hkd hv_z (by omega)) (by first | decide | omega) (by decide) rfl rfl rfl (by decide) (Nat.le_of_ble_eq_true rfl) (fun r_z M' hc_z => ?_)
  obtain ⟨rfl, hh2, hv2, hp2⟩ := hc_z
  refine Zs_ret hX hE rfl ⟨rfl, hh2, hv2, hp2⟩

set_option maxRecDepth 20000 in
set_option maxHeartbeats 1000000 in
theorem s_v2_3 (kd_z row_z m_z : Nat) (x_z : Int32) (fr : Nat) (M : Zmem) (hkd : kd_z ≤ 6) (hv_z : Zso kd_z row_z m_z M) (hfr : 10 ≤ fr) : ZC 119 fr [.ref 53, .int (nI 3), .int x_z] M (Zwq kd_z row_z m_z (Vp kd_z (nI row_z) (nI m_z) 3 x_z) M) := by
  refine ZC_of Zt119 Zk119 (Nat.le_of_ble_eq_true rfl) (by decide) rfl (fun X hX hE => ?_)
  refine Zgo hX 1 rfl (by (first | exact True.intro | assumption | (dsimp only [ZallP]; and_intros <;> (first | assumption | decide | omega | ((try simp (disch := omega) only [pk_mul, nI_add, Zcl_n]); exact Zin_n (by omega) (by decide)))))) ?_
  refine Zs_sw [(nI 0, 36), (nI 1, 96), (nI 2, 96), (nI 3, 57), (nI 4, 75)] 96 hX (by decide +kernel) (by decide +kernel) (t := 57) ((by decide +kernel)) ?_
  refine Zgo hX 2 rfl (by (first | exact True.intro | assumption | (dsimp only [ZallP]; and_intros <;> (first | assumption | decide | omega | ((try simp (disch := omega) only [pk_mul, nI_add, Zcl_n]); exact Zin_n (by omega) (by decide)))))) ?_
  refine Zs_callv hX (List.cons_ne_nil _ _) (s_starts kd_z row_z m_z _ _ hv_z) (by first | decide | omega) (by decide) rfl rfl rfl (by decide) (Nat.le_of_ble_eq_true rfl) (fun r_z M' hc_z => ?_)
  obtain ⟨rfl, hh1, hv1, hp1⟩ := hc_z
  refine Zgo hX 2 rfl (by (first | exact True.intro | assumption | (dsimp only [ZallP]; and_intros <;> (first | assumption | decide | omega | ((try simp (disch := omega) only [pk_mul, nI_add, Zcl_n]); exact Zin_n (by omega) (by decide)))))) ?_
  refine Zs_calls hX (List.cons_ne_nil _ _) (by decide) (s_above _ _) (by first | decide | omega) rfl rfl (by decide) (Nat.le_of_ble_eq_true rfl) (fun r_z M' hc_z => ?_)
  obtain ⟨rfl, rfl⟩ := hc_z
  rw [show (if nI 3 = nI 4 then nI 1 else if nI 3 = nI 5 then nI 2 else nI 0) = nI 0 by decide +kernel]
  refine Zgo hX 3 rfl (show ¬ nI 2 = nI 0 by decide) ?_
  refine Zs_callv hX (List.cons_ne_nil _ _) (s_v2_0 kd_z row_z m_z (x_z / nI 2) (fr - 1) _ hkd hv1 (by omega)) (by first | decide | omega) (by decide) rfl rfl rfl (by decide) (Nat.le_of_ble_eq_true rfl) (fun r_z M' hc_z => ?_)
  obtain ⟨rfl, hh2, hv2, hp2⟩ := hc_z
  refine Zs_ret hX hE rfl ⟨rfl, hh1.tr hh2, hv2, hp2.trans hp1⟩

set_option maxRecDepth 20000 in
set_option maxHeartbeats 1000000 in
theorem s_v2_4 (kd_z row_z m_z : Nat) (x_z : Int32) (fr : Nat) (M : Zmem) (hkd : kd_z ≤ 6) (hv_z : Zso kd_z row_z m_z M) (hfr : 11 ≤ fr) : ZC 119 fr [.ref 53, .int (nI 4), .int x_z] M (Zwq kd_z row_z m_z (Vp kd_z (nI row_z) (nI m_z) 4 x_z) M) := by
  refine ZC_of Zt119 Zk119 (Nat.le_of_ble_eq_true rfl) (by decide) rfl (fun X hX hE => ?_)
  refine Zgo hX 1 rfl (by (first | exact True.intro | assumption | (dsimp only [ZallP]; and_intros <;> (first | assumption | decide | omega | ((try simp (disch := omega) only [pk_mul, nI_add, Zcl_n]); exact Zin_n (by omega) (by decide)))))) ?_
  refine Zs_sw [(nI 0, 36), (nI 1, 96), (nI 2, 96), (nI 3, 57), (nI 4, 75)] 96 hX (by decide +kernel) (by decide +kernel) (t := 75) ((by decide +kernel)) ?_
  refine Zgo hX 2 rfl (by (first | exact True.intro | assumption | (dsimp only [ZallP]; and_intros <;> (first | assumption | decide | omega | ((try simp (disch := omega) only [pk_mul, nI_add, Zcl_n]); exact Zin_n (by omega) (by decide)))))) ?_
  refine Zs_callv hX (List.cons_ne_nil _ _) (s_starts kd_z row_z m_z _ _ hv_z) (by first | decide | omega) (by decide) rfl rfl rfl (by decide) (Nat.le_of_ble_eq_true rfl) (fun r_z M' hc_z => ?_)
  obtain ⟨rfl, hh1, hv1, hp1⟩ := hc_z
  refine Zgo hX 2 rfl (by (first | exact True.intro | assumption | (dsimp only [ZallP]; and_intros <;> (first | assumption | decide | omega | ((try simp (disch := omega) only [pk_mul, nI_add, Zcl_n]); exact Zin_n (by omega) (by decide)))))) ?_
  refine Zs_calls hX (List.cons_ne_nil _ _) (by decide) (s_above _ _) (by first | decide | omega) rfl rfl (by decide) (Nat.le_of_ble_eq_true rfl) (fun r_z M' hc_z => ?_)
  obtain ⟨rfl, rfl⟩ := hc_z
  rw [show (if nI 4 = nI 4 then nI 1 else if nI 4 = nI 5 then nI 2 else nI 0) = nI 1 by decide +kernel]
  refine Zgo hX 1 rfl (by (first | exact True.intro | assumption | (dsimp only [ZallP]; and_intros <;> (first | assumption | decide | omega | ((try simp (disch := omega) only [pk_mul, nI_add, Zcl_n]); exact Zin_n (by omega) (by decide)))))) ?_
  refine Zs_callv hX (List.cons_ne_nil _ _) (s_v2_1 kd_z row_z m_z x_z (fr - 1) _ hkd hv1 (by omega)) (by first | decide | omega) (by decide) rfl rfl rfl (by decide) (Nat.le_of_ble_eq_true rfl) (fun r_z M' hc_z => ?_)
  obtain ⟨rfl, hh2, hv2, hp2⟩ := hc_z
  refine Zgo hX 3 rfl (by (first | exact True.intro | assumption | (dsimp only [ZallP]; and_intros <;> (first | assumption | decide | omega | ((try simp (disch := omega) only [pk_mul, nI_add, Zcl_n]); exact Zin_n (by omega) (by decide)))))) ?_
  rw [hv2.2.1]
  refine Zs_ret hX hE rfl ⟨rfl, hh1.tr hh2, hv2, hp2.trans hp1⟩

set_option maxRecDepth 20000 in
set_option maxHeartbeats 1000000 in
theorem s_v2_5 (kd_z row_z m_z : Nat) (x_z : Int32) (fr : Nat) (M : Zmem) (hkd : kd_z ≤ 6) (hv_z : Zso kd_z row_z m_z M) (hfr : 11 ≤ fr) : ZC 119 fr [.ref 53, .int (nI 5), .int x_z] M (Zwq kd_z row_z m_z (Vp kd_z (nI row_z) (nI m_z) 5 x_z) M) := by
  refine ZC_of Zt119 Zk119 (Nat.le_of_ble_eq_true rfl) (by decide) rfl (fun X hX hE => ?_)
  refine Zgo hX 1 rfl (by (first | exact True.intro | assumption | (dsimp only [ZallP]; and_intros <;> (first | assumption | decide | omega | ((try simp (disch := omega) only [pk_mul, nI_add, Zcl_n]); exact Zin_n (by omega) (by decide)))))) ?_
  refine Zs_sw [(nI 0, 36), (nI 1, 96), (nI 2, 96), (nI 3, 57), (nI 4, 75)] 96 hX (by decide +kernel) (by decide +kernel) (t := 96) ((by decide +kernel)) ?_
  refine Zgo hX 2 rfl (by (first | exact True.intro | assumption | (dsimp only [ZallP]; and_intros <;> (first | assumption | decide | omega | ((try simp (disch := omega) only [pk_mul, nI_add, Zcl_n]); exact Zin_n (by omega) (by decide)))))) ?_
  refine Zs_calls hX (List.cons_ne_nil _ _) (by decide) (s_above _ _) (by first | decide | omega) rfl rfl (by decide) (Nat.le_of_ble_eq_true rfl) (fun r_z M' hc_z => ?_)
  obtain ⟨rfl, rfl⟩ := hc_z
  rw [show (if nI 5 = nI 4 then nI 1 else if nI 5 = nI 5 then nI 2 else nI 0) = nI 2 by decide +kernel]
  refine Zgo hX 1 rfl (by (first | exact True.intro | assumption | (dsimp only [ZallP]; and_intros <;> (first | assumption | decide | omega | ((try simp (disch := omega) only [pk_mul, nI_add, Zcl_n]); exact Zin_n (by omega) (by decide)))))) ?_
  refine Zs_callv hX (List.cons_ne_nil _ _) (s_v2_2 kd_z row_z m_z x_z (fr - 1) _ hkd hv_z (by omega)) (by first | decide | omega) (by decide) rfl rfl rfl (by decide) (Nat.le_of_ble_eq_true rfl) (fun r_z M' hc_z => ?_)
  obtain ⟨rfl, hh2, hv2, hp2⟩ := hc_z
  refine Zs_ret hX hE rfl ⟨rfl, hh2, hv2, hp2⟩

set_option maxRecDepth 20000 in
set_option maxHeartbeats 1000000 in
theorem s_v2_6 (kd_z row_z m_z : Nat) (x_z : Int32) (fr : Nat) (M : Zmem) (hkd : kd_z ≤ 6) (hv_z : Zso kd_z row_z m_z M) (hfr : 10 ≤ fr) : ZC 119 fr [.ref 53, .int (nI 6), .int x_z] M (Zwq kd_z row_z m_z (Vp kd_z (nI row_z) (nI m_z) 6 x_z) M) := by
  refine ZC_of Zt119 Zk119 (Nat.le_of_ble_eq_true rfl) (by decide) rfl (fun X hX hE => ?_)
  refine Zgo hX 1 rfl (by (first | exact True.intro | assumption | (dsimp only [ZallP]; and_intros <;> (first | assumption | decide | omega | ((try simp (disch := omega) only [pk_mul, nI_add, Zcl_n]); exact Zin_n (by omega) (by decide)))))) ?_
  refine Zs_sw [(nI 0, 36), (nI 1, 96), (nI 2, 96), (nI 3, 57), (nI 4, 75)] 96 hX (by decide +kernel) (by decide +kernel) (t := 96) ((by decide +kernel)) ?_
  refine Zgo hX 2 rfl (by (first | exact True.intro | assumption | (dsimp only [ZallP]; and_intros <;> (first | assumption | decide | omega | ((try simp (disch := omega) only [pk_mul, nI_add, Zcl_n]); exact Zin_n (by omega) (by decide)))))) ?_
  refine Zs_calls hX (List.cons_ne_nil _ _) (by decide) (s_above _ _) (by first | decide | omega) rfl rfl (by decide) (Nat.le_of_ble_eq_true rfl) (fun r_z M' hc_z => ?_)
  obtain ⟨rfl, rfl⟩ := hc_z
  rw [show (if nI 6 = nI 4 then nI 1 else if nI 6 = nI 5 then nI 2 else nI 0) = nI 0 by decide +kernel]
  refine Zgo hX 1 rfl (by (first | exact True.intro | assumption | (dsimp only [ZallP]; and_intros <;> (first | assumption | decide | omega | ((try simp (disch := omega) only [pk_mul, nI_add, Zcl_n]); exact Zin_n (by omega) (by decide)))))) ?_
  refine Zs_callv hX (List.cons_ne_nil _ _) (s_v2_0 kd_z row_z m_z x_z (fr - 1) _ hkd hv_z (by omega)) (by first | decide | omega) (by decide) rfl rfl rfl (by decide) (Nat.le_of_ble_eq_true rfl) (fun r_z M' hc_z => ?_)
  obtain ⟨rfl, hh2, hv2, hp2⟩ := hc_z
  refine Zs_ret hX hE rfl ⟨rfl, hh2, hv2, hp2⟩


theorem s_va2 (kd_z row_z m_z : Nat) (x_z : Int32) (fr : Nat) (M : Zmem) (hkd : kd_z ≤ 6) (hv_z : Zso kd_z row_z m_z M) (hfr : 11 ≤ fr) : ZC 119 fr [.ref 53, .int (nI kd_z), .int x_z] M (Zwq kd_z row_z m_z (Vp kd_z (nI row_z) (nI m_z) kd_z x_z) M) := by
  rcases Zseven hkd with rfl | rfl | rfl | rfl | rfl | rfl | rfl
  · exact s_v2_0 0 row_z m_z x_z fr M hkd hv_z (by omega)
  · exact s_v2_1 1 row_z m_z x_z fr M hkd hv_z (by omega)
  · exact s_v2_2 2 row_z m_z x_z fr M hkd hv_z (by omega)
  · exact s_v2_3 3 row_z m_z x_z fr M hkd hv_z (by omega)
  · exact s_v2_4 4 row_z m_z x_z fr M hkd hv_z (by omega)
  · exact s_v2_5 5 row_z m_z x_z fr M hkd hv_z (by omega)
  · exact s_v2_6 6 row_z m_z x_z fr M hkd hv_z (by omega)

set_option maxRecDepth 20000 in
set_option maxHeartbeats 1000000 in
theorem s_v3_0 (kd_z row_z m_z : Nat) (x_z : Int32) (fr : Nat) (M : Zmem) (hkd : kd_z ≤ 6) (hv_z : Zso kd_z row_z m_z M) (hfr : 3 ≤ fr) : ZC 120 fr [.ref 53, .int (nI 0), .int x_z] M (Zwq3 kd_z row_z m_z (Vd kd_z (nI row_z) (nI m_z) 0 x_z) M) := by
  refine ZC_of Zt120 Zk120 (Nat.le_of_ble_eq_true rfl) (by decide) rfl (fun X hX hE => ?_)
  refine Zgo hX 1 rfl (by (first | exact True.intro | assumption | (dsimp only [ZallP]; and_intros <;> (first | assumption | decide | omega | ((try simp (disch := omega) only [pk_mul, nI_add, Zcl_n]); exact Zin_n (by omega) (by decide)))))) ?_
  refine Zs_sw [(nI 0, 28), (nI 1, 79)] 120 hX (by decide +kernel) (by decide +kernel) (t := 28) ((by decide +kernel)) ?_
  refine Zgo hX 2 rfl (by (first | exact True.intro | assumption | (dsimp only [ZallP]; and_intros <;> (first | assumption | decide | omega | ((try simp (disch := omega) only [pk_mul, nI_add, Zcl_n]); exact Zin_n (by omega) (by decide)))))) ?_
  refine Zs_callv hX (List.cons_ne_nil _ _) (s_starts kd_z row_z m_z _ _ hv_z) (by first | decide | omega) (by decide) rfl rfl rfl (by decide) (Nat.le_of_ble_eq_true rfl) (fun r_z M' hc_z => ?_)
  obtain ⟨rfl, hh1, hv1, hp1⟩ := hc_z
  refine Zgo hX 1 rfl (by (first | exact True.intro | assumption | (dsimp only [ZallP]; and_intros <;> (first | assumption | decide | omega | ((try simp (disch := omega) only [pk_mul, nI_add, Zcl_n]); exact Zin_n (by omega) (by decide)))))) ?_
  refine Zs_callv hX (List.cons_ne_nil _ _) (s_mNow kd_z row_z m_z _ hv1) (by first | decide | omega) (by decide) rfl rfl rfl (by decide) (Nat.le_of_ble_eq_true rfl) (fun r_z M' hc_z => ?_)
  obtain ⟨rfl, rfl⟩ := hc_z
  refine Zgo hX 6 rfl (by (first | exact True.intro | assumption | (dsimp only [ZallP]; and_intros <;> (first | assumption | decide | omega | ((try simp (disch := omega) only [pk_mul, nI_add, Zcl_n]); exact Zin_n (by omega) (by decide)))))) ?_
  rw [hv1.2.1]
  obtain ⟨q0, q1_z, q2_z, q3, q4⟩ := id hv1
  have hh3 : ∀ v_z : Int32, Zhw M (Zu M' 53 22 v_z) := fun v_z => hh1.u _ (Or.inl rfl)
  refine Zs_ne hX (List.cons_ne_nil _ _) (fun h_z => ?_) (fun h_z => ?_)
  · refine Zgo hX 3 rfl (Or.inl rfl) ?_
    refine Zs_ne hX (List.cons_ne_nil _ _) (fun _ => ?_) (fun q_z => False.elim ((h_z q_z)))
    refine Zgo hX 2 rfl (by (first | exact True.intro | assumption | (dsimp only [ZallP]; and_intros <;> (first | assumption | decide | omega | ((try simp (disch := omega) only [pk_mul, nI_add, Zcl_n]); exact Zin_n (by omega) (by decide)))))) ?_
    refine Zs_ine hX (List.cons_ne_nil _ _) (fun h2_z => ?_) (fun h2_z => ?_)
    · refine Zgo hX 3 rfl h_z ?_
      refine Zs_ret hX hE rfl ⟨hh3 _, ⟨q0, q1_z, q2_z, q3, q4⟩, Or.inr ⟨h_z, rfl, rfl⟩⟩
    · refine Zgo hX 3 rfl (by (first | exact True.intro | assumption | (dsimp only [ZallP]; and_intros <;> (first | assumption | decide | omega | ((try simp (disch := omega) only [pk_mul, nI_add, Zcl_n]); exact Zin_n (by omega) (by decide)))))) ?_
      refine Zs_ret hX hE rfl ⟨hh3 _, ⟨q0, q1_z, q2_z, q3, q4⟩, Or.inr ⟨h_z, rfl, congrArg (fun z_z => some (Value.int z_z)) (by show -x_z = x_z / (nI m_z - nI row_z); rw [h2_z, Zdiv_m1])⟩⟩
  · refine Zgo hX 4 rfl (Or.inr rfl) ?_
    refine Zs_ne hX (List.cons_ne_nil _ _) (fun q_z => False.elim ((q_z h_z))) (fun _ => ?_)
    refine Zgo hX 2 rfl (by (first | exact True.intro | assumption | (dsimp only [ZallP]; and_intros <;> (first | assumption | decide | omega | ((try simp (disch := omega) only [pk_mul, nI_add, Zcl_n]); exact Zin_n (by omega) (by decide)))))) ?_
    refine Zs_ret hX hE rfl ⟨hh3 _, ⟨q0, q1_z, q2_z, q3, q4⟩, Or.inl ⟨h_z, rfl, _, rfl⟩⟩

set_option maxRecDepth 20000 in
set_option maxHeartbeats 1000000 in
theorem s_v3_1 (kd_z row_z m_z : Nat) (x_z : Int32) (fr : Nat) (M : Zmem) (hkd : kd_z ≤ 6) (hv_z : Zso kd_z row_z m_z M) (hfr : 9 ≤ fr) : ZC 120 fr [.ref 53, .int (nI 1), .int x_z] M (Zwq3 kd_z row_z m_z (Vd kd_z (nI row_z) (nI m_z) 1 x_z) M) := by
  refine ZC_of Zt120 Zk120 (Nat.le_of_ble_eq_true rfl) (by decide) rfl (fun X hX hE => ?_)
  refine Zgo hX 1 rfl (by (first | exact True.intro | assumption | (dsimp only [ZallP]; and_intros <;> (first | assumption | decide | omega | ((try simp (disch := omega) only [pk_mul, nI_add, Zcl_n]); exact Zin_n (by omega) (by decide)))))) ?_
  refine Zs_sw [(nI 0, 28), (nI 1, 79)] 120 hX (by decide +kernel) (by decide +kernel) (t := 79) ((by decide +kernel)) ?_
  refine Zgo hX 2 rfl (by (first | exact True.intro | assumption | (dsimp only [ZallP]; and_intros <;> (first | assumption | decide | omega | ((try simp (disch := omega) only [pk_mul, nI_add, Zcl_n]); exact Zin_n (by omega) (by decide)))))) ?_
  refine Zs_callv hX (List.cons_ne_nil _ _) (s_starts kd_z row_z m_z _ _ hv_z) (by first | decide | omega) (by decide) rfl rfl rfl (by decide) (Nat.le_of_ble_eq_true rfl) (fun r_z M' hc_z => ?_)
  obtain ⟨rfl, hh1, hv1, hp1⟩ := hc_z
  refine Zgo hX 2 rfl (by (first | exact True.intro | assumption | (dsimp only [ZallP]; and_intros <;> (first | assumption | decide | omega | ((try simp (disch := omega) only [pk_mul, nI_add, Zcl_n]); exact Zin_n (by omega) (by decide)))))) ?_
  refine Zs_calls hX (List.cons_ne_nil _ _) (by decide) (s_above _ _) (by first | decide | omega) rfl rfl (by decide) (Nat.le_of_ble_eq_true rfl) (fun r_z M' hc_z => ?_)
  obtain ⟨rfl, rfl⟩ := hc_z
  rw [show (if nI 1 = nI 4 then nI 1 else if nI 1 = nI 5 then nI 2 else nI 0) = nI 0 by decide +kernel]
  refine Zgo hX 1 rfl (by (first | exact True.intro | assumption | (dsimp only [ZallP]; and_intros <;> (first | assumption | decide | omega | ((try simp (disch := omega) only [pk_mul, nI_add, Zcl_n]); exact Zin_n (by omega) (by decide)))))) ?_
  refine Zs_callv hX (List.cons_ne_nil _ _) (s_v3_0 kd_z row_z m_z x_z (fr - 1) _ hkd hv1 (by omega)) (by first | decide | omega) (by decide) rfl rfl rfl (by decide) (Nat.le_of_ble_eq_true rfl) (fun r_z M' hc_z => ?_)
  obtain ⟨hh2, hv2, hor⟩ := hc_z
  rcases hor with ⟨h1_z, h2_z, y_z, rfl⟩ | ⟨h1_z, h2_z, rfl⟩
  · refine Zgo hX 3 rfl (by (first | exact True.intro | assumption | (dsimp only [ZallP]; and_intros <;> (first | assumption | decide | omega | ((try simp (disch := omega) only [pk_mul, nI_add, Zcl_n]); exact Zin_n (by omega) (by decide)))))) ?_
    rw [h2_z]
    refine Zs_eq hX (List.cons_ne_nil _ _) (fun q_z => False.elim (by revert q_z; decide)) (fun _ => ?_)
    refine Zgo hX 2 rfl (by (first | exact True.intro | assumption | (dsimp only [ZallP]; and_intros <;> (first | assumption | decide | omega | ((try simp (disch := omega) only [pk_mul, nI_add, Zcl_n]); exact Zin_n (by omega) (by decide)))))) ?_
    refine Zs_ret hX hE rfl ⟨hh1.tr hh2, hv2, Or.inl ⟨h1_z, h2_z, _, rfl⟩⟩
  · refine Zgo hX 3 rfl (by (first | exact True.intro | assumption | (dsimp only [ZallP]; and_intros <;> (first | assumption | decide | omega | ((try simp (disch := omega) only [pk_mul, nI_add, Zcl_n]); exact Zin_n (by omega) (by decide)))))) ?_
    rw [h2_z]
    refine Zs_eq hX (List.cons_ne_nil _ _) (fun _ => ?_) (fun q_z => False.elim (by revert q_z; decide))
    refine Zgo hX 3 rfl (by (first | exact True.intro | assumption | (dsimp only [ZallP]; and_intros <;> (first | assumption | decide | omega | ((try simp (disch := omega) only [pk_mul, nI_add, Zcl_n]); exact Zin_n (by omega) (by decide)))))) ?_
    refine Zs_callv hX (List.cons_ne_nil _ _) (s_kindNow kd_z row_z m_z _ hv2) (by first | decide | omega) (by decide) rfl rfl rfl (by decide) (Nat.le_of_ble_eq_true rfl) (fun r_z M' hc_z => ?_)
    obtain ⟨rfl, rfl⟩ := hc_z
    refine Zgo hX 1 rfl (by (first | exact True.intro | assumption | (dsimp only [ZallP]; and_intros <;> (first | assumption | decide | omega | ((try simp (disch := omega) only [pk_mul, nI_add, Zcl_n]); exact Zin_n (by omega) (by decide)))))) ?_
    refine Zs_callv hX (List.cons_ne_nil _ _) (s_va1 kd_z row_z m_z (nI 1) (fr - 1) _ hkd hv2 (by omega)) (by first | decide | omega) (by decide) rfl rfl rfl (by decide) (Nat.le_of_ble_eq_true rfl) (fun r_z M' hc_z => ?_)
    obtain ⟨rfl, hh3, hv3, hp3⟩ := hc_z
    refine Zgo hX 1 rfl (by (first | exact True.intro | assumption | (dsimp only [ZallP]; and_intros <;> (first | assumption | decide | omega | ((try simp (disch := omega) only [pk_mul, nI_add, Zcl_n]); exact Zin_n (by omega) (by decide)))))) ?_
    refine Zs_ret hX hE rfl ⟨(hh1.tr hh2).tr hh3, hv3, Or.inr ⟨h1_z, hp3.trans h2_z, rfl⟩⟩

set_option maxRecDepth 20000 in
set_option maxHeartbeats 1000000 in
theorem s_v3_2 (kd_z row_z m_z : Nat) (x_z : Int32) (fr : Nat) (M : Zmem) (hkd : kd_z ≤ 6) (hv_z : Zso kd_z row_z m_z M) (hfr : 4 ≤ fr) : ZC 120 fr [.ref 53, .int (nI 2), .int x_z] M (Zwq3 kd_z row_z m_z (Vd kd_z (nI row_z) (nI m_z) 2 x_z) M) := by
  refine ZC_of Zt120 Zk120 (Nat.le_of_ble_eq_true rfl) (by decide) rfl (fun X hX hE => ?_)
  refine Zgo hX 1 rfl (by (first | exact True.intro | assumption | (dsimp only [ZallP]; and_intros <;> (first | assumption | decide | omega | ((try simp (disch := omega) only [pk_mul, nI_add, Zcl_n]); exact Zin_n (by omega) (by decide)))))) ?_
  refine Zs_sw [(nI 0, 28), (nI 1, 79)] 120 hX (by decide +kernel) (by decide +kernel) (t := 120) ((by decide +kernel)) ?_
  refine Zgo hX 2 rfl (by (first | exact True.intro | assumption | (dsimp only [ZallP]; and_intros <;> (first | assumption | decide | omega | ((try simp (disch := omega) only [pk_mul, nI_add, Zcl_n]); exact Zin_n (by omega) (by decide)))))) ?_
  refine Zs_calls hX (List.cons_ne_nil _ _) (by decide) (s_above _ _) (by first | decide | omega) rfl rfl (by decide) (Nat.le_of_ble_eq_true rfl) (fun r_z M' hc_z => ?_)
  obtain ⟨rfl, rfl⟩ := hc_z
  rw [show (if nI 2 = nI 4 then nI 1 else if nI 2 = nI 5 then nI 2 else nI 0) = nI 0 by decide +kernel]
  refine Zgo hX 1 rfl (by (first | exact True.intro | assumption | (dsimp only [ZallP]; and_intros <;> (first | assumption | decide | omega | ((try simp (disch := omega) only [pk_mul, nI_add, Zcl_n]); exact Zin_n (by omega) (by decide)))))) ?_
  refine Zs_callv hX (List.cons_ne_nil _ _) (s_v3_0 kd_z row_z m_z x_z (fr - 1) _ hkd hv_z (by omega)) (by first | decide | omega) (by decide) rfl rfl rfl (by decide) (Nat.le_of_ble_eq_true rfl) (fun r_z M' hc_z => ?_)
  obtain ⟨hh2, hv2, hor⟩ := hc_z
  rcases hor with ⟨h1_z, h2_z, y_z, rfl⟩ | ⟨h1_z, h2_z, rfl⟩
  · refine Zs_ret hX hE rfl ⟨hh2, hv2, Or.inl ⟨h1_z, h2_z, _, rfl⟩⟩
  · refine Zs_ret hX hE rfl ⟨hh2, hv2, Or.inr ⟨h1_z, h2_z, rfl⟩⟩

set_option maxRecDepth 20000 in
set_option maxHeartbeats 1000000 in
theorem s_v3_3 (kd_z row_z m_z : Nat) (x_z : Int32) (fr : Nat) (M : Zmem) (hkd : kd_z ≤ 6) (hv_z : Zso kd_z row_z m_z M) (hfr : 4 ≤ fr) : ZC 120 fr [.ref 53, .int (nI 3), .int x_z] M (Zwq3 kd_z row_z m_z (Vd kd_z (nI row_z) (nI m_z) 3 x_z) M) := by
  refine ZC_of Zt120 Zk120 (Nat.le_of_ble_eq_true rfl) (by decide) rfl (fun X hX hE => ?_)
  refine Zgo hX 1 rfl (by (first | exact True.intro | assumption | (dsimp only [ZallP]; and_intros <;> (first | assumption | decide | omega | ((try simp (disch := omega) only [pk_mul, nI_add, Zcl_n]); exact Zin_n (by omega) (by decide)))))) ?_
  refine Zs_sw [(nI 0, 28), (nI 1, 79)] 120 hX (by decide +kernel) (by decide +kernel) (t := 120) ((by decide +kernel)) ?_
  refine Zgo hX 2 rfl (by (first | exact True.intro | assumption | (dsimp only [ZallP]; and_intros <;> (first | assumption | decide | omega | ((try simp (disch := omega) only [pk_mul, nI_add, Zcl_n]); exact Zin_n (by omega) (by decide)))))) ?_
  refine Zs_calls hX (List.cons_ne_nil _ _) (by decide) (s_above _ _) (by first | decide | omega) rfl rfl (by decide) (Nat.le_of_ble_eq_true rfl) (fun r_z M' hc_z => ?_)
  obtain ⟨rfl, rfl⟩ := hc_z
  rw [show (if nI 3 = nI 4 then nI 1 else if nI 3 = nI 5 then nI 2 else nI 0) = nI 0 by decide +kernel]
  refine Zgo hX 1 rfl (by (first | exact True.intro | assumption | (dsimp only [ZallP]; and_intros <;> (first | assumption | decide | omega | ((try simp (disch := omega) only [pk_mul, nI_add, Zcl_n]); exact Zin_n (by omega) (by decide)))))) ?_
  refine Zs_callv hX (List.cons_ne_nil _ _) (s_v3_0 kd_z row_z m_z x_z (fr - 1) _ hkd hv_z (by omega)) (by first | decide | omega) (by decide) rfl rfl rfl (by decide) (Nat.le_of_ble_eq_true rfl) (fun r_z M' hc_z => ?_)
  obtain ⟨hh2, hv2, hor⟩ := hc_z
  rcases hor with ⟨h1_z, h2_z, y_z, rfl⟩ | ⟨h1_z, h2_z, rfl⟩
  · refine Zs_ret hX hE rfl ⟨hh2, hv2, Or.inl ⟨h1_z, h2_z, _, rfl⟩⟩
  · refine Zs_ret hX hE rfl ⟨hh2, hv2, Or.inr ⟨h1_z, h2_z, rfl⟩⟩

set_option maxRecDepth 20000 in
set_option maxHeartbeats 1000000 in
theorem s_v3_4 (kd_z row_z m_z : Nat) (x_z : Int32) (fr : Nat) (M : Zmem) (hkd : kd_z ≤ 6) (hv_z : Zso kd_z row_z m_z M) (hfr : 10 ≤ fr) : ZC 120 fr [.ref 53, .int (nI 4), .int x_z] M (Zwq3 kd_z row_z m_z (Vd kd_z (nI row_z) (nI m_z) 4 x_z) M) := by
  refine ZC_of Zt120 Zk120 (Nat.le_of_ble_eq_true rfl) (by decide) rfl (fun X hX hE => ?_)
  refine Zgo hX 1 rfl (by (first | exact True.intro | assumption | (dsimp only [ZallP]; and_intros <;> (first | assumption | decide | omega | ((try simp (disch := omega) only [pk_mul, nI_add, Zcl_n]); exact Zin_n (by omega) (by decide)))))) ?_
  refine Zs_sw [(nI 0, 28), (nI 1, 79)] 120 hX (by decide +kernel) (by decide +kernel) (t := 120) ((by decide +kernel)) ?_
  refine Zgo hX 2 rfl (by (first | exact True.intro | assumption | (dsimp only [ZallP]; and_intros <;> (first | assumption | decide | omega | ((try simp (disch := omega) only [pk_mul, nI_add, Zcl_n]); exact Zin_n (by omega) (by decide)))))) ?_
  refine Zs_calls hX (List.cons_ne_nil _ _) (by decide) (s_above _ _) (by first | decide | omega) rfl rfl (by decide) (Nat.le_of_ble_eq_true rfl) (fun r_z M' hc_z => ?_)
  obtain ⟨rfl, rfl⟩ := hc_z
  rw [show (if nI 4 = nI 4 then nI 1 else if nI 4 = nI 5 then nI 2 else nI 0) = nI 1 by decide +kernel]
  refine Zgo hX 1 rfl (by (first | exact True.intro | assumption | (dsimp only [ZallP]; and_intros <;> (first | assumption | decide | omega | ((try simp (disch := omega) only [pk_mul, nI_add, Zcl_n]); exact Zin_n (by omega) (by decide)))))) ?_
  refine Zs_callv hX (List.cons_ne_nil _ _) (s_v3_1 kd_z row_z m_z x_z (fr - 1) _ hkd hv_z (by omega)) (by first | decide | omega) (by decide) rfl rfl rfl (by decide) (Nat.le_of_ble_eq_true rfl) (fun r_z M' hc_z => ?_)
  obtain ⟨hh2, hv2, hor⟩ := hc_z
  rcases hor with ⟨h1_z, h2_z, y_z, rfl⟩ | ⟨h1_z, h2_z, rfl⟩
  · refine Zs_ret hX hE rfl ⟨hh2, hv2, Or.inl ⟨h1_z, h2_z, _, rfl⟩⟩
  · refine Zs_ret hX hE rfl ⟨hh2, hv2, Or.inr ⟨h1_z, h2_z, rfl⟩⟩

set_option maxRecDepth 20000 in
set_option maxHeartbeats 1000000 in
theorem s_v3_5 (kd_z row_z m_z : Nat) (x_z : Int32) (fr : Nat) (M : Zmem) (hkd : kd_z ≤ 6) (hv_z : Zso kd_z row_z m_z M) (hfr : 5 ≤ fr) : ZC 120 fr [.ref 53, .int (nI 5), .int x_z] M (Zwq3 kd_z row_z m_z (Vd kd_z (nI row_z) (nI m_z) 5 x_z) M) := by
  refine ZC_of Zt120 Zk120 (Nat.le_of_ble_eq_true rfl) (by decide) rfl (fun X hX hE => ?_)
  refine Zgo hX 1 rfl (by (first | exact True.intro | assumption | (dsimp only [ZallP]; and_intros <;> (first | assumption | decide | omega | ((try simp (disch := omega) only [pk_mul, nI_add, Zcl_n]); exact Zin_n (by omega) (by decide)))))) ?_
  refine Zs_sw [(nI 0, 28), (nI 1, 79)] 120 hX (by decide +kernel) (by decide +kernel) (t := 120) ((by decide +kernel)) ?_
  refine Zgo hX 2 rfl (by (first | exact True.intro | assumption | (dsimp only [ZallP]; and_intros <;> (first | assumption | decide | omega | ((try simp (disch := omega) only [pk_mul, nI_add, Zcl_n]); exact Zin_n (by omega) (by decide)))))) ?_
  refine Zs_calls hX (List.cons_ne_nil _ _) (by decide) (s_above _ _) (by first | decide | omega) rfl rfl (by decide) (Nat.le_of_ble_eq_true rfl) (fun r_z M' hc_z => ?_)
  obtain ⟨rfl, rfl⟩ := hc_z
  rw [show (if nI 5 = nI 4 then nI 1 else if nI 5 = nI 5 then nI 2 else nI 0) = nI 2 by decide +kernel]
  refine Zgo hX 1 rfl (by (first | exact True.intro | assumption | (dsimp only [ZallP]; and_intros <;> (first | assumption | decide | omega | ((try simp (disch := omega) only [pk_mul, nI_add, Zcl_n]); exact Zin_n (by omega) (by decide)))))) ?_
  refine Zs_callv hX (List.cons_ne_nil _ _) (s_v3_2 kd_z row_z m_z x_z (fr - 1) _ hkd hv_z (by omega)) (by first | decide | omega) (by decide) rfl rfl rfl (by decide) (Nat.le_of_ble_eq_true rfl) (fun r_z M' hc_z => ?_)
  obtain ⟨hh2, hv2, hor⟩ := hc_z
  rcases hor with ⟨h1_z, h2_z, y_z, rfl⟩ | ⟨h1_z, h2_z, rfl⟩
  · refine Zs_ret hX hE rfl ⟨hh2, hv2, Or.inl ⟨h1_z, h2_z, _, rfl⟩⟩
  · refine Zs_ret hX hE rfl ⟨hh2, hv2, Or.inr ⟨h1_z, h2_z, rfl⟩⟩

set_option maxRecDepth 20000 in
set_option maxHeartbeats 1000000 in
theorem s_v3_6 (kd_z row_z m_z : Nat) (x_z : Int32) (fr : Nat) (M : Zmem) (hkd : kd_z ≤ 6) (hv_z : Zso kd_z row_z m_z M) (hfr : 4 ≤ fr) : ZC 120 fr [.ref 53, .int (nI 6), .int x_z] M (Zwq3 kd_z row_z m_z (Vd kd_z (nI row_z) (nI m_z) 6 x_z) M) := by
  refine ZC_of Zt120 Zk120 (Nat.le_of_ble_eq_true rfl) (by decide) rfl (fun X hX hE => ?_)
  refine Zgo hX 1 rfl (by (first | exact True.intro | assumption | (dsimp only [ZallP]; and_intros <;> (first | assumption | decide | omega | ((try simp (disch := omega) only [pk_mul, nI_add, Zcl_n]); exact Zin_n (by omega) (by decide)))))) ?_
  refine Zs_sw [(nI 0, 28), (nI 1, 79)] 120 hX (by decide +kernel) (by decide +kernel) (t := 120) ((by decide +kernel)) ?_
  refine Zgo hX 2 rfl (by (first | exact True.intro | assumption | (dsimp only [ZallP]; and_intros <;> (first | assumption | decide | omega | ((try simp (disch := omega) only [pk_mul, nI_add, Zcl_n]); exact Zin_n (by omega) (by decide)))))) ?_
  refine Zs_calls hX (List.cons_ne_nil _ _) (by decide) (s_above _ _) (by first | decide | omega) rfl rfl (by decide) (Nat.le_of_ble_eq_true rfl) (fun r_z M' hc_z => ?_)
  obtain ⟨rfl, rfl⟩ := hc_z
  rw [show (if nI 6 = nI 4 then nI 1 else if nI 6 = nI 5 then nI 2 else nI 0) = nI 0 by decide +kernel]
  refine Zgo hX 1 rfl (by (first | exact True.intro | assumption | (dsimp only [ZallP]; and_intros <;> (first | assumption | decide | omega | ((try simp (disch := omega) only [pk_mul, nI_add, Zcl_n]); exact Zin_n (by omega) (by decide)))))) ?_
  refine Zs_callv hX (List.cons_ne_nil _ _) (s_v3_0 kd_z row_z m_z x_z (fr - 1) _ hkd hv_z (by omega)) (by first | decide | omega) (by decide) rfl rfl rfl (by decide) (Nat.le_of_ble_eq_true rfl) (fun r_z M' hc_z => ?_)
  obtain ⟨hh2, hv2, hor⟩ := hc_z
  rcases hor with ⟨h1_z, h2_z, y_z, rfl⟩ | ⟨h1_z, h2_z, rfl⟩
  · refine Zs_ret hX hE rfl ⟨hh2, hv2, Or.inl ⟨h1_z, h2_z, _, rfl⟩⟩
  · refine Zs_ret hX hE rfl ⟨hh2, hv2, Or.inr ⟨h1_z, h2_z, rfl⟩⟩


theorem s_va3 (kd_z row_z m_z : Nat) (x_z : Int32) (fr : Nat) (M : Zmem) (hkd : kd_z ≤ 6) (hv_z : Zso kd_z row_z m_z M) (hfr : 10 ≤ fr) : ZC 120 fr [.ref 53, .int (nI kd_z), .int x_z] M (Zwq3 kd_z row_z m_z (Vd kd_z (nI row_z) (nI m_z) kd_z x_z) M) := by
  rcases Zseven hkd with rfl | rfl | rfl | rfl | rfl | rfl | rfl
  · exact s_v3_0 0 row_z m_z x_z fr M hkd hv_z (by omega)
  · exact s_v3_1 1 row_z m_z x_z fr M hkd hv_z (by omega)
  · exact s_v3_2 2 row_z m_z x_z fr M hkd hv_z (by omega)
  · exact s_v3_3 3 row_z m_z x_z fr M hkd hv_z (by omega)
  · exact s_v3_4 4 row_z m_z x_z fr M hkd hv_z (by omega)
  · exact s_v3_5 5 row_z m_z x_z fr M hkd hv_z (by omega)
  · exact s_v3_6 6 row_z m_z x_z fr M hkd hv_z (by omega)

set_option maxRecDepth 20000 in
set_option maxHeartbeats 1000000 in
theorem s_voice (n_z : Nat) (row_z v_z x_z : Int32) (a_z : Nat) (M : Zmem) (hfi : Zfi (M 54)) (hn_z : M 54 7 = nI n_z) (hn2 : n_z ≤ 15) (ht_z : M 53 19 = nI a_z) (ha_z : a_z ≤ 30) : ZC 121 12 [.ref 53, .int row_z, .int v_z, .int x_z] M (fun r_z M' => r_z = some (.int (Fvoice (M 54) n_z row_z v_z x_z)) ∧ Zhw M M' ∧ ∃ b_z, b_z ≤ 30 ∧ M' 53 19 = nI b_z) := by
  refine ZC_of Zt121 Zk121 (Nat.le_of_ble_eq_true rfl) (by decide) rfl (fun X hX hE => ?_)
  have BAD : ¬ (vp_in row_z n_z ∧ nI 0 ≤ v_z ∧ v_z ≤ nI 3) → ZP X Zt121 (Zsf Zt121 17) (lv_args 0 [.ref 53, .int row_z, .int v_z, .int x_z]) [] M := by
    intro h_z
    refine Zgo hX 2 rfl (by (first | exact True.intro | assumption | (dsimp only [ZallP]; and_intros <;> (first | assumption | decide | omega | ((try simp (disch := omega) only [pk_mul, nI_add, Zcl_n]); exact Zin_n (by omega) (by decide)))))) ?_
    refine Zs_callv hX (List.cons_ne_nil _ _) (s_error 1 _ (by decide)) (by first | decide | omega) (by decide) rfl rfl rfl (by decide) (Nat.le_of_ble_eq_true rfl) (fun r_z M' hc_z => ?_)
    obtain ⟨rfl, hsc⟩ := hc_z
    refine Zs_ret hX hE rfl ⟨by rw [Fvoice, if_neg h_z], hsc.hw, a_z, ha_z, (hsc 53 19 rfl).trans ht_z⟩
  refine Zgo hX 2 rfl (by (first | exact True.intro | assumption | (dsimp only [ZallP]; and_intros <;> (first | assumption | decide | omega | ((try simp (disch := omega) only [pk_mul, nI_add, Zcl_n]); exact Zin_n (by omega) (by decide)))))) ?_
  refine Zs_callv hX (List.cons_ne_nil _ _) (s_isRow row_z n_z M hn_z hn2) (by first | decide | omega) (by decide) rfl rfl rfl (by decide) (Nat.le_of_ble_eq_true rfl) (fun r_z M' hc_z => ?_)
  rcases hc_z with ⟨⟨rfl, h1_z⟩ | ⟨rfl, h1_z⟩, rfl⟩
  · refine Zs_eq hX (List.cons_ne_nil _ _) (fun q_z => False.elim (by revert q_z; decide)) (fun _ => ?_)
    refine Zgo hX 3 rfl (by (first | exact True.intro | assumption | (dsimp only [ZallP]; and_intros <;> (first | assumption | decide | omega | ((try simp (disch := omega) only [pk_mul, nI_add, Zcl_n]); exact Zin_n (by omega) (by decide)))))) ?_
    refine Zs_calls hX (List.cons_ne_nil _ _) (by decide) (s_in _ _ _ _) (by first | decide | omega) rfl rfl (by decide) (Nat.le_of_ble_eq_true rfl) (fun r_z M' hc_z => ?_)
    rcases hc_z with ⟨⟨rfl, h2_z⟩ | ⟨rfl, h2_z⟩, rfl⟩
    · refine Zs_ne hX (List.cons_ne_nil _ _) (fun _ => ?_) (fun q_z => False.elim (by revert q_z; decide))
      have hall := And.intro h1_z h2_z
      obtain ⟨i_z, hi_z, rfl, ei⟩ := Zvp h1_z (by omega)
      obtain ⟨w_z, hw_z, rfl⟩ := Zbt_ex (b_z := 3) (by decide) h2_z
      obtain ⟨⟨kd_z, hkd, e1_z⟩, ⟨m_z, hm_z, e2_z⟩, -, -, -⟩ := hfi.rw hn_z hn2 hi_z
      refine Zgo hX 10 rfl (Or.inl rfl) ?_
      refine Zs_abs (fun M1 => Zso kd_z i_z m_z M1 ∧ Zhw M M1 ∧ M1 53 22 = nI 0) ⟨⟨by omega, rfl, e1_z, e2_z, 0, by decide, rfl⟩, (((Zhw.rf M).u _ (Or.inr ⟨rfl, rfl⟩)).u _ (Or.inl rfl)).u _ (Or.inl rfl), rfl⟩ (fun M1 hM1 => ?_)
      obtain ⟨hv1, hh1, hp1⟩ := hM1
      refine Zs_callv hX (List.cons_ne_nil _ _) (s_kindNow kd_z i_z m_z _ hv1) (by first | decide | omega) (by decide) rfl rfl rfl (by decide) (Nat.le_of_ble_eq_true rfl) (fun r_z M' hc_z => ?_)
      obtain ⟨rfl, rfl⟩ := hc_z
      rcases (show w_z = 0 ∨ w_z = 1 ∨ w_z = 2 ∨ w_z = 3 by omega) with rfl | rfl | rfl | rfl
      · refine Zgo hX 2 rfl (by (first | exact True.intro | assumption | (dsimp only [ZallP]; and_intros <;> (first | assumption | decide | omega | ((try simp (disch := omega) only [pk_mul, nI_add, Zcl_n]); exact Zin_n (by omega) (by decide)))))) ?_
        refine Zs_ne hX (List.cons_ne_nil _ _) (fun q_z => False.elim (by revert q_z; decide)) (fun _ => ?_)
        refine Zgo hX 3 rfl (by (first | exact True.intro | assumption | (dsimp only [ZallP]; and_intros <;> (first | assumption | decide | omega | ((try simp (disch := omega) only [pk_mul, nI_add, Zcl_n]); exact Zin_n (by omega) (by decide)))))) ?_
        refine Zs_callv hX (List.cons_ne_nil _ _) (s_va0 kd_z i_z m_z x_z 11 _ hkd hv1 (by decide)) (by first | decide | omega) (by decide) rfl rfl rfl (by decide) (Nat.le_of_ble_eq_true rfl) (fun r_z M' hc_z => ?_)
        obtain ⟨rfl, hh2, hv2, hp2⟩ := hc_z
        refine Zgo hX 4 rfl (by (first | exact True.intro | assumption | (dsimp only [ZallP]; and_intros <;> (first | assumption | decide | omega | ((try simp (disch := omega) only [pk_mul, nI_add, Zcl_n]); exact Zin_n (by omega) (by decide)))))) ?_
        rw [hp2.trans hp1]
        refine Zs_eq hX (List.cons_ne_nil _ _) (fun _ => ?_) (fun q_z => False.elim (by revert q_z; decide))
        refine Zgo hX 1 rfl (by (first | exact True.intro | assumption | (dsimp only [ZallP]; and_intros <;> (first | assumption | decide | omega | ((try simp (disch := omega) only [pk_mul, nI_add, Zcl_n]); exact Zin_n (by omega) (by decide)))))) ?_
        refine Zs_ret hX hE rfl ⟨by rw [Fvoice, if_pos hall, ei, e1_z, e2_z, if_neg (fun q_z => absurd q_z.1 (by decide)), Zcl_n (show kd_z < 2 ^ 31 by omega), show (nI 0).toNatClampNeg = 0 from Zcl_n (by decide)]; rfl, hh1.tr hh2, hv2.2.2.2.2⟩
      · refine Zgo hX 2 rfl (by (first | exact True.intro | assumption | (dsimp only [ZallP]; and_intros <;> (first | assumption | decide | omega | ((try simp (disch := omega) only [pk_mul, nI_add, Zcl_n]); exact Zin_n (by omega) (by decide)))))) ?_
        refine Zs_ne hX (List.cons_ne_nil _ _) (fun _ => ?_) (fun q_z => False.elim (by revert q_z; decide))
        refine Zgo hX 2 rfl (by (first | exact True.intro | assumption | (dsimp only [ZallP]; and_intros <;> (first | assumption | decide | omega | ((try simp (disch := omega) only [pk_mul, nI_add, Zcl_n]); exact Zin_n (by omega) (by decide)))))) ?_
        refine Zs_ine hX (List.cons_ne_nil _ _) (fun q_z => False.elim (by revert q_z; decide)) (fun _ => ?_)
        refine Zgo hX 3 rfl (by (first | exact True.intro | assumption | (dsimp only [ZallP]; and_intros <;> (first | assumption | decide | omega | ((try simp (disch := omega) only [pk_mul, nI_add, Zcl_n]); exact Zin_n (by omega) (by decide)))))) ?_
        refine Zs_callv hX (List.cons_ne_nil _ _) (s_va1 kd_z i_z m_z x_z 11 _ hkd hv1 (by decide)) (by first | decide | omega) (by decide) rfl rfl rfl (by decide) (Nat.le_of_ble_eq_true rfl) (fun r_z M' hc_z => ?_)
        obtain ⟨rfl, hh2, hv2, hp2⟩ := hc_z
        refine Zgo hX 4 rfl (by (first | exact True.intro | assumption | (dsimp only [ZallP]; and_intros <;> (first | assumption | decide | omega | ((try simp (disch := omega) only [pk_mul, nI_add, Zcl_n]); exact Zin_n (by omega) (by decide)))))) ?_
        rw [hp2.trans hp1]
        refine Zs_eq hX (List.cons_ne_nil _ _) (fun _ => ?_) (fun q_z => False.elim (by revert q_z; decide))
        refine Zgo hX 1 rfl (by (first | exact True.intro | assumption | (dsimp only [ZallP]; and_intros <;> (first | assumption | decide | omega | ((try simp (disch := omega) only [pk_mul, nI_add, Zcl_n]); exact Zin_n (by omega) (by decide)))))) ?_
        refine Zs_ret hX hE rfl ⟨by rw [Fvoice, if_pos hall, ei, e1_z, e2_z, if_neg (fun q_z => absurd q_z.1 (by decide)), Zcl_n (show kd_z < 2 ^ 31 by omega), show (nI 1).toNatClampNeg = 1 from Zcl_n (by decide)]; rfl, hh1.tr hh2, hv2.2.2.2.2⟩
      · refine Zgo hX 2 rfl (by (first | exact True.intro | assumption | (dsimp only [ZallP]; and_intros <;> (first | assumption | decide | omega | ((try simp (disch := omega) only [pk_mul, nI_add, Zcl_n]); exact Zin_n (by omega) (by decide)))))) ?_
        refine Zs_ne hX (List.cons_ne_nil _ _) (fun _ => ?_) (fun q_z => False.elim (by revert q_z; decide))
        refine Zgo hX 2 rfl (by (first | exact True.intro | assumption | (dsimp only [ZallP]; and_intros <;> (first | assumption | decide | omega | ((try simp (disch := omega) only [pk_mul, nI_add, Zcl_n]); exact Zin_n (by omega) (by decide)))))) ?_
        refine Zs_ine hX (List.cons_ne_nil _ _) (fun _ => ?_) (fun q_z => False.elim (by revert q_z; decide))
        refine Zgo hX 2 rfl (by (first | exact True.intro | assumption | (dsimp only [ZallP]; and_intros <;> (first | assumption | decide | omega | ((try simp (disch := omega) only [pk_mul, nI_add, Zcl_n]); exact Zin_n (by omega) (by decide)))))) ?_
        refine Zs_ine hX (List.cons_ne_nil _ _) (fun q_z => False.elim (by revert q_z; decide)) (fun _ => ?_)
        refine Zgo hX 3 rfl (by (first | exact True.intro | assumption | (dsimp only [ZallP]; and_intros <;> (first | assumption | decide | omega | ((try simp (disch := omega) only [pk_mul, nI_add, Zcl_n]); exact Zin_n (by omega) (by decide)))))) ?_
        refine Zs_callv hX (List.cons_ne_nil _ _) (s_va2 kd_z i_z m_z x_z 11 _ hkd hv1 (by decide)) (by first | decide | omega) (by decide) rfl rfl rfl (by decide) (Nat.le_of_ble_eq_true rfl) (fun r_z M' hc_z => ?_)
        obtain ⟨rfl, hh2, hv2, hp2⟩ := hc_z
        refine Zgo hX 4 rfl (by (first | exact True.intro | assumption | (dsimp only [ZallP]; and_intros <;> (first | assumption | decide | omega | ((try simp (disch := omega) only [pk_mul, nI_add, Zcl_n]); exact Zin_n (by omega) (by decide)))))) ?_
        rw [hp2.trans hp1]
        refine Zs_eq hX (List.cons_ne_nil _ _) (fun _ => ?_) (fun q_z => False.elim (by revert q_z; decide))
        refine Zgo hX 1 rfl (by (first | exact True.intro | assumption | (dsimp only [ZallP]; and_intros <;> (first | assumption | decide | omega | ((try simp (disch := omega) only [pk_mul, nI_add, Zcl_n]); exact Zin_n (by omega) (by decide)))))) ?_
        refine Zs_ret hX hE rfl ⟨by rw [Fvoice, if_pos hall, ei, e1_z, e2_z, if_neg (fun q_z => absurd q_z.1 (by decide)), Zcl_n (show kd_z < 2 ^ 31 by omega), show (nI 2).toNatClampNeg = 2 from Zcl_n (by decide)]; rfl, hh1.tr hh2, hv2.2.2.2.2⟩
      · refine Zgo hX 2 rfl (by (first | exact True.intro | assumption | (dsimp only [ZallP]; and_intros <;> (first | assumption | decide | omega | ((try simp (disch := omega) only [pk_mul, nI_add, Zcl_n]); exact Zin_n (by omega) (by decide)))))) ?_
        refine Zs_ne hX (List.cons_ne_nil _ _) (fun _ => ?_) (fun q_z => False.elim (by revert q_z; decide))
        refine Zgo hX 2 rfl (by (first | exact True.intro | assumption | (dsimp only [ZallP]; and_intros <;> (first | assumption | decide | omega | ((try simp (disch := omega) only [pk_mul, nI_add, Zcl_n]); exact Zin_n (by omega) (by decide)))))) ?_
        refine Zs_ine hX (List.cons_ne_nil _ _) (fun _ => ?_) (fun q_z => False.elim (by revert q_z; decide))
        refine Zgo hX 2 rfl (by (first | exact True.intro | assumption | (dsimp only [ZallP]; and_intros <;> (first | assumption | decide | omega | ((try simp (disch := omega) only [pk_mul, nI_add, Zcl_n]); exact Zin_n (by omega) (by decide)))))) ?_
        refine Zs_ine hX (List.cons_ne_nil _ _) (fun _ => ?_) (fun q_z => False.elim (by revert q_z; decide))
        refine Zgo hX 3 rfl (by (first | exact True.intro | assumption | (dsimp only [ZallP]; and_intros <;> (first | assumption | decide | omega | ((try simp (disch := omega) only [pk_mul, nI_add, Zcl_n]); exact Zin_n (by omega) (by decide)))))) ?_
        refine Zs_callv hX (List.cons_ne_nil _ _) (s_va3 kd_z i_z m_z x_z 11 _ hkd hv1 (by decide)) (by first | decide | omega) (by decide) rfl rfl rfl (by decide) (Nat.le_of_ble_eq_true rfl) (fun r_z M' hc_z => ?_)
        obtain ⟨hh2, hv2, hor⟩ := hc_z
        rcases hor with ⟨h3_z, h4_z, y_z, rfl⟩ | ⟨h3_z, h4_z, rfl⟩
        · refine Zgo hX 3 rfl (by (first | exact True.intro | assumption | (dsimp only [ZallP]; and_intros <;> (first | assumption | decide | omega | ((try simp (disch := omega) only [pk_mul, nI_add, Zcl_n]); exact Zin_n (by omega) (by decide)))))) ?_
          rw [h4_z]
          refine Zs_eq hX (List.cons_ne_nil _ _) (fun q_z => False.elim (by revert q_z; decide)) (fun _ => ?_)
          refine Zgo hX 2 rfl (by (first | exact True.intro | assumption | (dsimp only [ZallP]; and_intros <;> (first | assumption | decide | omega | ((try simp (disch := omega) only [pk_mul, nI_add, Zcl_n]); exact Zin_n (by omega) (by decide)))))) ?_
          refine Zs_callv hX (List.cons_ne_nil _ _) (s_error 6 _ (by decide)) (by first | decide | omega) (by decide) rfl rfl rfl (by decide) (Nat.le_of_ble_eq_true rfl) (fun r_z M' hc_z => ?_)
          obtain ⟨rfl, hsc2⟩ := hc_z
          refine Zgo hX 1 rfl (by (first | exact True.intro | assumption | (dsimp only [ZallP]; and_intros <;> (first | assumption | decide | omega | ((try simp (disch := omega) only [pk_mul, nI_add, Zcl_n]); exact Zin_n (by omega) (by decide)))))) ?_
          refine Zs_ret hX hE rfl ⟨by rw [Fvoice, if_pos hall, ei, e1_z, e2_z, if_pos ⟨rfl, h3_z⟩], (hh1.tr hh2).tr hsc2.hw, by obtain ⟨b_z, hb_z, q4⟩ := hv2.2.2.2.2; exact ⟨b_z, hb_z, (hsc2 53 19 rfl).trans q4⟩⟩
        · refine Zgo hX 3 rfl (by (first | exact True.intro | assumption | (dsimp only [ZallP]; and_intros <;> (first | assumption | decide | omega | ((try simp (disch := omega) only [pk_mul, nI_add, Zcl_n]); exact Zin_n (by omega) (by decide)))))) ?_
          rw [h4_z]
          refine Zs_eq hX (List.cons_ne_nil _ _) (fun _ => ?_) (fun q_z => False.elim (by revert q_z; decide))
          refine Zgo hX 1 rfl (by (first | exact True.intro | assumption | (dsimp only [ZallP]; and_intros <;> (first | assumption | decide | omega | ((try simp (disch := omega) only [pk_mul, nI_add, Zcl_n]); exact Zin_n (by omega) (by decide)))))) ?_
          refine Zs_ret hX hE rfl ⟨by rw [Fvoice, if_pos hall, ei, e1_z, e2_z, if_neg (fun q_z => h3_z q_z.2), Zcl_n (show kd_z < 2 ^ 31 by omega), show (nI 3).toNatClampNeg = 3 from Zcl_n (by decide)]; rfl, hh1.tr hh2, hv2.2.2.2.2⟩
    · refine Zs_ne hX (List.cons_ne_nil _ _) (fun q_z => False.elim (by revert q_z; decide)) (fun _ => ?_)
      exact BAD (fun q_z => h2_z q_z.2)
  · refine Zs_eq hX (List.cons_ne_nil _ _) (fun _ => ?_) (fun q_z => False.elim (by revert q_z; decide))
    exact BAD (fun q_z => h1_z q_z.1)
