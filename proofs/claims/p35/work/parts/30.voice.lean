set_option maxRecDepth 20000 in
set_option maxHeartbeats 1000000 in
theorem k_bodyOf (kd_z v_z : Nat) (M : Zmem) (hkd : kd_z ≤ 6) (hv_z : v_z ≤ 3) : ZC 193 2 [.int (nI kd_z), .int (nI v_z)] M (fun r_z M' => r_z = some (.int (Zbl v_z (Zchn kd_z))) ∧ M = M') := by
  refine ZC_of Zt193 Zk193 (Nat.le_of_ble_eq_true rfl) (by decide) rfl (fun X hX hE => ?_)
  obtain ⟨L0, e0_z, hl0, hcv0⟩ := Zcv_ok hkd
  rw [e0_z] at hE
  have L : ∀ (L : List Int32) (a_z a0 : Int32) (i_z : Nat), Zcv (a_z :: L) → i_z + L.length ≤ 5 → Zbl v_z (a_z :: L) = Zbl v_z (nI kd_z :: L0) → ZP X Zt193 (Zsf Zt193 4) [(2, .int a_z), (3, .int (nI i_z)), (0, .int a0), (1, .int (nI v_z))] [] M := by
    intro L
    induction L with
    | nil =>
      intro a_z a0 i_z hcv hi_z he_z
      obtain ⟨-, rfl⟩ := hcv
      simp only [List.length_nil] at hi_z
      have hb_z : ¬ Zbd (4 * 0 + v_z) = 0 := by
        rcases (show v_z = 0 ∨ v_z = 1 ∨ v_z = 2 ∨ v_z = 3 by omega) with rfl | rfl | rfl | rfl <;> decide
      have e2_z : Zbl v_z [nI 0] = Zbd (4 * 0 + v_z) := by rw [Zbl, Zcl_n (show 0 < 2 ^ 31 by decide), if_neg hb_z]
      refine Zgo hX 2 rfl (by (first | exact True.intro | assumption | (dsimp only [ZallP]; and_intros <;> (first | assumption | decide | omega | ((try simp (disch := omega) only [pk_mul, nI_add, Zcl_n]); exact Zin_n (by omega) (by decide)))))) ?_
      refine Zs_igt hX (List.cons_ne_nil _ _) (fun h2_z => ?_) (fun h2_z => ?_)
      · exact absurd h2_z (Int32.not_lt.mpr ((Zn_le (by omega) (by decide)).mpr (by omega)))
      · refine Zgo hX 7 rfl (by (first | exact True.intro | assumption | (dsimp only [ZallP]; and_intros <;> (first | assumption | decide | omega | ((try simp (disch := omega) only [pk_mul, nI_add, Zcl_n]); exact Zin_n (by omega) (by decide)))))) ?_
        rw [pk_mul, nI_add]
        refine Zs_lt hX (List.cons_ne_nil _ _) (fun q_z => False.elim (by revert q_z; decide)) (fun _ => ?_)
        refine Zgo hX 1 rfl (by (first | exact True.intro | assumption | (dsimp only [ZallP]; and_intros <;> (first | assumption | decide | omega | ((try simp (disch := omega) only [pk_mul, nI_add, Zcl_n]); exact Zin_n (by omega) (by decide)))))) ?_
        refine Zs_lt hX (List.cons_ne_nil _ _) (fun h4_z => ?_) (fun h4_z => ?_)
        · exact absurd h4_z (Zn_nlt0 (by omega))
        · refine Zgo hX 3 rfl (by (first | exact True.intro | assumption | (dsimp only [ZallP]; and_intros <;> (first | assumption | decide | omega | ((try simp (disch := omega) only [pk_mul, nI_add, Zcl_n]); exact Zin_n (by omega) (by decide)))))) ?_
          refine Zs_ilt hX (List.cons_ne_nil _ _) (fun h5_z => ?_) (fun h5_z => ?_)
          · refine Zgo hX 3 rfl (Zin_n (by omega) (by decide)) ?_
            rw [Zcl_n (show 4 * 0 + v_z < 2 ^ 31 by omega)]
            refine Zs_eq hX (List.cons_ne_nil _ _) (fun q_z => False.elim ((hb_z q_z))) (fun _ => ?_)
            refine Zgo hX 3 rfl (Zin_n (by omega) (by decide)) ?_
            rw [Zcl_n (show 4 * 0 + v_z < 2 ^ 31 by omega)]
            refine Zs_ret hX hE rfl ⟨by rw [← he_z, e2_z]; rfl, rfl⟩
          · exact absurd ((Zn_lt (by omega) (by decide)).mpr (by omega)) h5_z
    | cons b_z L ih_z =>
      intro a_z a0 i_z hcv hi_z he_z
      obtain ⟨⟨kd', h1_z, rfl, hb_z, hk0⟩, -, hcv2⟩ := hcv
      simp only [List.length_cons] at hi_z
      refine Zgo hX 2 rfl (by (first | exact True.intro | assumption | (dsimp only [ZallP]; and_intros <;> (first | assumption | decide | omega | ((try simp (disch := omega) only [pk_mul, nI_add, Zcl_n]); exact Zin_n (by omega) (by decide)))))) ?_
      refine Zs_igt hX (List.cons_ne_nil _ _) (fun h2_z => ?_) (fun h2_z => ?_)
      · exact absurd h2_z (Int32.not_lt.mpr ((Zn_le (by omega) (by decide)).mpr (by omega)))
      · refine Zgo hX 7 rfl (by (first | exact True.intro | assumption | (dsimp only [ZallP]; and_intros <;> (first | assumption | decide | omega | ((try simp (disch := omega) only [pk_mul, nI_add, Zcl_n]); exact Zin_n (by omega) (by decide)))))) ?_
        rw [pk_mul, nI_add]
        refine Zs_lt hX (List.cons_ne_nil _ _) (fun q_z => False.elim ((absurd q_z (Zn_nlt0 (by omega))))) (fun _ => ?_)
        refine Zgo hX 1 rfl (by (first | exact True.intro | assumption | (dsimp only [ZallP]; and_intros <;> (first | assumption | decide | omega | ((try simp (disch := omega) only [pk_mul, nI_add, Zcl_n]); exact Zin_n (by omega) (by decide)))))) ?_
        refine Zs_lt hX (List.cons_ne_nil _ _) (fun h4_z => ?_) (fun h4_z => ?_)
        · exact absurd h4_z (Zn_nlt0 (by omega))
        · refine Zgo hX 3 rfl (by (first | exact True.intro | assumption | (dsimp only [ZallP]; and_intros <;> (first | assumption | decide | omega | ((try simp (disch := omega) only [pk_mul, nI_add, Zcl_n]); exact Zin_n (by omega) (by decide)))))) ?_
          refine Zs_ilt hX (List.cons_ne_nil _ _) (fun h5_z => ?_) (fun h5_z => ?_)
          · refine Zgo hX 3 rfl (Zin_n (by omega) (by decide)) ?_
            rw [Zcl_n (show 4 * kd' + v_z < 2 ^ 31 by omega)]
            refine Zs_eq hX (List.cons_ne_nil _ _) (fun h6_z => ?_) (fun h6_z => ?_)
            · have h6_z : Zbd (4 * kd' + v_z) = 0 := h6_z
              refine Zgo hX 1 rfl (by (first | exact True.intro | assumption | (dsimp only [ZallP]; and_intros <;> (first | assumption | decide | omega | ((try simp (disch := omega) only [pk_mul, nI_add, Zcl_n]); exact Zin_n (by omega) (by decide)))))) ?_
              refine Zs_calls hX (List.cons_ne_nil _ _) (by decide) (k_above _ _) (by first | decide | omega) rfl rfl (by decide) (Nat.le_of_ble_eq_true rfl) (fun r_z M' hc_z => ?_)
              obtain ⟨⟨x_z, rfl, hx_z⟩, rfl⟩ := hc_z
              rw [Zab_of h1_z hx_z, hb_z]
              refine Zgo hX 3 rfl (by (first | exact True.intro | assumption | (dsimp only [ZallP]; and_intros <;> (first | assumption | decide | omega | ((try simp (disch := omega) only [pk_mul, nI_add, Zcl_n]); exact Zin_n (by omega) (by decide)))))) ?_
              rw [nI_add]
              refine Zs_sub (l' := [(2, .int b_z), (3, .int (nI (i_z + 1))), (0, .int a0), (1, .int (nI v_z))]) rfl ?_
              exact ih_z b_z a0 (i_z + 1) hcv2 (by omega) (by rw [← he_z]; show _ = (if Zbd (4 * (nI kd').toNatClampNeg + v_z) = 0 then Zbl v_z (b_z :: L) else Zbd (4 * (nI kd').toNatClampNeg + v_z)); rw [Zcl_n (show kd' < 2 ^ 31 by omega), if_pos h6_z])
            · have h6_z : ¬ Zbd (4 * kd' + v_z) = 0 := h6_z
              refine Zgo hX 3 rfl (Zin_n (by omega) (by decide)) ?_
              rw [Zcl_n (show 4 * kd' + v_z < 2 ^ 31 by omega)]
              refine Zs_ret hX hE rfl ⟨by rw [← he_z, Zbl, Zcl_n (show kd' < 2 ^ 31 by omega), if_neg h6_z]; rfl, rfl⟩
          · exact absurd ((Zn_lt (by omega) (by decide)).mpr (by omega)) h5_z
  refine Zgo hX 4 rfl (by (first | exact True.intro | assumption | (dsimp only [ZallP]; and_intros <;> (first | assumption | decide | omega | ((try simp (disch := omega) only [pk_mul, nI_add, Zcl_n]); exact Zin_n (by omega) (by decide)))))) ?_
  refine Zs_sub (l' := [(2, .int (nI kd_z)), (3, .int (nI 0)), (0, .int (nI kd_z)), (1, .int (nI v_z))]) rfl ?_
  exact L L0 (nI kd_z) (nI kd_z) 0 hcv0 (by omega) rfl

set_option maxRecDepth 20000 in
set_option maxHeartbeats 1000000 in
theorem k_w10 (kd_z : Nat) (k_z m_z x_z : Int32) (d_z fr : Nat) (M : Zmem) (hkd : kd_z ≤ 6) (hv_z : Zvo kd_z k_z m_z M) (hfr : 2 ≤ fr) (hd_z : d_z + 0 ≤ 31) : ZC 194 fr [.ref 40, .int (nI 10), .int x_z, .int (nI d_z)] M (Zvq kd_z k_z m_z (Vr k_z 0 x_z) M) := by
  refine ZC_of Zt194 Zk194 (Nat.le_of_ble_eq_true rfl) (by decide) rfl (fun X hX hE => ?_)
  obtain ⟨g1, g2, g3, b_z, hb_z, g4⟩ := id hv_z
  refine Zgo hX 5 rfl (by (first | exact True.intro | assumption | (dsimp only [ZallP]; and_intros <;> (first | assumption | decide | omega | ((try simp (disch := omega) only [pk_mul, nI_add, Zcl_n]); exact Zin_n (by omega) (by decide)))))) ?_
  rw [show nI 10 / nI 10 - nI 1 = nI 0 by decide +kernel]
  refine Zs_calls hX (List.cons_ne_nil _ _) (by decide) (k_above _ _) (by first | decide | omega) rfl rfl (by decide) (Nat.le_of_ble_eq_true rfl) (fun r_z M' hc_z => ?_)
  obtain ⟨⟨y_z, rfl, hy⟩, rfl⟩ := hc_z
  rw [Zab_of (kd_z := 0) (by decide) hy]
  refine Zgo hX 2 rfl (by (first | exact True.intro | assumption | (dsimp only [ZallP]; and_intros <;> (first | assumption | decide | omega | ((try simp (disch := omega) only [pk_mul, nI_add, Zcl_n]); exact Zin_n (by omega) (by decide)))))) ?_
  refine Zs_sw [(nI 10, 128), (nI 11, 135), (nI 12, 149), (nI 13, 166), (nI 20, 181), (nI 21, 193), (nI 30, 215), (nI 40, 227), (nI 50, 239), (nI 51, 251), (nI 60, 266), (nI 70, 278), (nI 71, 281)] 296 hX (by decide +kernel) (by decide +kernel) (t := 128) ((by decide +kernel)) ?_
  refine Zgo hX 4 rfl (by (first | exact True.intro | assumption | (dsimp only [ZallP]; and_intros <;> (first | assumption | decide | omega | ((try simp (disch := omega) only [pk_mul, nI_add, Zcl_n]); exact Zin_n (by omega) (by decide)))))) ?_
  rw [g2]
  refine Zs_ret hX hE rfl ⟨rfl, Sc.rf _, hv_z, rfl⟩

set_option maxRecDepth 20000 in
set_option maxHeartbeats 1000000 in
theorem k_sp0_0 (kd_z : Nat) (k_z m_z x_z : Int32) (d_z fr : Nat) (M : Zmem) (hkd : kd_z ≤ 6) (hv_z : Zvo kd_z k_z m_z M) (hfr : 3 ≤ fr) (hd_z : d_z + 0 ≤ 30) : ZC 192 fr [.ref 40, .int (nI 0), .int (nI 0), .int x_z, .int (nI d_z)] M (Zvq kd_z k_z m_z (Vr k_z 0 x_z) M) := by
  refine ZC_of Zt192 Zk192 (Nat.le_of_ble_eq_true rfl) (by decide) rfl (fun X hX hE => ?_)
  refine Zgo hX 2 rfl (by (first | exact True.intro | assumption | (dsimp only [ZallP]; and_intros <;> (first | assumption | decide | omega | ((try simp (disch := omega) only [pk_mul, nI_add, Zcl_n]); exact Zin_n (by omega) (by decide)))))) ?_
  refine Zs_calls hX (List.cons_ne_nil _ _) (by decide) (k_bodyOf 0 0 _ (by decide) (by decide)) (by first | decide | omega) rfl rfl (by decide) (Nat.le_of_ble_eq_true rfl) (fun r_z M' hc_z => ?_)
  obtain ⟨rfl, rfl⟩ := hc_z
  rw [show Zbl 0 (Zchn 0) = nI 10 by decide +kernel]
  have L46 : ∀ M1 : Zmem, Sc M M1 → Zvo kd_z k_z m_z M1 → M1 40 5 = M 40 5 → ZP X Zt192 (Zsf Zt192 46) [(5, .int (nI 10)), (0, .ref 40), (3, .int x_z), (4, .int (nI d_z))] [] M1 := by
    intro M1 hsc hv1 hp
    refine Zgo hX 6 rfl (by (first | exact True.intro | assumption | (dsimp only [ZallP]; and_intros <;> (first | assumption | decide | omega | ((try simp (disch := omega) only [pk_mul, nI_add, Zcl_n]); exact Zin_n (by omega) (by decide)))))) ?_
    rw [nI_add]
    refine Zs_callv hX (List.cons_ne_nil _ _) (k_w10 kd_z k_z m_z x_z (d_z + 1) (fr - 1) _ hkd hv1 (by omega) (by omega)) (by first | decide | omega) (by decide) rfl rfl rfl (by decide) (Nat.le_of_ble_eq_true rfl) (fun r_z M' hc_z => ?_)
    obtain ⟨rfl, hs2, hv2, hp2⟩ := hc_z
    refine Zs_ret hX hE rfl ⟨rfl, hsc.tr hs2, hv2, hp2.trans hp⟩
  obtain ⟨g1, g2, g3, b_z, hb_z, g4⟩ := id hv_z
  refine Zgo hX 3 rfl (by (first | exact True.intro | assumption | (dsimp only [ZallP]; and_intros <;> (first | assumption | decide | omega | ((try simp (disch := omega) only [pk_mul, nI_add, Zcl_n]); exact Zin_n (by omega) (by decide)))))) ?_
  refine Zs_ile hX (List.cons_ne_nil _ _) (fun _ => ?_) (fun q_z => False.elim ((q_z ((Zn_le (by omega) (by decide)).mpr (by omega)))))
  refine Zgo hX 3 rfl (by (first | exact True.intro | assumption | (dsimp only [ZallP]; and_intros <;> (first | assumption | decide | omega | ((try simp (disch := omega) only [pk_mul, nI_add, Zcl_n]); exact Zin_n (by omega) (by decide)))))) ?_
  rw [g4]
  refine Zs_ige hX (List.cons_ne_nil _ _) (fun h_z => ?_) (fun h_z => ?_)
  · refine Zs_sub (l' := [(5, .int (nI 10)), (0, .ref 40), (3, .int x_z), (4, .int (nI d_z))]) rfl ?_
    exact L46 M (Sc.rf _) hv_z rfl
  · have hlt : b_z < 30 := (Nat.lt_or_ge b_z 30).elim id (fun q_z => absurd ((Zn_le (by decide) (by omega)).mpr q_z) h_z)
    refine Zgo hX 12 rfl (by show vp_in (M 40 4) 30; rw [g4]; exact Zin_n (by omega) (by decide)) ?_
    rw [g4, Zcl_n (show b_z < 2 ^ 31 by omega), show (Zu M 42 b_z (nI 10)) 40 4 = nI b_z from g4, nI_add]
    refine Zs_sub (l' := [(5, .int (nI 10)), (0, .ref 40), (3, .int x_z), (4, .int (nI d_z))]) rfl ?_
    exact L46 _ (((Sc.rf M).u _ rfl).u _ rfl) ⟨g1, g2, g3, b_z + 1, by omega, rfl⟩ rfl

set_option maxRecDepth 20000 in
set_option maxHeartbeats 1000000 in
theorem k_sp2_0 (kd_z : Nat) (k_z m_z x_z : Int32) (d_z fr : Nat) (M : Zmem) (hkd : kd_z ≤ 6) (hv_z : Zvo kd_z k_z m_z M) (hfr : 3 ≤ fr) (hd_z : d_z + 0 ≤ 30) : ZC 192 fr [.ref 40, .int (nI 2), .int (nI 0), .int x_z, .int (nI d_z)] M (Zvq kd_z k_z m_z (Vr k_z 2 x_z) M) := by
  refine ZC_of Zt192 Zk192 (Nat.le_of_ble_eq_true rfl) (by decide) rfl (fun X hX hE => ?_)
  refine Zgo hX 2 rfl (by (first | exact True.intro | assumption | (dsimp only [ZallP]; and_intros <;> (first | assumption | decide | omega | ((try simp (disch := omega) only [pk_mul, nI_add, Zcl_n]); exact Zin_n (by omega) (by decide)))))) ?_
  refine Zs_calls hX (List.cons_ne_nil _ _) (by decide) (k_bodyOf 2 0 _ (by decide) (by decide)) (by first | decide | omega) rfl rfl (by decide) (Nat.le_of_ble_eq_true rfl) (fun r_z M' hc_z => ?_)
  obtain ⟨rfl, rfl⟩ := hc_z
  rw [show Zbl 0 (Zchn 2) = nI 10 by decide +kernel]
  have L46 : ∀ M1 : Zmem, Sc M M1 → Zvo kd_z k_z m_z M1 → M1 40 5 = M 40 5 → ZP X Zt192 (Zsf Zt192 46) [(5, .int (nI 10)), (0, .ref 40), (3, .int x_z), (4, .int (nI d_z))] [] M1 := by
    intro M1 hsc hv1 hp
    refine Zgo hX 6 rfl (by (first | exact True.intro | assumption | (dsimp only [ZallP]; and_intros <;> (first | assumption | decide | omega | ((try simp (disch := omega) only [pk_mul, nI_add, Zcl_n]); exact Zin_n (by omega) (by decide)))))) ?_
    rw [nI_add]
    refine Zs_callv hX (List.cons_ne_nil _ _) (k_w10 kd_z k_z m_z x_z (d_z + 1) (fr - 1) _ hkd hv1 (by omega) (by omega)) (by first | decide | omega) (by decide) rfl rfl rfl (by decide) (Nat.le_of_ble_eq_true rfl) (fun r_z M' hc_z => ?_)
    obtain ⟨rfl, hs2, hv2, hp2⟩ := hc_z
    refine Zs_ret hX hE rfl ⟨rfl, hsc.tr hs2, hv2, hp2.trans hp⟩
  obtain ⟨g1, g2, g3, b_z, hb_z, g4⟩ := id hv_z
  refine Zgo hX 3 rfl (by (first | exact True.intro | assumption | (dsimp only [ZallP]; and_intros <;> (first | assumption | decide | omega | ((try simp (disch := omega) only [pk_mul, nI_add, Zcl_n]); exact Zin_n (by omega) (by decide)))))) ?_
  refine Zs_ile hX (List.cons_ne_nil _ _) (fun _ => ?_) (fun q_z => False.elim ((q_z ((Zn_le (by omega) (by decide)).mpr (by omega)))))
  refine Zgo hX 3 rfl (by (first | exact True.intro | assumption | (dsimp only [ZallP]; and_intros <;> (first | assumption | decide | omega | ((try simp (disch := omega) only [pk_mul, nI_add, Zcl_n]); exact Zin_n (by omega) (by decide)))))) ?_
  rw [g4]
  refine Zs_ige hX (List.cons_ne_nil _ _) (fun h_z => ?_) (fun h_z => ?_)
  · refine Zs_sub (l' := [(5, .int (nI 10)), (0, .ref 40), (3, .int x_z), (4, .int (nI d_z))]) rfl ?_
    exact L46 M (Sc.rf _) hv_z rfl
  · have hlt : b_z < 30 := (Nat.lt_or_ge b_z 30).elim id (fun q_z => absurd ((Zn_le (by decide) (by omega)).mpr q_z) h_z)
    refine Zgo hX 12 rfl (by show vp_in (M 40 4) 30; rw [g4]; exact Zin_n (by omega) (by decide)) ?_
    rw [g4, Zcl_n (show b_z < 2 ^ 31 by omega), show (Zu M 42 b_z (nI 10)) 40 4 = nI b_z from g4, nI_add]
    refine Zs_sub (l' := [(5, .int (nI 10)), (0, .ref 40), (3, .int x_z), (4, .int (nI d_z))]) rfl ?_
    exact L46 _ (((Sc.rf M).u _ rfl).u _ rfl) ⟨g1, g2, g3, b_z + 1, by omega, rfl⟩ rfl

set_option maxRecDepth 20000 in
set_option maxHeartbeats 1000000 in
theorem k_sp3_0 (kd_z : Nat) (k_z m_z x_z : Int32) (d_z fr : Nat) (M : Zmem) (hkd : kd_z ≤ 6) (hv_z : Zvo kd_z k_z m_z M) (hfr : 3 ≤ fr) (hd_z : d_z + 0 ≤ 30) : ZC 192 fr [.ref 40, .int (nI 3), .int (nI 0), .int x_z, .int (nI d_z)] M (Zvq kd_z k_z m_z (Vr k_z 3 x_z) M) := by
  refine ZC_of Zt192 Zk192 (Nat.le_of_ble_eq_true rfl) (by decide) rfl (fun X hX hE => ?_)
  refine Zgo hX 2 rfl (by (first | exact True.intro | assumption | (dsimp only [ZallP]; and_intros <;> (first | assumption | decide | omega | ((try simp (disch := omega) only [pk_mul, nI_add, Zcl_n]); exact Zin_n (by omega) (by decide)))))) ?_
  refine Zs_calls hX (List.cons_ne_nil _ _) (by decide) (k_bodyOf 3 0 _ (by decide) (by decide)) (by first | decide | omega) rfl rfl (by decide) (Nat.le_of_ble_eq_true rfl) (fun r_z M' hc_z => ?_)
  obtain ⟨rfl, rfl⟩ := hc_z
  rw [show Zbl 0 (Zchn 3) = nI 10 by decide +kernel]
  have L46 : ∀ M1 : Zmem, Sc M M1 → Zvo kd_z k_z m_z M1 → M1 40 5 = M 40 5 → ZP X Zt192 (Zsf Zt192 46) [(5, .int (nI 10)), (0, .ref 40), (3, .int x_z), (4, .int (nI d_z))] [] M1 := by
    intro M1 hsc hv1 hp
    refine Zgo hX 6 rfl (by (first | exact True.intro | assumption | (dsimp only [ZallP]; and_intros <;> (first | assumption | decide | omega | ((try simp (disch := omega) only [pk_mul, nI_add, Zcl_n]); exact Zin_n (by omega) (by decide)))))) ?_
    rw [nI_add]
    refine Zs_callv hX (List.cons_ne_nil _ _) (k_w10 kd_z k_z m_z x_z (d_z + 1) (fr - 1) _ hkd hv1 (by omega) (by omega)) (by first | decide | omega) (by decide) rfl rfl rfl (by decide) (Nat.le_of_ble_eq_true rfl) (fun r_z M' hc_z => ?_)
    obtain ⟨rfl, hs2, hv2, hp2⟩ := hc_z
    refine Zs_ret hX hE rfl ⟨rfl, hsc.tr hs2, hv2, hp2.trans hp⟩
  obtain ⟨g1, g2, g3, b_z, hb_z, g4⟩ := id hv_z
  refine Zgo hX 3 rfl (by (first | exact True.intro | assumption | (dsimp only [ZallP]; and_intros <;> (first | assumption | decide | omega | ((try simp (disch := omega) only [pk_mul, nI_add, Zcl_n]); exact Zin_n (by omega) (by decide)))))) ?_
  refine Zs_ile hX (List.cons_ne_nil _ _) (fun _ => ?_) (fun q_z => False.elim ((q_z ((Zn_le (by omega) (by decide)).mpr (by omega)))))
  refine Zgo hX 3 rfl (by (first | exact True.intro | assumption | (dsimp only [ZallP]; and_intros <;> (first | assumption | decide | omega | ((try simp (disch := omega) only [pk_mul, nI_add, Zcl_n]); exact Zin_n (by omega) (by decide)))))) ?_
  rw [g4]
  refine Zs_ige hX (List.cons_ne_nil _ _) (fun h_z => ?_) (fun h_z => ?_)
  · refine Zs_sub (l' := [(5, .int (nI 10)), (0, .ref 40), (3, .int x_z), (4, .int (nI d_z))]) rfl ?_
    exact L46 M (Sc.rf _) hv_z rfl
  · have hlt : b_z < 30 := (Nat.lt_or_ge b_z 30).elim id (fun q_z => absurd ((Zn_le (by decide) (by omega)).mpr q_z) h_z)
    refine Zgo hX 12 rfl (by show vp_in (M 40 4) 30; rw [g4]; exact Zin_n (by omega) (by decide)) ?_
    rw [g4, Zcl_n (show b_z < 2 ^ 31 by omega), show (Zu M 42 b_z (nI 10)) 40 4 = nI b_z from g4, nI_add]
    refine Zs_sub (l' := [(5, .int (nI 10)), (0, .ref 40), (3, .int x_z), (4, .int (nI d_z))]) rfl ?_
    exact L46 _ (((Sc.rf M).u _ rfl).u _ rfl) ⟨g1, g2, g3, b_z + 1, by omega, rfl⟩ rfl

set_option maxRecDepth 20000 in
set_option maxHeartbeats 1000000 in
theorem k_sp5_0 (kd_z : Nat) (k_z m_z x_z : Int32) (d_z fr : Nat) (M : Zmem) (hkd : kd_z ≤ 6) (hv_z : Zvo kd_z k_z m_z M) (hfr : 3 ≤ fr) (hd_z : d_z + 0 ≤ 30) : ZC 192 fr [.ref 40, .int (nI 5), .int (nI 0), .int x_z, .int (nI d_z)] M (Zvq kd_z k_z m_z (Vr k_z 5 x_z) M) := by
  refine ZC_of Zt192 Zk192 (Nat.le_of_ble_eq_true rfl) (by decide) rfl (fun X hX hE => ?_)
  refine Zgo hX 2 rfl (by (first | exact True.intro | assumption | (dsimp only [ZallP]; and_intros <;> (first | assumption | decide | omega | ((try simp (disch := omega) only [pk_mul, nI_add, Zcl_n]); exact Zin_n (by omega) (by decide)))))) ?_
  refine Zs_calls hX (List.cons_ne_nil _ _) (by decide) (k_bodyOf 5 0 _ (by decide) (by decide)) (by first | decide | omega) rfl rfl (by decide) (Nat.le_of_ble_eq_true rfl) (fun r_z M' hc_z => ?_)
  obtain ⟨rfl, rfl⟩ := hc_z
  rw [show Zbl 0 (Zchn 5) = nI 10 by decide +kernel]
  have L46 : ∀ M1 : Zmem, Sc M M1 → Zvo kd_z k_z m_z M1 → M1 40 5 = M 40 5 → ZP X Zt192 (Zsf Zt192 46) [(5, .int (nI 10)), (0, .ref 40), (3, .int x_z), (4, .int (nI d_z))] [] M1 := by
    intro M1 hsc hv1 hp
    refine Zgo hX 6 rfl (by (first | exact True.intro | assumption | (dsimp only [ZallP]; and_intros <;> (first | assumption | decide | omega | ((try simp (disch := omega) only [pk_mul, nI_add, Zcl_n]); exact Zin_n (by omega) (by decide)))))) ?_
    rw [nI_add]
    refine Zs_callv hX (List.cons_ne_nil _ _) (k_w10 kd_z k_z m_z x_z (d_z + 1) (fr - 1) _ hkd hv1 (by omega) (by omega)) (by first | decide | omega) (by decide) rfl rfl rfl (by decide) (Nat.le_of_ble_eq_true rfl) (fun r_z M' hc_z => ?_)
    obtain ⟨rfl, hs2, hv2, hp2⟩ := hc_z
    refine Zs_ret hX hE rfl ⟨rfl, hsc.tr hs2, hv2, hp2.trans hp⟩
  obtain ⟨g1, g2, g3, b_z, hb_z, g4⟩ := id hv_z
  refine Zgo hX 3 rfl (by (first | exact True.intro | assumption | (dsimp only [ZallP]; and_intros <;> (first | assumption | decide | omega | ((try simp (disch := omega) only [pk_mul, nI_add, Zcl_n]); exact Zin_n (by omega) (by decide)))))) ?_
  refine Zs_ile hX (List.cons_ne_nil _ _) (fun _ => ?_) (fun q_z => False.elim ((q_z ((Zn_le (by omega) (by decide)).mpr (by omega)))))
  refine Zgo hX 3 rfl (by (first | exact True.intro | assumption | (dsimp only [ZallP]; and_intros <;> (first | assumption | decide | omega | ((try simp (disch := omega) only [pk_mul, nI_add, Zcl_n]); exact Zin_n (by omega) (by decide)))))) ?_
  rw [g4]
  refine Zs_ige hX (List.cons_ne_nil _ _) (fun h_z => ?_) (fun h_z => ?_)
  · refine Zs_sub (l' := [(5, .int (nI 10)), (0, .ref 40), (3, .int x_z), (4, .int (nI d_z))]) rfl ?_
    exact L46 M (Sc.rf _) hv_z rfl
  · have hlt : b_z < 30 := (Nat.lt_or_ge b_z 30).elim id (fun q_z => absurd ((Zn_le (by decide) (by omega)).mpr q_z) h_z)
    refine Zgo hX 12 rfl (by show vp_in (M 40 4) 30; rw [g4]; exact Zin_n (by omega) (by decide)) ?_
    rw [g4, Zcl_n (show b_z < 2 ^ 31 by omega), show (Zu M 42 b_z (nI 10)) 40 4 = nI b_z from g4, nI_add]
    refine Zs_sub (l' := [(5, .int (nI 10)), (0, .ref 40), (3, .int x_z), (4, .int (nI d_z))]) rfl ?_
    exact L46 _ (((Sc.rf M).u _ rfl).u _ rfl) ⟨g1, g2, g3, b_z + 1, by omega, rfl⟩ rfl

set_option maxRecDepth 20000 in
set_option maxHeartbeats 1000000 in
theorem k_w20 (kd_z : Nat) (k_z m_z x_z : Int32) (d_z fr : Nat) (M : Zmem) (hkd : kd_z ≤ 6) (hv_z : Zvo kd_z k_z m_z M) (hfr : 4 ≤ fr) (hd_z : d_z + 1 ≤ 31) : ZC 194 fr [.ref 40, .int (nI 20), .int x_z, .int (nI d_z)] M (Zvq kd_z k_z m_z (Vr k_z 1 x_z) M) := by
  refine ZC_of Zt194 Zk194 (Nat.le_of_ble_eq_true rfl) (by decide) rfl (fun X hX hE => ?_)
  obtain ⟨g1, g2, g3, b_z, hb_z, g4⟩ := id hv_z
  refine Zgo hX 5 rfl (by (first | exact True.intro | assumption | (dsimp only [ZallP]; and_intros <;> (first | assumption | decide | omega | ((try simp (disch := omega) only [pk_mul, nI_add, Zcl_n]); exact Zin_n (by omega) (by decide)))))) ?_
  rw [show nI 20 / nI 10 - nI 1 = nI 1 by decide +kernel]
  refine Zs_calls hX (List.cons_ne_nil _ _) (by decide) (k_above _ _) (by first | decide | omega) rfl rfl (by decide) (Nat.le_of_ble_eq_true rfl) (fun r_z M' hc_z => ?_)
  obtain ⟨⟨y_z, rfl, hy⟩, rfl⟩ := hc_z
  rw [Zab_of (kd_z := 1) (by decide) hy]
  refine Zgo hX 2 rfl (by (first | exact True.intro | assumption | (dsimp only [ZallP]; and_intros <;> (first | assumption | decide | omega | ((try simp (disch := omega) only [pk_mul, nI_add, Zcl_n]); exact Zin_n (by omega) (by decide)))))) ?_
  refine Zs_sw [(nI 10, 128), (nI 11, 135), (nI 12, 149), (nI 13, 166), (nI 20, 181), (nI 21, 193), (nI 30, 215), (nI 40, 227), (nI 50, 239), (nI 51, 251), (nI 60, 266), (nI 70, 278), (nI 71, 281)] 296 hX (by decide +kernel) (by decide +kernel) (t := 181) ((by decide +kernel)) ?_
  refine Zgo hX 5 rfl (by (first | exact True.intro | assumption | (dsimp only [ZallP]; and_intros <;> (first | assumption | decide | omega | ((try simp (disch := omega) only [pk_mul, nI_add, Zcl_n]); exact Zin_n (by omega) (by decide)))))) ?_
  rw [show Zabv 1 = nI 0 by decide +kernel]
  refine Zs_callv hX (List.cons_ne_nil _ _) (k_sp0_0 kd_z k_z m_z x_z d_z (fr - 1) _ hkd hv_z (by omega) (by omega)) (by first | decide | omega) (by decide) rfl rfl rfl (by decide) (Nat.le_of_ble_eq_true rfl) (fun r_z M' hc_z => ?_)
  obtain ⟨rfl, hs2, hv2, hp2⟩ := hc_z
  refine Zgo hX 2 rfl (by (first | exact True.intro | assumption | (dsimp only [ZallP]; and_intros <;> (first | assumption | decide | omega | ((try simp (disch := omega) only [pk_mul, nI_add, Zcl_n]); exact Zin_n (by omega) (by decide)))))) ?_
  refine Zs_ret hX hE rfl ⟨rfl, hs2, hv2, hp2⟩

set_option maxRecDepth 20000 in
set_option maxHeartbeats 1000000 in
theorem k_sp1_0 (kd_z : Nat) (k_z m_z x_z : Int32) (d_z fr : Nat) (M : Zmem) (hkd : kd_z ≤ 6) (hv_z : Zvo kd_z k_z m_z M) (hfr : 5 ≤ fr) (hd_z : d_z + 1 ≤ 30) : ZC 192 fr [.ref 40, .int (nI 1), .int (nI 0), .int x_z, .int (nI d_z)] M (Zvq kd_z k_z m_z (Vr k_z 1 x_z) M) := by
  refine ZC_of Zt192 Zk192 (Nat.le_of_ble_eq_true rfl) (by decide) rfl (fun X hX hE => ?_)
  refine Zgo hX 2 rfl (by (first | exact True.intro | assumption | (dsimp only [ZallP]; and_intros <;> (first | assumption | decide | omega | ((try simp (disch := omega) only [pk_mul, nI_add, Zcl_n]); exact Zin_n (by omega) (by decide)))))) ?_
  refine Zs_calls hX (List.cons_ne_nil _ _) (by decide) (k_bodyOf 1 0 _ (by decide) (by decide)) (by first | decide | omega) rfl rfl (by decide) (Nat.le_of_ble_eq_true rfl) (fun r_z M' hc_z => ?_)
  obtain ⟨rfl, rfl⟩ := hc_z
  rw [show Zbl 0 (Zchn 1) = nI 20 by decide +kernel]
  have L46 : ∀ M1 : Zmem, Sc M M1 → Zvo kd_z k_z m_z M1 → M1 40 5 = M 40 5 → ZP X Zt192 (Zsf Zt192 46) [(5, .int (nI 20)), (0, .ref 40), (3, .int x_z), (4, .int (nI d_z))] [] M1 := by
    intro M1 hsc hv1 hp
    refine Zgo hX 6 rfl (by (first | exact True.intro | assumption | (dsimp only [ZallP]; and_intros <;> (first | assumption | decide | omega | ((try simp (disch := omega) only [pk_mul, nI_add, Zcl_n]); exact Zin_n (by omega) (by decide)))))) ?_
    rw [nI_add]
    refine Zs_callv hX (List.cons_ne_nil _ _) (k_w20 kd_z k_z m_z x_z (d_z + 1) (fr - 1) _ hkd hv1 (by omega) (by omega)) (by first | decide | omega) (by decide) rfl rfl rfl (by decide) (Nat.le_of_ble_eq_true rfl) (fun r_z M' hc_z => ?_)
    obtain ⟨rfl, hs2, hv2, hp2⟩ := hc_z
    refine Zs_ret hX hE rfl ⟨rfl, hsc.tr hs2, hv2, hp2.trans hp⟩
  obtain ⟨g1, g2, g3, b_z, hb_z, g4⟩ := id hv_z
  refine Zgo hX 3 rfl (by (first | exact True.intro | assumption | (dsimp only [ZallP]; and_intros <;> (first | assumption | decide | omega | ((try simp (disch := omega) only [pk_mul, nI_add, Zcl_n]); exact Zin_n (by omega) (by decide)))))) ?_
  refine Zs_ile hX (List.cons_ne_nil _ _) (fun _ => ?_) (fun q_z => False.elim ((q_z ((Zn_le (by omega) (by decide)).mpr (by omega)))))
  refine Zgo hX 3 rfl (by (first | exact True.intro | assumption | (dsimp only [ZallP]; and_intros <;> (first | assumption | decide | omega | ((try simp (disch := omega) only [pk_mul, nI_add, Zcl_n]); exact Zin_n (by omega) (by decide)))))) ?_
  rw [g4]
  refine Zs_ige hX (List.cons_ne_nil _ _) (fun h_z => ?_) (fun h_z => ?_)
  · refine Zs_sub (l' := [(5, .int (nI 20)), (0, .ref 40), (3, .int x_z), (4, .int (nI d_z))]) rfl ?_
    exact L46 M (Sc.rf _) hv_z rfl
  · have hlt : b_z < 30 := (Nat.lt_or_ge b_z 30).elim id (fun q_z => absurd ((Zn_le (by decide) (by omega)).mpr q_z) h_z)
    refine Zgo hX 12 rfl (by show vp_in (M 40 4) 30; rw [g4]; exact Zin_n (by omega) (by decide)) ?_
    rw [g4, Zcl_n (show b_z < 2 ^ 31 by omega), show (Zu M 42 b_z (nI 20)) 40 4 = nI b_z from g4, nI_add]
    refine Zs_sub (l' := [(5, .int (nI 20)), (0, .ref 40), (3, .int x_z), (4, .int (nI d_z))]) rfl ?_
    exact L46 _ (((Sc.rf M).u _ rfl).u _ rfl) ⟨g1, g2, g3, b_z + 1, by omega, rfl⟩ rfl

set_option maxRecDepth 20000 in
set_option maxHeartbeats 1000000 in
theorem k_w50 (kd_z : Nat) (k_z m_z x_z : Int32) (d_z fr : Nat) (M : Zmem) (hkd : kd_z ≤ 6) (hv_z : Zvo kd_z k_z m_z M) (hfr : 6 ≤ fr) (hd_z : d_z + 2 ≤ 31) : ZC 194 fr [.ref 40, .int (nI 50), .int x_z, .int (nI d_z)] M (Zvq kd_z k_z m_z (Vr k_z 4 x_z) M) := by
  refine ZC_of Zt194 Zk194 (Nat.le_of_ble_eq_true rfl) (by decide) rfl (fun X hX hE => ?_)
  obtain ⟨g1, g2, g3, b_z, hb_z, g4⟩ := id hv_z
  refine Zgo hX 5 rfl (by (first | exact True.intro | assumption | (dsimp only [ZallP]; and_intros <;> (first | assumption | decide | omega | ((try simp (disch := omega) only [pk_mul, nI_add, Zcl_n]); exact Zin_n (by omega) (by decide)))))) ?_
  rw [show nI 50 / nI 10 - nI 1 = nI 4 by decide +kernel]
  refine Zs_calls hX (List.cons_ne_nil _ _) (by decide) (k_above _ _) (by first | decide | omega) rfl rfl (by decide) (Nat.le_of_ble_eq_true rfl) (fun r_z M' hc_z => ?_)
  obtain ⟨⟨y_z, rfl, hy⟩, rfl⟩ := hc_z
  rw [Zab_of (kd_z := 4) (by decide) hy]
  refine Zgo hX 2 rfl (by (first | exact True.intro | assumption | (dsimp only [ZallP]; and_intros <;> (first | assumption | decide | omega | ((try simp (disch := omega) only [pk_mul, nI_add, Zcl_n]); exact Zin_n (by omega) (by decide)))))) ?_
  refine Zs_sw [(nI 10, 128), (nI 11, 135), (nI 12, 149), (nI 13, 166), (nI 20, 181), (nI 21, 193), (nI 30, 215), (nI 40, 227), (nI 50, 239), (nI 51, 251), (nI 60, 266), (nI 70, 278), (nI 71, 281)] 296 hX (by decide +kernel) (by decide +kernel) (t := 239) ((by decide +kernel)) ?_
  refine Zgo hX 5 rfl (by (first | exact True.intro | assumption | (dsimp only [ZallP]; and_intros <;> (first | assumption | decide | omega | ((try simp (disch := omega) only [pk_mul, nI_add, Zcl_n]); exact Zin_n (by omega) (by decide)))))) ?_
  rw [show Zabv 4 = nI 1 by decide +kernel]
  refine Zs_callv hX (List.cons_ne_nil _ _) (k_sp1_0 kd_z k_z m_z x_z d_z (fr - 1) _ hkd hv_z (by omega) (by omega)) (by first | decide | omega) (by decide) rfl rfl rfl (by decide) (Nat.le_of_ble_eq_true rfl) (fun r_z M' hc_z => ?_)
  obtain ⟨rfl, hs2, hv2, hp2⟩ := hc_z
  refine Zgo hX 2 rfl (by (first | exact True.intro | assumption | (dsimp only [ZallP]; and_intros <;> (first | assumption | decide | omega | ((try simp (disch := omega) only [pk_mul, nI_add, Zcl_n]); exact Zin_n (by omega) (by decide)))))) ?_
  refine Zs_ret hX hE rfl ⟨rfl, hs2, hv2, hp2⟩

set_option maxRecDepth 20000 in
set_option maxHeartbeats 1000000 in
theorem k_sp4_0 (kd_z : Nat) (k_z m_z x_z : Int32) (d_z fr : Nat) (M : Zmem) (hkd : kd_z ≤ 6) (hv_z : Zvo kd_z k_z m_z M) (hfr : 7 ≤ fr) (hd_z : d_z + 2 ≤ 30) : ZC 192 fr [.ref 40, .int (nI 4), .int (nI 0), .int x_z, .int (nI d_z)] M (Zvq kd_z k_z m_z (Vr k_z 4 x_z) M) := by
  refine ZC_of Zt192 Zk192 (Nat.le_of_ble_eq_true rfl) (by decide) rfl (fun X hX hE => ?_)
  refine Zgo hX 2 rfl (by (first | exact True.intro | assumption | (dsimp only [ZallP]; and_intros <;> (first | assumption | decide | omega | ((try simp (disch := omega) only [pk_mul, nI_add, Zcl_n]); exact Zin_n (by omega) (by decide)))))) ?_
  refine Zs_calls hX (List.cons_ne_nil _ _) (by decide) (k_bodyOf 4 0 _ (by decide) (by decide)) (by first | decide | omega) rfl rfl (by decide) (Nat.le_of_ble_eq_true rfl) (fun r_z M' hc_z => ?_)
  obtain ⟨rfl, rfl⟩ := hc_z
  rw [show Zbl 0 (Zchn 4) = nI 50 by decide +kernel]
  have L46 : ∀ M1 : Zmem, Sc M M1 → Zvo kd_z k_z m_z M1 → M1 40 5 = M 40 5 → ZP X Zt192 (Zsf Zt192 46) [(5, .int (nI 50)), (0, .ref 40), (3, .int x_z), (4, .int (nI d_z))] [] M1 := by
    intro M1 hsc hv1 hp
    refine Zgo hX 6 rfl (by (first | exact True.intro | assumption | (dsimp only [ZallP]; and_intros <;> (first | assumption | decide | omega | ((try simp (disch := omega) only [pk_mul, nI_add, Zcl_n]); exact Zin_n (by omega) (by decide)))))) ?_
    rw [nI_add]
    refine Zs_callv hX (List.cons_ne_nil _ _) (k_w50 kd_z k_z m_z x_z (d_z + 1) (fr - 1) _ hkd hv1 (by omega) (by omega)) (by first | decide | omega) (by decide) rfl rfl rfl (by decide) (Nat.le_of_ble_eq_true rfl) (fun r_z M' hc_z => ?_)
    obtain ⟨rfl, hs2, hv2, hp2⟩ := hc_z
    refine Zs_ret hX hE rfl ⟨rfl, hsc.tr hs2, hv2, hp2.trans hp⟩
  obtain ⟨g1, g2, g3, b_z, hb_z, g4⟩ := id hv_z
  refine Zgo hX 3 rfl (by (first | exact True.intro | assumption | (dsimp only [ZallP]; and_intros <;> (first | assumption | decide | omega | ((try simp (disch := omega) only [pk_mul, nI_add, Zcl_n]); exact Zin_n (by omega) (by decide)))))) ?_
  refine Zs_ile hX (List.cons_ne_nil _ _) (fun _ => ?_) (fun q_z => False.elim ((q_z ((Zn_le (by omega) (by decide)).mpr (by omega)))))
  refine Zgo hX 3 rfl (by (first | exact True.intro | assumption | (dsimp only [ZallP]; and_intros <;> (first | assumption | decide | omega | ((try simp (disch := omega) only [pk_mul, nI_add, Zcl_n]); exact Zin_n (by omega) (by decide)))))) ?_
  rw [g4]
  refine Zs_ige hX (List.cons_ne_nil _ _) (fun h_z => ?_) (fun h_z => ?_)
  · refine Zs_sub (l' := [(5, .int (nI 50)), (0, .ref 40), (3, .int x_z), (4, .int (nI d_z))]) rfl ?_
    exact L46 M (Sc.rf _) hv_z rfl
  · have hlt : b_z < 30 := (Nat.lt_or_ge b_z 30).elim id (fun q_z => absurd ((Zn_le (by decide) (by omega)).mpr q_z) h_z)
    refine Zgo hX 12 rfl (by show vp_in (M 40 4) 30; rw [g4]; exact Zin_n (by omega) (by decide)) ?_
    rw [g4, Zcl_n (show b_z < 2 ^ 31 by omega), show (Zu M 42 b_z (nI 50)) 40 4 = nI b_z from g4, nI_add]
    refine Zs_sub (l' := [(5, .int (nI 50)), (0, .ref 40), (3, .int x_z), (4, .int (nI d_z))]) rfl ?_
    exact L46 _ (((Sc.rf M).u _ rfl).u _ rfl) ⟨g1, g2, g3, b_z + 1, by omega, rfl⟩ rfl

set_option maxRecDepth 20000 in
set_option maxHeartbeats 1000000 in
theorem k_w70 (kd_z : Nat) (k_z m_z x_z : Int32) (d_z fr : Nat) (M : Zmem) (hkd : kd_z ≤ 6) (hv_z : Zvo kd_z k_z m_z M) (hfr : 2 ≤ fr) (hd_z : d_z + 0 ≤ 31) : ZC 194 fr [.ref 40, .int (nI 70), .int x_z, .int (nI d_z)] M (Zvq kd_z k_z m_z (Vr k_z 6 x_z) M) := by
  refine ZC_of Zt194 Zk194 (Nat.le_of_ble_eq_true rfl) (by decide) rfl (fun X hX hE => ?_)
  obtain ⟨g1, g2, g3, b_z, hb_z, g4⟩ := id hv_z
  refine Zgo hX 5 rfl (by (first | exact True.intro | assumption | (dsimp only [ZallP]; and_intros <;> (first | assumption | decide | omega | ((try simp (disch := omega) only [pk_mul, nI_add, Zcl_n]); exact Zin_n (by omega) (by decide)))))) ?_
  rw [show nI 70 / nI 10 - nI 1 = nI 6 by decide +kernel]
  refine Zs_calls hX (List.cons_ne_nil _ _) (by decide) (k_above _ _) (by first | decide | omega) rfl rfl (by decide) (Nat.le_of_ble_eq_true rfl) (fun r_z M' hc_z => ?_)
  obtain ⟨⟨y_z, rfl, hy⟩, rfl⟩ := hc_z
  rw [Zab_of (kd_z := 6) (by decide) hy]
  refine Zgo hX 2 rfl (by (first | exact True.intro | assumption | (dsimp only [ZallP]; and_intros <;> (first | assumption | decide | omega | ((try simp (disch := omega) only [pk_mul, nI_add, Zcl_n]); exact Zin_n (by omega) (by decide)))))) ?_
  refine Zs_sw [(nI 10, 128), (nI 11, 135), (nI 12, 149), (nI 13, 166), (nI 20, 181), (nI 21, 193), (nI 30, 215), (nI 40, 227), (nI 50, 239), (nI 51, 251), (nI 60, 266), (nI 70, 278), (nI 71, 281)] 296 hX (by decide +kernel) (by decide +kernel) (t := 278) ((by decide +kernel)) ?_
  refine Zgo hX 1 rfl (by (first | exact True.intro | assumption | (dsimp only [ZallP]; and_intros <;> (first | assumption | decide | omega | ((try simp (disch := omega) only [pk_mul, nI_add, Zcl_n]); exact Zin_n (by omega) (by decide)))))) ?_
  refine Zs_ret hX hE rfl ⟨rfl, Sc.rf _, hv_z, rfl⟩

set_option maxRecDepth 20000 in
set_option maxHeartbeats 1000000 in
theorem k_sp6_0 (kd_z : Nat) (k_z m_z x_z : Int32) (d_z fr : Nat) (M : Zmem) (hkd : kd_z ≤ 6) (hv_z : Zvo kd_z k_z m_z M) (hfr : 3 ≤ fr) (hd_z : d_z + 0 ≤ 30) : ZC 192 fr [.ref 40, .int (nI 6), .int (nI 0), .int x_z, .int (nI d_z)] M (Zvq kd_z k_z m_z (Vr k_z 6 x_z) M) := by
  refine ZC_of Zt192 Zk192 (Nat.le_of_ble_eq_true rfl) (by decide) rfl (fun X hX hE => ?_)
  refine Zgo hX 2 rfl (by (first | exact True.intro | assumption | (dsimp only [ZallP]; and_intros <;> (first | assumption | decide | omega | ((try simp (disch := omega) only [pk_mul, nI_add, Zcl_n]); exact Zin_n (by omega) (by decide)))))) ?_
  refine Zs_calls hX (List.cons_ne_nil _ _) (by decide) (k_bodyOf 6 0 _ (by decide) (by decide)) (by first | decide | omega) rfl rfl (by decide) (Nat.le_of_ble_eq_true rfl) (fun r_z M' hc_z => ?_)
  obtain ⟨rfl, rfl⟩ := hc_z
  rw [show Zbl 0 (Zchn 6) = nI 70 by decide +kernel]
  have L46 : ∀ M1 : Zmem, Sc M M1 → Zvo kd_z k_z m_z M1 → M1 40 5 = M 40 5 → ZP X Zt192 (Zsf Zt192 46) [(5, .int (nI 70)), (0, .ref 40), (3, .int x_z), (4, .int (nI d_z))] [] M1 := by
    intro M1 hsc hv1 hp
    refine Zgo hX 6 rfl (by (first | exact True.intro | assumption | (dsimp only [ZallP]; and_intros <;> (first | assumption | decide | omega | ((try simp (disch := omega) only [pk_mul, nI_add, Zcl_n]); exact Zin_n (by omega) (by decide)))))) ?_
    rw [nI_add]
    refine Zs_callv hX (List.cons_ne_nil _ _) (k_w70 kd_z k_z m_z x_z (d_z + 1) (fr - 1) _ hkd hv1 (by omega) (by omega)) (by first | decide | omega) (by decide) rfl rfl rfl (by decide) (Nat.le_of_ble_eq_true rfl) (fun r_z M' hc_z => ?_)
    obtain ⟨rfl, hs2, hv2, hp2⟩ := hc_z
    refine Zs_ret hX hE rfl ⟨rfl, hsc.tr hs2, hv2, hp2.trans hp⟩
  obtain ⟨g1, g2, g3, b_z, hb_z, g4⟩ := id hv_z
  refine Zgo hX 3 rfl (by (first | exact True.intro | assumption | (dsimp only [ZallP]; and_intros <;> (first | assumption | decide | omega | ((try simp (disch := omega) only [pk_mul, nI_add, Zcl_n]); exact Zin_n (by omega) (by decide)))))) ?_
  refine Zs_ile hX (List.cons_ne_nil _ _) (fun _ => ?_) (fun q_z => False.elim ((q_z ((Zn_le (by omega) (by decide)).mpr (by omega)))))
  refine Zgo hX 3 rfl (by (first | exact True.intro | assumption | (dsimp only [ZallP]; and_intros <;> (first | assumption | decide | omega | ((try simp (disch := omega) only [pk_mul, nI_add, Zcl_n]); exact Zin_n (by omega) (by decide)))))) ?_
  rw [g4]
  refine Zs_ige hX (List.cons_ne_nil _ _) (fun h_z => ?_) (fun h_z => ?_)
  · refine Zs_sub (l' := [(5, .int (nI 70)), (0, .ref 40), (3, .int x_z), (4, .int (nI d_z))]) rfl ?_
    exact L46 M (Sc.rf _) hv_z rfl
  · have hlt : b_z < 30 := (Nat.lt_or_ge b_z 30).elim id (fun q_z => absurd ((Zn_le (by decide) (by omega)).mpr q_z) h_z)
    refine Zgo hX 12 rfl (by show vp_in (M 40 4) 30; rw [g4]; exact Zin_n (by omega) (by decide)) ?_
    rw [g4, Zcl_n (show b_z < 2 ^ 31 by omega), show (Zu M 42 b_z (nI 70)) 40 4 = nI b_z from g4, nI_add]
    refine Zs_sub (l' := [(5, .int (nI 70)), (0, .ref 40), (3, .int x_z), (4, .int (nI d_z))]) rfl ?_
    exact L46 _ (((Sc.rf M).u _ rfl).u _ rfl) ⟨g1, g2, g3, b_z + 1, by omega, rfl⟩ rfl


theorem k_spa0 (kd_z : Nat) (k_z m_z x_z : Int32) (d_z fr : Nat) (M : Zmem) (hkd : kd_z ≤ 6) (hv_z : Zvo kd_z k_z m_z M) (hfr : 7 ≤ fr) (hd_z : d_z + 2 ≤ 30) : ZC 192 fr [.ref 40, .int (nI kd_z), .int (nI 0), .int x_z, .int (nI d_z)] M (Zvq kd_z k_z m_z (Vr k_z kd_z x_z) M) := by
  rcases Zseven hkd with rfl | rfl | rfl | rfl | rfl | rfl | rfl
  · exact k_sp0_0 0 k_z m_z x_z d_z fr M hkd hv_z (by omega) (by omega)
  · exact k_sp1_0 1 k_z m_z x_z d_z fr M hkd hv_z (by omega) (by omega)
  · exact k_sp2_0 2 k_z m_z x_z d_z fr M hkd hv_z (by omega) (by omega)
  · exact k_sp3_0 3 k_z m_z x_z d_z fr M hkd hv_z (by omega) (by omega)
  · exact k_sp4_0 4 k_z m_z x_z d_z fr M hkd hv_z (by omega) (by omega)
  · exact k_sp5_0 5 k_z m_z x_z d_z fr M hkd hv_z (by omega) (by omega)
  · exact k_sp6_0 6 k_z m_z x_z d_z fr M hkd hv_z (by omega) (by omega)

set_option maxRecDepth 20000 in
set_option maxHeartbeats 1000000 in
theorem k_w11 (kd_z : Nat) (k_z m_z x_z : Int32) (d_z fr : Nat) (M : Zmem) (hkd : kd_z ≤ 6) (hv_z : Zvo kd_z k_z m_z M) (hfr : 8 ≤ fr) (hd_z : d_z + 3 ≤ 31) : ZC 194 fr [.ref 40, .int (nI 11), .int x_z, .int (nI d_z)] M (Zvq kd_z k_z m_z (Vt kd_z k_z m_z 0 x_z) M) := by
  refine ZC_of Zt194 Zk194 (Nat.le_of_ble_eq_true rfl) (by decide) rfl (fun X hX hE => ?_)
  obtain ⟨g1, g2, g3, b_z, hb_z, g4⟩ := id hv_z
  refine Zgo hX 5 rfl (by (first | exact True.intro | assumption | (dsimp only [ZallP]; and_intros <;> (first | assumption | decide | omega | ((try simp (disch := omega) only [pk_mul, nI_add, Zcl_n]); exact Zin_n (by omega) (by decide)))))) ?_
  rw [show nI 11 / nI 10 - nI 1 = nI 0 by decide +kernel]
  refine Zs_calls hX (List.cons_ne_nil _ _) (by decide) (k_above _ _) (by first | decide | omega) rfl rfl (by decide) (Nat.le_of_ble_eq_true rfl) (fun r_z M' hc_z => ?_)
  obtain ⟨⟨y_z, rfl, hy⟩, rfl⟩ := hc_z
  rw [Zab_of (kd_z := 0) (by decide) hy]
  refine Zgo hX 2 rfl (by (first | exact True.intro | assumption | (dsimp only [ZallP]; and_intros <;> (first | assumption | decide | omega | ((try simp (disch := omega) only [pk_mul, nI_add, Zcl_n]); exact Zin_n (by omega) (by decide)))))) ?_
  refine Zs_sw [(nI 10, 128), (nI 11, 135), (nI 12, 149), (nI 13, 166), (nI 20, 181), (nI 21, 193), (nI 30, 215), (nI 40, 227), (nI 50, 239), (nI 51, 251), (nI 60, 266), (nI 70, 278), (nI 71, 281)] 296 hX (by decide +kernel) (by decide +kernel) (t := 135) ((by decide +kernel)) ?_
  refine Zgo hX 6 rfl (by (first | exact True.intro | assumption | (dsimp only [ZallP]; and_intros <;> (first | assumption | decide | omega | ((try simp (disch := omega) only [pk_mul, nI_add, Zcl_n]); exact Zin_n (by omega) (by decide)))))) ?_
  rw [g1]
  refine Zs_callv hX (List.cons_ne_nil _ _) (k_spa0 kd_z k_z m_z x_z d_z (fr - 1) _ hkd hv_z (by omega) (by omega)) (by first | decide | omega) (by decide) rfl rfl rfl (by decide) (Nat.le_of_ble_eq_true rfl) (fun r_z M' hc_z => ?_)
  obtain ⟨rfl, hs2, hv2, hp2⟩ := hc_z
  refine Zgo hX 2 rfl (by (first | exact True.intro | assumption | (dsimp only [ZallP]; and_intros <;> (first | assumption | decide | omega | ((try simp (disch := omega) only [pk_mul, nI_add, Zcl_n]); exact Zin_n (by omega) (by decide)))))) ?_
  refine Zs_ret hX hE rfl ⟨rfl, hs2, hv2, hp2⟩

set_option maxRecDepth 20000 in
set_option maxHeartbeats 1000000 in
theorem k_sp0_1 (kd_z : Nat) (k_z m_z x_z : Int32) (d_z fr : Nat) (M : Zmem) (hkd : kd_z ≤ 6) (hv_z : Zvo kd_z k_z m_z M) (hfr : 9 ≤ fr) (hd_z : d_z + 3 ≤ 30) : ZC 192 fr [.ref 40, .int (nI 0), .int (nI 1), .int x_z, .int (nI d_z)] M (Zvq kd_z k_z m_z (Vt kd_z k_z m_z 0 x_z) M) := by
  refine ZC_of Zt192 Zk192 (Nat.le_of_ble_eq_true rfl) (by decide) rfl (fun X hX hE => ?_)
  refine Zgo hX 2 rfl (by (first | exact True.intro | assumption | (dsimp only [ZallP]; and_intros <;> (first | assumption | decide | omega | ((try simp (disch := omega) only [pk_mul, nI_add, Zcl_n]); exact Zin_n (by omega) (by decide)))))) ?_
  refine Zs_calls hX (List.cons_ne_nil _ _) (by decide) (k_bodyOf 0 1 _ (by decide) (by decide)) (by first | decide | omega) rfl rfl (by decide) (Nat.le_of_ble_eq_true rfl) (fun r_z M' hc_z => ?_)
  obtain ⟨rfl, rfl⟩ := hc_z
  rw [show Zbl 1 (Zchn 0) = nI 11 by decide +kernel]
  have L46 : ∀ M1 : Zmem, Sc M M1 → Zvo kd_z k_z m_z M1 → M1 40 5 = M 40 5 → ZP X Zt192 (Zsf Zt192 46) [(5, .int (nI 11)), (0, .ref 40), (3, .int x_z), (4, .int (nI d_z))] [] M1 := by
    intro M1 hsc hv1 hp
    refine Zgo hX 6 rfl (by (first | exact True.intro | assumption | (dsimp only [ZallP]; and_intros <;> (first | assumption | decide | omega | ((try simp (disch := omega) only [pk_mul, nI_add, Zcl_n]); exact Zin_n (by omega) (by decide)))))) ?_
    rw [nI_add]
    refine Zs_callv hX (List.cons_ne_nil _ _) (k_w11 kd_z k_z m_z x_z (d_z + 1) (fr - 1) _ hkd hv1 (by omega) (by omega)) (by first | decide | omega) (by decide) rfl rfl rfl (by decide) (Nat.le_of_ble_eq_true rfl) (fun r_z M' hc_z => ?_)
    obtain ⟨rfl, hs2, hv2, hp2⟩ := hc_z
    refine Zs_ret hX hE rfl ⟨rfl, hsc.tr hs2, hv2, hp2.trans hp⟩
  obtain ⟨g1, g2, g3, b_z, hb_z, g4⟩ := id hv_z
  refine Zgo hX 3 rfl (by (first | exact True.intro | assumption | (dsimp only [ZallP]; and_intros <;> (first | assumption | decide | omega | ((try simp (disch := omega) only [pk_mul, nI_add, Zcl_n]); exact Zin_n (by omega) (by decide)))))) ?_
  refine Zs_ile hX (List.cons_ne_nil _ _) (fun _ => ?_) (fun q_z => False.elim ((q_z ((Zn_le (by omega) (by decide)).mpr (by omega)))))
  refine Zgo hX 3 rfl (by (first | exact True.intro | assumption | (dsimp only [ZallP]; and_intros <;> (first | assumption | decide | omega | ((try simp (disch := omega) only [pk_mul, nI_add, Zcl_n]); exact Zin_n (by omega) (by decide)))))) ?_
  rw [g4]
  refine Zs_ige hX (List.cons_ne_nil _ _) (fun h_z => ?_) (fun h_z => ?_)
  · refine Zs_sub (l' := [(5, .int (nI 11)), (0, .ref 40), (3, .int x_z), (4, .int (nI d_z))]) rfl ?_
    exact L46 M (Sc.rf _) hv_z rfl
  · have hlt : b_z < 30 := (Nat.lt_or_ge b_z 30).elim id (fun q_z => absurd ((Zn_le (by decide) (by omega)).mpr q_z) h_z)
    refine Zgo hX 12 rfl (by show vp_in (M 40 4) 30; rw [g4]; exact Zin_n (by omega) (by decide)) ?_
    rw [g4, Zcl_n (show b_z < 2 ^ 31 by omega), show (Zu M 42 b_z (nI 11)) 40 4 = nI b_z from g4, nI_add]
    refine Zs_sub (l' := [(5, .int (nI 11)), (0, .ref 40), (3, .int x_z), (4, .int (nI d_z))]) rfl ?_
    exact L46 _ (((Sc.rf M).u _ rfl).u _ rfl) ⟨g1, g2, g3, b_z + 1, by omega, rfl⟩ rfl

set_option maxRecDepth 20000 in
set_option maxHeartbeats 1000000 in
theorem k_sp1_1 (kd_z : Nat) (k_z m_z x_z : Int32) (d_z fr : Nat) (M : Zmem) (hkd : kd_z ≤ 6) (hv_z : Zvo kd_z k_z m_z M) (hfr : 9 ≤ fr) (hd_z : d_z + 3 ≤ 30) : ZC 192 fr [.ref 40, .int (nI 1), .int (nI 1), .int x_z, .int (nI d_z)] M (Zvq kd_z k_z m_z (Vt kd_z k_z m_z 1 x_z) M) := by
  refine ZC_of Zt192 Zk192 (Nat.le_of_ble_eq_true rfl) (by decide) rfl (fun X hX hE => ?_)
  refine Zgo hX 2 rfl (by (first | exact True.intro | assumption | (dsimp only [ZallP]; and_intros <;> (first | assumption | decide | omega | ((try simp (disch := omega) only [pk_mul, nI_add, Zcl_n]); exact Zin_n (by omega) (by decide)))))) ?_
  refine Zs_calls hX (List.cons_ne_nil _ _) (by decide) (k_bodyOf 1 1 _ (by decide) (by decide)) (by first | decide | omega) rfl rfl (by decide) (Nat.le_of_ble_eq_true rfl) (fun r_z M' hc_z => ?_)
  obtain ⟨rfl, rfl⟩ := hc_z
  rw [show Zbl 1 (Zchn 1) = nI 11 by decide +kernel]
  have L46 : ∀ M1 : Zmem, Sc M M1 → Zvo kd_z k_z m_z M1 → M1 40 5 = M 40 5 → ZP X Zt192 (Zsf Zt192 46) [(5, .int (nI 11)), (0, .ref 40), (3, .int x_z), (4, .int (nI d_z))] [] M1 := by
    intro M1 hsc hv1 hp
    refine Zgo hX 6 rfl (by (first | exact True.intro | assumption | (dsimp only [ZallP]; and_intros <;> (first | assumption | decide | omega | ((try simp (disch := omega) only [pk_mul, nI_add, Zcl_n]); exact Zin_n (by omega) (by decide)))))) ?_
    rw [nI_add]
    refine Zs_callv hX (List.cons_ne_nil _ _) (k_w11 kd_z k_z m_z x_z (d_z + 1) (fr - 1) _ hkd hv1 (by omega) (by omega)) (by first | decide | omega) (by decide) rfl rfl rfl (by decide) (Nat.le_of_ble_eq_true rfl) (fun r_z M' hc_z => ?_)
    obtain ⟨rfl, hs2, hv2, hp2⟩ := hc_z
    refine Zs_ret hX hE rfl ⟨rfl, hsc.tr hs2, hv2, hp2.trans hp⟩
  obtain ⟨g1, g2, g3, b_z, hb_z, g4⟩ := id hv_z
  refine Zgo hX 3 rfl (by (first | exact True.intro | assumption | (dsimp only [ZallP]; and_intros <;> (first | assumption | decide | omega | ((try simp (disch := omega) only [pk_mul, nI_add, Zcl_n]); exact Zin_n (by omega) (by decide)))))) ?_
  refine Zs_ile hX (List.cons_ne_nil _ _) (fun _ => ?_) (fun q_z => False.elim ((q_z ((Zn_le (by omega) (by decide)).mpr (by omega)))))
  refine Zgo hX 3 rfl (by (first | exact True.intro | assumption | (dsimp only [ZallP]; and_intros <;> (first | assumption | decide | omega | ((try simp (disch := omega) only [pk_mul, nI_add, Zcl_n]); exact Zin_n (by omega) (by decide)))))) ?_
  rw [g4]
  refine Zs_ige hX (List.cons_ne_nil _ _) (fun h_z => ?_) (fun h_z => ?_)
  · refine Zs_sub (l' := [(5, .int (nI 11)), (0, .ref 40), (3, .int x_z), (4, .int (nI d_z))]) rfl ?_
    exact L46 M (Sc.rf _) hv_z rfl
  · have hlt : b_z < 30 := (Nat.lt_or_ge b_z 30).elim id (fun q_z => absurd ((Zn_le (by decide) (by omega)).mpr q_z) h_z)
    refine Zgo hX 12 rfl (by show vp_in (M 40 4) 30; rw [g4]; exact Zin_n (by omega) (by decide)) ?_
    rw [g4, Zcl_n (show b_z < 2 ^ 31 by omega), show (Zu M 42 b_z (nI 11)) 40 4 = nI b_z from g4, nI_add]
    refine Zs_sub (l' := [(5, .int (nI 11)), (0, .ref 40), (3, .int x_z), (4, .int (nI d_z))]) rfl ?_
    exact L46 _ (((Sc.rf M).u _ rfl).u _ rfl) ⟨g1, g2, g3, b_z + 1, by omega, rfl⟩ rfl

set_option maxRecDepth 20000 in
set_option maxHeartbeats 1000000 in
theorem k_sp3_1 (kd_z : Nat) (k_z m_z x_z : Int32) (d_z fr : Nat) (M : Zmem) (hkd : kd_z ≤ 6) (hv_z : Zvo kd_z k_z m_z M) (hfr : 9 ≤ fr) (hd_z : d_z + 3 ≤ 30) : ZC 192 fr [.ref 40, .int (nI 3), .int (nI 1), .int x_z, .int (nI d_z)] M (Zvq kd_z k_z m_z (Vt kd_z k_z m_z 3 x_z) M) := by
  refine ZC_of Zt192 Zk192 (Nat.le_of_ble_eq_true rfl) (by decide) rfl (fun X hX hE => ?_)
  refine Zgo hX 2 rfl (by (first | exact True.intro | assumption | (dsimp only [ZallP]; and_intros <;> (first | assumption | decide | omega | ((try simp (disch := omega) only [pk_mul, nI_add, Zcl_n]); exact Zin_n (by omega) (by decide)))))) ?_
  refine Zs_calls hX (List.cons_ne_nil _ _) (by decide) (k_bodyOf 3 1 _ (by decide) (by decide)) (by first | decide | omega) rfl rfl (by decide) (Nat.le_of_ble_eq_true rfl) (fun r_z M' hc_z => ?_)
  obtain ⟨rfl, rfl⟩ := hc_z
  rw [show Zbl 1 (Zchn 3) = nI 11 by decide +kernel]
  have L46 : ∀ M1 : Zmem, Sc M M1 → Zvo kd_z k_z m_z M1 → M1 40 5 = M 40 5 → ZP X Zt192 (Zsf Zt192 46) [(5, .int (nI 11)), (0, .ref 40), (3, .int x_z), (4, .int (nI d_z))] [] M1 := by
    intro M1 hsc hv1 hp
    refine Zgo hX 6 rfl (by (first | exact True.intro | assumption | (dsimp only [ZallP]; and_intros <;> (first | assumption | decide | omega | ((try simp (disch := omega) only [pk_mul, nI_add, Zcl_n]); exact Zin_n (by omega) (by decide)))))) ?_
    rw [nI_add]
    refine Zs_callv hX (List.cons_ne_nil _ _) (k_w11 kd_z k_z m_z x_z (d_z + 1) (fr - 1) _ hkd hv1 (by omega) (by omega)) (by first | decide | omega) (by decide) rfl rfl rfl (by decide) (Nat.le_of_ble_eq_true rfl) (fun r_z M' hc_z => ?_)
    obtain ⟨rfl, hs2, hv2, hp2⟩ := hc_z
    refine Zs_ret hX hE rfl ⟨rfl, hsc.tr hs2, hv2, hp2.trans hp⟩
  obtain ⟨g1, g2, g3, b_z, hb_z, g4⟩ := id hv_z
  refine Zgo hX 3 rfl (by (first | exact True.intro | assumption | (dsimp only [ZallP]; and_intros <;> (first | assumption | decide | omega | ((try simp (disch := omega) only [pk_mul, nI_add, Zcl_n]); exact Zin_n (by omega) (by decide)))))) ?_
  refine Zs_ile hX (List.cons_ne_nil _ _) (fun _ => ?_) (fun q_z => False.elim ((q_z ((Zn_le (by omega) (by decide)).mpr (by omega)))))
  refine Zgo hX 3 rfl (by (first | exact True.intro | assumption | (dsimp only [ZallP]; and_intros <;> (first | assumption | decide | omega | ((try simp (disch := omega) only [pk_mul, nI_add, Zcl_n]); exact Zin_n (by omega) (by decide)))))) ?_
  rw [g4]
  refine Zs_ige hX (List.cons_ne_nil _ _) (fun h_z => ?_) (fun h_z => ?_)
  · refine Zs_sub (l' := [(5, .int (nI 11)), (0, .ref 40), (3, .int x_z), (4, .int (nI d_z))]) rfl ?_
    exact L46 M (Sc.rf _) hv_z rfl
  · have hlt : b_z < 30 := (Nat.lt_or_ge b_z 30).elim id (fun q_z => absurd ((Zn_le (by decide) (by omega)).mpr q_z) h_z)
    refine Zgo hX 12 rfl (by show vp_in (M 40 4) 30; rw [g4]; exact Zin_n (by omega) (by decide)) ?_
    rw [g4, Zcl_n (show b_z < 2 ^ 31 by omega), show (Zu M 42 b_z (nI 11)) 40 4 = nI b_z from g4, nI_add]
    refine Zs_sub (l' := [(5, .int (nI 11)), (0, .ref 40), (3, .int x_z), (4, .int (nI d_z))]) rfl ?_
    exact L46 _ (((Sc.rf M).u _ rfl).u _ rfl) ⟨g1, g2, g3, b_z + 1, by omega, rfl⟩ rfl

set_option maxRecDepth 20000 in
set_option maxHeartbeats 1000000 in
theorem k_sp4_1 (kd_z : Nat) (k_z m_z x_z : Int32) (d_z fr : Nat) (M : Zmem) (hkd : kd_z ≤ 6) (hv_z : Zvo kd_z k_z m_z M) (hfr : 9 ≤ fr) (hd_z : d_z + 3 ≤ 30) : ZC 192 fr [.ref 40, .int (nI 4), .int (nI 1), .int x_z, .int (nI d_z)] M (Zvq kd_z k_z m_z (Vt kd_z k_z m_z 4 x_z) M) := by
  refine ZC_of Zt192 Zk192 (Nat.le_of_ble_eq_true rfl) (by decide) rfl (fun X hX hE => ?_)
  refine Zgo hX 2 rfl (by (first | exact True.intro | assumption | (dsimp only [ZallP]; and_intros <;> (first | assumption | decide | omega | ((try simp (disch := omega) only [pk_mul, nI_add, Zcl_n]); exact Zin_n (by omega) (by decide)))))) ?_
  refine Zs_calls hX (List.cons_ne_nil _ _) (by decide) (k_bodyOf 4 1 _ (by decide) (by decide)) (by first | decide | omega) rfl rfl (by decide) (Nat.le_of_ble_eq_true rfl) (fun r_z M' hc_z => ?_)
  obtain ⟨rfl, rfl⟩ := hc_z
  rw [show Zbl 1 (Zchn 4) = nI 11 by decide +kernel]
  have L46 : ∀ M1 : Zmem, Sc M M1 → Zvo kd_z k_z m_z M1 → M1 40 5 = M 40 5 → ZP X Zt192 (Zsf Zt192 46) [(5, .int (nI 11)), (0, .ref 40), (3, .int x_z), (4, .int (nI d_z))] [] M1 := by
    intro M1 hsc hv1 hp
    refine Zgo hX 6 rfl (by (first | exact True.intro | assumption | (dsimp only [ZallP]; and_intros <;> (first | assumption | decide | omega | ((try simp (disch := omega) only [pk_mul, nI_add, Zcl_n]); exact Zin_n (by omega) (by decide)))))) ?_
    rw [nI_add]
    refine Zs_callv hX (List.cons_ne_nil _ _) (k_w11 kd_z k_z m_z x_z (d_z + 1) (fr - 1) _ hkd hv1 (by omega) (by omega)) (by first | decide | omega) (by decide) rfl rfl rfl (by decide) (Nat.le_of_ble_eq_true rfl) (fun r_z M' hc_z => ?_)
    obtain ⟨rfl, hs2, hv2, hp2⟩ := hc_z
    refine Zs_ret hX hE rfl ⟨rfl, hsc.tr hs2, hv2, hp2.trans hp⟩
  obtain ⟨g1, g2, g3, b_z, hb_z, g4⟩ := id hv_z
  refine Zgo hX 3 rfl (by (first | exact True.intro | assumption | (dsimp only [ZallP]; and_intros <;> (first | assumption | decide | omega | ((try simp (disch := omega) only [pk_mul, nI_add, Zcl_n]); exact Zin_n (by omega) (by decide)))))) ?_
  refine Zs_ile hX (List.cons_ne_nil _ _) (fun _ => ?_) (fun q_z => False.elim ((q_z ((Zn_le (by omega) (by decide)).mpr (by omega)))))
  refine Zgo hX 3 rfl (by (first | exact True.intro | assumption | (dsimp only [ZallP]; and_intros <;> (first | assumption | decide | omega | ((try simp (disch := omega) only [pk_mul, nI_add, Zcl_n]); exact Zin_n (by omega) (by decide)))))) ?_
  rw [g4]
  refine Zs_ige hX (List.cons_ne_nil _ _) (fun h_z => ?_) (fun h_z => ?_)
  · refine Zs_sub (l' := [(5, .int (nI 11)), (0, .ref 40), (3, .int x_z), (4, .int (nI d_z))]) rfl ?_
    exact L46 M (Sc.rf _) hv_z rfl
  · have hlt : b_z < 30 := (Nat.lt_or_ge b_z 30).elim id (fun q_z => absurd ((Zn_le (by decide) (by omega)).mpr q_z) h_z)
    refine Zgo hX 12 rfl (by show vp_in (M 40 4) 30; rw [g4]; exact Zin_n (by omega) (by decide)) ?_
    rw [g4, Zcl_n (show b_z < 2 ^ 31 by omega), show (Zu M 42 b_z (nI 11)) 40 4 = nI b_z from g4, nI_add]
    refine Zs_sub (l' := [(5, .int (nI 11)), (0, .ref 40), (3, .int x_z), (4, .int (nI d_z))]) rfl ?_
    exact L46 _ (((Sc.rf M).u _ rfl).u _ rfl) ⟨g1, g2, g3, b_z + 1, by omega, rfl⟩ rfl

set_option maxRecDepth 20000 in
set_option maxHeartbeats 1000000 in
theorem k_w30 (kd_z : Nat) (k_z m_z x_z : Int32) (d_z fr : Nat) (M : Zmem) (hkd : kd_z ≤ 6) (hv_z : Zvo kd_z k_z m_z M) (hfr : 10 ≤ fr) (hd_z : d_z + 4 ≤ 31) : ZC 194 fr [.ref 40, .int (nI 30), .int x_z, .int (nI d_z)] M (Zvq kd_z k_z m_z (Vt kd_z k_z m_z 2 x_z) M) := by
  refine ZC_of Zt194 Zk194 (Nat.le_of_ble_eq_true rfl) (by decide) rfl (fun X hX hE => ?_)
  obtain ⟨g1, g2, g3, b_z, hb_z, g4⟩ := id hv_z
  refine Zgo hX 5 rfl (by (first | exact True.intro | assumption | (dsimp only [ZallP]; and_intros <;> (first | assumption | decide | omega | ((try simp (disch := omega) only [pk_mul, nI_add, Zcl_n]); exact Zin_n (by omega) (by decide)))))) ?_
  rw [show nI 30 / nI 10 - nI 1 = nI 2 by decide +kernel]
  refine Zs_calls hX (List.cons_ne_nil _ _) (by decide) (k_above _ _) (by first | decide | omega) rfl rfl (by decide) (Nat.le_of_ble_eq_true rfl) (fun r_z M' hc_z => ?_)
  obtain ⟨⟨y_z, rfl, hy⟩, rfl⟩ := hc_z
  rw [Zab_of (kd_z := 2) (by decide) hy]
  refine Zgo hX 2 rfl (by (first | exact True.intro | assumption | (dsimp only [ZallP]; and_intros <;> (first | assumption | decide | omega | ((try simp (disch := omega) only [pk_mul, nI_add, Zcl_n]); exact Zin_n (by omega) (by decide)))))) ?_
  refine Zs_sw [(nI 10, 128), (nI 11, 135), (nI 12, 149), (nI 13, 166), (nI 20, 181), (nI 21, 193), (nI 30, 215), (nI 40, 227), (nI 50, 239), (nI 51, 251), (nI 60, 266), (nI 70, 278), (nI 71, 281)] 296 hX (by decide +kernel) (by decide +kernel) (t := 215) ((by decide +kernel)) ?_
  refine Zgo hX 6 rfl (by (first | exact True.intro | assumption | (dsimp only [ZallP]; and_intros <;> (first | assumption | decide | omega | ((try simp (disch := omega) only [pk_mul, nI_add, Zcl_n]); exact Zin_n (by omega) (by decide)))))) ?_
  rw [show Zabv 2 = nI 0 by decide +kernel]
  refine Zs_callv hX (List.cons_ne_nil _ _) (k_sp0_1 kd_z k_z m_z x_z d_z (fr - 1) _ hkd hv_z (by omega) (by omega)) (by first | decide | omega) (by decide) rfl rfl rfl (by decide) (Nat.le_of_ble_eq_true rfl) (fun r_z M' hc_z => ?_)
  obtain ⟨rfl, hs2, hv2, hp2⟩ := hc_z
  refine Zgo hX 1 rfl (by (first | exact True.intro | assumption | (dsimp only [ZallP]; and_intros <;> (first | assumption | decide | omega | ((try simp (disch := omega) only [pk_mul, nI_add, Zcl_n]); exact Zin_n (by omega) (by decide)))))) ?_
  refine Zs_ret hX hE rfl ⟨rfl, hs2, hv2, hp2⟩

set_option maxRecDepth 20000 in
set_option maxHeartbeats 1000000 in
theorem k_sp2_1 (kd_z : Nat) (k_z m_z x_z : Int32) (d_z fr : Nat) (M : Zmem) (hkd : kd_z ≤ 6) (hv_z : Zvo kd_z k_z m_z M) (hfr : 11 ≤ fr) (hd_z : d_z + 4 ≤ 30) : ZC 192 fr [.ref 40, .int (nI 2), .int (nI 1), .int x_z, .int (nI d_z)] M (Zvq kd_z k_z m_z (Vt kd_z k_z m_z 2 x_z) M) := by
  refine ZC_of Zt192 Zk192 (Nat.le_of_ble_eq_true rfl) (by decide) rfl (fun X hX hE => ?_)
  refine Zgo hX 2 rfl (by (first | exact True.intro | assumption | (dsimp only [ZallP]; and_intros <;> (first | assumption | decide | omega | ((try simp (disch := omega) only [pk_mul, nI_add, Zcl_n]); exact Zin_n (by omega) (by decide)))))) ?_
  refine Zs_calls hX (List.cons_ne_nil _ _) (by decide) (k_bodyOf 2 1 _ (by decide) (by decide)) (by first | decide | omega) rfl rfl (by decide) (Nat.le_of_ble_eq_true rfl) (fun r_z M' hc_z => ?_)
  obtain ⟨rfl, rfl⟩ := hc_z
  rw [show Zbl 1 (Zchn 2) = nI 30 by decide +kernel]
  have L46 : ∀ M1 : Zmem, Sc M M1 → Zvo kd_z k_z m_z M1 → M1 40 5 = M 40 5 → ZP X Zt192 (Zsf Zt192 46) [(5, .int (nI 30)), (0, .ref 40), (3, .int x_z), (4, .int (nI d_z))] [] M1 := by
    intro M1 hsc hv1 hp
    refine Zgo hX 6 rfl (by (first | exact True.intro | assumption | (dsimp only [ZallP]; and_intros <;> (first | assumption | decide | omega | ((try simp (disch := omega) only [pk_mul, nI_add, Zcl_n]); exact Zin_n (by omega) (by decide)))))) ?_
    rw [nI_add]
    refine Zs_callv hX (List.cons_ne_nil _ _) (k_w30 kd_z k_z m_z x_z (d_z + 1) (fr - 1) _ hkd hv1 (by omega) (by omega)) (by first | decide | omega) (by decide) rfl rfl rfl (by decide) (Nat.le_of_ble_eq_true rfl) (fun r_z M' hc_z => ?_)
    obtain ⟨rfl, hs2, hv2, hp2⟩ := hc_z
    refine Zs_ret hX hE rfl ⟨rfl, hsc.tr hs2, hv2, hp2.trans hp⟩
  obtain ⟨g1, g2, g3, b_z, hb_z, g4⟩ := id hv_z
  refine Zgo hX 3 rfl (by (first | exact True.intro | assumption | (dsimp only [ZallP]; and_intros <;> (first | assumption | decide | omega | ((try simp (disch := omega) only [pk_mul, nI_add, Zcl_n]); exact Zin_n (by omega) (by decide)))))) ?_
  refine Zs_ile hX (List.cons_ne_nil _ _) (fun _ => ?_) (fun q_z => False.elim ((q_z ((Zn_le (by omega) (by decide)).mpr (by omega)))))
  refine Zgo hX 3 rfl (by (first | exact True.intro | assumption | (dsimp only [ZallP]; and_intros <;> (first | assumption | decide | omega | ((try simp (disch := omega) only [pk_mul, nI_add, Zcl_n]); exact Zin_n (by omega) (by decide)))))) ?_
  rw [g4]
  refine Zs_ige hX (List.cons_ne_nil _ _) (fun h_z => ?_) (fun h_z => ?_)
  · refine Zs_sub (l' := [(5, .int (nI 30)), (0, .ref 40), (3, .int x_z), (4, .int (nI d_z))]) rfl ?_
    exact L46 M (Sc.rf _) hv_z rfl
  · have hlt : b_z < 30 := (Nat.lt_or_ge b_z 30).elim id (fun q_z => absurd ((Zn_le (by decide) (by omega)).mpr q_z) h_z)
    refine Zgo hX 12 rfl (by show vp_in (M 40 4) 30; rw [g4]; exact Zin_n (by omega) (by decide)) ?_
    rw [g4, Zcl_n (show b_z < 2 ^ 31 by omega), show (Zu M 42 b_z (nI 30)) 40 4 = nI b_z from g4, nI_add]
    refine Zs_sub (l' := [(5, .int (nI 30)), (0, .ref 40), (3, .int x_z), (4, .int (nI d_z))]) rfl ?_
    exact L46 _ (((Sc.rf M).u _ rfl).u _ rfl) ⟨g1, g2, g3, b_z + 1, by omega, rfl⟩ rfl

set_option maxRecDepth 20000 in
set_option maxHeartbeats 1000000 in
theorem k_w60 (kd_z : Nat) (k_z m_z x_z : Int32) (d_z fr : Nat) (M : Zmem) (hkd : kd_z ≤ 6) (hv_z : Zvo kd_z k_z m_z M) (hfr : 12 ≤ fr) (hd_z : d_z + 5 ≤ 31) : ZC 194 fr [.ref 40, .int (nI 60), .int x_z, .int (nI d_z)] M (Zvq kd_z k_z m_z (Vt kd_z k_z m_z 5 x_z) M) := by
  refine ZC_of Zt194 Zk194 (Nat.le_of_ble_eq_true rfl) (by decide) rfl (fun X hX hE => ?_)
  obtain ⟨g1, g2, g3, b_z, hb_z, g4⟩ := id hv_z
  refine Zgo hX 5 rfl (by (first | exact True.intro | assumption | (dsimp only [ZallP]; and_intros <;> (first | assumption | decide | omega | ((try simp (disch := omega) only [pk_mul, nI_add, Zcl_n]); exact Zin_n (by omega) (by decide)))))) ?_
  rw [show nI 60 / nI 10 - nI 1 = nI 5 by decide +kernel]
  refine Zs_calls hX (List.cons_ne_nil _ _) (by decide) (k_above _ _) (by first | decide | omega) rfl rfl (by decide) (Nat.le_of_ble_eq_true rfl) (fun r_z M' hc_z => ?_)
  obtain ⟨⟨y_z, rfl, hy⟩, rfl⟩ := hc_z
  rw [Zab_of (kd_z := 5) (by decide) hy]
  refine Zgo hX 2 rfl (by (first | exact True.intro | assumption | (dsimp only [ZallP]; and_intros <;> (first | assumption | decide | omega | ((try simp (disch := omega) only [pk_mul, nI_add, Zcl_n]); exact Zin_n (by omega) (by decide)))))) ?_
  refine Zs_sw [(nI 10, 128), (nI 11, 135), (nI 12, 149), (nI 13, 166), (nI 20, 181), (nI 21, 193), (nI 30, 215), (nI 40, 227), (nI 50, 239), (nI 51, 251), (nI 60, 266), (nI 70, 278), (nI 71, 281)] 296 hX (by decide +kernel) (by decide +kernel) (t := 266) ((by decide +kernel)) ?_
  refine Zgo hX 7 rfl (by (first | exact True.intro | assumption | (dsimp only [ZallP]; and_intros <;> (first | assumption | decide | omega | ((try simp (disch := omega) only [pk_mul, nI_add, Zcl_n]); exact Zin_n (by omega) (by decide)))))) ?_
  rw [show Zabv 5 = nI 2 by decide +kernel]
  refine Zs_callv hX (List.cons_ne_nil _ _) (k_sp2_1 kd_z k_z m_z (x_z + nI 1) d_z (fr - 1) _ hkd hv_z (by omega) (by omega)) (by first | decide | omega) (by decide) rfl rfl rfl (by decide) (Nat.le_of_ble_eq_true rfl) (fun r_z M' hc_z => ?_)
  obtain ⟨rfl, hs2, hv2, hp2⟩ := hc_z
  refine Zs_ret hX hE rfl ⟨rfl, hs2, hv2, hp2⟩

set_option maxRecDepth 20000 in
set_option maxHeartbeats 1000000 in
theorem k_sp5_1 (kd_z : Nat) (k_z m_z x_z : Int32) (d_z fr : Nat) (M : Zmem) (hkd : kd_z ≤ 6) (hv_z : Zvo kd_z k_z m_z M) (hfr : 13 ≤ fr) (hd_z : d_z + 5 ≤ 30) : ZC 192 fr [.ref 40, .int (nI 5), .int (nI 1), .int x_z, .int (nI d_z)] M (Zvq kd_z k_z m_z (Vt kd_z k_z m_z 5 x_z) M) := by
  refine ZC_of Zt192 Zk192 (Nat.le_of_ble_eq_true rfl) (by decide) rfl (fun X hX hE => ?_)
  refine Zgo hX 2 rfl (by (first | exact True.intro | assumption | (dsimp only [ZallP]; and_intros <;> (first | assumption | decide | omega | ((try simp (disch := omega) only [pk_mul, nI_add, Zcl_n]); exact Zin_n (by omega) (by decide)))))) ?_
  refine Zs_calls hX (List.cons_ne_nil _ _) (by decide) (k_bodyOf 5 1 _ (by decide) (by decide)) (by first | decide | omega) rfl rfl (by decide) (Nat.le_of_ble_eq_true rfl) (fun r_z M' hc_z => ?_)
  obtain ⟨rfl, rfl⟩ := hc_z
  rw [show Zbl 1 (Zchn 5) = nI 60 by decide +kernel]
  have L46 : ∀ M1 : Zmem, Sc M M1 → Zvo kd_z k_z m_z M1 → M1 40 5 = M 40 5 → ZP X Zt192 (Zsf Zt192 46) [(5, .int (nI 60)), (0, .ref 40), (3, .int x_z), (4, .int (nI d_z))] [] M1 := by
    intro M1 hsc hv1 hp
    refine Zgo hX 6 rfl (by (first | exact True.intro | assumption | (dsimp only [ZallP]; and_intros <;> (first | assumption | decide | omega | ((try simp (disch := omega) only [pk_mul, nI_add, Zcl_n]); exact Zin_n (by omega) (by decide)))))) ?_
    rw [nI_add]
    refine Zs_callv hX (List.cons_ne_nil _ _) (k_w60 kd_z k_z m_z x_z (d_z + 1) (fr - 1) _ hkd hv1 (by omega) (by omega)) (by first | decide | omega) (by decide) rfl rfl rfl (by decide) (Nat.le_of_ble_eq_true rfl) (fun r_z M' hc_z => ?_)
    obtain ⟨rfl, hs2, hv2, hp2⟩ := hc_z
    refine Zs_ret hX hE rfl ⟨rfl, hsc.tr hs2, hv2, hp2.trans hp⟩
  obtain ⟨g1, g2, g3, b_z, hb_z, g4⟩ := id hv_z
  refine Zgo hX 3 rfl (by (first | exact True.intro | assumption | (dsimp only [ZallP]; and_intros <;> (first | assumption | decide | omega | ((try simp (disch := omega) only [pk_mul, nI_add, Zcl_n]); exact Zin_n (by omega) (by decide)))))) ?_
  refine Zs_ile hX (List.cons_ne_nil _ _) (fun _ => ?_) (fun q_z => False.elim ((q_z ((Zn_le (by omega) (by decide)).mpr (by omega)))))
  refine Zgo hX 3 rfl (by (first | exact True.intro | assumption | (dsimp only [ZallP]; and_intros <;> (first | assumption | decide | omega | ((try simp (disch := omega) only [pk_mul, nI_add, Zcl_n]); exact Zin_n (by omega) (by decide)))))) ?_
  rw [g4]
  refine Zs_ige hX (List.cons_ne_nil _ _) (fun h_z => ?_) (fun h_z => ?_)
  · refine Zs_sub (l' := [(5, .int (nI 60)), (0, .ref 40), (3, .int x_z), (4, .int (nI d_z))]) rfl ?_
    exact L46 M (Sc.rf _) hv_z rfl
  · have hlt : b_z < 30 := (Nat.lt_or_ge b_z 30).elim id (fun q_z => absurd ((Zn_le (by decide) (by omega)).mpr q_z) h_z)
    refine Zgo hX 12 rfl (by show vp_in (M 40 4) 30; rw [g4]; exact Zin_n (by omega) (by decide)) ?_
    rw [g4, Zcl_n (show b_z < 2 ^ 31 by omega), show (Zu M 42 b_z (nI 60)) 40 4 = nI b_z from g4, nI_add]
    refine Zs_sub (l' := [(5, .int (nI 60)), (0, .ref 40), (3, .int x_z), (4, .int (nI d_z))]) rfl ?_
    exact L46 _ (((Sc.rf M).u _ rfl).u _ rfl) ⟨g1, g2, g3, b_z + 1, by omega, rfl⟩ rfl

set_option maxRecDepth 20000 in
set_option maxHeartbeats 1000000 in
theorem k_w71 (kd_z : Nat) (k_z m_z x_z : Int32) (d_z fr : Nat) (M : Zmem) (hkd : kd_z ≤ 6) (hv_z : Zvo kd_z k_z m_z M) (hfr : 10 ≤ fr) (hd_z : d_z + 4 ≤ 31) : ZC 194 fr [.ref 40, .int (nI 71), .int x_z, .int (nI d_z)] M (Zvq kd_z k_z m_z (Vt kd_z k_z m_z 6 x_z) M) := by
  refine ZC_of Zt194 Zk194 (Nat.le_of_ble_eq_true rfl) (by decide) rfl (fun X hX hE => ?_)
  obtain ⟨g1, g2, g3, b_z, hb_z, g4⟩ := id hv_z
  refine Zgo hX 5 rfl (by (first | exact True.intro | assumption | (dsimp only [ZallP]; and_intros <;> (first | assumption | decide | omega | ((try simp (disch := omega) only [pk_mul, nI_add, Zcl_n]); exact Zin_n (by omega) (by decide)))))) ?_
  rw [show nI 71 / nI 10 - nI 1 = nI 6 by decide +kernel]
  refine Zs_calls hX (List.cons_ne_nil _ _) (by decide) (k_above _ _) (by first | decide | omega) rfl rfl (by decide) (Nat.le_of_ble_eq_true rfl) (fun r_z M' hc_z => ?_)
  obtain ⟨⟨y_z, rfl, hy⟩, rfl⟩ := hc_z
  rw [Zab_of (kd_z := 6) (by decide) hy]
  refine Zgo hX 2 rfl (by (first | exact True.intro | assumption | (dsimp only [ZallP]; and_intros <;> (first | assumption | decide | omega | ((try simp (disch := omega) only [pk_mul, nI_add, Zcl_n]); exact Zin_n (by omega) (by decide)))))) ?_
  refine Zs_sw [(nI 10, 128), (nI 11, 135), (nI 12, 149), (nI 13, 166), (nI 20, 181), (nI 21, 193), (nI 30, 215), (nI 40, 227), (nI 50, 239), (nI 51, 251), (nI 60, 266), (nI 70, 278), (nI 71, 281)] 296 hX (by decide +kernel) (by decide +kernel) (t := 281) ((by decide +kernel)) ?_
  refine Zgo hX 5 rfl (by (first | exact True.intro | assumption | (dsimp only [ZallP]; and_intros <;> (first | assumption | decide | omega | ((try simp (disch := omega) only [pk_mul, nI_add, Zcl_n]); exact Zin_n (by omega) (by decide)))))) ?_
  rw [show Zabv 6 = nI 0 by decide +kernel]
  refine Zs_callv hX (List.cons_ne_nil _ _) (k_sp0_1 kd_z k_z m_z x_z d_z (fr - 1) _ hkd hv_z (by omega) (by omega)) (by first | decide | omega) (by decide) rfl rfl rfl (by decide) (Nat.le_of_ble_eq_true rfl) (fun r_z M' hc_z => ?_)
  obtain ⟨rfl, hs2, hv2, hp2⟩ := hc_z
  refine Zgo hX 3 rfl (by (first | exact True.intro | assumption | (dsimp only [ZallP]; and_intros <;> (first | assumption | decide | omega | ((try simp (disch := omega) only [pk_mul, nI_add, Zcl_n]); exact Zin_n (by omega) (by decide)))))) ?_
  rw [hv2.2.2.1]
  refine Zs_ret hX hE rfl ⟨rfl, hs2, hv2, hp2⟩

set_option maxRecDepth 20000 in
set_option maxHeartbeats 1000000 in
theorem k_sp6_1 (kd_z : Nat) (k_z m_z x_z : Int32) (d_z fr : Nat) (M : Zmem) (hkd : kd_z ≤ 6) (hv_z : Zvo kd_z k_z m_z M) (hfr : 11 ≤ fr) (hd_z : d_z + 4 ≤ 30) : ZC 192 fr [.ref 40, .int (nI 6), .int (nI 1), .int x_z, .int (nI d_z)] M (Zvq kd_z k_z m_z (Vt kd_z k_z m_z 6 x_z) M) := by
  refine ZC_of Zt192 Zk192 (Nat.le_of_ble_eq_true rfl) (by decide) rfl (fun X hX hE => ?_)
  refine Zgo hX 2 rfl (by (first | exact True.intro | assumption | (dsimp only [ZallP]; and_intros <;> (first | assumption | decide | omega | ((try simp (disch := omega) only [pk_mul, nI_add, Zcl_n]); exact Zin_n (by omega) (by decide)))))) ?_
  refine Zs_calls hX (List.cons_ne_nil _ _) (by decide) (k_bodyOf 6 1 _ (by decide) (by decide)) (by first | decide | omega) rfl rfl (by decide) (Nat.le_of_ble_eq_true rfl) (fun r_z M' hc_z => ?_)
  obtain ⟨rfl, rfl⟩ := hc_z
  rw [show Zbl 1 (Zchn 6) = nI 71 by decide +kernel]
  have L46 : ∀ M1 : Zmem, Sc M M1 → Zvo kd_z k_z m_z M1 → M1 40 5 = M 40 5 → ZP X Zt192 (Zsf Zt192 46) [(5, .int (nI 71)), (0, .ref 40), (3, .int x_z), (4, .int (nI d_z))] [] M1 := by
    intro M1 hsc hv1 hp
    refine Zgo hX 6 rfl (by (first | exact True.intro | assumption | (dsimp only [ZallP]; and_intros <;> (first | assumption | decide | omega | ((try simp (disch := omega) only [pk_mul, nI_add, Zcl_n]); exact Zin_n (by omega) (by decide)))))) ?_
    rw [nI_add]
    refine Zs_callv hX (List.cons_ne_nil _ _) (k_w71 kd_z k_z m_z x_z (d_z + 1) (fr - 1) _ hkd hv1 (by omega) (by omega)) (by first | decide | omega) (by decide) rfl rfl rfl (by decide) (Nat.le_of_ble_eq_true rfl) (fun r_z M' hc_z => ?_)
    obtain ⟨rfl, hs2, hv2, hp2⟩ := hc_z
    refine Zs_ret hX hE rfl ⟨rfl, hsc.tr hs2, hv2, hp2.trans hp⟩
  obtain ⟨g1, g2, g3, b_z, hb_z, g4⟩ := id hv_z
  refine Zgo hX 3 rfl (by (first | exact True.intro | assumption | (dsimp only [ZallP]; and_intros <;> (first | assumption | decide | omega | ((try simp (disch := omega) only [pk_mul, nI_add, Zcl_n]); exact Zin_n (by omega) (by decide)))))) ?_
  refine Zs_ile hX (List.cons_ne_nil _ _) (fun _ => ?_) (fun q_z => False.elim ((q_z ((Zn_le (by omega) (by decide)).mpr (by omega)))))
  refine Zgo hX 3 rfl (by (first | exact True.intro | assumption | (dsimp only [ZallP]; and_intros <;> (first | assumption | decide | omega | ((try simp (disch := omega) only [pk_mul, nI_add, Zcl_n]); exact Zin_n (by omega) (by decide)))))) ?_
  rw [g4]
  refine Zs_ige hX (List.cons_ne_nil _ _) (fun h_z => ?_) (fun h_z => ?_)
  · refine Zs_sub (l' := [(5, .int (nI 71)), (0, .ref 40), (3, .int x_z), (4, .int (nI d_z))]) rfl ?_
    exact L46 M (Sc.rf _) hv_z rfl
  · have hlt : b_z < 30 := (Nat.lt_or_ge b_z 30).elim id (fun q_z => absurd ((Zn_le (by decide) (by omega)).mpr q_z) h_z)
    refine Zgo hX 12 rfl (by show vp_in (M 40 4) 30; rw [g4]; exact Zin_n (by omega) (by decide)) ?_
    rw [g4, Zcl_n (show b_z < 2 ^ 31 by omega), show (Zu M 42 b_z (nI 71)) 40 4 = nI b_z from g4, nI_add]
    refine Zs_sub (l' := [(5, .int (nI 71)), (0, .ref 40), (3, .int x_z), (4, .int (nI d_z))]) rfl ?_
    exact L46 _ (((Sc.rf M).u _ rfl).u _ rfl) ⟨g1, g2, g3, b_z + 1, by omega, rfl⟩ rfl


theorem k_spa1 (kd_z : Nat) (k_z m_z x_z : Int32) (d_z fr : Nat) (M : Zmem) (hkd : kd_z ≤ 6) (hv_z : Zvo kd_z k_z m_z M) (hfr : 13 ≤ fr) (hd_z : d_z + 5 ≤ 30) : ZC 192 fr [.ref 40, .int (nI kd_z), .int (nI 1), .int x_z, .int (nI d_z)] M (Zvq kd_z k_z m_z (Vt kd_z k_z m_z kd_z x_z) M) := by
  rcases Zseven hkd with rfl | rfl | rfl | rfl | rfl | rfl | rfl
  · exact k_sp0_1 0 k_z m_z x_z d_z fr M hkd hv_z (by omega) (by omega)
  · exact k_sp1_1 1 k_z m_z x_z d_z fr M hkd hv_z (by omega) (by omega)
  · exact k_sp2_1 2 k_z m_z x_z d_z fr M hkd hv_z (by omega) (by omega)
  · exact k_sp3_1 3 k_z m_z x_z d_z fr M hkd hv_z (by omega) (by omega)
  · exact k_sp4_1 4 k_z m_z x_z d_z fr M hkd hv_z (by omega) (by omega)
  · exact k_sp5_1 5 k_z m_z x_z d_z fr M hkd hv_z (by omega) (by omega)
  · exact k_sp6_1 6 k_z m_z x_z d_z fr M hkd hv_z (by omega) (by omega)

set_option maxRecDepth 20000 in
set_option maxHeartbeats 1000000 in
theorem k_w12 (kd_z : Nat) (k_z m_z x_z : Int32) (d_z fr : Nat) (M : Zmem) (hkd : kd_z ≤ 6) (hv_z : Zvo kd_z k_z m_z M) (hfr : 14 ≤ fr) (hd_z : d_z + 6 ≤ 31) : ZC 194 fr [.ref 40, .int (nI 12), .int x_z, .int (nI d_z)] M (Zvq kd_z k_z m_z (Vp kd_z k_z m_z 0 x_z) M) := by
  refine ZC_of Zt194 Zk194 (Nat.le_of_ble_eq_true rfl) (by decide) rfl (fun X hX hE => ?_)
  obtain ⟨g1, g2, g3, b_z, hb_z, g4⟩ := id hv_z
  refine Zgo hX 5 rfl (by (first | exact True.intro | assumption | (dsimp only [ZallP]; and_intros <;> (first | assumption | decide | omega | ((try simp (disch := omega) only [pk_mul, nI_add, Zcl_n]); exact Zin_n (by omega) (by decide)))))) ?_
  rw [show nI 12 / nI 10 - nI 1 = nI 0 by decide +kernel]
  refine Zs_calls hX (List.cons_ne_nil _ _) (by decide) (k_above _ _) (by first | decide | omega) rfl rfl (by decide) (Nat.le_of_ble_eq_true rfl) (fun r_z M' hc_z => ?_)
  obtain ⟨⟨y_z, rfl, hy⟩, rfl⟩ := hc_z
  rw [Zab_of (kd_z := 0) (by decide) hy]
  refine Zgo hX 2 rfl (by (first | exact True.intro | assumption | (dsimp only [ZallP]; and_intros <;> (first | assumption | decide | omega | ((try simp (disch := omega) only [pk_mul, nI_add, Zcl_n]); exact Zin_n (by omega) (by decide)))))) ?_
  refine Zs_sw [(nI 10, 128), (nI 11, 135), (nI 12, 149), (nI 13, 166), (nI 20, 181), (nI 21, 193), (nI 30, 215), (nI 40, 227), (nI 50, 239), (nI 51, 251), (nI 60, 266), (nI 70, 278), (nI 71, 281)] 296 hX (by decide +kernel) (by decide +kernel) (t := 149) ((by decide +kernel)) ?_
  refine Zgo hX 6 rfl (by (first | exact True.intro | assumption | (dsimp only [ZallP]; and_intros <;> (first | assumption | decide | omega | ((try simp (disch := omega) only [pk_mul, nI_add, Zcl_n]); exact Zin_n (by omega) (by decide)))))) ?_
  rw [g1]
  refine Zs_callv hX (List.cons_ne_nil _ _) (k_spa1 kd_z k_z m_z x_z d_z (fr - 1) _ hkd hv_z (by omega) (by omega)) (by first | decide | omega) (by decide) rfl rfl rfl (by decide) (Nat.le_of_ble_eq_true rfl) (fun r_z M' hc_z => ?_)
  obtain ⟨rfl, hs2, hv2, hp2⟩ := hc_z
  refine Zgo hX 3 rfl (by (first | exact True.intro | assumption | (dsimp only [ZallP]; and_intros <;> (first | assumption | decide | omega | ((try simp (disch := omega) only [pk_mul, nI_add, Zcl_n]); exact Zin_n (by omega) (by decide)))))) ?_
  rw [hv2.2.2.1]
  refine Zs_ret hX hE rfl ⟨rfl, hs2, hv2, hp2⟩

set_option maxRecDepth 20000 in
set_option maxHeartbeats 1000000 in
theorem k_sp0_2 (kd_z : Nat) (k_z m_z x_z : Int32) (d_z fr : Nat) (M : Zmem) (hkd : kd_z ≤ 6) (hv_z : Zvo kd_z k_z m_z M) (hfr : 15 ≤ fr) (hd_z : d_z + 6 ≤ 30) : ZC 192 fr [.ref 40, .int (nI 0), .int (nI 2), .int x_z, .int (nI d_z)] M (Zvq kd_z k_z m_z (Vp kd_z k_z m_z 0 x_z) M) := by
  refine ZC_of Zt192 Zk192 (Nat.le_of_ble_eq_true rfl) (by decide) rfl (fun X hX hE => ?_)
  refine Zgo hX 2 rfl (by (first | exact True.intro | assumption | (dsimp only [ZallP]; and_intros <;> (first | assumption | decide | omega | ((try simp (disch := omega) only [pk_mul, nI_add, Zcl_n]); exact Zin_n (by omega) (by decide)))))) ?_
  refine Zs_calls hX (List.cons_ne_nil _ _) (by decide) (k_bodyOf 0 2 _ (by decide) (by decide)) (by first | decide | omega) rfl rfl (by decide) (Nat.le_of_ble_eq_true rfl) (fun r_z M' hc_z => ?_)
  obtain ⟨rfl, rfl⟩ := hc_z
  rw [show Zbl 2 (Zchn 0) = nI 12 by decide +kernel]
  have L46 : ∀ M1 : Zmem, Sc M M1 → Zvo kd_z k_z m_z M1 → M1 40 5 = M 40 5 → ZP X Zt192 (Zsf Zt192 46) [(5, .int (nI 12)), (0, .ref 40), (3, .int x_z), (4, .int (nI d_z))] [] M1 := by
    intro M1 hsc hv1 hp
    refine Zgo hX 6 rfl (by (first | exact True.intro | assumption | (dsimp only [ZallP]; and_intros <;> (first | assumption | decide | omega | ((try simp (disch := omega) only [pk_mul, nI_add, Zcl_n]); exact Zin_n (by omega) (by decide)))))) ?_
    rw [nI_add]
    refine Zs_callv hX (List.cons_ne_nil _ _) (k_w12 kd_z k_z m_z x_z (d_z + 1) (fr - 1) _ hkd hv1 (by omega) (by omega)) (by first | decide | omega) (by decide) rfl rfl rfl (by decide) (Nat.le_of_ble_eq_true rfl) (fun r_z M' hc_z => ?_)
    obtain ⟨rfl, hs2, hv2, hp2⟩ := hc_z
    refine Zs_ret hX hE rfl ⟨rfl, hsc.tr hs2, hv2, hp2.trans hp⟩
  obtain ⟨g1, g2, g3, b_z, hb_z, g4⟩ := id hv_z
  refine Zgo hX 3 rfl (by (first | exact True.intro | assumption | (dsimp only [ZallP]; and_intros <;> (first | assumption | decide | omega | ((try simp (disch := omega) only [pk_mul, nI_add, Zcl_n]); exact Zin_n (by omega) (by decide)))))) ?_
  refine Zs_ile hX (List.cons_ne_nil _ _) (fun _ => ?_) (fun q_z => False.elim ((q_z ((Zn_le (by omega) (by decide)).mpr (by omega)))))
  refine Zgo hX 3 rfl (by (first | exact True.intro | assumption | (dsimp only [ZallP]; and_intros <;> (first | assumption | decide | omega | ((try simp (disch := omega) only [pk_mul, nI_add, Zcl_n]); exact Zin_n (by omega) (by decide)))))) ?_
  rw [g4]
  refine Zs_ige hX (List.cons_ne_nil _ _) (fun h_z => ?_) (fun h_z => ?_)
  · refine Zs_sub (l' := [(5, .int (nI 12)), (0, .ref 40), (3, .int x_z), (4, .int (nI d_z))]) rfl ?_
    exact L46 M (Sc.rf _) hv_z rfl
  · have hlt : b_z < 30 := (Nat.lt_or_ge b_z 30).elim id (fun q_z => absurd ((Zn_le (by decide) (by omega)).mpr q_z) h_z)
    refine Zgo hX 12 rfl (by show vp_in (M 40 4) 30; rw [g4]; exact Zin_n (by omega) (by decide)) ?_
    rw [g4, Zcl_n (show b_z < 2 ^ 31 by omega), show (Zu M 42 b_z (nI 12)) 40 4 = nI b_z from g4, nI_add]
    refine Zs_sub (l' := [(5, .int (nI 12)), (0, .ref 40), (3, .int x_z), (4, .int (nI d_z))]) rfl ?_
    exact L46 _ (((Sc.rf M).u _ rfl).u _ rfl) ⟨g1, g2, g3, b_z + 1, by omega, rfl⟩ rfl

set_option maxRecDepth 20000 in
set_option maxHeartbeats 1000000 in
theorem k_sp1_2 (kd_z : Nat) (k_z m_z x_z : Int32) (d_z fr : Nat) (M : Zmem) (hkd : kd_z ≤ 6) (hv_z : Zvo kd_z k_z m_z M) (hfr : 15 ≤ fr) (hd_z : d_z + 6 ≤ 30) : ZC 192 fr [.ref 40, .int (nI 1), .int (nI 2), .int x_z, .int (nI d_z)] M (Zvq kd_z k_z m_z (Vp kd_z k_z m_z 1 x_z) M) := by
  refine ZC_of Zt192 Zk192 (Nat.le_of_ble_eq_true rfl) (by decide) rfl (fun X hX hE => ?_)
  refine Zgo hX 2 rfl (by (first | exact True.intro | assumption | (dsimp only [ZallP]; and_intros <;> (first | assumption | decide | omega | ((try simp (disch := omega) only [pk_mul, nI_add, Zcl_n]); exact Zin_n (by omega) (by decide)))))) ?_
  refine Zs_calls hX (List.cons_ne_nil _ _) (by decide) (k_bodyOf 1 2 _ (by decide) (by decide)) (by first | decide | omega) rfl rfl (by decide) (Nat.le_of_ble_eq_true rfl) (fun r_z M' hc_z => ?_)
  obtain ⟨rfl, rfl⟩ := hc_z
  rw [show Zbl 2 (Zchn 1) = nI 12 by decide +kernel]
  have L46 : ∀ M1 : Zmem, Sc M M1 → Zvo kd_z k_z m_z M1 → M1 40 5 = M 40 5 → ZP X Zt192 (Zsf Zt192 46) [(5, .int (nI 12)), (0, .ref 40), (3, .int x_z), (4, .int (nI d_z))] [] M1 := by
    intro M1 hsc hv1 hp
    refine Zgo hX 6 rfl (by (first | exact True.intro | assumption | (dsimp only [ZallP]; and_intros <;> (first | assumption | decide | omega | ((try simp (disch := omega) only [pk_mul, nI_add, Zcl_n]); exact Zin_n (by omega) (by decide)))))) ?_
    rw [nI_add]
    refine Zs_callv hX (List.cons_ne_nil _ _) (k_w12 kd_z k_z m_z x_z (d_z + 1) (fr - 1) _ hkd hv1 (by omega) (by omega)) (by first | decide | omega) (by decide) rfl rfl rfl (by decide) (Nat.le_of_ble_eq_true rfl) (fun r_z M' hc_z => ?_)
    obtain ⟨rfl, hs2, hv2, hp2⟩ := hc_z
    refine Zs_ret hX hE rfl ⟨rfl, hsc.tr hs2, hv2, hp2.trans hp⟩
  obtain ⟨g1, g2, g3, b_z, hb_z, g4⟩ := id hv_z
  refine Zgo hX 3 rfl (by (first | exact True.intro | assumption | (dsimp only [ZallP]; and_intros <;> (first | assumption | decide | omega | ((try simp (disch := omega) only [pk_mul, nI_add, Zcl_n]); exact Zin_n (by omega) (by decide)))))) ?_
  refine Zs_ile hX (List.cons_ne_nil _ _) (fun _ => ?_) (fun q_z => False.elim ((q_z ((Zn_le (by omega) (by decide)).mpr (by omega)))))
  refine Zgo hX 3 rfl (by (first | exact True.intro | assumption | (dsimp only [ZallP]; and_intros <;> (first | assumption | decide | omega | ((try simp (disch := omega) only [pk_mul, nI_add, Zcl_n]); exact Zin_n (by omega) (by decide)))))) ?_
  rw [g4]
  refine Zs_ige hX (List.cons_ne_nil _ _) (fun h_z => ?_) (fun h_z => ?_)
  · refine Zs_sub (l' := [(5, .int (nI 12)), (0, .ref 40), (3, .int x_z), (4, .int (nI d_z))]) rfl ?_
    exact L46 M (Sc.rf _) hv_z rfl
  · have hlt : b_z < 30 := (Nat.lt_or_ge b_z 30).elim id (fun q_z => absurd ((Zn_le (by decide) (by omega)).mpr q_z) h_z)
    refine Zgo hX 12 rfl (by show vp_in (M 40 4) 30; rw [g4]; exact Zin_n (by omega) (by decide)) ?_
    rw [g4, Zcl_n (show b_z < 2 ^ 31 by omega), show (Zu M 42 b_z (nI 12)) 40 4 = nI b_z from g4, nI_add]
    refine Zs_sub (l' := [(5, .int (nI 12)), (0, .ref 40), (3, .int x_z), (4, .int (nI d_z))]) rfl ?_
    exact L46 _ (((Sc.rf M).u _ rfl).u _ rfl) ⟨g1, g2, g3, b_z + 1, by omega, rfl⟩ rfl

set_option maxRecDepth 20000 in
set_option maxHeartbeats 1000000 in
theorem k_sp2_2 (kd_z : Nat) (k_z m_z x_z : Int32) (d_z fr : Nat) (M : Zmem) (hkd : kd_z ≤ 6) (hv_z : Zvo kd_z k_z m_z M) (hfr : 15 ≤ fr) (hd_z : d_z + 6 ≤ 30) : ZC 192 fr [.ref 40, .int (nI 2), .int (nI 2), .int x_z, .int (nI d_z)] M (Zvq kd_z k_z m_z (Vp kd_z k_z m_z 2 x_z) M) := by
  refine ZC_of Zt192 Zk192 (Nat.le_of_ble_eq_true rfl) (by decide) rfl (fun X hX hE => ?_)
  refine Zgo hX 2 rfl (by (first | exact True.intro | assumption | (dsimp only [ZallP]; and_intros <;> (first | assumption | decide | omega | ((try simp (disch := omega) only [pk_mul, nI_add, Zcl_n]); exact Zin_n (by omega) (by decide)))))) ?_
  refine Zs_calls hX (List.cons_ne_nil _ _) (by decide) (k_bodyOf 2 2 _ (by decide) (by decide)) (by first | decide | omega) rfl rfl (by decide) (Nat.le_of_ble_eq_true rfl) (fun r_z M' hc_z => ?_)
  obtain ⟨rfl, rfl⟩ := hc_z
  rw [show Zbl 2 (Zchn 2) = nI 12 by decide +kernel]
  have L46 : ∀ M1 : Zmem, Sc M M1 → Zvo kd_z k_z m_z M1 → M1 40 5 = M 40 5 → ZP X Zt192 (Zsf Zt192 46) [(5, .int (nI 12)), (0, .ref 40), (3, .int x_z), (4, .int (nI d_z))] [] M1 := by
    intro M1 hsc hv1 hp
    refine Zgo hX 6 rfl (by (first | exact True.intro | assumption | (dsimp only [ZallP]; and_intros <;> (first | assumption | decide | omega | ((try simp (disch := omega) only [pk_mul, nI_add, Zcl_n]); exact Zin_n (by omega) (by decide)))))) ?_
    rw [nI_add]
    refine Zs_callv hX (List.cons_ne_nil _ _) (k_w12 kd_z k_z m_z x_z (d_z + 1) (fr - 1) _ hkd hv1 (by omega) (by omega)) (by first | decide | omega) (by decide) rfl rfl rfl (by decide) (Nat.le_of_ble_eq_true rfl) (fun r_z M' hc_z => ?_)
    obtain ⟨rfl, hs2, hv2, hp2⟩ := hc_z
    refine Zs_ret hX hE rfl ⟨rfl, hsc.tr hs2, hv2, hp2.trans hp⟩
  obtain ⟨g1, g2, g3, b_z, hb_z, g4⟩ := id hv_z
  refine Zgo hX 3 rfl (by (first | exact True.intro | assumption | (dsimp only [ZallP]; and_intros <;> (first | assumption | decide | omega | ((try simp (disch := omega) only [pk_mul, nI_add, Zcl_n]); exact Zin_n (by omega) (by decide)))))) ?_
  refine Zs_ile hX (List.cons_ne_nil _ _) (fun _ => ?_) (fun q_z => False.elim ((q_z ((Zn_le (by omega) (by decide)).mpr (by omega)))))
  refine Zgo hX 3 rfl (by (first | exact True.intro | assumption | (dsimp only [ZallP]; and_intros <;> (first | assumption | decide | omega | ((try simp (disch := omega) only [pk_mul, nI_add, Zcl_n]); exact Zin_n (by omega) (by decide)))))) ?_
  rw [g4]
  refine Zs_ige hX (List.cons_ne_nil _ _) (fun h_z => ?_) (fun h_z => ?_)
  · refine Zs_sub (l' := [(5, .int (nI 12)), (0, .ref 40), (3, .int x_z), (4, .int (nI d_z))]) rfl ?_
    exact L46 M (Sc.rf _) hv_z rfl
  · have hlt : b_z < 30 := (Nat.lt_or_ge b_z 30).elim id (fun q_z => absurd ((Zn_le (by decide) (by omega)).mpr q_z) h_z)
    refine Zgo hX 12 rfl (by show vp_in (M 40 4) 30; rw [g4]; exact Zin_n (by omega) (by decide)) ?_
    rw [g4, Zcl_n (show b_z < 2 ^ 31 by omega), show (Zu M 42 b_z (nI 12)) 40 4 = nI b_z from g4, nI_add]
    refine Zs_sub (l' := [(5, .int (nI 12)), (0, .ref 40), (3, .int x_z), (4, .int (nI d_z))]) rfl ?_
    exact L46 _ (((Sc.rf M).u _ rfl).u _ rfl) ⟨g1, g2, g3, b_z + 1, by omega, rfl⟩ rfl

set_option maxRecDepth 20000 in
set_option maxHeartbeats 1000000 in
theorem k_sp5_2 (kd_z : Nat) (k_z m_z x_z : Int32) (d_z fr : Nat) (M : Zmem) (hkd : kd_z ≤ 6) (hv_z : Zvo kd_z k_z m_z M) (hfr : 15 ≤ fr) (hd_z : d_z + 6 ≤ 30) : ZC 192 fr [.ref 40, .int (nI 5), .int (nI 2), .int x_z, .int (nI d_z)] M (Zvq kd_z k_z m_z (Vp kd_z k_z m_z 5 x_z) M) := by
  refine ZC_of Zt192 Zk192 (Nat.le_of_ble_eq_true rfl) (by decide) rfl (fun X hX hE => ?_)
  refine Zgo hX 2 rfl (by (first | exact True.intro | assumption | (dsimp only [ZallP]; and_intros <;> (first | assumption | decide | omega | ((try simp (disch := omega) only [pk_mul, nI_add, Zcl_n]); exact Zin_n (by omega) (by decide)))))) ?_
  refine Zs_calls hX (List.cons_ne_nil _ _) (by decide) (k_bodyOf 5 2 _ (by decide) (by decide)) (by first | decide | omega) rfl rfl (by decide) (Nat.le_of_ble_eq_true rfl) (fun r_z M' hc_z => ?_)
  obtain ⟨rfl, rfl⟩ := hc_z
  rw [show Zbl 2 (Zchn 5) = nI 12 by decide +kernel]
  have L46 : ∀ M1 : Zmem, Sc M M1 → Zvo kd_z k_z m_z M1 → M1 40 5 = M 40 5 → ZP X Zt192 (Zsf Zt192 46) [(5, .int (nI 12)), (0, .ref 40), (3, .int x_z), (4, .int (nI d_z))] [] M1 := by
    intro M1 hsc hv1 hp
    refine Zgo hX 6 rfl (by (first | exact True.intro | assumption | (dsimp only [ZallP]; and_intros <;> (first | assumption | decide | omega | ((try simp (disch := omega) only [pk_mul, nI_add, Zcl_n]); exact Zin_n (by omega) (by decide)))))) ?_
    rw [nI_add]
    refine Zs_callv hX (List.cons_ne_nil _ _) (k_w12 kd_z k_z m_z x_z (d_z + 1) (fr - 1) _ hkd hv1 (by omega) (by omega)) (by first | decide | omega) (by decide) rfl rfl rfl (by decide) (Nat.le_of_ble_eq_true rfl) (fun r_z M' hc_z => ?_)
    obtain ⟨rfl, hs2, hv2, hp2⟩ := hc_z
    refine Zs_ret hX hE rfl ⟨rfl, hsc.tr hs2, hv2, hp2.trans hp⟩
  obtain ⟨g1, g2, g3, b_z, hb_z, g4⟩ := id hv_z
  refine Zgo hX 3 rfl (by (first | exact True.intro | assumption | (dsimp only [ZallP]; and_intros <;> (first | assumption | decide | omega | ((try simp (disch := omega) only [pk_mul, nI_add, Zcl_n]); exact Zin_n (by omega) (by decide)))))) ?_
  refine Zs_ile hX (List.cons_ne_nil _ _) (fun _ => ?_) (fun q_z => False.elim ((q_z ((Zn_le (by omega) (by decide)).mpr (by omega)))))
  refine Zgo hX 3 rfl (by (first | exact True.intro | assumption | (dsimp only [ZallP]; and_intros <;> (first | assumption | decide | omega | ((try simp (disch := omega) only [pk_mul, nI_add, Zcl_n]); exact Zin_n (by omega) (by decide)))))) ?_
  rw [g4]
  refine Zs_ige hX (List.cons_ne_nil _ _) (fun h_z => ?_) (fun h_z => ?_)
  · refine Zs_sub (l' := [(5, .int (nI 12)), (0, .ref 40), (3, .int x_z), (4, .int (nI d_z))]) rfl ?_
    exact L46 M (Sc.rf _) hv_z rfl
  · have hlt : b_z < 30 := (Nat.lt_or_ge b_z 30).elim id (fun q_z => absurd ((Zn_le (by decide) (by omega)).mpr q_z) h_z)
    refine Zgo hX 12 rfl (by show vp_in (M 40 4) 30; rw [g4]; exact Zin_n (by omega) (by decide)) ?_
    rw [g4, Zcl_n (show b_z < 2 ^ 31 by omega), show (Zu M 42 b_z (nI 12)) 40 4 = nI b_z from g4, nI_add]
    refine Zs_sub (l' := [(5, .int (nI 12)), (0, .ref 40), (3, .int x_z), (4, .int (nI d_z))]) rfl ?_
    exact L46 _ (((Sc.rf M).u _ rfl).u _ rfl) ⟨g1, g2, g3, b_z + 1, by omega, rfl⟩ rfl

set_option maxRecDepth 20000 in
set_option maxHeartbeats 1000000 in
theorem k_sp6_2 (kd_z : Nat) (k_z m_z x_z : Int32) (d_z fr : Nat) (M : Zmem) (hkd : kd_z ≤ 6) (hv_z : Zvo kd_z k_z m_z M) (hfr : 15 ≤ fr) (hd_z : d_z + 6 ≤ 30) : ZC 192 fr [.ref 40, .int (nI 6), .int (nI 2), .int x_z, .int (nI d_z)] M (Zvq kd_z k_z m_z (Vp kd_z k_z m_z 6 x_z) M) := by
  refine ZC_of Zt192 Zk192 (Nat.le_of_ble_eq_true rfl) (by decide) rfl (fun X hX hE => ?_)
  refine Zgo hX 2 rfl (by (first | exact True.intro | assumption | (dsimp only [ZallP]; and_intros <;> (first | assumption | decide | omega | ((try simp (disch := omega) only [pk_mul, nI_add, Zcl_n]); exact Zin_n (by omega) (by decide)))))) ?_
  refine Zs_calls hX (List.cons_ne_nil _ _) (by decide) (k_bodyOf 6 2 _ (by decide) (by decide)) (by first | decide | omega) rfl rfl (by decide) (Nat.le_of_ble_eq_true rfl) (fun r_z M' hc_z => ?_)
  obtain ⟨rfl, rfl⟩ := hc_z
  rw [show Zbl 2 (Zchn 6) = nI 12 by decide +kernel]
  have L46 : ∀ M1 : Zmem, Sc M M1 → Zvo kd_z k_z m_z M1 → M1 40 5 = M 40 5 → ZP X Zt192 (Zsf Zt192 46) [(5, .int (nI 12)), (0, .ref 40), (3, .int x_z), (4, .int (nI d_z))] [] M1 := by
    intro M1 hsc hv1 hp
    refine Zgo hX 6 rfl (by (first | exact True.intro | assumption | (dsimp only [ZallP]; and_intros <;> (first | assumption | decide | omega | ((try simp (disch := omega) only [pk_mul, nI_add, Zcl_n]); exact Zin_n (by omega) (by decide)))))) ?_
    rw [nI_add]
    refine Zs_callv hX (List.cons_ne_nil _ _) (k_w12 kd_z k_z m_z x_z (d_z + 1) (fr - 1) _ hkd hv1 (by omega) (by omega)) (by first | decide | omega) (by decide) rfl rfl rfl (by decide) (Nat.le_of_ble_eq_true rfl) (fun r_z M' hc_z => ?_)
    obtain ⟨rfl, hs2, hv2, hp2⟩ := hc_z
    refine Zs_ret hX hE rfl ⟨rfl, hsc.tr hs2, hv2, hp2.trans hp⟩
  obtain ⟨g1, g2, g3, b_z, hb_z, g4⟩ := id hv_z
  refine Zgo hX 3 rfl (by (first | exact True.intro | assumption | (dsimp only [ZallP]; and_intros <;> (first | assumption | decide | omega | ((try simp (disch := omega) only [pk_mul, nI_add, Zcl_n]); exact Zin_n (by omega) (by decide)))))) ?_
  refine Zs_ile hX (List.cons_ne_nil _ _) (fun _ => ?_) (fun q_z => False.elim ((q_z ((Zn_le (by omega) (by decide)).mpr (by omega)))))
  refine Zgo hX 3 rfl (by (first | exact True.intro | assumption | (dsimp only [ZallP]; and_intros <;> (first | assumption | decide | omega | ((try simp (disch := omega) only [pk_mul, nI_add, Zcl_n]); exact Zin_n (by omega) (by decide)))))) ?_
  rw [g4]
  refine Zs_ige hX (List.cons_ne_nil _ _) (fun h_z => ?_) (fun h_z => ?_)
  · refine Zs_sub (l' := [(5, .int (nI 12)), (0, .ref 40), (3, .int x_z), (4, .int (nI d_z))]) rfl ?_
    exact L46 M (Sc.rf _) hv_z rfl
  · have hlt : b_z < 30 := (Nat.lt_or_ge b_z 30).elim id (fun q_z => absurd ((Zn_le (by decide) (by omega)).mpr q_z) h_z)
    refine Zgo hX 12 rfl (by show vp_in (M 40 4) 30; rw [g4]; exact Zin_n (by omega) (by decide)) ?_
    rw [g4, Zcl_n (show b_z < 2 ^ 31 by omega), show (Zu M 42 b_z (nI 12)) 40 4 = nI b_z from g4, nI_add]
    refine Zs_sub (l' := [(5, .int (nI 12)), (0, .ref 40), (3, .int x_z), (4, .int (nI d_z))]) rfl ?_
    exact L46 _ (((Sc.rf M).u _ rfl).u _ rfl) ⟨g1, g2, g3, b_z + 1, by omega, rfl⟩ rfl

set_option maxRecDepth 20000 in
set_option maxHeartbeats 1000000 in
theorem k_w40 (kd_z : Nat) (k_z m_z x_z : Int32) (d_z fr : Nat) (M : Zmem) (hkd : kd_z ≤ 6) (hv_z : Zvo kd_z k_z m_z M) (hfr : 16 ≤ fr) (hd_z : d_z + 7 ≤ 31) : ZC 194 fr [.ref 40, .int (nI 40), .int x_z, .int (nI d_z)] M (Zvq kd_z k_z m_z (Vp kd_z k_z m_z 3 x_z) M) := by
  refine ZC_of Zt194 Zk194 (Nat.le_of_ble_eq_true rfl) (by decide) rfl (fun X hX hE => ?_)
  obtain ⟨g1, g2, g3, b_z, hb_z, g4⟩ := id hv_z
  refine Zgo hX 5 rfl (by (first | exact True.intro | assumption | (dsimp only [ZallP]; and_intros <;> (first | assumption | decide | omega | ((try simp (disch := omega) only [pk_mul, nI_add, Zcl_n]); exact Zin_n (by omega) (by decide)))))) ?_
  rw [show nI 40 / nI 10 - nI 1 = nI 3 by decide +kernel]
  refine Zs_calls hX (List.cons_ne_nil _ _) (by decide) (k_above _ _) (by first | decide | omega) rfl rfl (by decide) (Nat.le_of_ble_eq_true rfl) (fun r_z M' hc_z => ?_)
  obtain ⟨⟨y_z, rfl, hy⟩, rfl⟩ := hc_z
  rw [Zab_of (kd_z := 3) (by decide) hy]
  refine Zgo hX 2 rfl (by (first | exact True.intro | assumption | (dsimp only [ZallP]; and_intros <;> (first | assumption | decide | omega | ((try simp (disch := omega) only [pk_mul, nI_add, Zcl_n]); exact Zin_n (by omega) (by decide)))))) ?_
  refine Zs_sw [(nI 10, 128), (nI 11, 135), (nI 12, 149), (nI 13, 166), (nI 20, 181), (nI 21, 193), (nI 30, 215), (nI 40, 227), (nI 50, 239), (nI 51, 251), (nI 60, 266), (nI 70, 278), (nI 71, 281)] 296 hX (by decide +kernel) (by decide +kernel) (t := 227) ((by decide +kernel)) ?_
  refine Zgo hX 7 rfl (show ¬ nI 2 = nI 0 by decide) ?_
  rw [show Zabv 3 = nI 0 by decide +kernel]
  refine Zs_callv hX (List.cons_ne_nil _ _) (k_sp0_2 kd_z k_z m_z (x_z / nI 2) d_z (fr - 1) _ hkd hv_z (by omega) (by omega)) (by first | decide | omega) (by decide) rfl rfl rfl (by decide) (Nat.le_of_ble_eq_true rfl) (fun r_z M' hc_z => ?_)
  obtain ⟨rfl, hs2, hv2, hp2⟩ := hc_z
  refine Zs_ret hX hE rfl ⟨rfl, hs2, hv2, hp2⟩

set_option maxRecDepth 20000 in
set_option maxHeartbeats 1000000 in
theorem k_sp3_2 (kd_z : Nat) (k_z m_z x_z : Int32) (d_z fr : Nat) (M : Zmem) (hkd : kd_z ≤ 6) (hv_z : Zvo kd_z k_z m_z M) (hfr : 17 ≤ fr) (hd_z : d_z + 7 ≤ 30) : ZC 192 fr [.ref 40, .int (nI 3), .int (nI 2), .int x_z, .int (nI d_z)] M (Zvq kd_z k_z m_z (Vp kd_z k_z m_z 3 x_z) M) := by
  refine ZC_of Zt192 Zk192 (Nat.le_of_ble_eq_true rfl) (by decide) rfl (fun X hX hE => ?_)
  refine Zgo hX 2 rfl (by (first | exact True.intro | assumption | (dsimp only [ZallP]; and_intros <;> (first | assumption | decide | omega | ((try simp (disch := omega) only [pk_mul, nI_add, Zcl_n]); exact Zin_n (by omega) (by decide)))))) ?_
  refine Zs_calls hX (List.cons_ne_nil _ _) (by decide) (k_bodyOf 3 2 _ (by decide) (by decide)) (by first | decide | omega) rfl rfl (by decide) (Nat.le_of_ble_eq_true rfl) (fun r_z M' hc_z => ?_)
  obtain ⟨rfl, rfl⟩ := hc_z
  rw [show Zbl 2 (Zchn 3) = nI 40 by decide +kernel]
  have L46 : ∀ M1 : Zmem, Sc M M1 → Zvo kd_z k_z m_z M1 → M1 40 5 = M 40 5 → ZP X Zt192 (Zsf Zt192 46) [(5, .int (nI 40)), (0, .ref 40), (3, .int x_z), (4, .int (nI d_z))] [] M1 := by
    intro M1 hsc hv1 hp
    refine Zgo hX 6 rfl (by (first | exact True.intro | assumption | (dsimp only [ZallP]; and_intros <;> (first | assumption | decide | omega | ((try simp (disch := omega) only [pk_mul, nI_add, Zcl_n]); exact Zin_n (by omega) (by decide)))))) ?_
    rw [nI_add]
    refine Zs_callv hX (List.cons_ne_nil _ _) (k_w40 kd_z k_z m_z x_z (d_z + 1) (fr - 1) _ hkd hv1 (by omega) (by omega)) (by first | decide | omega) (by decide) rfl rfl rfl (by decide) (Nat.le_of_ble_eq_true rfl) (fun r_z M' hc_z => ?_)
    obtain ⟨rfl, hs2, hv2, hp2⟩ := hc_z
    refine Zs_ret hX hE rfl ⟨rfl, hsc.tr hs2, hv2, hp2.trans hp⟩
  obtain ⟨g1, g2, g3, b_z, hb_z, g4⟩ := id hv_z
  refine Zgo hX 3 rfl (by (first | exact True.intro | assumption | (dsimp only [ZallP]; and_intros <;> (first | assumption | decide | omega | ((try simp (disch := omega) only [pk_mul, nI_add, Zcl_n]); exact Zin_n (by omega) (by decide)))))) ?_
  refine Zs_ile hX (List.cons_ne_nil _ _) (fun _ => ?_) (fun q_z => False.elim ((q_z ((Zn_le (by omega) (by decide)).mpr (by omega)))))
  refine Zgo hX 3 rfl (by (first | exact True.intro | assumption | (dsimp only [ZallP]; and_intros <;> (first | assumption | decide | omega | ((try simp (disch := omega) only [pk_mul, nI_add, Zcl_n]); exact Zin_n (by omega) (by decide)))))) ?_
  rw [g4]
  refine Zs_ige hX (List.cons_ne_nil _ _) (fun h_z => ?_) (fun h_z => ?_)
  · refine Zs_sub (l' := [(5, .int (nI 40)), (0, .ref 40), (3, .int x_z), (4, .int (nI d_z))]) rfl ?_
    exact L46 M (Sc.rf _) hv_z rfl
  · have hlt : b_z < 30 := (Nat.lt_or_ge b_z 30).elim id (fun q_z => absurd ((Zn_le (by decide) (by omega)).mpr q_z) h_z)
    refine Zgo hX 12 rfl (by show vp_in (M 40 4) 30; rw [g4]; exact Zin_n (by omega) (by decide)) ?_
    rw [g4, Zcl_n (show b_z < 2 ^ 31 by omega), show (Zu M 42 b_z (nI 40)) 40 4 = nI b_z from g4, nI_add]
    refine Zs_sub (l' := [(5, .int (nI 40)), (0, .ref 40), (3, .int x_z), (4, .int (nI d_z))]) rfl ?_
    exact L46 _ (((Sc.rf M).u _ rfl).u _ rfl) ⟨g1, g2, g3, b_z + 1, by omega, rfl⟩ rfl

set_option maxRecDepth 20000 in
set_option maxHeartbeats 1000000 in
theorem k_w51 (kd_z : Nat) (k_z m_z x_z : Int32) (d_z fr : Nat) (M : Zmem) (hkd : kd_z ≤ 6) (hv_z : Zvo kd_z k_z m_z M) (hfr : 16 ≤ fr) (hd_z : d_z + 7 ≤ 31) : ZC 194 fr [.ref 40, .int (nI 51), .int x_z, .int (nI d_z)] M (Zvq kd_z k_z m_z (Vp kd_z k_z m_z 4 x_z) M) := by
  refine ZC_of Zt194 Zk194 (Nat.le_of_ble_eq_true rfl) (by decide) rfl (fun X hX hE => ?_)
  obtain ⟨g1, g2, g3, b_z, hb_z, g4⟩ := id hv_z
  refine Zgo hX 5 rfl (by (first | exact True.intro | assumption | (dsimp only [ZallP]; and_intros <;> (first | assumption | decide | omega | ((try simp (disch := omega) only [pk_mul, nI_add, Zcl_n]); exact Zin_n (by omega) (by decide)))))) ?_
  rw [show nI 51 / nI 10 - nI 1 = nI 4 by decide +kernel]
  refine Zs_calls hX (List.cons_ne_nil _ _) (by decide) (k_above _ _) (by first | decide | omega) rfl rfl (by decide) (Nat.le_of_ble_eq_true rfl) (fun r_z M' hc_z => ?_)
  obtain ⟨⟨y_z, rfl, hy⟩, rfl⟩ := hc_z
  rw [Zab_of (kd_z := 4) (by decide) hy]
  refine Zgo hX 2 rfl (by (first | exact True.intro | assumption | (dsimp only [ZallP]; and_intros <;> (first | assumption | decide | omega | ((try simp (disch := omega) only [pk_mul, nI_add, Zcl_n]); exact Zin_n (by omega) (by decide)))))) ?_
  refine Zs_sw [(nI 10, 128), (nI 11, 135), (nI 12, 149), (nI 13, 166), (nI 20, 181), (nI 21, 193), (nI 30, 215), (nI 40, 227), (nI 50, 239), (nI 51, 251), (nI 60, 266), (nI 70, 278), (nI 71, 281)] 296 hX (by decide +kernel) (by decide +kernel) (t := 251) ((by decide +kernel)) ?_
  refine Zgo hX 5 rfl (by (first | exact True.intro | assumption | (dsimp only [ZallP]; and_intros <;> (first | assumption | decide | omega | ((try simp (disch := omega) only [pk_mul, nI_add, Zcl_n]); exact Zin_n (by omega) (by decide)))))) ?_
  rw [show Zabv 4 = nI 1 by decide +kernel]
  refine Zs_callv hX (List.cons_ne_nil _ _) (k_sp1_2 kd_z k_z m_z x_z d_z (fr - 1) _ hkd hv_z (by omega) (by omega)) (by first | decide | omega) (by decide) rfl rfl rfl (by decide) (Nat.le_of_ble_eq_true rfl) (fun r_z M' hc_z => ?_)
  obtain ⟨rfl, hs2, hv2, hp2⟩ := hc_z
  refine Zgo hX 3 rfl (by (first | exact True.intro | assumption | (dsimp only [ZallP]; and_intros <;> (first | assumption | decide | omega | ((try simp (disch := omega) only [pk_mul, nI_add, Zcl_n]); exact Zin_n (by omega) (by decide)))))) ?_
  rw [hv2.2.1]
  refine Zs_ret hX hE rfl ⟨rfl, hs2, hv2, hp2⟩

set_option maxRecDepth 20000 in
set_option maxHeartbeats 1000000 in
theorem k_sp4_2 (kd_z : Nat) (k_z m_z x_z : Int32) (d_z fr : Nat) (M : Zmem) (hkd : kd_z ≤ 6) (hv_z : Zvo kd_z k_z m_z M) (hfr : 17 ≤ fr) (hd_z : d_z + 7 ≤ 30) : ZC 192 fr [.ref 40, .int (nI 4), .int (nI 2), .int x_z, .int (nI d_z)] M (Zvq kd_z k_z m_z (Vp kd_z k_z m_z 4 x_z) M) := by
  refine ZC_of Zt192 Zk192 (Nat.le_of_ble_eq_true rfl) (by decide) rfl (fun X hX hE => ?_)
  refine Zgo hX 2 rfl (by (first | exact True.intro | assumption | (dsimp only [ZallP]; and_intros <;> (first | assumption | decide | omega | ((try simp (disch := omega) only [pk_mul, nI_add, Zcl_n]); exact Zin_n (by omega) (by decide)))))) ?_
  refine Zs_calls hX (List.cons_ne_nil _ _) (by decide) (k_bodyOf 4 2 _ (by decide) (by decide)) (by first | decide | omega) rfl rfl (by decide) (Nat.le_of_ble_eq_true rfl) (fun r_z M' hc_z => ?_)
  obtain ⟨rfl, rfl⟩ := hc_z
  rw [show Zbl 2 (Zchn 4) = nI 51 by decide +kernel]
  have L46 : ∀ M1 : Zmem, Sc M M1 → Zvo kd_z k_z m_z M1 → M1 40 5 = M 40 5 → ZP X Zt192 (Zsf Zt192 46) [(5, .int (nI 51)), (0, .ref 40), (3, .int x_z), (4, .int (nI d_z))] [] M1 := by
    intro M1 hsc hv1 hp
    refine Zgo hX 6 rfl (by (first | exact True.intro | assumption | (dsimp only [ZallP]; and_intros <;> (first | assumption | decide | omega | ((try simp (disch := omega) only [pk_mul, nI_add, Zcl_n]); exact Zin_n (by omega) (by decide)))))) ?_
    rw [nI_add]
    refine Zs_callv hX (List.cons_ne_nil _ _) (k_w51 kd_z k_z m_z x_z (d_z + 1) (fr - 1) _ hkd hv1 (by omega) (by omega)) (by first | decide | omega) (by decide) rfl rfl rfl (by decide) (Nat.le_of_ble_eq_true rfl) (fun r_z M' hc_z => ?_)
    obtain ⟨rfl, hs2, hv2, hp2⟩ := hc_z
    refine Zs_ret hX hE rfl ⟨rfl, hsc.tr hs2, hv2, hp2.trans hp⟩
  obtain ⟨g1, g2, g3, b_z, hb_z, g4⟩ := id hv_z
  refine Zgo hX 3 rfl (by (first | exact True.intro | assumption | (dsimp only [ZallP]; and_intros <;> (first | assumption | decide | omega | ((try simp (disch := omega) only [pk_mul, nI_add, Zcl_n]); exact Zin_n (by omega) (by decide)))))) ?_
  refine Zs_ile hX (List.cons_ne_nil _ _) (fun _ => ?_) (fun q_z => False.elim ((q_z ((Zn_le (by omega) (by decide)).mpr (by omega)))))
  refine Zgo hX 3 rfl (by (first | exact True.intro | assumption | (dsimp only [ZallP]; and_intros <;> (first | assumption | decide | omega | ((try simp (disch := omega) only [pk_mul, nI_add, Zcl_n]); exact Zin_n (by omega) (by decide)))))) ?_
  rw [g4]
  refine Zs_ige hX (List.cons_ne_nil _ _) (fun h_z => ?_) (fun h_z => ?_)
  · refine Zs_sub (l' := [(5, .int (nI 51)), (0, .ref 40), (3, .int x_z), (4, .int (nI d_z))]) rfl ?_
    exact L46 M (Sc.rf _) hv_z rfl
  · have hlt : b_z < 30 := (Nat.lt_or_ge b_z 30).elim id (fun q_z => absurd ((Zn_le (by decide) (by omega)).mpr q_z) h_z)
    refine Zgo hX 12 rfl (by show vp_in (M 40 4) 30; rw [g4]; exact Zin_n (by omega) (by decide)) ?_
    rw [g4, Zcl_n (show b_z < 2 ^ 31 by omega), show (Zu M 42 b_z (nI 51)) 40 4 = nI b_z from g4, nI_add]
    refine Zs_sub (l' := [(5, .int (nI 51)), (0, .ref 40), (3, .int x_z), (4, .int (nI d_z))]) rfl ?_
    exact L46 _ (((Sc.rf M).u _ rfl).u _ rfl) ⟨g1, g2, g3, b_z + 1, by omega, rfl⟩ rfl


theorem k_spa2 (kd_z : Nat) (k_z m_z x_z : Int32) (d_z fr : Nat) (M : Zmem) (hkd : kd_z ≤ 6) (hv_z : Zvo kd_z k_z m_z M) (hfr : 17 ≤ fr) (hd_z : d_z + 7 ≤ 30) : ZC 192 fr [.ref 40, .int (nI kd_z), .int (nI 2), .int x_z, .int (nI d_z)] M (Zvq kd_z k_z m_z (Vp kd_z k_z m_z kd_z x_z) M) := by
  rcases Zseven hkd with rfl | rfl | rfl | rfl | rfl | rfl | rfl
  · exact k_sp0_2 0 k_z m_z x_z d_z fr M hkd hv_z (by omega) (by omega)
  · exact k_sp1_2 1 k_z m_z x_z d_z fr M hkd hv_z (by omega) (by omega)
  · exact k_sp2_2 2 k_z m_z x_z d_z fr M hkd hv_z (by omega) (by omega)
  · exact k_sp3_2 3 k_z m_z x_z d_z fr M hkd hv_z (by omega) (by omega)
  · exact k_sp4_2 4 k_z m_z x_z d_z fr M hkd hv_z (by omega) (by omega)
  · exact k_sp5_2 5 k_z m_z x_z d_z fr M hkd hv_z (by omega) (by omega)
  · exact k_sp6_2 6 k_z m_z x_z d_z fr M hkd hv_z (by omega) (by omega)

set_option maxRecDepth 20000 in
set_option maxHeartbeats 1000000 in
theorem k_partedBy (kd_z : Nat) (k_z m_z x_z : Int32) (M : Zmem) (hv_z : Zvo kd_z k_z m_z M) : ZC 195 0 [.ref 40, .int x_z, .int (m_z - k_z)] M (Zvq3 kd_z k_z m_z (x_z / (m_z - k_z)) M) := by
  refine ZC_of Zt195 Zk195 (Nat.le_of_ble_eq_true rfl) (by decide) rfl (fun X hX hE => ?_)
  refine Zgo hX 1 rfl (by (first | exact True.intro | assumption | (dsimp only [ZallP]; and_intros <;> (first | assumption | decide | omega | ((try simp (disch := omega) only [pk_mul, nI_add, Zcl_n]); exact Zin_n (by omega) (by decide)))))) ?_
  refine Zs_ne hX (List.cons_ne_nil _ _) (fun h_z => ?_) (fun h_z => ?_)
  · refine Zgo hX 3 rfl h_z ?_
    refine Zs_ret hX hE rfl ⟨Sc.rf _, hv_z, Or.inr ⟨h_z, rfl, rfl⟩⟩
  · refine Zgo hX 4 rfl (Or.inr rfl) ?_
    refine Zs_ret hX hE rfl ⟨(Sc.rf M).u _ rfl, hv_z, Or.inl ⟨h_z, rfl, _, rfl⟩⟩

set_option maxRecDepth 20000 in
set_option maxHeartbeats 1000000 in
theorem k_w13 (kd_z : Nat) (k_z m_z x_z : Int32) (d_z fr : Nat) (M : Zmem) (hkd : kd_z ≤ 6) (hv_z : Zvo kd_z k_z m_z M) (hfr : 2 ≤ fr) (hd_z : d_z + 0 ≤ 31) : ZC 194 fr [.ref 40, .int (nI 13), .int x_z, .int (nI d_z)] M (Zvq3 kd_z k_z m_z (Vd kd_z k_z m_z 0 x_z) M) := by
  refine ZC_of Zt194 Zk194 (Nat.le_of_ble_eq_true rfl) (by decide) rfl (fun X hX hE => ?_)
  obtain ⟨g1, g2, g3, b_z, hb_z, g4⟩ := id hv_z
  refine Zgo hX 5 rfl (by (first | exact True.intro | assumption | (dsimp only [ZallP]; and_intros <;> (first | assumption | decide | omega | ((try simp (disch := omega) only [pk_mul, nI_add, Zcl_n]); exact Zin_n (by omega) (by decide)))))) ?_
  rw [show nI 13 / nI 10 - nI 1 = nI 0 by decide +kernel]
  refine Zs_calls hX (List.cons_ne_nil _ _) (by decide) (k_above _ _) (by first | decide | omega) rfl rfl (by decide) (Nat.le_of_ble_eq_true rfl) (fun r_z M' hc_z => ?_)
  obtain ⟨⟨y_z, rfl, hy⟩, rfl⟩ := hc_z
  rw [Zab_of (kd_z := 0) (by decide) hy]
  refine Zgo hX 2 rfl (by (first | exact True.intro | assumption | (dsimp only [ZallP]; and_intros <;> (first | assumption | decide | omega | ((try simp (disch := omega) only [pk_mul, nI_add, Zcl_n]); exact Zin_n (by omega) (by decide)))))) ?_
  refine Zs_sw [(nI 10, 128), (nI 11, 135), (nI 12, 149), (nI 13, 166), (nI 20, 181), (nI 21, 193), (nI 30, 215), (nI 40, 227), (nI 50, 239), (nI 51, 251), (nI 60, 266), (nI 70, 278), (nI 71, 281)] 296 hX (by decide +kernel) (by decide +kernel) (t := 166) ((by decide +kernel)) ?_
  refine Zgo hX 7 rfl (by (first | exact True.intro | assumption | (dsimp only [ZallP]; and_intros <;> (first | assumption | decide | omega | ((try simp (disch := omega) only [pk_mul, nI_add, Zcl_n]); exact Zin_n (by omega) (by decide)))))) ?_
  rw [g2, g3]
  refine Zs_callv hX (List.cons_ne_nil _ _) (k_partedBy kd_z k_z m_z x_z _ hv_z) (by first | decide | omega) (by decide) rfl rfl rfl (by decide) (Nat.le_of_ble_eq_true rfl) (fun r_z M' hc_z => ?_)
  obtain ⟨hs2, hv2, hor⟩ := hc_z
  rcases hor with ⟨h1_z, h2_z, y_z, rfl⟩ | ⟨h1_z, h2_z, rfl⟩
  · refine Zs_ret hX hE rfl ⟨hs2, hv2, Or.inl ⟨h1_z, h2_z, _, rfl⟩⟩
  · refine Zs_ret hX hE rfl ⟨hs2, hv2, Or.inr ⟨h1_z, h2_z, rfl⟩⟩

set_option maxRecDepth 20000 in
set_option maxHeartbeats 1000000 in
theorem k_sp0_3 (kd_z : Nat) (k_z m_z x_z : Int32) (d_z fr : Nat) (M : Zmem) (hkd : kd_z ≤ 6) (hv_z : Zvo kd_z k_z m_z M) (hfr : 3 ≤ fr) (hd_z : d_z + 0 ≤ 30) : ZC 192 fr [.ref 40, .int (nI 0), .int (nI 3), .int x_z, .int (nI d_z)] M (Zvq3 kd_z k_z m_z (Vd kd_z k_z m_z 0 x_z) M) := by
  refine ZC_of Zt192 Zk192 (Nat.le_of_ble_eq_true rfl) (by decide) rfl (fun X hX hE => ?_)
  refine Zgo hX 2 rfl (by (first | exact True.intro | assumption | (dsimp only [ZallP]; and_intros <;> (first | assumption | decide | omega | ((try simp (disch := omega) only [pk_mul, nI_add, Zcl_n]); exact Zin_n (by omega) (by decide)))))) ?_
  refine Zs_calls hX (List.cons_ne_nil _ _) (by decide) (k_bodyOf 0 3 _ (by decide) (by decide)) (by first | decide | omega) rfl rfl (by decide) (Nat.le_of_ble_eq_true rfl) (fun r_z M' hc_z => ?_)
  obtain ⟨rfl, rfl⟩ := hc_z
  rw [show Zbl 3 (Zchn 0) = nI 13 by decide +kernel]
  have L46 : ∀ M1 : Zmem, Sc M M1 → Zvo kd_z k_z m_z M1 → M1 40 5 = M 40 5 → ZP X Zt192 (Zsf Zt192 46) [(5, .int (nI 13)), (0, .ref 40), (3, .int x_z), (4, .int (nI d_z))] [] M1 := by
    intro M1 hsc hv1 hp
    refine Zgo hX 6 rfl (by (first | exact True.intro | assumption | (dsimp only [ZallP]; and_intros <;> (first | assumption | decide | omega | ((try simp (disch := omega) only [pk_mul, nI_add, Zcl_n]); exact Zin_n (by omega) (by decide)))))) ?_
    rw [nI_add]
    refine Zs_callv hX (List.cons_ne_nil _ _) (k_w13 kd_z k_z m_z x_z (d_z + 1) (fr - 1) _ hkd hv1 (by omega) (by omega)) (by first | decide | omega) (by decide) rfl rfl rfl (by decide) (Nat.le_of_ble_eq_true rfl) (fun r_z M' hc_z => ?_)
    obtain ⟨hs2, hv2, hor⟩ := hc_z
    rcases hor with ⟨h1_z, h2_z, y_z, rfl⟩ | ⟨h1_z, h2_z, rfl⟩
    · refine Zs_ret hX hE rfl ⟨hsc.tr hs2, hv2, Or.inl ⟨h1_z, h2_z, _, rfl⟩⟩
    · refine Zs_ret hX hE rfl ⟨hsc.tr hs2, hv2, Or.inr ⟨h1_z, h2_z.trans hp, rfl⟩⟩
  obtain ⟨g1, g2, g3, b_z, hb_z, g4⟩ := id hv_z
  refine Zgo hX 3 rfl (by (first | exact True.intro | assumption | (dsimp only [ZallP]; and_intros <;> (first | assumption | decide | omega | ((try simp (disch := omega) only [pk_mul, nI_add, Zcl_n]); exact Zin_n (by omega) (by decide)))))) ?_
  refine Zs_ile hX (List.cons_ne_nil _ _) (fun _ => ?_) (fun q_z => False.elim ((q_z ((Zn_le (by omega) (by decide)).mpr (by omega)))))
  refine Zgo hX 3 rfl (by (first | exact True.intro | assumption | (dsimp only [ZallP]; and_intros <;> (first | assumption | decide | omega | ((try simp (disch := omega) only [pk_mul, nI_add, Zcl_n]); exact Zin_n (by omega) (by decide)))))) ?_
  rw [g4]
  refine Zs_ige hX (List.cons_ne_nil _ _) (fun h_z => ?_) (fun h_z => ?_)
  · refine Zs_sub (l' := [(5, .int (nI 13)), (0, .ref 40), (3, .int x_z), (4, .int (nI d_z))]) rfl ?_
    exact L46 M (Sc.rf _) hv_z rfl
  · have hlt : b_z < 30 := (Nat.lt_or_ge b_z 30).elim id (fun q_z => absurd ((Zn_le (by decide) (by omega)).mpr q_z) h_z)
    refine Zgo hX 12 rfl (by show vp_in (M 40 4) 30; rw [g4]; exact Zin_n (by omega) (by decide)) ?_
    rw [g4, Zcl_n (show b_z < 2 ^ 31 by omega), show (Zu M 42 b_z (nI 13)) 40 4 = nI b_z from g4, nI_add]
    refine Zs_sub (l' := [(5, .int (nI 13)), (0, .ref 40), (3, .int x_z), (4, .int (nI d_z))]) rfl ?_
    exact L46 _ (((Sc.rf M).u _ rfl).u _ rfl) ⟨g1, g2, g3, b_z + 1, by omega, rfl⟩ rfl

set_option maxRecDepth 20000 in
set_option maxHeartbeats 1000000 in
theorem k_sp2_3 (kd_z : Nat) (k_z m_z x_z : Int32) (d_z fr : Nat) (M : Zmem) (hkd : kd_z ≤ 6) (hv_z : Zvo kd_z k_z m_z M) (hfr : 3 ≤ fr) (hd_z : d_z + 0 ≤ 30) : ZC 192 fr [.ref 40, .int (nI 2), .int (nI 3), .int x_z, .int (nI d_z)] M (Zvq3 kd_z k_z m_z (Vd kd_z k_z m_z 2 x_z) M) := by
  refine ZC_of Zt192 Zk192 (Nat.le_of_ble_eq_true rfl) (by decide) rfl (fun X hX hE => ?_)
  refine Zgo hX 2 rfl (by (first | exact True.intro | assumption | (dsimp only [ZallP]; and_intros <;> (first | assumption | decide | omega | ((try simp (disch := omega) only [pk_mul, nI_add, Zcl_n]); exact Zin_n (by omega) (by decide)))))) ?_
  refine Zs_calls hX (List.cons_ne_nil _ _) (by decide) (k_bodyOf 2 3 _ (by decide) (by decide)) (by first | decide | omega) rfl rfl (by decide) (Nat.le_of_ble_eq_true rfl) (fun r_z M' hc_z => ?_)
  obtain ⟨rfl, rfl⟩ := hc_z
  rw [show Zbl 3 (Zchn 2) = nI 13 by decide +kernel]
  have L46 : ∀ M1 : Zmem, Sc M M1 → Zvo kd_z k_z m_z M1 → M1 40 5 = M 40 5 → ZP X Zt192 (Zsf Zt192 46) [(5, .int (nI 13)), (0, .ref 40), (3, .int x_z), (4, .int (nI d_z))] [] M1 := by
    intro M1 hsc hv1 hp
    refine Zgo hX 6 rfl (by (first | exact True.intro | assumption | (dsimp only [ZallP]; and_intros <;> (first | assumption | decide | omega | ((try simp (disch := omega) only [pk_mul, nI_add, Zcl_n]); exact Zin_n (by omega) (by decide)))))) ?_
    rw [nI_add]
    refine Zs_callv hX (List.cons_ne_nil _ _) (k_w13 kd_z k_z m_z x_z (d_z + 1) (fr - 1) _ hkd hv1 (by omega) (by omega)) (by first | decide | omega) (by decide) rfl rfl rfl (by decide) (Nat.le_of_ble_eq_true rfl) (fun r_z M' hc_z => ?_)
    obtain ⟨hs2, hv2, hor⟩ := hc_z
    rcases hor with ⟨h1_z, h2_z, y_z, rfl⟩ | ⟨h1_z, h2_z, rfl⟩
    · refine Zs_ret hX hE rfl ⟨hsc.tr hs2, hv2, Or.inl ⟨h1_z, h2_z, _, rfl⟩⟩
    · refine Zs_ret hX hE rfl ⟨hsc.tr hs2, hv2, Or.inr ⟨h1_z, h2_z.trans hp, rfl⟩⟩
  obtain ⟨g1, g2, g3, b_z, hb_z, g4⟩ := id hv_z
  refine Zgo hX 3 rfl (by (first | exact True.intro | assumption | (dsimp only [ZallP]; and_intros <;> (first | assumption | decide | omega | ((try simp (disch := omega) only [pk_mul, nI_add, Zcl_n]); exact Zin_n (by omega) (by decide)))))) ?_
  refine Zs_ile hX (List.cons_ne_nil _ _) (fun _ => ?_) (fun q_z => False.elim ((q_z ((Zn_le (by omega) (by decide)).mpr (by omega)))))
  refine Zgo hX 3 rfl (by (first | exact True.intro | assumption | (dsimp only [ZallP]; and_intros <;> (first | assumption | decide | omega | ((try simp (disch := omega) only [pk_mul, nI_add, Zcl_n]); exact Zin_n (by omega) (by decide)))))) ?_
  rw [g4]
  refine Zs_ige hX (List.cons_ne_nil _ _) (fun h_z => ?_) (fun h_z => ?_)
  · refine Zs_sub (l' := [(5, .int (nI 13)), (0, .ref 40), (3, .int x_z), (4, .int (nI d_z))]) rfl ?_
    exact L46 M (Sc.rf _) hv_z rfl
  · have hlt : b_z < 30 := (Nat.lt_or_ge b_z 30).elim id (fun q_z => absurd ((Zn_le (by decide) (by omega)).mpr q_z) h_z)
    refine Zgo hX 12 rfl (by show vp_in (M 40 4) 30; rw [g4]; exact Zin_n (by omega) (by decide)) ?_
    rw [g4, Zcl_n (show b_z < 2 ^ 31 by omega), show (Zu M 42 b_z (nI 13)) 40 4 = nI b_z from g4, nI_add]
    refine Zs_sub (l' := [(5, .int (nI 13)), (0, .ref 40), (3, .int x_z), (4, .int (nI d_z))]) rfl ?_
    exact L46 _ (((Sc.rf M).u _ rfl).u _ rfl) ⟨g1, g2, g3, b_z + 1, by omega, rfl⟩ rfl

set_option maxRecDepth 20000 in
set_option maxHeartbeats 1000000 in
theorem k_sp3_3 (kd_z : Nat) (k_z m_z x_z : Int32) (d_z fr : Nat) (M : Zmem) (hkd : kd_z ≤ 6) (hv_z : Zvo kd_z k_z m_z M) (hfr : 3 ≤ fr) (hd_z : d_z + 0 ≤ 30) : ZC 192 fr [.ref 40, .int (nI 3), .int (nI 3), .int x_z, .int (nI d_z)] M (Zvq3 kd_z k_z m_z (Vd kd_z k_z m_z 3 x_z) M) := by
  refine ZC_of Zt192 Zk192 (Nat.le_of_ble_eq_true rfl) (by decide) rfl (fun X hX hE => ?_)
  refine Zgo hX 2 rfl (by (first | exact True.intro | assumption | (dsimp only [ZallP]; and_intros <;> (first | assumption | decide | omega | ((try simp (disch := omega) only [pk_mul, nI_add, Zcl_n]); exact Zin_n (by omega) (by decide)))))) ?_
  refine Zs_calls hX (List.cons_ne_nil _ _) (by decide) (k_bodyOf 3 3 _ (by decide) (by decide)) (by first | decide | omega) rfl rfl (by decide) (Nat.le_of_ble_eq_true rfl) (fun r_z M' hc_z => ?_)
  obtain ⟨rfl, rfl⟩ := hc_z
  rw [show Zbl 3 (Zchn 3) = nI 13 by decide +kernel]
  have L46 : ∀ M1 : Zmem, Sc M M1 → Zvo kd_z k_z m_z M1 → M1 40 5 = M 40 5 → ZP X Zt192 (Zsf Zt192 46) [(5, .int (nI 13)), (0, .ref 40), (3, .int x_z), (4, .int (nI d_z))] [] M1 := by
    intro M1 hsc hv1 hp
    refine Zgo hX 6 rfl (by (first | exact True.intro | assumption | (dsimp only [ZallP]; and_intros <;> (first | assumption | decide | omega | ((try simp (disch := omega) only [pk_mul, nI_add, Zcl_n]); exact Zin_n (by omega) (by decide)))))) ?_
    rw [nI_add]
    refine Zs_callv hX (List.cons_ne_nil _ _) (k_w13 kd_z k_z m_z x_z (d_z + 1) (fr - 1) _ hkd hv1 (by omega) (by omega)) (by first | decide | omega) (by decide) rfl rfl rfl (by decide) (Nat.le_of_ble_eq_true rfl) (fun r_z M' hc_z => ?_)
    obtain ⟨hs2, hv2, hor⟩ := hc_z
    rcases hor with ⟨h1_z, h2_z, y_z, rfl⟩ | ⟨h1_z, h2_z, rfl⟩
    · refine Zs_ret hX hE rfl ⟨hsc.tr hs2, hv2, Or.inl ⟨h1_z, h2_z, _, rfl⟩⟩
    · refine Zs_ret hX hE rfl ⟨hsc.tr hs2, hv2, Or.inr ⟨h1_z, h2_z.trans hp, rfl⟩⟩
  obtain ⟨g1, g2, g3, b_z, hb_z, g4⟩ := id hv_z
  refine Zgo hX 3 rfl (by (first | exact True.intro | assumption | (dsimp only [ZallP]; and_intros <;> (first | assumption | decide | omega | ((try simp (disch := omega) only [pk_mul, nI_add, Zcl_n]); exact Zin_n (by omega) (by decide)))))) ?_
  refine Zs_ile hX (List.cons_ne_nil _ _) (fun _ => ?_) (fun q_z => False.elim ((q_z ((Zn_le (by omega) (by decide)).mpr (by omega)))))
  refine Zgo hX 3 rfl (by (first | exact True.intro | assumption | (dsimp only [ZallP]; and_intros <;> (first | assumption | decide | omega | ((try simp (disch := omega) only [pk_mul, nI_add, Zcl_n]); exact Zin_n (by omega) (by decide)))))) ?_
  rw [g4]
  refine Zs_ige hX (List.cons_ne_nil _ _) (fun h_z => ?_) (fun h_z => ?_)
  · refine Zs_sub (l' := [(5, .int (nI 13)), (0, .ref 40), (3, .int x_z), (4, .int (nI d_z))]) rfl ?_
    exact L46 M (Sc.rf _) hv_z rfl
  · have hlt : b_z < 30 := (Nat.lt_or_ge b_z 30).elim id (fun q_z => absurd ((Zn_le (by decide) (by omega)).mpr q_z) h_z)
    refine Zgo hX 12 rfl (by show vp_in (M 40 4) 30; rw [g4]; exact Zin_n (by omega) (by decide)) ?_
    rw [g4, Zcl_n (show b_z < 2 ^ 31 by omega), show (Zu M 42 b_z (nI 13)) 40 4 = nI b_z from g4, nI_add]
    refine Zs_sub (l' := [(5, .int (nI 13)), (0, .ref 40), (3, .int x_z), (4, .int (nI d_z))]) rfl ?_
    exact L46 _ (((Sc.rf M).u _ rfl).u _ rfl) ⟨g1, g2, g3, b_z + 1, by omega, rfl⟩ rfl

set_option maxRecDepth 20000 in
set_option maxHeartbeats 1000000 in
theorem k_sp5_3 (kd_z : Nat) (k_z m_z x_z : Int32) (d_z fr : Nat) (M : Zmem) (hkd : kd_z ≤ 6) (hv_z : Zvo kd_z k_z m_z M) (hfr : 3 ≤ fr) (hd_z : d_z + 0 ≤ 30) : ZC 192 fr [.ref 40, .int (nI 5), .int (nI 3), .int x_z, .int (nI d_z)] M (Zvq3 kd_z k_z m_z (Vd kd_z k_z m_z 5 x_z) M) := by
  refine ZC_of Zt192 Zk192 (Nat.le_of_ble_eq_true rfl) (by decide) rfl (fun X hX hE => ?_)
  refine Zgo hX 2 rfl (by (first | exact True.intro | assumption | (dsimp only [ZallP]; and_intros <;> (first | assumption | decide | omega | ((try simp (disch := omega) only [pk_mul, nI_add, Zcl_n]); exact Zin_n (by omega) (by decide)))))) ?_
  refine Zs_calls hX (List.cons_ne_nil _ _) (by decide) (k_bodyOf 5 3 _ (by decide) (by decide)) (by first | decide | omega) rfl rfl (by decide) (Nat.le_of_ble_eq_true rfl) (fun r_z M' hc_z => ?_)
  obtain ⟨rfl, rfl⟩ := hc_z
  rw [show Zbl 3 (Zchn 5) = nI 13 by decide +kernel]
  have L46 : ∀ M1 : Zmem, Sc M M1 → Zvo kd_z k_z m_z M1 → M1 40 5 = M 40 5 → ZP X Zt192 (Zsf Zt192 46) [(5, .int (nI 13)), (0, .ref 40), (3, .int x_z), (4, .int (nI d_z))] [] M1 := by
    intro M1 hsc hv1 hp
    refine Zgo hX 6 rfl (by (first | exact True.intro | assumption | (dsimp only [ZallP]; and_intros <;> (first | assumption | decide | omega | ((try simp (disch := omega) only [pk_mul, nI_add, Zcl_n]); exact Zin_n (by omega) (by decide)))))) ?_
    rw [nI_add]
    refine Zs_callv hX (List.cons_ne_nil _ _) (k_w13 kd_z k_z m_z x_z (d_z + 1) (fr - 1) _ hkd hv1 (by omega) (by omega)) (by first | decide | omega) (by decide) rfl rfl rfl (by decide) (Nat.le_of_ble_eq_true rfl) (fun r_z M' hc_z => ?_)
    obtain ⟨hs2, hv2, hor⟩ := hc_z
    rcases hor with ⟨h1_z, h2_z, y_z, rfl⟩ | ⟨h1_z, h2_z, rfl⟩
    · refine Zs_ret hX hE rfl ⟨hsc.tr hs2, hv2, Or.inl ⟨h1_z, h2_z, _, rfl⟩⟩
    · refine Zs_ret hX hE rfl ⟨hsc.tr hs2, hv2, Or.inr ⟨h1_z, h2_z.trans hp, rfl⟩⟩
  obtain ⟨g1, g2, g3, b_z, hb_z, g4⟩ := id hv_z
  refine Zgo hX 3 rfl (by (first | exact True.intro | assumption | (dsimp only [ZallP]; and_intros <;> (first | assumption | decide | omega | ((try simp (disch := omega) only [pk_mul, nI_add, Zcl_n]); exact Zin_n (by omega) (by decide)))))) ?_
  refine Zs_ile hX (List.cons_ne_nil _ _) (fun _ => ?_) (fun q_z => False.elim ((q_z ((Zn_le (by omega) (by decide)).mpr (by omega)))))
  refine Zgo hX 3 rfl (by (first | exact True.intro | assumption | (dsimp only [ZallP]; and_intros <;> (first | assumption | decide | omega | ((try simp (disch := omega) only [pk_mul, nI_add, Zcl_n]); exact Zin_n (by omega) (by decide)))))) ?_
  rw [g4]
  refine Zs_ige hX (List.cons_ne_nil _ _) (fun h_z => ?_) (fun h_z => ?_)
  · refine Zs_sub (l' := [(5, .int (nI 13)), (0, .ref 40), (3, .int x_z), (4, .int (nI d_z))]) rfl ?_
    exact L46 M (Sc.rf _) hv_z rfl
  · have hlt : b_z < 30 := (Nat.lt_or_ge b_z 30).elim id (fun q_z => absurd ((Zn_le (by decide) (by omega)).mpr q_z) h_z)
    refine Zgo hX 12 rfl (by show vp_in (M 40 4) 30; rw [g4]; exact Zin_n (by omega) (by decide)) ?_
    rw [g4, Zcl_n (show b_z < 2 ^ 31 by omega), show (Zu M 42 b_z (nI 13)) 40 4 = nI b_z from g4, nI_add]
    refine Zs_sub (l' := [(5, .int (nI 13)), (0, .ref 40), (3, .int x_z), (4, .int (nI d_z))]) rfl ?_
    exact L46 _ (((Sc.rf M).u _ rfl).u _ rfl) ⟨g1, g2, g3, b_z + 1, by omega, rfl⟩ rfl

set_option maxRecDepth 20000 in
set_option maxHeartbeats 1000000 in
theorem k_sp6_3 (kd_z : Nat) (k_z m_z x_z : Int32) (d_z fr : Nat) (M : Zmem) (hkd : kd_z ≤ 6) (hv_z : Zvo kd_z k_z m_z M) (hfr : 3 ≤ fr) (hd_z : d_z + 0 ≤ 30) : ZC 192 fr [.ref 40, .int (nI 6), .int (nI 3), .int x_z, .int (nI d_z)] M (Zvq3 kd_z k_z m_z (Vd kd_z k_z m_z 6 x_z) M) := by
  refine ZC_of Zt192 Zk192 (Nat.le_of_ble_eq_true rfl) (by decide) rfl (fun X hX hE => ?_)
  refine Zgo hX 2 rfl (by (first | exact True.intro | assumption | (dsimp only [ZallP]; and_intros <;> (first | assumption | decide | omega | ((try simp (disch := omega) only [pk_mul, nI_add, Zcl_n]); exact Zin_n (by omega) (by decide)))))) ?_
  refine Zs_calls hX (List.cons_ne_nil _ _) (by decide) (k_bodyOf 6 3 _ (by decide) (by decide)) (by first | decide | omega) rfl rfl (by decide) (Nat.le_of_ble_eq_true rfl) (fun r_z M' hc_z => ?_)
  obtain ⟨rfl, rfl⟩ := hc_z
  rw [show Zbl 3 (Zchn 6) = nI 13 by decide +kernel]
  have L46 : ∀ M1 : Zmem, Sc M M1 → Zvo kd_z k_z m_z M1 → M1 40 5 = M 40 5 → ZP X Zt192 (Zsf Zt192 46) [(5, .int (nI 13)), (0, .ref 40), (3, .int x_z), (4, .int (nI d_z))] [] M1 := by
    intro M1 hsc hv1 hp
    refine Zgo hX 6 rfl (by (first | exact True.intro | assumption | (dsimp only [ZallP]; and_intros <;> (first | assumption | decide | omega | ((try simp (disch := omega) only [pk_mul, nI_add, Zcl_n]); exact Zin_n (by omega) (by decide)))))) ?_
    rw [nI_add]
    refine Zs_callv hX (List.cons_ne_nil _ _) (k_w13 kd_z k_z m_z x_z (d_z + 1) (fr - 1) _ hkd hv1 (by omega) (by omega)) (by first | decide | omega) (by decide) rfl rfl rfl (by decide) (Nat.le_of_ble_eq_true rfl) (fun r_z M' hc_z => ?_)
    obtain ⟨hs2, hv2, hor⟩ := hc_z
    rcases hor with ⟨h1_z, h2_z, y_z, rfl⟩ | ⟨h1_z, h2_z, rfl⟩
    · refine Zs_ret hX hE rfl ⟨hsc.tr hs2, hv2, Or.inl ⟨h1_z, h2_z, _, rfl⟩⟩
    · refine Zs_ret hX hE rfl ⟨hsc.tr hs2, hv2, Or.inr ⟨h1_z, h2_z.trans hp, rfl⟩⟩
  obtain ⟨g1, g2, g3, b_z, hb_z, g4⟩ := id hv_z
  refine Zgo hX 3 rfl (by (first | exact True.intro | assumption | (dsimp only [ZallP]; and_intros <;> (first | assumption | decide | omega | ((try simp (disch := omega) only [pk_mul, nI_add, Zcl_n]); exact Zin_n (by omega) (by decide)))))) ?_
  refine Zs_ile hX (List.cons_ne_nil _ _) (fun _ => ?_) (fun q_z => False.elim ((q_z ((Zn_le (by omega) (by decide)).mpr (by omega)))))
  refine Zgo hX 3 rfl (by (first | exact True.intro | assumption | (dsimp only [ZallP]; and_intros <;> (first | assumption | decide | omega | ((try simp (disch := omega) only [pk_mul, nI_add, Zcl_n]); exact Zin_n (by omega) (by decide)))))) ?_
  rw [g4]
  refine Zs_ige hX (List.cons_ne_nil _ _) (fun h_z => ?_) (fun h_z => ?_)
  · refine Zs_sub (l' := [(5, .int (nI 13)), (0, .ref 40), (3, .int x_z), (4, .int (nI d_z))]) rfl ?_
    exact L46 M (Sc.rf _) hv_z rfl
  · have hlt : b_z < 30 := (Nat.lt_or_ge b_z 30).elim id (fun q_z => absurd ((Zn_le (by decide) (by omega)).mpr q_z) h_z)
    refine Zgo hX 12 rfl (by show vp_in (M 40 4) 30; rw [g4]; exact Zin_n (by omega) (by decide)) ?_
    rw [g4, Zcl_n (show b_z < 2 ^ 31 by omega), show (Zu M 42 b_z (nI 13)) 40 4 = nI b_z from g4, nI_add]
    refine Zs_sub (l' := [(5, .int (nI 13)), (0, .ref 40), (3, .int x_z), (4, .int (nI d_z))]) rfl ?_
    exact L46 _ (((Sc.rf M).u _ rfl).u _ rfl) ⟨g1, g2, g3, b_z + 1, by omega, rfl⟩ rfl

set_option maxRecDepth 20000 in
set_option maxHeartbeats 1000000 in
theorem k_w21 (kd_z : Nat) (k_z m_z x_z : Int32) (d_z fr : Nat) (M : Zmem) (hkd : kd_z ≤ 6) (hv_z : Zvo kd_z k_z m_z M) (hfr : 14 ≤ fr) (hd_z : d_z + 6 ≤ 31) : ZC 194 fr [.ref 40, .int (nI 21), .int x_z, .int (nI d_z)] M (Zvq3 kd_z k_z m_z (Vd kd_z k_z m_z 1 x_z) M) := by
  refine ZC_of Zt194 Zk194 (Nat.le_of_ble_eq_true rfl) (by decide) rfl (fun X hX hE => ?_)
  obtain ⟨g1, g2, g3, b_z, hb_z, g4⟩ := id hv_z
  refine Zgo hX 5 rfl (by (first | exact True.intro | assumption | (dsimp only [ZallP]; and_intros <;> (first | assumption | decide | omega | ((try simp (disch := omega) only [pk_mul, nI_add, Zcl_n]); exact Zin_n (by omega) (by decide)))))) ?_
  rw [show nI 21 / nI 10 - nI 1 = nI 1 by decide +kernel]
  refine Zs_calls hX (List.cons_ne_nil _ _) (by decide) (k_above _ _) (by first | decide | omega) rfl rfl (by decide) (Nat.le_of_ble_eq_true rfl) (fun r_z M' hc_z => ?_)
  obtain ⟨⟨y_z, rfl, hy⟩, rfl⟩ := hc_z
  rw [Zab_of (kd_z := 1) (by decide) hy]
  refine Zgo hX 2 rfl (by (first | exact True.intro | assumption | (dsimp only [ZallP]; and_intros <;> (first | assumption | decide | omega | ((try simp (disch := omega) only [pk_mul, nI_add, Zcl_n]); exact Zin_n (by omega) (by decide)))))) ?_
  refine Zs_sw [(nI 10, 128), (nI 11, 135), (nI 12, 149), (nI 13, 166), (nI 20, 181), (nI 21, 193), (nI 30, 215), (nI 40, 227), (nI 50, 239), (nI 51, 251), (nI 60, 266), (nI 70, 278), (nI 71, 281)] 296 hX (by decide +kernel) (by decide +kernel) (t := 193) ((by decide +kernel)) ?_
  refine Zgo hX 5 rfl (by (first | exact True.intro | assumption | (dsimp only [ZallP]; and_intros <;> (first | assumption | decide | omega | ((try simp (disch := omega) only [pk_mul, nI_add, Zcl_n]); exact Zin_n (by omega) (by decide)))))) ?_
  rw [show Zabv 1 = nI 0 by decide +kernel]
  refine Zs_callv hX (List.cons_ne_nil _ _) (k_sp0_3 kd_z k_z m_z x_z d_z (fr - 1) _ hkd hv_z (by omega) (by omega)) (by first | decide | omega) (by decide) rfl rfl rfl (by decide) (Nat.le_of_ble_eq_true rfl) (fun r_z M' hc_z => ?_)
  obtain ⟨hs2, hv2, hor⟩ := hc_z
  rcases hor with ⟨h1_z, h2_z, y_z, rfl⟩ | ⟨h1_z, h2_z, rfl⟩
  · refine Zgo hX 6 rfl (by (first | exact True.intro | assumption | (dsimp only [ZallP]; and_intros <;> (first | assumption | decide | omega | ((try simp (disch := omega) only [pk_mul, nI_add, Zcl_n]); exact Zin_n (by omega) (by decide)))))) ?_
    rw [hv2.1]
    refine Zs_callv hX (List.cons_ne_nil _ _) (k_spa1 kd_z k_z m_z (nI 1) d_z (fr - 1) _ hkd hv2 (by omega) (by omega)) (by first | decide | omega) (by decide) rfl rfl rfl (by decide) (Nat.le_of_ble_eq_true rfl) (fun r_z M' hc_z => ?_)
    obtain ⟨rfl, hs3, hv3, hp3⟩ := hc_z
    refine Zgo hX 1 rfl (by (first | exact True.intro | assumption | (dsimp only [ZallP]; and_intros <;> (first | assumption | decide | omega | ((try simp (disch := omega) only [pk_mul, nI_add, Zcl_n]); exact Zin_n (by omega) (by decide)))))) ?_
    refine Zs_ret hX hE rfl ⟨hs2.tr hs3, hv3, Or.inl ⟨h1_z, hp3.trans h2_z, _, rfl⟩⟩
  · refine Zgo hX 6 rfl (by (first | exact True.intro | assumption | (dsimp only [ZallP]; and_intros <;> (first | assumption | decide | omega | ((try simp (disch := omega) only [pk_mul, nI_add, Zcl_n]); exact Zin_n (by omega) (by decide)))))) ?_
    rw [hv2.1]
    refine Zs_callv hX (List.cons_ne_nil _ _) (k_spa1 kd_z k_z m_z (nI 1) d_z (fr - 1) _ hkd hv2 (by omega) (by omega)) (by first | decide | omega) (by decide) rfl rfl rfl (by decide) (Nat.le_of_ble_eq_true rfl) (fun r_z M' hc_z => ?_)
    obtain ⟨rfl, hs3, hv3, hp3⟩ := hc_z
    refine Zgo hX 1 rfl (by (first | exact True.intro | assumption | (dsimp only [ZallP]; and_intros <;> (first | assumption | decide | omega | ((try simp (disch := omega) only [pk_mul, nI_add, Zcl_n]); exact Zin_n (by omega) (by decide)))))) ?_
    refine Zs_ret hX hE rfl ⟨hs2.tr hs3, hv3, Or.inr ⟨h1_z, hp3.trans h2_z, rfl⟩⟩

set_option maxRecDepth 20000 in
set_option maxHeartbeats 1000000 in
theorem k_sp1_3 (kd_z : Nat) (k_z m_z x_z : Int32) (d_z fr : Nat) (M : Zmem) (hkd : kd_z ≤ 6) (hv_z : Zvo kd_z k_z m_z M) (hfr : 15 ≤ fr) (hd_z : d_z + 6 ≤ 30) : ZC 192 fr [.ref 40, .int (nI 1), .int (nI 3), .int x_z, .int (nI d_z)] M (Zvq3 kd_z k_z m_z (Vd kd_z k_z m_z 1 x_z) M) := by
  refine ZC_of Zt192 Zk192 (Nat.le_of_ble_eq_true rfl) (by decide) rfl (fun X hX hE => ?_)
  refine Zgo hX 2 rfl (by (first | exact True.intro | assumption | (dsimp only [ZallP]; and_intros <;> (first | assumption | decide | omega | ((try simp (disch := omega) only [pk_mul, nI_add, Zcl_n]); exact Zin_n (by omega) (by decide)))))) ?_
  refine Zs_calls hX (List.cons_ne_nil _ _) (by decide) (k_bodyOf 1 3 _ (by decide) (by decide)) (by first | decide | omega) rfl rfl (by decide) (Nat.le_of_ble_eq_true rfl) (fun r_z M' hc_z => ?_)
  obtain ⟨rfl, rfl⟩ := hc_z
  rw [show Zbl 3 (Zchn 1) = nI 21 by decide +kernel]
  have L46 : ∀ M1 : Zmem, Sc M M1 → Zvo kd_z k_z m_z M1 → M1 40 5 = M 40 5 → ZP X Zt192 (Zsf Zt192 46) [(5, .int (nI 21)), (0, .ref 40), (3, .int x_z), (4, .int (nI d_z))] [] M1 := by
    intro M1 hsc hv1 hp
    refine Zgo hX 6 rfl (by (first | exact True.intro | assumption | (dsimp only [ZallP]; and_intros <;> (first | assumption | decide | omega | ((try simp (disch := omega) only [pk_mul, nI_add, Zcl_n]); exact Zin_n (by omega) (by decide)))))) ?_
    rw [nI_add]
    refine Zs_callv hX (List.cons_ne_nil _ _) (k_w21 kd_z k_z m_z x_z (d_z + 1) (fr - 1) _ hkd hv1 (by omega) (by omega)) (by first | decide | omega) (by decide) rfl rfl rfl (by decide) (Nat.le_of_ble_eq_true rfl) (fun r_z M' hc_z => ?_)
    obtain ⟨hs2, hv2, hor⟩ := hc_z
    rcases hor with ⟨h1_z, h2_z, y_z, rfl⟩ | ⟨h1_z, h2_z, rfl⟩
    · refine Zs_ret hX hE rfl ⟨hsc.tr hs2, hv2, Or.inl ⟨h1_z, h2_z, _, rfl⟩⟩
    · refine Zs_ret hX hE rfl ⟨hsc.tr hs2, hv2, Or.inr ⟨h1_z, h2_z.trans hp, rfl⟩⟩
  obtain ⟨g1, g2, g3, b_z, hb_z, g4⟩ := id hv_z
  refine Zgo hX 3 rfl (by (first | exact True.intro | assumption | (dsimp only [ZallP]; and_intros <;> (first | assumption | decide | omega | ((try simp (disch := omega) only [pk_mul, nI_add, Zcl_n]); exact Zin_n (by omega) (by decide)))))) ?_
  refine Zs_ile hX (List.cons_ne_nil _ _) (fun _ => ?_) (fun q_z => False.elim ((q_z ((Zn_le (by omega) (by decide)).mpr (by omega)))))
  refine Zgo hX 3 rfl (by (first | exact True.intro | assumption | (dsimp only [ZallP]; and_intros <;> (first | assumption | decide | omega | ((try simp (disch := omega) only [pk_mul, nI_add, Zcl_n]); exact Zin_n (by omega) (by decide)))))) ?_
  rw [g4]
  refine Zs_ige hX (List.cons_ne_nil _ _) (fun h_z => ?_) (fun h_z => ?_)
  · refine Zs_sub (l' := [(5, .int (nI 21)), (0, .ref 40), (3, .int x_z), (4, .int (nI d_z))]) rfl ?_
    exact L46 M (Sc.rf _) hv_z rfl
  · have hlt : b_z < 30 := (Nat.lt_or_ge b_z 30).elim id (fun q_z => absurd ((Zn_le (by decide) (by omega)).mpr q_z) h_z)
    refine Zgo hX 12 rfl (by show vp_in (M 40 4) 30; rw [g4]; exact Zin_n (by omega) (by decide)) ?_
    rw [g4, Zcl_n (show b_z < 2 ^ 31 by omega), show (Zu M 42 b_z (nI 21)) 40 4 = nI b_z from g4, nI_add]
    refine Zs_sub (l' := [(5, .int (nI 21)), (0, .ref 40), (3, .int x_z), (4, .int (nI d_z))]) rfl ?_
    exact L46 _ (((Sc.rf M).u _ rfl).u _ rfl) ⟨g1, g2, g3, b_z + 1, by omega, rfl⟩ rfl

set_option maxRecDepth 20000 in
set_option maxHeartbeats 1000000 in
theorem k_sp4_3 (kd_z : Nat) (k_z m_z x_z : Int32) (d_z fr : Nat) (M : Zmem) (hkd : kd_z ≤ 6) (hv_z : Zvo kd_z k_z m_z M) (hfr : 15 ≤ fr) (hd_z : d_z + 6 ≤ 30) : ZC 192 fr [.ref 40, .int (nI 4), .int (nI 3), .int x_z, .int (nI d_z)] M (Zvq3 kd_z k_z m_z (Vd kd_z k_z m_z 4 x_z) M) := by
  refine ZC_of Zt192 Zk192 (Nat.le_of_ble_eq_true rfl) (by decide) rfl (fun X hX hE => ?_)
  refine Zgo hX 2 rfl (by (first | exact True.intro | assumption | (dsimp only [ZallP]; and_intros <;> (first | assumption | decide | omega | ((try simp (disch := omega) only [pk_mul, nI_add, Zcl_n]); exact Zin_n (by omega) (by decide)))))) ?_
  refine Zs_calls hX (List.cons_ne_nil _ _) (by decide) (k_bodyOf 4 3 _ (by decide) (by decide)) (by first | decide | omega) rfl rfl (by decide) (Nat.le_of_ble_eq_true rfl) (fun r_z M' hc_z => ?_)
  obtain ⟨rfl, rfl⟩ := hc_z
  rw [show Zbl 3 (Zchn 4) = nI 21 by decide +kernel]
  have L46 : ∀ M1 : Zmem, Sc M M1 → Zvo kd_z k_z m_z M1 → M1 40 5 = M 40 5 → ZP X Zt192 (Zsf Zt192 46) [(5, .int (nI 21)), (0, .ref 40), (3, .int x_z), (4, .int (nI d_z))] [] M1 := by
    intro M1 hsc hv1 hp
    refine Zgo hX 6 rfl (by (first | exact True.intro | assumption | (dsimp only [ZallP]; and_intros <;> (first | assumption | decide | omega | ((try simp (disch := omega) only [pk_mul, nI_add, Zcl_n]); exact Zin_n (by omega) (by decide)))))) ?_
    rw [nI_add]
    refine Zs_callv hX (List.cons_ne_nil _ _) (k_w21 kd_z k_z m_z x_z (d_z + 1) (fr - 1) _ hkd hv1 (by omega) (by omega)) (by first | decide | omega) (by decide) rfl rfl rfl (by decide) (Nat.le_of_ble_eq_true rfl) (fun r_z M' hc_z => ?_)
    obtain ⟨hs2, hv2, hor⟩ := hc_z
    rcases hor with ⟨h1_z, h2_z, y_z, rfl⟩ | ⟨h1_z, h2_z, rfl⟩
    · refine Zs_ret hX hE rfl ⟨hsc.tr hs2, hv2, Or.inl ⟨h1_z, h2_z, _, rfl⟩⟩
    · refine Zs_ret hX hE rfl ⟨hsc.tr hs2, hv2, Or.inr ⟨h1_z, h2_z.trans hp, rfl⟩⟩
  obtain ⟨g1, g2, g3, b_z, hb_z, g4⟩ := id hv_z
  refine Zgo hX 3 rfl (by (first | exact True.intro | assumption | (dsimp only [ZallP]; and_intros <;> (first | assumption | decide | omega | ((try simp (disch := omega) only [pk_mul, nI_add, Zcl_n]); exact Zin_n (by omega) (by decide)))))) ?_
  refine Zs_ile hX (List.cons_ne_nil _ _) (fun _ => ?_) (fun q_z => False.elim ((q_z ((Zn_le (by omega) (by decide)).mpr (by omega)))))
  refine Zgo hX 3 rfl (by (first | exact True.intro | assumption | (dsimp only [ZallP]; and_intros <;> (first | assumption | decide | omega | ((try simp (disch := omega) only [pk_mul, nI_add, Zcl_n]); exact Zin_n (by omega) (by decide)))))) ?_
  rw [g4]
  refine Zs_ige hX (List.cons_ne_nil _ _) (fun h_z => ?_) (fun h_z => ?_)
  · refine Zs_sub (l' := [(5, .int (nI 21)), (0, .ref 40), (3, .int x_z), (4, .int (nI d_z))]) rfl ?_
    exact L46 M (Sc.rf _) hv_z rfl
  · have hlt : b_z < 30 := (Nat.lt_or_ge b_z 30).elim id (fun q_z => absurd ((Zn_le (by decide) (by omega)).mpr q_z) h_z)
    refine Zgo hX 12 rfl (by show vp_in (M 40 4) 30; rw [g4]; exact Zin_n (by omega) (by decide)) ?_
    rw [g4, Zcl_n (show b_z < 2 ^ 31 by omega), show (Zu M 42 b_z (nI 21)) 40 4 = nI b_z from g4, nI_add]
    refine Zs_sub (l' := [(5, .int (nI 21)), (0, .ref 40), (3, .int x_z), (4, .int (nI d_z))]) rfl ?_
    exact L46 _ (((Sc.rf M).u _ rfl).u _ rfl) ⟨g1, g2, g3, b_z + 1, by omega, rfl⟩ rfl


theorem k_spa3 (kd_z : Nat) (k_z m_z x_z : Int32) (d_z fr : Nat) (M : Zmem) (hkd : kd_z ≤ 6) (hv_z : Zvo kd_z k_z m_z M) (hfr : 15 ≤ fr) (hd_z : d_z + 6 ≤ 30) : ZC 192 fr [.ref 40, .int (nI kd_z), .int (nI 3), .int x_z, .int (nI d_z)] M (Zvq3 kd_z k_z m_z (Vd kd_z k_z m_z kd_z x_z) M) := by
  rcases Zseven hkd with rfl | rfl | rfl | rfl | rfl | rfl | rfl
  · exact k_sp0_3 0 k_z m_z x_z d_z fr M hkd hv_z (by omega) (by omega)
  · exact k_sp1_3 1 k_z m_z x_z d_z fr M hkd hv_z (by omega) (by omega)
  · exact k_sp2_3 2 k_z m_z x_z d_z fr M hkd hv_z (by omega) (by omega)
  · exact k_sp3_3 3 k_z m_z x_z d_z fr M hkd hv_z (by omega) (by omega)
  · exact k_sp4_3 4 k_z m_z x_z d_z fr M hkd hv_z (by omega) (by omega)
  · exact k_sp5_3 5 k_z m_z x_z d_z fr M hkd hv_z (by omega) (by omega)
  · exact k_sp6_3 6 k_z m_z x_z d_z fr M hkd hv_z (by omega) (by omega)

set_option maxRecDepth 20000 in
set_option maxHeartbeats 1000000 in
theorem k_utters (kd_z row_z m_z v_z : Nat) (x_z : Int32) (fr : Nat) (M : Zmem) (hkd : kd_z ≤ 6) (hrow : row_z < 15) (hk_z : M 2 row_z = nI kd_z) (hm_z : M 3 row_z = nI m_z) (hv_z : v_z ≤ 3) (hfr : 18 ≤ fr) : ZC 191 fr [.ref 40, .ref 1, .int (nI row_z), .int (nI v_z), .int x_z] M (fun r_z M' => (v_z = 3 ∧ nI m_z - nI row_z = 0 ∧ r_z = some (.int (nI 0)) ∧ Sc M M') ∨ (¬ (v_z = 3 ∧ nI m_z - nI row_z = 0) ∧ r_z = some (.int (nI 1)) ∧ M' 40 2 = Vo kd_z (nI row_z) (nI m_z) v_z x_z ∧ Zhv M M' ∧ ∃ b_z, b_z ≤ 30 ∧ M' 40 1 = nI b_z)) := by
  refine ZC_of Zt191 Zk191 (Nat.le_of_ble_eq_true rfl) (by decide) rfl (fun X hX hE => ?_)
  refine Zgo hX 27 rfl (by dsimp only [ZallP]; exact ⟨⟨Zin_n (by omega) (by decide), Zin_n (by omega) (by decide)⟩, Or.inl rfl⟩) ?_
  rw [Zcl_n (show row_z < 2 ^ 31 by omega), hk_z, show (Zu (Zu M 40 6 (nI kd_z)) 40 7 (nI row_z)) 3 row_z = nI m_z from hm_z]
  refine Zs_abs (fun M1 => M1 40 6 = nI kd_z ∧ Zvo kd_z (nI row_z) (nI m_z) M1 ∧ Sc M M1 ∧ M1 40 5 = nI 0) ⟨rfl, ⟨rfl, rfl, rfl, 0, by decide, rfl⟩, (((((Sc.rf M).u _ rfl).u _ rfl).u _ rfl).u _ rfl).u _ rfl, rfl⟩ (fun M1 hM1 => ?_)
  obtain ⟨e6, hv1, hsc1, hp1⟩ := hM1
  rw [show (Zu (Zu (Zu (Zu (Zu M 40 6 (nI kd_z)) 40 7 (nI row_z)) 40 8 (nI m_z)) 40 4 (nI 0)) 40 5 (nI 0)) 40 6 = nI kd_z from rfl]
  rcases (show v_z = 0 ∨ v_z = 1 ∨ v_z = 2 ∨ v_z = 3 by omega) with rfl | rfl | rfl | rfl
  · skip
    have fin : ∀ (y_z : Int32) (M1 : Zmem), y_z = Vo kd_z (nI row_z) (nI m_z) 0 x_z → Sc M M1 → Zvo kd_z (nI row_z) (nI m_z) M1 → M1 40 5 = nI 0 → ¬ (0 = 3 ∧ nI m_z - nI row_z = 0) → ZP X Zt191 (Zsf Zt191 47) [(0, .ref 40)] [.int y_z] M1 := by
      intro y_z M1 hy hsc hv1 hp hno
      obtain ⟨-, -, -, b_z, hb_z, g4⟩ := hv1
      refine Zgo hX 3 rfl (by (first | exact True.intro | assumption | (dsimp only [ZallP]; and_intros <;> (first | assumption | decide | omega | ((try simp (disch := omega) only [pk_mul, nI_add, Zcl_n]); exact Zin_n (by omega) (by decide)))))) ?_
      rw [hp]
      refine Zs_eq hX (List.cons_ne_nil _ _) (fun _ => ?_) (fun q_z => False.elim (by revert q_z; decide))
      refine Zgo hX 15 rfl (by (first | exact True.intro | assumption | (dsimp only [ZallP]; and_intros <;> (first | assumption | decide | omega | ((try simp (disch := omega) only [pk_mul, nI_add, Zcl_n]); exact Zin_n (by omega) (by decide)))))) ?_
      rw [show (Zu M1 40 2 y_z) 40 4 = nI b_z from g4, show (Zu (Zu M1 40 2 y_z) 40 1 (nI b_z)) 40 4 = nI b_z from g4]
      refine Zs_cp b_z hX (List.cons_ne_nil _ _) (by omega) (by decide) (by decide) (Or.inl rfl) rfl rfl (by omega) (by omega) (by omega) (fun q_z => absurd q_z (by decide)) (by decide) ?_
      refine Zgo hX 1 rfl (by (first | exact True.intro | assumption | (dsimp only [ZallP]; and_intros <;> (first | assumption | decide | omega | ((try simp (disch := omega) only [pk_mul, nI_add, Zcl_n]); exact Zin_n (by omega) (by decide)))))) ?_
      refine Zs_retz hX hE rfl (by first | exact Or.inl rfl | exact Or.inr rfl) (Or.inr ⟨hno, rfl, hy, fun o_z j_z q1_z q2_z => (by
        by_cases e_z : o_z = 41
        · subst e_z; exact Bool.noConfusion (show true = false from q1_z)
        · show (if o_z = 41 then _ else (Zu (Zu M1 40 2 y_z) 40 1 (nI b_z)) o_z) j_z = _
          rw [if_neg e_z, Zu_o q2_z]
          by_cases e2_z : o_z = 40 ∧ j_z = 2
          · obtain ⟨rfl, rfl⟩ := e2_z; exact Bool.noConfusion (show true = false from q1_z)
          · rw [Zu_o e2_z]; exact hsc o_z j_z q1_z), b_z, hb_z, rfl⟩)
    refine Zs_callv hX (List.cons_ne_nil _ _) (k_spa0 kd_z (nI row_z) (nI m_z) x_z 0 (fr - 1) M1 hkd hv1 (by omega) (by decide)) (by first | decide | omega) (by decide) rfl rfl rfl (by decide) (Nat.le_of_ble_eq_true rfl) (fun r_z M' hc_z => ?_)
    obtain ⟨rfl, hs2, hv2, hp2⟩ := hc_z
    refine Zs_sub (l' := [(0, .ref 40)]) rfl ?_
    exact fin _ M' rfl (hsc1.tr hs2) hv2 (hp2.trans hp1) (fun q_z => absurd q_z.1 (by decide))
  · skip
    have fin : ∀ (y_z : Int32) (M1 : Zmem), y_z = Vo kd_z (nI row_z) (nI m_z) 1 x_z → Sc M M1 → Zvo kd_z (nI row_z) (nI m_z) M1 → M1 40 5 = nI 0 → ¬ (1 = 3 ∧ nI m_z - nI row_z = 0) → ZP X Zt191 (Zsf Zt191 47) [(0, .ref 40)] [.int y_z] M1 := by
      intro y_z M1 hy hsc hv1 hp hno
      obtain ⟨-, -, -, b_z, hb_z, g4⟩ := hv1
      refine Zgo hX 3 rfl (by (first | exact True.intro | assumption | (dsimp only [ZallP]; and_intros <;> (first | assumption | decide | omega | ((try simp (disch := omega) only [pk_mul, nI_add, Zcl_n]); exact Zin_n (by omega) (by decide)))))) ?_
      rw [hp]
      refine Zs_eq hX (List.cons_ne_nil _ _) (fun _ => ?_) (fun q_z => False.elim (by revert q_z; decide))
      refine Zgo hX 15 rfl (by (first | exact True.intro | assumption | (dsimp only [ZallP]; and_intros <;> (first | assumption | decide | omega | ((try simp (disch := omega) only [pk_mul, nI_add, Zcl_n]); exact Zin_n (by omega) (by decide)))))) ?_
      rw [show (Zu M1 40 2 y_z) 40 4 = nI b_z from g4, show (Zu (Zu M1 40 2 y_z) 40 1 (nI b_z)) 40 4 = nI b_z from g4]
      refine Zs_cp b_z hX (List.cons_ne_nil _ _) (by omega) (by decide) (by decide) (Or.inl rfl) rfl rfl (by omega) (by omega) (by omega) (fun q_z => absurd q_z (by decide)) (by decide) ?_
      refine Zgo hX 1 rfl (by (first | exact True.intro | assumption | (dsimp only [ZallP]; and_intros <;> (first | assumption | decide | omega | ((try simp (disch := omega) only [pk_mul, nI_add, Zcl_n]); exact Zin_n (by omega) (by decide)))))) ?_
      refine Zs_retz hX hE rfl (by first | exact Or.inl rfl | exact Or.inr rfl) (Or.inr ⟨hno, rfl, hy, fun o_z j_z q1_z q2_z => (by
        by_cases e_z : o_z = 41
        · subst e_z; exact Bool.noConfusion (show true = false from q1_z)
        · show (if o_z = 41 then _ else (Zu (Zu M1 40 2 y_z) 40 1 (nI b_z)) o_z) j_z = _
          rw [if_neg e_z, Zu_o q2_z]
          by_cases e2_z : o_z = 40 ∧ j_z = 2
          · obtain ⟨rfl, rfl⟩ := e2_z; exact Bool.noConfusion (show true = false from q1_z)
          · rw [Zu_o e2_z]; exact hsc o_z j_z q1_z), b_z, hb_z, rfl⟩)
    refine Zs_callv hX (List.cons_ne_nil _ _) (k_spa1 kd_z (nI row_z) (nI m_z) x_z 0 (fr - 1) M1 hkd hv1 (by omega) (by decide)) (by first | decide | omega) (by decide) rfl rfl rfl (by decide) (Nat.le_of_ble_eq_true rfl) (fun r_z M' hc_z => ?_)
    obtain ⟨rfl, hs2, hv2, hp2⟩ := hc_z
    refine Zs_sub (l' := [(0, .ref 40)]) rfl ?_
    exact fin _ M' rfl (hsc1.tr hs2) hv2 (hp2.trans hp1) (fun q_z => absurd q_z.1 (by decide))
  · skip
    have fin : ∀ (y_z : Int32) (M1 : Zmem), y_z = Vo kd_z (nI row_z) (nI m_z) 2 x_z → Sc M M1 → Zvo kd_z (nI row_z) (nI m_z) M1 → M1 40 5 = nI 0 → ¬ (2 = 3 ∧ nI m_z - nI row_z = 0) → ZP X Zt191 (Zsf Zt191 47) [(0, .ref 40)] [.int y_z] M1 := by
      intro y_z M1 hy hsc hv1 hp hno
      obtain ⟨-, -, -, b_z, hb_z, g4⟩ := hv1
      refine Zgo hX 3 rfl (by (first | exact True.intro | assumption | (dsimp only [ZallP]; and_intros <;> (first | assumption | decide | omega | ((try simp (disch := omega) only [pk_mul, nI_add, Zcl_n]); exact Zin_n (by omega) (by decide)))))) ?_
      rw [hp]
      refine Zs_eq hX (List.cons_ne_nil _ _) (fun _ => ?_) (fun q_z => False.elim (by revert q_z; decide))
      refine Zgo hX 15 rfl (by (first | exact True.intro | assumption | (dsimp only [ZallP]; and_intros <;> (first | assumption | decide | omega | ((try simp (disch := omega) only [pk_mul, nI_add, Zcl_n]); exact Zin_n (by omega) (by decide)))))) ?_
      rw [show (Zu M1 40 2 y_z) 40 4 = nI b_z from g4, show (Zu (Zu M1 40 2 y_z) 40 1 (nI b_z)) 40 4 = nI b_z from g4]
      refine Zs_cp b_z hX (List.cons_ne_nil _ _) (by omega) (by decide) (by decide) (Or.inl rfl) rfl rfl (by omega) (by omega) (by omega) (fun q_z => absurd q_z (by decide)) (by decide) ?_
      refine Zgo hX 1 rfl (by (first | exact True.intro | assumption | (dsimp only [ZallP]; and_intros <;> (first | assumption | decide | omega | ((try simp (disch := omega) only [pk_mul, nI_add, Zcl_n]); exact Zin_n (by omega) (by decide)))))) ?_
      refine Zs_retz hX hE rfl (by first | exact Or.inl rfl | exact Or.inr rfl) (Or.inr ⟨hno, rfl, hy, fun o_z j_z q1_z q2_z => (by
        by_cases e_z : o_z = 41
        · subst e_z; exact Bool.noConfusion (show true = false from q1_z)
        · show (if o_z = 41 then _ else (Zu (Zu M1 40 2 y_z) 40 1 (nI b_z)) o_z) j_z = _
          rw [if_neg e_z, Zu_o q2_z]
          by_cases e2_z : o_z = 40 ∧ j_z = 2
          · obtain ⟨rfl, rfl⟩ := e2_z; exact Bool.noConfusion (show true = false from q1_z)
          · rw [Zu_o e2_z]; exact hsc o_z j_z q1_z), b_z, hb_z, rfl⟩)
    refine Zs_callv hX (List.cons_ne_nil _ _) (k_spa2 kd_z (nI row_z) (nI m_z) x_z 0 (fr - 1) M1 hkd hv1 (by omega) (by decide)) (by first | decide | omega) (by decide) rfl rfl rfl (by decide) (Nat.le_of_ble_eq_true rfl) (fun r_z M' hc_z => ?_)
    obtain ⟨rfl, hs2, hv2, hp2⟩ := hc_z
    refine Zs_sub (l' := [(0, .ref 40)]) rfl ?_
    exact fin _ M' rfl (hsc1.tr hs2) hv2 (hp2.trans hp1) (fun q_z => absurd q_z.1 (by decide))
  · skip
    have fin : ∀ (y_z : Int32) (M1 : Zmem), y_z = Vo kd_z (nI row_z) (nI m_z) 3 x_z → Sc M M1 → Zvo kd_z (nI row_z) (nI m_z) M1 → M1 40 5 = nI 0 → ¬ (3 = 3 ∧ nI m_z - nI row_z = 0) → ZP X Zt191 (Zsf Zt191 47) [(0, .ref 40)] [.int y_z] M1 := by
      intro y_z M1 hy hsc hv1 hp hno
      obtain ⟨-, -, -, b_z, hb_z, g4⟩ := hv1
      refine Zgo hX 3 rfl (by (first | exact True.intro | assumption | (dsimp only [ZallP]; and_intros <;> (first | assumption | decide | omega | ((try simp (disch := omega) only [pk_mul, nI_add, Zcl_n]); exact Zin_n (by omega) (by decide)))))) ?_
      rw [hp]
      refine Zs_eq hX (List.cons_ne_nil _ _) (fun _ => ?_) (fun q_z => False.elim (by revert q_z; decide))
      refine Zgo hX 15 rfl (by (first | exact True.intro | assumption | (dsimp only [ZallP]; and_intros <;> (first | assumption | decide | omega | ((try simp (disch := omega) only [pk_mul, nI_add, Zcl_n]); exact Zin_n (by omega) (by decide)))))) ?_
      rw [show (Zu M1 40 2 y_z) 40 4 = nI b_z from g4, show (Zu (Zu M1 40 2 y_z) 40 1 (nI b_z)) 40 4 = nI b_z from g4]
      refine Zs_cp b_z hX (List.cons_ne_nil _ _) (by omega) (by decide) (by decide) (Or.inl rfl) rfl rfl (by omega) (by omega) (by omega) (fun q_z => absurd q_z (by decide)) (by decide) ?_
      refine Zgo hX 1 rfl (by (first | exact True.intro | assumption | (dsimp only [ZallP]; and_intros <;> (first | assumption | decide | omega | ((try simp (disch := omega) only [pk_mul, nI_add, Zcl_n]); exact Zin_n (by omega) (by decide)))))) ?_
      refine Zs_retz hX hE rfl (by first | exact Or.inl rfl | exact Or.inr rfl) (Or.inr ⟨hno, rfl, hy, fun o_z j_z q1_z q2_z => (by
        by_cases e_z : o_z = 41
        · subst e_z; exact Bool.noConfusion (show true = false from q1_z)
        · show (if o_z = 41 then _ else (Zu (Zu M1 40 2 y_z) 40 1 (nI b_z)) o_z) j_z = _
          rw [if_neg e_z, Zu_o q2_z]
          by_cases e2_z : o_z = 40 ∧ j_z = 2
          · obtain ⟨rfl, rfl⟩ := e2_z; exact Bool.noConfusion (show true = false from q1_z)
          · rw [Zu_o e2_z]; exact hsc o_z j_z q1_z), b_z, hb_z, rfl⟩)
    refine Zs_callv hX (List.cons_ne_nil _ _) (k_spa3 kd_z (nI row_z) (nI m_z) x_z 0 (fr - 1) M1 hkd hv1 (by omega) (by decide)) (by first | decide | omega) (by decide) rfl rfl rfl (by decide) (Nat.le_of_ble_eq_true rfl) (fun r_z M' hc_z => ?_)
    obtain ⟨hs2, hv2, hor⟩ := hc_z
    rcases hor with ⟨h1_z, h2_z, y_z, rfl⟩ | ⟨h1_z, h2_z, rfl⟩
    · refine Zgo hX 3 rfl (by (first | exact True.intro | assumption | (dsimp only [ZallP]; and_intros <;> (first | assumption | decide | omega | ((try simp (disch := omega) only [pk_mul, nI_add, Zcl_n]); exact Zin_n (by omega) (by decide)))))) ?_
      rw [h2_z]
      refine Zs_eq hX (List.cons_ne_nil _ _) (fun q_z => False.elim (by revert q_z; decide)) (fun _ => ?_)
      refine Zgo hX 1 rfl (by (first | exact True.intro | assumption | (dsimp only [ZallP]; and_intros <;> (first | assumption | decide | omega | ((try simp (disch := omega) only [pk_mul, nI_add, Zcl_n]); exact Zin_n (by omega) (by decide)))))) ?_
      refine Zs_retz hX hE rfl (by first | exact Or.inl rfl | exact Or.inr rfl) (Or.inl ⟨rfl, h1_z, rfl, hsc1.tr hs2⟩)
    · refine Zs_sub (l' := [(0, .ref 40)]) rfl ?_
      exact fin _ M' rfl (hsc1.tr hs2) hv2 (h2_z.trans hp1) (fun q_z => h1_z q_z.2)

set_option maxRecDepth 20000 in
set_option maxHeartbeats 1000000 in
theorem k_voice (f_z : Nat → Int32) (n_z : Nat) (row_z v_z x_z : Int32) (a_z : Nat) (M : Zmem) (hz_z : Zrv 1 f_z M) (hfi : Zfi f_z) (hn_z : f_z 7 = nI n_z) (hn2 : n_z ≤ 15) (ht_z : M 40 1 = nI a_z) (ha_z : a_z ≤ 30) : ZC 24 19 [.ref 0, .int row_z, .int v_z, .int x_z] M (fun r_z M' => r_z = some (.int (Fvoice f_z n_z row_z v_z x_z)) ∧ Zhv M M' ∧ ∃ b_z, b_z ≤ 30 ∧ M' 40 1 = nI b_z) := by
  refine ZC_of Zt24 Zk24 (Nat.le_of_ble_eq_true rfl) (by decide) rfl (fun X hX hE => ?_)
  have BAD : ¬ (vp_in row_z n_z ∧ nI 0 ≤ v_z ∧ v_z ≤ nI 3) → ZP X Zt24 (Zsf Zt24 17) (lv_args 0 [.ref 0, .int row_z, .int v_z, .int x_z]) [] M := by
    intro h_z
    refine Zgo hX 2 rfl (by (first | exact True.intro | assumption | (dsimp only [ZallP]; and_intros <;> (first | assumption | decide | omega | ((try simp (disch := omega) only [pk_mul, nI_add, Zcl_n]); exact Zin_n (by omega) (by decide)))))) ?_
    refine Zs_callv hX (List.cons_ne_nil _ _) (k_refuse 1 _ (by decide)) (by first | decide | omega) (by decide) rfl rfl rfl (by decide) (Nat.le_of_ble_eq_true rfl) (fun r_z M' hc_z => ?_)
    obtain ⟨rfl, hsc⟩ := hc_z
    refine Zs_ret hX hE rfl ⟨by rw [Fvoice, if_neg h_z], hsc.hv, a_z, ha_z, (hsc 40 1 rfl).trans ht_z⟩
  refine Zgo hX 2 rfl (by (first | exact True.intro | assumption | (dsimp only [ZallP]; and_intros <;> (first | assumption | decide | omega | ((try simp (disch := omega) only [pk_mul, nI_add, Zcl_n]); exact Zin_n (by omega) (by decide)))))) ?_
  refine Zs_callv hX (List.cons_ne_nil _ _) (k_isRow row_z n_z M (hz_z.n hn_z) hn2) (by first | decide | omega) (by decide) rfl rfl rfl (by decide) (Nat.le_of_ble_eq_true rfl) (fun r_z M' hc_z => ?_)
  rcases hc_z with ⟨⟨rfl, h1_z⟩ | ⟨rfl, h1_z⟩, rfl⟩
  · refine Zs_eq hX (List.cons_ne_nil _ _) (fun q_z => False.elim (by revert q_z; decide)) (fun _ => ?_)
    refine Zgo hX 3 rfl (by (first | exact True.intro | assumption | (dsimp only [ZallP]; and_intros <;> (first | assumption | decide | omega | ((try simp (disch := omega) only [pk_mul, nI_add, Zcl_n]); exact Zin_n (by omega) (by decide)))))) ?_
    refine Zs_calls hX (List.cons_ne_nil _ _) (by decide) (k_within _ _ _ _) (by first | decide | omega) rfl rfl (by decide) (Nat.le_of_ble_eq_true rfl) (fun r_z M' hc_z => ?_)
    rcases hc_z with ⟨⟨rfl, h2_z⟩ | ⟨rfl, h2_z⟩, rfl⟩
    · refine Zs_ne hX (List.cons_ne_nil _ _) (fun _ => ?_) (fun q_z => False.elim (by revert q_z; decide))
      have hall := And.intro h1_z h2_z
      obtain ⟨i_z, hi_z, rfl, ei⟩ := Zvp h1_z (by omega)
      obtain ⟨w_z, hw_z, rfl⟩ := Zbt_ex (b_z := 3) (by decide) h2_z
      obtain ⟨⟨kd_z, hkd, e1_z⟩, ⟨m_z, hm_z, e2_z⟩, -, -, -⟩ := hfi.rw hn_z hn2 hi_z
      refine Zgo hX 7 rfl (by (first | exact True.intro | assumption | (dsimp only [ZallP]; and_intros <;> (first | assumption | decide | omega | ((try simp (disch := omega) only [pk_mul, nI_add, Zcl_n]); exact Zin_n (by omega) (by decide)))))) ?_
      refine Zs_callv hX (List.cons_ne_nil _ _) (k_utters kd_z i_z m_z w_z x_z 18 M hkd (by omega) ((hz_z.row (by omega)).1.trans e1_z) ((hz_z.row (by omega)).2.1.trans e2_z) hw_z (Nat.le_refl _)) (by first | decide | omega) (by decide) rfl rfl rfl (by decide) (Nat.le_of_ble_eq_true rfl) (fun r_z M' hc_z => ?_)
      rcases hc_z with ⟨q1_z, q2_z, rfl, hsc⟩ | ⟨q1_z, rfl, q3, hh, b_z, hb_z, q4⟩
      · refine Zs_eq hX (List.cons_ne_nil _ _) (fun _ => ?_) (fun q_z => False.elim (by revert q_z; decide))
        refine Zgo hX 2 rfl (by (first | exact True.intro | assumption | (dsimp only [ZallP]; and_intros <;> (first | assumption | decide | omega | ((try simp (disch := omega) only [pk_mul, nI_add, Zcl_n]); exact Zin_n (by omega) (by decide)))))) ?_
        refine Zs_callv hX (List.cons_ne_nil _ _) (k_refuse 6 _ (by decide)) (by first | decide | omega) (by decide) rfl rfl rfl (by decide) (Nat.le_of_ble_eq_true rfl) (fun r_z M' hc_z => ?_)
        obtain ⟨rfl, hsc2⟩ := hc_z
        refine Zs_ret hX hE rfl ⟨by rw [Fvoice, if_pos hall, ei, e2_z, if_pos ⟨by rw [q1_z], q2_z⟩], (hsc.tr hsc2).hv, a_z, ha_z, ((hsc.tr hsc2) 40 1 rfl).trans ht_z⟩
      · refine Zs_eq hX (List.cons_ne_nil _ _) (fun q_z => False.elim (by revert q_z; decide)) (fun _ => ?_)
        refine Zgo hX 4 rfl (by (first | exact True.intro | assumption | (dsimp only [ZallP]; and_intros <;> (first | assumption | decide | omega | ((try simp (disch := omega) only [pk_mul, nI_add, Zcl_n]); exact Zin_n (by omega) (by decide)))))) ?_
        rw [q3]
        refine Zs_ret hX hE rfl ⟨by rw [Fvoice, if_pos hall, ei, e1_z, e2_z, if_neg (fun q_z => q1_z ⟨Zeq (by omega) (by decide) q_z.1, q_z.2⟩), Zcl_n (show kd_z < 2 ^ 31 by omega), Zcl_n (show w_z < 2 ^ 31 by omega)], hh, b_z, hb_z, q4⟩
    · refine Zs_ne hX (List.cons_ne_nil _ _) (fun q_z => False.elim (by revert q_z; decide)) (fun _ => ?_)
      exact BAD (fun q_z => h2_z q_z.2)
  · refine Zs_eq hX (List.cons_ne_nil _ _) (fun _ => ?_) (fun q_z => False.elim (by revert q_z; decide))
    exact BAD (fun q_z => h1_z q_z.1)
