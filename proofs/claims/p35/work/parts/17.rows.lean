set_option maxRecDepth 20000 in
set_option maxHeartbeats 1000000 in
theorem k_addRow (f_z : Nat → Int32) (n_z k_z : Nat) (w_z t : Int32) (M : Zmem) (hz_z : Zrv 1 f_z M) (hn_z : f_z 7 = nI n_z) (hn2 : n_z < 15) (hk_z : k_z ≤ 69) : ZC 168 0 [.ref 1, .int (nI k_z), .int w_z, .int t] M (fun r_z M' => r_z = none ∧ Zrv 1 (upd (Zkn f_z n_z (nI k_z) w_z t) 7 (nI (n_z + 1))) M' ∧ Zhk M M') := by
  refine ZC_of Zt168 Zk168 (Nat.le_of_ble_eq_true rfl) (by decide) rfl (fun X hX hE => ?_)
  have e5 : ∀ (o_z j_z : Nat) (v_z : Int32) (M1 : Zmem), o_z ≠ 1 → M1 1 5 = nI n_z → (Zu M1 o_z j_z v_z) 1 5 = nI n_z := fun o_z j_z v_z M1 ho h_z => by rw [Zu_ne _ _ _ (fun q_z => ho q_z.symm)]; exact h_z
  have h0_z := hz_z.n hn_z
  have V : vp_in (nI n_z) 15 := Zin_n (by omega) (by decide)
  have C : (nI n_z).toNatClampNeg = n_z := Zcl_n (by omega)
  refine Zgo hX 3 rfl (by (first | exact True.intro | assumption | (dsimp only [ZallP]; and_intros <;> (first | assumption | decide | omega | ((try simp (disch := omega) only [pk_mul, nI_add, Zcl_n]); exact Zin_n (by omega) (by decide)))))) ?_
  rw [h0_z]
  refine Zs_ige hX (List.cons_ne_nil _ _) (fun h6_z => ?_) (fun h6_z => ?_)
  · exact absurd ((Zn_le (by decide) (by omega)).mp h6_z) (by omega)
  · refine Zgo hX 8 rfl ⟨(show ¬ nI 10 = nI 0 by decide), by show vp_in (M 1 5) 15; rw [h0_z]; exact V⟩ ?_
    rw [h0_z, C, pk_div (by omega) (by decide) (by decide)]
    have h1_z := e5 2 n_z (nI (k_z / 10)) M (by decide) h0_z
    refine Zgo hX 8 rfl ⟨(show ¬ nI 10 = nI 0 by decide), by show vp_in ((Zu M 2 n_z (nI (k_z / 10))) 1 5) 15; rw [h1_z]; exact V⟩ ?_
    rw [h1_z, C, pk_rem (by omega) (by decide) (by decide)]
    have h2_z := e5 3 n_z (nI (k_z % 10)) _ (by decide) h1_z
    refine Zgo hX 6 rfl (by show vp_in ((Zu (Zu M 2 n_z (nI (k_z / 10))) 3 n_z (nI (k_z % 10))) 1 5) 15; rw [h2_z]; exact V) ?_
    rw [h2_z, C]
    have h3_z := e5 4 n_z w_z _ (by decide) h2_z
    refine Zgo hX 6 rfl (by show vp_in ((Zu (Zu (Zu M 2 n_z (nI (k_z / 10))) 3 n_z (nI (k_z % 10))) 4 n_z w_z) 1 5) 15; rw [h3_z]; exact V) ?_
    rw [h3_z, C]
    have h4_z := e5 5 n_z t _ (by decide) h3_z
    refine Zgo hX 6 rfl (by show vp_in ((Zu (Zu (Zu (Zu M 2 n_z (nI (k_z / 10))) 3 n_z (nI (k_z % 10))) 4 n_z w_z) 5 n_z t) 1 5) 15; rw [h4_z]; exact V) ?_
    rw [h4_z, C]
    have h5_z := e5 6 n_z (nI 0) _ (by decide) h4_z
    refine Zgo hX 6 rfl (by (first | exact True.intro | assumption | (dsimp only [ZallP]; and_intros <;> (first | assumption | decide | omega | ((try simp (disch := omega) only [pk_mul, nI_add, Zcl_n]); exact Zin_n (by omega) (by decide)))))) ?_
    rw [h5_z, nI_add]
    refine Zs_retv hX hE rfl ⟨rfl, ?_, ((((((Zhk.rf M).u _ (by decide) _ _).u _ (by decide) _ _).u _ (by decide) _ _).u _ (by decide) _ _).u _ (by decide) _ _).u _ (by decide) _ _⟩
    have z1_z := hz_z.r0 (nI (k_z / 10)) hn2
    have z2_z := z1_z.r1 (nI (k_z % 10)) hn2
    have z3 := z2_z.r2 w_z hn2
    have z4 := z3.r3 t hn2
    have z5 := z4.r4 (nI 0) hn2
    have z6 := z5.n1 (nI (n_z + 1))
    unfold Zkn
    rw [Zcl_n (show k_z < 2 ^ 31 by omega)]
    exact z6

set_option maxRecDepth 20000 in
set_option maxHeartbeats 1000000 in
theorem k_knit (f_z : Nat → Int32) (n_z : Nat) (km w_z t : Int32) (M : Zmem) (hz_z : Zrv 1 f_z M) (hfi : Zfi f_z) (hn_z : f_z 7 = nI n_z) (hn2 : n_z ≤ 15) : ZC 1 4 [.ref 0, .int km, .int w_z, .int t] M (Zkok (Fknit f_z n_z km w_z t) M) := by
  refine ZC_of Zt1 Zk1 (Nat.le_of_ble_eq_true rfl) (by decide) rfl (fun X hX hE => ?_)
  have BAD : ¬ ((nI 0 ≤ km ∧ km ≤ nI 69) ∧ (nI 1 ≤ w_z ∧ w_z ≤ nI 12) ∧ (-(nI 9) ≤ t ∧ t ≤ nI 9)) → ZP X Zt1 (Zsf Zt1 24) (lv_args 0 [.ref 0, .int km, .int w_z, .int t]) [] M := by
    intro h_z
    refine Zgo hX 2 rfl (by (first | exact True.intro | assumption | (dsimp only [ZallP]; and_intros <;> (first | assumption | decide | omega | ((try simp (disch := omega) only [pk_mul, nI_add, Zcl_n]); exact Zin_n (by omega) (by decide)))))) ?_
    refine Zs_callv hX (List.cons_ne_nil _ _) (k_refuse 1 _ (by decide)) (by first | decide | omega) (by decide) rfl rfl rfl (by decide) (Nat.le_of_ble_eq_true rfl) (fun r_z M' hc_z => ?_)
    obtain ⟨rfl, hsc⟩ := hc_z
    refine Zs_ret hX hE rfl (by rw [Fknit, if_neg h_z]; exact Zkok_e hz_z hsc)
  refine Zgo hX 1 rfl (by (first | exact True.intro | assumption | (dsimp only [ZallP]; and_intros <;> (first | assumption | decide | omega | ((try simp (disch := omega) only [pk_mul, nI_add, Zcl_n]); exact Zin_n (by omega) (by decide)))))) ?_
  refine Zs_calls hX (List.cons_ne_nil _ _) (by decide) (k_isStitch _ _) (by first | decide | omega) rfl rfl (by decide) (Nat.le_of_ble_eq_true rfl) (fun r_z M' hc_z => ?_)
  rcases hc_z with ⟨⟨rfl, h1_z⟩ | ⟨rfl, h1_z⟩, rfl⟩
  · refine Zs_eq hX (List.cons_ne_nil _ _) (fun q_z => False.elim (by revert q_z; decide)) (fun _ => ?_)
    refine Zgo hX 3 rfl (by (first | exact True.intro | assumption | (dsimp only [ZallP]; and_intros <;> (first | assumption | decide | omega | ((try simp (disch := omega) only [pk_mul, nI_add, Zcl_n]); exact Zin_n (by omega) (by decide)))))) ?_
    refine Zs_calls hX (List.cons_ne_nil _ _) (by decide) (k_within _ _ _ _) (by first | decide | omega) rfl rfl (by decide) (Nat.le_of_ble_eq_true rfl) (fun r_z M' hc_z => ?_)
    rcases hc_z with ⟨⟨rfl, h2_z⟩ | ⟨rfl, h2_z⟩, rfl⟩
    · refine Zs_eq hX (List.cons_ne_nil _ _) (fun q_z => False.elim (by revert q_z; decide)) (fun _ => ?_)
      refine Zgo hX 1 rfl (by (first | exact True.intro | assumption | (dsimp only [ZallP]; and_intros <;> (first | assumption | decide | omega | ((try simp (disch := omega) only [pk_mul, nI_add, Zcl_n]); exact Zin_n (by omega) (by decide)))))) ?_
      refine Zs_calls hX (List.cons_ne_nil _ _) (by decide) (k_isTension _ _) (by first | decide | omega) rfl rfl (by decide) (Nat.le_of_ble_eq_true rfl) (fun r_z M' hc_z => ?_)
      rcases hc_z with ⟨⟨rfl, h3_z⟩ | ⟨rfl, h3_z⟩, rfl⟩
      · refine Zs_ne hX (List.cons_ne_nil _ _) (fun _ => ?_) (fun q_z => False.elim (by revert q_z; decide))
        have hall := And.intro h1_z (And.intro h2_z h3_z)
        obtain ⟨k_z, hk_z, rfl⟩ := Zbt_ex (by decide) h1_z
        obtain ⟨kd_z, m_z, hkd, hm_z, rfl, ekd, em⟩ := Zkm_of hk_z
        refine Zgo hX 4 rfl (by (first | exact True.intro | assumption | (dsimp only [ZallP]; and_intros <;> (first | assumption | decide | omega | ((try simp (disch := omega) only [pk_mul, nI_add, Zcl_n]); exact Zin_n (by omega) (by decide)))))) ?_
        rw [hz_z.n hn_z]
        refine Zs_ilt hX (List.cons_ne_nil _ _) (fun h39_z => ?_) (fun h39_z => ?_)
        · have hlt : n_z < 15 := (Zn_lt (by omega) (by decide)).mp h39_z
          have ekm : Zkm f_z (nI (10 * kd_z + m_z)) w_z t = Zyn f_z (Zsaid kd_z m_z w_z t (f_z 2)) w_z t := by unfold Zkm; rw [Zcl_n (show 10 * kd_z + m_z < 2 ^ 31 by omega), ekd, em]
          refine Zgo hX 5 rfl (by (first | exact True.intro | assumption | (dsimp only [ZallP]; and_intros <;> (first | assumption | decide | omega | ((try simp (disch := omega) only [pk_mul, nI_add, Zcl_n]); exact Zin_n (by omega) (by decide)))))) ?_
          refine Zs_callv hX (List.cons_ne_nil _ _) (k_yarnFor f_z kd_z m_z w_z t _ hkd hm_z hz_z.1.2.2.2.1 hz_z.2.2.2.2.1 hfi.2.2.2.1) (by first | decide | omega) (by decide) rfl rfl rfl (by decide) (Nat.le_of_ble_eq_true rfl) (fun r_z M' hc_z => ?_)
          obtain ⟨rfl, hs2⟩ := hc_z
          rw [← ekm]
          have hz2 := hz_z.sc (Or.inl rfl) hs2.sc
          refine Zgo hX 5 rfl (by (first | exact True.intro | assumption | (dsimp only [ZallP]; and_intros <;> (first | assumption | decide | omega | ((try simp (disch := omega) only [pk_mul, nI_add, Zcl_n]); exact Zin_n (by omega) (by decide)))))) ?_
          rw [show M' 1 6 = f_z 0 from hz2.1.2.1]
          refine Zs_ige hX (List.cons_ne_nil _ _) (fun h69_z => ?_) (fun h69_z => ?_)
          · refine Zgo hX 5 rfl (by (first | exact True.intro | assumption | (dsimp only [ZallP]; and_intros <;> (first | assumption | decide | omega | ((try simp (disch := omega) only [pk_mul, nI_add, Zcl_n]); exact Zin_n (by omega) (by decide)))))) ?_
            refine Zs_callv hX (List.cons_ne_nil _ _) (k_addRow f_z n_z (10 * kd_z + m_z) w_z t _ hz2 hn_z hlt (by omega)) (by first | decide | omega) (by decide) rfl rfl rfl (by decide) (Nat.le_of_ble_eq_true rfl) (fun r_z M' hc_z => ?_)
            obtain ⟨rfl, hz3, hk3⟩ := hc_z
            refine Zgo hX 8 rfl (by (first | exact True.intro | assumption | (dsimp only [ZallP]; and_intros <;> (first | assumption | decide | omega | ((try simp (disch := omega) only [pk_mul, nI_add, Zcl_n]); exact Zin_n (by omega) (by decide)))))) ?_
            refine Zs_ret hX hE rfl (by rw [Fknit, if_pos hall, if_neg (by omega), if_neg (Int32.not_lt.mpr h69_z)]; refine ⟨rfl, ?_, (hs2.sc.hk.tr hk3).u _ (by decide) _ _⟩; have e_z := hz3.1.2.1; rw [show (upd (Zkn f_z n_z (nI (10 * kd_z + m_z)) w_z t) 7 (nI (n_z + 1))) 0 = f_z 0 from by unfold Zkn; rw [pk_un (by decide), pk_un (by omega), pk_un (by omega), pk_un (by omega), pk_un (by omega), pk_un (by omega)]] at e_z; rw [e_z]; exact hz3.th1 _)
          · refine Zgo hX 2 rfl (by (first | exact True.intro | assumption | (dsimp only [ZallP]; and_intros <;> (first | assumption | decide | omega | ((try simp (disch := omega) only [pk_mul, nI_add, Zcl_n]); exact Zin_n (by omega) (by decide)))))) ?_
            refine Zs_callv hX (List.cons_ne_nil _ _) (k_refuse 3 _ (by decide)) (by first | decide | omega) (by decide) rfl rfl rfl (by decide) (Nat.le_of_ble_eq_true rfl) (fun r_z M' hc_z => ?_)
            obtain ⟨rfl, hsc⟩ := hc_z
            refine Zs_ret hX hE rfl (by rw [Fknit, if_pos hall, if_neg (by omega), if_pos (Int32.not_le.mp h69_z)]; exact Zkok_e hz_z (hs2.sc.tr hsc))
        · have e15 : n_z = 15 := by
            have := (Nat.lt_or_ge n_z 15).elim (fun q_z => absurd ((Zn_lt (by omega) (by decide)).mpr q_z) h39_z) id
            omega
          refine Zgo hX 2 rfl (by (first | exact True.intro | assumption | (dsimp only [ZallP]; and_intros <;> (first | assumption | decide | omega | ((try simp (disch := omega) only [pk_mul, nI_add, Zcl_n]); exact Zin_n (by omega) (by decide)))))) ?_
          refine Zs_callv hX (List.cons_ne_nil _ _) (k_refuse 4 _ (by decide)) (by first | decide | omega) (by decide) rfl rfl rfl (by decide) (Nat.le_of_ble_eq_true rfl) (fun r_z M' hc_z => ?_)
          obtain ⟨rfl, hsc⟩ := hc_z
          refine Zs_ret hX hE rfl (by rw [Fknit, if_pos hall, if_pos e15]; exact Zkok_e hz_z hsc)
      · refine Zs_ne hX (List.cons_ne_nil _ _) (fun q_z => False.elim (by revert q_z; decide)) (fun _ => ?_)
        exact BAD (fun q_z => h3_z q_z.2.2)
    · refine Zs_eq hX (List.cons_ne_nil _ _) (fun _ => ?_) (fun q_z => False.elim (by revert q_z; decide))
      exact BAD (fun q_z => h2_z q_z.2.1)
  · refine Zs_eq hX (List.cons_ne_nil _ _) (fun _ => ?_) (fun q_z => False.elim (by revert q_z; decide))
    exact BAD (fun q_z => h1_z q_z.1)

set_option maxRecDepth 20000 in
set_option maxHeartbeats 1000000 in
theorem s_knit (n_z : Nat) (km w_z t : Int32) (M : Zmem) (hfi : Zfi (M 54)) (hn_z : M 54 7 = nI n_z) (hn2 : n_z ≤ 15) : ZC 89 4 [.ref 53, .int km, .int w_z, .int t] M (Zsok (Fknit (M 54) n_z km w_z t) M) := by
  refine ZC_of Zt89 Zk89 (Nat.le_of_ble_eq_true rfl) (by decide) rfl (fun X hX hE => ?_)
  have BAD : ¬ ((nI 0 ≤ km ∧ km ≤ nI 69) ∧ (nI 1 ≤ w_z ∧ w_z ≤ nI 12) ∧ (-(nI 9) ≤ t ∧ t ≤ nI 9)) → ZP X Zt89 (Zsf Zt89 24) (lv_args 0 [.ref 53, .int km, .int w_z, .int t]) [] M := by
    intro h_z
    refine Zgo hX 2 rfl (by (first | exact True.intro | assumption | (dsimp only [ZallP]; and_intros <;> (first | assumption | decide | omega | ((try simp (disch := omega) only [pk_mul, nI_add, Zcl_n]); exact Zin_n (by omega) (by decide)))))) ?_
    refine Zs_callv hX (List.cons_ne_nil _ _) (s_error 1 _ (by decide)) (by first | decide | omega) (by decide) rfl rfl rfl (by decide) (Nat.le_of_ble_eq_true rfl) (fun r_z M' hc_z => ?_)
    obtain ⟨rfl, hsc⟩ := hc_z
    refine Zs_ret hX hE rfl (by rw [Fknit, if_neg h_z]; exact Zsok_e hsc)
  refine Zgo hX 1 rfl (by (first | exact True.intro | assumption | (dsimp only [ZallP]; and_intros <;> (first | assumption | decide | omega | ((try simp (disch := omega) only [pk_mul, nI_add, Zcl_n]); exact Zin_n (by omega) (by decide)))))) ?_
  refine Zs_calls hX (List.cons_ne_nil _ _) (by decide) (s_isKind _ _) (by first | decide | omega) rfl rfl (by decide) (Nat.le_of_ble_eq_true rfl) (fun r_z M' hc_z => ?_)
  rcases hc_z with ⟨⟨rfl, h1_z⟩ | ⟨rfl, h1_z⟩, rfl⟩
  · refine Zs_eq hX (List.cons_ne_nil _ _) (fun q_z => False.elim (by revert q_z; decide)) (fun _ => ?_)
    refine Zgo hX 3 rfl (by (first | exact True.intro | assumption | (dsimp only [ZallP]; and_intros <;> (first | assumption | decide | omega | ((try simp (disch := omega) only [pk_mul, nI_add, Zcl_n]); exact Zin_n (by omega) (by decide)))))) ?_
    refine Zs_calls hX (List.cons_ne_nil _ _) (by decide) (s_in _ _ _ _) (by first | decide | omega) rfl rfl (by decide) (Nat.le_of_ble_eq_true rfl) (fun r_z M' hc_z => ?_)
    rcases hc_z with ⟨⟨rfl, h2_z⟩ | ⟨rfl, h2_z⟩, rfl⟩
    · refine Zs_eq hX (List.cons_ne_nil _ _) (fun q_z => False.elim (by revert q_z; decide)) (fun _ => ?_)
      refine Zgo hX 1 rfl (by (first | exact True.intro | assumption | (dsimp only [ZallP]; and_intros <;> (first | assumption | decide | omega | ((try simp (disch := omega) only [pk_mul, nI_add, Zcl_n]); exact Zin_n (by omega) (by decide)))))) ?_
      refine Zs_calls hX (List.cons_ne_nil _ _) (by decide) (s_isTension _ _) (by first | decide | omega) rfl rfl (by decide) (Nat.le_of_ble_eq_true rfl) (fun r_z M' hc_z => ?_)
      rcases hc_z with ⟨⟨rfl, h3_z⟩ | ⟨rfl, h3_z⟩, rfl⟩
      · refine Zs_ne hX (List.cons_ne_nil _ _) (fun _ => ?_) (fun q_z => False.elim (by revert q_z; decide))
        have hall := And.intro h1_z (And.intro h2_z h3_z)
        obtain ⟨k_z, hk_z, rfl⟩ := Zbt_ex (by decide) h1_z
        obtain ⟨kd_z, m_z, hkd, hm_z, rfl, ekd, em⟩ := Zkm_of hk_z
        refine Zgo hX 5 rfl (Zin_n (by decide) (by decide)) ?_
        simp only [Zcl_n, Nat.reducePow, Nat.reduceLT]
        rw [hn_z]
        refine Zs_ine hX (List.cons_ne_nil _ _) (fun h37_z => ?_) (fun h37_z => ?_)
        · have hlt : n_z < 15 := by have : n_z ≠ 15 := fun q_z => h37_z (by rw [q_z]); omega
          have ekm : Zkm (M 54) (nI (10 * kd_z + m_z)) w_z t = Zyn (M 54) (Zsaid kd_z m_z w_z t (M 54 2)) w_z t := by unfold Zkm; rw [Zcl_n (show 10 * kd_z + m_z < 2 ^ 31 by omega), ekd, em]
          refine Zgo hX 4 rfl (by (first | exact True.intro | assumption | (dsimp only [ZallP]; and_intros <;> (first | assumption | decide | omega | ((try simp (disch := omega) only [pk_mul, nI_add, Zcl_n]); exact Zin_n (by omega) (by decide)))))) ?_
          refine Zs_callv hX (List.cons_ne_nil _ _) (s_yarnAs kd_z m_z w_z t _ hkd hm_z hfi.2.2.2.1) (by first | decide | omega) (by decide) rfl rfl rfl (by decide) (Nat.le_of_ble_eq_true rfl) (fun r_z M' hc_z => ?_)
          obtain ⟨rfl, hs2⟩ := hc_z
          rw [← ekm]
          have e54 := hs2.sc.f54
          refine Zgo hX 6 rfl (Zin_n (by decide) (by decide)) ?_
          simp only [Zcl_n, Nat.reducePow, Nat.reduceLT]
          rw [e54]
          refine Zs_ige hX (List.cons_ne_nil _ _) (fun h65_z => ?_) (fun h65_z => ?_)
          · refine Zgo hX 5 rfl (Zin_n (by decide) (by decide)) ?_
            simp only [Zcl_n, Nat.reducePow, Nat.reduceLT]
            rw [e54, hn_z]
            refine Zgo hX 6 rfl (by (first | exact True.intro | assumption | (dsimp only [ZallP]; and_intros <;> (first | assumption | decide | omega | ((try simp (disch := omega) only [pk_mul, nI_add, Zcl_n]); exact Zin_n (by omega) (by decide)))))) ?_
            refine Zs_callv hX (List.cons_ne_nil _ _) (s_lays1 n_z 0 _ _ (by omega) (by decide)) (by first | decide | omega) (by decide) rfl rfl rfl (by decide) (Nat.le_of_ble_eq_true rfl) (fun r_z M' hc_z => ?_)
            obtain ⟨rfl, rfl⟩ := hc_z
            refine Zgo hX 6 rfl (by (first | exact True.intro | assumption | (dsimp only [ZallP]; and_intros <;> (first | assumption | decide | omega | ((try simp (disch := omega) only [pk_mul, nI_add, Zcl_n]); exact Zin_n (by omega) (by decide)))))) ?_
            refine Zs_callv hX (List.cons_ne_nil _ _) (s_lays1 n_z 1 _ _ (by omega) (by decide)) (by first | decide | omega) (by decide) rfl rfl rfl (by decide) (Nat.le_of_ble_eq_true rfl) (fun r_z M' hc_z => ?_)
            obtain ⟨rfl, rfl⟩ := hc_z
            refine Zgo hX 4 rfl (by (first | exact True.intro | assumption | (dsimp only [ZallP]; and_intros <;> (first | assumption | decide | omega | ((try simp (disch := omega) only [pk_mul, nI_add, Zcl_n]); exact Zin_n (by omega) (by decide)))))) ?_
            refine Zs_callv hX (List.cons_ne_nil _ _) (s_lays1 n_z 2 _ _ (by omega) (by decide)) (by first | decide | omega) (by decide) rfl rfl rfl (by decide) (Nat.le_of_ble_eq_true rfl) (fun r_z M' hc_z => ?_)
            obtain ⟨rfl, rfl⟩ := hc_z
            refine Zgo hX 4 rfl (by (first | exact True.intro | assumption | (dsimp only [ZallP]; and_intros <;> (first | assumption | decide | omega | ((try simp (disch := omega) only [pk_mul, nI_add, Zcl_n]); exact Zin_n (by omega) (by decide)))))) ?_
            refine Zs_callv hX (List.cons_ne_nil _ _) (s_lays1 n_z 3 _ _ (by omega) (by decide)) (by first | decide | omega) (by decide) rfl rfl rfl (by decide) (Nat.le_of_ble_eq_true rfl) (fun r_z M' hc_z => ?_)
            obtain ⟨rfl, rfl⟩ := hc_z
            refine Zgo hX 4 rfl (by (first | exact True.intro | assumption | (dsimp only [ZallP]; and_intros <;> (first | assumption | decide | omega | ((try simp (disch := omega) only [pk_mul, nI_add, Zcl_n]); exact Zin_n (by omega) (by decide)))))) ?_
            refine Zs_callv hX (List.cons_ne_nil _ _) (s_lays1 n_z 4 _ _ (by omega) (by decide)) (by first | decide | omega) (by decide) rfl rfl rfl (by decide) (Nat.le_of_ble_eq_true rfl) (fun r_z M' hc_z => ?_)
            obtain ⟨rfl, rfl⟩ := hc_z
            refine Zgo hX 8 rfl ⟨Zin_n (by decide) (by decide), Zin_n (by decide) (by decide)⟩ ?_
            refine Zgo hX 9 rfl ⟨Zin_n (by decide) (by decide), Zin_n (by decide) (by decide)⟩ ?_
            simp only [Zcl_n, Nat.reducePow, Nat.reduceLT]
            rw [pk_rem (by omega) (by decide) (by decide), pk_div (by omega) (by decide) (by decide)]
            refine Zs_ret hX hE rfl (by rw [Fknit, if_pos hall, if_neg (by omega), if_neg (Int32.not_lt.mpr h65_z)]; refine ⟨rfl, (Zkn_s e54 hn_z hn2 hk_z ekd em).trans ?_, (((((((hs2.sc.hs.u _ _).u _ _).u _ _).u _ _).u _ _).u _ _).u _ _)⟩; refine congrArg (upd (upd (Zkn (M 54) n_z (nI (10 * kd_z + m_z)) w_z t) 7 (nI (n_z + 1))) 0) (congrArg (fun z_z => z_z - Zkm (M 54) (nI (10 * kd_z + m_z)) w_z t) ?_); simp (disch := omega) only [Zu_o]; rw [e54])
          · refine Zgo hX 2 rfl (by (first | exact True.intro | assumption | (dsimp only [ZallP]; and_intros <;> (first | assumption | decide | omega | ((try simp (disch := omega) only [pk_mul, nI_add, Zcl_n]); exact Zin_n (by omega) (by decide)))))) ?_
            refine Zs_callv hX (List.cons_ne_nil _ _) (s_error 3 _ (by decide)) (by first | decide | omega) (by decide) rfl rfl rfl (by decide) (Nat.le_of_ble_eq_true rfl) (fun r_z M' hc_z => ?_)
            obtain ⟨rfl, hsc⟩ := hc_z
            refine Zs_ret hX hE rfl (by rw [Fknit, if_pos hall, if_neg (by omega), if_pos (Int32.not_le.mp h65_z)]; exact Zsok_e (hs2.sc.tr hsc))
        · have e15 : n_z = 15 := Zeq (by omega) (by decide) h37_z
          refine Zgo hX 2 rfl (by (first | exact True.intro | assumption | (dsimp only [ZallP]; and_intros <;> (first | assumption | decide | omega | ((try simp (disch := omega) only [pk_mul, nI_add, Zcl_n]); exact Zin_n (by omega) (by decide)))))) ?_
          refine Zs_callv hX (List.cons_ne_nil _ _) (s_error 4 _ (by decide)) (by first | decide | omega) (by decide) rfl rfl rfl (by decide) (Nat.le_of_ble_eq_true rfl) (fun r_z M' hc_z => ?_)
          obtain ⟨rfl, hsc⟩ := hc_z
          refine Zs_ret hX hE rfl (by rw [Fknit, if_pos hall, if_pos e15]; exact Zsok_e hsc)
      · refine Zs_ne hX (List.cons_ne_nil _ _) (fun q_z => False.elim (by revert q_z; decide)) (fun _ => ?_)
        exact BAD (fun q_z => h3_z q_z.2.2)
    · refine Zs_eq hX (List.cons_ne_nil _ _) (fun _ => ?_) (fun q_z => False.elim (by revert q_z; decide))
      exact BAD (fun q_z => h2_z q_z.2.1)
  · refine Zs_eq hX (List.cons_ne_nil _ _) (fun _ => ?_) (fun q_z => False.elim (by revert q_z; decide))
    exact BAD (fun q_z => h1_z q_z.1)

set_option maxRecDepth 20000 in
set_option maxHeartbeats 1000000 in
theorem k_become (f_z : Nat → Int32) (n_z : Nat) (row_z km : Int32) (M : Zmem) (hz_z : Zrv 1 f_z M) (hfi : Zfi f_z) (hn_z : f_z 7 = nI n_z) (hn2 : n_z ≤ 15) : ZC 3 2 [.ref 0, .int row_z, .int km] M (Zkok (Fbecome f_z n_z row_z km) M) := by
  refine ZC_of Zt3 Zk3 (Nat.le_of_ble_eq_true rfl) (by decide) rfl (fun X hX hE => ?_)
  have BAD : ¬ (vp_in row_z n_z ∧ nI 0 ≤ km ∧ km ≤ nI 69) → ZP X Zt3 (Zsf Zt3 15) (lv_args 0 [.ref 0, .int row_z, .int km]) [] M := by
    intro h_z
    refine Zgo hX 2 rfl (by (first | exact True.intro | assumption | (dsimp only [ZallP]; and_intros <;> (first | assumption | decide | omega | ((try simp (disch := omega) only [pk_mul, nI_add, Zcl_n]); exact Zin_n (by omega) (by decide)))))) ?_
    refine Zs_callv hX (List.cons_ne_nil _ _) (k_refuse 1 _ (by decide)) (by first | decide | omega) (by decide) rfl rfl rfl (by decide) (Nat.le_of_ble_eq_true rfl) (fun r_z M' hc_z => ?_)
    obtain ⟨rfl, hsc⟩ := hc_z
    refine Zs_ret hX hE rfl (by rw [Fbecome, if_neg h_z]; exact Zkok_e hz_z hsc)
  refine Zgo hX 2 rfl (by (first | exact True.intro | assumption | (dsimp only [ZallP]; and_intros <;> (first | assumption | decide | omega | ((try simp (disch := omega) only [pk_mul, nI_add, Zcl_n]); exact Zin_n (by omega) (by decide)))))) ?_
  refine Zs_callv hX (List.cons_ne_nil _ _) (k_isRow row_z n_z M (hz_z.n hn_z) hn2) (by first | decide | omega) (by decide) rfl rfl rfl (by decide) (Nat.le_of_ble_eq_true rfl) (fun r_z M' hc_z => ?_)
  rcases hc_z with ⟨⟨rfl, h1_z⟩ | ⟨rfl, h1_z⟩, rfl⟩
  · refine Zs_eq hX (List.cons_ne_nil _ _) (fun q_z => False.elim (by revert q_z; decide)) (fun _ => ?_)
    refine Zgo hX 1 rfl (by (first | exact True.intro | assumption | (dsimp only [ZallP]; and_intros <;> (first | assumption | decide | omega | ((try simp (disch := omega) only [pk_mul, nI_add, Zcl_n]); exact Zin_n (by omega) (by decide)))))) ?_
    refine Zs_calls hX (List.cons_ne_nil _ _) (by decide) (k_isStitch _ _) (by first | decide | omega) rfl rfl (by decide) (Nat.le_of_ble_eq_true rfl) (fun r_z M' hc_z => ?_)
    rcases hc_z with ⟨⟨rfl, h2_z⟩ | ⟨rfl, h2_z⟩, rfl⟩
    · refine Zs_ne hX (List.cons_ne_nil _ _) (fun _ => ?_) (fun q_z => False.elim (by revert q_z; decide))
      have hall := And.intro h1_z h2_z
      obtain ⟨i_z, hi_z, rfl, ei⟩ := Zvp h1_z (by omega)
      obtain ⟨k_z, hk_z, rfl⟩ := Zbt_ex (by decide) h2_z
      refine Zgo hX 6 rfl (Zin_n (by omega) (by decide)) ?_
      rw [ei]
      refine Zgo hX 8 rfl ⟨(show ¬ nI 10 = nI 0 by decide), Zin_n (by omega) (by decide)⟩ ?_
      rw [ei, pk_div (by omega) (by decide) (by decide)]
      refine Zgo hX 9 rfl ⟨(show ¬ nI 10 = nI 0 by decide), Zin_n (by omega) (by decide)⟩ ?_
      rw [ei, pk_rem (by omega) (by decide) (by decide)]
      refine Zs_ret hX hE rfl (by rw [Fbecome, if_pos hall, ei, Zcl_n (show k_z < 2 ^ 31 by omega)]; exact ⟨congrArg (fun z_z => some (Value.int z_z)) (hz_z.row (by omega)).1, by rw [Zupd_c (by omega)]; exact (hz_z.r0 _ (by omega)).r1 _ (by omega), ((Zhk.rf M).u _ (by decide) _ _).u _ (by decide) _ _⟩)
    · refine Zs_ne hX (List.cons_ne_nil _ _) (fun q_z => False.elim (by revert q_z; decide)) (fun _ => ?_)
      exact BAD (fun q_z => h2_z q_z.2)
  · refine Zs_eq hX (List.cons_ne_nil _ _) (fun _ => ?_) (fun q_z => False.elim (by revert q_z; decide))
    exact BAD (fun q_z => h1_z q_z.1)

set_option maxRecDepth 20000 in
set_option maxHeartbeats 1000000 in
theorem s_become (n_z : Nat) (row_z km : Int32) (M : Zmem) (hfi : Zfi (M 54)) (hn_z : M 54 7 = nI n_z) (hn2 : n_z ≤ 15) : ZC 91 2 [.ref 53, .int row_z, .int km] M (Zsok (Fbecome (M 54) n_z row_z km) M) := by
  refine ZC_of Zt91 Zk91 (Nat.le_of_ble_eq_true rfl) (by decide) rfl (fun X hX hE => ?_)
  have BAD : ¬ (vp_in row_z n_z ∧ nI 0 ≤ km ∧ km ≤ nI 69) → ZP X Zt91 (Zsf Zt91 15) (lv_args 0 [.ref 53, .int row_z, .int km]) [] M := by
    intro h_z
    refine Zgo hX 2 rfl (by (first | exact True.intro | assumption | (dsimp only [ZallP]; and_intros <;> (first | assumption | decide | omega | ((try simp (disch := omega) only [pk_mul, nI_add, Zcl_n]); exact Zin_n (by omega) (by decide)))))) ?_
    refine Zs_callv hX (List.cons_ne_nil _ _) (s_error 1 _ (by decide)) (by first | decide | omega) (by decide) rfl rfl rfl (by decide) (Nat.le_of_ble_eq_true rfl) (fun r_z M' hc_z => ?_)
    obtain ⟨rfl, hsc⟩ := hc_z
    refine Zs_ret hX hE rfl (by rw [Fbecome, if_neg h_z]; exact Zsok_e hsc)
  refine Zgo hX 2 rfl (by (first | exact True.intro | assumption | (dsimp only [ZallP]; and_intros <;> (first | assumption | decide | omega | ((try simp (disch := omega) only [pk_mul, nI_add, Zcl_n]); exact Zin_n (by omega) (by decide)))))) ?_
  refine Zs_callv hX (List.cons_ne_nil _ _) (s_isRow row_z n_z M hn_z hn2) (by first | decide | omega) (by decide) rfl rfl rfl (by decide) (Nat.le_of_ble_eq_true rfl) (fun r_z M' hc_z => ?_)
  rcases hc_z with ⟨⟨rfl, h1_z⟩ | ⟨rfl, h1_z⟩, rfl⟩
  · refine Zs_eq hX (List.cons_ne_nil _ _) (fun q_z => False.elim (by revert q_z; decide)) (fun _ => ?_)
    refine Zgo hX 1 rfl (by (first | exact True.intro | assumption | (dsimp only [ZallP]; and_intros <;> (first | assumption | decide | omega | ((try simp (disch := omega) only [pk_mul, nI_add, Zcl_n]); exact Zin_n (by omega) (by decide)))))) ?_
    refine Zs_calls hX (List.cons_ne_nil _ _) (by decide) (s_isKind _ _) (by first | decide | omega) rfl rfl (by decide) (Nat.le_of_ble_eq_true rfl) (fun r_z M' hc_z => ?_)
    rcases hc_z with ⟨⟨rfl, h2_z⟩ | ⟨rfl, h2_z⟩, rfl⟩
    · refine Zs_ne hX (List.cons_ne_nil _ _) (fun _ => ?_) (fun q_z => False.elim (by revert q_z; decide))
      have hall := And.intro h1_z h2_z
      obtain ⟨i_z, hi_z, rfl, ei⟩ := Zvp h1_z (by omega)
      obtain ⟨k_z, hk_z, rfl⟩ := Zbt_ex (by decide) h2_z
      refine Zgo hX 6 rfl (by (first | exact True.intro | assumption | (dsimp only [ZallP]; and_intros <;> (first | assumption | decide | omega | ((try simp (disch := omega) only [pk_mul, nI_add, Zcl_n]); exact Zin_n (by omega) (by decide)))))) ?_
      rw [pk_rem (by omega) (by decide) (by decide)]
      refine Zs_callv hX (List.cons_ne_nil _ _) (s_lays1 i_z 1 _ _ (by omega) (by decide)) (by first | decide | omega) (by decide) rfl rfl rfl (by decide) (Nat.le_of_ble_eq_true rfl) (fun r_z M' hc_z => ?_)
      obtain ⟨rfl, rfl⟩ := hc_z
      refine Zgo hX 11 rfl (by (first | exact True.intro | assumption | (dsimp only [ZallP]; and_intros <;> (first | assumption | decide | omega | ((try simp (disch := omega) only [pk_mul, nI_add, Zcl_n]); exact Zin_n (by omega) (by decide)))))) ?_
      rw [pk_div (by omega) (by decide) (by decide)]
      simp only [pk_mul, nI_add]
      refine Zs_callv hX (List.cons_ne_nil _ _) (s_change1 (9 + 5 * i_z + 0) _ _ (by omega)) (by first | decide | omega) (by decide) rfl rfl rfl (by decide) (Nat.le_of_ble_eq_true rfl) (fun r_z M' hc_z => ?_)
      obtain ⟨rfl, rfl⟩ := hc_z
      refine Zs_ret hX hE rfl (by rw [Fbecome, if_pos hall, ei, Zcl_n (show k_z < 2 ^ 31 by omega)]; exact ⟨congrArg (fun z_z => some (Value.int z_z)) (by rw [Zu_k, if_neg (by omega), Nat.add_zero]), by rw [Zu_at, Zu_at, show 9 + 5 * i_z + 1 = 10 + 5 * i_z by omega, Nat.add_zero], ((Zhs.rf M).u _ _).u _ _⟩)
    · refine Zs_ne hX (List.cons_ne_nil _ _) (fun q_z => False.elim (by revert q_z; decide)) (fun _ => ?_)
      exact BAD (fun q_z => h2_z q_z.2)
  · refine Zs_eq hX (List.cons_ne_nil _ _) (fun _ => ?_) (fun q_z => False.elim (by revert q_z; decide))
    exact BAD (fun q_z => h1_z q_z.1)

set_option maxRecDepth 20000 in
set_option maxHeartbeats 1000000 in
theorem k_tie (f_z : Nat → Int32) (n_z : Nat) (row_z is : Int32) (M : Zmem) (hz_z : Zrv 1 f_z M) (hfi : Zfi f_z) (hn_z : f_z 7 = nI n_z) (hn2 : n_z ≤ 15) : ZC 5 2 [.ref 0, .int row_z, .int is] M (Zkok (Ftie f_z n_z row_z is) M) := by
  refine ZC_of Zt5 Zk5 (Nat.le_of_ble_eq_true rfl) (by decide) rfl (fun X hX hE => ?_)
  have BAD : ¬ (vp_in row_z n_z ∧ nI 0 ≤ is ∧ is ≤ nI 1) → ZP X Zt5 (Zsf Zt5 17) (lv_args 0 [.ref 0, .int row_z, .int is]) [] M := by
    intro h_z
    refine Zgo hX 2 rfl (by (first | exact True.intro | assumption | (dsimp only [ZallP]; and_intros <;> (first | assumption | decide | omega | ((try simp (disch := omega) only [pk_mul, nI_add, Zcl_n]); exact Zin_n (by omega) (by decide)))))) ?_
    refine Zs_callv hX (List.cons_ne_nil _ _) (k_refuse 1 _ (by decide)) (by first | decide | omega) (by decide) rfl rfl rfl (by decide) (Nat.le_of_ble_eq_true rfl) (fun r_z M' hc_z => ?_)
    obtain ⟨rfl, hsc⟩ := hc_z
    refine Zs_ret hX hE rfl (by rw [Ftie, if_neg h_z]; exact Zkok_e hz_z hsc)
  refine Zgo hX 2 rfl (by (first | exact True.intro | assumption | (dsimp only [ZallP]; and_intros <;> (first | assumption | decide | omega | ((try simp (disch := omega) only [pk_mul, nI_add, Zcl_n]); exact Zin_n (by omega) (by decide)))))) ?_
  refine Zs_callv hX (List.cons_ne_nil _ _) (k_isRow row_z n_z M (hz_z.n hn_z) hn2) (by first | decide | omega) (by decide) rfl rfl rfl (by decide) (Nat.le_of_ble_eq_true rfl) (fun r_z M' hc_z => ?_)
  rcases hc_z with ⟨⟨rfl, h1_z⟩ | ⟨rfl, h1_z⟩, rfl⟩
  · refine Zs_eq hX (List.cons_ne_nil _ _) (fun q_z => False.elim (by revert q_z; decide)) (fun _ => ?_)
    refine Zgo hX 3 rfl (by (first | exact True.intro | assumption | (dsimp only [ZallP]; and_intros <;> (first | assumption | decide | omega | ((try simp (disch := omega) only [pk_mul, nI_add, Zcl_n]); exact Zin_n (by omega) (by decide)))))) ?_
    refine Zs_calls hX (List.cons_ne_nil _ _) (by decide) (k_within _ _ _ _) (by first | decide | omega) rfl rfl (by decide) (Nat.le_of_ble_eq_true rfl) (fun r_z M' hc_z => ?_)
    rcases hc_z with ⟨⟨rfl, h2_z⟩ | ⟨rfl, h2_z⟩, rfl⟩
    · refine Zs_ne hX (List.cons_ne_nil _ _) (fun _ => ?_) (fun q_z => False.elim (by revert q_z; decide))
      have hall := And.intro h1_z h2_z
      obtain ⟨i_z, hi_z, rfl, ei⟩ := Zvp h1_z (by omega)
      refine Zgo hX 6 rfl (Zin_n (by omega) (by decide)) ?_
      rw [ei]
      refine Zgo hX 7 rfl (Zin_n (by omega) (by decide)) ?_
      rw [ei]
      refine Zs_ret hX hE rfl (by rw [Ftie, if_pos hall, ei]; exact ⟨congrArg (fun z_z => some (Value.int z_z)) (hz_z.row (by omega)).2.2.2.2, hz_z.r4 _ (by omega), (Zhk.rf M).u _ (by decide) _ _⟩)
    · refine Zs_ne hX (List.cons_ne_nil _ _) (fun q_z => False.elim (by revert q_z; decide)) (fun _ => ?_)
      exact BAD (fun q_z => h2_z q_z.2)
  · refine Zs_eq hX (List.cons_ne_nil _ _) (fun _ => ?_) (fun q_z => False.elim (by revert q_z; decide))
    exact BAD (fun q_z => h1_z q_z.1)

set_option maxRecDepth 20000 in
set_option maxHeartbeats 1000000 in
theorem s_tie (n_z : Nat) (row_z is : Int32) (M : Zmem) (hfi : Zfi (M 54)) (hn_z : M 54 7 = nI n_z) (hn2 : n_z ≤ 15) : ZC 93 2 [.ref 53, .int row_z, .int is] M (Zsok (Ftie (M 54) n_z row_z is) M) := by
  refine ZC_of Zt93 Zk93 (Nat.le_of_ble_eq_true rfl) (by decide) rfl (fun X hX hE => ?_)
  have BAD : ¬ (vp_in row_z n_z ∧ nI 0 ≤ is ∧ is ≤ nI 1) → ZP X Zt93 (Zsf Zt93 33) (lv_args 0 [.ref 53, .int row_z, .int is]) [] M := by
    intro h_z
    refine Zgo hX 2 rfl (by (first | exact True.intro | assumption | (dsimp only [ZallP]; and_intros <;> (first | assumption | decide | omega | ((try simp (disch := omega) only [pk_mul, nI_add, Zcl_n]); exact Zin_n (by omega) (by decide)))))) ?_
    refine Zs_callv hX (List.cons_ne_nil _ _) (s_error 1 _ (by decide)) (by first | decide | omega) (by decide) rfl rfl rfl (by decide) (Nat.le_of_ble_eq_true rfl) (fun r_z M' hc_z => ?_)
    obtain ⟨rfl, hsc⟩ := hc_z
    refine Zs_ret hX hE rfl (by rw [Ftie, if_neg h_z]; exact Zsok_e hsc)
  refine Zgo hX 2 rfl (by (first | exact True.intro | assumption | (dsimp only [ZallP]; and_intros <;> (first | assumption | decide | omega | ((try simp (disch := omega) only [pk_mul, nI_add, Zcl_n]); exact Zin_n (by omega) (by decide)))))) ?_
  refine Zs_callv hX (List.cons_ne_nil _ _) (s_isRow row_z n_z M hn_z hn2) (by first | decide | omega) (by decide) rfl rfl rfl (by decide) (Nat.le_of_ble_eq_true rfl) (fun r_z M' hc_z => ?_)
  rcases hc_z with ⟨⟨rfl, h1_z⟩ | ⟨rfl, h1_z⟩, rfl⟩
  · refine Zs_eq hX (List.cons_ne_nil _ _) (fun q_z => False.elim (by revert q_z; decide)) (fun _ => ?_)
    refine Zgo hX 3 rfl (by (first | exact True.intro | assumption | (dsimp only [ZallP]; and_intros <;> (first | assumption | decide | omega | ((try simp (disch := omega) only [pk_mul, nI_add, Zcl_n]); exact Zin_n (by omega) (by decide)))))) ?_
    refine Zs_calls hX (List.cons_ne_nil _ _) (by decide) (s_in _ _ _ _) (by first | decide | omega) rfl rfl (by decide) (Nat.le_of_ble_eq_true rfl) (fun r_z M' hc_z => ?_)
    rcases hc_z with ⟨⟨rfl, h2_z⟩ | ⟨rfl, h2_z⟩, rfl⟩
    · refine Zs_eq hX (List.cons_ne_nil _ _) (fun q_z => False.elim (by revert q_z; decide)) (fun _ => ?_)
      have hall := And.intro h1_z h2_z
      obtain ⟨i_z, hi_z, rfl, ei⟩ := Zvp h1_z (by omega)
      refine Zgo hX 9 rfl (by (first | exact True.intro | assumption | (dsimp only [ZallP]; and_intros <;> (first | assumption | decide | omega | ((try simp (disch := omega) only [pk_mul, nI_add, Zcl_n]); exact Zin_n (by omega) (by decide)))))) ?_
      simp only [pk_mul, nI_add]
      refine Zs_callv hX (List.cons_ne_nil _ _) (s_change1 (9 + 5 * i_z + 4) _ _ (by omega)) (by first | decide | omega) (by decide) rfl rfl rfl (by decide) (Nat.le_of_ble_eq_true rfl) (fun r_z M' hc_z => ?_)
      obtain ⟨rfl, rfl⟩ := hc_z
      refine Zgo hX 1 rfl (by (first | exact True.intro | assumption | (dsimp only [ZallP]; and_intros <;> (first | assumption | decide | omega | ((try simp (disch := omega) only [pk_mul, nI_add, Zcl_n]); exact Zin_n (by omega) (by decide)))))) ?_
      refine Zs_ret hX hE rfl (by rw [Ftie, if_pos hall, ei]; exact ⟨congrArg (fun z_z => some (Value.int z_z)) (by rw [show 9 + 5 * i_z + 4 = 13 + 5 * i_z by omega]), by rw [Zu_at, show 9 + 5 * i_z + 4 = 13 + 5 * i_z by omega], (Zhs.rf M).u _ _⟩)
    · refine Zs_eq hX (List.cons_ne_nil _ _) (fun _ => ?_) (fun q_z => False.elim (by revert q_z; decide))
      exact BAD (fun q_z => h2_z q_z.2)
  · refine Zs_eq hX (List.cons_ne_nil _ _) (fun _ => ?_) (fun q_z => False.elim (by revert q_z; decide))
    exact BAD (fun q_z => h1_z q_z.1)

set_option maxRecDepth 20000 in
set_option maxHeartbeats 1000000 in
theorem k_tense (f_z : Nat → Int32) (n_z : Nat) (row_z t : Int32) (M : Zmem) (hz_z : Zrv 1 f_z M) (hfi : Zfi f_z) (hn_z : f_z 7 = nI n_z) (hn2 : n_z ≤ 15) : ZC 7 2 [.ref 0, .int row_z, .int t] M (Zkok (Ftense f_z n_z row_z t) M) := by
  refine ZC_of Zt7 Zk7 (Nat.le_of_ble_eq_true rfl) (by decide) rfl (fun X hX hE => ?_)
  have BAD : ¬ (vp_in row_z n_z ∧ -(nI 9) ≤ t ∧ t ≤ nI 9) → ZP X Zt7 (Zsf Zt7 15) (lv_args 0 [.ref 0, .int row_z, .int t]) [] M := by
    intro h_z
    refine Zgo hX 2 rfl (by (first | exact True.intro | assumption | (dsimp only [ZallP]; and_intros <;> (first | assumption | decide | omega | ((try simp (disch := omega) only [pk_mul, nI_add, Zcl_n]); exact Zin_n (by omega) (by decide)))))) ?_
    refine Zs_callv hX (List.cons_ne_nil _ _) (k_refuse 1 _ (by decide)) (by first | decide | omega) (by decide) rfl rfl rfl (by decide) (Nat.le_of_ble_eq_true rfl) (fun r_z M' hc_z => ?_)
    obtain ⟨rfl, hsc⟩ := hc_z
    refine Zs_ret hX hE rfl (by rw [Ftense, if_neg h_z]; exact Zkok_e hz_z hsc)
  refine Zgo hX 2 rfl (by (first | exact True.intro | assumption | (dsimp only [ZallP]; and_intros <;> (first | assumption | decide | omega | ((try simp (disch := omega) only [pk_mul, nI_add, Zcl_n]); exact Zin_n (by omega) (by decide)))))) ?_
  refine Zs_callv hX (List.cons_ne_nil _ _) (k_isRow row_z n_z M (hz_z.n hn_z) hn2) (by first | decide | omega) (by decide) rfl rfl rfl (by decide) (Nat.le_of_ble_eq_true rfl) (fun r_z M' hc_z => ?_)
  rcases hc_z with ⟨⟨rfl, h1_z⟩ | ⟨rfl, h1_z⟩, rfl⟩
  · refine Zs_eq hX (List.cons_ne_nil _ _) (fun q_z => False.elim (by revert q_z; decide)) (fun _ => ?_)
    refine Zgo hX 1 rfl (by (first | exact True.intro | assumption | (dsimp only [ZallP]; and_intros <;> (first | assumption | decide | omega | ((try simp (disch := omega) only [pk_mul, nI_add, Zcl_n]); exact Zin_n (by omega) (by decide)))))) ?_
    refine Zs_calls hX (List.cons_ne_nil _ _) (by decide) (k_isTension _ _) (by first | decide | omega) rfl rfl (by decide) (Nat.le_of_ble_eq_true rfl) (fun r_z M' hc_z => ?_)
    rcases hc_z with ⟨⟨rfl, h2_z⟩ | ⟨rfl, h2_z⟩, rfl⟩
    · refine Zs_ne hX (List.cons_ne_nil _ _) (fun _ => ?_) (fun q_z => False.elim (by revert q_z; decide))
      have hall := And.intro h1_z h2_z
      obtain ⟨i_z, hi_z, rfl, ei⟩ := Zvp h1_z (by omega)
      refine Zgo hX 6 rfl (Zin_n (by omega) (by decide)) ?_
      rw [ei]
      refine Zgo hX 7 rfl (Zin_n (by omega) (by decide)) ?_
      rw [ei]
      refine Zs_ret hX hE rfl (by rw [Ftense, if_pos hall, ei]; exact ⟨congrArg (fun z_z => some (Value.int z_z)) (hz_z.row (by omega)).2.2.2.1, hz_z.r3 _ (by omega), (Zhk.rf M).u _ (by decide) _ _⟩)
    · refine Zs_ne hX (List.cons_ne_nil _ _) (fun q_z => False.elim (by revert q_z; decide)) (fun _ => ?_)
      exact BAD (fun q_z => h2_z q_z.2)
  · refine Zs_eq hX (List.cons_ne_nil _ _) (fun _ => ?_) (fun q_z => False.elim (by revert q_z; decide))
    exact BAD (fun q_z => h1_z q_z.1)

set_option maxRecDepth 20000 in
set_option maxHeartbeats 1000000 in
theorem s_tense (n_z : Nat) (row_z t : Int32) (M : Zmem) (hfi : Zfi (M 54)) (hn_z : M 54 7 = nI n_z) (hn2 : n_z ≤ 15) : ZC 95 2 [.ref 53, .int row_z, .int t] M (Zsok (Ftense (M 54) n_z row_z t) M) := by
  refine ZC_of Zt95 Zk95 (Nat.le_of_ble_eq_true rfl) (by decide) rfl (fun X hX hE => ?_)
  have BAD : ¬ (vp_in row_z n_z ∧ -(nI 9) ≤ t ∧ t ≤ nI 9) → ZP X Zt95 (Zsf Zt95 31) (lv_args 0 [.ref 53, .int row_z, .int t]) [] M := by
    intro h_z
    refine Zgo hX 2 rfl (by (first | exact True.intro | assumption | (dsimp only [ZallP]; and_intros <;> (first | assumption | decide | omega | ((try simp (disch := omega) only [pk_mul, nI_add, Zcl_n]); exact Zin_n (by omega) (by decide)))))) ?_
    refine Zs_callv hX (List.cons_ne_nil _ _) (s_error 1 _ (by decide)) (by first | decide | omega) (by decide) rfl rfl rfl (by decide) (Nat.le_of_ble_eq_true rfl) (fun r_z M' hc_z => ?_)
    obtain ⟨rfl, hsc⟩ := hc_z
    refine Zs_ret hX hE rfl (by rw [Ftense, if_neg h_z]; exact Zsok_e hsc)
  refine Zgo hX 2 rfl (by (first | exact True.intro | assumption | (dsimp only [ZallP]; and_intros <;> (first | assumption | decide | omega | ((try simp (disch := omega) only [pk_mul, nI_add, Zcl_n]); exact Zin_n (by omega) (by decide)))))) ?_
  refine Zs_callv hX (List.cons_ne_nil _ _) (s_isRow row_z n_z M hn_z hn2) (by first | decide | omega) (by decide) rfl rfl rfl (by decide) (Nat.le_of_ble_eq_true rfl) (fun r_z M' hc_z => ?_)
  rcases hc_z with ⟨⟨rfl, h1_z⟩ | ⟨rfl, h1_z⟩, rfl⟩
  · refine Zs_eq hX (List.cons_ne_nil _ _) (fun q_z => False.elim (by revert q_z; decide)) (fun _ => ?_)
    refine Zgo hX 1 rfl (by (first | exact True.intro | assumption | (dsimp only [ZallP]; and_intros <;> (first | assumption | decide | omega | ((try simp (disch := omega) only [pk_mul, nI_add, Zcl_n]); exact Zin_n (by omega) (by decide)))))) ?_
    refine Zs_calls hX (List.cons_ne_nil _ _) (by decide) (s_isTension _ _) (by first | decide | omega) rfl rfl (by decide) (Nat.le_of_ble_eq_true rfl) (fun r_z M' hc_z => ?_)
    rcases hc_z with ⟨⟨rfl, h2_z⟩ | ⟨rfl, h2_z⟩, rfl⟩
    · refine Zs_eq hX (List.cons_ne_nil _ _) (fun q_z => False.elim (by revert q_z; decide)) (fun _ => ?_)
      have hall := And.intro h1_z h2_z
      obtain ⟨i_z, hi_z, rfl, ei⟩ := Zvp h1_z (by omega)
      refine Zgo hX 9 rfl (by (first | exact True.intro | assumption | (dsimp only [ZallP]; and_intros <;> (first | assumption | decide | omega | ((try simp (disch := omega) only [pk_mul, nI_add, Zcl_n]); exact Zin_n (by omega) (by decide)))))) ?_
      simp only [pk_mul, nI_add]
      refine Zs_callv hX (List.cons_ne_nil _ _) (s_change1 (9 + 5 * i_z + 3) _ _ (by omega)) (by first | decide | omega) (by decide) rfl rfl rfl (by decide) (Nat.le_of_ble_eq_true rfl) (fun r_z M' hc_z => ?_)
      obtain ⟨rfl, rfl⟩ := hc_z
      refine Zgo hX 1 rfl (by (first | exact True.intro | assumption | (dsimp only [ZallP]; and_intros <;> (first | assumption | decide | omega | ((try simp (disch := omega) only [pk_mul, nI_add, Zcl_n]); exact Zin_n (by omega) (by decide)))))) ?_
      refine Zs_ret hX hE rfl (by rw [Ftense, if_pos hall, ei]; exact ⟨congrArg (fun z_z => some (Value.int z_z)) (by rw [show 9 + 5 * i_z + 3 = 12 + 5 * i_z by omega]), by rw [Zu_at, show 9 + 5 * i_z + 3 = 12 + 5 * i_z by omega], (Zhs.rf M).u _ _⟩)
    · refine Zs_eq hX (List.cons_ne_nil _ _) (fun _ => ?_) (fun q_z => False.elim (by revert q_z; decide))
      exact BAD (fun q_z => h2_z q_z.2)
  · refine Zs_eq hX (List.cons_ne_nil _ _) (fun _ => ?_) (fun q_z => False.elim (by revert q_z; decide))
    exact BAD (fun q_z => h1_z q_z.1)

set_option maxRecDepth 20000 in
set_option maxHeartbeats 1000000 in
theorem k_drop (f_z : Nat → Int32) (n_z : Nat) (row_z : Int32) (M : Zmem) (hz_z : Zrv 1 f_z M) (hfi : Zfi f_z) (hn_z : f_z 7 = nI n_z) (hn2 : n_z ≤ 15) : ZC 6 2 [.ref 0, .int row_z] M (Zkok (Fdrop f_z n_z row_z) M) := by
  refine ZC_of Zt6 Zk6 (Nat.le_of_ble_eq_true rfl) (by decide) rfl (fun X hX hE => ?_)
  refine Zgo hX 2 rfl (by (first | exact True.intro | assumption | (dsimp only [ZallP]; and_intros <;> (first | assumption | decide | omega | ((try simp (disch := omega) only [pk_mul, nI_add, Zcl_n]); exact Zin_n (by omega) (by decide)))))) ?_
  refine Zs_callv hX (List.cons_ne_nil _ _) (k_isRow row_z n_z M (hz_z.n hn_z) hn2) (by first | decide | omega) (by decide) rfl rfl rfl (by decide) (Nat.le_of_ble_eq_true rfl) (fun r_z M' hc_z => ?_)
  rcases hc_z with ⟨⟨rfl, h1_z⟩ | ⟨rfl, h1_z⟩, rfl⟩
  · refine Zs_ne hX (List.cons_ne_nil _ _) (fun _ => ?_) (fun q_z => False.elim (by revert q_z; decide))
    have h9_z := h1_z
    obtain ⟨i_z, hi_z, rfl, ei⟩ := Zvp h1_z (by omega)
    have e4 := (hz_z.row (i_z := i_z) (by omega)).2.2.1
    refine Zgo hX 6 rfl (Zin_n (by omega) (by decide)) ?_
    rw [ei, e4]
    obtain ⟨-, -, ⟨w_z, g1, g2, g3⟩, -, -⟩ := hfi.rw hn_z hn2 hi_z
    refine Zs_igt hX (List.cons_ne_nil _ _) (fun h24_z => ?_) (fun h24_z => ?_)
    · have hne : ¬ f_z (11 + 5 * i_z) = nI 1 := fun q_z => by rw [q_z] at h24_z; exact absurd h24_z (by decide)
      refine Zgo hX 9 rfl ⟨Zin_n (by omega) (by decide), Zin_n (by omega) (by decide)⟩ ?_
      rw [ei, e4]
      refine Zgo hX 5 rfl (Zin_n (by omega) (by decide)) ?_
      rw [ei, Zu_k, if_pos ⟨rfl, rfl⟩]
      refine Zs_ret hX hE rfl (by rw [Fdrop, if_pos h9_z, ei, if_neg hne]; exact ⟨rfl, hz_z.r2 _ (by omega), (Zhk.rf M).u _ (by decide) _ _⟩)
    · have he_z : f_z (11 + 5 * i_z) = nI 1 := by
        rw [g3] at h24_z ⊢
        have : ¬ 1 < w_z := fun q_z => h24_z ((Zn_lt (by decide) (by omega)).mpr q_z)
        rw [show w_z = 1 by omega]
      refine Zgo hX 2 rfl (by (first | exact True.intro | assumption | (dsimp only [ZallP]; and_intros <;> (first | assumption | decide | omega | ((try simp (disch := omega) only [pk_mul, nI_add, Zcl_n]); exact Zin_n (by omega) (by decide)))))) ?_
      refine Zs_callv hX (List.cons_ne_nil _ _) (k_refuse 3 _ (by decide)) (by first | decide | omega) (by decide) rfl rfl rfl (by decide) (Nat.le_of_ble_eq_true rfl) (fun r_z M' hc_z => ?_)
      obtain ⟨rfl, hsc⟩ := hc_z
      refine Zs_ret hX hE rfl (by rw [Fdrop, if_pos h9_z, ei, if_pos he_z]; exact Zkok_e hz_z hsc)
  · refine Zs_ne hX (List.cons_ne_nil _ _) (fun q_z => False.elim (by revert q_z; decide)) (fun _ => ?_)
    refine Zgo hX 2 rfl (by (first | exact True.intro | assumption | (dsimp only [ZallP]; and_intros <;> (first | assumption | decide | omega | ((try simp (disch := omega) only [pk_mul, nI_add, Zcl_n]); exact Zin_n (by omega) (by decide)))))) ?_
    refine Zs_callv hX (List.cons_ne_nil _ _) (k_refuse 1 _ (by decide)) (by first | decide | omega) (by decide) rfl rfl rfl (by decide) (Nat.le_of_ble_eq_true rfl) (fun r_z M' hc_z => ?_)
    obtain ⟨rfl, hsc⟩ := hc_z
    refine Zs_ret hX hE rfl (by rw [Fdrop, if_neg h1_z]; exact Zkok_e hz_z hsc)

set_option maxRecDepth 20000 in
set_option maxHeartbeats 1000000 in
theorem s_drop (n_z : Nat) (row_z : Int32) (M : Zmem) (hfi : Zfi (M 54)) (hn_z : M 54 7 = nI n_z) (hn2 : n_z ≤ 15) : ZC 94 2 [.ref 53, .int row_z] M (Zsok (Fdrop (M 54) n_z row_z) M) := by
  refine ZC_of Zt94 Zk94 (Nat.le_of_ble_eq_true rfl) (by decide) rfl (fun X hX hE => ?_)
  refine Zgo hX 2 rfl (by (first | exact True.intro | assumption | (dsimp only [ZallP]; and_intros <;> (first | assumption | decide | omega | ((try simp (disch := omega) only [pk_mul, nI_add, Zcl_n]); exact Zin_n (by omega) (by decide)))))) ?_
  refine Zs_callv hX (List.cons_ne_nil _ _) (s_isRow row_z n_z M hn_z hn2) (by first | decide | omega) (by decide) rfl rfl rfl (by decide) (Nat.le_of_ble_eq_true rfl) (fun r_z M' hc_z => ?_)
  rcases hc_z with ⟨⟨rfl, h1_z⟩ | ⟨rfl, h1_z⟩, rfl⟩
  · refine Zs_ne hX (List.cons_ne_nil _ _) (fun _ => ?_) (fun q_z => False.elim (by revert q_z; decide))
    have h9_z := h1_z
    obtain ⟨i_z, hi_z, rfl, ei⟩ := Zvp h1_z (by omega)
    have e2_z : 9 + 5 * i_z + 2 = 11 + 5 * i_z := by omega
    refine Zgo hX 3 rfl (by (first | exact True.intro | assumption | (dsimp only [ZallP]; and_intros <;> (first | assumption | decide | omega | ((try simp (disch := omega) only [pk_mul, nI_add, Zcl_n]); exact Zin_n (by omega) (by decide)))))) ?_
    refine Zs_callv hX (List.cons_ne_nil _ _) (s_its i_z 2 _ (by omega) (by decide)) (by first | decide | omega) (by decide) rfl rfl rfl (by decide) (Nat.le_of_ble_eq_true rfl) (fun r_z M' hc_z => ?_)
    obtain ⟨rfl, rfl⟩ := hc_z
    rw [e2_z]
    refine Zgo hX 1 rfl (by (first | exact True.intro | assumption | (dsimp only [ZallP]; and_intros <;> (first | assumption | decide | omega | ((try simp (disch := omega) only [pk_mul, nI_add, Zcl_n]); exact Zin_n (by omega) (by decide)))))) ?_
    refine Zs_ine hX (List.cons_ne_nil _ _) (fun h21_z => ?_) (fun h21_z => ?_)
    · refine Zgo hX 6 rfl (by (first | exact True.intro | assumption | (dsimp only [ZallP]; and_intros <;> (first | assumption | decide | omega | ((try simp (disch := omega) only [pk_mul, nI_add, Zcl_n]); exact Zin_n (by omega) (by decide)))))) ?_
      refine Zs_callv hX (List.cons_ne_nil _ _) (s_its i_z 2 _ (by omega) (by decide)) (by first | decide | omega) (by decide) rfl rfl rfl (by decide) (Nat.le_of_ble_eq_true rfl) (fun r_z M' hc_z => ?_)
      obtain ⟨rfl, rfl⟩ := hc_z
      rw [e2_z]
      refine Zgo hX 2 rfl (by (first | exact True.intro | assumption | (dsimp only [ZallP]; and_intros <;> (first | assumption | decide | omega | ((try simp (disch := omega) only [pk_mul, nI_add, Zcl_n]); exact Zin_n (by omega) (by decide)))))) ?_
      refine Zs_callv hX (List.cons_ne_nil _ _) (s_lays1 i_z 2 _ _ (by omega) (by decide)) (by first | decide | omega) (by decide) rfl rfl rfl (by decide) (Nat.le_of_ble_eq_true rfl) (fun r_z M' hc_z => ?_)
      obtain ⟨rfl, rfl⟩ := hc_z
      rw [e2_z]
      refine Zgo hX 3 rfl (by (first | exact True.intro | assumption | (dsimp only [ZallP]; and_intros <;> (first | assumption | decide | omega | ((try simp (disch := omega) only [pk_mul, nI_add, Zcl_n]); exact Zin_n (by omega) (by decide)))))) ?_
      refine Zs_callv hX (List.cons_ne_nil _ _) (s_its i_z 2 _ (by omega) (by decide)) (by first | decide | omega) (by decide) rfl rfl rfl (by decide) (Nat.le_of_ble_eq_true rfl) (fun r_z M' hc_z => ?_)
      obtain ⟨rfl, rfl⟩ := hc_z
      refine Zs_ret hX hE rfl (by rw [Fdrop, if_pos h9_z, ei, if_neg h21_z]; exact ⟨by rw [e2_z, Zu_k, if_pos ⟨rfl, rfl⟩], by rw [Zu_at], (Zhs.rf M).u _ _⟩)
    · skip
      refine Zgo hX 2 rfl (by (first | exact True.intro | assumption | (dsimp only [ZallP]; and_intros <;> (first | assumption | decide | omega | ((try simp (disch := omega) only [pk_mul, nI_add, Zcl_n]); exact Zin_n (by omega) (by decide)))))) ?_
      refine Zs_callv hX (List.cons_ne_nil _ _) (s_error 3 _ (by decide)) (by first | decide | omega) (by decide) rfl rfl rfl (by decide) (Nat.le_of_ble_eq_true rfl) (fun r_z M' hc_z => ?_)
      obtain ⟨rfl, hsc⟩ := hc_z
      refine Zs_ret hX hE rfl (by rw [Fdrop, if_pos h9_z, ei, if_pos h21_z]; exact Zsok_e hsc)
  · refine Zs_ne hX (List.cons_ne_nil _ _) (fun q_z => False.elim (by revert q_z; decide)) (fun _ => ?_)
    refine Zgo hX 2 rfl (by (first | exact True.intro | assumption | (dsimp only [ZallP]; and_intros <;> (first | assumption | decide | omega | ((try simp (disch := omega) only [pk_mul, nI_add, Zcl_n]); exact Zin_n (by omega) (by decide)))))) ?_
    refine Zs_callv hX (List.cons_ne_nil _ _) (s_error 1 _ (by decide)) (by first | decide | omega) (by decide) rfl rfl rfl (by decide) (Nat.le_of_ble_eq_true rfl) (fun r_z M' hc_z => ?_)
    obtain ⟨rfl, hsc⟩ := hc_z
    refine Zs_ret hX hE rfl (by rw [Fdrop, if_neg h1_z]; exact Zsok_e hsc)
