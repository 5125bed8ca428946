
theorem s_wholes (c_z : Nat → Nat) (n_z u_z o_z F : Nat) (pc : Nat → Zrs) (hcn : ∀ i_z, n_z ≤ i_z → c_z i_z = 256) (hpc : ∀ p_z, p_z ≤ n_z → Zgd u_z n_z p_z (pc p_z)) (hn_z : Zsc 69 F c_z n_z u_z o_z pc) : Zsc 63 (F + 5) c_z n_z u_z o_z (Zlvl c_z pc 5) := by
  have hg_z := Zlvl_gd hcn hpc
  have h1_z : Zsc 67 (F + 1) c_z n_z u_z o_z (Zlvl c_z pc 1) := fun p_z st M hz_z hsp => s_product c_z n_z u_z o_z p_z st M hz_z hsp pc F (hg_z 0 (by decide)) hn_z
  have h2_z : Zsc 66 (F + 2) c_z n_z u_z o_z (Zlvl c_z pc 2) := fun p_z st M hz_z hsp => s_sum c_z n_z u_z o_z p_z st M hz_z hsp pc (F + 1) (hg_z 1 (by decide)) h1_z
  have h3_z : Zsc 65 (F + 3) c_z n_z u_z o_z (Zlvl c_z pc 3) := fun p_z st M hz_z hsp => s_compared c_z n_z u_z o_z p_z st M hz_z hsp pc (F + 2) (hg_z 2 (by decide)) h2_z
  have h4_z : Zsc 64 (F + 4) c_z n_z u_z o_z (Zlvl c_z pc 4) := fun p_z st M hz_z hsp => s_both c_z n_z u_z o_z p_z st M hz_z hsp pc (F + 3) (hg_z 3 (by decide)) h3_z
  exact fun p_z st M hz_z hsp => s_whole c_z n_z u_z o_z p_z st M hz_z hsp pc (F + 4) (hg_z 4 (by decide)) h4_z

set_option maxRecDepth 20000 in
set_option maxHeartbeats 1000000 in
theorem s_one (c_z : Nat → Nat) (n_z u_z o_z p_z st : Nat) (M : Zmem) (hz_z : Zsp c_z n_z u_z o_z p_z st M) (hsp : st ≤ p_z) (F F1 : Nat) (hF1 : F1 ≤ F) (ho : o_z ≤ 5) (h1_z : ∀ o1, o_z = o1 + 1 → Zsc 69 F1 c_z n_z u_z o1 (Zpie c_z u_z o1)) (h2_z : ∀ o1, o_z = o1 + 1 → Zsc 63 F c_z n_z u_z o1 (Zlvl c_z (Zpie c_z u_z o1) 5)) : ZC 69 (F + 1) [.ref 53] M (fun r_z M' => Zb r_z ((Zpie c_z u_z o_z p_z).1 = true) ∧ Zsq c_z n_z u_z o_z st M M' (Zpie c_z u_z o_z p_z)) := by
  refine ZC_of Zt69 Zk69 (Nat.le_of_ble_eq_true rfl) (by decide) rfl (fun X hX hE => ?_)
  obtain ⟨⟨⟨hst0, hpn⟩, h5_z, hus, hat, htp⟩, hop, hsz⟩ := id hz_z
  obtain ⟨hcn, hcb, hn60, hu2⟩ := id hst0
  refine Zgo hX 1 rfl True.intro ?_
  refine Zs_callv hX (List.cons_ne_nil _ _) (s_look c_z n_z u_z _ _ hz_z.1) (by first | decide | omega) (by decide) rfl rfl rfl (by decide) (Nat.le_of_ble_eq_true rfl) (fun r_z M' hc_z => ?_)
  obtain ⟨rfl, rfl⟩ := hc_z
  refine Zgo hX 3 rfl True.intro ?_
  refine Zs_callv hX (List.cons_ne_nil _ _) (s_isName _ u_z _ hus hu2) (by first | decide | omega) (by decide) rfl rfl rfl (by decide) (Nat.le_of_ble_eq_true rfl) (fun r_z M' hc_z => ?_)
  rcases hc_z with ⟨⟨rfl, hb_z⟩ | ⟨rfl, hb_z⟩, rfl⟩
  · refine Zs_eq hX (List.cons_ne_nil _ _) (fun q_z => False.elim (by revert q_z; decide)) (fun _ => ?_)
    have hnm := Znmb_iff.mp hb_z
    have hcl := Znm_lt hnm
    have hlt : p_z < n_z := Zc_lt hcn hcl
    have hr_z := Zpie_nam (o_z := o_z) (p_z := p_z) (c_z := c_z) (u_z := u_z) (by intro q_z; have := Zdig_iff.mp q_z; unfold Znm at hnm; omega) (by unfold Znm at hnm; omega) (by unfold Znm at hnm; omega) hb_z
    refine Zgo hX 9 rfl True.intro ?_
    rw [hat, nI_add, Zlk_lt hcl]
    refine Zs_callv hX (List.cons_ne_nil _ _) (s_step1 st _ _ _ hsz (by omega)) (by first | decide | omega) (by decide) rfl rfl rfl (by decide) (Nat.le_of_ble_eq_true rfl) (fun r_z M' hc_z => ?_)
    obtain ⟨rfl, rfl⟩ := hc_z
    refine Zgo hX 1 rfl True.intro ?_
    refine Zs_retz hX hE rfl (by first | exact Or.inl rfl | exact Or.inr rfl) ⟨Or.inl ⟨rfl, by rw [hr_z]⟩, ?_⟩
    rw [hr_z]
    exact Zsq_1 (nI 1, nI (c_z p_z)) (Zsc_a53 _ _) (fun _ => rfl) (hz_z.at hlt)
  · refine Zs_eq hX (List.cons_ne_nil _ _) (fun _ => ?_) (fun q_z => False.elim (by revert q_z; decide))
    refine Zgo hX 3 rfl True.intro ?_
    refine Zs_calls hX (List.cons_ne_nil _ _) (by decide) (s_in _ _ _ _) (by first | decide | omega) rfl rfl (by decide) (Nat.le_of_ble_eq_true rfl) (fun r_z M' hc_z => ?_)
    rcases hc_z with ⟨⟨rfl, hd_z⟩ | ⟨rfl, hd_z⟩, rfl⟩
    · refine Zs_eq hX (List.cons_ne_nil _ _) (fun q_z => False.elim (by revert q_z; decide)) (fun _ => ?_)
      have hd_z := Zlk_dig.mp hd_z
      have hr_z := Zpie_dig (o_z := o_z) (u_z := u_z) hd_z
      have L94 : ∀ (i_z q1_z v_z : Nat) (M1 : Zmem), Znum c_z 4 p_z 0 = (q1_z, v_z) → Sc M M1 → (∀ i_z, M1 57 i_z = M 57 i_z) → Zsp c_z n_z u_z o_z q1_z st M1 → ZP X Zt69 (Zsf Zt69 94) [(3, .int (nI i_z)), (2, .int (nI v_z)), (1, .int (Zlk (c_z p_z))), (0, .ref 53)] [] M1 := by
        intro i_z q1_z v_z M1 hnum hsc hco hz1
        refine Zgo hX 3 rfl True.intro ?_
        refine Zs_callv hX (List.cons_ne_nil _ _) (s_step1 st _ _ _ hz1.2.2 (by omega)) (by first | decide | omega) (by decide) rfl rfl rfl (by decide) (Nat.le_of_ble_eq_true rfl) (fun r_z M' hc_z => ?_)
        obtain ⟨rfl, rfl⟩ := hc_z
        refine Zgo hX 1 rfl True.intro ?_
        refine Zs_retz hX hE rfl (by first | exact Or.inl rfl | exact Or.inr rfl) ⟨Or.inl ⟨rfl, by rw [hr_z]⟩, ?_⟩
        rw [hr_z, hnum]
        exact Zsq_1 (nI 0, nI v_z) hsc hco hz1
      have L : ∀ (q_z i_z q1_z v_z : Nat) (M1 : Zmem), 4 - i_z < q_z → i_z ≤ 4 → Znum c_z (4 - i_z) q1_z v_z = Znum c_z 4 p_z 0 → Sc M M1 → (∀ i_z, M1 57 i_z = M 57 i_z) → Zsp c_z n_z u_z o_z q1_z st M1 → ZP X Zt69 (Zsf Zt69 46) [(3, .int (nI i_z)), (2, .int (nI v_z)), (1, .int (Zlk (c_z p_z))), (0, .ref 53)] [] M1 := by
        intro q_z
        induction q_z with
        | zero => intro i_z q1_z v_z M1 hq_z; exact absurd hq_z (Nat.not_lt_zero _)
        | succ q_z ih_z =>
          intro i_z q1_z v_z M1 hq_z hi_z hnum hsc hco hz1
          refine Zgo hX 2 rfl True.intro ?_
          refine Zs_ige hX (List.cons_ne_nil _ _) (fun h48_z => ?_) (fun h48_z => ?_)
          · obtain rfl : i_z = 4 := by have := (Zn_le (by decide) (by omega)).mp h48_z; omega
            exact L94 4 q1_z v_z M1 hnum.symm hsc hco hz1
          · have hi4 : i_z < 4 := (Nat.lt_or_ge i_z 4).elim id (fun q_z => absurd ((Zn_le (by decide) (by omega)).mpr q_z) h48_z)
            have e4 : 4 - i_z = (4 - (i_z + 1)) + 1 := by omega
            refine Zgo hX 1 rfl True.intro ?_
            refine Zs_callv hX (List.cons_ne_nil _ _) (s_look c_z n_z u_z _ _ hz1.1) (by first | decide | omega) (by decide) rfl rfl rfl (by decide) (Nat.le_of_ble_eq_true rfl) (fun r_z M' hc_z => ?_)
            obtain ⟨rfl, rfl⟩ := hc_z
            refine Zgo hX 2 rfl True.intro ?_
            refine Zs_calls hX (List.cons_ne_nil _ _) (by decide) (s_in _ _ _ _) (by first | decide | omega) rfl rfl (by decide) (Nat.le_of_ble_eq_true rfl) (fun r_z M' hc_z => ?_)
            rcases hc_z with ⟨⟨rfl, hdq⟩ | ⟨rfl, hdq⟩, rfl⟩
            · refine Zs_eq hX (List.cons_ne_nil _ _) (fun q_z => False.elim (by revert q_z; decide)) (fun _ => ?_)
              have hdq := Zlk_dig.mp hdq
              have hdi := Zdig_iff.mp hdq
              have hql : q1_z < n_z := Zc_lt hcn (by omega)
              refine Zgo hX 4 rfl True.intro ?_
              refine Zs_callv hX (List.cons_ne_nil _ _) (s_look c_z n_z u_z _ _ hz1.1) (by first | decide | omega) (by decide) rfl rfl rfl (by decide) (Nat.le_of_ble_eq_true rfl) (fun r_z M' hc_z => ?_)
              obtain ⟨rfl, rfl⟩ := hc_z
              refine Zgo hX 11 rfl True.intro ?_
              rw [hz1.1.2.2.2.1, Zlk_lt (show c_z q1_z < 128 by omega)]
              simp only [pk_mul, nI_add]
              rw [pk_sub (show 48 ≤ 10 * v_z + c_z q1_z by omega)]
              refine Zgo hX 1 rfl True.intro ?_
              refine Zs_sub (l' := [(3, .int (nI (i_z + 1))), (2, .int (nI (10 * v_z + c_z q1_z - 48))), (1, .int (Zlk (c_z p_z))), (0, .ref 53)]) (by simp only [← nI_add]; rfl) ?_
              exact ih_z (i_z + 1) (q1_z + 1) _ _ (by omega) hi4 (by rw [← hnum, e4, Znum, if_pos hdq]) (hsc.tr (Zsc_a53 _ _)) hco (hz1.at hql)
            · refine Zs_eq hX (List.cons_ne_nil _ _) (fun _ => ?_) (fun q_z => False.elim (by revert q_z; decide))
              have hdq : ¬ Zdig (c_z q1_z) = true := fun q_z => hdq (Zlk_dig.mpr q_z)
              exact L94 i_z q1_z v_z _ (by rw [← hnum, e4, Znum, if_neg hdq]) hsc hco hz1
      refine Zgo hX 4 rfl True.intro ?_
      refine Zs_sub (l' := [(3, .int (nI 0)), (2, .int (nI 0)), (1, .int (Zlk (c_z p_z))), (0, .ref 53)]) rfl ?_
      exact L 5 0 p_z 0 M (by decide) (by decide) rfl (Sc.rf M) (fun _ => rfl) hz_z
    · refine Zs_eq hX (List.cons_ne_nil _ _) (fun _ => ?_) (fun q_z => False.elim (by revert q_z; decide))
      have hd_z : ¬ Zdig (c_z p_z) = true := fun q_z => hd_z (Zlk_dig.mpr q_z)
      refine Zgo hX 2 rfl True.intro ?_
      refine Zs_ine hX (List.cons_ne_nil _ _) (fun h105_z => ?_) (fun h105_z => ?_)
      · have n33 : ¬ c_z p_z = 33 := fun q_z => h105_z ((Zlk_eq (by decide)).mpr q_z)
        refine Zgo hX 2 rfl True.intro ?_
        refine Zs_ine hX (List.cons_ne_nil _ _) (fun h145_z => ?_) (fun h145_z => ?_)
        · have n40 : ¬ c_z p_z = 40 := fun q_z => h145_z ((Zlk_eq (by decide)).mpr q_z)
          have hr_z := Zpie_non (o_z := o_z) hd_z n33 n40 hb_z
          refine Zgo hX 1 rfl True.intro ?_
          refine Zs_retz hX hE rfl (by first | exact Or.inl rfl | exact Or.inr rfl) ⟨Or.inr ⟨rfl, by rw [hr_z]; exact Bool.false_ne_true⟩, ?_⟩
          rw [hr_z]
          exact Zsq_f (Sc.rf M) hz_z.1
        · have e40 := (Zlk_eq (by decide)).mp h145_z
          have hlt : p_z < n_z := Zc_lt hcn (by omega)
          refine Zgo hX 1 rfl True.intro ?_
          refine Zs_callv hX (List.cons_ne_nil _ _) (s_opens o_z p_z _ ho hop hat) (by first | decide | omega) (by decide) rfl rfl rfl (by decide) (Nat.le_of_ble_eq_true rfl) (fun r_z M' hc_z => ?_)
          rcases hc_z with ⟨o1, rfl, rfl, rfl⟩ | ⟨rfl, rfl, rfl⟩
          · refine Zs_eq hX (List.cons_ne_nil _ _) (fun q_z => False.elim (by revert q_z; decide)) (fun _ => ?_)
            have hz2 : Zsp c_z n_z u_z o1 (p_z + 1) st (Zu (Zu M 53 5 (nI (5 - o1))) 53 4 (nI (p_z + 1))) := ⟨hz_z.1.op hlt _, rfl, hsz⟩
            have hsc2 : Sc M (Zu (Zu M 53 5 (nI (5 - o1))) 53 4 (nI (p_z + 1))) := ((Sc.rf M).u _ rfl).u _ rfl
            refine Zgo hX 1 rfl True.intro ?_
            refine Zs_callv hX (List.cons_ne_nil _ _) (h2_z o1 rfl (p_z + 1) st _ hz2 (by omega)) (by first | decide | omega) (by decide) rfl rfl rfl (by decide) (Nat.le_of_ble_eq_true rfl) (fun r_z M' hc_z => ?_)
            rcases hc_z with ⟨⟨rfl, hw_z⟩ | ⟨rfl, hw_z⟩, hq_z⟩
            · refine Zs_eq hX (List.cons_ne_nil _ _) (fun q_z => False.elim (by revert q_z; decide)) (fun _ => ?_)
              refine Zgo hX 1 rfl True.intro ?_
              refine Zs_callv hX (List.cons_ne_nil _ _) (s_look c_z n_z u_z _ _ hq_z.2.1) (by first | decide | omega) (by decide) rfl rfl rfl (by decide) (Nat.le_of_ble_eq_true rfl) (fun r_z M' hc_z => ?_)
              obtain ⟨rfl, rfl⟩ := hc_z
              refine Zgo hX 1 rfl True.intro ?_
              refine Zs_ieq hX (List.cons_ne_nil _ _) (fun h168_z => ?_) (fun h168_z => ?_)
              · have h41_z := (Zlk_eq (by decide)).mp h168_z
                have hlt2 : (Zlvl c_z (Zpie c_z u_z o1) 5 (p_z + 1)).2.1 < n_z := Zc_lt hcn (by omega)
                have hr_z := Zpie_40t e40 hw_z h41_z
                obtain ⟨q1_z, q2_z, q3⟩ := id hq_z
                obtain ⟨q4, q5, q6⟩ := q3 hw_z
                refine Zgo hX 6 rfl True.intro ?_
                rw [q2_z.2.2.2.1, nI_add]
                refine Zgo hX 6 rfl True.intro ?_
                rw [show (Zu M' 53 4 (nI ((Zlvl c_z (Zpie c_z u_z o1) 5 (p_z + 1)).2.1 + 1))) 53 5 = nI (5 - o1) from q4.2.1, pk_sub (by omega), show 5 - o1 - 1 = 5 - (o1 + 1) by omega]
                refine Zgo hX 1 rfl True.intro ?_
                refine Zs_retz hX hE rfl (by first | exact Or.inl rfl | exact Or.inr rfl) ⟨Or.inl ⟨rfl, by rw [hr_z]⟩, ?_⟩
                rw [hr_z]
                refine ⟨((hsc2.tr q1_z).u _ rfl).u _ rfl, (q2_z.at hlt2).op2 _, fun _ => ⟨⟨(q2_z.at hlt2).op2 _, rfl, q4.2.2⟩, q5, q6⟩⟩
              · have hne : ¬ ((Zlvl c_z (Zpie c_z u_z o1) 5 (p_z + 1)).1 = true ∧ c_z (Zlvl c_z (Zpie c_z u_z o1) 5 (p_z + 1)).2.1 = 41) := fun q_z => h168_z ((Zlk_eq (by decide)).mpr q_z.2)
                have hr_z := Zpie_40f e40 hne
                refine Zgo hX 1 rfl True.intro ?_
                refine Zs_retz hX hE rfl (by first | exact Or.inl rfl | exact Or.inr rfl) ⟨Or.inr ⟨rfl, by rw [hr_z]; exact Bool.false_ne_true⟩, ?_⟩
                rw [hr_z]
                exact Zsq_f2 hsc2 hq_z
            · refine Zs_eq hX (List.cons_ne_nil _ _) (fun _ => ?_) (fun q_z => False.elim (by revert q_z; decide))
              have hr_z := Zpie_40f e40 (fun q_z => hw_z q_z.1)
              refine Zgo hX 1 rfl True.intro ?_
              refine Zs_retz hX hE rfl (by first | exact Or.inl rfl | exact Or.inr rfl) ⟨Or.inr ⟨rfl, by rw [hr_z]; exact Bool.false_ne_true⟩, ?_⟩
              rw [hr_z]
              exact Zsq_f2 hsc2 hq_z
          · refine Zs_eq hX (List.cons_ne_nil _ _) (fun _ => ?_) (fun q_z => False.elim (by revert q_z; decide))
            have hr_z := Zpie_0 (u_z := u_z) (Or.inr e40)
            refine Zgo hX 1 rfl True.intro ?_
            refine Zs_retz hX hE rfl (by first | exact Or.inl rfl | exact Or.inr rfl) ⟨Or.inr ⟨rfl, by rw [hr_z]; exact Bool.false_ne_true⟩, ?_⟩
            rw [hr_z]
            exact Zsq_f (Sc.rf M) hz_z.1
      · have e33 := (Zlk_eq (by decide)).mp h105_z
        have hlt : p_z < n_z := Zc_lt hcn (by omega)
        refine Zgo hX 1 rfl True.intro ?_
        refine Zs_callv hX (List.cons_ne_nil _ _) (s_opens o_z p_z _ ho hop hat) (by first | decide | omega) (by decide) rfl rfl rfl (by decide) (Nat.le_of_ble_eq_true rfl) (fun r_z M' hc_z => ?_)
        rcases hc_z with ⟨o1, rfl, rfl, rfl⟩ | ⟨rfl, rfl, rfl⟩
        · refine Zs_eq hX (List.cons_ne_nil _ _) (fun q_z => False.elim (by revert q_z; decide)) (fun _ => ?_)
          have hz2 : Zsp c_z n_z u_z o1 (p_z + 1) st (Zu (Zu M 53 5 (nI (5 - o1))) 53 4 (nI (p_z + 1))) := ⟨hz_z.1.op hlt _, rfl, hsz⟩
          have hsc2 : Sc M (Zu (Zu M 53 5 (nI (5 - o1))) 53 4 (nI (p_z + 1))) := ((Sc.rf M).u _ rfl).u _ rfl
          have hg_z := Zpie_gd (u_z := u_z) hcn o1 (p_z + 1) hlt
          refine Zgo hX 1 rfl True.intro ?_
          refine Zs_callv hX (List.cons_ne_nil _ _) (h1_z o1 rfl (p_z + 1) st _ hz2 (by omega)) (by first | decide | omega) (by decide) rfl rfl rfl (by decide) (Nat.le_of_ble_eq_true rfl) (fun r_z M' hc_z => ?_)
          rcases hc_z with ⟨⟨rfl, hw_z⟩ | ⟨rfl, hw_z⟩, hq_z⟩
          · refine Zs_ne hX (List.cons_ne_nil _ _) (fun _ => ?_) (fun q_z => False.elim (by revert q_z; decide))
            obtain ⟨hg1, hg2, hg3⟩ := hg_z
            obtain ⟨hg4, hg5, -⟩ := hg3 hw_z
            have hr_z := Zpie_33t e33 hw_z
            obtain ⟨q1_z, q2_z, q3⟩ := Zsq_pre (M := M) hsc2 (fun _ => rfl) hq_z
            obtain ⟨q4, q5, q6⟩ := q3 hw_z
            refine Zgo hX 6 rfl True.intro ?_
            rw [q4.2.1, pk_sub (by omega), show 5 - o1 - 1 = 5 - (o1 + 1) by omega]
            have hq8 : Zsq c_z n_z u_z (o1 + 1) st M (Zu M' 53 5 (nI (5 - (o1 + 1)))) (Zpie c_z u_z o1 (p_z + 1)) := ⟨q1_z.u _ rfl, q2_z.op2 _, fun _ => ⟨⟨q2_z.op2 _, rfl, q4.2.2⟩, q5, q6⟩⟩
            refine Zgo hX 3 rfl True.intro ?_
            refine Zs_callv hX (List.cons_ne_nil _ _) (s_step1 _ _ _ _ q4.2.2 (by omega)) (by first | decide | omega) (by decide) rfl rfl rfl (by decide) (Nat.le_of_ble_eq_true rfl) (fun r_z M' hc_z => ?_)
            obtain ⟨rfl, rfl⟩ := hc_z
            refine Zgo hX 1 rfl True.intro ?_
            refine Zs_retz hX hE rfl (by first | exact Or.inl rfl | exact Or.inr rfl) ⟨Or.inl ⟨rfl, by rw [hr_z]⟩, ?_⟩
            rw [hr_z]
            exact Zsq_2 hq8 hw_z
          · refine Zs_ne hX (List.cons_ne_nil _ _) (fun q_z => False.elim (by revert q_z; decide)) (fun _ => ?_)
            have hr_z := Zpie_33f e33 hw_z
            refine Zgo hX 1 rfl True.intro ?_
            refine Zs_retz hX hE rfl (by first | exact Or.inl rfl | exact Or.inr rfl) ⟨Or.inr ⟨rfl, by rw [hr_z]; exact Bool.false_ne_true⟩, ?_⟩
            rw [hr_z]
            exact Zsq_f2 hsc2 hq_z
        · refine Zs_eq hX (List.cons_ne_nil _ _) (fun _ => ?_) (fun q_z => False.elim (by revert q_z; decide))
          have hr_z := Zpie_0 (u_z := u_z) (Or.inl e33)
          refine Zgo hX 1 rfl True.intro ?_
          refine Zs_retz hX hE rfl (by first | exact Or.inl rfl | exact Or.inr rfl) ⟨Or.inr ⟨rfl, by rw [hr_z]; exact Bool.false_ne_true⟩, ?_⟩
          rw [hr_z]
          exact Zsq_f (Sc.rf M) hz_z.1


theorem s_ones (c_z : Nat → Nat) (n_z u_z : Nat) (hs_z : Zst c_z n_z u_z) : ∀ o_z, o_z ≤ 5 → Zsc 69 (1 + 6 * o_z) c_z n_z u_z o_z (Zpie c_z u_z o_z) := by
  intro o_z
  induction o_z with
  | zero =>
    intro _ p_z st M hz_z hsp
    exact s_one c_z n_z u_z 0 p_z st M hz_z hsp 0 0 (by decide) (by decide) (fun o1 h_z => absurd h_z (by omega)) (fun o1 h_z => absurd h_z (by omega))
  | succ o_z ih_z =>
    intro ho p_z st M hz_z hsp
    have ih_z := ih_z (by omega)
    refine s_one c_z n_z u_z (o_z + 1) p_z st M hz_z hsp (1 + 6 * o_z + 5) (1 + 6 * o_z) (by omega) ho (fun o1 h_z => ?_) (fun o1 h_z => ?_)
    · obtain rfl : o1 = o_z := by omega
      exact ih_z
    · obtain rfl : o1 = o_z := by omega
      exact s_wholes c_z n_z u_z o1 (1 + 6 * o1) _ hs_z.1 (Zpie_gd hs_z.1 o1) ih_z
