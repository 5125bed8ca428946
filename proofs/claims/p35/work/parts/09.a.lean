set_option maxRecDepth 20000 in
set_option maxHeartbeats 1000000 in
theorem k_opened (c_z : Nat → Nat) (n_z u_z o_z p_z st : Nat) (M : Zmem) (hz_z : Zkp c_z n_z u_z p_z st M) (hsp : st ≤ p_z) (s_z F : Nat) (ho : o_z < 5) (hs_z : s_z = 33 ∨ s_z = 40) (hcs : c_z p_z = s_z) (hpie : Zkc 161 F [.int (nI (5 - o_z))] c_z n_z u_z (Zpie c_z u_z o_z)) (hwho : Zkc 158 (F + 10) [.int (nI 0), .int (nI (5 - o_z))] c_z n_z u_z (Zlvl c_z (Zpie c_z u_z o_z) 5)) : ZC 162 (F + 11) [.ref 33, .int (nI s_z), .int (nI (5 - o_z))] M (fun r_z M' => Zb r_z ((Zpie c_z u_z (o_z + 1) p_z).1 = true) ∧ Zkq c_z n_z u_z st M M' (Zpie c_z u_z (o_z + 1) p_z)) := by
  refine ZC_of Zt162 Zk162 (Nat.le_of_ble_eq_true rfl) (by decide) rfl (fun X hX hE => ?_)
  obtain ⟨⟨hcn, hn60, hu2, hpn⟩, hta, hby, hus, hat, hsz, htp⟩ := id hz_z
  have hlt : p_z < n_z := Zc_lt hcn (by omega)
  have hz1 := hz_z.at hlt
  have hg_z := Zpie_gd (u_z := u_z) hcn o_z (p_z + 1) hlt
  have hgw := Zlvl_gd (u_z := u_z) hcn (Zpie_gd hcn o_z) 5 (by decide) (p_z + 1) hlt
  refine Zgo hX 8 rfl True.intro ?_
  rw [hat, nI_add]
  refine Zs_ine hX (List.cons_ne_nil _ _) (fun h13_z => ?_) (fun h13_z => ?_)
  · obtain rfl : s_z = 40 := by rcases hs_z with rfl | rfl; exact absurd rfl h13_z; rfl
    refine Zgo hX 3 rfl True.intro ?_
    refine Zs_callv hX (List.cons_ne_nil _ _) (hwho (p_z + 1) st _ hz1 (by omega)) (by first | decide | omega) (by decide) rfl rfl rfl (by decide) (Nat.le_of_ble_eq_true rfl) (fun r_z M' hc_z => ?_)
    rcases hc_z with ⟨⟨rfl, hb_z⟩ | ⟨rfl, hb_z⟩, hq_z⟩
    · refine Zs_eq hX (List.cons_ne_nil _ _) (fun q_z => False.elim (by revert q_z; decide)) (fun _ => ?_)
      refine Zgo hX 1 rfl True.intro ?_
      refine Zs_callv hX (List.cons_ne_nil _ _) (k_next c_z n_z u_z _ _ _ (hq_z.p hb_z)) (by first | decide | omega) (by decide) rfl rfl rfl (by decide) (Nat.le_of_ble_eq_true rfl) (fun r_z M' hc_z => ?_)
      obtain ⟨rfl, rfl⟩ := hc_z
      refine Zgo hX 1 rfl True.intro ?_
      refine Zs_ieq hX (List.cons_ne_nil _ _) (fun h45_z => ?_) (fun h45_z => ?_)
      · have h41_z := (Zsb_eq (by decide)).mp h45_z
        have hzq := hq_z.p hb_z
        have hlt2 : (Zlvl c_z (Zpie c_z u_z o_z) 5 (p_z + 1)).2.1 < n_z := Zc_lt hcn (by omega)
        refine Zgo hX 7 rfl True.intro ?_
        rw [hzq.2.2.2.2.1, nI_add]
        refine Zs_retz hX hE rfl (by first | exact Or.inl rfl | exact Or.inr rfl) ⟨Or.inl ⟨rfl, by rw [Zpie_40t hcs hb_z h41_z]⟩, ?_⟩
        rw [Zpie_40t hcs hb_z h41_z]
        obtain ⟨q1_z, s', q2_z, q3, q4⟩ := Zkq_pre (Zsc_at M _) (fun _ => rfl) hq_z
        obtain ⟨rfl, q5, q6⟩ := q4 hb_z
        exact ⟨q1_z.tr (Zsc_at _ _), _, q2_z, q3.at hlt2, fun _ => ⟨rfl, q5, q6⟩⟩
      · have hne : ¬ ((Zlvl c_z (Zpie c_z u_z o_z) 5 (p_z + 1)).1 = true ∧ c_z (Zlvl c_z (Zpie c_z u_z o_z) 5 (p_z + 1)).2.1 = 41) := fun q_z => h45_z ((Zsb_eq (by decide)).mpr q_z.2)
        refine Zgo hX 1 rfl True.intro ?_
        refine Zs_retz hX hE rfl (by first | exact Or.inl rfl | exact Or.inr rfl) ⟨Or.inr ⟨rfl, by rw [Zpie_40f hcs hne]; exact Bool.false_ne_true⟩, ?_⟩
        rw [Zpie_40f hcs hne]
        exact Zkq_f2 (Zsc_at M _) hq_z
    · refine Zs_eq hX (List.cons_ne_nil _ _) (fun _ => ?_) (fun q_z => False.elim (by revert q_z; decide))
      have hne : ¬ ((Zlvl c_z (Zpie c_z u_z o_z) 5 (p_z + 1)).1 = true ∧ c_z (Zlvl c_z (Zpie c_z u_z o_z) 5 (p_z + 1)).2.1 = 41) := fun q_z => hb_z q_z.1
      refine Zgo hX 1 rfl True.intro ?_
      refine Zs_retz hX hE rfl (by first | exact Or.inl rfl | exact Or.inr rfl) ⟨Or.inr ⟨rfl, by rw [Zpie_40f hcs hne]; exact Bool.false_ne_true⟩, ?_⟩
      rw [Zpie_40f hcs hne]
      exact Zkq_f2 (Zsc_at M _) hq_z
  · obtain rfl : s_z = 33 := by rcases hs_z with rfl | rfl; rfl; exact absurd h13_z (by decide)
    refine Zgo hX 2 rfl True.intro ?_
    refine Zs_callv hX (List.cons_ne_nil _ _) (hpie (p_z + 1) st _ hz1 (by omega)) (by first | decide | omega) (by decide) rfl rfl rfl (by decide) (Nat.le_of_ble_eq_true rfl) (fun r_z M' hc_z => ?_)
    rcases hc_z with ⟨⟨rfl, hb_z⟩ | ⟨rfl, hb_z⟩, hq_z⟩
    · obtain ⟨hg1, hg2, hg3⟩ := hg_z
      obtain ⟨hg4, hg5, -⟩ := hg3 hb_z
      refine Zgo hX 3 rfl True.intro ?_
      refine Zs_callv hX (List.cons_ne_nil _ _) (k_keep _ _ _ (hq_z.p hb_z).2.2.2.2.2.1 (by omega)) (by first | decide | omega) (by decide) rfl rfl rfl (by decide) (Nat.le_of_ble_eq_true rfl) (fun r_z M' hc_z => ?_)
      obtain ⟨rfl, hk_z⟩ := hc_z
      rcases hk_z with ⟨-, rfl⟩ | ⟨hk_z, -⟩
      · refine Zgo hX 1 rfl True.intro ?_
        refine Zs_retz hX hE rfl (by first | exact Or.inl rfl | exact Or.inr rfl) ⟨Or.inl ⟨rfl, by rw [Zpie_33t hcs hb_z]⟩, ?_⟩
        rw [Zpie_33t hcs hb_z]
        exact Zkq_2 (Zkq_pre (Zsc_at M _) (fun _ => rfl) hq_z) hb_z (by omega) rfl
      · exact absurd hk_z (by omega)
    · obtain ⟨q1_z, s', q2_z, q3, -⟩ := id hq_z
      refine Zgo hX 3 rfl True.intro ?_
      refine Zs_callv hX (List.cons_ne_nil _ _) (k_keep _ _ _ q3.2.2.2.2.2.1 q2_z) (by first | decide | omega) (by decide) rfl rfl rfl (by decide) (Nat.le_of_ble_eq_true rfl) (fun r_z M' hc_z => ?_)
      obtain ⟨rfl, hk_z⟩ := hc_z
      rcases hk_z with ⟨hk_z, rfl⟩ | ⟨hk_z, rfl⟩
      · refine Zgo hX 1 rfl True.intro ?_
        refine Zs_retz hX hE rfl (by first | exact Or.inl rfl | exact Or.inr rfl) ⟨Or.inr ⟨rfl, by rw [Zpie_33f hcs hb_z]; exact Bool.false_ne_true⟩, ?_⟩
        rw [Zpie_33f hcs hb_z]
        exact Zkq_f (((Zsc_at M _).tr q1_z).tr (Zsc_keep _ _ _)) (q3.keep _) hk_z
      · refine Zgo hX 1 rfl True.intro ?_
        refine Zs_retz hX hE rfl (by first | exact Or.inl rfl | exact Or.inr rfl) ⟨Or.inr ⟨rfl, by rw [Zpie_33f hcs hb_z]; exact Bool.false_ne_true⟩, ?_⟩
        rw [Zpie_33f hcs hb_z]
        exact Zkq_f ((Zsc_at M _).tr q1_z) q3 q2_z

