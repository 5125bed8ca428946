set_option maxRecDepth 20000 in
set_option maxHeartbeats 1000000 in
theorem k_piece (c_z : Nat → Nat) (n_z u_z o_z p_z st : Nat) (M : Zmem) (hz_z : Zkp c_z n_z u_z p_z st M) (hsp : st ≤ p_z) (F : Nat) (hF : 1 ≤ F) (ho : o_z ≤ 5) (hop : ∀ o1, o_z = o1 + 1 → ∀ s_z, s_z = 33 ∨ s_z = 40 → c_z p_z = s_z → ZC 162 F [.ref 33, .int (nI s_z), .int (nI (5 - o1))] M (fun r_z M' => Zb r_z ((Zpie c_z u_z (o1 + 1) p_z).1 = true) ∧ Zkq c_z n_z u_z st M M' (Zpie c_z u_z (o1 + 1) p_z))) : ZC 161 (F + 1) [.ref 33, .int (nI (5 - o_z))] M (fun r_z M' => Zb r_z ((Zpie c_z u_z o_z p_z).1 = true) ∧ Zkq c_z n_z u_z st M M' (Zpie c_z u_z o_z p_z)) := by
  refine ZC_of Zt161 Zk161 (Nat.le_of_ble_eq_true rfl) (by decide) rfl (fun X hX hE => ?_)
  obtain ⟨⟨hcn, hn60, hu2, hpn⟩, hta, hby, hus, hat, hsz, htp⟩ := id hz_z
  have hop2 : ∀ s_z, s_z = 33 ∨ s_z = 40 → c_z p_z = s_z → ZP X Zt161 (Zsf Zt161 30) [(2, .int (nI s_z)), (0, .ref 33), (1, .int (nI (5 - o_z)))] [] M := by
    intro s_z hs_z hcs
    refine Zgo hX 2 rfl True.intro ?_
    refine Zs_ige hX (List.cons_ne_nil _ _) (fun h32_z => ?_) (fun h32_z => ?_)
    · have e_z := (Zn_le (by decide) (by omega)).mp h32_z
      obtain rfl : o_z = 0 := by omega
      have hr_z := Zpie_0 (u_z := u_z) (show c_z p_z = 33 ∨ c_z p_z = 40 by omega)
      refine Zgo hX 1 rfl True.intro ?_
      refine Zs_retz hX hE rfl (by first | exact Or.inl rfl | exact Or.inr rfl) ⟨Or.inr ⟨rfl, by rw [hr_z]; exact Bool.false_ne_true⟩, ?_⟩
      rw [hr_z]
      exact Zkq_f (Sc.rf M) hz_z (by omega)
    · obtain ⟨o1, rfl⟩ : ∃ o1, o_z = o1 + 1 := ⟨o_z - 1, by
        rcases Nat.eq_zero_or_pos o_z with h_z | h_z
        · subst h_z; exact absurd (Int32.le_refl _) h32_z
        · omega⟩
      refine Zgo hX 5 rfl True.intro ?_
      rw [nI_add, show 5 - (o1 + 1) + 1 = 5 - o1 by omega]
      refine Zs_callv hX (List.cons_ne_nil _ _) (hop o1 rfl s_z hs_z hcs) (by first | decide | omega) (by decide) rfl rfl rfl (by decide) (Nat.le_of_ble_eq_true rfl) (fun r_z M' hc_z => ?_)
      rcases hc_z with ⟨⟨rfl, hb_z⟩ | ⟨rfl, hb_z⟩, hq_z⟩
      · refine Zs_eq hX (List.cons_ne_nil _ _) (fun q_z => False.elim (by revert q_z; decide)) (fun _ => ?_)
        refine Zgo hX 2 rfl True.intro ?_
        refine Zs_retz hX hE rfl (by first | exact Or.inl rfl | exact Or.inr rfl) ⟨Or.inl ⟨rfl, hb_z⟩, hq_z⟩
      · refine Zs_eq hX (List.cons_ne_nil _ _) (fun _ => ?_) (fun q_z => False.elim (by revert q_z; decide))
        refine Zgo hX 1 rfl True.intro ?_
        refine Zs_retz hX hE rfl (by first | exact Or.inl rfl | exact Or.inr rfl) ⟨Or.inr ⟨rfl, hb_z⟩, hq_z⟩
  refine Zgo hX 1 rfl True.intro ?_
  refine Zs_callv hX (List.cons_ne_nil _ _) (k_next c_z n_z u_z p_z st _ hz_z) (by first | decide | omega) (by decide) rfl rfl rfl (by decide) (Nat.le_of_ble_eq_true rfl) (fun r_z M' hc_z => ?_)
  obtain ⟨rfl, rfl⟩ := hc_z
  refine Zgo hX 2 rfl True.intro ?_
  refine Zs_calls hX (List.cons_ne_nil _ _) (by decide) (k_isDigit _ _) (by first | decide | omega) rfl rfl (by decide) (Nat.le_of_ble_eq_true rfl) (fun r_z M' hc_z => ?_)
  rcases hc_z with ⟨⟨rfl, hb_z⟩ | ⟨rfl, hb_z⟩, rfl⟩
  · refine Zs_eq hX (List.cons_ne_nil _ _) (fun q_z => False.elim (by revert q_z; decide)) (fun _ => ?_)
    refine Zgo hX 1 rfl True.intro ?_
    refine Zs_callv hX (List.cons_ne_nil _ _) (k_number c_z n_z u_z p_z st _ hz_z hb_z hsp) (by first | decide | omega) (by decide) rfl rfl rfl (by decide) (Nat.le_of_ble_eq_true rfl) (fun r_z M' hc_z => ?_)
    obtain ⟨rfl, hq_z⟩ := hc_z
    refine Zgo hX 1 rfl True.intro ?_
    refine Zs_retz hX hE rfl (by first | exact Or.inl rfl | exact Or.inr rfl) ⟨Or.inl ⟨rfl, by rw [Zpie_dig hb_z]⟩, by rw [Zpie_dig hb_z]; exact hq_z⟩
  · refine Zs_eq hX (List.cons_ne_nil _ _) (fun _ => ?_) (fun q_z => False.elim (by revert q_z; decide))
    refine Zgo hX 2 rfl True.intro ?_
    refine Zs_ieq hX (List.cons_ne_nil _ _) (fun h21_z => ?_) (fun h21_z => ?_)
    · rw [h21_z]
      exact hop2 33 (Or.inl rfl) ((Zsb_eq (by decide)).mp h21_z)
    · refine Zgo hX 2 rfl True.intro ?_
      refine Zs_ine hX (List.cons_ne_nil _ _) (fun h27_z => ?_) (fun h27_z => ?_)
      · have n33 : ¬ c_z p_z = 33 := fun q_z => h21_z ((Zsb_eq (by decide)).mpr q_z)
        have n40 : ¬ c_z p_z = 40 := fun q_z => h27_z ((Zsb_eq (by decide)).mpr q_z)
        refine Zgo hX 2 rfl True.intro ?_
        refine Zs_callv hX (List.cons_ne_nil _ _) (k_nameOf _ u_z _ hus hu2) (by first | decide | omega) (by decide) rfl rfl rfl (by decide) (Nat.le_of_ble_eq_true rfl) (fun r_z M' hc_z => ?_)
        obtain ⟨⟨x_z, rfl, hx_z⟩, rfl⟩ := hc_z
        refine Zgo hX 2 rfl True.intro ?_
        refine Zs_ge hX (List.cons_ne_nil _ _) (fun h59_z => ?_) (fun h59_z => ?_)
        · have hx2 : Znmb u_z (c_z p_z) = true ∧ x_z = nI (Zpn u_z (c_z p_z)) := by
            rcases hx_z with hx_z | ⟨-, rfl⟩
            · exact hx_z
            · exact absurd h59_z (by decide)
          obtain ⟨hx2, rfl⟩ := hx2
          have hnm := Znmb_iff.mp hx2
          have hlt : p_z < n_z := Zc_lt hcn (Znm_lt hnm)
          refine Zgo hX 10 rfl True.intro ?_
          rw [hat, nI_add]
          refine Zs_callv hX (List.cons_ne_nil _ _) (k_keep _ st _ hsz (by omega)) (by first | decide | omega) (by decide) rfl rfl rfl (by decide) (Nat.le_of_ble_eq_true rfl) (fun r_z M' hc_z => ?_)
          obtain ⟨rfl, hk_z⟩ := hc_z
          rcases hk_z with ⟨hk_z, rfl⟩ | ⟨hk_z, -⟩
          · refine Zgo hX 1 rfl True.intro ?_
            have hr_z := Zpie_nam (o_z := o_z) hb_z n33 n40 hx2
            refine Zs_retz hX hE rfl (by first | exact Or.inl rfl | exact Or.inr rfl) ⟨Or.inl ⟨rfl, by rw [hr_z]⟩, ?_⟩
            rw [hr_z]
            exact Zkq_1 (Zsc_at M _) (fun _ => rfl) (hz_z.at hlt) hk_z (Or.inr (Or.inl ⟨rfl, _, hnm, rfl, Zneg1 _⟩))
          · exact absurd hk_z (by omega)
        · have hx2 : ¬ Znmb u_z (c_z p_z) = true := by
            rcases hx_z with ⟨-, rfl⟩ | ⟨h_z, -⟩
            · exact absurd (by rw [← Zn0]; exact (Zn_le (by decide) (by have := Zpn_lt u_z (c_z p_z); omega)).mpr (Nat.zero_le _)) h59_z
            · exact h_z
          have hr_z := Zpie_non (o_z := o_z) hb_z n33 n40 hx2
          refine Zgo hX 1 rfl True.intro ?_
          refine Zs_retz hX hE rfl (by first | exact Or.inl rfl | exact Or.inr rfl) ⟨Or.inr ⟨rfl, by rw [hr_z]; exact Bool.false_ne_true⟩, ?_⟩
          rw [hr_z]
          exact Zkq_f (Sc.rf M) hz_z (by omega)
      · rw [h27_z]
        exact hop2 40 (Or.inr rfl) ((Zsb_eq (by decide)).mp h27_z)

