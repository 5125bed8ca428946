set_option maxRecDepth 20000 in
set_option maxHeartbeats 1000000 in
theorem k_between (c_z : Nat → Nat) (n_z u_z o_z j_z p_z st : Nat) (M : Zmem) (hz_z : Zkp c_z n_z u_z p_z st M) (hsp : st ≤ p_z) (F : Nat) (hj_z : j_z ≤ 4) (hpie : j_z = 0 → Zkc 161 F [.int (nI (5 - o_z))] c_z n_z u_z (Zpie c_z u_z o_z)) (hpar : ∀ j1_z, j_z = j1_z + 1 → Zkc 158 F [.int (nI (4 - j1_z)), .int (nI (5 - o_z))] c_z n_z u_z (Zlvl c_z (Zpie c_z u_z o_z) (j1_z + 1))) : ZC 159 (F + 1) [.ref 33, .int (nI (4 - j_z)), .int (nI (5 - o_z))] M (fun r_z M' => Zb r_z ((Zlvl c_z (Zpie c_z u_z o_z) j_z p_z).1 = true) ∧ Zkq c_z n_z u_z st M M' (Zlvl c_z (Zpie c_z u_z o_z) j_z p_z)) := by
  refine ZC_of Zt159 Zk159 (Nat.le_of_ble_eq_true rfl) (by decide) rfl (fun X hX hE => ?_)
  obtain ⟨⟨hcn, hn60, hu2, hpn⟩, hta, hby, hus, hat, hsz, htp⟩ := id hz_z
  refine Zgo hX 2 rfl True.intro ?_
  refine Zs_ige hX (List.cons_ne_nil _ _) (fun h2_z => ?_) (fun h2_z => ?_)
  · obtain rfl : j_z = 0 := by have := (Zn_le (by decide) (by omega)).mp h2_z; omega
    refine Zgo hX 2 rfl True.intro ?_
    refine Zs_callv hX (List.cons_ne_nil _ _) (hpie rfl p_z st _ hz_z hsp) (by first | decide | omega) (by decide) rfl rfl rfl (by decide) (Nat.le_of_ble_eq_true rfl) (fun r_z M' hc_z => ?_)
    rcases hc_z with ⟨⟨rfl, hb_z⟩ | ⟨rfl, hb_z⟩, hq_z⟩
    · refine Zs_retz hX hE rfl (by first | exact Or.inl rfl | exact Or.inr rfl) ⟨Or.inl ⟨rfl, hb_z⟩, hq_z⟩
    · refine Zs_retz hX hE rfl (by first | exact Or.inl rfl | exact Or.inr rfl) ⟨Or.inr ⟨rfl, hb_z⟩, hq_z⟩
  · obtain ⟨j1_z, rfl⟩ : ∃ j1_z, j_z = j1_z + 1 := ⟨j_z - 1, by
      rcases Nat.eq_zero_or_pos j_z with h_z | h_z
      · subst h_z; exact absurd (Int32.le_refl _) h2_z
      · omega⟩
    refine Zgo hX 5 rfl True.intro ?_
    rw [nI_add, show 4 - (j1_z + 1) + 1 = 4 - j1_z by omega]
    refine Zs_callv hX (List.cons_ne_nil _ _) (hpar j1_z rfl p_z st _ hz_z hsp) (by first | decide | omega) (by decide) rfl rfl rfl (by decide) (Nat.le_of_ble_eq_true rfl) (fun r_z M' hc_z => ?_)
    rcases hc_z with ⟨⟨rfl, hb_z⟩ | ⟨rfl, hb_z⟩, hq_z⟩
    · refine Zgo hX 1 rfl True.intro ?_
      refine Zs_retz hX hE rfl (by first | exact Or.inl rfl | exact Or.inr rfl) ⟨Or.inl ⟨rfl, hb_z⟩, hq_z⟩
    · refine Zgo hX 1 rfl True.intro ?_
      refine Zs_retz hX hE rfl (by first | exact Or.inl rfl | exact Or.inr rfl) ⟨Or.inr ⟨rfl, hb_z⟩, hq_z⟩

