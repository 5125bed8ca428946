set_option maxRecDepth 20000 in
set_option maxHeartbeats 1000000 in
theorem k_part (c_z : Nat → Nat) (n_z u_z o_z j_z p_z st : Nat) (M : Zmem) (hz_z : Zkp c_z n_z u_z p_z st M) (hsp : st ≤ p_z) (F : Nat) (hj_z : j_z ≤ 4) (hbt : Zkc 159 F [.int (nI (4 - j_z)), .int (nI (5 - o_z))] c_z n_z u_z (Zlvl c_z (Zpie c_z u_z o_z) j_z)) : ZC 158 (F + 1) [.ref 33, .int (nI (4 - j_z)), .int (nI (5 - o_z))] M (fun r_z M' => Zb r_z ((Zlvl c_z (Zpie c_z u_z o_z) (j_z + 1) p_z).1 = true) ∧ Zkq c_z n_z u_z st M M' (Zlvl c_z (Zpie c_z u_z o_z) (j_z + 1) p_z)) := by
  refine ZC_of Zt158 Zk158 (Nat.le_of_ble_eq_true rfl) (by decide) rfl (fun X hX hE => ?_)
  obtain ⟨⟨hcn, hn60, hu2, hpn⟩, hta, hby, hus, hat, hsz, htp⟩ := id hz_z
  have hgw := Zlvl_gd (u_z := u_z) hcn (Zpie_gd hcn o_z) j_z (by omega)
  obtain ⟨K, hK, hK60⟩ : ∃ K, K = (if j_z = 2 then 1 else 60) ∧ K ≤ 60 := ⟨_, rfl, by split <;> omega⟩
  have L83 : ∀ (i_z p1 : Nat) (L : List Zitm) (M1 : Zmem), Zkq c_z n_z u_z st M M1 (true, p1, L) → Zlvl c_z (Zpie c_z u_z o_z) (j_z + 1) p_z = (true, p1, L) → ZP X Zt158 (Zsf Zt158 83) [(4, .int (nI i_z)), (3, .int (nI K)), (0, .ref 33), (1, .int (nI (4 - j_z))), (2, .int (nI (5 - o_z)))] [] M1 := by
    intro i_z p1 L M1 hq_z hr_z
    refine Zgo hX 1 rfl True.intro ?_
    refine Zs_retz hX hE rfl (by first | exact Or.inl rfl | exact Or.inr rfl) ⟨Or.inl ⟨rfl, by rw [hr_z]⟩, by rw [hr_z]; exact hq_z⟩
  have L : ∀ (q_z i_z p1 : Nat) (L : List Zitm) (M1 : Zmem), K - i_z < q_z → i_z ≤ K → Zkq c_z n_z u_z st M M1 (true, p1, L) → st + L.length ≤ p1 → p1 ≤ n_z → Zlvl c_z (Zpie c_z u_z o_z) (j_z + 1) p_z = Zlop (Zlvl c_z (Zpie c_z u_z o_z) j_z) (Zis (4 - j_z)) c_z (K - i_z) p1 L → ZP X Zt158 (Zsf Zt158 26) [(4, .int (nI i_z)), (3, .int (nI K)), (0, .ref 33), (1, .int (nI (4 - j_z))), (2, .int (nI (5 - o_z)))] [] M1 := by
    intro q_z
    induction q_z with
    | zero => intro i_z p1 L M1 hq_z; exact absurd hq_z (Nat.not_lt_zero _)
    | succ q_z ih_z =>
      intro i_z p1 L M1 hlq hi_z hq_z hst hp1 hr_z
      have hz1 : Zkp c_z n_z u_z p1 (st + L.length) M1 := hq_z.p rfl
      refine Zgo hX 2 rfl True.intro ?_
      refine Zs_ige hX (List.cons_ne_nil _ _) (fun h29_z => ?_) (fun h29_z => ?_)
      · obtain rfl : i_z = K := by have := (Zn_le (by omega) (by omega)).mp h29_z; omega
        rw [Nat.sub_self] at hr_z
        exact L83 _ p1 L M1 hq_z hr_z
      · have hiK : i_z < K := (Nat.lt_or_ge i_z K).elim id (fun q_z => absurd ((Zn_le (by omega) (by omega)).mpr q_z) h29_z)
        have eK : K - i_z = (K - (i_z + 1)) + 1 := by omega
        rw [eK, Zlop] at hr_z
        refine Zgo hX 1 rfl True.intro ?_
        refine Zs_callv hX (List.cons_ne_nil _ _) (k_next c_z n_z u_z _ _ _ hz1) (by first | decide | omega) (by decide) rfl rfl rfl (by decide) (Nat.le_of_ble_eq_true rfl) (fun r_z M' hc_z => ?_)
        obtain ⟨rfl, rfl⟩ := hc_z
        refine Zs_calls hX (List.cons_ne_nil _ _) (by decide) (k_levelOf _ _) (by first | decide | omega) rfl rfl (by decide) (Nat.le_of_ble_eq_true rfl) (fun r_z M' hc_z => ?_)
        obtain ⟨⟨x_z, rfl, hx_z⟩, rfl⟩ := hc_z
        refine Zgo hX 1 rfl True.intro ?_
        refine Zs_ine hX (List.cons_ne_nil _ _) (fun h40_z => ?_) (fun h40_z => ?_)
        · rw [if_neg (fun q_z => h40_z ((hx_z (4 - j_z) (by omega)).mpr q_z))] at hr_z
          exact L83 i_z p1 L _ hq_z hr_z
        · have his := (hx_z (4 - j_z) (by omega)).mp h40_z
          rw [if_pos his] at hr_z
          have hsg := Zis_sg (by omega) his
          have hsl := Zsg_lt hsg
          have hlt : p1 < n_z := Zc_lt hcn (by omega)
          refine Zgo hX 1 rfl True.intro ?_
          refine Zs_callv hX (List.cons_ne_nil _ _) (k_next c_z n_z u_z _ _ _ hz1) (by first | decide | omega) (by decide) rfl rfl rfl (by decide) (Nat.le_of_ble_eq_true rfl) (fun r_z M' hc_z => ?_)
          obtain ⟨rfl, rfl⟩ := hc_z
          refine Zgo hX 10 rfl True.intro ?_
          rw [hz1.2.2.2.2.1, nI_add]
          obtain ⟨g1, g2, g3⟩ := hgw (p1 + 1) hlt
          refine Zs_callv hX (List.cons_ne_nil _ _) (hbt (p1 + 1) (st + L.length) _ (hz1.at hlt) (by omega)) (by first | decide | omega) (by decide) rfl rfl rfl (by decide) (Nat.le_of_ble_eq_true rfl) (fun r_z M' hc_z => ?_)
          rcases hc_z with ⟨⟨rfl, hb_z⟩ | ⟨rfl, hb_z⟩, hq2⟩
          · refine Zs_ne hX (List.cons_ne_nil _ _) (fun _ => ?_) (fun q_z => False.elim (by revert q_z; decide))
            rw [if_pos hb_z] at hr_z
            obtain ⟨g4, g5, -⟩ := g3 hb_z
            refine Zgo hX 3 rfl True.intro ?_
            rw [Zsb_lt (show c_z p1 < 128 by omega)]
            refine Zs_callv hX (List.cons_ne_nil _ _) (k_keep _ _ _ (hq2.p hb_z).2.2.2.2.2.1 (by omega)) (by first | decide | omega) (by decide) rfl rfl rfl (by decide) (Nat.le_of_ble_eq_true rfl) (fun r_z M' hc_z => ?_)
            obtain ⟨rfl, hk_z⟩ := hc_z
            rcases hk_z with ⟨hk_z, rfl⟩ | ⟨hk_z, -⟩
            · refine Zgo hX 2 rfl True.intro ?_
              rw [nI_add]
              refine Zs_sub (l' := [(4, .int (nI (i_z + 1))), (3, .int (nI K)), (0, .ref 33), (1, .int (nI (4 - j_z))), (2, .int (nI (5 - o_z)))]) rfl ?_
              exact ih_z (i_z + 1) _ _ _ (by omega) hiK (Zkq_3 hq_z (Zsc_at _ _) (fun _ => rfl) hq2 hb_z hk_z rfl) (by simp; omega) g2 hr_z
            · exact absurd hk_z (by omega)
          · refine Zs_ne hX (List.cons_ne_nil _ _) (fun q_z => False.elim (by revert q_z; decide)) (fun _ => ?_)
            rw [if_neg hb_z] at hr_z
            refine Zgo hX 1 rfl True.intro ?_
            refine Zs_retz hX hE rfl (by first | exact Or.inl rfl | exact Or.inr rfl) ⟨Or.inr ⟨rfl, by rw [hr_z]; exact Bool.false_ne_true⟩, ?_⟩
            rw [hr_z]
            exact Zkq_f2 (hq_z.1.tr (Zsc_at _ _)) hq2
  refine Zgo hX 3 rfl True.intro ?_
  refine Zs_callv hX (List.cons_ne_nil _ _) (hbt p_z st _ hz_z hsp) (by first | decide | omega) (by decide) rfl rfl rfl (by decide) (Nat.le_of_ble_eq_true rfl) (fun r_z M' hc_z => ?_)
  rcases hc_z with ⟨⟨rfl, hb_z⟩ | ⟨rfl, hb_z⟩, hq_z⟩
  · refine Zs_ne hX (List.cons_ne_nil _ _) (fun _ => ?_) (fun q_z => False.elim (by revert q_z; decide))
    have hr_z : Zlvl c_z (Zpie c_z u_z o_z) (j_z + 1) p_z = Zlop (Zlvl c_z (Zpie c_z u_z o_z) j_z) (Zis (4 - j_z)) c_z K (Zlvl c_z (Zpie c_z u_z o_z) j_z p_z).2.1 (Zlvl c_z (Zpie c_z u_z o_z) j_z p_z).2.2 := by rw [Zlvl, if_pos hb_z, ← hK]
    obtain ⟨g1, g2, g3⟩ := hgw p_z hpn
    obtain ⟨g4, g5, -⟩ := g3 hb_z
    have hqq : Zkq c_z n_z u_z st M M' (true, (Zlvl c_z (Zpie c_z u_z o_z) j_z p_z).2.1, (Zlvl c_z (Zpie c_z u_z o_z) j_z p_z).2.2) := by
      obtain ⟨q1_z, s', q2_z, q3, q4⟩ := hq_z
      exact ⟨q1_z, s', q2_z, q3, fun _ => q4 hb_z⟩
    refine Zgo hX 2 rfl True.intro ?_
    refine Zs_ine hX (List.cons_ne_nil _ _) (fun h13_z => ?_) (fun h13_z => ?_)
    · have e60 : K = 60 := by rw [hK, if_neg (fun q_z => h13_z (by rw [q_z]))]
      subst e60
      refine Zgo hX 4 rfl True.intro ?_
      refine Zs_sub (l' := [(4, .int (nI 0)), (3, .int (nI 60)), (0, .ref 33), (1, .int (nI (4 - j_z))), (2, .int (nI (5 - o_z)))]) rfl ?_
      exact L (60 + 1) 0 _ _ _ (by omega) (by omega) hqq (by omega) g2 hr_z
    · have e1_z : K = 1 := by rw [hK, if_pos (by have := Zeq (by omega) (by decide) h13_z; omega)]
      subst e1_z
      refine Zgo hX 5 rfl True.intro ?_
      refine Zs_sub (l' := [(4, .int (nI 0)), (3, .int (nI 1)), (0, .ref 33), (1, .int (nI (4 - j_z))), (2, .int (nI (5 - o_z)))]) rfl ?_
      exact L (1 + 1) 0 _ _ _ (by omega) (by omega) hqq (by omega) g2 hr_z
  · refine Zs_ne hX (List.cons_ne_nil _ _) (fun q_z => False.elim (by revert q_z; decide)) (fun _ => ?_)
    have hr_z : Zlvl c_z (Zpie c_z u_z o_z) (j_z + 1) p_z = (false, (Zlvl c_z (Zpie c_z u_z o_z) j_z p_z).2.1, []) := by rw [Zlvl, if_neg hb_z]
    refine Zgo hX 1 rfl True.intro ?_
    refine Zs_retz hX hE rfl (by first | exact Or.inl rfl | exact Or.inr rfl) ⟨Or.inr ⟨rfl, by rw [hr_z]; exact Bool.false_ne_true⟩, ?_⟩
    rw [hr_z]
    exact Zkq_f2 (Sc.rf M) hq_z


theorem k_levels (c_z : Nat → Nat) (n_z u_z o_z F : Nat) (hpie : Zkc 161 F [.int (nI (5 - o_z))] c_z n_z u_z (Zpie c_z u_z o_z)) : ∀ j_z, j_z ≤ 4 → Zkc 158 (F + 2 + 2 * j_z) [.int (nI (4 - j_z)), .int (nI (5 - o_z))] c_z n_z u_z (Zlvl c_z (Zpie c_z u_z o_z) (j_z + 1)) := by
  intro j_z
  induction j_z with
  | zero =>
    intro _ p_z st M hz_z hsp
    exact k_part c_z n_z u_z o_z 0 p_z st M hz_z hsp (F + 1) (by decide) (fun p_z st M hz_z hsp => k_between c_z n_z u_z o_z 0 p_z st M hz_z hsp F (by decide) (fun _ => hpie) (fun j1_z h_z => absurd h_z (by omega)))
  | succ j_z ih_z =>
    intro hj_z p_z st M hz_z hsp
    have ih_z := ih_z (by omega)
    refine k_part c_z n_z u_z o_z (j_z + 1) p_z st M hz_z hsp (F + 2 + 2 * j_z + 1) hj_z (fun p_z st M hz_z hsp => k_between c_z n_z u_z o_z (j_z + 1) p_z st M hz_z hsp (F + 2 + 2 * j_z) hj_z (fun h_z => absurd h_z (by omega)) (fun j1_z h_z => ?_))
    obtain rfl : j1_z = j_z := by omega
    exact ih_z
theorem k_pieces (c_z : Nat → Nat) (n_z u_z : Nat) : ∀ o_z, o_z ≤ 5 → Zkc 161 (2 + 12 * o_z) [.int (nI (5 - o_z))] c_z n_z u_z (Zpie c_z u_z o_z) := by
  intro o_z
  induction o_z with
  | zero =>
    intro _ p_z st M hz_z hsp
    exact k_piece c_z n_z u_z 0 p_z st M hz_z hsp 1 (by decide) (by decide) (fun o1 h_z => absurd h_z (by omega))
  | succ o_z ih_z =>
    intro ho p_z st M hz_z hsp
    have ih_z := ih_z (by omega)
    refine k_piece c_z n_z u_z (o_z + 1) p_z st M hz_z hsp (2 + 12 * o_z + 11) (by omega) ho (fun o1 h_z s_z hs_z hcs => ?_)
    obtain rfl : o1 = o_z := by omega
    exact k_opened c_z n_z u_z o1 p_z st M hz_z hsp s_z (2 + 12 * o1) (by omega) hs_z hcs ih_z (k_levels c_z n_z u_z o1 (2 + 12 * o1) ih_z 4 (by decide))
