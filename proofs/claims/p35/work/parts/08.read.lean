set_option maxRecDepth 20000 in
theorem k_next (c_z : Nat → Nat) (n_z u_z p_z st : Nat) (M : Zmem) (hz_z : Zkp c_z n_z u_z p_z st M) : ZC 156 0 [.ref 33] M (fun r_z M' => r_z = some (.int (Zsb (c_z p_z))) ∧ M = M') := by
  refine ZC_of Zt156 Zk156 (Nat.le_of_ble_eq_true rfl) (by decide) rfl (fun X hX hE => ?_)
  obtain ⟨⟨hcn, hn60, hu2, hpn⟩, hta, hby, hus, hat, hsz, htp⟩ := id hz_z
  refine Zgo hX 1 rfl (by first | exact True.intro | (dsimp only [ZallP]; and_intros <;> (first | decide | ((try simp only [pk_mul, nI_add]); exact Zin_n (by omega) (by decide))))) ?_
  refine Zs_getf hX (List.cons_ne_nil _ _) (by decide) rfl rfl (v := .ref 7) (Ztp _ hta) ?_
  refine Zgo hX 5 rfl (by first | exact True.intro | (dsimp only [ZallP]; and_intros <;> (first | decide | ((try simp only [pk_mul, nI_add]); exact Zin_n (by omega) (by decide))))) ?_
  rw [hat, hby]
  refine Zs_ige hX (List.cons_ne_nil _ _) (fun h15_z => ?_) (fun h15_z => ?_)
  · skip
    have hge := (Zn_le (by omega) (by omega)).mp h15_z
    refine Zgo hX 1 rfl (by first | exact True.intro | (dsimp only [ZallP]; and_intros <;> (first | decide | ((try simp only [pk_mul, nI_add]); exact Zin_n (by omega) (by decide))))) ?_
    refine Zs_ret hX hE rfl ⟨by first | rfl | (rw [hcn p_z hge]; rfl), rfl⟩
  · skip
    have hlt : p_z < n_z := (Nat.lt_or_ge p_z n_z).elim id (fun q_z => absurd ((Zn_le (by omega) (by omega)).mpr q_z) h15_z)
    refine Zgo hX 3 rfl (by first | exact True.intro | (dsimp only [ZallP]; and_intros <;> (first | decide | ((try simp only [pk_mul, nI_add]); exact Zin_n (by omega) (by decide))))) ?_
    refine Zs_getf hX (List.cons_ne_nil _ _) (by decide) rfl rfl (v := .ref 7) (Ztp _ hta) ?_
    refine Zgo hX 1 rfl (by first | exact True.intro | (dsimp only [ZallP]; and_intros <;> (first | decide | ((try simp only [pk_mul, nI_add]); exact Zin_n (by omega) (by decide))))) ?_
    rw [hat]
    refine Zs_ige hX (List.cons_ne_nil _ _) (fun h27_z => (absurd ((Zn_le (by decide) (by omega)).mp h27_z) (by omega))) (fun h27_z => ?_)
    refine Zgo hX 1 rfl (by first | exact True.intro | (dsimp only [ZallP]; and_intros <;> (first | decide | ((try simp only [pk_mul, nI_add]); exact Zin_n (by omega) (by decide))))) ?_
    refine Zs_getf hX (List.cons_ne_nil _ _) (by decide) rfl rfl (v := .ref 7) (Ztp _ hta) ?_
    refine Zgo hX 4 rfl (by show vp_in _ _; rw [hat]; exact Zin_n (by omega) (by decide)) ?_
    rw [hat, hz_z.nx p_z hlt]
    refine Zs_ret hX hE rfl ⟨by first | rfl | (rw [hcn p_z hge]; rfl), rfl⟩

set_option maxRecDepth 20000 in
theorem k_isDigit (m_z : Nat) (M : Zmem) : ZC 164 0 [.int (Zsb m_z)] M (fun r_z M' => Zb r_z (Zdig m_z = true) ∧ M = M') := by
  refine ZC_of Zt164 Zk164 (Nat.le_of_ble_eq_true rfl) (by decide) rfl (fun X hX hE => ?_)
  refine Zgo hX 2 rfl (by first | exact True.intro | (dsimp only [ZallP]; and_intros <;> (first | decide | ((try simp only [pk_mul, nI_add]); exact Zin_n (by omega) (by decide))))) ?_
  refine Zs_ilt hX (List.cons_ne_nil _ _) (fun h1_z => ?_) (fun h1_z => ?_)
  · skip
    refine Zgo hX 1 rfl (by first | exact True.intro | (dsimp only [ZallP]; and_intros <;> (first | decide | ((try simp only [pk_mul, nI_add]); exact Zin_n (by omega) (by decide))))) ?_
    refine Zs_retz hX hE rfl (by first | exact Or.inl rfl | exact Or.inr rfl | assumption) ⟨by first | exact Or.inr ⟨rfl, fun q_z => Int32.not_le.mpr h1_z (Zsb_dig.mpr q_z).1⟩ | exact Or.inr ⟨rfl, fun q_z => Int32.not_le.mpr h2_z (Zsb_dig.mpr q_z).2⟩ | exact Or.inl ⟨rfl, Zsb_dig.mp ⟨Int32.not_lt.mp h1_z, Int32.not_lt.mp h2_z⟩⟩, rfl⟩
  · skip
    refine Zgo hX 2 rfl (by first | exact True.intro | (dsimp only [ZallP]; and_intros <;> (first | decide | ((try simp only [pk_mul, nI_add]); exact Zin_n (by omega) (by decide))))) ?_
    refine Zs_igt hX (List.cons_ne_nil _ _) (fun h2_z => ?_) (fun h2_z => ?_)
    · skip
      refine Zgo hX 1 rfl (by first | exact True.intro | (dsimp only [ZallP]; and_intros <;> (first | decide | ((try simp only [pk_mul, nI_add]); exact Zin_n (by omega) (by decide))))) ?_
      refine Zs_retz hX hE rfl (by first | exact Or.inl rfl | exact Or.inr rfl | assumption) ⟨by first | exact Or.inr ⟨rfl, fun q_z => Int32.not_le.mpr h1_z (Zsb_dig.mpr q_z).1⟩ | exact Or.inr ⟨rfl, fun q_z => Int32.not_le.mpr h2_z (Zsb_dig.mpr q_z).2⟩ | exact Or.inl ⟨rfl, Zsb_dig.mp ⟨Int32.not_lt.mp h1_z, Int32.not_lt.mp h2_z⟩⟩, rfl⟩
    · skip
      refine Zgo hX 2 rfl (by first | exact True.intro | (dsimp only [ZallP]; and_intros <;> (first | decide | ((try simp only [pk_mul, nI_add]); exact Zin_n (by omega) (by decide))))) ?_
      refine Zs_retz hX hE rfl (by first | exact Or.inl rfl | exact Or.inr rfl | assumption) ⟨by first | exact Or.inr ⟨rfl, fun q_z => Int32.not_le.mpr h1_z (Zsb_dig.mpr q_z).1⟩ | exact Or.inr ⟨rfl, fun q_z => Int32.not_le.mpr h2_z (Zsb_dig.mpr q_z).2⟩ | exact Or.inl ⟨rfl, Zsb_dig.mp ⟨Int32.not_lt.mp h1_z, Int32.not_lt.mp h2_z⟩⟩, rfl⟩

set_option maxRecDepth 20000 in
theorem k_levelOf (m_z : Nat) (M : Zmem) : ZC 160 0 [.int (Zsb m_z)] M (fun r_z M' => (∃ x_z : Int32, r_z = some (.int x_z) ∧ ∀ k_z, k_z < 5 → (x_z = nI k_z ↔ Zis k_z m_z = true)) ∧ M = M') := by
  refine ZC_of Zt160 Zk160 (Nat.le_of_ble_eq_true rfl) (by decide) rfl (fun X hX hE => ?_)
  refine Zgo hX 1 rfl (by first | exact True.intro | (dsimp only [ZallP]; and_intros <;> (first | decide | ((try simp only [pk_mul, nI_add]); exact Zin_n (by omega) (by decide))))) ?_
  by_cases s1_0 : Zsb m_z = nI 37
  · skip
    refine Zs_sw [(nI 37, 100), (nI 38, 94), (nI 42, 100), (nI 43, 98), (nI 45, 98), (nI 47, 100), (nI 60, 96), (nI 61, 96), (nI 62, 96), (nI 124, 92)] 102 hX (by decide +kernel) (by decide +kernel) (t := 100) (if_pos s1_0) ?_
    obtain rfl : m_z = 37 := (Zsb_eq (by decide)).mp s1_0
    refine Zgo hX 1 rfl (by first | exact True.intro | (dsimp only [ZallP]; and_intros <;> (first | decide | ((try simp only [pk_mul, nI_add]); exact Zin_n (by omega) (by decide))))) ?_
    refine Zs_ret hX hE rfl ⟨⟨_, rfl, by decide +kernel⟩, rfl⟩
  by_cases s1_1 : Zsb m_z = nI 38
  · skip
    refine Zs_sw [(nI 37, 100), (nI 38, 94), (nI 42, 100), (nI 43, 98), (nI 45, 98), (nI 47, 100), (nI 60, 96), (nI 61, 96), (nI 62, 96), (nI 124, 92)] 102 hX (by decide +kernel) (by decide +kernel) (t := 94) ((if_neg s1_0).trans (if_pos s1_1)) ?_
    obtain rfl : m_z = 38 := (Zsb_eq (by decide)).mp s1_1
    refine Zgo hX 1 rfl (by first | exact True.intro | (dsimp only [ZallP]; and_intros <;> (first | decide | ((try simp only [pk_mul, nI_add]); exact Zin_n (by omega) (by decide))))) ?_
    refine Zs_ret hX hE rfl ⟨⟨_, rfl, by decide +kernel⟩, rfl⟩
  by_cases s1_2 : Zsb m_z = nI 42
  · skip
    refine Zs_sw [(nI 37, 100), (nI 38, 94), (nI 42, 100), (nI 43, 98), (nI 45, 98), (nI 47, 100), (nI 60, 96), (nI 61, 96), (nI 62, 96), (nI 124, 92)] 102 hX (by decide +kernel) (by decide +kernel) (t := 100) ((if_neg s1_0).trans ((if_neg s1_1).trans (if_pos s1_2))) ?_
    obtain rfl : m_z = 42 := (Zsb_eq (by decide)).mp s1_2
    refine Zgo hX 1 rfl (by first | exact True.intro | (dsimp only [ZallP]; and_intros <;> (first | decide | ((try simp only [pk_mul, nI_add]); exact Zin_n (by omega) (by decide))))) ?_
    refine Zs_ret hX hE rfl ⟨⟨_, rfl, by decide +kernel⟩, rfl⟩
  by_cases s1_3 : Zsb m_z = nI 43
  · skip
    refine Zs_sw [(nI 37, 100), (nI 38, 94), (nI 42, 100), (nI 43, 98), (nI 45, 98), (nI 47, 100), (nI 60, 96), (nI 61, 96), (nI 62, 96), (nI 124, 92)] 102 hX (by decide +kernel) (by decide +kernel) (t := 98) ((if_neg s1_0).trans ((if_neg s1_1).trans ((if_neg s1_2).trans (if_pos s1_3)))) ?_
    obtain rfl : m_z = 43 := (Zsb_eq (by decide)).mp s1_3
    refine Zgo hX 1 rfl (by first | exact True.intro | (dsimp only [ZallP]; and_intros <;> (first | decide | ((try simp only [pk_mul, nI_add]); exact Zin_n (by omega) (by decide))))) ?_
    refine Zs_ret hX hE rfl ⟨⟨_, rfl, by decide +kernel⟩, rfl⟩
  by_cases s1_4 : Zsb m_z = nI 45
  · skip
    refine Zs_sw [(nI 37, 100), (nI 38, 94), (nI 42, 100), (nI 43, 98), (nI 45, 98), (nI 47, 100), (nI 60, 96), (nI 61, 96), (nI 62, 96), (nI 124, 92)] 102 hX (by decide +kernel) (by decide +kernel) (t := 98) ((if_neg s1_0).trans ((if_neg s1_1).trans ((if_neg s1_2).trans ((if_neg s1_3).trans (if_pos s1_4))))) ?_
    obtain rfl : m_z = 45 := (Zsb_eq (by decide)).mp s1_4
    refine Zgo hX 1 rfl (by first | exact True.intro | (dsimp only [ZallP]; and_intros <;> (first | decide | ((try simp only [pk_mul, nI_add]); exact Zin_n (by omega) (by decide))))) ?_
    refine Zs_ret hX hE rfl ⟨⟨_, rfl, by decide +kernel⟩, rfl⟩
  by_cases s1_5 : Zsb m_z = nI 47
  · skip
    refine Zs_sw [(nI 37, 100), (nI 38, 94), (nI 42, 100), (nI 43, 98), (nI 45, 98), (nI 47, 100), (nI 60, 96), (nI 61, 96), (nI 62, 96), (nI 124, 92)] 102 hX (by decide +kernel) (by decide +kernel) (t := 100) ((if_neg s1_0).trans ((if_neg s1_1).trans ((if_neg s1_2).trans ((if_neg s1_3).trans ((if_neg s1_4).trans (if_pos s1_5)))))) ?_
    obtain rfl : m_z = 47 := (Zsb_eq (by decide)).mp s1_5
    refine Zgo hX 1 rfl (by first | exact True.intro | (dsimp only [ZallP]; and_intros <;> (first | decide | ((try simp only [pk_mul, nI_add]); exact Zin_n (by omega) (by decide))))) ?_
    refine Zs_ret hX hE rfl ⟨⟨_, rfl, by decide +kernel⟩, rfl⟩
  by_cases s1_6 : Zsb m_z = nI 60
  · skip
    refine Zs_sw [(nI 37, 100), (nI 38, 94), (nI 42, 100), (nI 43, 98), (nI 45, 98), (nI 47, 100), (nI 60, 96), (nI 61, 96), (nI 62, 96), (nI 124, 92)] 102 hX (by decide +kernel) (by decide +kernel) (t := 96) ((if_neg s1_0).trans ((if_neg s1_1).trans ((if_neg s1_2).trans ((if_neg s1_3).trans ((if_neg s1_4).trans ((if_neg s1_5).trans (if_pos s1_6))))))) ?_
    obtain rfl : m_z = 60 := (Zsb_eq (by decide)).mp s1_6
    refine Zgo hX 1 rfl (by first | exact True.intro | (dsimp only [ZallP]; and_intros <;> (first | decide | ((try simp only [pk_mul, nI_add]); exact Zin_n (by omega) (by decide))))) ?_
    refine Zs_ret hX hE rfl ⟨⟨_, rfl, by decide +kernel⟩, rfl⟩
  by_cases s1_7 : Zsb m_z = nI 61
  · skip
    refine Zs_sw [(nI 37, 100), (nI 38, 94), (nI 42, 100), (nI 43, 98), (nI 45, 98), (nI 47, 100), (nI 60, 96), (nI 61, 96), (nI 62, 96), (nI 124, 92)] 102 hX (by decide +kernel) (by decide +kernel) (t := 96) ((if_neg s1_0).trans ((if_neg s1_1).trans ((if_neg s1_2).trans ((if_neg s1_3).trans ((if_neg s1_4).trans ((if_neg s1_5).trans ((if_neg s1_6).trans (if_pos s1_7)))))))) ?_
    obtain rfl : m_z = 61 := (Zsb_eq (by decide)).mp s1_7
    refine Zgo hX 1 rfl (by first | exact True.intro | (dsimp only [ZallP]; and_intros <;> (first | decide | ((try simp only [pk_mul, nI_add]); exact Zin_n (by omega) (by decide))))) ?_
    refine Zs_ret hX hE rfl ⟨⟨_, rfl, by decide +kernel⟩, rfl⟩
  by_cases s1_8 : Zsb m_z = nI 62
  · skip
    refine Zs_sw [(nI 37, 100), (nI 38, 94), (nI 42, 100), (nI 43, 98), (nI 45, 98), (nI 47, 100), (nI 60, 96), (nI 61, 96), (nI 62, 96), (nI 124, 92)] 102 hX (by decide +kernel) (by decide +kernel) (t := 96) ((if_neg s1_0).trans ((if_neg s1_1).trans ((if_neg s1_2).trans ((if_neg s1_3).trans ((if_neg s1_4).trans ((if_neg s1_5).trans ((if_neg s1_6).trans ((if_neg s1_7).trans (if_pos s1_8))))))))) ?_
    obtain rfl : m_z = 62 := (Zsb_eq (by decide)).mp s1_8
    refine Zgo hX 1 rfl (by first | exact True.intro | (dsimp only [ZallP]; and_intros <;> (first | decide | ((try simp only [pk_mul, nI_add]); exact Zin_n (by omega) (by decide))))) ?_
    refine Zs_ret hX hE rfl ⟨⟨_, rfl, by decide +kernel⟩, rfl⟩
  by_cases s1_9 : Zsb m_z = nI 124
  · skip
    refine Zs_sw [(nI 37, 100), (nI 38, 94), (nI 42, 100), (nI 43, 98), (nI 45, 98), (nI 47, 100), (nI 60, 96), (nI 61, 96), (nI 62, 96), (nI 124, 92)] 102 hX (by decide +kernel) (by decide +kernel) (t := 92) ((if_neg s1_0).trans ((if_neg s1_1).trans ((if_neg s1_2).trans ((if_neg s1_3).trans ((if_neg s1_4).trans ((if_neg s1_5).trans ((if_neg s1_6).trans ((if_neg s1_7).trans ((if_neg s1_8).trans (if_pos s1_9)))))))))) ?_
    obtain rfl : m_z = 124 := (Zsb_eq (by decide)).mp s1_9
    refine Zgo hX 1 rfl (by first | exact True.intro | (dsimp only [ZallP]; and_intros <;> (first | decide | ((try simp only [pk_mul, nI_add]); exact Zin_n (by omega) (by decide))))) ?_
    refine Zs_ret hX hE rfl ⟨⟨_, rfl, by decide +kernel⟩, rfl⟩
  refine Zs_sw [(nI 37, 100), (nI 38, 94), (nI 42, 100), (nI 43, 98), (nI 45, 98), (nI 47, 100), (nI 60, 96), (nI 61, 96), (nI 62, 96), (nI 124, 92)] 102 hX (by decide +kernel) (by decide +kernel) (t := 102) ((if_neg s1_0).trans ((if_neg s1_1).trans ((if_neg s1_2).trans ((if_neg s1_3).trans ((if_neg s1_4).trans ((if_neg s1_5).trans ((if_neg s1_6).trans ((if_neg s1_7).trans ((if_neg s1_8).trans (if_neg s1_9)))))))))) ?_
  have hns : ¬ Zsg m_z := by
    unfold Zsg
    rintro (e_z | e_z | e_z | e_z | e_z | e_z | e_z | e_z | e_z | e_z) <;> subst e_z
    · exact s1_9 rfl
    · exact s1_1 rfl
    · exact s1_6 rfl
    · exact s1_7 rfl
    · exact s1_8 rfl
    · exact s1_3 rfl
    · exact s1_4 rfl
    · exact s1_2 rfl
    · exact s1_5 rfl
    · exact s1_0 rfl
  refine Zgo hX 1 rfl (by first | exact True.intro | (dsimp only [ZallP]; and_intros <;> (first | decide | ((try simp only [pk_mul, nI_add]); exact Zin_n (by omega) (by decide))))) ?_
  refine Zs_ret hX hE rfl ⟨⟨_, rfl, Zlv_no hns⟩, rfl⟩

set_option maxRecDepth 20000 in
theorem k_keep (x_z : Int32) (st : Nat) (M : Zmem) (hs_z : M 33 1 = nI st) (h60_z : st ≤ 60) : ZC 157 0 [.ref 33, .int x_z] M (fun r_z M' => r_z = none ∧ ((st < 60 ∧ Zu (Zu M 34 st x_z) 33 1 (nI (st + 1)) = M') ∨ (st = 60 ∧ M = M'))) := by
  refine ZC_of Zt157 Zk157 (Nat.le_of_ble_eq_true rfl) (by decide) rfl (fun X hX hE => ?_)
  refine Zgo hX 5 rfl (by first | exact True.intro | (dsimp only [ZallP]; and_intros <;> (first | decide | ((try simp only [pk_mul, nI_add]); exact Zin_n (by omega) (by decide))))) ?_
  rw [hs_z]
  refine Zs_ige hX (List.cons_ne_nil _ _) (fun h9_z => ?_) (fun h9_z => ?_)
  · skip
    refine Zs_retv hX hE rfl ⟨rfl, Or.inr ⟨?_, rfl⟩⟩
    have := (Zn_le (by decide) (by omega)).mp h9_z; omega
  · skip
    have hlt : st < 60 := (Nat.lt_or_ge st 60).elim id (fun q_z => absurd ((Zn_le (by decide) (by omega)).mpr q_z) h9_z)
    refine Zgo hX 12 rfl (by show vp_in _ _; rw [hs_z]; exact Zin_n hlt (by decide)) ?_
    refine Zs_retv hX hE rfl ⟨rfl, Or.inl ⟨hlt, ?_⟩⟩
    rw [show M 33 1 = nI st from hs_z, Zcl_n (by omega)]
    rw [show (Zu M 34 st x_z) 33 1 = nI st from hs_z, nI_add]

set_option maxRecDepth 20000 in
set_option maxHeartbeats 1000000 in
theorem k_nameOf (m_z u_z : Nat) (M : Zmem) (hus : M 33 5 = nI u_z) (hu2 : u_z < 2) : ZC 165 0 [.ref 33, .int (Zsb m_z)] M (fun r_z M' => (∃ x_z : Int32, r_z = some (.int x_z) ∧ ((Znmb u_z m_z = true ∧ x_z = nI (Zpn u_z m_z)) ∨ (¬ Znmb u_z m_z = true ∧ x_z = -(nI 1)))) ∧ M = M') := by
  refine ZC_of Zt165 Zk165 (Nat.le_of_ble_eq_true rfl) (by decide) rfl (fun X hX hE => ?_)
  have L2 : ∀ (q_z : Nat) (i_z : Nat), 3 - i_z < q_z → i_z ≤ 3 → (∀ j_z, j_z < i_z → ¬ Zsb m_z = Znc u_z j_z) → ZP X Zt165 (Zsf Zt165 2) [(0, .ref 33), (1, .int (Zsb m_z)), (2, .int (nI i_z))] [] M := by
    intro q_z
    induction q_z with
    | zero => intro i_z hq_z; exact absurd hq_z (Nat.not_lt_zero _)
    | succ q_z ih_z =>
      intro i_z hq_z hi_z hno
      refine Zgo hX 2 rfl (by first | exact True.intro | (dsimp only [ZallP]; and_intros <;> (first | decide | ((try simp only [pk_mul, nI_add]); exact Zin_n (by omega) (by decide))))) ?_
      refine Zs_ige hX (List.cons_ne_nil _ _) (fun h4_z => ?_) (fun h4_z => ?_)
      · skip
        obtain rfl : i_z = 3 := by have := (Zn_le (by decide) (by omega)).mp h4_z; omega
        refine Zgo hX 1 rfl (by first | exact True.intro | (dsimp only [ZallP]; and_intros <;> (first | decide | ((try simp only [pk_mul, nI_add]); exact Zin_n (by omega) (by decide))))) ?_
        refine Zs_ret hX hE rfl ⟨⟨_, rfl, Or.inr ⟨Znc_n hu2 hno, rfl⟩⟩, rfl⟩
      · skip
        have hlt : i_z < 3 := (Nat.lt_or_ge i_z 3).elim id (fun q_z => absurd ((Zn_le (by decide) (by omega)).mpr q_z) h4_z)
        refine Zgo hX 8 rfl (by first | exact True.intro | (dsimp only [ZallP]; and_intros <;> (first | decide | ((try simp only [pk_mul, nI_add]); exact Zin_n (by omega) (by decide))))) ?_
        rw [hus, pk_mul, nI_add]
        refine Zs_lt hX (List.cons_ne_nil _ _) (fun h17_z => (absurd h17_z (Zn_nlt0 (by omega)))) (fun h17_z => ?_)
        refine Zgo hX 3 rfl (by first | exact True.intro | (dsimp only [ZallP]; and_intros <;> (first | decide | ((try simp only [pk_mul, nI_add]); exact Zin_n (by omega) (by decide))))) ?_
        refine Zs_ige hX (List.cons_ne_nil _ _) (fun h25_z => (absurd ((Zn_le (by decide) (by omega)).mp h25_z) (by omega))) (fun h25_z => ?_)
        refine Zgo hX 4 rfl (Zin_n (by omega) (by decide)) ?_
        rw [Zcl_n (show 3 * u_z + i_z < 2 ^ 31 by omega)]
        refine Zs_ine hX (List.cons_ne_nil _ _) (fun h34_z => ?_) (fun h34_z => ?_)
        · skip
          refine Zgo hX 2 rfl (by first | exact True.intro | (dsimp only [ZallP]; and_intros <;> (first | decide | ((try simp only [pk_mul, nI_add]); exact Zin_n (by omega) (by decide))))) ?_
          refine Zs_sub (l' := [(0, .ref 33), (1, .int (Zsb m_z)), (2, .int (nI i_z + nI 1))]) rfl ?_
          rw [nI_add]
          refine ih_z (i_z + 1) (by omega) (by omega) (fun j_z hj_z => ?_)
          by_cases e_z : j_z = i_z
          · subst e_z; exact fun q_z => h34_z q_z.symm
          · exact hno j_z (by omega)
        · skip
          refine Zgo hX 1 rfl (by first | exact True.intro | (dsimp only [ZallP]; and_intros <;> (first | decide | ((try simp only [pk_mul, nI_add]); exact Zin_n (by omega) (by decide))))) ?_
          refine Zs_ret hX hE rfl ⟨⟨_, rfl, Or.inl (Znc_y hu2 hlt (Eq.symm h34_z))⟩, rfl⟩
  refine Zgo hX 2 rfl (by first | exact True.intro | (dsimp only [ZallP]; and_intros <;> (first | decide | ((try simp only [pk_mul, nI_add]); exact Zin_n (by omega) (by decide))))) ?_
  refine Zs_sub (l' := [(0, .ref 33), (1, .int (Zsb m_z)), (2, .int (nI 0))]) rfl ?_
  exact L2 4 0 (by decide) (by decide) (fun j_z hj_z => absurd hj_z (Nat.not_lt_zero _))

set_option maxRecDepth 20000 in
set_option maxHeartbeats 1000000 in
theorem k_number (c_z : Nat → Nat) (n_z u_z p_z st : Nat) (M : Zmem) (hz_z : Zkp c_z n_z u_z p_z st M) (hd_z : Zdig (c_z p_z) = true) (hsp : st ≤ p_z) : ZC 163 1 [.ref 33] M (fun r_z M' => r_z = none ∧ Zkq c_z n_z u_z st M M' (true, (Znum c_z 4 p_z 0).1, [(nI 0, nI (Znum c_z 4 p_z 0).2)])) := by
  refine ZC_of Zt163 Zk163 (Nat.le_of_ble_eq_true rfl) (by decide) rfl (fun X hX hE => ?_)
  obtain ⟨⟨hcn, hn60, hu2, hpn⟩, hta, hby, hus, hat, hsz, htp⟩ := id hz_z
  have hplt : p_z < n_z := Zc_lt hcn (by have := Zdig_iff.mp hd_z; omega)
  have L48 : ∀ (q_z : Nat) (q1_z v_z : Nat) (M1 : Zmem), 0 < q_z → Znum c_z 4 p_z 0 = (q1_z, v_z) → Sc M M1 → Zkp c_z n_z u_z q1_z st M1 → (∀ i_z, M1 34 i_z = M 34 i_z) → ZP X Zt163 (Zsf Zt163 48) [(0, .ref 33), (1, .int (nI v_z))] [] M1 := by
    intro q_z
    induction q_z with
    | zero => intro q1_z v_z M1 hq_z; exact absurd hq_z (Nat.not_lt_zero _)
    | succ q_z ih_z =>
      intro q1_z v_z M1 hq_z hnum hsc hz1 hco
      refine Zgo hX 2 rfl (by first | exact True.intro | (dsimp only [ZallP]; and_intros <;> (first | decide | ((try simp only [pk_mul, nI_add]); exact Zin_n (by omega) (by decide))))) ?_
      refine Zs_callv hX (List.cons_ne_nil _ _) (k_keep _ st _ hz1.2.2.2.2.2.1 (by omega)) (by decide) (by decide) rfl rfl rfl (by decide) (Nat.le_of_ble_eq_true rfl) (fun r_z M' hc_z => ?_)
      rcases hc_z with ⟨rfl, ⟨-, rfl⟩ | ⟨hk_z, -⟩⟩
      · skip
        refine Zs_retv hX hE rfl ⟨rfl, ?_⟩
        rw [hnum]
        exact Zkq_1 hsc hco hz1 (by omega) (Or.inl ⟨rfl, rfl⟩)
      · skip
        exact absurd hk_z (by omega)
  have L4 : ∀ (q_z : Nat) (i_z q1_z v_z : Nat) (M1 : Zmem), 4 - i_z < q_z → i_z ≤ 4 → Znum c_z (4 - i_z) q1_z v_z = Znum c_z 4 p_z 0 → Sc M M1 → Zkp c_z n_z u_z q1_z st M1 → (∀ i_z, M1 34 i_z = M 34 i_z) → ZP X Zt163 (Zsf Zt163 4) [(0, .ref 33), (1, .int (nI v_z)), (2, .int (nI i_z))] [] M1 := by
    intro q_z
    induction q_z with
    | zero => intro i_z q1_z v_z M1 hq_z; exact absurd hq_z (Nat.not_lt_zero _)
    | succ q_z ih_z =>
      intro i_z q1_z v_z M1 hq_z hi_z hnum hsc hz1 hco
      refine Zgo hX 2 rfl (by first | exact True.intro | (dsimp only [ZallP]; and_intros <;> (first | decide | ((try simp only [pk_mul, nI_add]); exact Zin_n (by omega) (by decide))))) ?_
      refine Zs_ige hX (List.cons_ne_nil _ _) (fun h6_z => ?_) (fun h6_z => ?_)
      · skip
        refine Zs_sub (l' := [(0, .ref 33), (1, .int (nI v_z))]) rfl ?_
        obtain rfl : i_z = 4 := by have := (Zn_le (by decide) (by omega)).mp h6_z; omega
        exact L48 1 q1_z v_z M1 (by decide) hnum.symm hsc hz1 hco
      · skip
        have hlt : i_z < 4 := (Nat.lt_or_ge i_z 4).elim id (fun q_z => absurd ((Zn_le (by decide) (by omega)).mpr q_z) h6_z)
        have e4 : 4 - i_z = (4 - (i_z + 1)) + 1 := by omega
        have hlq := hz1.1.2.2.2
        have hn6 := hz1.1.2.1
        refine Zgo hX 1 rfl (by first | exact True.intro | (dsimp only [ZallP]; and_intros <;> (first | decide | ((try simp only [pk_mul, nI_add]); exact Zin_n (by omega) (by decide))))) ?_
        refine Zs_callv hX (List.cons_ne_nil _ _) (k_next c_z n_z u_z q1_z st _ hz1) (by decide) (by decide) rfl rfl rfl (by decide) (Nat.le_of_ble_eq_true rfl) (fun r_z M' hc_z => ?_)
        obtain ⟨rfl, rfl⟩ := hc_z
        refine Zs_calls hX (List.cons_ne_nil _ _) (by decide) (k_isDigit _ _) (by decide) rfl rfl (by decide) (Nat.le_of_ble_eq_true rfl) (fun r_z M' hc_z => ?_)
        rcases hc_z with ⟨⟨rfl, hb_z⟩ | ⟨rfl, hb_z⟩, rfl⟩
        · skip
          refine Zs_eq hX (List.cons_ne_nil _ _) (fun q_z => absurd q_z (by decide)) (fun _ => ?_)
          refine Zgo hX 4 rfl (by first | exact True.intro | (dsimp only [ZallP]; and_intros <;> (first | decide | ((try simp only [pk_mul, nI_add]); exact Zin_n (by omega) (by decide))))) ?_
          refine Zs_callv hX (List.cons_ne_nil _ _) (k_next c_z n_z u_z q1_z st _ hz1) (by decide) (by decide) rfl rfl rfl (by decide) (Nat.le_of_ble_eq_true rfl) (fun r_z M' hc_z => ?_)
          obtain ⟨rfl, rfl⟩ := hc_z
          have hdg := Zdig_iff.mp hb_z
          have hql : q1_z < n_z := Zc_lt hz1.1.1 (by omega)
          rw [Zsb_lt (show c_z q1_z < 128 by omega)]
          refine Zgo hX 12 rfl (by first | exact True.intro | (dsimp only [ZallP]; and_intros <;> (first | decide | ((try simp only [pk_mul, nI_add]); exact Zin_n (by omega) (by decide))))) ?_
          rw [hz1.2.2.2.2.1]
          simp only [pk_mul, nI_add]
          rw [pk_sub (show 48 ≤ 10 * v_z + c_z q1_z by omega)]
          refine Zs_sub (l' := [(0, .ref 33), (1, .int (nI (10 * v_z + c_z q1_z - 48))), (2, .int (nI (i_z + 1)))]) rfl ?_
          exact ih_z (i_z + 1) (q1_z + 1) (10 * v_z + c_z q1_z - 48) _ (by omega) (by omega) (by rw [← hnum, e4, Znum, if_pos hb_z]) (hsc.tr (Zsc_at _ _)) (hz1.at hql) hco
        · skip
          refine Zs_eq hX (List.cons_ne_nil _ _) (fun _ => ?_) (fun q_z => absurd rfl q_z)
          refine Zs_sub (l' := [(0, .ref 33), (1, .int (nI v_z))]) rfl ?_
          refine L48 1 q1_z v_z M1 (by decide) ?_ hsc hz1 hco
          rw [← hnum, e4, Znum, if_neg hb_z]
  refine Zgo hX 4 rfl (by first | exact True.intro | (dsimp only [ZallP]; and_intros <;> (first | decide | ((try simp only [pk_mul, nI_add]); exact Zin_n (by omega) (by decide))))) ?_
  refine Zs_sub (l' := [(0, .ref 33), (1, .int (nI 0)), (2, .int (nI 0))]) rfl ?_
  exact L4 5 0 p_z 0 M (by decide) (by decide) rfl (Sc.rf M) hz_z (fun _ => rfl)
