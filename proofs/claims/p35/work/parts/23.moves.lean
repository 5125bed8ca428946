
section ZKM
variable {g_z : Zsn} {M : Zmem}
theorem Zks.mv (h_z : Zks g_z M) {t1 t2 i_z j_z n_z : Nat} (h1_z : t1 < 4) (h2_z : t2 < 4) (hi_z : i_z + n_z ≤ 24) (hj_z : j_z + n_z ≤ 24) : Zks (g_z.1, g_z.2.1, Zmo g_z.2.2 (24 * t1 + i_z) (24 * t2 + j_z) n_z) (fun q_z => if q_z = 46 + 2 * t2 then va_cpy (M (46 + 2 * t1)) (M (46 + 2 * t2)) i_z j_z n_z else M q_z) := by
  intro t ht_z
  obtain ⟨e1_z, e2_z, e3_z⟩ := h_z t ht_z
  refine ⟨by show (if _ then _ else _ : Nat → Int32) 1 = _; rw [if_neg (by omega)]; exact e1_z, by show (if _ then _ else _ : Nat → Int32) 2 = _; rw [if_neg (by omega)]; exact e2_z, fun k_z hk_z => ?_⟩
  show (if 46 + 2 * t = 46 + 2 * t2 then va_cpy (M (46 + 2 * t1)) (M (46 + 2 * t2)) i_z j_z n_z else M (46 + 2 * t)) k_z = _
  by_cases e_z : t = t2
  · subst e_z
    rw [if_pos rfl]
    by_cases c_z : j_z ≤ k_z ∧ k_z < j_z + n_z
    · obtain ⟨c1_z, c2⟩ := c_z
      rw [pk_cpy_in c1_z c2, (h_z t1 h1_z).2.2 _ (by omega)]
      show _ = Zmo g_z.2.2 (24 * t1 + i_z) (24 * t + j_z) n_z (24 * t + k_z)
      rw [show 24 * t + k_z = 24 * t + j_z + (k_z - j_z) by omega, Zmo_i (by omega), show 24 * t1 + i_z + (k_z - j_z) = 24 * t1 + (i_z + (k_z - j_z)) by omega]
    · rw [pk_cpy_out (by omega), e3_z k_z hk_z]
      exact (Zmo_o (by omega)).symm
  · rw [if_neg (by omega), e3_z k_z hk_z]
    exact (Zmo_o (by omega)).symm
end ZKM
theorem Zmv_hg (M : Zmem) {o1 : Nat} (h_z : 45 ≤ o1 ∧ o1 ≤ 52) (F : Nat → Int32) : Zhg M (fun q_z => if q_z = o1 then F else M q_z) := fun o_z k_z _ q_z => by
  show (if o_z = o1 then F else M o_z) k_z = _
  rw [if_neg (fun e_z => q_z (by rw [e_z]; exact h_z))]
theorem Zfit_i {i_z n_z : Int32} {s_z : Nat} (hs_z : s_z ≤ 24) (hi_z : 0 ≤ i_z.toInt) (hn_z : 0 ≤ n_z.toInt) (h_z : i_z.toInt + n_z.toInt ≤ (nI s_z).toInt) : ∃ a_z b_z, i_z = nI a_z ∧ n_z = nI b_z ∧ a_z + b_z ≤ s_z ∧ a_z < 2 ^ 31 ∧ b_z < 2 ^ 31 := by
  obtain ⟨a_z, ha_z, rfl, ea⟩ := Zof hi_z
  obtain ⟨b_z, hb_z, rfl, eb⟩ := Zof hn_z
  rw [ea, eb, Zn_i (by omega)] at h_z
  exact ⟨a_z, b_z, rfl, rfl, by omega, ha_z, hb_z⟩

set_option maxRecDepth 20000 in
set_option maxHeartbeats 1000000 in
theorem k_has0 (i_z n_z : Int32) (s_z : Nat) (M : Zmem) (hs_z : M 45 2 = nI s_z) (hs24 : s_z ≤ 24) : ZC 182 0 [.ref 45, .int i_z, .int n_z] M (fun r_z M' => Zb r_z (0 ≤ i_z.toInt ∧ 0 ≤ n_z.toInt ∧ i_z.toInt + n_z.toInt ≤ (nI s_z).toInt) ∧ M = M') := by
  refine ZC_of Zt182 Zk182 (Nat.le_of_ble_eq_true rfl) (by decide) rfl (fun X hX hE => ?_)
  have es : (nI s_z).toInt = s_z := Zn_i (by omega)
  refine Zgo hX 1 rfl (by (first | exact True.intro | assumption | (dsimp only [ZallP]; and_intros <;> (first | assumption | decide | omega | ((try simp (disch := omega) only [pk_mul, nI_add, Zcl_n]); exact Zin_n (by omega) (by decide)))))) ?_
  refine Zs_lt hX (List.cons_ne_nil _ _) (fun h1_z => ?_) (fun h1_z => ?_)
  · have h1_z := (Zlt_i i_z 0).mp h1_z
    refine Zgo hX 1 rfl (by (first | exact True.intro | assumption | (dsimp only [ZallP]; and_intros <;> (first | assumption | decide | omega | ((try simp (disch := omega) only [pk_mul, nI_add, Zcl_n]); exact Zin_n (by omega) (by decide)))))) ?_
    refine Zs_retz hX hE rfl (by first | exact Or.inl rfl | exact Or.inr rfl) ⟨Or.inr ⟨rfl, fun q_z => absurd q_z.1 (Int.not_le.mpr h1_z)⟩, rfl⟩
  · have h1_z : 0 ≤ i_z.toInt := Int.not_lt.mp (fun q_z => h1_z ((Zlt_i i_z 0).mpr q_z))
    refine Zgo hX 1 rfl (by (first | exact True.intro | assumption | (dsimp only [ZallP]; and_intros <;> (first | assumption | decide | omega | ((try simp (disch := omega) only [pk_mul, nI_add, Zcl_n]); exact Zin_n (by omega) (by decide)))))) ?_
    refine Zs_lt hX (List.cons_ne_nil _ _) (fun h2_z => ?_) (fun h2_z => ?_)
    · have h2_z := (Zlt_i n_z 0).mp h2_z
      refine Zgo hX 1 rfl (by (first | exact True.intro | assumption | (dsimp only [ZallP]; and_intros <;> (first | assumption | decide | omega | ((try simp (disch := omega) only [pk_mul, nI_add, Zcl_n]); exact Zin_n (by omega) (by decide)))))) ?_
      refine Zs_retz hX hE rfl (by first | exact Or.inl rfl | exact Or.inr rfl) ⟨Or.inr ⟨rfl, fun q_z => absurd q_z.2.1 (Int.not_le.mpr h2_z)⟩, rfl⟩
    · have h2_z : 0 ≤ n_z.toInt := Int.not_lt.mp (fun q_z => h2_z ((Zlt_i n_z 0).mpr q_z))
      refine Zgo hX 3 rfl (by (first | exact True.intro | assumption | (dsimp only [ZallP]; and_intros <;> (first | assumption | decide | omega | ((try simp (disch := omega) only [pk_mul, nI_add, Zcl_n]); exact Zin_n (by omega) (by decide)))))) ?_
      rw [hs_z]
      refine Zs_igt hX (List.cons_ne_nil _ _) (fun h3_z => ?_) (fun h3_z => ?_)
      · have h3_z := (Zlt_i (nI s_z) n_z).mp h3_z
        refine Zgo hX 1 rfl (by (first | exact True.intro | assumption | (dsimp only [ZallP]; and_intros <;> (first | assumption | decide | omega | ((try simp (disch := omega) only [pk_mul, nI_add, Zcl_n]); exact Zin_n (by omega) (by decide)))))) ?_
        refine Zs_retz hX hE rfl (by first | exact Or.inl rfl | exact Or.inr rfl) ⟨Or.inr ⟨rfl, fun q_z => by omega⟩, rfl⟩
      · have h3_z : n_z.toInt ≤ (nI s_z).toInt := Int.not_lt.mp (fun q_z => h3_z ((Zlt_i _ _).mpr q_z))
        have ed : (nI s_z - n_z).toInt = (nI s_z).toInt - n_z.toInt := Zsub_i (by omega) (by omega)
        refine Zgo hX 5 rfl (by (first | exact True.intro | assumption | (dsimp only [ZallP]; and_intros <;> (first | assumption | decide | omega | ((try simp (disch := omega) only [pk_mul, nI_add, Zcl_n]); exact Zin_n (by omega) (by decide)))))) ?_
        rw [hs_z]
        refine Zs_igt hX (List.cons_ne_nil _ _) (fun h4_z => ?_) (fun h4_z => ?_)
        · have h4_z := (Zlt_i (nI s_z - n_z) i_z).mp h4_z
          refine Zgo hX 1 rfl (by (first | exact True.intro | assumption | (dsimp only [ZallP]; and_intros <;> (first | assumption | decide | omega | ((try simp (disch := omega) only [pk_mul, nI_add, Zcl_n]); exact Zin_n (by omega) (by decide)))))) ?_
          refine Zs_retz hX hE rfl (by first | exact Or.inl rfl | exact Or.inr rfl) ⟨Or.inr ⟨rfl, fun q_z => by omega⟩, rfl⟩
        · have h4_z : i_z.toInt ≤ (nI s_z - n_z).toInt := Int.not_lt.mp (fun q_z => h4_z ((Zlt_i _ _).mpr q_z))
          refine Zgo hX 2 rfl (by (first | exact True.intro | assumption | (dsimp only [ZallP]; and_intros <;> (first | assumption | decide | omega | ((try simp (disch := omega) only [pk_mul, nI_add, Zcl_n]); exact Zin_n (by omega) (by decide)))))) ?_
          refine Zs_retz hX hE rfl (by first | exact Or.inl rfl | exact Or.inr rfl) ⟨Or.inl ⟨rfl, h1_z, h2_z, by omega⟩, rfl⟩

set_option maxRecDepth 20000 in
set_option maxHeartbeats 1000000 in
theorem k_has1 (i_z n_z : Int32) (s_z : Nat) (M : Zmem) (hs_z : M 47 2 = nI s_z) (hs24 : s_z ≤ 24) : ZC 182 0 [.ref 47, .int i_z, .int n_z] M (fun r_z M' => Zb r_z (0 ≤ i_z.toInt ∧ 0 ≤ n_z.toInt ∧ i_z.toInt + n_z.toInt ≤ (nI s_z).toInt) ∧ M = M') := by
  refine ZC_of Zt182 Zk182 (Nat.le_of_ble_eq_true rfl) (by decide) rfl (fun X hX hE => ?_)
  have es : (nI s_z).toInt = s_z := Zn_i (by omega)
  refine Zgo hX 1 rfl (by (first | exact True.intro | assumption | (dsimp only [ZallP]; and_intros <;> (first | assumption | decide | omega | ((try simp (disch := omega) only [pk_mul, nI_add, Zcl_n]); exact Zin_n (by omega) (by decide)))))) ?_
  refine Zs_lt hX (List.cons_ne_nil _ _) (fun h1_z => ?_) (fun h1_z => ?_)
  · have h1_z := (Zlt_i i_z 0).mp h1_z
    refine Zgo hX 1 rfl (by (first | exact True.intro | assumption | (dsimp only [ZallP]; and_intros <;> (first | assumption | decide | omega | ((try simp (disch := omega) only [pk_mul, nI_add, Zcl_n]); exact Zin_n (by omega) (by decide)))))) ?_
    refine Zs_retz hX hE rfl (by first | exact Or.inl rfl | exact Or.inr rfl) ⟨Or.inr ⟨rfl, fun q_z => absurd q_z.1 (Int.not_le.mpr h1_z)⟩, rfl⟩
  · have h1_z : 0 ≤ i_z.toInt := Int.not_lt.mp (fun q_z => h1_z ((Zlt_i i_z 0).mpr q_z))
    refine Zgo hX 1 rfl (by (first | exact True.intro | assumption | (dsimp only [ZallP]; and_intros <;> (first | assumption | decide | omega | ((try simp (disch := omega) only [pk_mul, nI_add, Zcl_n]); exact Zin_n (by omega) (by decide)))))) ?_
    refine Zs_lt hX (List.cons_ne_nil _ _) (fun h2_z => ?_) (fun h2_z => ?_)
    · have h2_z := (Zlt_i n_z 0).mp h2_z
      refine Zgo hX 1 rfl (by (first | exact True.intro | assumption | (dsimp only [ZallP]; and_intros <;> (first | assumption | decide | omega | ((try simp (disch := omega) only [pk_mul, nI_add, Zcl_n]); exact Zin_n (by omega) (by decide)))))) ?_
      refine Zs_retz hX hE rfl (by first | exact Or.inl rfl | exact Or.inr rfl) ⟨Or.inr ⟨rfl, fun q_z => absurd q_z.2.1 (Int.not_le.mpr h2_z)⟩, rfl⟩
    · have h2_z : 0 ≤ n_z.toInt := Int.not_lt.mp (fun q_z => h2_z ((Zlt_i n_z 0).mpr q_z))
      refine Zgo hX 3 rfl (by (first | exact True.intro | assumption | (dsimp only [ZallP]; and_intros <;> (first | assumption | decide | omega | ((try simp (disch := omega) only [pk_mul, nI_add, Zcl_n]); exact Zin_n (by omega) (by decide)))))) ?_
      rw [hs_z]
      refine Zs_igt hX (List.cons_ne_nil _ _) (fun h3_z => ?_) (fun h3_z => ?_)
      · have h3_z := (Zlt_i (nI s_z) n_z).mp h3_z
        refine Zgo hX 1 rfl (by (first | exact True.intro | assumption | (dsimp only [ZallP]; and_intros <;> (first | assumption | decide | omega | ((try simp (disch := omega) only [pk_mul, nI_add, Zcl_n]); exact Zin_n (by omega) (by decide)))))) ?_
        refine Zs_retz hX hE rfl (by first | exact Or.inl rfl | exact Or.inr rfl) ⟨Or.inr ⟨rfl, fun q_z => by omega⟩, rfl⟩
      · have h3_z : n_z.toInt ≤ (nI s_z).toInt := Int.not_lt.mp (fun q_z => h3_z ((Zlt_i _ _).mpr q_z))
        have ed : (nI s_z - n_z).toInt = (nI s_z).toInt - n_z.toInt := Zsub_i (by omega) (by omega)
        refine Zgo hX 5 rfl (by (first | exact True.intro | assumption | (dsimp only [ZallP]; and_intros <;> (first | assumption | decide | omega | ((try simp (disch := omega) only [pk_mul, nI_add, Zcl_n]); exact Zin_n (by omega) (by decide)))))) ?_
        rw [hs_z]
        refine Zs_igt hX (List.cons_ne_nil _ _) (fun h4_z => ?_) (fun h4_z => ?_)
        · have h4_z := (Zlt_i (nI s_z - n_z) i_z).mp h4_z
          refine Zgo hX 1 rfl (by (first | exact True.intro | assumption | (dsimp only [ZallP]; and_intros <;> (first | assumption | decide | omega | ((try simp (disch := omega) only [pk_mul, nI_add, Zcl_n]); exact Zin_n (by omega) (by decide)))))) ?_
          refine Zs_retz hX hE rfl (by first | exact Or.inl rfl | exact Or.inr rfl) ⟨Or.inr ⟨rfl, fun q_z => by omega⟩, rfl⟩
        · have h4_z : i_z.toInt ≤ (nI s_z - n_z).toInt := Int.not_lt.mp (fun q_z => h4_z ((Zlt_i _ _).mpr q_z))
          refine Zgo hX 2 rfl (by (first | exact True.intro | assumption | (dsimp only [ZallP]; and_intros <;> (first | assumption | decide | omega | ((try simp (disch := omega) only [pk_mul, nI_add, Zcl_n]); exact Zin_n (by omega) (by decide)))))) ?_
          refine Zs_retz hX hE rfl (by first | exact Or.inl rfl | exact Or.inr rfl) ⟨Or.inl ⟨rfl, h1_z, h2_z, by omega⟩, rfl⟩

set_option maxRecDepth 20000 in
set_option maxHeartbeats 1000000 in
theorem k_has2 (i_z n_z : Int32) (s_z : Nat) (M : Zmem) (hs_z : M 49 2 = nI s_z) (hs24 : s_z ≤ 24) : ZC 182 0 [.ref 49, .int i_z, .int n_z] M (fun r_z M' => Zb r_z (0 ≤ i_z.toInt ∧ 0 ≤ n_z.toInt ∧ i_z.toInt + n_z.toInt ≤ (nI s_z).toInt) ∧ M = M') := by
  refine ZC_of Zt182 Zk182 (Nat.le_of_ble_eq_true rfl) (by decide) rfl (fun X hX hE => ?_)
  have es : (nI s_z).toInt = s_z := Zn_i (by omega)
  refine Zgo hX 1 rfl (by (first | exact True.intro | assumption | (dsimp only [ZallP]; and_intros <;> (first | assumption | decide | omega | ((try simp (disch := omega) only [pk_mul, nI_add, Zcl_n]); exact Zin_n (by omega) (by decide)))))) ?_
  refine Zs_lt hX (List.cons_ne_nil _ _) (fun h1_z => ?_) (fun h1_z => ?_)
  · have h1_z := (Zlt_i i_z 0).mp h1_z
    refine Zgo hX 1 rfl (by (first | exact True.intro | assumption | (dsimp only [ZallP]; and_intros <;> (first | assumption | decide | omega | ((try simp (disch := omega) only [pk_mul, nI_add, Zcl_n]); exact Zin_n (by omega) (by decide)))))) ?_
    refine Zs_retz hX hE rfl (by first | exact Or.inl rfl | exact Or.inr rfl) ⟨Or.inr ⟨rfl, fun q_z => absurd q_z.1 (Int.not_le.mpr h1_z)⟩, rfl⟩
  · have h1_z : 0 ≤ i_z.toInt := Int.not_lt.mp (fun q_z => h1_z ((Zlt_i i_z 0).mpr q_z))
    refine Zgo hX 1 rfl (by (first | exact True.intro | assumption | (dsimp only [ZallP]; and_intros <;> (first | assumption | decide | omega | ((try simp (disch := omega) only [pk_mul, nI_add, Zcl_n]); exact Zin_n (by omega) (by decide)))))) ?_
    refine Zs_lt hX (List.cons_ne_nil _ _) (fun h2_z => ?_) (fun h2_z => ?_)
    · have h2_z := (Zlt_i n_z 0).mp h2_z
      refine Zgo hX 1 rfl (by (first | exact True.intro | assumption | (dsimp only [ZallP]; and_intros <;> (first | assumption | decide | omega | ((try simp (disch := omega) only [pk_mul, nI_add, Zcl_n]); exact Zin_n (by omega) (by decide)))))) ?_
      refine Zs_retz hX hE rfl (by first | exact Or.inl rfl | exact Or.inr rfl) ⟨Or.inr ⟨rfl, fun q_z => absurd q_z.2.1 (Int.not_le.mpr h2_z)⟩, rfl⟩
    · have h2_z : 0 ≤ n_z.toInt := Int.not_lt.mp (fun q_z => h2_z ((Zlt_i n_z 0).mpr q_z))
      refine Zgo hX 3 rfl (by (first | exact True.intro | assumption | (dsimp only [ZallP]; and_intros <;> (first | assumption | decide | omega | ((try simp (disch := omega) only [pk_mul, nI_add, Zcl_n]); exact Zin_n (by omega) (by decide)))))) ?_
      rw [hs_z]
      refine Zs_igt hX (List.cons_ne_nil _ _) (fun h3_z => ?_) (fun h3_z => ?_)
      · have h3_z := (Zlt_i (nI s_z) n_z).mp h3_z
        refine Zgo hX 1 rfl (by (first | exact True.intro | assumption | (dsimp only [ZallP]; and_intros <;> (first | assumption | decide | omega | ((try simp (disch := omega) only [pk_mul, nI_add, Zcl_n]); exact Zin_n (by omega) (by decide)))))) ?_
        refine Zs_retz hX hE rfl (by first | exact Or.inl rfl | exact Or.inr rfl) ⟨Or.inr ⟨rfl, fun q_z => by omega⟩, rfl⟩
      · have h3_z : n_z.toInt ≤ (nI s_z).toInt := Int.not_lt.mp (fun q_z => h3_z ((Zlt_i _ _).mpr q_z))
        have ed : (nI s_z - n_z).toInt = (nI s_z).toInt - n_z.toInt := Zsub_i (by omega) (by omega)
        refine Zgo hX 5 rfl (by (first | exact True.intro | assumption | (dsimp only [ZallP]; and_intros <;> (first | assumption | decide | omega | ((try simp (disch := omega) only [pk_mul, nI_add, Zcl_n]); exact Zin_n (by omega) (by decide)))))) ?_
        rw [hs_z]
        refine Zs_igt hX (List.cons_ne_nil _ _) (fun h4_z => ?_) (fun h4_z => ?_)
        · have h4_z := (Zlt_i (nI s_z - n_z) i_z).mp h4_z
          refine Zgo hX 1 rfl (by (first | exact True.intro | assumption | (dsimp only [ZallP]; and_intros <;> (first | assumption | decide | omega | ((try simp (disch := omega) only [pk_mul, nI_add, Zcl_n]); exact Zin_n (by omega) (by decide)))))) ?_
          refine Zs_retz hX hE rfl (by first | exact Or.inl rfl | exact Or.inr rfl) ⟨Or.inr ⟨rfl, fun q_z => by omega⟩, rfl⟩
        · have h4_z : i_z.toInt ≤ (nI s_z - n_z).toInt := Int.not_lt.mp (fun q_z => h4_z ((Zlt_i _ _).mpr q_z))
          refine Zgo hX 2 rfl (by (first | exact True.intro | assumption | (dsimp only [ZallP]; and_intros <;> (first | assumption | decide | omega | ((try simp (disch := omega) only [pk_mul, nI_add, Zcl_n]); exact Zin_n (by omega) (by decide)))))) ?_
          refine Zs_retz hX hE rfl (by first | exact Or.inl rfl | exact Or.inr rfl) ⟨Or.inl ⟨rfl, h1_z, h2_z, by omega⟩, rfl⟩

set_option maxRecDepth 20000 in
set_option maxHeartbeats 1000000 in
theorem k_has3 (i_z n_z : Int32) (s_z : Nat) (M : Zmem) (hs_z : M 51 2 = nI s_z) (hs24 : s_z ≤ 24) : ZC 182 0 [.ref 51, .int i_z, .int n_z] M (fun r_z M' => Zb r_z (0 ≤ i_z.toInt ∧ 0 ≤ n_z.toInt ∧ i_z.toInt + n_z.toInt ≤ (nI s_z).toInt) ∧ M = M') := by
  refine ZC_of Zt182 Zk182 (Nat.le_of_ble_eq_true rfl) (by decide) rfl (fun X hX hE => ?_)
  have es : (nI s_z).toInt = s_z := Zn_i (by omega)
  refine Zgo hX 1 rfl (by (first | exact True.intro | assumption | (dsimp only [ZallP]; and_intros <;> (first | assumption | decide | omega | ((try simp (disch := omega) only [pk_mul, nI_add, Zcl_n]); exact Zin_n (by omega) (by decide)))))) ?_
  refine Zs_lt hX (List.cons_ne_nil _ _) (fun h1_z => ?_) (fun h1_z => ?_)
  · have h1_z := (Zlt_i i_z 0).mp h1_z
    refine Zgo hX 1 rfl (by (first | exact True.intro | assumption | (dsimp only [ZallP]; and_intros <;> (first | assumption | decide | omega | ((try simp (disch := omega) only [pk_mul, nI_add, Zcl_n]); exact Zin_n (by omega) (by decide)))))) ?_
    refine Zs_retz hX hE rfl (by first | exact Or.inl rfl | exact Or.inr rfl) ⟨Or.inr ⟨rfl, fun q_z => absurd q_z.1 (Int.not_le.mpr h1_z)⟩, rfl⟩
  · have h1_z : 0 ≤ i_z.toInt := Int.not_lt.mp (fun q_z => h1_z ((Zlt_i i_z 0).mpr q_z))
    refine Zgo hX 1 rfl (by (first | exact True.intro | assumption | (dsimp only [ZallP]; and_intros <;> (first | assumption | decide | omega | ((try simp (disch := omega) only [pk_mul, nI_add, Zcl_n]); exact Zin_n (by omega) (by decide)))))) ?_
    refine Zs_lt hX (List.cons_ne_nil _ _) (fun h2_z => ?_) (fun h2_z => ?_)
    · have h2_z := (Zlt_i n_z 0).mp h2_z
      refine Zgo hX 1 rfl (by (first | exact True.intro | assumption | (dsimp only [ZallP]; and_intros <;> (first | assumption | decide | omega | ((try simp (disch := omega) only [pk_mul, nI_add, Zcl_n]); exact Zin_n (by omega) (by decide)))))) ?_
      refine Zs_retz hX hE rfl (by first | exact Or.inl rfl | exact Or.inr rfl) ⟨Or.inr ⟨rfl, fun q_z => absurd q_z.2.1 (Int.not_le.mpr h2_z)⟩, rfl⟩
    · have h2_z : 0 ≤ n_z.toInt := Int.not_lt.mp (fun q_z => h2_z ((Zlt_i n_z 0).mpr q_z))
      refine Zgo hX 3 rfl (by (first | exact True.intro | assumption | (dsimp only [ZallP]; and_intros <;> (first | assumption | decide | omega | ((try simp (disch := omega) only [pk_mul, nI_add, Zcl_n]); exact Zin_n (by omega) (by decide)))))) ?_
      rw [hs_z]
      refine Zs_igt hX (List.cons_ne_nil _ _) (fun h3_z => ?_) (fun h3_z => ?_)
      · have h3_z := (Zlt_i (nI s_z) n_z).mp h3_z
        refine Zgo hX 1 rfl (by (first | exact True.intro | assumption | (dsimp only [ZallP]; and_intros <;> (first | assumption | decide | omega | ((try simp (disch := omega) only [pk_mul, nI_add, Zcl_n]); exact Zin_n (by omega) (by decide)))))) ?_
        refine Zs_retz hX hE rfl (by first | exact Or.inl rfl | exact Or.inr rfl) ⟨Or.inr ⟨rfl, fun q_z => by omega⟩, rfl⟩
      · have h3_z : n_z.toInt ≤ (nI s_z).toInt := Int.not_lt.mp (fun q_z => h3_z ((Zlt_i _ _).mpr q_z))
        have ed : (nI s_z - n_z).toInt = (nI s_z).toInt - n_z.toInt := Zsub_i (by omega) (by omega)
        refine Zgo hX 5 rfl (by (first | exact True.intro | assumption | (dsimp only [ZallP]; and_intros <;> (first | assumption | decide | omega | ((try simp (disch := omega) only [pk_mul, nI_add, Zcl_n]); exact Zin_n (by omega) (by decide)))))) ?_
        rw [hs_z]
        refine Zs_igt hX (List.cons_ne_nil _ _) (fun h4_z => ?_) (fun h4_z => ?_)
        · have h4_z := (Zlt_i (nI s_z - n_z) i_z).mp h4_z
          refine Zgo hX 1 rfl (by (first | exact True.intro | assumption | (dsimp only [ZallP]; and_intros <;> (first | assumption | decide | omega | ((try simp (disch := omega) only [pk_mul, nI_add, Zcl_n]); exact Zin_n (by omega) (by decide)))))) ?_
          refine Zs_retz hX hE rfl (by first | exact Or.inl rfl | exact Or.inr rfl) ⟨Or.inr ⟨rfl, fun q_z => by omega⟩, rfl⟩
        · have h4_z : i_z.toInt ≤ (nI s_z - n_z).toInt := Int.not_lt.mp (fun q_z => h4_z ((Zlt_i _ _).mpr q_z))
          refine Zgo hX 2 rfl (by (first | exact True.intro | assumption | (dsimp only [ZallP]; and_intros <;> (first | assumption | decide | omega | ((try simp (disch := omega) only [pk_mul, nI_add, Zcl_n]); exact Zin_n (by omega) (by decide)))))) ?_
          refine Zs_retz hX hE rfl (by first | exact Or.inl rfl | exact Or.inr rfl) ⟨Or.inl ⟨rfl, h1_z, h2_z, by omega⟩, rfl⟩

set_option maxRecDepth 20000 in
set_option maxHeartbeats 4000000 in
theorem k_move (g_z : Zsn) (sh i_z oh j_z n_z : Int32) (M : Zmem) (hg_z : Zks g_z M) (hi_z : Zsiv g_z) : ZC 28 3 [.ref 0, .int sh, .int i_z, .int oh, .int j_z, .int n_z] M (Zkk (Fmove g_z sh i_z oh j_z n_z) M) := by
  refine ZC_of Zt28 Zk28 (Nat.le_of_ble_eq_true rfl) (by decide) rfl (fun X hX hE => ?_)
  have BAD : ¬ ((nI 0 ≤ sh ∧ sh ≤ nI 3) ∧ (nI 0 ≤ oh ∧ oh ≤ nI 3)) → ZP X Zt28 (Zsf Zt28 14) (lv_args 0 [.ref 0, .int sh, .int i_z, .int oh, .int j_z, .int n_z]) [] M := by
    intro h_z
    refine Zgo hX 2 rfl (by (first | exact True.intro | assumption | (dsimp only [ZallP]; and_intros <;> (first | assumption | decide | omega | ((try simp (disch := omega) only [pk_mul, nI_add, Zcl_n]); exact Zin_n (by omega) (by decide)))))) ?_
    refine Zs_callv hX (List.cons_ne_nil _ _) (k_refuse 1 _ (by decide)) (by first | decide | omega) (by decide) rfl rfl rfl (by decide) (Nat.le_of_ble_eq_true rfl) (fun r_z M' hc_z => ?_)
    obtain ⟨rfl, hsc⟩ := hc_z
    refine Zs_ret hX hE rfl (by rw [Fmove, if_neg h_z]; exact Zkk_e hg_z hsc)
  refine Zgo hX 1 rfl (by (first | exact True.intro | assumption | (dsimp only [ZallP]; and_intros <;> (first | assumption | decide | omega | ((try simp (disch := omega) only [pk_mul, nI_add, Zcl_n]); exact Zin_n (by omega) (by decide)))))) ?_
  refine Zs_calls hX (List.cons_ne_nil _ _) (by decide) (k_isSheet _ _) (by first | decide | omega) rfl rfl (by decide) (Nat.le_of_ble_eq_true rfl) (fun r_z M' hc_z => ?_)
  rcases hc_z with ⟨⟨rfl, h1_z⟩ | ⟨rfl, h1_z⟩, rfl⟩
  · refine Zs_eq hX (List.cons_ne_nil _ _) (fun q_z => False.elim (by revert q_z; decide)) (fun _ => ?_)
    refine Zgo hX 1 rfl (by (first | exact True.intro | assumption | (dsimp only [ZallP]; and_intros <;> (first | assumption | decide | omega | ((try simp (disch := omega) only [pk_mul, nI_add, Zcl_n]); exact Zin_n (by omega) (by decide)))))) ?_
    refine Zs_calls hX (List.cons_ne_nil _ _) (by decide) (k_isSheet _ _) (by first | decide | omega) rfl rfl (by decide) (Nat.le_of_ble_eq_true rfl) (fun r_z M' hc_z => ?_)
    rcases hc_z with ⟨⟨rfl, h2_z⟩ | ⟨rfl, h2_z⟩, rfl⟩
    · refine Zs_ne hX (List.cons_ne_nil _ _) (fun _ => ?_) (fun q_z => False.elim (by revert q_z; decide))
      have hall := And.intro h1_z h2_z
      obtain ⟨t, ht_z, rfl⟩ := Zbt_ex (b_z := 3) (by decide) h1_z
      obtain ⟨t', ht', rfl⟩ := Zbt_ex (b_z := 3) (by decide) h2_z
      rcases (show t = 0 ∨ t = 1 ∨ t = 2 ∨ t = 3 by omega) with rfl | rfl | rfl | rfl
      · skip
        rcases (show t' = 0 ∨ t' = 1 ∨ t' = 2 ∨ t' = 3 by omega) with rfl | rfl | rfl | rfl
        · skip
          have eb1 : M 45 1 = g_z.1 0 := (hg_z 0 (by decide)).1
          have eb2 : M 45 1 = g_z.1 0 := (hg_z 0 (by decide)).1
          obtain ⟨-, s1_z, hs1, es1⟩ := hi_z 0 (by decide)
          obtain ⟨-, s2_z, hs2, es2⟩ := hi_z 0 (by decide)
          have ez1 : M 45 2 = nI s1_z := (hg_z 0 (by decide)).2.1.trans es1
          have ez2 : M 45 2 = nI s2_z := (hg_z 0 (by decide)).2.1.trans es2
          refine Zgo hX 3 rfl (by (first | exact True.intro | assumption | (dsimp only [ZallP]; and_intros <;> (first | assumption | decide | omega | ((try simp (disch := omega) only [pk_mul, nI_add, Zcl_n]); exact Zin_n (by omega) (by decide)))))) ?_
          refine Zs_aald hX (List.cons_ne_nil _ _) (by decide) rfl (by decide) (j := _) rfl (by decide) (by decide) rfl ?_
          refine Zgo hX 4 rfl (by (first | exact True.intro | assumption | (dsimp only [ZallP]; and_intros <;> (first | assumption | decide | omega | ((try simp (disch := omega) only [pk_mul, nI_add, Zcl_n]); exact Zin_n (by omega) (by decide)))))) ?_
          refine Zs_aald hX (List.cons_ne_nil _ _) (by decide) rfl (by decide) (j := _) rfl (by decide) (by decide) rfl ?_
          refine Zgo hX 3 rfl (by (first | exact True.intro | assumption | (dsimp only [ZallP]; and_intros <;> (first | assumption | decide | omega | ((try simp (disch := omega) only [pk_mul, nI_add, Zcl_n]); exact Zin_n (by omega) (by decide)))))) ?_
          rw [eb1]
          have MISS : (g_z.1 0 = nI 0 ∨ g_z.1 0 = nI 0) → ZP X Zt28 (Zsf Zt28 52) [(7, .ref 45), (6, .ref 45), (0, .ref 0), (2, .int i_z), (4, .int j_z), (5, .int n_z)] [] M := by
            intro h_z
            refine Zgo hX 2 rfl (by (first | exact True.intro | assumption | (dsimp only [ZallP]; and_intros <;> (first | assumption | decide | omega | ((try simp (disch := omega) only [pk_mul, nI_add, Zcl_n]); exact Zin_n (by omega) (by decide)))))) ?_
            refine Zs_callv hX (List.cons_ne_nil _ _) (k_refuse 2 _ (by decide)) (by first | decide | omega) (by decide) rfl rfl rfl (by decide) (Nat.le_of_ble_eq_true rfl) (fun r_z M' hc_z => ?_)
            obtain ⟨rfl, hsc⟩ := hc_z
            refine Zs_ret hX hE rfl (by rw [Fmove, if_pos hall, show (nI 0).toNatClampNeg = 0 from Zcl_n (by decide), if_pos h_z]; exact Zkk_e hg_z hsc)
          have BADN : ¬ (g_z.1 0 = nI 0 ∨ g_z.1 0 = nI 0) → ¬ ¬ g_z.1 0 = g_z.1 0 → ¬ (0 ≤ n_z.toInt ∧ 0 ≤ i_z.toInt ∧ 0 ≤ j_z.toInt ∧ i_z.toInt + n_z.toInt ≤ (g_z.2.1 0).toInt ∧ j_z.toInt + n_z.toInt ≤ (g_z.2.1 0).toInt) → ZP X Zt28 (Zsf Zt28 100) [(7, .ref 45), (6, .ref 45), (0, .ref 0), (2, .int i_z), (4, .int j_z), (5, .int n_z)] [] M := by
            intro h_z h2_z h3_z
            refine Zgo hX 2 rfl (by (first | exact True.intro | assumption | (dsimp only [ZallP]; and_intros <;> (first | assumption | decide | omega | ((try simp (disch := omega) only [pk_mul, nI_add, Zcl_n]); exact Zin_n (by omega) (by decide)))))) ?_
            refine Zs_callv hX (List.cons_ne_nil _ _) (k_refuse 1 _ (by decide)) (by first | decide | omega) (by decide) rfl rfl rfl (by decide) (Nat.le_of_ble_eq_true rfl) (fun r_z M' hc_z => ?_)
            obtain ⟨rfl, hsc⟩ := hc_z
            refine Zs_ret hX hE rfl (by rw [Fmove, if_pos hall, show (nI 0).toNatClampNeg = 0 from Zcl_n (by decide), if_neg h_z, if_neg h2_z, if_neg h3_z]; exact Zkk_e hg_z hsc)
          refine Zs_eq hX (List.cons_ne_nil _ _) (fun h3_z => ?_) (fun h3_z => ?_)
          · refine Zs_sub (l' := [(7, .ref 45), (6, .ref 45), (0, .ref 0), (2, .int i_z), (4, .int j_z), (5, .int n_z)]) rfl ?_
            exact MISS (Or.inl h3_z)
          · refine Zgo hX 2 rfl (by (first | exact True.intro | assumption | (dsimp only [ZallP]; and_intros <;> (first | assumption | decide | omega | ((try simp (disch := omega) only [pk_mul, nI_add, Zcl_n]); exact Zin_n (by omega) (by decide)))))) ?_
            rw [eb2]
            refine Zs_ne hX (List.cons_ne_nil _ _) (fun h4_z => ?_) (fun h4_z => ?_)
            · have hm_z : ¬ (g_z.1 0 = nI 0 ∨ g_z.1 0 = nI 0) := fun q_z => q_z.elim h3_z h4_z
              refine Zgo hX 4 rfl (by (first | exact True.intro | assumption | (dsimp only [ZallP]; and_intros <;> (first | assumption | decide | omega | ((try simp (disch := omega) only [pk_mul, nI_add, Zcl_n]); exact Zin_n (by omega) (by decide)))))) ?_
              rw [eb1]
              refine Zs_ieq hX (List.cons_ne_nil _ _) (fun h5_z => ?_) (fun h5_z => ?_)
              · refine Zgo hX 3 rfl (by (first | exact True.intro | assumption | (dsimp only [ZallP]; and_intros <;> (first | assumption | decide | omega | ((try simp (disch := omega) only [pk_mul, nI_add, Zcl_n]); exact Zin_n (by omega) (by decide)))))) ?_
                refine Zs_callv hX (List.cons_ne_nil _ _) (k_has0 i_z n_z s1_z _ ez1 hs1) (by first | decide | omega) (by decide) rfl rfl rfl (by decide) (Nat.le_of_ble_eq_true rfl) (fun r_z M' hc_z => ?_)
                rcases hc_z with ⟨⟨rfl, h6_z⟩ | ⟨rfl, h6_z⟩, rfl⟩
                · refine Zs_eq hX (List.cons_ne_nil _ _) (fun q_z => False.elim (by revert q_z; decide)) (fun _ => ?_)
                  refine Zgo hX 3 rfl (by (first | exact True.intro | assumption | (dsimp only [ZallP]; and_intros <;> (first | assumption | decide | omega | ((try simp (disch := omega) only [pk_mul, nI_add, Zcl_n]); exact Zin_n (by omega) (by decide)))))) ?_
                  refine Zs_callv hX (List.cons_ne_nil _ _) (k_has0 j_z n_z s2_z _ ez2 hs2) (by first | decide | omega) (by decide) rfl rfl rfl (by decide) (Nat.le_of_ble_eq_true rfl) (fun r_z M' hc_z => ?_)
                  rcases hc_z with ⟨⟨rfl, h7_z⟩ | ⟨rfl, h7_z⟩, rfl⟩
                  · refine Zs_ne hX (List.cons_ne_nil _ _) (fun _ => ?_) (fun q_z => False.elim (by revert q_z; decide))
                    obtain ⟨a_z, c_z, rfl, rfl, hac, ha_z, hc_z⟩ := Zfit_i hs1 h6_z.1 h6_z.2.1 h6_z.2.2
                    obtain ⟨a2_z, c2, rfl, ec, hac2, ha2, hc2⟩ := Zfit_i hs2 h7_z.1 h7_z.2.1 h7_z.2.2
                    obtain rfl : c_z = c2 := Zeq hc_z hc2 ec
                    have hC : 0 ≤ (nI c_z).toInt ∧ 0 ≤ (nI a_z).toInt ∧ 0 ≤ (nI a2_z).toInt ∧ (nI a_z).toInt + (nI c_z).toInt ≤ (g_z.2.1 0).toInt ∧ (nI a2_z).toInt + (nI c_z).toInt ≤ (g_z.2.1 0).toInt := ⟨h6_z.2.1, h6_z.1, h7_z.1, by rw [es1]; exact h6_z.2.2, by rw [es2]; exact h7_z.2.2⟩
                    have n0_z : ∀ k_z : Nat, k_z < 2 ^ 31 → ¬ nI k_z < 0 := fun k_z hk_z => Zn_nlt0 hk_z
                    refine Zgo hX 7 rfl (by (first | exact True.intro | assumption | (dsimp only [ZallP]; and_intros <;> (first | assumption | decide | omega | ((try simp (disch := omega) only [pk_mul, nI_add, Zcl_n]); exact Zin_n (by omega) (by decide)))))) ?_
                    refine Zs_copy hX (List.cons_ne_nil _ _) (by decide) (by decide) (by decide) (Or.inl rfl) rfl rfl (n0_z a_z ha_z) (n0_z a2_z ha2) (n0_z c_z hc_z) (by rw [Zcl_n ha_z, Zcl_n hc_z]; omega) (by rw [Zcl_n ha2, Zcl_n hc_z]; omega) (fun q_z => absurd q_z (by decide)) (by decide) ?_
                    rw [Zcl_n ha_z, Zcl_n ha2, Zcl_n hc_z]
                    refine Zgo hX 1 rfl (by (first | exact True.intro | assumption | (dsimp only [ZallP]; and_intros <;> (first | assumption | decide | omega | ((try simp (disch := omega) only [pk_mul, nI_add, Zcl_n]); exact Zin_n (by omega) (by decide)))))) ?_
                    refine Zs_ret hX hE rfl (by rw [Fmove, if_pos hall, show (nI 0).toNatClampNeg = 0 from Zcl_n (by decide), if_neg hm_z, if_neg (fun q_z => q_z h5_z), if_pos hC, Zcl_n ha_z, Zcl_n ha2, Zcl_n hc_z]; exact ⟨rfl, hg_z.mv (t1 := 0) (t2 := 0) (by decide) (by decide) (by omega) (by omega), Zmv_hg M (by decide) _⟩)
                  · refine Zs_ne hX (List.cons_ne_nil _ _) (fun q_z => False.elim (by revert q_z; decide)) (fun _ => ?_)
                    refine Zs_sub (l' := [(7, .ref 45), (6, .ref 45), (0, .ref 0), (2, .int i_z), (4, .int j_z), (5, .int n_z)]) rfl ?_
                    exact BADN hm_z (fun q_z => q_z h5_z) (fun q_z => h7_z ⟨q_z.2.2.1, q_z.1, by rw [← es2]; exact q_z.2.2.2.2⟩)
                · refine Zs_eq hX (List.cons_ne_nil _ _) (fun _ => ?_) (fun q_z => False.elim (by revert q_z; decide))
                  refine Zs_sub (l' := [(7, .ref 45), (6, .ref 45), (0, .ref 0), (2, .int i_z), (4, .int j_z), (5, .int n_z)]) rfl ?_
                  exact BADN hm_z (fun q_z => q_z h5_z) (fun q_z => h6_z ⟨q_z.2.1, q_z.1, by rw [← es1]; exact q_z.2.2.2.1⟩)
              · skip
                refine Zgo hX 2 rfl (by (first | exact True.intro | assumption | (dsimp only [ZallP]; and_intros <;> (first | assumption | decide | omega | ((try simp (disch := omega) only [pk_mul, nI_add, Zcl_n]); exact Zin_n (by omega) (by decide)))))) ?_
                refine Zs_callv hX (List.cons_ne_nil _ _) (k_refuse 5 _ (by decide)) (by first | decide | omega) (by decide) rfl rfl rfl (by decide) (Nat.le_of_ble_eq_true rfl) (fun r_z M' hc_z => ?_)
                obtain ⟨rfl, hsc⟩ := hc_z
                refine Zs_ret hX hE rfl (by rw [Fmove, if_pos hall, show (nI 0).toNatClampNeg = 0 from Zcl_n (by decide), if_neg hm_z, if_pos h5_z]; exact Zkk_e hg_z hsc)
            · refine Zs_sub (l' := [(7, .ref 45), (6, .ref 45), (0, .ref 0), (2, .int i_z), (4, .int j_z), (5, .int n_z)]) rfl ?_
              exact MISS (Or.inr h4_z)
        · skip
          have eb1 : M 45 1 = g_z.1 0 := (hg_z 0 (by decide)).1
          have eb2 : M 47 1 = g_z.1 1 := (hg_z 1 (by decide)).1
          obtain ⟨-, s1_z, hs1, es1⟩ := hi_z 0 (by decide)
          obtain ⟨-, s2_z, hs2, es2⟩ := hi_z 1 (by decide)
          have ez1 : M 45 2 = nI s1_z := (hg_z 0 (by decide)).2.1.trans es1
          have ez2 : M 47 2 = nI s2_z := (hg_z 1 (by decide)).2.1.trans es2
          refine Zgo hX 3 rfl (by (first | exact True.intro | assumption | (dsimp only [ZallP]; and_intros <;> (first | assumption | decide | omega | ((try simp (disch := omega) only [pk_mul, nI_add, Zcl_n]); exact Zin_n (by omega) (by decide)))))) ?_
          refine Zs_aald hX (List.cons_ne_nil _ _) (by decide) rfl (by decide) (j := _) rfl (by decide) (by decide) rfl ?_
          refine Zgo hX 4 rfl (by (first | exact True.intro | assumption | (dsimp only [ZallP]; and_intros <;> (first | assumption | decide | omega | ((try simp (disch := omega) only [pk_mul, nI_add, Zcl_n]); exact Zin_n (by omega) (by decide)))))) ?_
          refine Zs_aald hX (List.cons_ne_nil _ _) (by decide) rfl (by decide) (j := _) rfl (by decide) (by decide) rfl ?_
          refine Zgo hX 3 rfl (by (first | exact True.intro | assumption | (dsimp only [ZallP]; and_intros <;> (first | assumption | decide | omega | ((try simp (disch := omega) only [pk_mul, nI_add, Zcl_n]); exact Zin_n (by omega) (by decide)))))) ?_
          rw [eb1]
          have MISS : (g_z.1 0 = nI 0 ∨ g_z.1 1 = nI 0) → ZP X Zt28 (Zsf Zt28 52) [(7, .ref 47), (6, .ref 45), (0, .ref 0), (2, .int i_z), (4, .int j_z), (5, .int n_z)] [] M := by
            intro h_z
            refine Zgo hX 2 rfl (by (first | exact True.intro | assumption | (dsimp only [ZallP]; and_intros <;> (first | assumption | decide | omega | ((try simp (disch := omega) only [pk_mul, nI_add, Zcl_n]); exact Zin_n (by omega) (by decide)))))) ?_
            refine Zs_callv hX (List.cons_ne_nil _ _) (k_refuse 2 _ (by decide)) (by first | decide | omega) (by decide) rfl rfl rfl (by decide) (Nat.le_of_ble_eq_true rfl) (fun r_z M' hc_z => ?_)
            obtain ⟨rfl, hsc⟩ := hc_z
            refine Zs_ret hX hE rfl (by rw [Fmove, if_pos hall, show (nI 0).toNatClampNeg = 0 from Zcl_n (by decide), show (nI 1).toNatClampNeg = 1 from Zcl_n (by decide), if_pos h_z]; exact Zkk_e hg_z hsc)
          have BADN : ¬ (g_z.1 0 = nI 0 ∨ g_z.1 1 = nI 0) → ¬ ¬ g_z.1 0 = g_z.1 1 → ¬ (0 ≤ n_z.toInt ∧ 0 ≤ i_z.toInt ∧ 0 ≤ j_z.toInt ∧ i_z.toInt + n_z.toInt ≤ (g_z.2.1 0).toInt ∧ j_z.toInt + n_z.toInt ≤ (g_z.2.1 1).toInt) → ZP X Zt28 (Zsf Zt28 100) [(7, .ref 47), (6, .ref 45), (0, .ref 0), (2, .int i_z), (4, .int j_z), (5, .int n_z)] [] M := by
            intro h_z h2_z h3_z
            refine Zgo hX 2 rfl (by (first | exact True.intro | assumption | (dsimp only [ZallP]; and_intros <;> (first | assumption | decide | omega | ((try simp (disch := omega) only [pk_mul, nI_add, Zcl_n]); exact Zin_n (by omega) (by decide)))))) ?_
            refine Zs_callv hX (List.cons_ne_nil _ _) (k_refuse 1 _ (by decide)) (by first | decide | omega) (by decide) rfl rfl rfl (by decide) (Nat.le_of_ble_eq_true rfl) (fun r_z M' hc_z => ?_)
            obtain ⟨rfl, hsc⟩ := hc_z
            refine Zs_ret hX hE rfl (by rw [Fmove, if_pos hall, show (nI 0).toNatClampNeg = 0 from Zcl_n (by decide), show (nI 1).toNatClampNeg = 1 from Zcl_n (by decide), if_neg h_z, if_neg h2_z, if_neg h3_z]; exact Zkk_e hg_z hsc)
          refine Zs_eq hX (List.cons_ne_nil _ _) (fun h3_z => ?_) (fun h3_z => ?_)
          · refine Zs_sub (l' := [(7, .ref 47), (6, .ref 45), (0, .ref 0), (2, .int i_z), (4, .int j_z), (5, .int n_z)]) rfl ?_
            exact MISS (Or.inl h3_z)
          · refine Zgo hX 2 rfl (by (first | exact True.intro | assumption | (dsimp only [ZallP]; and_intros <;> (first | assumption | decide | omega | ((try simp (disch := omega) only [pk_mul, nI_add, Zcl_n]); exact Zin_n (by omega) (by decide)))))) ?_
            rw [eb2]
            refine Zs_ne hX (List.cons_ne_nil _ _) (fun h4_z => ?_) (fun h4_z => ?_)
            · have hm_z : ¬ (g_z.1 0 = nI 0 ∨ g_z.1 1 = nI 0) := fun q_z => q_z.elim h3_z h4_z
              refine Zgo hX 4 rfl (by (first | exact True.intro | assumption | (dsimp only [ZallP]; and_intros <;> (first | assumption | decide | omega | ((try simp (disch := omega) only [pk_mul, nI_add, Zcl_n]); exact Zin_n (by omega) (by decide)))))) ?_
              rw [eb1, eb2]
              refine Zs_ieq hX (List.cons_ne_nil _ _) (fun h5_z => ?_) (fun h5_z => ?_)
              · refine Zgo hX 3 rfl (by (first | exact True.intro | assumption | (dsimp only [ZallP]; and_intros <;> (first | assumption | decide | omega | ((try simp (disch := omega) only [pk_mul, nI_add, Zcl_n]); exact Zin_n (by omega) (by decide)))))) ?_
                refine Zs_callv hX (List.cons_ne_nil _ _) (k_has0 i_z n_z s1_z _ ez1 hs1) (by first | decide | omega) (by decide) rfl rfl rfl (by decide) (Nat.le_of_ble_eq_true rfl) (fun r_z M' hc_z => ?_)
                rcases hc_z with ⟨⟨rfl, h6_z⟩ | ⟨rfl, h6_z⟩, rfl⟩
                · refine Zs_eq hX (List.cons_ne_nil _ _) (fun q_z => False.elim (by revert q_z; decide)) (fun _ => ?_)
                  refine Zgo hX 3 rfl (by (first | exact True.intro | assumption | (dsimp only [ZallP]; and_intros <;> (first | assumption | decide | omega | ((try simp (disch := omega) only [pk_mul, nI_add, Zcl_n]); exact Zin_n (by omega) (by decide)))))) ?_
                  refine Zs_callv hX (List.cons_ne_nil _ _) (k_has1 j_z n_z s2_z _ ez2 hs2) (by first | decide | omega) (by decide) rfl rfl rfl (by decide) (Nat.le_of_ble_eq_true rfl) (fun r_z M' hc_z => ?_)
                  rcases hc_z with ⟨⟨rfl, h7_z⟩ | ⟨rfl, h7_z⟩, rfl⟩
                  · refine Zs_ne hX (List.cons_ne_nil _ _) (fun _ => ?_) (fun q_z => False.elim (by revert q_z; decide))
                    obtain ⟨a_z, c_z, rfl, rfl, hac, ha_z, hc_z⟩ := Zfit_i hs1 h6_z.1 h6_z.2.1 h6_z.2.2
                    obtain ⟨a2_z, c2, rfl, ec, hac2, ha2, hc2⟩ := Zfit_i hs2 h7_z.1 h7_z.2.1 h7_z.2.2
                    obtain rfl : c_z = c2 := Zeq hc_z hc2 ec
                    have hC : 0 ≤ (nI c_z).toInt ∧ 0 ≤ (nI a_z).toInt ∧ 0 ≤ (nI a2_z).toInt ∧ (nI a_z).toInt + (nI c_z).toInt ≤ (g_z.2.1 0).toInt ∧ (nI a2_z).toInt + (nI c_z).toInt ≤ (g_z.2.1 1).toInt := ⟨h6_z.2.1, h6_z.1, h7_z.1, by rw [es1]; exact h6_z.2.2, by rw [es2]; exact h7_z.2.2⟩
                    have n0_z : ∀ k_z : Nat, k_z < 2 ^ 31 → ¬ nI k_z < 0 := fun k_z hk_z => Zn_nlt0 hk_z
                    refine Zgo hX 7 rfl (by (first | exact True.intro | assumption | (dsimp only [ZallP]; and_intros <;> (first | assumption | decide | omega | ((try simp (disch := omega) only [pk_mul, nI_add, Zcl_n]); exact Zin_n (by omega) (by decide)))))) ?_
                    refine Zs_copy hX (List.cons_ne_nil _ _) (by decide) (by decide) (by decide) (Or.inl rfl) rfl rfl (n0_z a_z ha_z) (n0_z a2_z ha2) (n0_z c_z hc_z) (by rw [Zcl_n ha_z, Zcl_n hc_z]; omega) (by rw [Zcl_n ha2, Zcl_n hc_z]; omega) (fun q_z => absurd q_z (by decide)) (by decide) ?_
                    rw [Zcl_n ha_z, Zcl_n ha2, Zcl_n hc_z]
                    refine Zgo hX 1 rfl (by (first | exact True.intro | assumption | (dsimp only [ZallP]; and_intros <;> (first | assumption | decide | omega | ((try simp (disch := omega) only [pk_mul, nI_add, Zcl_n]); exact Zin_n (by omega) (by decide)))))) ?_
                    refine Zs_ret hX hE rfl (by rw [Fmove, if_pos hall, show (nI 0).toNatClampNeg = 0 from Zcl_n (by decide), show (nI 1).toNatClampNeg = 1 from Zcl_n (by decide), if_neg hm_z, if_neg (fun q_z => q_z h5_z), if_pos hC, Zcl_n ha_z, Zcl_n ha2, Zcl_n hc_z]; exact ⟨rfl, hg_z.mv (t1 := 0) (t2 := 1) (by decide) (by decide) (by omega) (by omega), Zmv_hg M (by decide) _⟩)
                  · refine Zs_ne hX (List.cons_ne_nil _ _) (fun q_z => False.elim (by revert q_z; decide)) (fun _ => ?_)
                    refine Zs_sub (l' := [(7, .ref 47), (6, .ref 45), (0, .ref 0), (2, .int i_z), (4, .int j_z), (5, .int n_z)]) rfl ?_
                    exact BADN hm_z (fun q_z => q_z h5_z) (fun q_z => h7_z ⟨q_z.2.2.1, q_z.1, by rw [← es2]; exact q_z.2.2.2.2⟩)
                · refine Zs_eq hX (List.cons_ne_nil _ _) (fun _ => ?_) (fun q_z => False.elim (by revert q_z; decide))
                  refine Zs_sub (l' := [(7, .ref 47), (6, .ref 45), (0, .ref 0), (2, .int i_z), (4, .int j_z), (5, .int n_z)]) rfl ?_
                  exact BADN hm_z (fun q_z => q_z h5_z) (fun q_z => h6_z ⟨q_z.2.1, q_z.1, by rw [← es1]; exact q_z.2.2.2.1⟩)
              · skip
                refine Zgo hX 2 rfl (by (first | exact True.intro | assumption | (dsimp only [ZallP]; and_intros <;> (first | assumption | decide | omega | ((try simp (disch := omega) only [pk_mul, nI_add, Zcl_n]); exact Zin_n (by omega) (by decide)))))) ?_
                refine Zs_callv hX (List.cons_ne_nil _ _) (k_refuse 5 _ (by decide)) (by first | decide | omega) (by decide) rfl rfl rfl (by decide) (Nat.le_of_ble_eq_true rfl) (fun r_z M' hc_z => ?_)
                obtain ⟨rfl, hsc⟩ := hc_z
                refine Zs_ret hX hE rfl (by rw [Fmove, if_pos hall, show (nI 0).toNatClampNeg = 0 from Zcl_n (by decide), show (nI 1).toNatClampNeg = 1 from Zcl_n (by decide), if_neg hm_z, if_pos h5_z]; exact Zkk_e hg_z hsc)
            · refine Zs_sub (l' := [(7, .ref 47), (6, .ref 45), (0, .ref 0), (2, .int i_z), (4, .int j_z), (5, .int n_z)]) rfl ?_
              exact MISS (Or.inr h4_z)
        · skip
          have eb1 : M 45 1 = g_z.1 0 := (hg_z 0 (by decide)).1
          have eb2 : M 49 1 = g_z.1 2 := (hg_z 2 (by decide)).1
          obtain ⟨-, s1_z, hs1, es1⟩ := hi_z 0 (by decide)
          obtain ⟨-, s2_z, hs2, es2⟩ := hi_z 2 (by decide)
          have ez1 : M 45 2 = nI s1_z := (hg_z 0 (by decide)).2.1.trans es1
          have ez2 : M 49 2 = nI s2_z := (hg_z 2 (by decide)).2.1.trans es2
          refine Zgo hX 3 rfl (by (first | exact True.intro | assumption | (dsimp only [ZallP]; and_intros <;> (first | assumption | decide | omega | ((try simp (disch := omega) only [pk_mul, nI_add, Zcl_n]); exact Zin_n (by omega) (by decide)))))) ?_
          refine Zs_aald hX (List.cons_ne_nil _ _) (by decide) rfl (by decide) (j := _) rfl (by decide) (by decide) rfl ?_
          refine Zgo hX 4 rfl (by (first | exact True.intro | assumption | (dsimp only [ZallP]; and_intros <;> (first | assumption | decide | omega | ((try simp (disch := omega) only [pk_mul, nI_add, Zcl_n]); exact Zin_n (by omega) (by decide)))))) ?_
          refine Zs_aald hX (List.cons_ne_nil _ _) (by decide) rfl (by decide) (j := _) rfl (by decide) (by decide) rfl ?_
          refine Zgo hX 3 rfl (by (first | exact True.intro | assumption | (dsimp only [ZallP]; and_intros <;> (first | assumption | decide | omega | ((try simp (disch := omega) only [pk_mul, nI_add, Zcl_n]); exact Zin_n (by omega) (by decide)))))) ?_
          rw [eb1]
          have MISS : (g_z.1 0 = nI 0 ∨ g_z.1 2 = nI 0) → ZP X Zt28 (Zsf Zt28 52) [(7, .ref 49), (6, .ref 45), (0, .ref 0), (2, .int i_z), (4, .int j_z), (5, .int n_z)] [] M := by
            intro h_z
            refine Zgo hX 2 rfl (by (first | exact True.intro | assumption | (dsimp only [ZallP]; and_intros <;> (first | assumption | decide | omega | ((try simp (disch := omega) only [pk_mul, nI_add, Zcl_n]); exact Zin_n (by omega) (by decide)))))) ?_
            refine Zs_callv hX (List.cons_ne_nil _ _) (k_refuse 2 _ (by decide)) (by first | decide | omega) (by decide) rfl rfl rfl (by decide) (Nat.le_of_ble_eq_true rfl) (fun r_z M' hc_z => ?_)
            obtain ⟨rfl, hsc⟩ := hc_z
            refine Zs_ret hX hE rfl (by rw [Fmove, if_pos hall, show (nI 0).toNatClampNeg = 0 from Zcl_n (by decide), show (nI 2).toNatClampNeg = 2 from Zcl_n (by decide), if_pos h_z]; exact Zkk_e hg_z hsc)
          have BADN : ¬ (g_z.1 0 = nI 0 ∨ g_z.1 2 = nI 0) → ¬ ¬ g_z.1 0 = g_z.1 2 → ¬ (0 ≤ n_z.toInt ∧ 0 ≤ i_z.toInt ∧ 0 ≤ j_z.toInt ∧ i_z.toInt + n_z.toInt ≤ (g_z.2.1 0).toInt ∧ j_z.toInt + n_z.toInt ≤ (g_z.2.1 2).toInt) → ZP X Zt28 (Zsf Zt28 100) [(7, .ref 49), (6, .ref 45), (0, .ref 0), (2, .int i_z), (4, .int j_z), (5, .int n_z)] [] M := by
            intro h_z h2_z h3_z
            refine Zgo hX 2 rfl (by (first | exact True.intro | assumption | (dsimp only [ZallP]; and_intros <;> (first | assumption | decide | omega | ((try simp (disch := omega) only [pk_mul, nI_add, Zcl_n]); exact Zin_n (by omega) (by decide)))))) ?_
            refine Zs_callv hX (List.cons_ne_nil _ _) (k_refuse 1 _ (by decide)) (by first | decide | omega) (by decide) rfl rfl rfl (by decide) (Nat.le_of_ble_eq_true rfl) (fun r_z M' hc_z => ?_)
            obtain ⟨rfl, hsc⟩ := hc_z
            refine Zs_ret hX hE rfl (by rw [Fmove, if_pos hall, show (nI 0).toNatClampNeg = 0 from Zcl_n (by decide), show (nI 2).toNatClampNeg = 2 from Zcl_n (by decide), if_neg h_z, if_neg h2_z, if_neg h3_z]; exact Zkk_e hg_z hsc)
          refine Zs_eq hX (List.cons_ne_nil _ _) (fun h3_z => ?_) (fun h3_z => ?_)
          · refine Zs_sub (l' := [(7, .ref 49), (6, .ref 45), (0, .ref 0), (2, .int i_z), (4, .int j_z), (5, .int n_z)]) rfl ?_
            exact MISS (Or.inl h3_z)
          · refine Zgo hX 2 rfl (by (first | exact True.intro | assumption | (dsimp only [ZallP]; and_intros <;> (first | assumption | decide | omega | ((try simp (disch := omega) only [pk_mul, nI_add, Zcl_n]); exact Zin_n (by omega) (by decide)))))) ?_
            rw [eb2]
            refine Zs_ne hX (List.cons_ne_nil _ _) (fun h4_z => ?_) (fun h4_z => ?_)
            · have hm_z : ¬ (g_z.1 0 = nI 0 ∨ g_z.1 2 = nI 0) := fun q_z => q_z.elim h3_z h4_z
              refine Zgo hX 4 rfl (by (first | exact True.intro | assumption | (dsimp only [ZallP]; and_intros <;> (first | assumption | decide | omega | ((try simp (disch := omega) only [pk_mul, nI_add, Zcl_n]); exact Zin_n (by omega) (by decide)))))) ?_
              rw [eb1, eb2]
              refine Zs_ieq hX (List.cons_ne_nil _ _) (fun h5_z => ?_) (fun h5_z => ?_)
              · refine Zgo hX 3 rfl (by (first | exact True.intro | assumption | (dsimp only [ZallP]; and_intros <;> (first | assumption | decide | omega | ((try simp (disch := omega) only [pk_mul, nI_add, Zcl_n]); exact Zin_n (by omega) (by decide)))))) ?_
                refine Zs_callv hX (List.cons_ne_nil _ _) (k_has0 i_z n_z s1_z _ ez1 hs1) (by first | decide | omega) (by decide) rfl rfl rfl (by decide) (Nat.le_of_ble_eq_true rfl) (fun r_z M' hc_z => ?_)
                rcases hc_z with ⟨⟨rfl, h6_z⟩ | ⟨rfl, h6_z⟩, rfl⟩
                · refine Zs_eq hX (List.cons_ne_nil _ _) (fun q_z => False.elim (by revert q_z; decide)) (fun _ => ?_)
                  refine Zgo hX 3 rfl (by (first | exact True.intro | assumption | (dsimp only [ZallP]; and_intros <;> (first | assumption | decide | omega | ((try simp (disch := omega) only [pk_mul, nI_add, Zcl_n]); exact Zin_n (by omega) (by decide)))))) ?_
                  refine Zs_callv hX (List.cons_ne_nil _ _) (k_has2 j_z n_z s2_z _ ez2 hs2) (by first | decide | omega) (by decide) rfl rfl rfl (by decide) (Nat.le_of_ble_eq_true rfl) (fun r_z M' hc_z => ?_)
                  rcases hc_z with ⟨⟨rfl, h7_z⟩ | ⟨rfl, h7_z⟩, rfl⟩
                  · refine Zs_ne hX (List.cons_ne_nil _ _) (fun _ => ?_) (fun q_z => False.elim (by revert q_z; decide))
                    obtain ⟨a_z, c_z, rfl, rfl, hac, ha_z, hc_z⟩ := Zfit_i hs1 h6_z.1 h6_z.2.1 h6_z.2.2
                    obtain ⟨a2_z, c2, rfl, ec, hac2, ha2, hc2⟩ := Zfit_i hs2 h7_z.1 h7_z.2.1 h7_z.2.2
                    obtain rfl : c_z = c2 := Zeq hc_z hc2 ec
                    have hC : 0 ≤ (nI c_z).toInt ∧ 0 ≤ (nI a_z).toInt ∧ 0 ≤ (nI a2_z).toInt ∧ (nI a_z).toInt + (nI c_z).toInt ≤ (g_z.2.1 0).toInt ∧ (nI a2_z).toInt + (nI c_z).toInt ≤ (g_z.2.1 2).toInt := ⟨h6_z.2.1, h6_z.1, h7_z.1, by rw [es1]; exact h6_z.2.2, by rw [es2]; exact h7_z.2.2⟩
                    have n0_z : ∀ k_z : Nat, k_z < 2 ^ 31 → ¬ nI k_z < 0 := fun k_z hk_z => Zn_nlt0 hk_z
                    refine Zgo hX 7 rfl (by (first | exact True.intro | assumption | (dsimp only [ZallP]; and_intros <;> (first | assumption | decide | omega | ((try simp (disch := omega) only [pk_mul, nI_add, Zcl_n]); exact Zin_n (by omega) (by decide)))))) ?_
                    refine Zs_copy hX (List.cons_ne_nil _ _) (by decide) (by decide) (by decide) (Or.inl rfl) rfl rfl (n0_z a_z ha_z) (n0_z a2_z ha2) (n0_z c_z hc_z) (by rw [Zcl_n ha_z, Zcl_n hc_z]; omega) (by rw [Zcl_n ha2, Zcl_n hc_z]; omega) (fun q_z => absurd q_z (by decide)) (by decide) ?_
                    rw [Zcl_n ha_z, Zcl_n ha2, Zcl_n hc_z]
                    refine Zgo hX 1 rfl (by (first | exact True.intro | assumption | (dsimp only [ZallP]; and_intros <;> (first | assumption | decide | omega | ((try simp (disch := omega) only [pk_mul, nI_add, Zcl_n]); exact Zin_n (by omega) (by decide)))))) ?_
                    refine Zs_ret hX hE rfl (by rw [Fmove, if_pos hall, show (nI 0).toNatClampNeg = 0 from Zcl_n (by decide), show (nI 2).toNatClampNeg = 2 from Zcl_n (by decide), if_neg hm_z, if_neg (fun q_z => q_z h5_z), if_pos hC, Zcl_n ha_z, Zcl_n ha2, Zcl_n hc_z]; exact ⟨rfl, hg_z.mv (t1 := 0) (t2 := 2) (by decide) (by decide) (by omega) (by omega), Zmv_hg M (by decide) _⟩)
                  · refine Zs_ne hX (List.cons_ne_nil _ _) (fun q_z => False.elim (by revert q_z; decide)) (fun _ => ?_)
                    refine Zs_sub (l' := [(7, .ref 49), (6, .ref 45), (0, .ref 0), (2, .int i_z), (4, .int j_z), (5, .int n_z)]) rfl ?_
                    exact BADN hm_z (fun q_z => q_z h5_z) (fun q_z => h7_z ⟨q_z.2.2.1, q_z.1, by rw [← es2]; exact q_z.2.2.2.2⟩)
                · refine Zs_eq hX (List.cons_ne_nil _ _) (fun _ => ?_) (fun q_z => False.elim (by revert q_z; decide))
                  refine Zs_sub (l' := [(7, .ref 49), (6, .ref 45), (0, .ref 0), (2, .int i_z), (4, .int j_z), (5, .int n_z)]) rfl ?_
                  exact BADN hm_z (fun q_z => q_z h5_z) (fun q_z => h6_z ⟨q_z.2.1, q_z.1, by rw [← es1]; exact q_z.2.2.2.1⟩)
              · skip
                refine Zgo hX 2 rfl (by (first | exact True.intro | assumption | (dsimp only [ZallP]; and_intros <;> (first | assumption | decide | omega | ((try simp (disch := omega) only [pk_mul, nI_add, Zcl_n]); exact Zin_n (by omega) (by decide)))))) ?_
                refine Zs_callv hX (List.cons_ne_nil _ _) (k_refuse 5 _ (by decide)) (by first | decide | omega) (by decide) rfl rfl rfl (by decide) (Nat.le_of_ble_eq_true rfl) (fun r_z M' hc_z => ?_)
                obtain ⟨rfl, hsc⟩ := hc_z
                refine Zs_ret hX hE rfl (by rw [Fmove, if_pos hall, show (nI 0).toNatClampNeg = 0 from Zcl_n (by decide), show (nI 2).toNatClampNeg = 2 from Zcl_n (by decide), if_neg hm_z, if_pos h5_z]; exact Zkk_e hg_z hsc)
            · refine Zs_sub (l' := [(7, .ref 49), (6, .ref 45), (0, .ref 0), (2, .int i_z), (4, .int j_z), (5, .int n_z)]) rfl ?_
              exact MISS (Or.inr h4_z)
        · skip
          have eb1 : M 45 1 = g_z.1 0 := (hg_z 0 (by decide)).1
          have eb2 : M 51 1 = g_z.1 3 := (hg_z 3 (by decide)).1
          obtain ⟨-, s1_z, hs1, es1⟩ := hi_z 0 (by decide)
          obtain ⟨-, s2_z, hs2, es2⟩ := hi_z 3 (by decide)
          have ez1 : M 45 2 = nI s1_z := (hg_z 0 (by decide)).2.1.trans es1
          have ez2 : M 51 2 = nI s2_z := (hg_z 3 (by decide)).2.1.trans es2
          refine Zgo hX 3 rfl (by (first | exact True.intro | assumption | (dsimp only [ZallP]; and_intros <;> (first | assumption | decide | omega | ((try simp (disch := omega) only [pk_mul, nI_add, Zcl_n]); exact Zin_n (by omega) (by decide)))))) ?_
          refine Zs_aald hX (List.cons_ne_nil _ _) (by decide) rfl (by decide) (j := _) rfl (by decide) (by decide) rfl ?_
          refine Zgo hX 4 rfl (by (first | exact True.intro | assumption | (dsimp only [ZallP]; and_intros <;> (first | assumption | decide | omega | ((try simp (disch := omega) only [pk_mul, nI_add, Zcl_n]); exact Zin_n (by omega) (by decide)))))) ?_
          refine Zs_aald hX (List.cons_ne_nil _ _) (by decide) rfl (by decide) (j := _) rfl (by decide) (by decide) rfl ?_
          refine Zgo hX 3 rfl (by (first | exact True.intro | assumption | (dsimp only [ZallP]; and_intros <;> (first | assumption | decide | omega | ((try simp (disch := omega) only [pk_mul, nI_add, Zcl_n]); exact Zin_n (by omega) (by decide)))))) ?_
          rw [eb1]
          have MISS : (g_z.1 0 = nI 0 ∨ g_z.1 3 = nI 0) → ZP X Zt28 (Zsf Zt28 52) [(7, .ref 51), (6, .ref 45), (0, .ref 0), (2, .int i_z), (4, .int j_z), (5, .int n_z)] [] M := by
            intro h_z
            refine Zgo hX 2 rfl (by (first | exact True.intro | assumption | (dsimp only [ZallP]; and_intros <;> (first | assumption | decide | omega | ((try simp (disch := omega) only [pk_mul, nI_add, Zcl_n]); exact Zin_n (by omega) (by decide)))))) ?_
            refine Zs_callv hX (List.cons_ne_nil _ _) (k_refuse 2 _ (by decide)) (by first | decide | omega) (by decide) rfl rfl rfl (by decide) (Nat.le_of_ble_eq_true rfl) (fun r_z M' hc_z => ?_)
            obtain ⟨rfl, hsc⟩ := hc_z
            refine Zs_ret hX hE rfl (by rw [Fmove, if_pos hall, show (nI 0).toNatClampNeg = 0 from Zcl_n (by decide), show (nI 3).toNatClampNeg = 3 from Zcl_n (by decide), if_pos h_z]; exact Zkk_e hg_z hsc)
          have BADN : ¬ (g_z.1 0 = nI 0 ∨ g_z.1 3 = nI 0) → ¬ ¬ g_z.1 0 = g_z.1 3 → ¬ (0 ≤ n_z.toInt ∧ 0 ≤ i_z.toInt ∧ 0 ≤ j_z.toInt ∧ i_z.toInt + n_z.toInt ≤ (g_z.2.1 0).toInt ∧ j_z.toInt + n_z.toInt ≤ (g_z.2.1 3).toInt) → ZP X Zt28 (Zsf Zt28 100) [(7, .ref 51), (6, .ref 45), (0, .ref 0), (2, .int i_z), (4, .int j_z), (5, .int n_z)] [] M := by
            intro h_z h2_z h3_z
            refine Zgo hX 2 rfl (by (first | exact True.intro | assumption | (dsimp only [ZallP]; and_intros <;> (first | assumption | decide | omega | ((try simp (disch := omega) only [pk_mul, nI_add, Zcl_n]); exact Zin_n (by omega) (by decide)))))) ?_
            refine Zs_callv hX (List.cons_ne_nil _ _) (k_refuse 1 _ (by decide)) (by first | decide | omega) (by decide) rfl rfl rfl (by decide) (Nat.le_of_ble_eq_true rfl) (fun r_z M' hc_z => ?_)
            obtain ⟨rfl, hsc⟩ := hc_z
            refine Zs_ret hX hE rfl (by rw [Fmove, if_pos hall, show (nI 0).toNatClampNeg = 0 from Zcl_n (by decide), show (nI 3).toNatClampNeg = 3 from Zcl_n (by decide), if_neg h_z, if_neg h2_z, if_neg h3_z]; exact Zkk_e hg_z hsc)
          refine Zs_eq hX (List.cons_ne_nil _ _) (fun h3_z => ?_) (fun h3_z => ?_)
          · refine Zs_sub (l' := [(7, .ref 51), (6, .ref 45), (0, .ref 0), (2, .int i_z), (4, .int j_z), (5, .int n_z)]) rfl ?_
            exact MISS (Or.inl h3_z)
          · refine Zgo hX 2 rfl (by (first | exact True.intro | assumption | (dsimp only [ZallP]; and_intros <;> (first | assumption | decide | omega | ((try simp (disch := omega) only [pk_mul, nI_add, Zcl_n]); exact Zin_n (by omega) (by decide)))))) ?_
            rw [eb2]
            refine Zs_ne hX (List.cons_ne_nil _ _) (fun h4_z => ?_) (fun h4_z => ?_)
            · have hm_z : ¬ (g_z.1 0 = nI 0 ∨ g_z.1 3 = nI 0) := fun q_z => q_z.elim h3_z h4_z
              refine Zgo hX 4 rfl (by (first | exact True.intro | assumption | (dsimp only [ZallP]; and_intros <;> (first | assumption | decide | omega | ((try simp (disch := omega) only [pk_mul, nI_add, Zcl_n]); exact Zin_n (by omega) (by decide)))))) ?_
              rw [eb1, eb2]
              refine Zs_ieq hX (List.cons_ne_nil _ _) (fun h5_z => ?_) (fun h5_z => ?_)
              · refine Zgo hX 3 rfl (by (first | exact True.intro | assumption | (dsimp only [ZallP]; and_intros <;> (first | assumption | decide | omega | ((try simp (disch := omega) only [pk_mul, nI_add, Zcl_n]); exact Zin_n (by omega) (by decide)))))) ?_
                refine Zs_callv hX (List.cons_ne_nil _ _) (k_has0 i_z n_z s1_z _ ez1 hs1) (by first | decide | omega) (by decide) rfl rfl rfl (by decide) (Nat.le_of_ble_eq_true rfl) (fun r_z M' hc_z => ?_)
                rcases hc_z with ⟨⟨rfl, h6_z⟩ | ⟨rfl, h6_z⟩, rfl⟩
                · refine Zs_eq hX (List.cons_ne_nil _ _) (fun q_z => False.elim (by revert q_z; decide)) (fun _ => ?_)
                  refine Zgo hX 3 rfl (by (first | exact True.intro | assumption | (dsimp only [ZallP]; and_intros <;> (first | assumption | decide | omega | ((try simp (disch := omega) only [pk_mul, nI_add, Zcl_n]); exact Zin_n (by omega) (by decide)))))) ?_
                  refine Zs_callv hX (List.cons_ne_nil _ _) (k_has3 j_z n_z s2_z _ ez2 hs2) (by first | decide | omega) (by decide) rfl rfl rfl (by decide) (Nat.le_of_ble_eq_true rfl) (fun r_z M' hc_z => ?_)
                  rcases hc_z with ⟨⟨rfl, h7_z⟩ | ⟨rfl, h7_z⟩, rfl⟩
                  · refine Zs_ne hX (List.cons_ne_nil _ _) (fun _ => ?_) (fun q_z => False.elim (by revert q_z; decide))
                    obtain ⟨a_z, c_z, rfl, rfl, hac, ha_z, hc_z⟩ := Zfit_i hs1 h6_z.1 h6_z.2.1 h6_z.2.2
                    obtain ⟨a2_z, c2, rfl, ec, hac2, ha2, hc2⟩ := Zfit_i hs2 h7_z.1 h7_z.2.1 h7_z.2.2
                    obtain rfl : c_z = c2 := Zeq hc_z hc2 ec
                    have hC : 0 ≤ (nI c_z).toInt ∧ 0 ≤ (nI a_z).toInt ∧ 0 ≤ (nI a2_z).toInt ∧ (nI a_z).toInt + (nI c_z).toInt ≤ (g_z.2.1 0).toInt ∧ (nI a2_z).toInt + (nI c_z).toInt ≤ (g_z.2.1 3).toInt := ⟨h6_z.2.1, h6_z.1, h7_z.1, by rw [es1]; exact h6_z.2.2, by rw [es2]; exact h7_z.2.2⟩
                    have n0_z : ∀ k_z : Nat, k_z < 2 ^ 31 → ¬ nI k_z < 0 := fun k_z hk_z => Zn_nlt0 hk_z
                    refine Zgo hX 7 rfl (by (first | exact True.intro | assumption | (dsimp only [ZallP]; and_intros <;> (first | assumption | decide | omega | ((try simp (disch := omega) only [pk_mul, nI_add, Zcl_n]); exact Zin_n (by omega) (by decide)))))) ?_
                    refine Zs_copy hX (List.cons_ne_nil _ _) (by decide) (by decide) (by decide) (Or.inl rfl) rfl rfl (n0_z a_z ha_z) (n0_z a2_z ha2) (n0_z c_z hc_z) (by rw [Zcl_n ha_z, Zcl_n hc_z]; omega) (by rw [Zcl_n ha2, Zcl_n hc_z]; omega) (fun q_z => absurd q_z (by decide)) (by decide) ?_
                    rw [Zcl_n ha_z, Zcl_n ha2, Zcl_n hc_z]
                    refine Zgo hX 1 rfl (by (first | exact True.intro | assumption | (dsimp only [ZallP]; and_intros <;> (first | assumption | decide | omega | ((try simp (disch := omega) only [pk_mul, nI_add, Zcl_n]); exact Zin_n (by omega) (by decide)))))) ?_
                    refine Zs_ret hX hE rfl (by rw [Fmove, if_pos hall, show (nI 0).toNatClampNeg = 0 from Zcl_n (by decide), show (nI 3).toNatClampNeg = 3 from Zcl_n (by decide), if_neg hm_z, if_neg (fun q_z => q_z h5_z), if_pos hC, Zcl_n ha_z, Zcl_n ha2, Zcl_n hc_z]; exact ⟨rfl, hg_z.mv (t1 := 0) (t2 := 3) (by decide) (by decide) (by omega) (by omega), Zmv_hg M (by decide) _⟩)
                  · refine Zs_ne hX (List.cons_ne_nil _ _) (fun q_z => False.elim (by revert q_z; decide)) (fun _ => ?_)
                    refine Zs_sub (l' := [(7, .ref 51), (6, .ref 45), (0, .ref 0), (2, .int i_z), (4, .int j_z), (5, .int n_z)]) rfl ?_
                    exact BADN hm_z (fun q_z => q_z h5_z) (fun q_z => h7_z ⟨q_z.2.2.1, q_z.1, by rw [← es2]; exact q_z.2.2.2.2⟩)
                · refine Zs_eq hX (List.cons_ne_nil _ _) (fun _ => ?_) (fun q_z => False.elim (by revert q_z; decide))
                  refine Zs_sub (l' := [(7, .ref 51), (6, .ref 45), (0, .ref 0), (2, .int i_z), (4, .int j_z), (5, .int n_z)]) rfl ?_
                  exact BADN hm_z (fun q_z => q_z h5_z) (fun q_z => h6_z ⟨q_z.2.1, q_z.1, by rw [← es1]; exact q_z.2.2.2.1⟩)
              · skip
                refine Zgo hX 2 rfl (by (first | exact True.intro | assumption | (dsimp only [ZallP]; and_intros <;> (first | assumption | decide | omega | ((try simp (disch := omega) only [pk_mul, nI_add, Zcl_n]); exact Zin_n (by omega) (by decide)))))) ?_
                refine Zs_callv hX (List.cons_ne_nil _ _) (k_refuse 5 _ (by decide)) (by first | decide | omega) (by decide) rfl rfl rfl (by decide) (Nat.le_of_ble_eq_true rfl) (fun r_z M' hc_z => ?_)
                obtain ⟨rfl, hsc⟩ := hc_z
                refine Zs_ret hX hE rfl (by rw [Fmove, if_pos hall, show (nI 0).toNatClampNeg = 0 from Zcl_n (by decide), show (nI 3).toNatClampNeg = 3 from Zcl_n (by decide), if_neg hm_z, if_pos h5_z]; exact Zkk_e hg_z hsc)
            · refine Zs_sub (l' := [(7, .ref 51), (6, .ref 45), (0, .ref 0), (2, .int i_z), (4, .int j_z), (5, .int n_z)]) rfl ?_
              exact MISS (Or.inr h4_z)
      · skip
        rcases (show t' = 0 ∨ t' = 1 ∨ t' = 2 ∨ t' = 3 by omega) with rfl | rfl | rfl | rfl
        · skip
          have eb1 : M 47 1 = g_z.1 1 := (hg_z 1 (by decide)).1
          have eb2 : M 45 1 = g_z.1 0 := (hg_z 0 (by decide)).1
          obtain ⟨-, s1_z, hs1, es1⟩ := hi_z 1 (by decide)
          obtain ⟨-, s2_z, hs2, es2⟩ := hi_z 0 (by decide)
          have ez1 : M 47 2 = nI s1_z := (hg_z 1 (by decide)).2.1.trans es1
          have ez2 : M 45 2 = nI s2_z := (hg_z 0 (by decide)).2.1.trans es2
          refine Zgo hX 3 rfl (by (first | exact True.intro | assumption | (dsimp only [ZallP]; and_intros <;> (first | assumption | decide | omega | ((try simp (disch := omega) only [pk_mul, nI_add, Zcl_n]); exact Zin_n (by omega) (by decide)))))) ?_
          refine Zs_aald hX (List.cons_ne_nil _ _) (by decide) rfl (by decide) (j := _) rfl (by decide) (by decide) rfl ?_
          refine Zgo hX 4 rfl (by (first | exact True.intro | assumption | (dsimp only [ZallP]; and_intros <;> (first | assumption | decide | omega | ((try simp (disch := omega) only [pk_mul, nI_add, Zcl_n]); exact Zin_n (by omega) (by decide)))))) ?_
          refine Zs_aald hX (List.cons_ne_nil _ _) (by decide) rfl (by decide) (j := _) rfl (by decide) (by decide) rfl ?_
          refine Zgo hX 3 rfl (by (first | exact True.intro | assumption | (dsimp only [ZallP]; and_intros <;> (first | assumption | decide | omega | ((try simp (disch := omega) only [pk_mul, nI_add, Zcl_n]); exact Zin_n (by omega) (by decide)))))) ?_
          rw [eb1]
          have MISS : (g_z.1 1 = nI 0 ∨ g_z.1 0 = nI 0) → ZP X Zt28 (Zsf Zt28 52) [(7, .ref 45), (6, .ref 47), (0, .ref 0), (2, .int i_z), (4, .int j_z), (5, .int n_z)] [] M := by
            intro h_z
            refine Zgo hX 2 rfl (by (first | exact True.intro | assumption | (dsimp only [ZallP]; and_intros <;> (first | assumption | decide | omega | ((try simp (disch := omega) only [pk_mul, nI_add, Zcl_n]); exact Zin_n (by omega) (by decide)))))) ?_
            refine Zs_callv hX (List.cons_ne_nil _ _) (k_refuse 2 _ (by decide)) (by first | decide | omega) (by decide) rfl rfl rfl (by decide) (Nat.le_of_ble_eq_true rfl) (fun r_z M' hc_z => ?_)
            obtain ⟨rfl, hsc⟩ := hc_z
            refine Zs_ret hX hE rfl (by rw [Fmove, if_pos hall, show (nI 1).toNatClampNeg = 1 from Zcl_n (by decide), show (nI 0).toNatClampNeg = 0 from Zcl_n (by decide), if_pos h_z]; exact Zkk_e hg_z hsc)
          have BADN : ¬ (g_z.1 1 = nI 0 ∨ g_z.1 0 = nI 0) → ¬ ¬ g_z.1 1 = g_z.1 0 → ¬ (0 ≤ n_z.toInt ∧ 0 ≤ i_z.toInt ∧ 0 ≤ j_z.toInt ∧ i_z.toInt + n_z.toInt ≤ (g_z.2.1 1).toInt ∧ j_z.toInt + n_z.toInt ≤ (g_z.2.1 0).toInt) → ZP X Zt28 (Zsf Zt28 100) [(7, .ref 45), (6, .ref 47), (0, .ref 0), (2, .int i_z), (4, .int j_z), (5, .int n_z)] [] M := by
            intro h_z h2_z h3_z
            refine Zgo hX 2 rfl (by (first | exact True.intro | assumption | (dsimp only [ZallP]; and_intros <;> (first | assumption | decide | omega | ((try simp (disch := omega) only [pk_mul, nI_add, Zcl_n]); exact Zin_n (by omega) (by decide)))))) ?_
            refine Zs_callv hX (List.cons_ne_nil _ _) (k_refuse 1 _ (by decide)) (by first | decide | omega) (by decide) rfl rfl rfl (by decide) (Nat.le_of_ble_eq_true rfl) (fun r_z M' hc_z => ?_)
            obtain ⟨rfl, hsc⟩ := hc_z
            refine Zs_ret hX hE rfl (by rw [Fmove, if_pos hall, show (nI 1).toNatClampNeg = 1 from Zcl_n (by decide), show (nI 0).toNatClampNeg = 0 from Zcl_n (by decide), if_neg h_z, if_neg h2_z, if_neg h3_z]; exact Zkk_e hg_z hsc)
          refine Zs_eq hX (List.cons_ne_nil _ _) (fun h3_z => ?_) (fun h3_z => ?_)
          · refine Zs_sub (l' := [(7, .ref 45), (6, .ref 47), (0, .ref 0), (2, .int i_z), (4, .int j_z), (5, .int n_z)]) rfl ?_
            exact MISS (Or.inl h3_z)
          · refine Zgo hX 2 rfl (by (first | exact True.intro | assumption | (dsimp only [ZallP]; and_intros <;> (first | assumption | decide | omega | ((try simp (disch := omega) only [pk_mul, nI_add, Zcl_n]); exact Zin_n (by omega) (by decide)))))) ?_
            rw [eb2]
            refine Zs_ne hX (List.cons_ne_nil _ _) (fun h4_z => ?_) (fun h4_z => ?_)
            · have hm_z : ¬ (g_z.1 1 = nI 0 ∨ g_z.1 0 = nI 0) := fun q_z => q_z.elim h3_z h4_z
              refine Zgo hX 4 rfl (by (first | exact True.intro | assumption | (dsimp only [ZallP]; and_intros <;> (first | assumption | decide | omega | ((try simp (disch := omega) only [pk_mul, nI_add, Zcl_n]); exact Zin_n (by omega) (by decide)))))) ?_
              rw [eb1, eb2]
              refine Zs_ieq hX (List.cons_ne_nil _ _) (fun h5_z => ?_) (fun h5_z => ?_)
              · refine Zgo hX 3 rfl (by (first | exact True.intro | assumption | (dsimp only [ZallP]; and_intros <;> (first | assumption | decide | omega | ((try simp (disch := omega) only [pk_mul, nI_add, Zcl_n]); exact Zin_n (by omega) (by decide)))))) ?_
                refine Zs_callv hX (List.cons_ne_nil _ _) (k_has1 i_z n_z s1_z _ ez1 hs1) (by first | decide | omega) (by decide) rfl rfl rfl (by decide) (Nat.le_of_ble_eq_true rfl) (fun r_z M' hc_z => ?_)
                rcases hc_z with ⟨⟨rfl, h6_z⟩ | ⟨rfl, h6_z⟩, rfl⟩
                · refine Zs_eq hX (List.cons_ne_nil _ _) (fun q_z => False.elim (by revert q_z; decide)) (fun _ => ?_)
                  refine Zgo hX 3 rfl (by (first | exact True.intro | assumption | (dsimp only [ZallP]; and_intros <;> (first | assumption | decide | omega | ((try simp (disch := omega) only [pk_mul, nI_add, Zcl_n]); exact Zin_n (by omega) (by decide)))))) ?_
                  refine Zs_callv hX (List.cons_ne_nil _ _) (k_has0 j_z n_z s2_z _ ez2 hs2) (by first | decide | omega) (by decide) rfl rfl rfl (by decide) (Nat.le_of_ble_eq_true rfl) (fun r_z M' hc_z => ?_)
                  rcases hc_z with ⟨⟨rfl, h7_z⟩ | ⟨rfl, h7_z⟩, rfl⟩
                  · refine Zs_ne hX (List.cons_ne_nil _ _) (fun _ => ?_) (fun q_z => False.elim (by revert q_z; decide))
                    obtain ⟨a_z, c_z, rfl, rfl, hac, ha_z, hc_z⟩ := Zfit_i hs1 h6_z.1 h6_z.2.1 h6_z.2.2
                    obtain ⟨a2_z, c2, rfl, ec, hac2, ha2, hc2⟩ := Zfit_i hs2 h7_z.1 h7_z.2.1 h7_z.2.2
                    obtain rfl : c_z = c2 := Zeq hc_z hc2 ec
                    have hC : 0 ≤ (nI c_z).toInt ∧ 0 ≤ (nI a_z).toInt ∧ 0 ≤ (nI a2_z).toInt ∧ (nI a_z).toInt + (nI c_z).toInt ≤ (g_z.2.1 1).toInt ∧ (nI a2_z).toInt + (nI c_z).toInt ≤ (g_z.2.1 0).toInt := ⟨h6_z.2.1, h6_z.1, h7_z.1, by rw [es1]; exact h6_z.2.2, by rw [es2]; exact h7_z.2.2⟩
                    have n0_z : ∀ k_z : Nat, k_z < 2 ^ 31 → ¬ nI k_z < 0 := fun k_z hk_z => Zn_nlt0 hk_z
                    refine Zgo hX 7 rfl (by (first | exact True.intro | assumption | (dsimp only [ZallP]; and_intros <;> (first | assumption | decide | omega | ((try simp (disch := omega) only [pk_mul, nI_add, Zcl_n]); exact Zin_n (by omega) (by decide)))))) ?_
                    refine Zs_copy hX (List.cons_ne_nil _ _) (by decide) (by decide) (by decide) (Or.inl rfl) rfl rfl (n0_z a_z ha_z) (n0_z a2_z ha2) (n0_z c_z hc_z) (by rw [Zcl_n ha_z, Zcl_n hc_z]; omega) (by rw [Zcl_n ha2, Zcl_n hc_z]; omega) (fun q_z => absurd q_z (by decide)) (by decide) ?_
                    rw [Zcl_n ha_z, Zcl_n ha2, Zcl_n hc_z]
                    refine Zgo hX 1 rfl (by (first | exact True.intro | assumption | (dsimp only [ZallP]; and_intros <;> (first | assumption | decide | omega | ((try simp (disch := omega) only [pk_mul, nI_add, Zcl_n]); exact Zin_n (by omega) (by decide)))))) ?_
                    refine Zs_ret hX hE rfl (by rw [Fmove, if_pos hall, show (nI 1).toNatClampNeg = 1 from Zcl_n (by decide), show (nI 0).toNatClampNeg = 0 from Zcl_n (by decide), if_neg hm_z, if_neg (fun q_z => q_z h5_z), if_pos hC, Zcl_n ha_z, Zcl_n ha2, Zcl_n hc_z]; exact ⟨rfl, hg_z.mv (t1 := 1) (t2 := 0) (by decide) (by decide) (by omega) (by omega), Zmv_hg M (by decide) _⟩)
                  · refine Zs_ne hX (List.cons_ne_nil _ _) (fun q_z => False.elim (by revert q_z; decide)) (fun _ => ?_)
                    refine Zs_sub (l' := [(7, .ref 45), (6, .ref 47), (0, .ref 0), (2, .int i_z), (4, .int j_z), (5, .int n_z)]) rfl ?_
                    exact BADN hm_z (fun q_z => q_z h5_z) (fun q_z => h7_z ⟨q_z.2.2.1, q_z.1, by rw [← es2]; exact q_z.2.2.2.2⟩)
                · refine Zs_eq hX (List.cons_ne_nil _ _) (fun _ => ?_) (fun q_z => False.elim (by revert q_z; decide))
                  refine Zs_sub (l' := [(7, .ref 45), (6, .ref 47), (0, .ref 0), (2, .int i_z), (4, .int j_z), (5, .int n_z)]) rfl ?_
                  exact BADN hm_z (fun q_z => q_z h5_z) (fun q_z => h6_z ⟨q_z.2.1, q_z.1, by rw [← es1]; exact q_z.2.2.2.1⟩)
              · skip
                refine Zgo hX 2 rfl (by (first | exact True.intro | assumption | (dsimp only [ZallP]; and_intros <;> (first | assumption | decide | omega | ((try simp (disch := omega) only [pk_mul, nI_add, Zcl_n]); exact Zin_n (by omega) (by decide)))))) ?_
                refine Zs_callv hX (List.cons_ne_nil _ _) (k_refuse 5 _ (by decide)) (by first | decide | omega) (by decide) rfl rfl rfl (by decide) (Nat.le_of_ble_eq_true rfl) (fun r_z M' hc_z => ?_)
                obtain ⟨rfl, hsc⟩ := hc_z
                refine Zs_ret hX hE rfl (by rw [Fmove, if_pos hall, show (nI 1).toNatClampNeg = 1 from Zcl_n (by decide), show (nI 0).toNatClampNeg = 0 from Zcl_n (by decide), if_neg hm_z, if_pos h5_z]; exact Zkk_e hg_z hsc)
            · refine Zs_sub (l' := [(7, .ref 45), (6, .ref 47), (0, .ref 0), (2, .int i_z), (4, .int j_z), (5, .int n_z)]) rfl ?_
              exact MISS (Or.inr h4_z)
        · skip
          have eb1 : M 47 1 = g_z.1 1 := (hg_z 1 (by decide)).1
          have eb2 : M 47 1 = g_z.1 1 := (hg_z 1 (by decide)).1
          obtain ⟨-, s1_z, hs1, es1⟩ := hi_z 1 (by decide)
          obtain ⟨-, s2_z, hs2, es2⟩ := hi_z 1 (by decide)
          have ez1 : M 47 2 = nI s1_z := (hg_z 1 (by decide)).2.1.trans es1
          have ez2 : M 47 2 = nI s2_z := (hg_z 1 (by decide)).2.1.trans es2
          refine Zgo hX 3 rfl (by (first | exact True.intro | assumption | (dsimp only [ZallP]; and_intros <;> (first | assumption | decide | omega | ((try simp (disch := omega) only [pk_mul, nI_add, Zcl_n]); exact Zin_n (by omega) (by decide)))))) ?_
          refine Zs_aald hX (List.cons_ne_nil _ _) (by decide) rfl (by decide) (j := _) rfl (by decide) (by decide) rfl ?_
          refine Zgo hX 4 rfl (by (first | exact True.intro | assumption | (dsimp only [ZallP]; and_intros <;> (first | assumption | decide | omega | ((try simp (disch := omega) only [pk_mul, nI_add, Zcl_n]); exact Zin_n (by omega) (by decide)))))) ?_
          refine Zs_aald hX (List.cons_ne_nil _ _) (by decide) rfl (by decide) (j := _) rfl (by decide) (by decide) rfl ?_
          refine Zgo hX 3 rfl (by (first | exact True.intro | assumption | (dsimp only [ZallP]; and_intros <;> (first | assumption | decide | omega | ((try simp (disch := omega) only [pk_mul, nI_add, Zcl_n]); exact Zin_n (by omega) (by decide)))))) ?_
          rw [eb1]
          have MISS : (g_z.1 1 = nI 0 ∨ g_z.1 1 = nI 0) → ZP X Zt28 (Zsf Zt28 52) [(7, .ref 47), (6, .ref 47), (0, .ref 0), (2, .int i_z), (4, .int j_z), (5, .int n_z)] [] M := by
            intro h_z
            refine Zgo hX 2 rfl (by (first | exact True.intro | assumption | (dsimp only [ZallP]; and_intros <;> (first | assumption | decide | omega | ((try simp (disch := omega) only [pk_mul, nI_add, Zcl_n]); exact Zin_n (by omega) (by decide)))))) ?_
            refine Zs_callv hX (List.cons_ne_nil _ _) (k_refuse 2 _ (by decide)) (by first | decide | omega) (by decide) rfl rfl rfl (by decide) (Nat.le_of_ble_eq_true rfl) (fun r_z M' hc_z => ?_)
            obtain ⟨rfl, hsc⟩ := hc_z
            refine Zs_ret hX hE rfl (by rw [Fmove, if_pos hall, show (nI 1).toNatClampNeg = 1 from Zcl_n (by decide), if_pos h_z]; exact Zkk_e hg_z hsc)
          have BADN : ¬ (g_z.1 1 = nI 0 ∨ g_z.1 1 = nI 0) → ¬ ¬ g_z.1 1 = g_z.1 1 → ¬ (0 ≤ n_z.toInt ∧ 0 ≤ i_z.toInt ∧ 0 ≤ j_z.toInt ∧ i_z.toInt + n_z.toInt ≤ (g_z.2.1 1).toInt ∧ j_z.toInt + n_z.toInt ≤ (g_z.2.1 1).toInt) → ZP X Zt28 (Zsf Zt28 100) [(7, .ref 47), (6, .ref 47), (0, .ref 0), (2, .int i_z), (4, .int j_z), (5, .int n_z)] [] M := by
            intro h_z h2_z h3_z
            refine Zgo hX 2 rfl (by (first | exact True.intro | assumption | (dsimp only [ZallP]; and_intros <;> (first | assumption | decide | omega | ((try simp (disch := omega) only [pk_mul, nI_add, Zcl_n]); exact Zin_n (by omega) (by decide)))))) ?_
            refine Zs_callv hX (List.cons_ne_nil _ _) (k_refuse 1 _ (by decide)) (by first | decide | omega) (by decide) rfl rfl rfl (by decide) (Nat.le_of_ble_eq_true rfl) (fun r_z M' hc_z => ?_)
            obtain ⟨rfl, hsc⟩ := hc_z
            refine Zs_ret hX hE rfl (by rw [Fmove, if_pos hall, show (nI 1).toNatClampNeg = 1 from Zcl_n (by decide), if_neg h_z, if_neg h2_z, if_neg h3_z]; exact Zkk_e hg_z hsc)
          refine Zs_eq hX (List.cons_ne_nil _ _) (fun h3_z => ?_) (fun h3_z => ?_)
          · refine Zs_sub (l' := [(7, .ref 47), (6, .ref 47), (0, .ref 0), (2, .int i_z), (4, .int j_z), (5, .int n_z)]) rfl ?_
            exact MISS (Or.inl h3_z)
          · refine Zgo hX 2 rfl (by (first | exact True.intro | assumption | (dsimp only [ZallP]; and_intros <;> (first | assumption | decide | omega | ((try simp (disch := omega) only [pk_mul, nI_add, Zcl_n]); exact Zin_n (by omega) (by decide)))))) ?_
            rw [eb2]
            refine Zs_ne hX (List.cons_ne_nil _ _) (fun h4_z => ?_) (fun h4_z => ?_)
            · have hm_z : ¬ (g_z.1 1 = nI 0 ∨ g_z.1 1 = nI 0) := fun q_z => q_z.elim h3_z h4_z
              refine Zgo hX 4 rfl (by (first | exact True.intro | assumption | (dsimp only [ZallP]; and_intros <;> (first | assumption | decide | omega | ((try simp (disch := omega) only [pk_mul, nI_add, Zcl_n]); exact Zin_n (by omega) (by decide)))))) ?_
              rw [eb1]
              refine Zs_ieq hX (List.cons_ne_nil _ _) (fun h5_z => ?_) (fun h5_z => ?_)
              · refine Zgo hX 3 rfl (by (first | exact True.intro | assumption | (dsimp only [ZallP]; and_intros <;> (first | assumption | decide | omega | ((try simp (disch := omega) only [pk_mul, nI_add, Zcl_n]); exact Zin_n (by omega) (by decide)))))) ?_
                refine Zs_callv hX (List.cons_ne_nil _ _) (k_has1 i_z n_z s1_z _ ez1 hs1) (by first | decide | omega) (by decide) rfl rfl rfl (by decide) (Nat.le_of_ble_eq_true rfl) (fun r_z M' hc_z => ?_)
                rcases hc_z with ⟨⟨rfl, h6_z⟩ | ⟨rfl, h6_z⟩, rfl⟩
                · refine Zs_eq hX (List.cons_ne_nil _ _) (fun q_z => False.elim (by revert q_z; decide)) (fun _ => ?_)
                  refine Zgo hX 3 rfl (by (first | exact True.intro | assumption | (dsimp only [ZallP]; and_intros <;> (first | assumption | decide | omega | ((try simp (disch := omega) only [pk_mul, nI_add, Zcl_n]); exact Zin_n (by omega) (by decide)))))) ?_
                  refine Zs_callv hX (List.cons_ne_nil _ _) (k_has1 j_z n_z s2_z _ ez2 hs2) (by first | decide | omega) (by decide) rfl rfl rfl (by decide) (Nat.le_of_ble_eq_true rfl) (fun r_z M' hc_z => ?_)
                  rcases hc_z with ⟨⟨rfl, h7_z⟩ | ⟨rfl, h7_z⟩, rfl⟩
                  · refine Zs_ne hX (List.cons_ne_nil _ _) (fun _ => ?_) (fun q_z => False.elim (by revert q_z; decide))
                    obtain ⟨a_z, c_z, rfl, rfl, hac, ha_z, hc_z⟩ := Zfit_i hs1 h6_z.1 h6_z.2.1 h6_z.2.2
                    obtain ⟨a2_z, c2, rfl, ec, hac2, ha2, hc2⟩ := Zfit_i hs2 h7_z.1 h7_z.2.1 h7_z.2.2
                    obtain rfl : c_z = c2 := Zeq hc_z hc2 ec
                    have hC : 0 ≤ (nI c_z).toInt ∧ 0 ≤ (nI a_z).toInt ∧ 0 ≤ (nI a2_z).toInt ∧ (nI a_z).toInt + (nI c_z).toInt ≤ (g_z.2.1 1).toInt ∧ (nI a2_z).toInt + (nI c_z).toInt ≤ (g_z.2.1 1).toInt := ⟨h6_z.2.1, h6_z.1, h7_z.1, by rw [es1]; exact h6_z.2.2, by rw [es2]; exact h7_z.2.2⟩
                    have n0_z : ∀ k_z : Nat, k_z < 2 ^ 31 → ¬ nI k_z < 0 := fun k_z hk_z => Zn_nlt0 hk_z
                    refine Zgo hX 7 rfl (by (first | exact True.intro | assumption | (dsimp only [ZallP]; and_intros <;> (first | assumption | decide | omega | ((try simp (disch := omega) only [pk_mul, nI_add, Zcl_n]); exact Zin_n (by omega) (by decide)))))) ?_
                    refine Zs_copy hX (List.cons_ne_nil _ _) (by decide) (by decide) (by decide) (Or.inl rfl) rfl rfl (n0_z a_z ha_z) (n0_z a2_z ha2) (n0_z c_z hc_z) (by rw [Zcl_n ha_z, Zcl_n hc_z]; omega) (by rw [Zcl_n ha2, Zcl_n hc_z]; omega) (fun q_z => absurd q_z (by decide)) (by decide) ?_
                    rw [Zcl_n ha_z, Zcl_n ha2, Zcl_n hc_z]
                    refine Zgo hX 1 rfl (by (first | exact True.intro | assumption | (dsimp only [ZallP]; and_intros <;> (first | assumption | decide | omega | ((try simp (disch := omega) only [pk_mul, nI_add, Zcl_n]); exact Zin_n (by omega) (by decide)))))) ?_
                    refine Zs_ret hX hE rfl (by rw [Fmove, if_pos hall, show (nI 1).toNatClampNeg = 1 from Zcl_n (by decide), if_neg hm_z, if_neg (fun q_z => q_z h5_z), if_pos hC, Zcl_n ha_z, Zcl_n ha2, Zcl_n hc_z]; exact ⟨rfl, hg_z.mv (t1 := 1) (t2 := 1) (by decide) (by decide) (by omega) (by omega), Zmv_hg M (by decide) _⟩)
                  · refine Zs_ne hX (List.cons_ne_nil _ _) (fun q_z => False.elim (by revert q_z; decide)) (fun _ => ?_)
                    refine Zs_sub (l' := [(7, .ref 47), (6, .ref 47), (0, .ref 0), (2, .int i_z), (4, .int j_z), (5, .int n_z)]) rfl ?_
                    exact BADN hm_z (fun q_z => q_z h5_z) (fun q_z => h7_z ⟨q_z.2.2.1, q_z.1, by rw [← es2]; exact q_z.2.2.2.2⟩)
                · refine Zs_eq hX (List.cons_ne_nil _ _) (fun _ => ?_) (fun q_z => False.elim (by revert q_z; decide))
                  refine Zs_sub (l' := [(7, .ref 47), (6, .ref 47), (0, .ref 0), (2, .int i_z), (4, .int j_z), (5, .int n_z)]) rfl ?_
                  exact BADN hm_z (fun q_z => q_z h5_z) (fun q_z => h6_z ⟨q_z.2.1, q_z.1, by rw [← es1]; exact q_z.2.2.2.1⟩)
              · skip
                refine Zgo hX 2 rfl (by (first | exact True.intro | assumption | (dsimp only [ZallP]; and_intros <;> (first | assumption | decide | omega | ((try simp (disch := omega) only [pk_mul, nI_add, Zcl_n]); exact Zin_n (by omega) (by decide)))))) ?_
                refine Zs_callv hX (List.cons_ne_nil _ _) (k_refuse 5 _ (by decide)) (by first | decide | omega) (by decide) rfl rfl rfl (by decide) (Nat.le_of_ble_eq_true rfl) (fun r_z M' hc_z => ?_)
                obtain ⟨rfl, hsc⟩ := hc_z
                refine Zs_ret hX hE rfl (by rw [Fmove, if_pos hall, show (nI 1).toNatClampNeg = 1 from Zcl_n (by decide), if_neg hm_z, if_pos h5_z]; exact Zkk_e hg_z hsc)
            · refine Zs_sub (l' := [(7, .ref 47), (6, .ref 47), (0, .ref 0), (2, .int i_z), (4, .int j_z), (5, .int n_z)]) rfl ?_
              exact MISS (Or.inr h4_z)
        · skip
          have eb1 : M 47 1 = g_z.1 1 := (hg_z 1 (by decide)).1
          have eb2 : M 49 1 = g_z.1 2 := (hg_z 2 (by decide)).1
          obtain ⟨-, s1_z, hs1, es1⟩ := hi_z 1 (by decide)
          obtain ⟨-, s2_z, hs2, es2⟩ := hi_z 2 (by decide)
          have ez1 : M 47 2 = nI s1_z := (hg_z 1 (by decide)).2.1.trans es1
          have ez2 : M 49 2 = nI s2_z := (hg_z 2 (by decide)).2.1.trans es2
          refine Zgo hX 3 rfl (by (first | exact True.intro | assumption | (dsimp only [ZallP]; and_intros <;> (first | assumption | decide | omega | ((try simp (disch := omega) only [pk_mul, nI_add, Zcl_n]); exact Zin_n (by omega) (by decide)))))) ?_
          refine Zs_aald hX (List.cons_ne_nil _ _) (by decide) rfl (by decide) (j := _) rfl (by decide) (by decide) rfl ?_
          refine Zgo hX 4 rfl (by (first | exact True.intro | assumption | (dsimp only [ZallP]; and_intros <;> (first | assumption | decide | omega | ((try simp (disch := omega) only [pk_mul, nI_add, Zcl_n]); exact Zin_n (by omega) (by decide)))))) ?_
          refine Zs_aald hX (List.cons_ne_nil _ _) (by decide) rfl (by decide) (j := _) rfl (by decide) (by decide) rfl ?_
          refine Zgo hX 3 rfl (by (first | exact True.intro | assumption | (dsimp only [ZallP]; and_intros <;> (first | assumption | decide | omega | ((try simp (disch := omega) only [pk_mul, nI_add, Zcl_n]); exact Zin_n (by omega) (by decide)))))) ?_
          rw [eb1]
          have MISS : (g_z.1 1 = nI 0 ∨ g_z.1 2 = nI 0) → ZP X Zt28 (Zsf Zt28 52) [(7, .ref 49), (6, .ref 47), (0, .ref 0), (2, .int i_z), (4, .int j_z), (5, .int n_z)] [] M := by
            intro h_z
            refine Zgo hX 2 rfl (by (first | exact True.intro | assumption | (dsimp only [ZallP]; and_intros <;> (first | assumption | decide | omega | ((try simp (disch := omega) only [pk_mul, nI_add, Zcl_n]); exact Zin_n (by omega) (by decide)))))) ?_
            refine Zs_callv hX (List.cons_ne_nil _ _) (k_refuse 2 _ (by decide)) (by first | decide | omega) (by decide) rfl rfl rfl (by decide) (Nat.le_of_ble_eq_true rfl) (fun r_z M' hc_z => ?_)
            obtain ⟨rfl, hsc⟩ := hc_z
            refine Zs_ret hX hE rfl (by rw [Fmove, if_pos hall, show (nI 1).toNatClampNeg = 1 from Zcl_n (by decide), show (nI 2).toNatClampNeg = 2 from Zcl_n (by decide), if_pos h_z]; exact Zkk_e hg_z hsc)
          have BADN : ¬ (g_z.1 1 = nI 0 ∨ g_z.1 2 = nI 0) → ¬ ¬ g_z.1 1 = g_z.1 2 → ¬ (0 ≤ n_z.toInt ∧ 0 ≤ i_z.toInt ∧ 0 ≤ j_z.toInt ∧ i_z.toInt + n_z.toInt ≤ (g_z.2.1 1).toInt ∧ j_z.toInt + n_z.toInt ≤ (g_z.2.1 2).toInt) → ZP X Zt28 (Zsf Zt28 100) [(7, .ref 49), (6, .ref 47), (0, .ref 0), (2, .int i_z), (4, .int j_z), (5, .int n_z)] [] M := by
            intro h_z h2_z h3_z
            refine Zgo hX 2 rfl (by (first | exact True.intro | assumption | (dsimp only [ZallP]; and_intros <;> (first | assumption | decide | omega | ((try simp (disch := omega) only [pk_mul, nI_add, Zcl_n]); exact Zin_n (by omega) (by decide)))))) ?_
            refine Zs_callv hX (List.cons_ne_nil _ _) (k_refuse 1 _ (by decide)) (by first | decide | omega) (by decide) rfl rfl rfl (by decide) (Nat.le_of_ble_eq_true rfl) (fun r_z M' hc_z => ?_)
            obtain ⟨rfl, hsc⟩ := hc_z
            refine Zs_ret hX hE rfl (by rw [Fmove, if_pos hall, show (nI 1).toNatClampNeg = 1 from Zcl_n (by decide), show (nI 2).toNatClampNeg = 2 from Zcl_n (by decide), if_neg h_z, if_neg h2_z, if_neg h3_z]; exact Zkk_e hg_z hsc)
          refine Zs_eq hX (List.cons_ne_nil _ _) (fun h3_z => ?_) (fun h3_z => ?_)
          · refine Zs_sub (l' := [(7, .ref 49), (6, .ref 47), (0, .ref 0), (2, .int i_z), (4, .int j_z), (5, .int n_z)]) rfl ?_
            exact MISS (Or.inl h3_z)
          · refine Zgo hX 2 rfl (by (first | exact True.intro | assumption | (dsimp only [ZallP]; and_intros <;> (first | assumption | decide | omega | ((try simp (disch := omega) only [pk_mul, nI_add, Zcl_n]); exact Zin_n (by omega) (by decide)))))) ?_
            rw [eb2]
            refine Zs_ne hX (List.cons_ne_nil _ _) (fun h4_z => ?_) (fun h4_z => ?_)
            · have hm_z : ¬ (g_z.1 1 = nI 0 ∨ g_z.1 2 = nI 0) := fun q_z => q_z.elim h3_z h4_z
              refine Zgo hX 4 rfl (by (first | exact True.intro | assumption | (dsimp only [ZallP]; and_intros <;> (first | assumption | decide | omega | ((try simp (disch := omega) only [pk_mul, nI_add, Zcl_n]); exact Zin_n (by omega) (by decide)))))) ?_
              rw [eb1, eb2]
              refine Zs_ieq hX (List.cons_ne_nil _ _) (fun h5_z => ?_) (fun h5_z => ?_)
              · refine Zgo hX 3 rfl (by (first | exact True.intro | assumption | (dsimp only [ZallP]; and_intros <;> (first | assumption | decide | omega | ((try simp (disch := omega) only [pk_mul, nI_add, Zcl_n]); exact Zin_n (by omega) (by decide)))))) ?_
                refine Zs_callv hX (List.cons_ne_nil _ _) (k_has1 i_z n_z s1_z _ ez1 hs1) (by first | decide | omega) (by decide) rfl rfl rfl (by decide) (Nat.le_of_ble_eq_true rfl) (fun r_z M' hc_z => ?_)
                rcases hc_z with ⟨⟨rfl, h6_z⟩ | ⟨rfl, h6_z⟩, rfl⟩
                · refine Zs_eq hX (List.cons_ne_nil _ _) (fun q_z => False.elim (by revert q_z; decide)) (fun _ => ?_)
                  refine Zgo hX 3 rfl (by (first | exact True.intro | assumption | (dsimp only [ZallP]; and_intros <;> (first | assumption | decide | omega | ((try simp (disch := omega) only [pk_mul, nI_add, Zcl_n]); exact Zin_n (by omega) (by decide)))))) ?_
                  refine Zs_callv hX (List.cons_ne_nil _ _) (k_has2 j_z n_z s2_z _ ez2 hs2) (by first | decide | omega) (by decide) rfl rfl rfl (by decide) (Nat.le_of_ble_eq_true rfl) (fun r_z M' hc_z => ?_)
                  rcases hc_z with ⟨⟨rfl, h7_z⟩ | ⟨rfl, h7_z⟩, rfl⟩
                  · refine Zs_ne hX (List.cons_ne_nil _ _) (fun _ => ?_) (fun q_z => False.elim (by revert q_z; decide))
                    obtain ⟨a_z, c_z, rfl, rfl, hac, ha_z, hc_z⟩ := Zfit_i hs1 h6_z.1 h6_z.2.1 h6_z.2.2
                    obtain ⟨a2_z, c2, rfl, ec, hac2, ha2, hc2⟩ := Zfit_i hs2 h7_z.1 h7_z.2.1 h7_z.2.2
                    obtain rfl : c_z = c2 := Zeq hc_z hc2 ec
                    have hC : 0 ≤ (nI c_z).toInt ∧ 0 ≤ (nI a_z).toInt ∧ 0 ≤ (nI a2_z).toInt ∧ (nI a_z).toInt + (nI c_z).toInt ≤ (g_z.2.1 1).toInt ∧ (nI a2_z).toInt + (nI c_z).toInt ≤ (g_z.2.1 2).toInt := ⟨h6_z.2.1, h6_z.1, h7_z.1, by rw [es1]; exact h6_z.2.2, by rw [es2]; exact h7_z.2.2⟩
                    have n0_z : ∀ k_z : Nat, k_z < 2 ^ 31 → ¬ nI k_z < 0 := fun k_z hk_z => Zn_nlt0 hk_z
                    refine Zgo hX 7 rfl (by (first | exact True.intro | assumption | (dsimp only [ZallP]; and_intros <;> (first | assumption | decide | omega | ((try simp (disch := omega) only [pk_mul, nI_add, Zcl_n]); exact Zin_n (by omega) (by decide)))))) ?_
                    refine Zs_copy hX (List.cons_ne_nil _ _) (by decide) (by decide) (by decide) (Or.inl rfl) rfl rfl (n0_z a_z ha_z) (n0_z a2_z ha2) (n0_z c_z hc_z) (by rw [Zcl_n ha_z, Zcl_n hc_z]; omega) (by rw [Zcl_n ha2, Zcl_n hc_z]; omega) (fun q_z => absurd q_z (by decide)) (by decide) ?_
                    rw [Zcl_n ha_z, Zcl_n ha2, Zcl_n hc_z]
                    refine Zgo hX 1 rfl (by (first | exact True.intro | assumption | (dsimp only [ZallP]; and_intros <;> (first | assumption | decide | omega | ((try simp (disch := omega) only [pk_mul, nI_add, Zcl_n]); exact Zin_n (by omega) (by decide)))))) ?_
                    refine Zs_ret hX hE rfl (by rw [Fmove, if_pos hall, show (nI 1).toNatClampNeg = 1 from Zcl_n (by decide), show (nI 2).toNatClampNeg = 2 from Zcl_n (by decide), if_neg hm_z, if_neg (fun q_z => q_z h5_z), if_pos hC, Zcl_n ha_z, Zcl_n ha2, Zcl_n hc_z]; exact ⟨rfl, hg_z.mv (t1 := 1) (t2 := 2) (by decide) (by decide) (by omega) (by omega), Zmv_hg M (by decide) _⟩)
                  · refine Zs_ne hX (List.cons_ne_nil _ _) (fun q_z => False.elim (by revert q_z; decide)) (fun _ => ?_)
                    refine Zs_sub (l' := [(7, .ref 49), (6, .ref 47), (0, .ref 0), (2, .int i_z), (4, .int j_z), (5, .int n_z)]) rfl ?_
                    exact BADN hm_z (fun q_z => q_z h5_z) (fun q_z => h7_z ⟨q_z.2.2.1, q_z.1, by rw [← es2]; exact q_z.2.2.2.2⟩)
                · refine Zs_eq hX (List.cons_ne_nil _ _) (fun _ => ?_) (fun q_z => False.elim (by revert q_z; decide))
                  refine Zs_sub (l' := [(7, .ref 49), (6, .ref 47), (0, .ref 0), (2, .int i_z), (4, .int j_z), (5, .int n_z)]) rfl ?_
                  exact BADN hm_z (fun q_z => q_z h5_z) (fun q_z => h6_z ⟨q_z.2.1, q_z.1, by rw [← es1]; exact q_z.2.2.2.1⟩)
              · skip
                refine Zgo hX 2 rfl (by (first | exact True.intro | assumption | (dsimp only [ZallP]; and_intros <;> (first | assumption | decide | omega | ((try simp (disch := omega) only [pk_mul, nI_add, Zcl_n]); exact Zin_n (by omega) (by decide)))))) ?_
                refine Zs_callv hX (List.cons_ne_nil _ _) (k_refuse 5 _ (by decide)) (by first | decide | omega) (by decide) rfl rfl rfl (by decide) (Nat.le_of_ble_eq_true rfl) (fun r_z M' hc_z => ?_)
                obtain ⟨rfl, hsc⟩ := hc_z
                refine Zs_ret hX hE rfl (by rw [Fmove, if_pos hall, show (nI 1).toNatClampNeg = 1 from Zcl_n (by decide), show (nI 2).toNatClampNeg = 2 from Zcl_n (by decide), if_neg hm_z, if_pos h5_z]; exact Zkk_e hg_z hsc)
            · refine Zs_sub (l' := [(7, .ref 49), (6, .ref 47), (0, .ref 0), (2, .int i_z), (4, .int j_z), (5, .int n_z)]) rfl ?_
              exact MISS (Or.inr h4_z)
        · skip
          have eb1 : M 47 1 = g_z.1 1 := (hg_z 1 (by decide)).1
          have eb2 : M 51 1 = g_z.1 3 := (hg_z 3 (by decide)).1
          obtain ⟨-, s1_z, hs1, es1⟩ := hi_z 1 (by decide)
          obtain ⟨-, s2_z, hs2, es2⟩ := hi_z 3 (by decide)
          have ez1 : M 47 2 = nI s1_z := (hg_z 1 (by decide)).2.1.trans es1
          have ez2 : M 51 2 = nI s2_z := (hg_z 3 (by decide)).2.1.trans es2
          refine Zgo hX 3 rfl (by (first | exact True.intro | assumption | (dsimp only [ZallP]; and_intros <;> (first | assumption | decide | omega | ((try simp (disch := omega) only [pk_mul, nI_add, Zcl_n]); exact Zin_n (by omega) (by decide)))))) ?_
          refine Zs_aald hX (List.cons_ne_nil _ _) (by decide) rfl (by decide) (j := _) rfl (by decide) (by decide) rfl ?_
          refine Zgo hX 4 rfl (by (first | exact True.intro | assumption | (dsimp only [ZallP]; and_intros <;> (first | assumption | decide | omega | ((try simp (disch := omega) only [pk_mul, nI_add, Zcl_n]); exact Zin_n (by omega) (by decide)))))) ?_
          refine Zs_aald hX (List.cons_ne_nil _ _) (by decide) rfl (by decide) (j := _) rfl (by decide) (by decide) rfl ?_
          refine Zgo hX 3 rfl (by (first | exact True.intro | assumption | (dsimp only [ZallP]; and_intros <;> (first | assumption | decide | omega | ((try simp (disch := omega) only [pk_mul, nI_add, Zcl_n]); exact Zin_n (by omega) (by decide)))))) ?_
          rw [eb1]
          have MISS : (g_z.1 1 = nI 0 ∨ g_z.1 3 = nI 0) → ZP X Zt28 (Zsf Zt28 52) [(7, .ref 51), (6, .ref 47), (0, .ref 0), (2, .int i_z), (4, .int j_z), (5, .int n_z)] [] M := by
            intro h_z
            refine Zgo hX 2 rfl (by (first | exact True.intro | assumption | (dsimp only [ZallP]; and_intros <;> (first | assumption | decide | omega | ((try simp (disch := omega) only [pk_mul, nI_add, Zcl_n]); exact Zin_n (by omega) (by decide)))))) ?_
            refine Zs_callv hX (List.cons_ne_nil _ _) (k_refuse 2 _ (by decide)) (by first | decide | omega) (by decide) rfl rfl rfl (by decide) (Nat.le_of_ble_eq_true rfl) (fun r_z M' hc_z => ?_)
            obtain ⟨rfl, hsc⟩ := hc_z
            refine Zs_ret hX hE rfl (by rw [Fmove, if_pos hall, show (nI 1).toNatClampNeg = 1 from Zcl_n (by decide), show (nI 3).toNatClampNeg = 3 from Zcl_n (by decide), if_pos h_z]; exact Zkk_e hg_z hsc)
          have BADN : ¬ (g_z.1 1 = nI 0 ∨ g_z.1 3 = nI 0) → ¬ ¬ g_z.1 1 = g_z.1 3 → ¬ (0 ≤ n_z.toInt ∧ 0 ≤ i_z.toInt ∧ 0 ≤ j_z.toInt ∧ i_z.toInt + n_z.toInt ≤ (g_z.2.1 1).toInt ∧ j_z.toInt + n_z.toInt ≤ (g_z.2.1 3).toInt) → ZP X Zt28 (Zsf Zt28 100) [(7, .ref 51), (6, .ref 47), (0, .ref 0), (2, .int i_z), (4, .int j_z), (5, .int n_z)] [] M := by
            intro h_z h2_z h3_z
            refine Zgo hX 2 rfl (by (first | exact True.intro | assumption | (dsimp only [ZallP]; and_intros <;> (first | assumption | decide | omega | ((try simp (disch := omega) only [pk_mul, nI_add, Zcl_n]); exact Zin_n (by omega) (by decide)))))) ?_
            refine Zs_callv hX (List.cons_ne_nil _ _) (k_refuse 1 _ (by decide)) (by first | decide | omega) (by decide) rfl rfl rfl (by decide) (Nat.le_of_ble_eq_true rfl) (fun r_z M' hc_z => ?_)
            obtain ⟨rfl, hsc⟩ := hc_z
            refine Zs_ret hX hE rfl (by rw [Fmove, if_pos hall, show (nI 1).toNatClampNeg = 1 from Zcl_n (by decide), show (nI 3).toNatClampNeg = 3 from Zcl_n (by decide), if_neg h_z, if_neg h2_z, if_neg h3_z]; exact Zkk_e hg_z hsc)
          refine Zs_eq hX (List.cons_ne_nil _ _) (fun h3_z => ?_) (fun h3_z => ?_)
          · refine Zs_sub (l' := [(7, .ref 51), (6, .ref 47), (0, .ref 0), (2, .int i_z), (4, .int j_z), (5, .int n_z)]) rfl ?_
            exact MISS (Or.inl h3_z)
          · refine Zgo hX 2 rfl (by (first | exact True.intro | assumption | (dsimp only [ZallP]; and_intros <;> (first | assumption | decide | omega | ((try simp (disch := omega) only [pk_mul, nI_add, Zcl_n]); exact Zin_n (by omega) (by decide)))))) ?_
            rw [eb2]
            refine Zs_ne hX (List.cons_ne_nil _ _) (fun h4_z => ?_) (fun h4_z => ?_)
            · have hm_z : ¬ (g_z.1 1 = nI 0 ∨ g_z.1 3 = nI 0) := fun q_z => q_z.elim h3_z h4_z
              refine Zgo hX 4 rfl (by (first | exact True.intro | assumption | (dsimp only [ZallP]; and_intros <;> (first | assumption | decide | omega | ((try simp (disch := omega) only [pk_mul, nI_add, Zcl_n]); exact Zin_n (by omega) (by decide)))))) ?_
              rw [eb1, eb2]
              refine Zs_ieq hX (List.cons_ne_nil _ _) (fun h5_z => ?_) (fun h5_z => ?_)
              · refine Zgo hX 3 rfl (by (first | exact True.intro | assumption | (dsimp only [ZallP]; and_intros <;> (first | assumption | decide | omega | ((try simp (disch := omega) only [pk_mul, nI_add, Zcl_n]); exact Zin_n (by omega) (by decide)))))) ?_
                refine Zs_callv hX (List.cons_ne_nil _ _) (k_has1 i_z n_z s1_z _ ez1 hs1) (by first | decide | omega) (by decide) rfl rfl rfl (by decide) (Nat.le_of_ble_eq_true rfl) (fun r_z M' hc_z => ?_)
                rcases hc_z with ⟨⟨rfl, h6_z⟩ | ⟨rfl, h6_z⟩, rfl⟩
                · refine Zs_eq hX (List.cons_ne_nil _ _) (fun q_z => False.elim (by revert q_z; decide)) (fun _ => ?_)
                  refine Zgo hX 3 rfl (by (first | exact True.intro | assumption | (dsimp only [ZallP]; and_intros <;> (first | assumption | decide | omega | ((try simp (disch := omega) only [pk_mul, nI_add, Zcl_n]); exact Zin_n (by omega) (by decide)))))) ?_
                  refine Zs_callv hX (List.cons_ne_nil _ _) (k_has3 j_z n_z s2_z _ ez2 hs2) (by first | decide | omega) (by decide) rfl rfl rfl (by decide) (Nat.le_of_ble_eq_true rfl) (fun r_z M' hc_z => ?_)
                  rcases hc_z with ⟨⟨rfl, h7_z⟩ | ⟨rfl, h7_z⟩, rfl⟩
                  · refine Zs_ne hX (List.cons_ne_nil _ _) (fun _ => ?_) (fun q_z => False.elim (by revert q_z; decide))
                    obtain ⟨a_z, c_z, rfl, rfl, hac, ha_z, hc_z⟩ := Zfit_i hs1 h6_z.1 h6_z.2.1 h6_z.2.2
                    obtain ⟨a2_z, c2, rfl, ec, hac2, ha2, hc2⟩ := Zfit_i hs2 h7_z.1 h7_z.2.1 h7_z.2.2
                    obtain rfl : c_z = c2 := Zeq hc_z hc2 ec
                    have hC : 0 ≤ (nI c_z).toInt ∧ 0 ≤ (nI a_z).toInt ∧ 0 ≤ (nI a2_z).toInt ∧ (nI a_z).toInt + (nI c_z).toInt ≤ (g_z.2.1 1).toInt ∧ (nI a2_z).toInt + (nI c_z).toInt ≤ (g_z.2.1 3).toInt := ⟨h6_z.2.1, h6_z.1, h7_z.1, by rw [es1]; exact h6_z.2.2, by rw [es2]; exact h7_z.2.2⟩
                    have n0_z : ∀ k_z : Nat, k_z < 2 ^ 31 → ¬ nI k_z < 0 := fun k_z hk_z => Zn_nlt0 hk_z
                    refine Zgo hX 7 rfl (by (first | exact True.intro | assumption | (dsimp only [ZallP]; and_intros <;> (first | assumption | decide | omega | ((try simp (disch := omega) only [pk_mul, nI_add, Zcl_n]); exact Zin_n (by omega) (by decide)))))) ?_
                    refine Zs_copy hX (List.cons_ne_nil _ _) (by decide) (by decide) (by decide) (Or.inl rfl) rfl rfl (n0_z a_z ha_z) (n0_z a2_z ha2) (n0_z c_z hc_z) (by rw [Zcl_n ha_z, Zcl_n hc_z]; omega) (by rw [Zcl_n ha2, Zcl_n hc_z]; omega) (fun q_z => absurd q_z (by decide)) (by decide) ?_
                    rw [Zcl_n ha_z, Zcl_n ha2, Zcl_n hc_z]
                    refine Zgo hX 1 rfl (by (first | exact True.intro | assumption | (dsimp only [ZallP]; and_intros <;> (first | assumption | decide | omega | ((try simp (disch := omega) only [pk_mul, nI_add, Zcl_n]); exact Zin_n (by omega) (by decide)))))) ?_
                    refine Zs_ret hX hE rfl (by rw [Fmove, if_pos hall, show (nI 1).toNatClampNeg = 1 from Zcl_n (by decide), show (nI 3).toNatClampNeg = 3 from Zcl_n (by decide), if_neg hm_z, if_neg (fun q_z => q_z h5_z), if_pos hC, Zcl_n ha_z, Zcl_n ha2, Zcl_n hc_z]; exact ⟨rfl, hg_z.mv (t1 := 1) (t2 := 3) (by decide) (by decide) (by omega) (by omega), Zmv_hg M (by decide) _⟩)
                  · refine Zs_ne hX (List.cons_ne_nil _ _) (fun q_z => False.elim (by revert q_z; decide)) (fun _ => ?_)
                    refine Zs_sub (l' := [(7, .ref 51), (6, .ref 47), (0, .ref 0), (2, .int i_z), (4, .int j_z), (5, .int n_z)]) rfl ?_
                    exact BADN hm_z (fun q_z => q_z h5_z) (fun q_z => h7_z ⟨q_z.2.2.1, q_z.1, by rw [← es2]; exact q_z.2.2.2.2⟩)
                · refine Zs_eq hX (List.cons_ne_nil _ _) (fun _ => ?_) (fun q_z => False.elim (by revert q_z; decide))
                  refine Zs_sub (l' := [(7, .ref 51), (6, .ref 47), (0, .ref 0), (2, .int i_z), (4, .int j_z), (5, .int n_z)]) rfl ?_
                  exact BADN hm_z (fun q_z => q_z h5_z) (fun q_z => h6_z ⟨q_z.2.1, q_z.1, by rw [← es1]; exact q_z.2.2.2.1⟩)
              · skip
                refine Zgo hX 2 rfl (by (first | exact True.intro | assumption | (dsimp only [ZallP]; and_intros <;> (first | assumption | decide | omega | ((try simp (disch := omega) only [pk_mul, nI_add, Zcl_n]); exact Zin_n (by omega) (by decide)))))) ?_
                refine Zs_callv hX (List.cons_ne_nil _ _) (k_refuse 5 _ (by decide)) (by first | decide | omega) (by decide) rfl rfl rfl (by decide) (Nat.le_of_ble_eq_true rfl) (fun r_z M' hc_z => ?_)
                obtain ⟨rfl, hsc⟩ := hc_z
                refine Zs_ret hX hE rfl (by rw [Fmove, if_pos hall, show (nI 1).toNatClampNeg = 1 from Zcl_n (by decide), show (nI 3).toNatClampNeg = 3 from Zcl_n (by decide), if_neg hm_z, if_pos h5_z]; exact Zkk_e hg_z hsc)
            · refine Zs_sub (l' := [(7, .ref 51), (6, .ref 47), (0, .ref 0), (2, .int i_z), (4, .int j_z), (5, .int n_z)]) rfl ?_
              exact MISS (Or.inr h4_z)
      · skip
        rcases (show t' = 0 ∨ t' = 1 ∨ t' = 2 ∨ t' = 3 by omega) with rfl | rfl | rfl | rfl
        · skip
          have eb1 : M 49 1 = g_z.1 2 := (hg_z 2 (by decide)).1
          have eb2 : M 45 1 = g_z.1 0 := (hg_z 0 (by decide)).1
          obtain ⟨-, s1_z, hs1, es1⟩ := hi_z 2 (by decide)
          obtain ⟨-, s2_z, hs2, es2⟩ := hi_z 0 (by decide)
          have ez1 : M 49 2 = nI s1_z := (hg_z 2 (by decide)).2.1.trans es1
          have ez2 : M 45 2 = nI s2_z := (hg_z 0 (by decide)).2.1.trans es2
          refine Zgo hX 3 rfl (by (first | exact True.intro | assumption | (dsimp only [ZallP]; and_intros <;> (first | assumption | decide | omega | ((try simp (disch := omega) only [pk_mul, nI_add, Zcl_n]); exact Zin_n (by omega) (by decide)))))) ?_
          refine Zs_aald hX (List.cons_ne_nil _ _) (by decide) rfl (by decide) (j := _) rfl (by decide) (by decide) rfl ?_
          refine Zgo hX 4 rfl (by (first | exact True.intro | assumption | (dsimp only [ZallP]; and_intros <;> (first | assumption | decide | omega | ((try simp (disch := omega) only [pk_mul, nI_add, Zcl_n]); exact Zin_n (by omega) (by decide)))))) ?_
          refine Zs_aald hX (List.cons_ne_nil _ _) (by decide) rfl (by decide) (j := _) rfl (by decide) (by decide) rfl ?_
          refine Zgo hX 3 rfl (by (first | exact True.intro | assumption | (dsimp only [ZallP]; and_intros <;> (first | assumption | decide | omega | ((try simp (disch := omega) only [pk_mul, nI_add, Zcl_n]); exact Zin_n (by omega) (by decide)))))) ?_
          rw [eb1]
          have MISS : (g_z.1 2 = nI 0 ∨ g_z.1 0 = nI 0) → ZP X Zt28 (Zsf Zt28 52) [(7, .ref 45), (6, .ref 49), (0, .ref 0), (2, .int i_z), (4, .int j_z), (5, .int n_z)] [] M := by
            intro h_z
            refine Zgo hX 2 rfl (by (first | exact True.intro | assumption | (dsimp only [ZallP]; and_intros <;> (first | assumption | decide | omega | ((try simp (disch := omega) only [pk_mul, nI_add, Zcl_n]); exact Zin_n (by omega) (by decide)))))) ?_
            refine Zs_callv hX (List.cons_ne_nil _ _) (k_refuse 2 _ (by decide)) (by first | decide | omega) (by decide) rfl rfl rfl (by decide) (Nat.le_of_ble_eq_true rfl) (fun r_z M' hc_z => ?_)
            obtain ⟨rfl, hsc⟩ := hc_z
            refine Zs_ret hX hE rfl (by rw [Fmove, if_pos hall, show (nI 2).toNatClampNeg = 2 from Zcl_n (by decide), show (nI 0).toNatClampNeg = 0 from Zcl_n (by decide), if_pos h_z]; exact Zkk_e hg_z hsc)
          have BADN : ¬ (g_z.1 2 = nI 0 ∨ g_z.1 0 = nI 0) → ¬ ¬ g_z.1 2 = g_z.1 0 → ¬ (0 ≤ n_z.toInt ∧ 0 ≤ i_z.toInt ∧ 0 ≤ j_z.toInt ∧ i_z.toInt + n_z.toInt ≤ (g_z.2.1 2).toInt ∧ j_z.toInt + n_z.toInt ≤ (g_z.2.1 0).toInt) → ZP X Zt28 (Zsf Zt28 100) [(7, .ref 45), (6, .ref 49), (0, .ref 0), (2, .int i_z), (4, .int j_z), (5, .int n_z)] [] M := by
            intro h_z h2_z h3_z
            refine Zgo hX 2 rfl (by (first | exact True.intro | assumption | (dsimp only [ZallP]; and_intros <;> (first | assumption | decide | omega | ((try simp (disch := omega) only [pk_mul, nI_add, Zcl_n]); exact Zin_n (by omega) (by decide)))))) ?_
            refine Zs_callv hX (List.cons_ne_nil _ _) (k_refuse 1 _ (by decide)) (by first | decide | omega) (by decide) rfl rfl rfl (by decide) (Nat.le_of_ble_eq_true rfl) (fun r_z M' hc_z => ?_)
            obtain ⟨rfl, hsc⟩ := hc_z
            refine Zs_ret hX hE rfl (by rw [Fmove, if_pos hall, show (nI 2).toNatClampNeg = 2 from Zcl_n (by decide), show (nI 0).toNatClampNeg = 0 from Zcl_n (by decide), if_neg h_z, if_neg h2_z, if_neg h3_z]; exact Zkk_e hg_z hsc)
          refine Zs_eq hX (List.cons_ne_nil _ _) (fun h3_z => ?_) (fun h3_z => ?_)
          · refine Zs_sub (l' := [(7, .ref 45), (6, .ref 49), (0, .ref 0), (2, .int i_z), (4, .int j_z), (5, .int n_z)]) rfl ?_
            exact MISS (Or.inl h3_z)
          · refine Zgo hX 2 rfl (by (first | exact True.intro | assumption | (dsimp only [ZallP]; and_intros <;> (first | assumption | decide | omega | ((try simp (disch := omega) only [pk_mul, nI_add, Zcl_n]); exact Zin_n (by omega) (by decide)))))) ?_
            rw [eb2]
            refine Zs_ne hX (List.cons_ne_nil _ _) (fun h4_z => ?_) (fun h4_z => ?_)
            · have hm_z : ¬ (g_z.1 2 = nI 0 ∨ g_z.1 0 = nI 0) := fun q_z => q_z.elim h3_z h4_z
              refine Zgo hX 4 rfl (by (first | exact True.intro | assumption | (dsimp only [ZallP]; and_intros <;> (first | assumption | decide | omega | ((try simp (disch := omega) only [pk_mul, nI_add, Zcl_n]); exact Zin_n (by omega) (by decide)))))) ?_
              rw [eb1, eb2]
              refine Zs_ieq hX (List.cons_ne_nil _ _) (fun h5_z => ?_) (fun h5_z => ?_)
              · refine Zgo hX 3 rfl (by (first | exact True.intro | assumption | (dsimp only [ZallP]; and_intros <;> (first | assumption | decide | omega | ((try simp (disch := omega) only [pk_mul, nI_add, Zcl_n]); exact Zin_n (by omega) (by decide)))))) ?_
                refine Zs_callv hX (List.cons_ne_nil _ _) (k_has2 i_z n_z s1_z _ ez1 hs1) (by first | decide | omega) (by decide) rfl rfl rfl (by decide) (Nat.le_of_ble_eq_true rfl) (fun r_z M' hc_z => ?_)
                rcases hc_z with ⟨⟨rfl, h6_z⟩ | ⟨rfl, h6_z⟩, rfl⟩
                · refine Zs_eq hX (List.cons_ne_nil _ _) (fun q_z => False.elim (by revert q_z; decide)) (fun _ => ?_)
                  refine Zgo hX 3 rfl (by (first | exact True.intro | assumption | (dsimp only [ZallP]; and_intros <;> (first | assumption | decide | omega | ((try simp (disch := omega) only [pk_mul, nI_add, Zcl_n]); exact Zin_n (by omega) (by decide)))))) ?_
                  refine Zs_callv hX (List.cons_ne_nil _ _) (k_has0 j_z n_z s2_z _ ez2 hs2) (by first | decide | omega) (by decide) rfl rfl rfl (by decide) (Nat.le_of_ble_eq_true rfl) (fun r_z M' hc_z => ?_)
                  rcases hc_z with ⟨⟨rfl, h7_z⟩ | ⟨rfl, h7_z⟩, rfl⟩
                  · refine Zs_ne hX (List.cons_ne_nil _ _) (fun _ => ?_) (fun q_z => False.elim (by revert q_z; decide))
                    obtain ⟨a_z, c_z, rfl, rfl, hac, ha_z, hc_z⟩ := Zfit_i hs1 h6_z.1 h6_z.2.1 h6_z.2.2
                    obtain ⟨a2_z, c2, rfl, ec, hac2, ha2, hc2⟩ := Zfit_i hs2 h7_z.1 h7_z.2.1 h7_z.2.2
                    obtain rfl : c_z = c2 := Zeq hc_z hc2 ec
                    have hC : 0 ≤ (nI c_z).toInt ∧ 0 ≤ (nI a_z).toInt ∧ 0 ≤ (nI a2_z).toInt ∧ (nI a_z).toInt + (nI c_z).toInt ≤ (g_z.2.1 2).toInt ∧ (nI a2_z).toInt + (nI c_z).toInt ≤ (g_z.2.1 0).toInt := ⟨h6_z.2.1, h6_z.1, h7_z.1, by rw [es1]; exact h6_z.2.2, by rw [es2]; exact h7_z.2.2⟩
                    have n0_z : ∀ k_z : Nat, k_z < 2 ^ 31 → ¬ nI k_z < 0 := fun k_z hk_z => Zn_nlt0 hk_z
                    refine Zgo hX 7 rfl (by (first | exact True.intro | assumption | (dsimp only [ZallP]; and_intros <;> (first | assumption | decide | omega | ((try simp (disch := omega) only [pk_mul, nI_add, Zcl_n]); exact Zin_n (by omega) (by decide)))))) ?_
                    refine Zs_copy hX (List.cons_ne_nil _ _) (by decide) (by decide) (by decide) (Or.inl rfl) rfl rfl (n0_z a_z ha_z) (n0_z a2_z ha2) (n0_z c_z hc_z) (by rw [Zcl_n ha_z, Zcl_n hc_z]; omega) (by rw [Zcl_n ha2, Zcl_n hc_z]; omega) (fun q_z => absurd q_z (by decide)) (by decide) ?_
                    rw [Zcl_n ha_z, Zcl_n ha2, Zcl_n hc_z]
                    refine Zgo hX 1 rfl (by (first | exact True.intro | assumption | (dsimp only [ZallP]; and_intros <;> (first | assumption | decide | omega | ((try simp (disch := omega) only [pk_mul, nI_add, Zcl_n]); exact Zin_n (by omega) (by decide)))))) ?_
                    refine Zs_ret hX hE rfl (by rw [Fmove, if_pos hall, show (nI 2).toNatClampNeg = 2 from Zcl_n (by decide), show (nI 0).toNatClampNeg = 0 from Zcl_n (by decide), if_neg hm_z, if_neg (fun q_z => q_z h5_z), if_pos hC, Zcl_n ha_z, Zcl_n ha2, Zcl_n hc_z]; exact ⟨rfl, hg_z.mv (t1 := 2) (t2 := 0) (by decide) (by decide) (by omega) (by omega), Zmv_hg M (by decide) _⟩)
                  · refine Zs_ne hX (List.cons_ne_nil _ _) (fun q_z => False.elim (by revert q_z; decide)) (fun _ => ?_)
                    refine Zs_sub (l' := [(7, .ref 45), (6, .ref 49), (0, .ref 0), (2, .int i_z), (4, .int j_z), (5, .int n_z)]) rfl ?_
                    exact BADN hm_z (fun q_z => q_z h5_z) (fun q_z => h7_z ⟨q_z.2.2.1, q_z.1, by rw [← es2]; exact q_z.2.2.2.2⟩)
                · refine Zs_eq hX (List.cons_ne_nil _ _) (fun _ => ?_) (fun q_z => False.elim (by revert q_z; decide))
                  refine Zs_sub (l' := [(7, .ref 45), (6, .ref 49), (0, .ref 0), (2, .int i_z), (4, .int j_z), (5, .int n_z)]) rfl ?_
                  exact BADN hm_z (fun q_z => q_z h5_z) (fun q_z => h6_z ⟨q_z.2.1, q_z.1, by rw [← es1]; exact q_z.2.2.2.1⟩)
              · skip
                refine Zgo hX 2 rfl (by (first | exact True.intro | assumption | (dsimp only [ZallP]; and_intros <;> (first | assumption | decide | omega | ((try simp (disch := omega) only [pk_mul, nI_add, Zcl_n]); exact Zin_n (by omega) (by decide)))))) ?_
                refine Zs_callv hX (List.cons_ne_nil _ _) (k_refuse 5 _ (by decide)) (by first | decide | omega) (by decide) rfl rfl rfl (by decide) (Nat.le_of_ble_eq_true rfl) (fun r_z M' hc_z => ?_)
                obtain ⟨rfl, hsc⟩ := hc_z
                refine Zs_ret hX hE rfl (by rw [Fmove, if_pos hall, show (nI 2).toNatClampNeg = 2 from Zcl_n (by decide), show (nI 0).toNatClampNeg = 0 from Zcl_n (by decide), if_neg hm_z, if_pos h5_z]; exact Zkk_e hg_z hsc)
            · refine Zs_sub (l' := [(7, .ref 45), (6, .ref 49), (0, .ref 0), (2, .int i_z), (4, .int j_z), (5, .int n_z)]) rfl ?_
              exact MISS (Or.inr h4_z)
        · skip
          have eb1 : M 49 1 = g_z.1 2 := (hg_z 2 (by decide)).1
          have eb2 : M 47 1 = g_z.1 1 := (hg_z 1 (by decide)).1
          obtain ⟨-, s1_z, hs1, es1⟩ := hi_z 2 (by decide)
          obtain ⟨-, s2_z, hs2, es2⟩ := hi_z 1 (by decide)
          have ez1 : M 49 2 = nI s1_z := (hg_z 2 (by decide)).2.1.trans es1
          have ez2 : M 47 2 = nI s2_z := (hg_z 1 (by decide)).2.1.trans es2
          refine Zgo hX 3 rfl (by (first | exact True.intro | assumption | (dsimp only [ZallP]; and_intros <;> (first | assumption | decide | omega | ((try simp (disch := omega) only [pk_mul, nI_add, Zcl_n]); exact Zin_n (by omega) (by decide)))))) ?_
          refine Zs_aald hX (List.cons_ne_nil _ _) (by decide) rfl (by decide) (j := _) rfl (by decide) (by decide) rfl ?_
          refine Zgo hX 4 rfl (by (first | exact True.intro | assumption | (dsimp only [ZallP]; and_intros <;> (first | assumption | decide | omega | ((try simp (disch := omega) only [pk_mul, nI_add, Zcl_n]); exact Zin_n (by omega) (by decide)))))) ?_
          refine Zs_aald hX (List.cons_ne_nil _ _) (by decide) rfl (by decide) (j := _) rfl (by decide) (by decide) rfl ?_
          refine Zgo hX 3 rfl (by (first | exact True.intro | assumption | (dsimp only [ZallP]; and_intros <;> (first | assumption | decide | omega | ((try simp (disch := omega) only [pk_mul, nI_add, Zcl_n]); exact Zin_n (by omega) (by decide)))))) ?_
          rw [eb1]
          have MISS : (g_z.1 2 = nI 0 ∨ g_z.1 1 = nI 0) → ZP X Zt28 (Zsf Zt28 52) [(7, .ref 47), (6, .ref 49), (0, .ref 0), (2, .int i_z), (4, .int j_z), (5, .int n_z)] [] M := by
            intro h_z
            refine Zgo hX 2 rfl (by (first | exact True.intro | assumption | (dsimp only [ZallP]; and_intros <;> (first | assumption | decide | omega | ((try simp (disch := omega) only [pk_mul, nI_add, Zcl_n]); exact Zin_n (by omega) (by decide)))))) ?_
            refine Zs_callv hX (List.cons_ne_nil _ _) (k_refuse 2 _ (by decide)) (by first | decide | omega) (by decide) rfl rfl rfl (by decide) (Nat.le_of_ble_eq_true rfl) (fun r_z M' hc_z => ?_)
            obtain ⟨rfl, hsc⟩ := hc_z
            refine Zs_ret hX hE rfl (by rw [Fmove, if_pos hall, show (nI 2).toNatClampNeg = 2 from Zcl_n (by decide), show (nI 1).toNatClampNeg = 1 from Zcl_n (by decide), if_pos h_z]; exact Zkk_e hg_z hsc)
          have BADN : ¬ (g_z.1 2 = nI 0 ∨ g_z.1 1 = nI 0) → ¬ ¬ g_z.1 2 = g_z.1 1 → ¬ (0 ≤ n_z.toInt ∧ 0 ≤ i_z.toInt ∧ 0 ≤ j_z.toInt ∧ i_z.toInt + n_z.toInt ≤ (g_z.2.1 2).toInt ∧ j_z.toInt + n_z.toInt ≤ (g_z.2.1 1).toInt) → ZP X Zt28 (Zsf Zt28 100) [(7, .ref 47), (6, .ref 49), (0, .ref 0), (2, .int i_z), (4, .int j_z), (5, .int n_z)] [] M := by
            intro h_z h2_z h3_z
            refine Zgo hX 2 rfl (by (first | exact True.intro | assumption | (dsimp only [ZallP]; and_intros <;> (first | assumption | decide | omega | ((try simp (disch := omega) only [pk_mul, nI_add, Zcl_n]); exact Zin_n (by omega) (by decide)))))) ?_
            refine Zs_callv hX (List.cons_ne_nil _ _) (k_refuse 1 _ (by decide)) (by first | decide | omega) (by decide) rfl rfl rfl (by decide) (Nat.le_of_ble_eq_true rfl) (fun r_z M' hc_z => ?_)
            obtain ⟨rfl, hsc⟩ := hc_z
            refine Zs_ret hX hE rfl (by rw [Fmove, if_pos hall, show (nI 2).toNatClampNeg = 2 from Zcl_n (by decide), show (nI 1).toNatClampNeg = 1 from Zcl_n (by decide), if_neg h_z, if_neg h2_z, if_neg h3_z]; exact Zkk_e hg_z hsc)
          refine Zs_eq hX (List.cons_ne_nil _ _) (fun h3_z => ?_) (fun h3_z => ?_)
          · refine Zs_sub (l' := [(7, .ref 47), (6, .ref 49), (0, .ref 0), (2, .int i_z), (4, .int j_z), (5, .int n_z)]) rfl ?_
            exact MISS (Or.inl h3_z)
          · refine Zgo hX 2 rfl (by (first | exact True.intro | assumption | (dsimp only [ZallP]; and_intros <;> (first | assumption | decide | omega | ((try simp (disch := omega) only [pk_mul, nI_add, Zcl_n]); exact Zin_n (by omega) (by decide)))))) ?_
            rw [eb2]
            refine Zs_ne hX (List.cons_ne_nil _ _) (fun h4_z => ?_) (fun h4_z => ?_)
            · have hm_z : ¬ (g_z.1 2 = nI 0 ∨ g_z.1 1 = nI 0) := fun q_z => q_z.elim h3_z h4_z
              refine Zgo hX 4 rfl (by (first | exact True.intro | assumption | (dsimp only [ZallP]; and_intros <;> (first | assumption | decide | omega | ((try simp (disch := omega) only [pk_mul, nI_add, Zcl_n]); exact Zin_n (by omega) (by decide)))))) ?_
              rw [eb1, eb2]
              refine Zs_ieq hX (List.cons_ne_nil _ _) (fun h5_z => ?_) (fun h5_z => ?_)
              · refine Zgo hX 3 rfl (by (first | exact True.intro | assumption | (dsimp only [ZallP]; and_intros <;> (first | assumption | decide | omega | ((try simp (disch := omega) only [pk_mul, nI_add, Zcl_n]); exact Zin_n (by omega) (by decide)))))) ?_
                refine Zs_callv hX (List.cons_ne_nil _ _) (k_has2 i_z n_z s1_z _ ez1 hs1) (by first | decide | omega) (by decide) rfl rfl rfl (by decide) (Nat.le_of_ble_eq_true rfl) (fun r_z M' hc_z => ?_)
                rcases hc_z with ⟨⟨rfl, h6_z⟩ | ⟨rfl, h6_z⟩, rfl⟩
                · refine Zs_eq hX (List.cons_ne_nil _ _) (fun q_z => False.elim (by revert q_z; decide)) (fun _ => ?_)
                  refine Zgo hX 3 rfl (by (first | exact True.intro | assumption | (dsimp only [ZallP]; and_intros <;> (first | assumption | decide | omega | ((try simp (disch := omega) only [pk_mul, nI_add, Zcl_n]); exact Zin_n (by omega) (by decide)))))) ?_
                  refine Zs_callv hX (List.cons_ne_nil _ _) (k_has1 j_z n_z s2_z _ ez2 hs2) (by first | decide | omega) (by decide) rfl rfl rfl (by decide) (Nat.le_of_ble_eq_true rfl) (fun r_z M' hc_z => ?_)
                  rcases hc_z with ⟨⟨rfl, h7_z⟩ | ⟨rfl, h7_z⟩, rfl⟩
                  · refine Zs_ne hX (List.cons_ne_nil _ _) (fun _ => ?_) (fun q_z => False.elim (by revert q_z; decide))
                    obtain ⟨a_z, c_z, rfl, rfl, hac, ha_z, hc_z⟩ := Zfit_i hs1 h6_z.1 h6_z.2.1 h6_z.2.2
                    obtain ⟨a2_z, c2, rfl, ec, hac2, ha2, hc2⟩ := Zfit_i hs2 h7_z.1 h7_z.2.1 h7_z.2.2
                    obtain rfl : c_z = c2 := Zeq hc_z hc2 ec
                    have hC : 0 ≤ (nI c_z).toInt ∧ 0 ≤ (nI a_z).toInt ∧ 0 ≤ (nI a2_z).toInt ∧ (nI a_z).toInt + (nI c_z).toInt ≤ (g_z.2.1 2).toInt ∧ (nI a2_z).toInt + (nI c_z).toInt ≤ (g_z.2.1 1).toInt := ⟨h6_z.2.1, h6_z.1, h7_z.1, by rw [es1]; exact h6_z.2.2, by rw [es2]; exact h7_z.2.2⟩
                    have n0_z : ∀ k_z : Nat, k_z < 2 ^ 31 → ¬ nI k_z < 0 := fun k_z hk_z => Zn_nlt0 hk_z
                    refine Zgo hX 7 rfl (by (first | exact True.intro | assumption | (dsimp only [ZallP]; and_intros <;> (first | assumption | decide | omega | ((try simp (disch := omega) only [pk_mul, nI_add, Zcl_n]); exact Zin_n (by omega) (by decide)))))) ?_
                    refine Zs_copy hX (List.cons_ne_nil _ _) (by decide) (by decide) (by decide) (Or.inl rfl) rfl rfl (n0_z a_z ha_z) (n0_z a2_z ha2) (n0_z c_z hc_z) (by rw [Zcl_n ha_z, Zcl_n hc_z]; omega) (by rw [Zcl_n ha2, Zcl_n hc_z]; omega) (fun q_z => absurd q_z (by decide)) (by decide) ?_
                    rw [Zcl_n ha_z, Zcl_n ha2, Zcl_n hc_z]
                    refine Zgo hX 1 rfl (by (first | exact True.intro | assumption | (dsimp only [ZallP]; and_intros <;> (first | assumption | decide | omega | ((try simp (disch := omega) only [pk_mul, nI_add, Zcl_n]); exact Zin_n (by omega) (by decide)))))) ?_
                    refine Zs_ret hX hE rfl (by rw [Fmove, if_pos hall, show (nI 2).toNatClampNeg = 2 from Zcl_n (by decide), show (nI 1).toNatClampNeg = 1 from Zcl_n (by decide), if_neg hm_z, if_neg (fun q_z => q_z h5_z), if_pos hC, Zcl_n ha_z, Zcl_n ha2, Zcl_n hc_z]; exact ⟨rfl, hg_z.mv (t1 := 2) (t2 := 1) (by decide) (by decide) (by omega) (by omega), Zmv_hg M (by decide) _⟩)
                  · refine Zs_ne hX (List.cons_ne_nil _ _) (fun q_z => False.elim (by revert q_z; decide)) (fun _ => ?_)
                    refine Zs_sub (l' := [(7, .ref 47), (6, .ref 49), (0, .ref 0), (2, .int i_z), (4, .int j_z), (5, .int n_z)]) rfl ?_
                    exact BADN hm_z (fun q_z => q_z h5_z) (fun q_z => h7_z ⟨q_z.2.2.1, q_z.1, by rw [← es2]; exact q_z.2.2.2.2⟩)
                · refine Zs_eq hX (List.cons_ne_nil _ _) (fun _ => ?_) (fun q_z => False.elim (by revert q_z; decide))
                  refine Zs_sub (l' := [(7, .ref 47), (6, .ref 49), (0, .ref 0), (2, .int i_z), (4, .int j_z), (5, .int n_z)]) rfl ?_
                  exact BADN hm_z (fun q_z => q_z h5_z) (fun q_z => h6_z ⟨q_z.2.1, q_z.1, by rw [← es1]; exact q_z.2.2.2.1⟩)
              · skip
                refine Zgo hX 2 rfl (by (first | exact True.intro | assumption | (dsimp only [ZallP]; and_intros <;> (first | assumption | decide | omega | ((try simp (disch := omega) only [pk_mul, nI_add, Zcl_n]); exact Zin_n (by omega) (by decide)))))) ?_
                refine Zs_callv hX (List.cons_ne_nil _ _) (k_refuse 5 _ (by decide)) (by first | decide | omega) (by decide) rfl rfl rfl (by decide) (Nat.le_of_ble_eq_true rfl) (fun r_z M' hc_z => ?_)
                obtain ⟨rfl, hsc⟩ := hc_z
                refine Zs_ret hX hE rfl (by rw [Fmove, if_pos hall, show (nI 2).toNatClampNeg = 2 from Zcl_n (by decide), show (nI 1).toNatClampNeg = 1 from Zcl_n (by decide), if_neg hm_z, if_pos h5_z]; exact Zkk_e hg_z hsc)
            · refine Zs_sub (l' := [(7, .ref 47), (6, .ref 49), (0, .ref 0), (2, .int i_z), (4, .int j_z), (5, .int n_z)]) rfl ?_
              exact MISS (Or.inr h4_z)
        · skip
          have eb1 : M 49 1 = g_z.1 2 := (hg_z 2 (by decide)).1
          have eb2 : M 49 1 = g_z.1 2 := (hg_z 2 (by decide)).1
          obtain ⟨-, s1_z, hs1, es1⟩ := hi_z 2 (by decide)
          obtain ⟨-, s2_z, hs2, es2⟩ := hi_z 2 (by decide)
          have ez1 : M 49 2 = nI s1_z := (hg_z 2 (by decide)).2.1.trans es1
          have ez2 : M 49 2 = nI s2_z := (hg_z 2 (by decide)).2.1.trans es2
          refine Zgo hX 3 rfl (by (first | exact True.intro | assumption | (dsimp only [ZallP]; and_intros <;> (first | assumption | decide | omega | ((try simp (disch := omega) only [pk_mul, nI_add, Zcl_n]); exact Zin_n (by omega) (by decide)))))) ?_
          refine Zs_aald hX (List.cons_ne_nil _ _) (by decide) rfl (by decide) (j := _) rfl (by decide) (by decide) rfl ?_
          refine Zgo hX 4 rfl (by (first | exact True.intro | assumption | (dsimp only [ZallP]; and_intros <;> (first | assumption | decide | omega | ((try simp (disch := omega) only [pk_mul, nI_add, Zcl_n]); exact Zin_n (by omega) (by decide)))))) ?_
          refine Zs_aald hX (List.cons_ne_nil _ _) (by decide) rfl (by decide) (j := _) rfl (by decide) (by decide) rfl ?_
          refine Zgo hX 3 rfl (by (first | exact True.intro | assumption | (dsimp only [ZallP]; and_intros <;> (first | assumption | decide | omega | ((try simp (disch := omega) only [pk_mul, nI_add, Zcl_n]); exact Zin_n (by omega) (by decide)))))) ?_
          rw [eb1]
          have MISS : (g_z.1 2 = nI 0 ∨ g_z.1 2 = nI 0) → ZP X Zt28 (Zsf Zt28 52) [(7, .ref 49), (6, .ref 49), (0, .ref 0), (2, .int i_z), (4, .int j_z), (5, .int n_z)] [] M := by
            intro h_z
            refine Zgo hX 2 rfl (by (first | exact True.intro | assumption | (dsimp only [ZallP]; and_intros <;> (first | assumption | decide | omega | ((try simp (disch := omega) only [pk_mul, nI_add, Zcl_n]); exact Zin_n (by omega) (by decide)))))) ?_
            refine Zs_callv hX (List.cons_ne_nil _ _) (k_refuse 2 _ (by decide)) (by first | decide | omega) (by decide) rfl rfl rfl (by decide) (Nat.le_of_ble_eq_true rfl) (fun r_z M' hc_z => ?_)
            obtain ⟨rfl, hsc⟩ := hc_z
            refine Zs_ret hX hE rfl (by rw [Fmove, if_pos hall, show (nI 2).toNatClampNeg = 2 from Zcl_n (by decide), if_pos h_z]; exact Zkk_e hg_z hsc)
          have BADN : ¬ (g_z.1 2 = nI 0 ∨ g_z.1 2 = nI 0) → ¬ ¬ g_z.1 2 = g_z.1 2 → ¬ (0 ≤ n_z.toInt ∧ 0 ≤ i_z.toInt ∧ 0 ≤ j_z.toInt ∧ i_z.toInt + n_z.toInt ≤ (g_z.2.1 2).toInt ∧ j_z.toInt + n_z.toInt ≤ (g_z.2.1 2).toInt) → ZP X Zt28 (Zsf Zt28 100) [(7, .ref 49), (6, .ref 49), (0, .ref 0), (2, .int i_z), (4, .int j_z), (5, .int n_z)] [] M := by
            intro h_z h2_z h3_z
            refine Zgo hX 2 rfl (by (first | exact True.intro | assumption | (dsimp only [ZallP]; and_intros <;> (first | assumption | decide | omega | ((try simp (disch := omega) only [pk_mul, nI_add, Zcl_n]); exact Zin_n (by omega) (by decide)))))) ?_
            refine Zs_callv hX (List.cons_ne_nil _ _) (k_refuse 1 _ (by decide)) (by first | decide | omega) (by decide) rfl rfl rfl (by decide) (Nat.le_of_ble_eq_true rfl) (fun r_z M' hc_z => ?_)
            obtain ⟨rfl, hsc⟩ := hc_z
            refine Zs_ret hX hE rfl (by rw [Fmove, if_pos hall, show (nI 2).toNatClampNeg = 2 from Zcl_n (by decide), if_neg h_z, if_neg h2_z, if_neg h3_z]; exact Zkk_e hg_z hsc)
          refine Zs_eq hX (List.cons_ne_nil _ _) (fun h3_z => ?_) (fun h3_z => ?_)
          · refine Zs_sub (l' := [(7, .ref 49), (6, .ref 49), (0, .ref 0), (2, .int i_z), (4, .int j_z), (5, .int n_z)]) rfl ?_
            exact MISS (Or.inl h3_z)
          · refine Zgo hX 2 rfl (by (first | exact True.intro | assumption | (dsimp only [ZallP]; and_intros <;> (first | assumption | decide | omega | ((try simp (disch := omega) only [pk_mul, nI_add, Zcl_n]); exact Zin_n (by omega) (by decide)))))) ?_
            rw [eb2]
            refine Zs_ne hX (List.cons_ne_nil _ _) (fun h4_z => ?_) (fun h4_z => ?_)
            · have hm_z : ¬ (g_z.1 2 = nI 0 ∨ g_z.1 2 = nI 0) := fun q_z => q_z.elim h3_z h4_z
              refine Zgo hX 4 rfl (by (first | exact True.intro | assumption | (dsimp only [ZallP]; and_intros <;> (first | assumption | decide | omega | ((try simp (disch := omega) only [pk_mul, nI_add, Zcl_n]); exact Zin_n (by omega) (by decide)))))) ?_
              rw [eb1]
              refine Zs_ieq hX (List.cons_ne_nil _ _) (fun h5_z => ?_) (fun h5_z => ?_)
              · refine Zgo hX 3 rfl (by (first | exact True.intro | assumption | (dsimp only [ZallP]; and_intros <;> (first | assumption | decide | omega | ((try simp (disch := omega) only [pk_mul, nI_add, Zcl_n]); exact Zin_n (by omega) (by decide)))))) ?_
                refine Zs_callv hX (List.cons_ne_nil _ _) (k_has2 i_z n_z s1_z _ ez1 hs1) (by first | decide | omega) (by decide) rfl rfl rfl (by decide) (Nat.le_of_ble_eq_true rfl) (fun r_z M' hc_z => ?_)
                rcases hc_z with ⟨⟨rfl, h6_z⟩ | ⟨rfl, h6_z⟩, rfl⟩
                · refine Zs_eq hX (List.cons_ne_nil _ _) (fun q_z => False.elim (by revert q_z; decide)) (fun _ => ?_)
                  refine Zgo hX 3 rfl (by (first | exact True.intro | assumption | (dsimp only [ZallP]; and_intros <;> (first | assumption | decide | omega | ((try simp (disch := omega) only [pk_mul, nI_add, Zcl_n]); exact Zin_n (by omega) (by decide)))))) ?_
                  refine Zs_callv hX (List.cons_ne_nil _ _) (k_has2 j_z n_z s2_z _ ez2 hs2) (by first | decide | omega) (by decide) rfl rfl rfl (by decide) (Nat.le_of_ble_eq_true rfl) (fun r_z M' hc_z => ?_)
                  rcases hc_z with ⟨⟨rfl, h7_z⟩ | ⟨rfl, h7_z⟩, rfl⟩
                  · refine Zs_ne hX (List.cons_ne_nil _ _) (fun _ => ?_) (fun q_z => False.elim (by revert q_z; decide))
                    obtain ⟨a_z, c_z, rfl, rfl, hac, ha_z, hc_z⟩ := Zfit_i hs1 h6_z.1 h6_z.2.1 h6_z.2.2
                    obtain ⟨a2_z, c2, rfl, ec, hac2, ha2, hc2⟩ := Zfit_i hs2 h7_z.1 h7_z.2.1 h7_z.2.2
                    obtain rfl : c_z = c2 := Zeq hc_z hc2 ec
                    have hC : 0 ≤ (nI c_z).toInt ∧ 0 ≤ (nI a_z).toInt ∧ 0 ≤ (nI a2_z).toInt ∧ (nI a_z).toInt + (nI c_z).toInt ≤ (g_z.2.1 2).toInt ∧ (nI a2_z).toInt + (nI c_z).toInt ≤ (g_z.2.1 2).toInt := ⟨h6_z.2.1, h6_z.1, h7_z.1, by rw [es1]; exact h6_z.2.2, by rw [es2]; exact h7_z.2.2⟩
                    have n0_z : ∀ k_z : Nat, k_z < 2 ^ 31 → ¬ nI k_z < 0 := fun k_z hk_z => Zn_nlt0 hk_z
                    refine Zgo hX 7 rfl (by (first | exact True.intro | assumption | (dsimp only [ZallP]; and_intros <;> (first | assumption | decide | omega | ((try simp (disch := omega) only [pk_mul, nI_add, Zcl_n]); exact Zin_n (by omega) (by decide)))))) ?_
                    refine Zs_copy hX (List.cons_ne_nil _ _) (by decide) (by decide) (by decide) (Or.inl rfl) rfl rfl (n0_z a_z ha_z) (n0_z a2_z ha2) (n0_z c_z hc_z) (by rw [Zcl_n ha_z, Zcl_n hc_z]; omega) (by rw [Zcl_n ha2, Zcl_n hc_z]; omega) (fun q_z => absurd q_z (by decide)) (by decide) ?_
                    rw [Zcl_n ha_z, Zcl_n ha2, Zcl_n hc_z]
                    refine Zgo hX 1 rfl (by (first | exact True.intro | assumption | (dsimp only [ZallP]; and_intros <;> (first | assumption | decide | omega | ((try simp (disch := omega) only [pk_mul, nI_add, Zcl_n]); exact Zin_n (by omega) (by decide)))))) ?_
                    refine Zs_ret hX hE rfl (by rw [Fmove, if_pos hall, show (nI 2).toNatClampNeg = 2 from Zcl_n (by decide), if_neg hm_z, if_neg (fun q_z => q_z h5_z), if_pos hC, Zcl_n ha_z, Zcl_n ha2, Zcl_n hc_z]; exact ⟨rfl, hg_z.mv (t1 := 2) (t2 := 2) (by decide) (by decide) (by omega) (by omega), Zmv_hg M (by decide) _⟩)
                  · refine Zs_ne hX (List.cons_ne_nil _ _) (fun q_z => False.elim (by revert q_z; decide)) (fun _ => ?_)
                    refine Zs_sub (l' := [(7, .ref 49), (6, .ref 49), (0, .ref 0), (2, .int i_z), (4, .int j_z), (5, .int n_z)]) rfl ?_
                    exact BADN hm_z (fun q_z => q_z h5_z) (fun q_z => h7_z ⟨q_z.2.2.1, q_z.1, by rw [← es2]; exact q_z.2.2.2.2⟩)
                · refine Zs_eq hX (List.cons_ne_nil _ _) (fun _ => ?_) (fun q_z => False.elim (by revert q_z; decide))
                  refine Zs_sub (l' := [(7, .ref 49), (6, .ref 49), (0, .ref 0), (2, .int i_z), (4, .int j_z), (5, .int n_z)]) rfl ?_
                  exact BADN hm_z (fun q_z => q_z h5_z) (fun q_z => h6_z ⟨q_z.2.1, q_z.1, by rw [← es1]; exact q_z.2.2.2.1⟩)
              · skip
                refine Zgo hX 2 rfl (by (first | exact True.intro | assumption | (dsimp only [ZallP]; and_intros <;> (first | assumption | decide | omega | ((try simp (disch := omega) only [pk_mul, nI_add, Zcl_n]); exact Zin_n (by omega) (by decide)))))) ?_
                refine Zs_callv hX (List.cons_ne_nil _ _) (k_refuse 5 _ (by decide)) (by first | decide | omega) (by decide) rfl rfl rfl (by decide) (Nat.le_of_ble_eq_true rfl) (fun r_z M' hc_z => ?_)
                obtain ⟨rfl, hsc⟩ := hc_z
                refine Zs_ret hX hE rfl (by rw [Fmove, if_pos hall, show (nI 2).toNatClampNeg = 2 from Zcl_n (by decide), if_neg hm_z, if_pos h5_z]; exact Zkk_e hg_z hsc)
            · refine Zs_sub (l' := [(7, .ref 49), (6, .ref 49), (0, .ref 0), (2, .int i_z), (4, .int j_z), (5, .int n_z)]) rfl ?_
              exact MISS (Or.inr h4_z)
        · skip
          have eb1 : M 49 1 = g_z.1 2 := (hg_z 2 (by decide)).1
          have eb2 : M 51 1 = g_z.1 3 := (hg_z 3 (by decide)).1
          obtain ⟨-, s1_z, hs1, es1⟩ := hi_z 2 (by decide)
          obtain ⟨-, s2_z, hs2, es2⟩ := hi_z 3 (by decide)
          have ez1 : M 49 2 = nI s1_z := (hg_z 2 (by decide)).2.1.trans es1
          have ez2 : M 51 2 = nI s2_z := (hg_z 3 (by decide)).2.1.trans es2
          refine Zgo hX 3 rfl (by (first | exact True.intro | assumption | (dsimp only [ZallP]; and_intros <;> (first | assumption | decide | omega | ((try simp (disch := omega) only [pk_mul, nI_add, Zcl_n]); exact Zin_n (by omega) (by decide)))))) ?_
          refine Zs_aald hX (List.cons_ne_nil _ _) (by decide) rfl (by decide) (j := _) rfl (by decide) (by decide) rfl ?_
          refine Zgo hX 4 rfl (by (first | exact True.intro | assumption | (dsimp only [ZallP]; and_intros <;> (first | assumption | decide | omega | ((try simp (disch := omega) only [pk_mul, nI_add, Zcl_n]); exact Zin_n (by omega) (by decide)))))) ?_
          refine Zs_aald hX (List.cons_ne_nil _ _) (by decide) rfl (by decide) (j := _) rfl (by decide) (by decide) rfl ?_
          refine Zgo hX 3 rfl (by (first | exact True.intro | assumption | (dsimp only [ZallP]; and_intros <;> (first | assumption | decide | omega | ((try simp (disch := omega) only [pk_mul, nI_add, Zcl_n]); exact Zin_n (by omega) (by decide)))))) ?_
          rw [eb1]
          have MISS : (g_z.1 2 = nI 0 ∨ g_z.1 3 = nI 0) → ZP X Zt28 (Zsf Zt28 52) [(7, .ref 51), (6, .ref 49), (0, .ref 0), (2, .int i_z), (4, .int j_z), (5, .int n_z)] [] M := by
            intro h_z
            refine Zgo hX 2 rfl (by (first | exact True.intro | assumption | (dsimp only [ZallP]; and_intros <;> (first | assumption | decide | omega | ((try simp (disch := omega) only [pk_mul, nI_add, Zcl_n]); exact Zin_n (by omega) (by decide)))))) ?_
            refine Zs_callv hX (List.cons_ne_nil _ _) (k_refuse 2 _ (by decide)) (by first | decide | omega) (by decide) rfl rfl rfl (by decide) (Nat.le_of_ble_eq_true rfl) (fun r_z M' hc_z => ?_)
            obtain ⟨rfl, hsc⟩ := hc_z
            refine Zs_ret hX hE rfl (by rw [Fmove, if_pos hall, show (nI 2).toNatClampNeg = 2 from Zcl_n (by decide), show (nI 3).toNatClampNeg = 3 from Zcl_n (by decide), if_pos h_z]; exact Zkk_e hg_z hsc)
          have BADN : ¬ (g_z.1 2 = nI 0 ∨ g_z.1 3 = nI 0) → ¬ ¬ g_z.1 2 = g_z.1 3 → ¬ (0 ≤ n_z.toInt ∧ 0 ≤ i_z.toInt ∧ 0 ≤ j_z.toInt ∧ i_z.toInt + n_z.toInt ≤ (g_z.2.1 2).toInt ∧ j_z.toInt + n_z.toInt ≤ (g_z.2.1 3).toInt) → ZP X Zt28 (Zsf Zt28 100) [(7, .ref 51), (6, .ref 49), (0, .ref 0), (2, .int i_z), (4, .int j_z), (5, .int n_z)] [] M := by
            intro h_z h2_z h3_z
            refine Zgo hX 2 rfl (by (first | exact True.intro | assumption | (dsimp only [ZallP]; and_intros <;> (first | assumption | decide | omega | ((try simp (disch := omega) only [pk_mul, nI_add, Zcl_n]); exact Zin_n (by omega) (by decide)))))) ?_
            refine Zs_callv hX (List.cons_ne_nil _ _) (k_refuse 1 _ (by decide)) (by first | decide | omega) (by decide) rfl rfl rfl (by decide) (Nat.le_of_ble_eq_true rfl) (fun r_z M' hc_z => ?_)
            obtain ⟨rfl, hsc⟩ := hc_z
            refine Zs_ret hX hE rfl (by rw [Fmove, if_pos hall, show (nI 2).toNatClampNeg = 2 from Zcl_n (by decide), show (nI 3).toNatClampNeg = 3 from Zcl_n (by decide), if_neg h_z, if_neg h2_z, if_neg h3_z]; exact Zkk_e hg_z hsc)
          refine Zs_eq hX (List.cons_ne_nil _ _) (fun h3_z => ?_) (fun h3_z => ?_)
          · refine Zs_sub (l' := [(7, .ref 51), (6, .ref 49), (0, .ref 0), (2, .int i_z), (4, .int j_z), (5, .int n_z)]) rfl ?_
            exact MISS (Or.inl h3_z)
          · refine Zgo hX 2 rfl (by (first | exact True.intro | assumption | (dsimp only [ZallP]; and_intros <;> (first | assumption | decide | omega | ((try simp (disch := omega) only [pk_mul, nI_add, Zcl_n]); exact Zin_n (by omega) (by decide)))))) ?_
            rw [eb2]
            refine Zs_ne hX (List.cons_ne_nil _ _) (fun h4_z => ?_) (fun h4_z => ?_)
            · have hm_z : ¬ (g_z.1 2 = nI 0 ∨ g_z.1 3 = nI 0) := fun q_z => q_z.elim h3_z h4_z
              refine Zgo hX 4 rfl (by (first | exact True.intro | assumption | (dsimp only [ZallP]; and_intros <;> (first | assumption | decide | omega | ((try simp (disch := omega) only [pk_mul, nI_add, Zcl_n]); exact Zin_n (by omega) (by decide)))))) ?_
              rw [eb1, eb2]
              refine Zs_ieq hX (List.cons_ne_nil _ _) (fun h5_z => ?_) (fun h5_z => ?_)
              · refine Zgo hX 3 rfl (by (first | exact True.intro | assumption | (dsimp only [ZallP]; and_intros <;> (first | assumption | decide | omega | ((try simp (disch := omega) only [pk_mul, nI_add, Zcl_n]); exact Zin_n (by omega) (by decide)))))) ?_
                refine Zs_callv hX (List.cons_ne_nil _ _) (k_has2 i_z n_z s1_z _ ez1 hs1) (by first | decide | omega) (by decide) rfl rfl rfl (by decide) (Nat.le_of_ble_eq_true rfl) (fun r_z M' hc_z => ?_)
                rcases hc_z with ⟨⟨rfl, h6_z⟩ | ⟨rfl, h6_z⟩, rfl⟩
                · refine Zs_eq hX (List.cons_ne_nil _ _) (fun q_z => False.elim (by revert q_z; decide)) (fun _ => ?_)
                  refine Zgo hX 3 rfl (by (first | exact True.intro | assumption | (dsimp only [ZallP]; and_intros <;> (first | assumption | decide | omega | ((try simp (disch := omega) only [pk_mul, nI_add, Zcl_n]); exact Zin_n (by omega) (by decide)))))) ?_
                  refine Zs_callv hX (List.cons_ne_nil _ _) (k_has3 j_z n_z s2_z _ ez2 hs2) (by first | decide | omega) (by decide) rfl rfl rfl (by decide) (Nat.le_of_ble_eq_true rfl) (fun r_z M' hc_z => ?_)
                  rcases hc_z with ⟨⟨rfl, h7_z⟩ | ⟨rfl, h7_z⟩, rfl⟩
                  · refine Zs_ne hX (List.cons_ne_nil _ _) (fun _ => ?_) (fun q_z => False.elim (by revert q_z; decide))
                    obtain ⟨a_z, c_z, rfl, rfl, hac, ha_z, hc_z⟩ := Zfit_i hs1 h6_z.1 h6_z.2.1 h6_z.2.2
                    obtain ⟨a2_z, c2, rfl, ec, hac2, ha2, hc2⟩ := Zfit_i hs2 h7_z.1 h7_z.2.1 h7_z.2.2
                    obtain rfl : c_z = c2 := Zeq hc_z hc2 ec
                    have hC : 0 ≤ (nI c_z).toInt ∧ 0 ≤ (nI a_z).toInt ∧ 0 ≤ (nI a2_z).toInt ∧ (nI a_z).toInt + (nI c_z).toInt ≤ (g_z.2.1 2).toInt ∧ (nI a2_z).toInt + (nI c_z).toInt ≤ (g_z.2.1 3).toInt := ⟨h6_z.2.1, h6_z.1, h7_z.1, by rw [es1]; exact h6_z.2.2, by rw [es2]; exact h7_z.2.2⟩
                    have n0_z : ∀ k_z : Nat, k_z < 2 ^ 31 → ¬ nI k_z < 0 := fun k_z hk_z => Zn_nlt0 hk_z
                    refine Zgo hX 7 rfl (by (first | exact True.intro | assumption | (dsimp only [ZallP]; and_intros <;> (first | assumption | decide | omega | ((try simp (disch := omega) only [pk_mul, nI_add, Zcl_n]); exact Zin_n (by omega) (by decide)))))) ?_
                    refine Zs_copy hX (List.cons_ne_nil _ _) (by decide) (by decide) (by decide) (Or.inl rfl) rfl rfl (n0_z a_z ha_z) (n0_z a2_z ha2) (n0_z c_z hc_z) (by rw [Zcl_n ha_z, Zcl_n hc_z]; omega) (by rw [Zcl_n ha2, Zcl_n hc_z]; omega) (fun q_z => absurd q_z (by decide)) (by decide) ?_
                    rw [Zcl_n ha_z, Zcl_n ha2, Zcl_n hc_z]
                    refine Zgo hX 1 rfl (by (first | exact True.intro | assumption | (dsimp only [ZallP]; and_intros <;> (first | assumption | decide | omega | ((try simp (disch := omega) only [pk_mul, nI_add, Zcl_n]); exact Zin_n (by omega) (by decide)))))) ?_
                    refine Zs_ret hX hE rfl (by rw [Fmove, if_pos hall, show (nI 2).toNatClampNeg = 2 from Zcl_n (by decide), show (nI 3).toNatClampNeg = 3 from Zcl_n (by decide), if_neg hm_z, if_neg (fun q_z => q_z h5_z), if_pos hC, Zcl_n ha_z, Zcl_n ha2, Zcl_n hc_z]; exact ⟨rfl, hg_z.mv (t1 := 2) (t2 := 3) (by decide) (by decide) (by omega) (by omega), Zmv_hg M (by decide) _⟩)
                  · refine Zs_ne hX (List.cons_ne_nil _ _) (fun q_z => False.elim (by revert q_z; decide)) (fun _ => ?_)
                    refine Zs_sub (l' := [(7, .ref 51), (6, .ref 49), (0, .ref 0), (2, .int i_z), (4, .int j_z), (5, .int n_z)]) rfl ?_
                    exact BADN hm_z (fun q_z => q_z h5_z) (fun q_z => h7_z ⟨q_z.2.2.1, q_z.1, by rw [← es2]; exact q_z.2.2.2.2⟩)
                · refine Zs_eq hX (List.cons_ne_nil _ _) (fun _ => ?_) (fun q_z => False.elim (by revert q_z; decide))
                  refine Zs_sub (l' := [(7, .ref 51), (6, .ref 49), (0, .ref 0), (2, .int i_z), (4, .int j_z), (5, .int n_z)]) rfl ?_
                  exact BADN hm_z (fun q_z => q_z h5_z) (fun q_z => h6_z ⟨q_z.2.1, q_z.1, by rw [← es1]; exact q_z.2.2.2.1⟩)
              · skip
                refine Zgo hX 2 rfl (by (first | exact True.intro | assumption | (dsimp only [ZallP]; and_intros <;> (first | assumption | decide | omega | ((try simp (disch := omega) only [pk_mul, nI_add, Zcl_n]); exact Zin_n (by omega) (by decide)))))) ?_
                refine Zs_callv hX (List.cons_ne_nil _ _) (k_refuse 5 _ (by decide)) (by first | decide | omega) (by decide) rfl rfl rfl (by decide) (Nat.le_of_ble_eq_true rfl) (fun r_z M' hc_z => ?_)
                obtain ⟨rfl, hsc⟩ := hc_z
                refine Zs_ret hX hE rfl (by rw [Fmove, if_pos hall, show (nI 2).toNatClampNeg = 2 from Zcl_n (by decide), show (nI 3).toNatClampNeg = 3 from Zcl_n (by decide), if_neg hm_z, if_pos h5_z]; exact Zkk_e hg_z hsc)
            · refine Zs_sub (l' := [(7, .ref 51), (6, .ref 49), (0, .ref 0), (2, .int i_z), (4, .int j_z), (5, .int n_z)]) rfl ?_
              exact MISS (Or.inr h4_z)
      · skip
        rcases (show t' = 0 ∨ t' = 1 ∨ t' = 2 ∨ t' = 3 by omega) with rfl | rfl | rfl | rfl
        · skip
          have eb1 : M 51 1 = g_z.1 3 := (hg_z 3 (by decide)).1
          have eb2 : M 45 1 = g_z.1 0 := (hg_z 0 (by decide)).1
          obtain ⟨-, s1_z, hs1, es1⟩ := hi_z 3 (by decide)
          obtain ⟨-, s2_z, hs2, es2⟩ := hi_z 0 (by decide)
          have ez1 : M 51 2 = nI s1_z := (hg_z 3 (by decide)).2.1.trans es1
          have ez2 : M 45 2 = nI s2_z := (hg_z 0 (by decide)).2.1.trans es2
          refine Zgo hX 3 rfl (by (first | exact True.intro | assumption | (dsimp only [ZallP]; and_intros <;> (first | assumption | decide | omega | ((try simp (disch := omega) only [pk_mul, nI_add, Zcl_n]); exact Zin_n (by omega) (by decide)))))) ?_
          refine Zs_aald hX (List.cons_ne_nil _ _) (by decide) rfl (by decide) (j := _) rfl (by decide) (by decide) rfl ?_
          refine Zgo hX 4 rfl (by (first | exact True.intro | assumption | (dsimp only [ZallP]; and_intros <;> (first | assumption | decide | omega | ((try simp (disch := omega) only [pk_mul, nI_add, Zcl_n]); exact Zin_n (by omega) (by decide)))))) ?_
          refine Zs_aald hX (List.cons_ne_nil _ _) (by decide) rfl (by decide) (j := _) rfl (by decide) (by decide) rfl ?_
          refine Zgo hX 3 rfl (by (first | exact True.intro | assumption | (dsimp only [ZallP]; and_intros <;> (first | assumption | decide | omega | ((try simp (disch := omega) only [pk_mul, nI_add, Zcl_n]); exact Zin_n (by omega) (by decide)))))) ?_
          rw [eb1]
          have MISS : (g_z.1 3 = nI 0 ∨ g_z.1 0 = nI 0) → ZP X Zt28 (Zsf Zt28 52) [(7, .ref 45), (6, .ref 51), (0, .ref 0), (2, .int i_z), (4, .int j_z), (5, .int n_z)] [] M := by
            intro h_z
            refine Zgo hX 2 rfl (by (first | exact True.intro | assumption | (dsimp only [ZallP]; and_intros <;> (first | assumption | decide | omega | ((try simp (disch := omega) only [pk_mul, nI_add, Zcl_n]); exact Zin_n (by omega) (by decide)))))) ?_
            refine Zs_callv hX (List.cons_ne_nil _ _) (k_refuse 2 _ (by decide)) (by first | decide | omega) (by decide) rfl rfl rfl (by decide) (Nat.le_of_ble_eq_true rfl) (fun r_z M' hc_z => ?_)
            obtain ⟨rfl, hsc⟩ := hc_z
            refine Zs_ret hX hE rfl (by rw [Fmove, if_pos hall, show (nI 3).toNatClampNeg = 3 from Zcl_n (by decide), show (nI 0).toNatClampNeg = 0 from Zcl_n (by decide), if_pos h_z]; exact Zkk_e hg_z hsc)
          have BADN : ¬ (g_z.1 3 = nI 0 ∨ g_z.1 0 = nI 0) → ¬ ¬ g_z.1 3 = g_z.1 0 → ¬ (0 ≤ n_z.toInt ∧ 0 ≤ i_z.toInt ∧ 0 ≤ j_z.toInt ∧ i_z.toInt + n_z.toInt ≤ (g_z.2.1 3).toInt ∧ j_z.toInt + n_z.toInt ≤ (g_z.2.1 0).toInt) → ZP X Zt28 (Zsf Zt28 100) [(7, .ref 45), (6, .ref 51), (0, .ref 0), (2, .int i_z), (4, .int j_z), (5, .int n_z)] [] M := by
            intro h_z h2_z h3_z
            refine Zgo hX 2 rfl (by (first | exact True.intro | assumption | (dsimp only [ZallP]; and_intros <;> (first | assumption | decide | omega | ((try simp (disch := omega) only [pk_mul, nI_add, Zcl_n]); exact Zin_n (by omega) (by decide)))))) ?_
            refine Zs_callv hX (List.cons_ne_nil _ _) (k_refuse 1 _ (by decide)) (by first | decide | omega) (by decide) rfl rfl rfl (by decide) (Nat.le_of_ble_eq_true rfl) (fun r_z M' hc_z => ?_)
            obtain ⟨rfl, hsc⟩ := hc_z
            refine Zs_ret hX hE rfl (by rw [Fmove, if_pos hall, show (nI 3).toNatClampNeg = 3 from Zcl_n (by decide), show (nI 0).toNatClampNeg = 0 from Zcl_n (by decide), if_neg h_z, if_neg h2_z, if_neg h3_z]; exact Zkk_e hg_z hsc)
          refine Zs_eq hX (List.cons_ne_nil _ _) (fun h3_z => ?_) (fun h3_z => ?_)
          · refine Zs_sub (l' := [(7, .ref 45), (6, .ref 51), (0, .ref 0), (2, .int i_z), (4, .int j_z), (5, .int n_z)]) rfl ?_
            exact MISS (Or.inl h3_z)
          · refine Zgo hX 2 rfl (by (first | exact True.intro | assumption | (dsimp only [ZallP]; and_intros <;> (first | assumption | decide | omega | ((try simp (disch := omega) only [pk_mul, nI_add, Zcl_n]); exact Zin_n (by omega) (by decide)))))) ?_
            rw [eb2]
            refine Zs_ne hX (List.cons_ne_nil _ _) (fun h4_z => ?_) (fun h4_z => ?_)
            · have hm_z : ¬ (g_z.1 3 = nI 0 ∨ g_z.1 0 = nI 0) := fun q_z => q_z.elim h3_z h4_z
              refine Zgo hX 4 rfl (by (first | exact True.intro | assumption | (dsimp only [ZallP]; and_intros <;> (first | assumption | decide | omega | ((try simp (disch := omega) only [pk_mul, nI_add, Zcl_n]); exact Zin_n (by omega) (by decide)))))) ?_
              rw [eb1, eb2]
              refine Zs_ieq hX (List.cons_ne_nil _ _) (fun h5_z => ?_) (fun h5_z => ?_)
              · refine Zgo hX 3 rfl (by (first | exact True.intro | assumption | (dsimp only [ZallP]; and_intros <;> (first | assumption | decide | omega | ((try simp (disch := omega) only [pk_mul, nI_add, Zcl_n]); exact Zin_n (by omega) (by decide)))))) ?_
                refine Zs_callv hX (List.cons_ne_nil _ _) (k_has3 i_z n_z s1_z _ ez1 hs1) (by first | decide | omega) (by decide) rfl rfl rfl (by decide) (Nat.le_of_ble_eq_true rfl) (fun r_z M' hc_z => ?_)
                rcases hc_z with ⟨⟨rfl, h6_z⟩ | ⟨rfl, h6_z⟩, rfl⟩
                · refine Zs_eq hX (List.cons_ne_nil _ _) (fun q_z => False.elim (by revert q_z; decide)) (fun _ => ?_)
                  refine Zgo hX 3 rfl (by (first | exact True.intro | assumption | (dsimp only [ZallP]; and_intros <;> (first | assumption | decide | omega | ((try simp (disch := omega) only [pk_mul, nI_add, Zcl_n]); exact Zin_n (by omega) (by decide)))))) ?_
                  refine Zs_callv hX (List.cons_ne_nil _ _) (k_has0 j_z n_z s2_z _ ez2 hs2) (by first | decide | omega) (by decide) rfl rfl rfl (by decide) (Nat.le_of_ble_eq_true rfl) (fun r_z M' hc_z => ?_)
                  rcases hc_z with ⟨⟨rfl, h7_z⟩ | ⟨rfl, h7_z⟩, rfl⟩
                  · refine Zs_ne hX (List.cons_ne_nil _ _) (fun _ => ?_) (fun q_z => False.elim (by revert q_z; decide))
                    obtain ⟨a_z, c_z, rfl, rfl, hac, ha_z, hc_z⟩ := Zfit_i hs1 h6_z.1 h6_z.2.1 h6_z.2.2
                    obtain ⟨a2_z, c2, rfl, ec, hac2, ha2, hc2⟩ := Zfit_i hs2 h7_z.1 h7_z.2.1 h7_z.2.2
                    obtain rfl : c_z = c2 := Zeq hc_z hc2 ec
                    have hC : 0 ≤ (nI c_z).toInt ∧ 0 ≤ (nI a_z).toInt ∧ 0 ≤ (nI a2_z).toInt ∧ (nI a_z).toInt + (nI c_z).toInt ≤ (g_z.2.1 3).toInt ∧ (nI a2_z).toInt + (nI c_z).toInt ≤ (g_z.2.1 0).toInt := ⟨h6_z.2.1, h6_z.1, h7_z.1, by rw [es1]; exact h6_z.2.2, by rw [es2]; exact h7_z.2.2⟩
                    have n0_z : ∀ k_z : Nat, k_z < 2 ^ 31 → ¬ nI k_z < 0 := fun k_z hk_z => Zn_nlt0 hk_z
                    refine Zgo hX 7 rfl (by (first | exact True.intro | assumption | (dsimp only [ZallP]; and_intros <;> (first | assumption | decide | omega | ((try simp (disch := omega) only [pk_mul, nI_add, Zcl_n]); exact Zin_n (by omega) (by decide)))))) ?_
                    refine Zs_copy hX (List.cons_ne_nil _ _) (by decide) (by decide) (by decide) (Or.inl rfl) rfl rfl (n0_z a_z ha_z) (n0_z a2_z ha2) (n0_z c_z hc_z) (by rw [Zcl_n ha_z, Zcl_n hc_z]; omega) (by rw [Zcl_n ha2, Zcl_n hc_z]; omega) (fun q_z => absurd q_z (by decide)) (by decide) ?_
                    rw [Zcl_n ha_z, Zcl_n ha2, Zcl_n hc_z]
                    refine Zgo hX 1 rfl (by (first | exact True.intro | assumption | (dsimp only [ZallP]; and_intros <;> (first | assumption | decide | omega | ((try simp (disch := omega) only [pk_mul, nI_add, Zcl_n]); exact Zin_n (by omega) (by decide)))))) ?_
                    refine Zs_ret hX hE rfl (by rw [Fmove, if_pos hall, show (nI 3).toNatClampNeg = 3 from Zcl_n (by decide), show (nI 0).toNatClampNeg = 0 from Zcl_n (by decide), if_neg hm_z, if_neg (fun q_z => q_z h5_z), if_pos hC, Zcl_n ha_z, Zcl_n ha2, Zcl_n hc_z]; exact ⟨rfl, hg_z.mv (t1 := 3) (t2 := 0) (by decide) (by decide) (by omega) (by omega), Zmv_hg M (by decide) _⟩)
                  · refine Zs_ne hX (List.cons_ne_nil _ _) (fun q_z => False.elim (by revert q_z; decide)) (fun _ => ?_)
                    refine Zs_sub (l' := [(7, .ref 45), (6, .ref 51), (0, .ref 0), (2, .int i_z), (4, .int j_z), (5, .int n_z)]) rfl ?_
                    exact BADN hm_z (fun q_z => q_z h5_z) (fun q_z => h7_z ⟨q_z.2.2.1, q_z.1, by rw [← es2]; exact q_z.2.2.2.2⟩)
                · refine Zs_eq hX (List.cons_ne_nil _ _) (fun _ => ?_) (fun q_z => False.elim (by revert q_z; decide))
                  refine Zs_sub (l' := [(7, .ref 45), (6, .ref 51), (0, .ref 0), (2, .int i_z), (4, .int j_z), (5, .int n_z)]) rfl ?_
                  exact BADN hm_z (fun q_z => q_z h5_z) (fun q_z => h6_z ⟨q_z.2.1, q_z.1, by rw [← es1]; exact q_z.2.2.2.1⟩)
              · skip
                refine Zgo hX 2 rfl (by (first | exact True.intro | assumption | (dsimp only [ZallP]; and_intros <;> (first | assumption | decide | omega | ((try simp (disch := omega) only [pk_mul, nI_add, Zcl_n]); exact Zin_n (by omega) (by decide)))))) ?_
                refine Zs_callv hX (List.cons_ne_nil _ _) (k_refuse 5 _ (by decide)) (by first | decide | omega) (by decide) rfl rfl rfl (by decide) (Nat.le_of_ble_eq_true rfl) (fun r_z M' hc_z => ?_)
                obtain ⟨rfl, hsc⟩ := hc_z
                refine Zs_ret hX hE rfl (by rw [Fmove, if_pos hall, show (nI 3).toNatClampNeg = 3 from Zcl_n (by decide), show (nI 0).toNatClampNeg = 0 from Zcl_n (by decide), if_neg hm_z, if_pos h5_z]; exact Zkk_e hg_z hsc)
            · refine Zs_sub (l' := [(7, .ref 45), (6, .ref 51), (0, .ref 0), (2, .int i_z), (4, .int j_z), (5, .int n_z)]) rfl ?_
              exact MISS (Or.inr h4_z)
        · skip
          have eb1 : M 51 1 = g_z.1 3 := (hg_z 3 (by decide)).1
          have eb2 : M 47 1 = g_z.1 1 := (hg_z 1 (by decide)).1
          obtain ⟨-, s1_z, hs1, es1⟩ := hi_z 3 (by decide)
          obtain ⟨-, s2_z, hs2, es2⟩ := hi_z 1 (by decide)
          have ez1 : M 51 2 = nI s1_z := (hg_z 3 (by decide)).2.1.trans es1
          have ez2 : M 47 2 = nI s2_z := (hg_z 1 (by decide)).2.1.trans es2
          refine Zgo hX 3 rfl (by (first | exact True.intro | assumption | (dsimp only [ZallP]; and_intros <;> (first | assumption | decide | omega | ((try simp (disch := omega) only [pk_mul, nI_add, Zcl_n]); exact Zin_n (by omega) (by decide)))))) ?_
          refine Zs_aald hX (List.cons_ne_nil _ _) (by decide) rfl (by decide) (j := _) rfl (by decide) (by decide) rfl ?_
          refine Zgo hX 4 rfl (by (first | exact True.intro | assumption | (dsimp only [ZallP]; and_intros <;> (first | assumption | decide | omega | ((try simp (disch := omega) only [pk_mul, nI_add, Zcl_n]); exact Zin_n (by omega) (by decide)))))) ?_
          refine Zs_aald hX (List.cons_ne_nil _ _) (by decide) rfl (by decide) (j := _) rfl (by decide) (by decide) rfl ?_
          refine Zgo hX 3 rfl (by (first | exact True.intro | assumption | (dsimp only [ZallP]; and_intros <;> (first | assumption | decide | omega | ((try simp (disch := omega) only [pk_mul, nI_add, Zcl_n]); exact Zin_n (by omega) (by decide)))))) ?_
          rw [eb1]
          have MISS : (g_z.1 3 = nI 0 ∨ g_z.1 1 = nI 0) → ZP X Zt28 (Zsf Zt28 52) [(7, .ref 47), (6, .ref 51), (0, .ref 0), (2, .int i_z), (4, .int j_z), (5, .int n_z)] [] M := by
            intro h_z
            refine Zgo hX 2 rfl (by (first | exact True.intro | assumption | (dsimp only [ZallP]; and_intros <;> (first | assumption | decide | omega | ((try simp (disch := omega) only [pk_mul, nI_add, Zcl_n]); exact Zin_n (by omega) (by decide)))))) ?_
            refine Zs_callv hX (List.cons_ne_nil _ _) (k_refuse 2 _ (by decide)) (by first | decide | omega) (by decide) rfl rfl rfl (by decide) (Nat.le_of_ble_eq_true rfl) (fun r_z M' hc_z => ?_)
            obtain ⟨rfl, hsc⟩ := hc_z
            refine Zs_ret hX hE rfl (by rw [Fmove, if_pos hall, show (nI 3).toNatClampNeg = 3 from Zcl_n (by decide), show (nI 1).toNatClampNeg = 1 from Zcl_n (by decide), if_pos h_z]; exact Zkk_e hg_z hsc)
          have BADN : ¬ (g_z.1 3 = nI 0 ∨ g_z.1 1 = nI 0) → ¬ ¬ g_z.1 3 = g_z.1 1 → ¬ (0 ≤ n_z.toInt ∧ 0 ≤ i_z.toInt ∧ 0 ≤ j_z.toInt ∧ i_z.toInt + n_z.toInt ≤ (g_z.2.1 3).toInt ∧ j_z.toInt + n_z.toInt ≤ (g_z.2.1 1).toInt) → ZP X Zt28 (Zsf Zt28 100) [(7, .ref 47), (6, .ref 51), (0, .ref 0), (2, .int i_z), (4, .int j_z), (5, .int n_z)] [] M := by
            intro h_z h2_z h3_z
            refine Zgo hX 2 rfl (by (first | exact True.intro | assumption | (dsimp only [ZallP]; and_intros <;> (first | assumption | decide | omega | ((try simp (disch := omega) only [pk_mul, nI_add, Zcl_n]); exact Zin_n (by omega) (by decide)))))) ?_
            refine Zs_callv hX (List.cons_ne_nil _ _) (k_refuse 1 _ (by decide)) (by first | decide | omega) (by decide) rfl rfl rfl (by decide) (Nat.le_of_ble_eq_true rfl) (fun r_z M' hc_z => ?_)
            obtain ⟨rfl, hsc⟩ := hc_z
            refine Zs_ret hX hE rfl (by rw [Fmove, if_pos hall, show (nI 3).toNatClampNeg = 3 from Zcl_n (by decide), show (nI 1).toNatClampNeg = 1 from Zcl_n (by decide), if_neg h_z, if_neg h2_z, if_neg h3_z]; exact Zkk_e hg_z hsc)
          refine Zs_eq hX (List.cons_ne_nil _ _) (fun h3_z => ?_) (fun h3_z => ?_)
          · refine Zs_sub (l' := [(7, .ref 47), (6, .ref 51), (0, .ref 0), (2, .int i_z), (4, .int j_z), (5, .int n_z)]) rfl ?_
            exact MISS (Or.inl h3_z)
          · refine Zgo hX 2 rfl (by (first | exact True.intro | assumption | (dsimp only [ZallP]; and_intros <;> (first | assumption | decide | omega | ((try simp (disch := omega) only [pk_mul, nI_add, Zcl_n]); exact Zin_n (by omega) (by decide)))))) ?_
            rw [eb2]
            refine Zs_ne hX (List.cons_ne_nil _ _) (fun h4_z => ?_) (fun h4_z => ?_)
            · have hm_z : ¬ (g_z.1 3 = nI 0 ∨ g_z.1 1 = nI 0) := fun q_z => q_z.elim h3_z h4_z
              refine Zgo hX 4 rfl (by (first | exact True.intro | assumption | (dsimp only [ZallP]; and_intros <;> (first | assumption | decide | omega | ((try simp (disch := omega) only [pk_mul, nI_add, Zcl_n]); exact Zin_n (by omega) (by decide)))))) ?_
              rw [eb1, eb2]
              refine Zs_ieq hX (List.cons_ne_nil _ _) (fun h5_z => ?_) (fun h5_z => ?_)
              · refine Zgo hX 3 rfl (by (first | exact True.intro | assumption | (dsimp only [ZallP]; and_intros <;> (first | assumption | decide | omega | ((try simp (disch := omega) only [pk_mul, nI_add, Zcl_n]); exact Zin_n (by omega) (by decide)))))) ?_
                refine Zs_callv hX (List.cons_ne_nil _ _) (k_has3 i_z n_z s1_z _ ez1 hs1) (by first | decide | omega) (by decide) rfl rfl rfl (by decide) (Nat.le_of_ble_eq_true rfl) (fun r_z M' hc_z => ?_)
                rcases hc_z with ⟨⟨rfl, h6_z⟩ | ⟨rfl, h6_z⟩, rfl⟩
                · refine Zs_eq hX (List.cons_ne_nil _ _) (fun q_z => False.elim (by revert q_z; decide)) (fun _ => ?_)
                  refine Zgo hX 3 rfl (by (first | exact True.intro | assumption | (dsimp only [ZallP]; and_intros <;> (first | assumption | decide | omega | ((try simp (disch := omega) only [pk_mul, nI_add, Zcl_n]); exact Zin_n (by omega) (by decide)))))) ?_
                  refine Zs_callv hX (List.cons_ne_nil _ _) (k_has1 j_z n_z s2_z _ ez2 hs2) (by first | decide | omega) (by decide) rfl rfl rfl (by decide) (Nat.le_of_ble_eq_true rfl) (fun r_z M' hc_z => ?_)
                  rcases hc_z with ⟨⟨rfl, h7_z⟩ | ⟨rfl, h7_z⟩, rfl⟩
                  · refine Zs_ne hX (List.cons_ne_nil _ _) (fun _ => ?_) (fun q_z => False.elim (by revert q_z; decide))
                    obtain ⟨a_z, c_z, rfl, rfl, hac, ha_z, hc_z⟩ := Zfit_i hs1 h6_z.1 h6_z.2.1 h6_z.2.2
                    obtain ⟨a2_z, c2, rfl, ec, hac2, ha2, hc2⟩ := Zfit_i hs2 h7_z.1 h7_z.2.1 h7_z.2.2
                    obtain rfl : c_z = c2 := Zeq hc_z hc2 ec
                    have hC : 0 ≤ (nI c_z).toInt ∧ 0 ≤ (nI a_z).toInt ∧ 0 ≤ (nI a2_z).toInt ∧ (nI a_z).toInt + (nI c_z).toInt ≤ (g_z.2.1 3).toInt ∧ (nI a2_z).toInt + (nI c_z).toInt ≤ (g_z.2.1 1).toInt := ⟨h6_z.2.1, h6_z.1, h7_z.1, by rw [es1]; exact h6_z.2.2, by rw [es2]; exact h7_z.2.2⟩
                    have n0_z : ∀ k_z : Nat, k_z < 2 ^ 31 → ¬ nI k_z < 0 := fun k_z hk_z => Zn_nlt0 hk_z
                    refine Zgo hX 7 rfl (by (first | exact True.intro | assumption | (dsimp only [ZallP]; and_intros <;> (first | assumption | decide | omega | ((try simp (disch := omega) only [pk_mul, nI_add, Zcl_n]); exact Zin_n (by omega) (by decide)))))) ?_
                    refine Zs_copy hX (List.cons_ne_nil _ _) (by decide) (by decide) (by decide) (Or.inl rfl) rfl rfl (n0_z a_z ha_z) (n0_z a2_z ha2) (n0_z c_z hc_z) (by rw [Zcl_n ha_z, Zcl_n hc_z]; omega) (by rw [Zcl_n ha2, Zcl_n hc_z]; omega) (fun q_z => absurd q_z (by decide)) (by decide) ?_
                    rw [Zcl_n ha_z, Zcl_n ha2, Zcl_n hc_z]
                    refine Zgo hX 1 rfl (by (first | exact True.intro | assumption | (dsimp only [ZallP]; and_intros <;> (first | assumption | decide | omega | ((try simp (disch := omega) only [pk_mul, nI_add, Zcl_n]); exact Zin_n (by omega) (by decide)))))) ?_
                    refine Zs_ret hX hE rfl (by rw [Fmove, if_pos hall, show (nI 3).toNatClampNeg = 3 from Zcl_n (by decide), show (nI 1).toNatClampNeg = 1 from Zcl_n (by decide), if_neg hm_z, if_neg (fun q_z => q_z h5_z), if_pos hC, Zcl_n ha_z, Zcl_n ha2, Zcl_n hc_z]; exact ⟨rfl, hg_z.mv (t1 := 3) (t2 := 1) (by decide) (by decide) (by omega) (by omega), Zmv_hg M (by decide) _⟩)
                  · refine Zs_ne hX (List.cons_ne_nil _ _) (fun q_z => False.elim (by revert q_z; decide)) (fun _ => ?_)
                    refine Zs_sub (l' := [(7, .ref 47), (6, .ref 51), (0, .ref 0), (2, .int i_z), (4, .int j_z), (5, .int n_z)]) rfl ?_
                    exact BADN hm_z (fun q_z => q_z h5_z) (fun q_z => h7_z ⟨q_z.2.2.1, q_z.1, by rw [← es2]; exact q_z.2.2.2.2⟩)
                · refine Zs_eq hX (List.cons_ne_nil _ _) (fun _ => ?_) (fun q_z => False.elim (by revert q_z; decide))
                  refine Zs_sub (l' := [(7, .ref 47), (6, .ref 51), (0, .ref 0), (2, .int i_z), (4, .int j_z), (5, .int n_z)]) rfl ?_
                  exact BADN hm_z (fun q_z => q_z h5_z) (fun q_z => h6_z ⟨q_z.2.1, q_z.1, by rw [← es1]; exact q_z.2.2.2.1⟩)
              · skip
                refine Zgo hX 2 rfl (by (first | exact True.intro | assumption | (dsimp only [ZallP]; and_intros <;> (first | assumption | decide | omega | ((try simp (disch := omega) only [pk_mul, nI_add, Zcl_n]); exact Zin_n (by omega) (by decide)))))) ?_
                refine Zs_callv hX (List.cons_ne_nil _ _) (k_refuse 5 _ (by decide)) (by first | decide | omega) (by decide) rfl rfl rfl (by decide) (Nat.le_of_ble_eq_true rfl) (fun r_z M' hc_z => ?_)
                obtain ⟨rfl, hsc⟩ := hc_z
                refine Zs_ret hX hE rfl (by rw [Fmove, if_pos hall, show (nI 3).toNatClampNeg = 3 from Zcl_n (by decide), show (nI 1).toNatClampNeg = 1 from Zcl_n (by decide), if_neg hm_z, if_pos h5_z]; exact Zkk_e hg_z hsc)
            · refine Zs_sub (l' := [(7, .ref 47), (6, .ref 51), (0, .ref 0), (2, .int i_z), (4, .int j_z), (5, .int n_z)]) rfl ?_
              exact MISS (Or.inr h4_z)
        · skip
          have eb1 : M 51 1 = g_z.1 3 := (hg_z 3 (by decide)).1
          have eb2 : M 49 1 = g_z.1 2 := (hg_z 2 (by decide)).1
          obtain ⟨-, s1_z, hs1, es1⟩ := hi_z 3 (by decide)
          obtain ⟨-, s2_z, hs2, es2⟩ := hi_z 2 (by decide)
          have ez1 : M 51 2 = nI s1_z := (hg_z 3 (by decide)).2.1.trans es1
          have ez2 : M 49 2 = nI s2_z := (hg_z 2 (by decide)).2.1.trans es2
          refine Zgo hX 3 rfl (by (first | exact True.intro | assumption | (dsimp only [ZallP]; and_intros <;> (first | assumption | decide | omega | ((try simp (disch := omega) only [pk_mul, nI_add, Zcl_n]); exact Zin_n (by omega) (by decide)))))) ?_
          refine Zs_aald hX (List.cons_ne_nil _ _) (by decide) rfl (by decide) (j := _) rfl (by decide) (by decide) rfl ?_
          refine Zgo hX 4 rfl (by (first | exact True.intro | assumption | (dsimp only [ZallP]; and_intros <;> (first | assumption | decide | omega | ((try simp (disch := omega) only [pk_mul, nI_add, Zcl_n]); exact Zin_n (by omega) (by decide)))))) ?_
          refine Zs_aald hX (List.cons_ne_nil _ _) (by decide) rfl (by decide) (j := _) rfl (by decide) (by decide) rfl ?_
          refine Zgo hX 3 rfl (by (first | exact True.intro | assumption | (dsimp only [ZallP]; and_intros <;> (first | assumption | decide | omega | ((try simp (disch := omega) only [pk_mul, nI_add, Zcl_n]); exact Zin_n (by omega) (by decide)))))) ?_
          rw [eb1]
          have MISS : (g_z.1 3 = nI 0 ∨ g_z.1 2 = nI 0) → ZP X Zt28 (Zsf Zt28 52) [(7, .ref 49), (6, .ref 51), (0, .ref 0), (2, .int i_z), (4, .int j_z), (5, .int n_z)] [] M := by
            intro h_z
            refine Zgo hX 2 rfl (by (first | exact True.intro | assumption | (dsimp only [ZallP]; and_intros <;> (first | assumption | decide | omega | ((try simp (disch := omega) only [pk_mul, nI_add, Zcl_n]); exact Zin_n (by omega) (by decide)))))) ?_
            refine Zs_callv hX (List.cons_ne_nil _ _) (k_refuse 2 _ (by decide)) (by first | decide | omega) (by decide) rfl rfl rfl (by decide) (Nat.le_of_ble_eq_true rfl) (fun r_z M' hc_z => ?_)
            obtain ⟨rfl, hsc⟩ := hc_z
            refine Zs_ret hX hE rfl (by rw [Fmove, if_pos hall, show (nI 3).toNatClampNeg = 3 from Zcl_n (by decide), show (nI 2).toNatClampNeg = 2 from Zcl_n (by decide), if_pos h_z]; exact Zkk_e hg_z hsc)
          have BADN : ¬ (g_z.1 3 = nI 0 ∨ g_z.1 2 = nI 0) → ¬ ¬ g_z.1 3 = g_z.1 2 → ¬ (0 ≤ n_z.toInt ∧ 0 ≤ i_z.toInt ∧ 0 ≤ j_z.toInt ∧ i_z.toInt + n_z.toInt ≤ (g_z.2.1 3).toInt ∧ j_z.toInt + n_z.toInt ≤ (g_z.2.1 2).toInt) → ZP X Zt28 (Zsf Zt28 100) [(7, .ref 49), (6, .ref 51), (0, .ref 0), (2, .int i_z), (4, .int j_z), (5, .int n_z)] [] M := by
            intro h_z h2_z h3_z
            refine Zgo hX 2 rfl (by (first | exact True.intro | assumption | (dsimp only [ZallP]; and_intros <;> (first | assumption | decide | omega | ((try simp (disch := omega) only [pk_mul, nI_add, Zcl_n]); exact Zin_n (by omega) (by decide)))))) ?_
            refine Zs_callv hX (List.cons_ne_nil _ _) (k_refuse 1 _ (by decide)) (by first | decide | omega) (by decide) rfl rfl rfl (by decide) (Nat.le_of_ble_eq_true rfl) (fun r_z M' hc_z => ?_)
            obtain ⟨rfl, hsc⟩ := hc_z
            refine Zs_ret hX hE rfl (by rw [Fmove, if_pos hall, show (nI 3).toNatClampNeg = 3 from Zcl_n (by decide), show (nI 2).toNatClampNeg = 2 from Zcl_n (by decide), if_neg h_z, if_neg h2_z, if_neg h3_z]; exact Zkk_e hg_z hsc)
          refine Zs_eq hX (List.cons_ne_nil _ _) (fun h3_z => ?_) (fun h3_z => ?_)
          · refine Zs_sub (l' := [(7, .ref 49), (6, .ref 51), (0, .ref 0), (2, .int i_z), (4, .int j_z), (5, .int n_z)]) rfl ?_
            exact MISS (Or.inl h3_z)
          · refine Zgo hX 2 rfl (by (first | exact True.intro | assumption | (dsimp only [ZallP]; and_intros <;> (first | assumption | decide | omega | ((try simp (disch := omega) only [pk_mul, nI_add, Zcl_n]); exact Zin_n (by omega) (by decide)))))) ?_
            rw [eb2]
            refine Zs_ne hX (List.cons_ne_nil _ _) (fun h4_z => ?_) (fun h4_z => ?_)
            · have hm_z : ¬ (g_z.1 3 = nI 0 ∨ g_z.1 2 = nI 0) := fun q_z => q_z.elim h3_z h4_z
              refine Zgo hX 4 rfl (by (first | exact True.intro | assumption | (dsimp only [ZallP]; and_intros <;> (first | assumption | decide | omega | ((try simp (disch := omega) only [pk_mul, nI_add, Zcl_n]); exact Zin_n (by omega) (by decide)))))) ?_
              rw [eb1, eb2]
              refine Zs_ieq hX (List.cons_ne_nil _ _) (fun h5_z => ?_) (fun h5_z => ?_)
              · refine Zgo hX 3 rfl (by (first | exact True.intro | assumption | (dsimp only [ZallP]; and_intros <;> (first | assumption | decide | omega | ((try simp (disch := omega) only [pk_mul, nI_add, Zcl_n]); exact Zin_n (by omega) (by decide)))))) ?_
                refine Zs_callv hX (List.cons_ne_nil _ _) (k_has3 i_z n_z s1_z _ ez1 hs1) (by first | decide | omega) (by decide) rfl rfl rfl (by decide) (Nat.le_of_ble_eq_true rfl) (fun r_z M' hc_z => ?_)
                rcases hc_z with ⟨⟨rfl, h6_z⟩ | ⟨rfl, h6_z⟩, rfl⟩
                · refine Zs_eq hX (List.cons_ne_nil _ _) (fun q_z => False.elim (by revert q_z; decide)) (fun _ => ?_)
                  refine Zgo hX 3 rfl (by (first | exact True.intro | assumption | (dsimp only [ZallP]; and_intros <;> (first | assumption | decide | omega | ((try simp (disch := omega) only [pk_mul, nI_add, Zcl_n]); exact Zin_n (by omega) (by decide)))))) ?_
                  refine Zs_callv hX (List.cons_ne_nil _ _) (k_has2 j_z n_z s2_z _ ez2 hs2) (by first | decide | omega) (by decide) rfl rfl rfl (by decide) (Nat.le_of_ble_eq_true rfl) (fun r_z M' hc_z => ?_)
                  rcases hc_z with ⟨⟨rfl, h7_z⟩ | ⟨rfl, h7_z⟩, rfl⟩
                  · refine Zs_ne hX (List.cons_ne_nil _ _) (fun _ => ?_) (fun q_z => False.elim (by revert q_z; decide))
                    obtain ⟨a_z, c_z, rfl, rfl, hac, ha_z, hc_z⟩ := Zfit_i hs1 h6_z.1 h6_z.2.1 h6_z.2.2
                    obtain ⟨a2_z, c2, rfl, ec, hac2, ha2, hc2⟩ := Zfit_i hs2 h7_z.1 h7_z.2.1 h7_z.2.2
                    obtain rfl : c_z = c2 := Zeq hc_z hc2 ec
                    have hC : 0 ≤ (nI c_z).toInt ∧ 0 ≤ (nI a_z).toInt ∧ 0 ≤ (nI a2_z).toInt ∧ (nI a_z).toInt + (nI c_z).toInt ≤ (g_z.2.1 3).toInt ∧ (nI a2_z).toInt + (nI c_z).toInt ≤ (g_z.2.1 2).toInt := ⟨h6_z.2.1, h6_z.1, h7_z.1, by rw [es1]; exact h6_z.2.2, by rw [es2]; exact h7_z.2.2⟩
                    have n0_z : ∀ k_z : Nat, k_z < 2 ^ 31 → ¬ nI k_z < 0 := fun k_z hk_z => Zn_nlt0 hk_z
                    refine Zgo hX 7 rfl (by (first | exact True.intro | assumption | (dsimp only [ZallP]; and_intros <;> (first | assumption | decide | omega | ((try simp (disch := omega) only [pk_mul, nI_add, Zcl_n]); exact Zin_n (by omega) (by decide)))))) ?_
                    refine Zs_copy hX (List.cons_ne_nil _ _) (by decide) (by decide) (by decide) (Or.inl rfl) rfl rfl (n0_z a_z ha_z) (n0_z a2_z ha2) (n0_z c_z hc_z) (by rw [Zcl_n ha_z, Zcl_n hc_z]; omega) (by rw [Zcl_n ha2, Zcl_n hc_z]; omega) (fun q_z => absurd q_z (by decide)) (by decide) ?_
                    rw [Zcl_n ha_z, Zcl_n ha2, Zcl_n hc_z]
                    refine Zgo hX 1 rfl (by (first | exact True.intro | assumption | (dsimp only [ZallP]; and_intros <;> (first | assumption | decide | omega | ((try simp (disch := omega) only [pk_mul, nI_add, Zcl_n]); exact Zin_n (by omega) (by decide)))))) ?_
                    refine Zs_ret hX hE rfl (by rw [Fmove, if_pos hall, show (nI 3).toNatClampNeg = 3 from Zcl_n (by decide), show (nI 2).toNatClampNeg = 2 from Zcl_n (by decide), if_neg hm_z, if_neg (fun q_z => q_z h5_z), if_pos hC, Zcl_n ha_z, Zcl_n ha2, Zcl_n hc_z]; exact ⟨rfl, hg_z.mv (t1 := 3) (t2 := 2) (by decide) (by decide) (by omega) (by omega), Zmv_hg M (by decide) _⟩)
                  · refine Zs_ne hX (List.cons_ne_nil _ _) (fun q_z => False.elim (by revert q_z; decide)) (fun _ => ?_)
                    refine Zs_sub (l' := [(7, .ref 49), (6, .ref 51), (0, .ref 0), (2, .int i_z), (4, .int j_z), (5, .int n_z)]) rfl ?_
                    exact BADN hm_z (fun q_z => q_z h5_z) (fun q_z => h7_z ⟨q_z.2.2.1, q_z.1, by rw [← es2]; exact q_z.2.2.2.2⟩)
                · refine Zs_eq hX (List.cons_ne_nil _ _) (fun _ => ?_) (fun q_z => False.elim (by revert q_z; decide))
                  refine Zs_sub (l' := [(7, .ref 49), (6, .ref 51), (0, .ref 0), (2, .int i_z), (4, .int j_z), (5, .int n_z)]) rfl ?_
                  exact BADN hm_z (fun q_z => q_z h5_z) (fun q_z => h6_z ⟨q_z.2.1, q_z.1, by rw [← es1]; exact q_z.2.2.2.1⟩)
              · skip
                refine Zgo hX 2 rfl (by (first | exact True.intro | assumption | (dsimp only [ZallP]; and_intros <;> (first | assumption | decide | omega | ((try simp (disch := omega) only [pk_mul, nI_add, Zcl_n]); exact Zin_n (by omega) (by decide)))))) ?_
                refine Zs_callv hX (List.cons_ne_nil _ _) (k_refuse 5 _ (by decide)) (by first | decide | omega) (by decide) rfl rfl rfl (by decide) (Nat.le_of_ble_eq_true rfl) (fun r_z M' hc_z => ?_)
                obtain ⟨rfl, hsc⟩ := hc_z
                refine Zs_ret hX hE rfl (by rw [Fmove, if_pos hall, show (nI 3).toNatClampNeg = 3 from Zcl_n (by decide), show (nI 2).toNatClampNeg = 2 from Zcl_n (by decide), if_neg hm_z, if_pos h5_z]; exact Zkk_e hg_z hsc)
            · refine Zs_sub (l' := [(7, .ref 49), (6, .ref 51), (0, .ref 0), (2, .int i_z), (4, .int j_z), (5, .int n_z)]) rfl ?_
              exact MISS (Or.inr h4_z)
        · skip
          have eb1 : M 51 1 = g_z.1 3 := (hg_z 3 (by decide)).1
          have eb2 : M 51 1 = g_z.1 3 := (hg_z 3 (by decide)).1
          obtain ⟨-, s1_z, hs1, es1⟩ := hi_z 3 (by decide)
          obtain ⟨-, s2_z, hs2, es2⟩ := hi_z 3 (by decide)
          have ez1 : M 51 2 = nI s1_z := (hg_z 3 (by decide)).2.1.trans es1
          have ez2 : M 51 2 = nI s2_z := (hg_z 3 (by decide)).2.1.trans es2
          refine Zgo hX 3 rfl (by (first | exact True.intro | assumption | (dsimp only [ZallP]; and_intros <;> (first | assumption | decide | omega | ((try simp (disch := omega) only [pk_mul, nI_add, Zcl_n]); exact Zin_n (by omega) (by decide)))))) ?_
          refine Zs_aald hX (List.cons_ne_nil _ _) (by decide) rfl (by decide) (j := _) rfl (by decide) (by decide) rfl ?_
          refine Zgo hX 4 rfl (by (first | exact True.intro | assumption | (dsimp only [ZallP]; and_intros <;> (first | assumption | decide | omega | ((try simp (disch := omega) only [pk_mul, nI_add, Zcl_n]); exact Zin_n (by omega) (by decide)))))) ?_
          refine Zs_aald hX (List.cons_ne_nil _ _) (by decide) rfl (by decide) (j := _) rfl (by decide) (by decide) rfl ?_
          refine Zgo hX 3 rfl (by (first | exact True.intro | assumption | (dsimp only [ZallP]; and_intros <;> (first | assumption | decide | omega | ((try simp (disch := omega) only [pk_mul, nI_add, Zcl_n]); exact Zin_n (by omega) (by decide)))))) ?_
          rw [eb1]
          have MISS : (g_z.1 3 = nI 0 ∨ g_z.1 3 = nI 0) → ZP X Zt28 (Zsf Zt28 52) [(7, .ref 51), (6, .ref 51), (0, .ref 0), (2, .int i_z), (4, .int j_z), (5, .int n_z)] [] M := by
            intro h_z
            refine Zgo hX 2 rfl (by (first | exact True.intro | assumption | (dsimp only [ZallP]; and_intros <;> (first | assumption | decide | omega | ((try simp (disch := omega) only [pk_mul, nI_add, Zcl_n]); exact Zin_n (by omega) (by decide)))))) ?_
            refine Zs_callv hX (List.cons_ne_nil _ _) (k_refuse 2 _ (by decide)) (by first | decide | omega) (by decide) rfl rfl rfl (by decide) (Nat.le_of_ble_eq_true rfl) (fun r_z M' hc_z => ?_)
            obtain ⟨rfl, hsc⟩ := hc_z
            refine Zs_ret hX hE rfl (by rw [Fmove, if_pos hall, show (nI 3).toNatClampNeg = 3 from Zcl_n (by decide), if_pos h_z]; exact Zkk_e hg_z hsc)
          have BADN : ¬ (g_z.1 3 = nI 0 ∨ g_z.1 3 = nI 0) → ¬ ¬ g_z.1 3 = g_z.1 3 → ¬ (0 ≤ n_z.toInt ∧ 0 ≤ i_z.toInt ∧ 0 ≤ j_z.toInt ∧ i_z.toInt + n_z.toInt ≤ (g_z.2.1 3).toInt ∧ j_z.toInt + n_z.toInt ≤ (g_z.2.1 3).toInt) → ZP X Zt28 (Zsf Zt28 100) [(7, .ref 51), (6, .ref 51), (0, .ref 0), (2, .int i_z), (4, .int j_z), (5, .int n_z)] [] M := by
            intro h_z h2_z h3_z
            refine Zgo hX 2 rfl (by (first | exact True.intro | assumption | (dsimp only [ZallP]; and_intros <;> (first | assumption | decide | omega | ((try simp (disch := omega) only [pk_mul, nI_add, Zcl_n]); exact Zin_n (by omega) (by decide)))))) ?_
            refine Zs_callv hX (List.cons_ne_nil _ _) (k_refuse 1 _ (by decide)) (by first | decide | omega) (by decide) rfl rfl rfl (by decide) (Nat.le_of_ble_eq_true rfl) (fun r_z M' hc_z => ?_)
            obtain ⟨rfl, hsc⟩ := hc_z
            refine Zs_ret hX hE rfl (by rw [Fmove, if_pos hall, show (nI 3).toNatClampNeg = 3 from Zcl_n (by decide), if_neg h_z, if_neg h2_z, if_neg h3_z]; exact Zkk_e hg_z hsc)
          refine Zs_eq hX (List.cons_ne_nil _ _) (fun h3_z => ?_) (fun h3_z => ?_)
          · refine Zs_sub (l' := [(7, .ref 51), (6, .ref 51), (0, .ref 0), (2, .int i_z), (4, .int j_z), (5, .int n_z)]) rfl ?_
            exact MISS (Or.inl h3_z)
          · refine Zgo hX 2 rfl (by (first | exact True.intro | assumption | (dsimp only [ZallP]; and_intros <;> (first | assumption | decide | omega | ((try simp (disch := omega) only [pk_mul, nI_add, Zcl_n]); exact Zin_n (by omega) (by decide)))))) ?_
            rw [eb2]
            refine Zs_ne hX (List.cons_ne_nil _ _) (fun h4_z => ?_) (fun h4_z => ?_)
            · have hm_z : ¬ (g_z.1 3 = nI 0 ∨ g_z.1 3 = nI 0) := fun q_z => q_z.elim h3_z h4_z
              refine Zgo hX 4 rfl (by (first | exact True.intro | assumption | (dsimp only [ZallP]; and_intros <;> (first | assumption | decide | omega | ((try simp (disch := omega) only [pk_mul, nI_add, Zcl_n]); exact Zin_n (by omega) (by decide)))))) ?_
              rw [eb1]
              refine Zs_ieq hX (List.cons_ne_nil _ _) (fun h5_z => ?_) (fun h5_z => ?_)
              · refine Zgo hX 3 rfl (by (first | exact True.intro | assumption | (dsimp only [ZallP]; and_intros <;> (first | assumption | decide | omega | ((try simp (disch := omega) only [pk_mul, nI_add, Zcl_n]); exact Zin_n (by omega) (by decide)))))) ?_
                refine Zs_callv hX (List.cons_ne_nil _ _) (k_has3 i_z n_z s1_z _ ez1 hs1) (by first | decide | omega) (by decide) rfl rfl rfl (by decide) (Nat.le_of_ble_eq_true rfl) (fun r_z M' hc_z => ?_)
                rcases hc_z with ⟨⟨rfl, h6_z⟩ | ⟨rfl, h6_z⟩, rfl⟩
                · refine Zs_eq hX (List.cons_ne_nil _ _) (fun q_z => False.elim (by revert q_z; decide)) (fun _ => ?_)
                  refine Zgo hX 3 rfl (by (first | exact True.intro | assumption | (dsimp only [ZallP]; and_intros <;> (first | assumption | decide | omega | ((try simp (disch := omega) only [pk_mul, nI_add, Zcl_n]); exact Zin_n (by omega) (by decide)))))) ?_
                  refine Zs_callv hX (List.cons_ne_nil _ _) (k_has3 j_z n_z s2_z _ ez2 hs2) (by first | decide | omega) (by decide) rfl rfl rfl (by decide) (Nat.le_of_ble_eq_true rfl) (fun r_z M' hc_z => ?_)
                  rcases hc_z with ⟨⟨rfl, h7_z⟩ | ⟨rfl, h7_z⟩, rfl⟩
                  · refine Zs_ne hX (List.cons_ne_nil _ _) (fun _ => ?_) (fun q_z => False.elim (by revert q_z; decide))
                    obtain ⟨a_z, c_z, rfl, rfl, hac, ha_z, hc_z⟩ := Zfit_i hs1 h6_z.1 h6_z.2.1 h6_z.2.2
                    obtain ⟨a2_z, c2, rfl, ec, hac2, ha2, hc2⟩ := Zfit_i hs2 h7_z.1 h7_z.2.1 h7_z.2.2
                    obtain rfl : c_z = c2 := Zeq hc_z hc2 ec
                    have hC : 0 ≤ (nI c_z).toInt ∧ 0 ≤ (nI a_z).toInt ∧ 0 ≤ (nI a2_z).toInt ∧ (nI a_z).toInt + (nI c_z).toInt ≤ (g_z.2.1 3).toInt ∧ (nI a2_z).toInt + (nI c_z).toInt ≤ (g_z.2.1 3).toInt := ⟨h6_z.2.1, h6_z.1, h7_z.1, by rw [es1]; exact h6_z.2.2, by rw [es2]; exact h7_z.2.2⟩
                    have n0_z : ∀ k_z : Nat, k_z < 2 ^ 31 → ¬ nI k_z < 0 := fun k_z hk_z => Zn_nlt0 hk_z
                    refine Zgo hX 7 rfl (by (first | exact True.intro | assumption | (dsimp only [ZallP]; and_intros <;> (first | assumption | decide | omega | ((try simp (disch := omega) only [pk_mul, nI_add, Zcl_n]); exact Zin_n (by omega) (by decide)))))) ?_
                    refine Zs_copy hX (List.cons_ne_nil _ _) (by decide) (by decide) (by decide) (Or.inl rfl) rfl rfl (n0_z a_z ha_z) (n0_z a2_z ha2) (n0_z c_z hc_z) (by rw [Zcl_n ha_z, Zcl_n hc_z]; omega) (by rw [Zcl_n ha2, Zcl_n hc_z]; omega) (fun q_z => absurd q_z (by decide)) (by decide) ?_
                    rw [Zcl_n ha_z, Zcl_n ha2, Zcl_n hc_z]
                    refine Zgo hX 1 rfl (by (first | exact True.intro | assumption | (dsimp only [ZallP]; and_intros <;> (first | assumption | decide | omega | ((try simp (disch := omega) only [pk_mul, nI_add, Zcl_n]); exact Zin_n (by omega) (by decide)))))) ?_
                    refine Zs_ret hX hE rfl (by rw [Fmove, if_pos hall, show (nI 3).toNatClampNeg = 3 from Zcl_n (by decide), if_neg hm_z, if_neg (fun q_z => q_z h5_z), if_pos hC, Zcl_n ha_z, Zcl_n ha2, Zcl_n hc_z]; exact ⟨rfl, hg_z.mv (t1 := 3) (t2 := 3) (by decide) (by decide) (by omega) (by omega), Zmv_hg M (by decide) _⟩)
                  · refine Zs_ne hX (List.cons_ne_nil _ _) (fun q_z => False.elim (by revert q_z; decide)) (fun _ => ?_)
                    refine Zs_sub (l' := [(7, .ref 51), (6, .ref 51), (0, .ref 0), (2, .int i_z), (4, .int j_z), (5, .int n_z)]) rfl ?_
                    exact BADN hm_z (fun q_z => q_z h5_z) (fun q_z => h7_z ⟨q_z.2.2.1, q_z.1, by rw [← es2]; exact q_z.2.2.2.2⟩)
                · refine Zs_eq hX (List.cons_ne_nil _ _) (fun _ => ?_) (fun q_z => False.elim (by revert q_z; decide))
                  refine Zs_sub (l' := [(7, .ref 51), (6, .ref 51), (0, .ref 0), (2, .int i_z), (4, .int j_z), (5, .int n_z)]) rfl ?_
                  exact BADN hm_z (fun q_z => q_z h5_z) (fun q_z => h6_z ⟨q_z.2.1, q_z.1, by rw [← es1]; exact q_z.2.2.2.1⟩)
              · skip
                refine Zgo hX 2 rfl (by (first | exact True.intro | assumption | (dsimp only [ZallP]; and_intros <;> (first | assumption | decide | omega | ((try simp (disch := omega) only [pk_mul, nI_add, Zcl_n]); exact Zin_n (by omega) (by decide)))))) ?_
                refine Zs_callv hX (List.cons_ne_nil _ _) (k_refuse 5 _ (by decide)) (by first | decide | omega) (by decide) rfl rfl rfl (by decide) (Nat.le_of_ble_eq_true rfl) (fun r_z M' hc_z => ?_)
                obtain ⟨rfl, hsc⟩ := hc_z
                refine Zs_ret hX hE rfl (by rw [Fmove, if_pos hall, show (nI 3).toNatClampNeg = 3 from Zcl_n (by decide), if_neg hm_z, if_pos h5_z]; exact Zkk_e hg_z hsc)
            · refine Zs_sub (l' := [(7, .ref 51), (6, .ref 51), (0, .ref 0), (2, .int i_z), (4, .int j_z), (5, .int n_z)]) rfl ?_
              exact MISS (Or.inr h4_z)
    · refine Zs_ne hX (List.cons_ne_nil _ _) (fun q_z => False.elim (by revert q_z; decide)) (fun _ => ?_)
      exact BAD (fun q_z => h2_z q_z.2)
  · refine Zs_eq hX (List.cons_ne_nil _ _) (fun _ => ?_) (fun q_z => False.elim (by revert q_z; decide))
    exact BAD (fun q_z => h1_z q_z.1)

set_option maxRecDepth 20000 in
set_option maxHeartbeats 4000000 in
theorem s_move (sh i_z oh j_z n_z : Int32) (M : Zmem) (hi_z : Zsiv (Zgs M)) : ZC 126 3 [.ref 53, .int sh, .int i_z, .int oh, .int j_z, .int n_z] M (Zsk_ (Fmove (Zgs M) sh i_z oh j_z n_z) M) := by
  refine ZC_of Zt126 Zk126 (Nat.le_of_ble_eq_true rfl) (by decide) rfl (fun X hX hE => ?_)
  have BAD : ¬ ((nI 0 ≤ sh ∧ sh ≤ nI 3) ∧ (nI 0 ≤ oh ∧ oh ≤ nI 3)) → ZP X Zt126 (Zsf Zt126 14) (lv_args 0 [.ref 53, .int sh, .int i_z, .int oh, .int j_z, .int n_z]) [] M := by
    intro h_z
    refine Zgo hX 2 rfl (by (first | exact True.intro | assumption | (dsimp only [ZallP]; and_intros <;> (first | assumption | decide | omega | ((try simp (disch := omega) only [pk_mul, nI_add, Zcl_n]); exact Zin_n (by omega) (by decide)))))) ?_
    refine Zs_callv hX (List.cons_ne_nil _ _) (s_error 1 _ (by decide)) (by first | decide | omega) (by decide) rfl rfl rfl (by decide) (Nat.le_of_ble_eq_true rfl) (fun r_z M' hc_z => ?_)
    obtain ⟨rfl, hsc⟩ := hc_z
    refine Zs_ret hX hE rfl (by rw [Fmove, if_neg h_z]; exact Zsk_e hsc)
  refine Zgo hX 1 rfl (by (first | exact True.intro | assumption | (dsimp only [ZallP]; and_intros <;> (first | assumption | decide | omega | ((try simp (disch := omega) only [pk_mul, nI_add, Zcl_n]); exact Zin_n (by omega) (by decide)))))) ?_
  refine Zs_calls hX (List.cons_ne_nil _ _) (by decide) (s_isSheet _ _) (by first | decide | omega) rfl rfl (by decide) (Nat.le_of_ble_eq_true rfl) (fun r_z M' hc_z => ?_)
  rcases hc_z with ⟨⟨rfl, h1_z⟩ | ⟨rfl, h1_z⟩, rfl⟩
  · refine Zs_eq hX (List.cons_ne_nil _ _) (fun q_z => False.elim (by revert q_z; decide)) (fun _ => ?_)
    refine Zgo hX 1 rfl (by (first | exact True.intro | assumption | (dsimp only [ZallP]; and_intros <;> (first | assumption | decide | omega | ((try simp (disch := omega) only [pk_mul, nI_add, Zcl_n]); exact Zin_n (by omega) (by decide)))))) ?_
    refine Zs_calls hX (List.cons_ne_nil _ _) (by decide) (s_isSheet _ _) (by first | decide | omega) rfl rfl (by decide) (Nat.le_of_ble_eq_true rfl) (fun r_z M' hc_z => ?_)
    rcases hc_z with ⟨⟨rfl, h2_z⟩ | ⟨rfl, h2_z⟩, rfl⟩
    · refine Zs_ne hX (List.cons_ne_nil _ _) (fun _ => ?_) (fun q_z => False.elim (by revert q_z; decide))
      have hall := And.intro h1_z h2_z
      obtain ⟨t, ht_z, rfl⟩ := Zbt_ex (b_z := 3) (by decide) h1_z
      obtain ⟨t', ht', rfl⟩ := Zbt_ex (b_z := 3) (by decide) h2_z
      have et : (nI t).toNatClampNeg = t := Zcl_n (by omega)
      have et2 : (nI t').toNatClampNeg = t' := Zcl_n (by omega)
      obtain ⟨-, s1_z, hs1, es1⟩ := hi_z t (by omega)
      obtain ⟨-, s2_z, hs2, es2⟩ := hi_z t' (by omega)
      have MISS : ((Zgs M).1 t = nI 0 ∨ (Zgs M).1 t' = nI 0) → ZP X Zt126 (Zsf Zt126 38) (lv_args 0 [.ref 53, .int (nI t), .int i_z, .int (nI t'), .int j_z, .int n_z]) [] M := by
        intro h_z
        refine Zgo hX 2 rfl (by (first | exact True.intro | assumption | (dsimp only [ZallP]; and_intros <;> (first | assumption | decide | omega | ((try simp (disch := omega) only [pk_mul, nI_add, Zcl_n]); exact Zin_n (by omega) (by decide)))))) ?_
        refine Zs_callv hX (List.cons_ne_nil _ _) (s_error 2 _ (by decide)) (by first | decide | omega) (by decide) rfl rfl rfl (by decide) (Nat.le_of_ble_eq_true rfl) (fun r_z M' hc_z => ?_)
        obtain ⟨rfl, hsc⟩ := hc_z
        refine Zs_ret hX hE rfl (by rw [Fmove, if_pos hall, et, et2, if_pos h_z]; exact Zsk_e hsc)
      refine Zgo hX 4 rfl (Zin_n (by omega) (by decide)) ?_
      rw [et]
      refine Zs_eq hX (List.cons_ne_nil _ _) (fun h3_z => ?_) (fun h3_z => ?_)
      · exact MISS (Or.inl h3_z)
      · refine Zgo hX 4 rfl (Zin_n (by omega) (by decide)) ?_
        rw [et2]
        refine Zs_ne hX (List.cons_ne_nil _ _) (fun h4_z => ?_) (fun h4_z => ?_)
        · have hm_z : ¬ ((Zgs M).1 t = nI 0 ∨ (Zgs M).1 t' = nI 0) := fun q_z => q_z.elim h3_z h4_z
          refine Zgo hX 8 rfl (by dsimp only [ZallP]; exact ⟨Zin_n (by omega) (by decide), Zin_n (by omega) (by decide)⟩) ?_
          rw [et, et2]
          refine Zs_ieq hX (List.cons_ne_nil _ _) (fun h5_z => ?_) (fun h5_z => ?_)
          · have BADN : ¬ (0 ≤ n_z.toInt ∧ 0 ≤ i_z.toInt ∧ 0 ≤ j_z.toInt ∧ i_z.toInt + n_z.toInt ≤ ((Zgs M).2.1 t).toInt ∧ j_z.toInt + n_z.toInt ≤ ((Zgs M).2.1 t').toInt) → ZP X Zt126 (Zsf Zt126 106) (lv_args 0 [.ref 53, .int (nI t), .int i_z, .int (nI t'), .int j_z, .int n_z]) [] M := by
              intro h6_z
              refine Zgo hX 2 rfl (by (first | exact True.intro | assumption | (dsimp only [ZallP]; and_intros <;> (first | assumption | decide | omega | ((try simp (disch := omega) only [pk_mul, nI_add, Zcl_n]); exact Zin_n (by omega) (by decide)))))) ?_
              refine Zs_callv hX (List.cons_ne_nil _ _) (s_error 1 _ (by decide)) (by first | decide | omega) (by decide) rfl rfl rfl (by decide) (Nat.le_of_ble_eq_true rfl) (fun r_z M' hc_z => ?_)
              obtain ⟨rfl, hsc⟩ := hc_z
              refine Zs_ret hX hE rfl (by rw [Fmove, if_pos hall, et, et2, if_neg hm_z, if_neg (fun q_z => q_z h5_z), if_neg h6_z]; exact Zsk_e hsc)
            refine Zgo hX 1 rfl (by (first | exact True.intro | assumption | (dsimp only [ZallP]; and_intros <;> (first | assumption | decide | omega | ((try simp (disch := omega) only [pk_mul, nI_add, Zcl_n]); exact Zin_n (by omega) (by decide)))))) ?_
            refine Zs_lt hX (List.cons_ne_nil _ _) (fun h6_z => ?_) (fun h6_z => ?_)
            · have h6_z := (Zlt_i n_z 0).mp h6_z
              exact BADN (fun q_z => absurd q_z.1 (Int.not_le.mpr h6_z))
            · have h6_z : 0 ≤ n_z.toInt := Int.not_lt.mp (fun q_z => h6_z ((Zlt_i n_z 0).mpr q_z))
              refine Zgo hX 1 rfl (by (first | exact True.intro | assumption | (dsimp only [ZallP]; and_intros <;> (first | assumption | decide | omega | ((try simp (disch := omega) only [pk_mul, nI_add, Zcl_n]); exact Zin_n (by omega) (by decide)))))) ?_
              refine Zs_lt hX (List.cons_ne_nil _ _) (fun h7_z => ?_) (fun h7_z => ?_)
              · have h7_z := (Zlt_i i_z 0).mp h7_z
                exact BADN (fun q_z => absurd q_z.2.1 (Int.not_le.mpr h7_z))
              · have h7_z : 0 ≤ i_z.toInt := Int.not_lt.mp (fun q_z => h7_z ((Zlt_i i_z 0).mpr q_z))
                refine Zgo hX 1 rfl (by (first | exact True.intro | assumption | (dsimp only [ZallP]; and_intros <;> (first | assumption | decide | omega | ((try simp (disch := omega) only [pk_mul, nI_add, Zcl_n]); exact Zin_n (by omega) (by decide)))))) ?_
                refine Zs_lt hX (List.cons_ne_nil _ _) (fun h8_z => ?_) (fun h8_z => ?_)
                · have h8_z := (Zlt_i j_z 0).mp h8_z
                  exact BADN (fun q_z => absurd q_z.2.2.1 (Int.not_le.mpr h8_z))
                · have h8_z : 0 ≤ j_z.toInt := Int.not_lt.mp (fun q_z => h8_z ((Zlt_i j_z 0).mpr q_z))
                  have z1_z : ((Zgs M).2.1 t).toInt = s1_z := by rw [es1]; exact Zn_i (by omega)
                  have z2_z : ((Zgs M).2.1 t').toInt = s2_z := by rw [es2]; exact Zn_i (by omega)
                  have hnr := Zr_hi n_z
                  have d1 : ((Zgs M).2.1 t - n_z).toInt = ((Zgs M).2.1 t).toInt - n_z.toInt := Zsub_i (by omega) (by omega)
                  have d2 : ((Zgs M).2.1 t' - n_z).toInt = ((Zgs M).2.1 t').toInt - n_z.toInt := Zsub_i (by omega) (by omega)
                  refine Zgo hX 7 rfl (Zin_n (by omega) (by decide)) ?_
                  rw [et]
                  refine Zs_igt hX (List.cons_ne_nil _ _) (fun h9_z => ?_) (fun h9_z => ?_)
                  · have h9_z := (Zlt_i ((Zgs M).2.1 t - n_z) i_z).mp h9_z
                    exact BADN (fun q_z => by have := q_z.2.2.2.1; omega)
                  · have h9_z : i_z.toInt ≤ ((Zgs M).2.1 t - n_z).toInt := Int.not_lt.mp (fun q_z => h9_z ((Zlt_i _ _).mpr q_z))
                    refine Zgo hX 7 rfl (Zin_n (by omega) (by decide)) ?_
                    rw [et2]
                    refine Zs_ile hX (List.cons_ne_nil _ _) (fun h10_z => ?_) (fun h10_z => ?_)
                    · have h10_z : j_z.toInt ≤ ((Zgs M).2.1 t' - n_z).toInt := (Zle_i _ _).mp h10_z
                      have hC : 0 ≤ n_z.toInt ∧ 0 ≤ i_z.toInt ∧ 0 ≤ j_z.toInt ∧ i_z.toInt + n_z.toInt ≤ ((Zgs M).2.1 t).toInt ∧ j_z.toInt + n_z.toInt ≤ ((Zgs M).2.1 t').toInt := ⟨h6_z, h7_z, h8_z, by omega, by omega⟩
                      obtain ⟨a_z, c_z, rfl, rfl, hac, ha_z, hc_z⟩ := Zfit_i (s_z := s1_z) hs1 h7_z h6_z (by have e_z : (nI s1_z).toInt = s1_z := Zn_i (by omega); omega)
                      obtain ⟨a2_z, c2, rfl, ec, hac2, ha2, hc2⟩ := Zfit_i (s_z := s2_z) hs2 h8_z h6_z (by have e_z : (nI s2_z).toInt = s2_z := Zn_i (by omega); omega)
                      obtain rfl : c_z = c2 := Zeq hc_z hc2 ec
                      have L2 : ∀ (q_z k_z : Nat) (M1 : Zmem), c_z - k_z < q_z → k_z ≤ c_z → M1 66 = M 66 → M1 67 = M 67 → M1 68 = Zmo (M 68) (24 * t + a_z) (24 * t' + a2_z) k_z → (∀ k_z, k_z < c_z → M1 69 k_z = M 68 (24 * t + a_z + k_z)) → Zhr M M1 → ZP X Zt126 (Zsf Zt126 152) [(6, .int (nI k_z)), (0, .ref 53), (1, .int (nI t)), (2, .int (nI a_z)), (3, .int (nI t')), (4, .int (nI a2_z)), (5, .int (nI c_z))] [] M1 := by
                        intro q_z
                        induction q_z with
                        | zero => intro k_z M1 hq_z; exact absurd hq_z (Nat.not_lt_zero _)
                        | succ q_z ih_z =>
                          intro k_z M1 hq_z hk_z e66 e67 e68 e69 hh
                          refine Zgo hX 2 rfl (by (first | exact True.intro | assumption | (dsimp only [ZallP]; and_intros <;> (first | assumption | decide | omega | ((try simp (disch := omega) only [pk_mul, nI_add, Zcl_n]); exact Zin_n (by omega) (by decide)))))) ?_
                          refine Zs_ige hX (List.cons_ne_nil _ _) (fun h11_z => ?_) (fun h11_z => ?_)
                          · obtain rfl : k_z = c_z := by have := (Zn_le (by omega) (by omega)).mp h11_z; omega
                            refine Zgo hX 1 rfl (by (first | exact True.intro | assumption | (dsimp only [ZallP]; and_intros <;> (first | assumption | decide | omega | ((try simp (disch := omega) only [pk_mul, nI_add, Zcl_n]); exact Zin_n (by omega) (by decide)))))) ?_
                            refine Zs_ret hX hE rfl (by rw [Fmove, if_pos hall, et, et2, if_neg hm_z, if_neg (fun q_z => q_z h5_z), if_pos hC, Zcl_n ha_z, Zcl_n ha2, Zcl_n hc_z]; exact ⟨rfl, by unfold Zgs; rw [e66, e67, e68], hh⟩)
                          · have hlt : k_z < c_z := (Nat.lt_or_ge k_z c_z).elim id (fun q_z => absurd ((Zn_le (by omega) (by omega)).mpr q_z) h11_z)
                            refine Zgo hX 16 rfl (by dsimp only [ZallP]; simp only [pk_mul, nI_add]; exact ⟨Zin_n (by omega) (by decide), Zin_n (by omega) (by decide)⟩) ?_
                            simp (disch := omega) only [Zcl_n, pk_mul, nI_add, Zu_s, Zu_o]
                            rw [e69 k_z hlt]
                            refine Zs_sub (l' := [(6, .int (nI (k_z + 1))), (0, .ref 53), (1, .int (nI t)), (2, .int (nI a_z)), (3, .int (nI t')), (4, .int (nI a2_z)), (5, .int (nI c_z))]) rfl ?_
                            refine ih_z (k_z + 1) _ (by omega) hlt e66 e67 (by rw [Zu_at, e68, show 24 * t' + a2_z + k_z = 24 * t' + a2_z + k_z from rfl]; rfl) e69 (hh.u 68 (by decide) _ _)
                      have L1 : ∀ (q_z k_z : Nat) (M1 : Zmem), c_z - k_z < q_z → k_z ≤ c_z → (∀ o_z, o_z ≠ 69 → M1 o_z = M o_z) → (∀ j_z, j_z < k_z → M1 69 j_z = M 68 (24 * t + a_z + j_z)) → ZP X Zt126 (Zsf Zt126 115) [(6, .int (nI k_z)), (0, .ref 53), (1, .int (nI t)), (2, .int (nI a_z)), (3, .int (nI t')), (4, .int (nI a2_z)), (5, .int (nI c_z))] [] M1 := by
                        intro q_z
                        induction q_z with
                        | zero => intro k_z M1 hq_z; exact absurd hq_z (Nat.not_lt_zero _)
                        | succ q_z ih_z =>
                          intro k_z M1 hq_z hk_z hsame e69
                          refine Zgo hX 2 rfl (by (first | exact True.intro | assumption | (dsimp only [ZallP]; and_intros <;> (first | assumption | decide | omega | ((try simp (disch := omega) only [pk_mul, nI_add, Zcl_n]); exact Zin_n (by omega) (by decide)))))) ?_
                          refine Zs_ige hX (List.cons_ne_nil _ _) (fun h11_z => ?_) (fun h11_z => ?_)
                          · obtain rfl : k_z = c_z := by have := (Zn_le (by omega) (by omega)).mp h11_z; omega
                            refine Zgo hX 2 rfl (by (first | exact True.intro | assumption | (dsimp only [ZallP]; and_intros <;> (first | assumption | decide | omega | ((try simp (disch := omega) only [pk_mul, nI_add, Zcl_n]); exact Zin_n (by omega) (by decide)))))) ?_
                            refine Zs_sub (l' := [(6, .int (nI 0)), (0, .ref 53), (1, .int (nI t)), (2, .int (nI a_z)), (3, .int (nI t')), (4, .int (nI a2_z)), (5, .int (nI k_z))]) rfl ?_
                            exact L2 (k_z + 1) 0 M1 (by omega) (by omega) (hsame 66 (by decide)) (hsame 67 (by decide)) (hsame 68 (by decide)) e69 (fun o_z k_z z_z _ => by
                              by_cases e_z : o_z = 69
                              · subst e_z; exact Bool.noConfusion (show true = false from z_z)
                              · rw [hsame o_z e_z])
                          · have hlt : k_z < c_z := (Nat.lt_or_ge k_z c_z).elim id (fun q_z => absurd ((Zn_le (by omega) (by omega)).mpr q_z) h11_z)
                            refine Zgo hX 16 rfl (by dsimp only [ZallP]; simp only [pk_mul, nI_add]; exact ⟨Zin_n (by omega) (by decide), Zin_n (by omega) (by decide)⟩) ?_
                            simp (disch := omega) only [Zcl_n, pk_mul, nI_add, Zu_s, Zu_o]
                            rw [hsame 68 (by decide)]
                            refine Zs_sub (l' := [(6, .int (nI (k_z + 1))), (0, .ref 53), (1, .int (nI t)), (2, .int (nI a_z)), (3, .int (nI t')), (4, .int (nI a2_z)), (5, .int (nI c_z))]) rfl ?_
                            refine ih_z (k_z + 1) _ (by omega) hlt (fun o_z ho => by rw [Zu_ne _ _ _ ho]; exact hsame o_z ho) (fun j_z hj_z => ?_)
                            by_cases e_z : j_z = k_z
                            · subst e_z; rw [Zu_s]
                            · rw [Zu_o (by omega)]; exact e69 j_z (by omega)
                      refine Zgo hX 2 rfl (by (first | exact True.intro | assumption | (dsimp only [ZallP]; and_intros <;> (first | assumption | decide | omega | ((try simp (disch := omega) only [pk_mul, nI_add, Zcl_n]); exact Zin_n (by omega) (by decide)))))) ?_
                      refine Zs_sub (l' := [(6, .int (nI 0)), (0, .ref 53), (1, .int (nI t)), (2, .int (nI a_z)), (3, .int (nI t')), (4, .int (nI a2_z)), (5, .int (nI c_z))]) rfl ?_
                      exact L1 (c_z + 1) 0 M (by omega) (by omega) (fun o_z _ => rfl) (fun j_z hj_z => absurd hj_z (Nat.not_lt_zero _))
                    · have h10_z : ((Zgs M).2.1 t' - n_z).toInt < j_z.toInt := Int.not_le.mp (fun q_z => h10_z ((Zle_i _ _).mpr q_z))
                      exact BADN (fun q_z => by have := q_z.2.2.2.2; omega)
          · skip
            refine Zgo hX 2 rfl (by (first | exact True.intro | assumption | (dsimp only [ZallP]; and_intros <;> (first | assumption | decide | omega | ((try simp (disch := omega) only [pk_mul, nI_add, Zcl_n]); exact Zin_n (by omega) (by decide)))))) ?_
            refine Zs_callv hX (List.cons_ne_nil _ _) (s_error 5 _ (by decide)) (by first | decide | omega) (by decide) rfl rfl rfl (by decide) (Nat.le_of_ble_eq_true rfl) (fun r_z M' hc_z => ?_)
            obtain ⟨rfl, hsc⟩ := hc_z
            refine Zs_ret hX hE rfl (by rw [Fmove, if_pos hall, et, et2, if_neg hm_z, if_pos (show ¬ (Zgs M).1 t = (Zgs M).1 t' from h5_z)]; exact Zsk_e hsc)
        · exact MISS (Or.inr h4_z)
    · refine Zs_ne hX (List.cons_ne_nil _ _) (fun q_z => False.elim (by revert q_z; decide)) (fun _ => ?_)
      exact BAD (fun q_z => h2_z q_z.2)
  · refine Zs_eq hX (List.cons_ne_nil _ _) (fun _ => ?_) (fun q_z => False.elim (by revert q_z; decide))
    exact BAD (fun q_z => h1_z q_z.1)

set_option maxRecDepth 20000 in
set_option maxHeartbeats 4000000 in
theorem k_tensions (g_z : Zsn) (f_z : Nat → Int32) (n_z : Nat) (sh : Int32) (M : Zmem) (hg_z : Zks g_z M) (hi_z : Zsiv g_z) (hz_z : Zrv 1 f_z M) (hfi : Zfi f_z) (hn_z : f_z 7 = nI n_z) (hn2 : n_z ≤ 15) : ZC 29 4 [.ref 0, .int sh] M (Zkok (Ften g_z f_z n_z sh) M) := by
  refine ZC_of Zt29 Zk29 (Nat.le_of_ble_eq_true rfl) (by decide) rfl (fun X hX hE => ?_)
  refine Zgo hX 2 rfl (by (first | exact True.intro | assumption | (dsimp only [ZallP]; and_intros <;> (first | assumption | decide | omega | ((try simp (disch := omega) only [pk_mul, nI_add, Zcl_n]); exact Zin_n (by omega) (by decide)))))) ?_
  refine Zs_callv hX (List.cons_ne_nil _ _) (k_why g_z sh M hg_z) (by first | decide | omega) (by decide) rfl rfl rfl (by decide) (Nat.le_of_ble_eq_true rfl) (fun r_z M' hc_z => ?_)
  obtain ⟨rfl, rfl⟩ := hc_z
  rcases Fwhy_lt g_z sh with hw_z | hw_z | hw_z
  · rw [hw_z]
    refine Zgo hX 2 rfl (by (first | exact True.intro | assumption | (dsimp only [ZallP]; and_intros <;> (first | assumption | decide | omega | ((try simp (disch := omega) only [pk_mul, nI_add, Zcl_n]); exact Zin_n (by omega) (by decide)))))) ?_
    refine Zs_eq hX (List.cons_ne_nil _ _) (fun _ => ?_) (fun q_z => False.elim (by revert q_z; decide))
    obtain ⟨t, ht_z, rfl, et, hb0⟩ := Fwhy_0 hw_z
    obtain ⟨hbt, s_z, hs24, hs_z⟩ := hi_z t ht_z
    refine Zgo hX 3 rfl (by (first | exact True.intro | assumption | (dsimp only [ZallP]; and_intros <;> (first | assumption | decide | omega | ((try simp (disch := omega) only [pk_mul, nI_add, Zcl_n]); exact Zin_n (by omega) (by decide)))))) ?_
    rcases (show t = 0 ∨ t = 1 ∨ t = 2 ∨ t = 3 by omega) with rfl | rfl | rfl | rfl
    · skip
      refine Zs_aald hX (List.cons_ne_nil _ _) (by decide) rfl (by decide) (j := _) rfl (by decide) (by decide) rfl ?_
      have es : M 45 2 = nI s_z := (hg_z 0 (by decide)).2.1.trans hs_z
      have OUT : ∀ (k_z : Nat) (f1_z : Nat → Int32) (M1 : Zmem), (k_z, f1_z) = Zte g_z.2.2 0 s_z n_z 24 0 f_z → Zrv 1 f1_z M1 → Zhk M M1 → ZP X Zt29 (Zsf Zt29 83) [(3, .ref 45), (4, .int (nI k_z)), (0, .ref 0)] [] M1 := by
        intro k_z f1_z M1 he_z hz1 hh
        refine Zgo hX 1 rfl (by (first | exact True.intro | assumption | (dsimp only [ZallP]; and_intros <;> (first | assumption | decide | omega | ((try simp (disch := omega) only [pk_mul, nI_add, Zcl_n]); exact Zin_n (by omega) (by decide)))))) ?_
        refine Zs_ret hX hE rfl (by rw [Ften, if_pos hw_z, et, hs_z, Zcl_n (show s_z < 2 ^ 31 by omega), ← he_z]; exact ⟨rfl, hz1, hh⟩)
      have L : ∀ (q_z k_z : Nat) (f1_z : Nat → Int32) (M1 : Zmem), k_z + q_z = 24 → Zrv 1 f1_z M1 → f1_z 7 = nI n_z → (∀ o_z, 45 ≤ o_z → o_z ≤ 52 → M1 o_z = M o_z) → Zte g_z.2.2 0 s_z n_z q_z k_z f1_z = Zte g_z.2.2 0 s_z n_z 24 0 f_z → Zhk M M1 → ZP X Zt29 (Zsf Zt29 26) [(3, .ref 45), (4, .int (nI k_z)), (0, .ref 0)] [] M1 := by
        intro q_z
        induction q_z with
        | zero =>
          intro k_z f1_z M1 hk_z hz1 h7_z hsame he_z hh
          refine Zgo hX 3 rfl (by (first | exact True.intro | assumption | (dsimp only [ZallP]; and_intros <;> (first | assumption | decide | omega | ((try simp (disch := omega) only [pk_mul, nI_add, Zcl_n]); exact Zin_n (by omega) (by decide)))))) ?_
          rw [show M1 45 2 = nI s_z by rw [hsame 45 (by decide) (by decide)]; exact es]
          refine Zs_ige hX (List.cons_ne_nil _ _) (fun h_z => ?_) (fun h_z => ?_)
          · exact OUT k_z f1_z M1 he_z hz1 hh
          · exact absurd ((Zn_le (by omega) (by omega)).mpr (by omega)) h_z
        | succ q_z ih_z =>
          intro k_z f1_z M1 hk_z hz1 h7_z hsame he_z hh
          have STOP : ¬ (k_z < s_z ∧ k_z < n_z ∧ -(nI 9) ≤ g_z.2.2 (24 * 0 + k_z) ∧ g_z.2.2 (24 * 0 + k_z) ≤ nI 9) → ZP X Zt29 (Zsf Zt29 83) [(3, .ref 45), (4, .int (nI k_z)), (0, .ref 0)] [] M1 := by
            intro c_z
            rw [Zte, if_neg c_z] at he_z
            exact OUT k_z f1_z M1 he_z hz1 hh
          refine Zgo hX 3 rfl (by (first | exact True.intro | assumption | (dsimp only [ZallP]; and_intros <;> (first | assumption | decide | omega | ((try simp (disch := omega) only [pk_mul, nI_add, Zcl_n]); exact Zin_n (by omega) (by decide)))))) ?_
          rw [show M1 45 2 = nI s_z by rw [hsame 45 (by decide) (by decide)]; exact es]
          refine Zs_ige hX (List.cons_ne_nil _ _) (fun h_z => ?_) (fun h_z => ?_)
          · exact STOP (fun q_z => absurd ((Zn_le (by omega) (by omega)).mp h_z) (by omega))
          · have hks : k_z < s_z := (Nat.lt_or_ge k_z s_z).elim id (fun q_z => absurd ((Zn_le (by omega) (by omega)).mpr q_z) h_z)
            refine Zgo hX 4 rfl (by (first | exact True.intro | assumption | (dsimp only [ZallP]; and_intros <;> (first | assumption | decide | omega | ((try simp (disch := omega) only [pk_mul, nI_add, Zcl_n]); exact Zin_n (by omega) (by decide)))))) ?_
            rw [hz1.n h7_z]
            refine Zs_ige hX (List.cons_ne_nil _ _) (fun h2_z => ?_) (fun h2_z => ?_)
            · exact STOP (fun q_z => absurd ((Zn_le (by omega) (by omega)).mp h2_z) (by omega))
            · have hkn : k_z < n_z := (Nat.lt_or_ge k_z n_z).elim id (fun q_z => absurd ((Zn_le (by omega) (by omega)).mpr q_z) h2_z)
              have ev : M1 46 k_z = g_z.2.2 (24 * 0 + k_z) := by rw [hsame 46 (by decide) (by decide)]; exact (hg_z 0 (by decide)).2.2 k_z (by omega)
              refine Zgo hX 4 rfl (Zin_n (by omega) (by decide)) ?_
              rw [Zcl_n (show k_z < 2 ^ 31 by omega), ev]
              refine Zs_calls hX (List.cons_ne_nil _ _) (by decide) (k_isTension _ _) (by first | decide | omega) rfl rfl (by decide) (Nat.le_of_ble_eq_true rfl) (fun r_z M' hc_z => ?_)
              rcases hc_z with ⟨⟨rfl, h3_z⟩ | ⟨rfl, h3_z⟩, rfl⟩
              · refine Zs_eq hX (List.cons_ne_nil _ _) (fun q_z => False.elim (by revert q_z; decide)) (fun _ => ?_)
                rw [Zte, if_pos ⟨hks, hkn, h3_z.1, h3_z.2⟩] at he_z
                refine Zgo hX 11 rfl (by dsimp only [ZallP]; exact ⟨Zin_n (by omega) (by decide), Zin_n (by omega) (by decide)⟩) ?_
                rw [Zcl_n (show k_z < 2 ^ 31 by omega), ev, nI_add]
                refine Zs_sub (l' := [(3, .ref 45), (4, .int (nI (k_z + 1))), (0, .ref 0)]) rfl ?_
                exact ih_z (k_z + 1) _ _ (by omega) (hz1.r3 _ (by omega)) (by rw [pk_un (by omega)]; exact h7_z) (fun o_z h1_z h2_z => by rw [Zu_ne _ _ _ (by omega)]; exact hsame o_z h1_z h2_z) he_z (hh.u 5 (by decide) _ _)
              · refine Zs_eq hX (List.cons_ne_nil _ _) (fun _ => ?_) (fun q_z => False.elim (by revert q_z; decide))
                exact STOP (fun q_z => h3_z q_z.2.2)
      refine Zgo hX 3 rfl (by (first | exact True.intro | assumption | (dsimp only [ZallP]; and_intros <;> (first | assumption | decide | omega | ((try simp (disch := omega) only [pk_mul, nI_add, Zcl_n]); exact Zin_n (by omega) (by decide)))))) ?_
      refine Zs_sub (l' := [(3, .ref 45), (4, .int (nI 0)), (0, .ref 0)]) rfl ?_
      exact L 24 0 f_z M rfl hz_z hn_z (fun _ _ _ => rfl) rfl (Zhk.rf _)
    · skip
      refine Zs_aald hX (List.cons_ne_nil _ _) (by decide) rfl (by decide) (j := _) rfl (by decide) (by decide) rfl ?_
      have es : M 47 2 = nI s_z := (hg_z 1 (by decide)).2.1.trans hs_z
      have OUT : ∀ (k_z : Nat) (f1_z : Nat → Int32) (M1 : Zmem), (k_z, f1_z) = Zte g_z.2.2 1 s_z n_z 24 0 f_z → Zrv 1 f1_z M1 → Zhk M M1 → ZP X Zt29 (Zsf Zt29 83) [(3, .ref 47), (4, .int (nI k_z)), (0, .ref 0)] [] M1 := by
        intro k_z f1_z M1 he_z hz1 hh
        refine Zgo hX 1 rfl (by (first | exact True.intro | assumption | (dsimp only [ZallP]; and_intros <;> (first | assumption | decide | omega | ((try simp (disch := omega) only [pk_mul, nI_add, Zcl_n]); exact Zin_n (by omega) (by decide)))))) ?_
        refine Zs_ret hX hE rfl (by rw [Ften, if_pos hw_z, et, hs_z, Zcl_n (show s_z < 2 ^ 31 by omega), ← he_z]; exact ⟨rfl, hz1, hh⟩)
      have L : ∀ (q_z k_z : Nat) (f1_z : Nat → Int32) (M1 : Zmem), k_z + q_z = 24 → Zrv 1 f1_z M1 → f1_z 7 = nI n_z → (∀ o_z, 45 ≤ o_z → o_z ≤ 52 → M1 o_z = M o_z) → Zte g_z.2.2 1 s_z n_z q_z k_z f1_z = Zte g_z.2.2 1 s_z n_z 24 0 f_z → Zhk M M1 → ZP X Zt29 (Zsf Zt29 26) [(3, .ref 47), (4, .int (nI k_z)), (0, .ref 0)] [] M1 := by
        intro q_z
        induction q_z with
        | zero =>
          intro k_z f1_z M1 hk_z hz1 h7_z hsame he_z hh
          refine Zgo hX 3 rfl (by (first | exact True.intro | assumption | (dsimp only [ZallP]; and_intros <;> (first | assumption | decide | omega | ((try simp (disch := omega) only [pk_mul, nI_add, Zcl_n]); exact Zin_n (by omega) (by decide)))))) ?_
          rw [show M1 47 2 = nI s_z by rw [hsame 47 (by decide) (by decide)]; exact es]
          refine Zs_ige hX (List.cons_ne_nil _ _) (fun h_z => ?_) (fun h_z => ?_)
          · exact OUT k_z f1_z M1 he_z hz1 hh
          · exact absurd ((Zn_le (by omega) (by omega)).mpr (by omega)) h_z
        | succ q_z ih_z =>
          intro k_z f1_z M1 hk_z hz1 h7_z hsame he_z hh
          have STOP : ¬ (k_z < s_z ∧ k_z < n_z ∧ -(nI 9) ≤ g_z.2.2 (24 * 1 + k_z) ∧ g_z.2.2 (24 * 1 + k_z) ≤ nI 9) → ZP X Zt29 (Zsf Zt29 83) [(3, .ref 47), (4, .int (nI k_z)), (0, .ref 0)] [] M1 := by
            intro c_z
            rw [Zte, if_neg c_z] at he_z
            exact OUT k_z f1_z M1 he_z hz1 hh
          refine Zgo hX 3 rfl (by (first | exact True.intro | assumption | (dsimp only [ZallP]; and_intros <;> (first | assumption | decide | omega | ((try simp (disch := omega) only [pk_mul, nI_add, Zcl_n]); exact Zin_n (by omega) (by decide)))))) ?_
          rw [show M1 47 2 = nI s_z by rw [hsame 47 (by decide) (by decide)]; exact es]
          refine Zs_ige hX (List.cons_ne_nil _ _) (fun h_z => ?_) (fun h_z => ?_)
          · exact STOP (fun q_z => absurd ((Zn_le (by omega) (by omega)).mp h_z) (by omega))
          · have hks : k_z < s_z := (Nat.lt_or_ge k_z s_z).elim id (fun q_z => absurd ((Zn_le (by omega) (by omega)).mpr q_z) h_z)
            refine Zgo hX 4 rfl (by (first | exact True.intro | assumption | (dsimp only [ZallP]; and_intros <;> (first | assumption | decide | omega | ((try simp (disch := omega) only [pk_mul, nI_add, Zcl_n]); exact Zin_n (by omega) (by decide)))))) ?_
            rw [hz1.n h7_z]
            refine Zs_ige hX (List.cons_ne_nil _ _) (fun h2_z => ?_) (fun h2_z => ?_)
            · exact STOP (fun q_z => absurd ((Zn_le (by omega) (by omega)).mp h2_z) (by omega))
            · have hkn : k_z < n_z := (Nat.lt_or_ge k_z n_z).elim id (fun q_z => absurd ((Zn_le (by omega) (by omega)).mpr q_z) h2_z)
              have ev : M1 48 k_z = g_z.2.2 (24 * 1 + k_z) := by rw [hsame 48 (by decide) (by decide)]; exact (hg_z 1 (by decide)).2.2 k_z (by omega)
              refine Zgo hX 4 rfl (Zin_n (by omega) (by decide)) ?_
              rw [Zcl_n (show k_z < 2 ^ 31 by omega), ev]
              refine Zs_calls hX (List.cons_ne_nil _ _) (by decide) (k_isTension _ _) (by first | decide | omega) rfl rfl (by decide) (Nat.le_of_ble_eq_true rfl) (fun r_z M' hc_z => ?_)
              rcases hc_z with ⟨⟨rfl, h3_z⟩ | ⟨rfl, h3_z⟩, rfl⟩
              · refine Zs_eq hX (List.cons_ne_nil _ _) (fun q_z => False.elim (by revert q_z; decide)) (fun _ => ?_)
                rw [Zte, if_pos ⟨hks, hkn, h3_z.1, h3_z.2⟩] at he_z
                refine Zgo hX 11 rfl (by dsimp only [ZallP]; exact ⟨Zin_n (by omega) (by decide), Zin_n (by omega) (by decide)⟩) ?_
                rw [Zcl_n (show k_z < 2 ^ 31 by omega), ev, nI_add]
                refine Zs_sub (l' := [(3, .ref 47), (4, .int (nI (k_z + 1))), (0, .ref 0)]) rfl ?_
                exact ih_z (k_z + 1) _ _ (by omega) (hz1.r3 _ (by omega)) (by rw [pk_un (by omega)]; exact h7_z) (fun o_z h1_z h2_z => by rw [Zu_ne _ _ _ (by omega)]; exact hsame o_z h1_z h2_z) he_z (hh.u 5 (by decide) _ _)
              · refine Zs_eq hX (List.cons_ne_nil _ _) (fun _ => ?_) (fun q_z => False.elim (by revert q_z; decide))
                exact STOP (fun q_z => h3_z q_z.2.2)
      refine Zgo hX 3 rfl (by (first | exact True.intro | assumption | (dsimp only [ZallP]; and_intros <;> (first | assumption | decide | omega | ((try simp (disch := omega) only [pk_mul, nI_add, Zcl_n]); exact Zin_n (by omega) (by decide)))))) ?_
      refine Zs_sub (l' := [(3, .ref 47), (4, .int (nI 0)), (0, .ref 0)]) rfl ?_
      exact L 24 0 f_z M rfl hz_z hn_z (fun _ _ _ => rfl) rfl (Zhk.rf _)
    · skip
      refine Zs_aald hX (List.cons_ne_nil _ _) (by decide) rfl (by decide) (j := _) rfl (by decide) (by decide) rfl ?_
      have es : M 49 2 = nI s_z := (hg_z 2 (by decide)).2.1.trans hs_z
      have OUT : ∀ (k_z : Nat) (f1_z : Nat → Int32) (M1 : Zmem), (k_z, f1_z) = Zte g_z.2.2 2 s_z n_z 24 0 f_z → Zrv 1 f1_z M1 → Zhk M M1 → ZP X Zt29 (Zsf Zt29 83) [(3, .ref 49), (4, .int (nI k_z)), (0, .ref 0)] [] M1 := by
        intro k_z f1_z M1 he_z hz1 hh
        refine Zgo hX 1 rfl (by (first | exact True.intro | assumption | (dsimp only [ZallP]; and_intros <;> (first | assumption | decide | omega | ((try simp (disch := omega) only [pk_mul, nI_add, Zcl_n]); exact Zin_n (by omega) (by decide)))))) ?_
        refine Zs_ret hX hE rfl (by rw [Ften, if_pos hw_z, et, hs_z, Zcl_n (show s_z < 2 ^ 31 by omega), ← he_z]; exact ⟨rfl, hz1, hh⟩)
      have L : ∀ (q_z k_z : Nat) (f1_z : Nat → Int32) (M1 : Zmem), k_z + q_z = 24 → Zrv 1 f1_z M1 → f1_z 7 = nI n_z → (∀ o_z, 45 ≤ o_z → o_z ≤ 52 → M1 o_z = M o_z) → Zte g_z.2.2 2 s_z n_z q_z k_z f1_z = Zte g_z.2.2 2 s_z n_z 24 0 f_z → Zhk M M1 → ZP X Zt29 (Zsf Zt29 26) [(3, .ref 49), (4, .int (nI k_z)), (0, .ref 0)] [] M1 := by
        intro q_z
        induction q_z with
        | zero =>
          intro k_z f1_z M1 hk_z hz1 h7_z hsame he_z hh
          refine Zgo hX 3 rfl (by (first | exact True.intro | assumption | (dsimp only [ZallP]; and_intros <;> (first | assumption | decide | omega | ((try simp (disch := omega) only [pk_mul, nI_add, Zcl_n]); exact Zin_n (by omega) (by decide)))))) ?_
          rw [show M1 49 2 = nI s_z by rw [hsame 49 (by decide) (by decide)]; exact es]
          refine Zs_ige hX (List.cons_ne_nil _ _) (fun h_z => ?_) (fun h_z => ?_)
          · exact OUT k_z f1_z M1 he_z hz1 hh
          · exact absurd ((Zn_le (by omega) (by omega)).mpr (by omega)) h_z
        | succ q_z ih_z =>
          intro k_z f1_z M1 hk_z hz1 h7_z hsame he_z hh
          have STOP : ¬ (k_z < s_z ∧ k_z < n_z ∧ -(nI 9) ≤ g_z.2.2 (24 * 2 + k_z) ∧ g_z.2.2 (24 * 2 + k_z) ≤ nI 9) → ZP X Zt29 (Zsf Zt29 83) [(3, .ref 49), (4, .int (nI k_z)), (0, .ref 0)] [] M1 := by
            intro c_z
            rw [Zte, if_neg c_z] at he_z
            exact OUT k_z f1_z M1 he_z hz1 hh
          refine Zgo hX 3 rfl (by (first | exact True.intro | assumption | (dsimp only [ZallP]; and_intros <;> (first | assumption | decide | omega | ((try simp (disch := omega) only [pk_mul, nI_add, Zcl_n]); exact Zin_n (by omega) (by decide)))))) ?_
          rw [show M1 49 2 = nI s_z by rw [hsame 49 (by decide) (by decide)]; exact es]
          refine Zs_ige hX (List.cons_ne_nil _ _) (fun h_z => ?_) (fun h_z => ?_)
          · exact STOP (fun q_z => absurd ((Zn_le (by omega) (by omega)).mp h_z) (by omega))
          · have hks : k_z < s_z := (Nat.lt_or_ge k_z s_z).elim id (fun q_z => absurd ((Zn_le (by omega) (by omega)).mpr q_z) h_z)
            refine Zgo hX 4 rfl (by (first | exact True.intro | assumption | (dsimp only [ZallP]; and_intros <;> (first | assumption | decide | omega | ((try simp (disch := omega) only [pk_mul, nI_add, Zcl_n]); exact Zin_n (by omega) (by decide)))))) ?_
            rw [hz1.n h7_z]
            refine Zs_ige hX (List.cons_ne_nil _ _) (fun h2_z => ?_) (fun h2_z => ?_)
            · exact STOP (fun q_z => absurd ((Zn_le (by omega) (by omega)).mp h2_z) (by omega))
            · have hkn : k_z < n_z := (Nat.lt_or_ge k_z n_z).elim id (fun q_z => absurd ((Zn_le (by omega) (by omega)).mpr q_z) h2_z)
              have ev : M1 50 k_z = g_z.2.2 (24 * 2 + k_z) := by rw [hsame 50 (by decide) (by decide)]; exact (hg_z 2 (by decide)).2.2 k_z (by omega)
              refine Zgo hX 4 rfl (Zin_n (by omega) (by decide)) ?_
              rw [Zcl_n (show k_z < 2 ^ 31 by omega), ev]
              refine Zs_calls hX (List.cons_ne_nil _ _) (by decide) (k_isTension _ _) (by first | decide | omega) rfl rfl (by decide) (Nat.le_of_ble_eq_true rfl) (fun r_z M' hc_z => ?_)
              rcases hc_z with ⟨⟨rfl, h3_z⟩ | ⟨rfl, h3_z⟩, rfl⟩
              · refine Zs_eq hX (List.cons_ne_nil _ _) (fun q_z => False.elim (by revert q_z; decide)) (fun _ => ?_)
                rw [Zte, if_pos ⟨hks, hkn, h3_z.1, h3_z.2⟩] at he_z
                refine Zgo hX 11 rfl (by dsimp only [ZallP]; exact ⟨Zin_n (by omega) (by decide), Zin_n (by omega) (by decide)⟩) ?_
                rw [Zcl_n (show k_z < 2 ^ 31 by omega), ev, nI_add]
                refine Zs_sub (l' := [(3, .ref 49), (4, .int (nI (k_z + 1))), (0, .ref 0)]) rfl ?_
                exact ih_z (k_z + 1) _ _ (by omega) (hz1.r3 _ (by omega)) (by rw [pk_un (by omega)]; exact h7_z) (fun o_z h1_z h2_z => by rw [Zu_ne _ _ _ (by omega)]; exact hsame o_z h1_z h2_z) he_z (hh.u 5 (by decide) _ _)
              · refine Zs_eq hX (List.cons_ne_nil _ _) (fun _ => ?_) (fun q_z => False.elim (by revert q_z; decide))
                exact STOP (fun q_z => h3_z q_z.2.2)
      refine Zgo hX 3 rfl (by (first | exact True.intro | assumption | (dsimp only [ZallP]; and_intros <;> (first | assumption | decide | omega | ((try simp (disch := omega) only [pk_mul, nI_add, Zcl_n]); exact Zin_n (by omega) (by decide)))))) ?_
      refine Zs_sub (l' := [(3, .ref 49), (4, .int (nI 0)), (0, .ref 0)]) rfl ?_
      exact L 24 0 f_z M rfl hz_z hn_z (fun _ _ _ => rfl) rfl (Zhk.rf _)
    · skip
      refine Zs_aald hX (List.cons_ne_nil _ _) (by decide) rfl (by decide) (j := _) rfl (by decide) (by decide) rfl ?_
      have es : M 51 2 = nI s_z := (hg_z 3 (by decide)).2.1.trans hs_z
      have OUT : ∀ (k_z : Nat) (f1_z : Nat → Int32) (M1 : Zmem), (k_z, f1_z) = Zte g_z.2.2 3 s_z n_z 24 0 f_z → Zrv 1 f1_z M1 → Zhk M M1 → ZP X Zt29 (Zsf Zt29 83) [(3, .ref 51), (4, .int (nI k_z)), (0, .ref 0)] [] M1 := by
        intro k_z f1_z M1 he_z hz1 hh
        refine Zgo hX 1 rfl (by (first | exact True.intro | assumption | (dsimp only [ZallP]; and_intros <;> (first | assumption | decide | omega | ((try simp (disch := omega) only [pk_mul, nI_add, Zcl_n]); exact Zin_n (by omega) (by decide)))))) ?_
        refine Zs_ret hX hE rfl (by rw [Ften, if_pos hw_z, et, hs_z, Zcl_n (show s_z < 2 ^ 31 by omega), ← he_z]; exact ⟨rfl, hz1, hh⟩)
      have L : ∀ (q_z k_z : Nat) (f1_z : Nat → Int32) (M1 : Zmem), k_z + q_z = 24 → Zrv 1 f1_z M1 → f1_z 7 = nI n_z → (∀ o_z, 45 ≤ o_z → o_z ≤ 52 → M1 o_z = M o_z) → Zte g_z.2.2 3 s_z n_z q_z k_z f1_z = Zte g_z.2.2 3 s_z n_z 24 0 f_z → Zhk M M1 → ZP X Zt29 (Zsf Zt29 26) [(3, .ref 51), (4, .int (nI k_z)), (0, .ref 0)] [] M1 := by
        intro q_z
        induction q_z with
        | zero =>
          intro k_z f1_z M1 hk_z hz1 h7_z hsame he_z hh
          refine Zgo hX 3 rfl (by (first | exact True.intro | assumption | (dsimp only [ZallP]; and_intros <;> (first | assumption | decide | omega | ((try simp (disch := omega) only [pk_mul, nI_add, Zcl_n]); exact Zin_n (by omega) (by decide)))))) ?_
          rw [show M1 51 2 = nI s_z by rw [hsame 51 (by decide) (by decide)]; exact es]
          refine Zs_ige hX (List.cons_ne_nil _ _) (fun h_z => ?_) (fun h_z => ?_)
          · exact OUT k_z f1_z M1 he_z hz1 hh
          · exact absurd ((Zn_le (by omega) (by omega)).mpr (by omega)) h_z
        | succ q_z ih_z =>
          intro k_z f1_z M1 hk_z hz1 h7_z hsame he_z hh
          have STOP : ¬ (k_z < s_z ∧ k_z < n_z ∧ -(nI 9) ≤ g_z.2.2 (24 * 3 + k_z) ∧ g_z.2.2 (24 * 3 + k_z) ≤ nI 9) → ZP X Zt29 (Zsf Zt29 83) [(3, .ref 51), (4, .int (nI k_z)), (0, .ref 0)] [] M1 := by
            intro c_z
            rw [Zte, if_neg c_z] at he_z
            exact OUT k_z f1_z M1 he_z hz1 hh
          refine Zgo hX 3 rfl (by (first | exact True.intro | assumption | (dsimp only [ZallP]; and_intros <;> (first | assumption | decide | omega | ((try simp (disch := omega) only [pk_mul, nI_add, Zcl_n]); exact Zin_n (by omega) (by decide)))))) ?_
          rw [show M1 51 2 = nI s_z by rw [hsame 51 (by decide) (by decide)]; exact es]
          refine Zs_ige hX (List.cons_ne_nil _ _) (fun h_z => ?_) (fun h_z => ?_)
          · exact STOP (fun q_z => absurd ((Zn_le (by omega) (by omega)).mp h_z) (by omega))
          · have hks : k_z < s_z := (Nat.lt_or_ge k_z s_z).elim id (fun q_z => absurd ((Zn_le (by omega) (by omega)).mpr q_z) h_z)
            refine Zgo hX 4 rfl (by (first | exact True.intro | assumption | (dsimp only [ZallP]; and_intros <;> (first | assumption | decide | omega | ((try simp (disch := omega) only [pk_mul, nI_add, Zcl_n]); exact Zin_n (by omega) (by decide)))))) ?_
            rw [hz1.n h7_z]
            refine Zs_ige hX (List.cons_ne_nil _ _) (fun h2_z => ?_) (fun h2_z => ?_)
            · exact STOP (fun q_z => absurd ((Zn_le (by omega) (by omega)).mp h2_z) (by omega))
            · have hkn : k_z < n_z := (Nat.lt_or_ge k_z n_z).elim id (fun q_z => absurd ((Zn_le (by omega) (by omega)).mpr q_z) h2_z)
              have ev : M1 52 k_z = g_z.2.2 (24 * 3 + k_z) := by rw [hsame 52 (by decide) (by decide)]; exact (hg_z 3 (by decide)).2.2 k_z (by omega)
              refine Zgo hX 4 rfl (Zin_n (by omega) (by decide)) ?_
              rw [Zcl_n (show k_z < 2 ^ 31 by omega), ev]
              refine Zs_calls hX (List.cons_ne_nil _ _) (by decide) (k_isTension _ _) (by first | decide | omega) rfl rfl (by decide) (Nat.le_of_ble_eq_true rfl) (fun r_z M' hc_z => ?_)
              rcases hc_z with ⟨⟨rfl, h3_z⟩ | ⟨rfl, h3_z⟩, rfl⟩
              · refine Zs_eq hX (List.cons_ne_nil _ _) (fun q_z => False.elim (by revert q_z; decide)) (fun _ => ?_)
                rw [Zte, if_pos ⟨hks, hkn, h3_z.1, h3_z.2⟩] at he_z
                refine Zgo hX 11 rfl (by dsimp only [ZallP]; exact ⟨Zin_n (by omega) (by decide), Zin_n (by omega) (by decide)⟩) ?_
                rw [Zcl_n (show k_z < 2 ^ 31 by omega), ev, nI_add]
                refine Zs_sub (l' := [(3, .ref 51), (4, .int (nI (k_z + 1))), (0, .ref 0)]) rfl ?_
                exact ih_z (k_z + 1) _ _ (by omega) (hz1.r3 _ (by omega)) (by rw [pk_un (by omega)]; exact h7_z) (fun o_z h1_z h2_z => by rw [Zu_ne _ _ _ (by omega)]; exact hsame o_z h1_z h2_z) he_z (hh.u 5 (by decide) _ _)
              · refine Zs_eq hX (List.cons_ne_nil _ _) (fun _ => ?_) (fun q_z => False.elim (by revert q_z; decide))
                exact STOP (fun q_z => h3_z q_z.2.2)
      refine Zgo hX 3 rfl (by (first | exact True.intro | assumption | (dsimp only [ZallP]; and_intros <;> (first | assumption | decide | omega | ((try simp (disch := omega) only [pk_mul, nI_add, Zcl_n]); exact Zin_n (by omega) (by decide)))))) ?_
      refine Zs_sub (l' := [(3, .ref 51), (4, .int (nI 0)), (0, .ref 0)]) rfl ?_
      exact L 24 0 f_z M rfl hz_z hn_z (fun _ _ _ => rfl) rfl (Zhk.rf _)
  · skip
    rw [hw_z]
    refine Zgo hX 2 rfl (by (first | exact True.intro | assumption | (dsimp only [ZallP]; and_intros <;> (first | assumption | decide | omega | ((try simp (disch := omega) only [pk_mul, nI_add, Zcl_n]); exact Zin_n (by omega) (by decide)))))) ?_
    refine Zs_eq hX (List.cons_ne_nil _ _) (fun q_z => False.elim (by revert q_z; decide)) (fun _ => ?_)
    refine Zgo hX 2 rfl (by (first | exact True.intro | assumption | (dsimp only [ZallP]; and_intros <;> (first | assumption | decide | omega | ((try simp (disch := omega) only [pk_mul, nI_add, Zcl_n]); exact Zin_n (by omega) (by decide)))))) ?_
    refine Zs_callv hX (List.cons_ne_nil _ _) (k_refuse 1 _ (by decide)) (by first | decide | omega) (by decide) rfl rfl rfl (by decide) (Nat.le_of_ble_eq_true rfl) (fun r_z M' hc_z => ?_)
    obtain ⟨rfl, hsc⟩ := hc_z
    refine Zs_ret hX hE rfl (by rw [Ften, if_neg (by rw [hw_z]; decide), hw_z]; exact Zkok_e hz_z hsc)
  · skip
    rw [hw_z]
    refine Zgo hX 2 rfl (by (first | exact True.intro | assumption | (dsimp only [ZallP]; and_intros <;> (first | assumption | decide | omega | ((try simp (disch := omega) only [pk_mul, nI_add, Zcl_n]); exact Zin_n (by omega) (by decide)))))) ?_
    refine Zs_eq hX (List.cons_ne_nil _ _) (fun q_z => False.elim (by revert q_z; decide)) (fun _ => ?_)
    refine Zgo hX 2 rfl (by (first | exact True.intro | assumption | (dsimp only [ZallP]; and_intros <;> (first | assumption | decide | omega | ((try simp (disch := omega) only [pk_mul, nI_add, Zcl_n]); exact Zin_n (by omega) (by decide)))))) ?_
    refine Zs_callv hX (List.cons_ne_nil _ _) (k_refuse 2 _ (by decide)) (by first | decide | omega) (by decide) rfl rfl rfl (by decide) (Nat.le_of_ble_eq_true rfl) (fun r_z M' hc_z => ?_)
    obtain ⟨rfl, hsc⟩ := hc_z
    refine Zs_ret hX hE rfl (by rw [Ften, if_neg (by rw [hw_z]; decide), hw_z]; exact Zkok_e hz_z hsc)

set_option maxRecDepth 20000 in
set_option maxHeartbeats 4000000 in
theorem k_judge (g_z : Zsn) (f_z : Nat → Int32) (n_z : Nat) (sh : Int32) (M : Zmem) (hg_z : Zks g_z M) (hi_z : Zsiv g_z) (hz_z : Zrv 1 f_z M) (hfi : Zfi f_z) (hn_z : f_z 7 = nI n_z) (hn2 : n_z ≤ 15) : ZC 30 5 [.ref 0, .int sh] M (fun r_z M' => r_z = some (.int (Fjudge g_z f_z n_z sh)) ∧ Sc M M') := by
  refine ZC_of Zt30 Zk30 (Nat.le_of_ble_eq_true rfl) (by decide) rfl (fun X hX hE => ?_)
  refine Zgo hX 2 rfl (by (first | exact True.intro | assumption | (dsimp only [ZallP]; and_intros <;> (first | assumption | decide | omega | ((try simp (disch := omega) only [pk_mul, nI_add, Zcl_n]); exact Zin_n (by omega) (by decide)))))) ?_
  refine Zs_callv hX (List.cons_ne_nil _ _) (k_why g_z sh M hg_z) (by first | decide | omega) (by decide) rfl rfl rfl (by decide) (Nat.le_of_ble_eq_true rfl) (fun r_z M' hc_z => ?_)
  obtain ⟨rfl, rfl⟩ := hc_z
  rcases Fwhy_lt g_z sh with hw_z | hw_z | hw_z
  · rw [hw_z]
    refine Zgo hX 2 rfl (by (first | exact True.intro | assumption | (dsimp only [ZallP]; and_intros <;> (first | assumption | decide | omega | ((try simp (disch := omega) only [pk_mul, nI_add, Zcl_n]); exact Zin_n (by omega) (by decide)))))) ?_
    refine Zs_eq hX (List.cons_ne_nil _ _) (fun _ => ?_) (fun q_z => False.elim (by revert q_z; decide))
    obtain ⟨t, ht_z, rfl, et, hb0⟩ := Fwhy_0 hw_z
    obtain ⟨hbt, s_z, hs24, hs_z⟩ := hi_z t ht_z
    refine Zgo hX 3 rfl (by (first | exact True.intro | assumption | (dsimp only [ZallP]; and_intros <;> (first | assumption | decide | omega | ((try simp (disch := omega) only [pk_mul, nI_add, Zcl_n]); exact Zin_n (by omega) (by decide)))))) ?_
    rcases (show t = 0 ∨ t = 1 ∨ t = 2 ∨ t = 3 by omega) with rfl | rfl | rfl | rfl
    · skip
      refine Zs_aald hX (List.cons_ne_nil _ _) (by decide) rfl (by decide) (j := _) rfl (by decide) (by decide) rfl ?_
      have es : M 45 2 = nI s_z := (hg_z 0 (by decide)).2.1.trans hs_z
      have OUT : ∀ (k_z : Nat) (M1 : Zmem), k_z = Zju g_z.2.2 f_z 0 s_z n_z 24 0 → Sc M M1 → ZP X Zt30 (Zsf Zt30 72) [(3, .ref 45), (4, .int (nI k_z)), (0, .ref 0)] [] M1 := by
        intro k_z M1 he_z hh
        refine Zgo hX 1 rfl (by (first | exact True.intro | assumption | (dsimp only [ZallP]; and_intros <;> (first | assumption | decide | omega | ((try simp (disch := omega) only [pk_mul, nI_add, Zcl_n]); exact Zin_n (by omega) (by decide)))))) ?_
        refine Zs_ret hX hE rfl ⟨by rw [Fjudge, if_pos hw_z, et, hs_z, Zcl_n (show s_z < 2 ^ 31 by omega), ← he_z], hh⟩
      have L : ∀ (q_z k_z : Nat) (M1 : Zmem), k_z + q_z = 24 → Zju g_z.2.2 f_z 0 s_z n_z q_z k_z = Zju g_z.2.2 f_z 0 s_z n_z 24 0 → Sc M M1 → ZP X Zt30 (Zsf Zt30 26) [(3, .ref 45), (4, .int (nI k_z)), (0, .ref 0)] [] M1 := by
        intro q_z
        induction q_z with
        | zero =>
          intro k_z M1 hk_z he_z hh
          refine Zgo hX 3 rfl (by (first | exact True.intro | assumption | (dsimp only [ZallP]; and_intros <;> (first | assumption | decide | omega | ((try simp (disch := omega) only [pk_mul, nI_add, Zcl_n]); exact Zin_n (by omega) (by decide)))))) ?_
          rw [show M1 45 2 = nI s_z by rw [hh 45 2 rfl]; exact es]
          refine Zs_ige hX (List.cons_ne_nil _ _) (fun h_z => ?_) (fun h_z => ?_)
          · exact OUT k_z M1 he_z hh
          · exact absurd ((Zn_le (by omega) (by omega)).mpr (by omega)) h_z
        | succ q_z ih_z =>
          intro k_z M1 hk_z he_z hh
          have hz1 := hz_z.sc (Or.inl rfl) hh
          have STOP : ∀ M2 : Zmem, Sc M M2 → ¬ (k_z < s_z ∧ k_z < n_z ∧ g_z.2.2 (24 * 0 + k_z) = Zyo f_z k_z) → ZP X Zt30 (Zsf Zt30 72) [(3, .ref 45), (4, .int (nI k_z)), (0, .ref 0)] [] M2 := by
            intro M2 hh2 c_z
            rw [Zju, if_neg c_z] at he_z
            exact OUT k_z M2 he_z hh2
          refine Zgo hX 3 rfl (by (first | exact True.intro | assumption | (dsimp only [ZallP]; and_intros <;> (first | assumption | decide | omega | ((try simp (disch := omega) only [pk_mul, nI_add, Zcl_n]); exact Zin_n (by omega) (by decide)))))) ?_
          rw [show M1 45 2 = nI s_z by rw [hh 45 2 rfl]; exact es]
          refine Zs_ige hX (List.cons_ne_nil _ _) (fun h_z => ?_) (fun h_z => ?_)
          · exact STOP M1 hh (fun q_z => absurd ((Zn_le (by omega) (by omega)).mp h_z) (by omega))
          · have hks : k_z < s_z := (Nat.lt_or_ge k_z s_z).elim id (fun q_z => absurd ((Zn_le (by omega) (by omega)).mpr q_z) h_z)
            refine Zgo hX 4 rfl (by (first | exact True.intro | assumption | (dsimp only [ZallP]; and_intros <;> (first | assumption | decide | omega | ((try simp (disch := omega) only [pk_mul, nI_add, Zcl_n]); exact Zin_n (by omega) (by decide)))))) ?_
            rw [hz1.n hn_z]
            refine Zs_ige hX (List.cons_ne_nil _ _) (fun h2_z => ?_) (fun h2_z => ?_)
            · exact STOP M1 hh (fun q_z => absurd ((Zn_le (by omega) (by omega)).mp h2_z) (by omega))
            · have hkn : k_z < n_z := (Nat.lt_or_ge k_z n_z).elim id (fun q_z => absurd ((Zn_le (by omega) (by omega)).mpr q_z) h2_z)
              have ev : M1 46 k_z = g_z.2.2 (24 * 0 + k_z) := by rw [hh 46 k_z rfl]; exact (hg_z 0 (by decide)).2.2 k_z (by omega)
              refine Zgo hX 7 rfl (Zin_n (by omega) (by decide)) ?_
              rw [Zcl_n (show k_z < 2 ^ 31 by omega), ev]
              refine Zs_callv hX (List.cons_ne_nil _ _) (k_yarnR hz1 hfi hn_z hn2 hkn) (by first | decide | omega) (by decide) rfl rfl rfl (by decide) (Nat.le_of_ble_eq_true rfl) (fun r_z M' hc_z => ?_)
              obtain ⟨rfl, hs2⟩ := hc_z
              refine Zs_ine hX (List.cons_ne_nil _ _) (fun h3_z => ?_) (fun h3_z => ?_)
              · exact STOP M' (hh.tr hs2.sc) (fun q_z => h3_z q_z.2.2)
              · rw [Zju, if_pos ⟨hks, hkn, h3_z⟩] at he_z
                refine Zgo hX 2 rfl (by (first | exact True.intro | assumption | (dsimp only [ZallP]; and_intros <;> (first | assumption | decide | omega | ((try simp (disch := omega) only [pk_mul, nI_add, Zcl_n]); exact Zin_n (by omega) (by decide)))))) ?_
                rw [nI_add]
                refine Zs_sub (l' := [(3, .ref 45), (4, .int (nI (k_z + 1))), (0, .ref 0)]) rfl ?_
                exact ih_z (k_z + 1) _ (by omega) he_z (hh.tr hs2.sc)
      refine Zgo hX 3 rfl (by (first | exact True.intro | assumption | (dsimp only [ZallP]; and_intros <;> (first | assumption | decide | omega | ((try simp (disch := omega) only [pk_mul, nI_add, Zcl_n]); exact Zin_n (by omega) (by decide)))))) ?_
      refine Zs_sub (l' := [(3, .ref 45), (4, .int (nI 0)), (0, .ref 0)]) rfl ?_
      exact L 24 0 M rfl rfl (Sc.rf _)
    · skip
      refine Zs_aald hX (List.cons_ne_nil _ _) (by decide) rfl (by decide) (j := _) rfl (by decide) (by decide) rfl ?_
      have es : M 47 2 = nI s_z := (hg_z 1 (by decide)).2.1.trans hs_z
      have OUT : ∀ (k_z : Nat) (M1 : Zmem), k_z = Zju g_z.2.2 f_z 1 s_z n_z 24 0 → Sc M M1 → ZP X Zt30 (Zsf Zt30 72) [(3, .ref 47), (4, .int (nI k_z)), (0, .ref 0)] [] M1 := by
        intro k_z M1 he_z hh
        refine Zgo hX 1 rfl (by (first | exact True.intro | assumption | (dsimp only [ZallP]; and_intros <;> (first | assumption | decide | omega | ((try simp (disch := omega) only [pk_mul, nI_add, Zcl_n]); exact Zin_n (by omega) (by decide)))))) ?_
        refine Zs_ret hX hE rfl ⟨by rw [Fjudge, if_pos hw_z, et, hs_z, Zcl_n (show s_z < 2 ^ 31 by omega), ← he_z], hh⟩
      have L : ∀ (q_z k_z : Nat) (M1 : Zmem), k_z + q_z = 24 → Zju g_z.2.2 f_z 1 s_z n_z q_z k_z = Zju g_z.2.2 f_z 1 s_z n_z 24 0 → Sc M M1 → ZP X Zt30 (Zsf Zt30 26) [(3, .ref 47), (4, .int (nI k_z)), (0, .ref 0)] [] M1 := by
        intro q_z
        induction q_z with
        | zero =>
          intro k_z M1 hk_z he_z hh
          refine Zgo hX 3 rfl (by (first | exact True.intro | assumption | (dsimp only [ZallP]; and_intros <;> (first | assumption | decide | omega | ((try simp (disch := omega) only [pk_mul, nI_add, Zcl_n]); exact Zin_n (by omega) (by decide)))))) ?_
          rw [show M1 47 2 = nI s_z by rw [hh 47 2 rfl]; exact es]
          refine Zs_ige hX (List.cons_ne_nil _ _) (fun h_z => ?_) (fun h_z => ?_)
          · exact OUT k_z M1 he_z hh
          · exact absurd ((Zn_le (by omega) (by omega)).mpr (by omega)) h_z
        | succ q_z ih_z =>
          intro k_z M1 hk_z he_z hh
          have hz1 := hz_z.sc (Or.inl rfl) hh
          have STOP : ∀ M2 : Zmem, Sc M M2 → ¬ (k_z < s_z ∧ k_z < n_z ∧ g_z.2.2 (24 * 1 + k_z) = Zyo f_z k_z) → ZP X Zt30 (Zsf Zt30 72) [(3, .ref 47), (4, .int (nI k_z)), (0, .ref 0)] [] M2 := by
            intro M2 hh2 c_z
            rw [Zju, if_neg c_z] at he_z
            exact OUT k_z M2 he_z hh2
          refine Zgo hX 3 rfl (by (first | exact True.intro | assumption | (dsimp only [ZallP]; and_intros <;> (first | assumption | decide | omega | ((try simp (disch := omega) only [pk_mul, nI_add, Zcl_n]); exact Zin_n (by omega) (by decide)))))) ?_
          rw [show M1 47 2 = nI s_z by rw [hh 47 2 rfl]; exact es]
          refine Zs_ige hX (List.cons_ne_nil _ _) (fun h_z => ?_) (fun h_z => ?_)
          · exact STOP M1 hh (fun q_z => absurd ((Zn_le (by omega) (by omega)).mp h_z) (by omega))
          · have hks : k_z < s_z := (Nat.lt_or_ge k_z s_z).elim id (fun q_z => absurd ((Zn_le (by omega) (by omega)).mpr q_z) h_z)
            refine Zgo hX 4 rfl (by (first | exact True.intro | assumption | (dsimp only [ZallP]; and_intros <;> (first | assumption | decide | omega | ((try simp (disch := omega) only [pk_mul, nI_add, Zcl_n]); exact Zin_n (by omega) (by decide)))))) ?_
            rw [hz1.n hn_z]
            refine Zs_ige hX (List.cons_ne_nil _ _) (fun h2_z => ?_) (fun h2_z => ?_)
            · exact STOP M1 hh (fun q_z => absurd ((Zn_le (by omega) (by omega)).mp h2_z) (by omega))
            · have hkn : k_z < n_z := (Nat.lt_or_ge k_z n_z).elim id (fun q_z => absurd ((Zn_le (by omega) (by omega)).mpr q_z) h2_z)
              have ev : M1 48 k_z = g_z.2.2 (24 * 1 + k_z) := by rw [hh 48 k_z rfl]; exact (hg_z 1 (by decide)).2.2 k_z (by omega)
              refine Zgo hX 7 rfl (Zin_n (by omega) (by decide)) ?_
              rw [Zcl_n (show k_z < 2 ^ 31 by omega), ev]
              refine Zs_callv hX (List.cons_ne_nil _ _) (k_yarnR hz1 hfi hn_z hn2 hkn) (by first | decide | omega) (by decide) rfl rfl rfl (by decide) (Nat.le_of_ble_eq_true rfl) (fun r_z M' hc_z => ?_)
              obtain ⟨rfl, hs2⟩ := hc_z
              refine Zs_ine hX (List.cons_ne_nil _ _) (fun h3_z => ?_) (fun h3_z => ?_)
              · exact STOP M' (hh.tr hs2.sc) (fun q_z => h3_z q_z.2.2)
              · rw [Zju, if_pos ⟨hks, hkn, h3_z⟩] at he_z
                refine Zgo hX 2 rfl (by (first | exact True.intro | assumption | (dsimp only [ZallP]; and_intros <;> (first | assumption | decide | omega | ((try simp (disch := omega) only [pk_mul, nI_add, Zcl_n]); exact Zin_n (by omega) (by decide)))))) ?_
                rw [nI_add]
                refine Zs_sub (l' := [(3, .ref 47), (4, .int (nI (k_z + 1))), (0, .ref 0)]) rfl ?_
                exact ih_z (k_z + 1) _ (by omega) he_z (hh.tr hs2.sc)
      refine Zgo hX 3 rfl (by (first | exact True.intro | assumption | (dsimp only [ZallP]; and_intros <;> (first | assumption | decide | omega | ((try simp (disch := omega) only [pk_mul, nI_add, Zcl_n]); exact Zin_n (by omega) (by decide)))))) ?_
      refine Zs_sub (l' := [(3, .ref 47), (4, .int (nI 0)), (0, .ref 0)]) rfl ?_
      exact L 24 0 M rfl rfl (Sc.rf _)
    · skip
      refine Zs_aald hX (List.cons_ne_nil _ _) (by decide) rfl (by decide) (j := _) rfl (by decide) (by decide) rfl ?_
      have es : M 49 2 = nI s_z := (hg_z 2 (by decide)).2.1.trans hs_z
      have OUT : ∀ (k_z : Nat) (M1 : Zmem), k_z = Zju g_z.2.2 f_z 2 s_z n_z 24 0 → Sc M M1 → ZP X Zt30 (Zsf Zt30 72) [(3, .ref 49), (4, .int (nI k_z)), (0, .ref 0)] [] M1 := by
        intro k_z M1 he_z hh
        refine Zgo hX 1 rfl (by (first | exact True.intro | assumption | (dsimp only [ZallP]; and_intros <;> (first | assumption | decide | omega | ((try simp (disch := omega) only [pk_mul, nI_add, Zcl_n]); exact Zin_n (by omega) (by decide)))))) ?_
        refine Zs_ret hX hE rfl ⟨by rw [Fjudge, if_pos hw_z, et, hs_z, Zcl_n (show s_z < 2 ^ 31 by omega), ← he_z], hh⟩
      have L : ∀ (q_z k_z : Nat) (M1 : Zmem), k_z + q_z = 24 → Zju g_z.2.2 f_z 2 s_z n_z q_z k_z = Zju g_z.2.2 f_z 2 s_z n_z 24 0 → Sc M M1 → ZP X Zt30 (Zsf Zt30 26) [(3, .ref 49), (4, .int (nI k_z)), (0, .ref 0)] [] M1 := by
        intro q_z
        induction q_z with
        | zero =>
          intro k_z M1 hk_z he_z hh
          refine Zgo hX 3 rfl (by (first | exact True.intro | assumption | (dsimp only [ZallP]; and_intros <;> (first | assumption | decide | omega | ((try simp (disch := omega) only [pk_mul, nI_add, Zcl_n]); exact Zin_n (by omega) (by decide)))))) ?_
          rw [show M1 49 2 = nI s_z by rw [hh 49 2 rfl]; exact es]
          refine Zs_ige hX (List.cons_ne_nil _ _) (fun h_z => ?_) (fun h_z => ?_)
          · exact OUT k_z M1 he_z hh
          · exact absurd ((Zn_le (by omega) (by omega)).mpr (by omega)) h_z
        | succ q_z ih_z =>
          intro k_z M1 hk_z he_z hh
          have hz1 := hz_z.sc (Or.inl rfl) hh
          have STOP : ∀ M2 : Zmem, Sc M M2 → ¬ (k_z < s_z ∧ k_z < n_z ∧ g_z.2.2 (24 * 2 + k_z) = Zyo f_z k_z) → ZP X Zt30 (Zsf Zt30 72) [(3, .ref 49), (4, .int (nI k_z)), (0, .ref 0)] [] M2 := by
            intro M2 hh2 c_z
            rw [Zju, if_neg c_z] at he_z
            exact OUT k_z M2 he_z hh2
          refine Zgo hX 3 rfl (by (first | exact True.intro | assumption | (dsimp only [ZallP]; and_intros <;> (first | assumption | decide | omega | ((try simp (disch := omega) only [pk_mul, nI_add, Zcl_n]); exact Zin_n (by omega) (by decide)))))) ?_
          rw [show M1 49 2 = nI s_z by rw [hh 49 2 rfl]; exact es]
          refine Zs_ige hX (List.cons_ne_nil _ _) (fun h_z => ?_) (fun h_z => ?_)
          · exact STOP M1 hh (fun q_z => absurd ((Zn_le (by omega) (by omega)).mp h_z) (by omega))
          · have hks : k_z < s_z := (Nat.lt_or_ge k_z s_z).elim id (fun q_z => absurd ((Zn_le (by omega) (by omega)).mpr q_z) h_z)
            refine Zgo hX 4 rfl (by (first | exact True.intro | assumption | (dsimp only [ZallP]; and_intros <;> (first | assumption | decide | omega | ((try simp (disch := omega) only [pk_mul, nI_add, Zcl_n]); exact Zin_n (by omega) (by decide)))))) ?_
            rw [hz1.n hn_z]
            refine Zs_ige hX (List.cons_ne_nil _ _) (fun h2_z => ?_) (fun h2_z => ?_)
            · exact STOP M1 hh (fun q_z => absurd ((Zn_le (by omega) (by omega)).mp h2_z) (by omega))
            · have hkn : k_z < n_z := (Nat.lt_or_ge k_z n_z).elim id (fun q_z => absurd ((Zn_le (by omega) (by omega)).mpr q_z) h2_z)
              have ev : M1 50 k_z = g_z.2.2 (24 * 2 + k_z) := by rw [hh 50 k_z rfl]; exact (hg_z 2 (by decide)).2.2 k_z (by omega)
              refine Zgo hX 7 rfl (Zin_n (by omega) (by decide)) ?_
              rw [Zcl_n (show k_z < 2 ^ 31 by omega), ev]
              refine Zs_callv hX (List.cons_ne_nil _ _) (k_yarnR hz1 hfi hn_z hn2 hkn) (by first | decide | omega) (by decide) rfl rfl rfl (by decide) (Nat.le_of_ble_eq_true rfl) (fun r_z M' hc_z => ?_)
              obtain ⟨rfl, hs2⟩ := hc_z
              refine Zs_ine hX (List.cons_ne_nil _ _) (fun h3_z => ?_) (fun h3_z => ?_)
              · exact STOP M' (hh.tr hs2.sc) (fun q_z => h3_z q_z.2.2)
              · rw [Zju, if_pos ⟨hks, hkn, h3_z⟩] at he_z
                refine Zgo hX 2 rfl (by (first | exact True.intro | assumption | (dsimp only [ZallP]; and_intros <;> (first | assumption | decide | omega | ((try simp (disch := omega) only [pk_mul, nI_add, Zcl_n]); exact Zin_n (by omega) (by decide)))))) ?_
                rw [nI_add]
                refine Zs_sub (l' := [(3, .ref 49), (4, .int (nI (k_z + 1))), (0, .ref 0)]) rfl ?_
                exact ih_z (k_z + 1) _ (by omega) he_z (hh.tr hs2.sc)
      refine Zgo hX 3 rfl (by (first | exact True.intro | assumption | (dsimp only [ZallP]; and_intros <;> (first | assumption | decide | omega | ((try simp (disch := omega) only [pk_mul, nI_add, Zcl_n]); exact Zin_n (by omega) (by decide)))))) ?_
      refine Zs_sub (l' := [(3, .ref 49), (4, .int (nI 0)), (0, .ref 0)]) rfl ?_
      exact L 24 0 M rfl rfl (Sc.rf _)
    · skip
      refine Zs_aald hX (List.cons_ne_nil _ _) (by decide) rfl (by decide) (j := _) rfl (by decide) (by decide) rfl ?_
      have es : M 51 2 = nI s_z := (hg_z 3 (by decide)).2.1.trans hs_z
      have OUT : ∀ (k_z : Nat) (M1 : Zmem), k_z = Zju g_z.2.2 f_z 3 s_z n_z 24 0 → Sc M M1 → ZP X Zt30 (Zsf Zt30 72) [(3, .ref 51), (4, .int (nI k_z)), (0, .ref 0)] [] M1 := by
        intro k_z M1 he_z hh
        refine Zgo hX 1 rfl (by (first | exact True.intro | assumption | (dsimp only [ZallP]; and_intros <;> (first | assumption | decide | omega | ((try simp (disch := omega) only [pk_mul, nI_add, Zcl_n]); exact Zin_n (by omega) (by decide)))))) ?_
        refine Zs_ret hX hE rfl ⟨by rw [Fjudge, if_pos hw_z, et, hs_z, Zcl_n (show s_z < 2 ^ 31 by omega), ← he_z], hh⟩
      have L : ∀ (q_z k_z : Nat) (M1 : Zmem), k_z + q_z = 24 → Zju g_z.2.2 f_z 3 s_z n_z q_z k_z = Zju g_z.2.2 f_z 3 s_z n_z 24 0 → Sc M M1 → ZP X Zt30 (Zsf Zt30 26) [(3, .ref 51), (4, .int (nI k_z)), (0, .ref 0)] [] M1 := by
        intro q_z
        induction q_z with
        | zero =>
          intro k_z M1 hk_z he_z hh
          refine Zgo hX 3 rfl (by (first | exact True.intro | assumption | (dsimp only [ZallP]; and_intros <;> (first | assumption | decide | omega | ((try simp (disch := omega) only [pk_mul, nI_add, Zcl_n]); exact Zin_n (by omega) (by decide)))))) ?_
          rw [show M1 51 2 = nI s_z by rw [hh 51 2 rfl]; exact es]
          refine Zs_ige hX (List.cons_ne_nil _ _) (fun h_z => ?_) (fun h_z => ?_)
          · exact OUT k_z M1 he_z hh
          · exact absurd ((Zn_le (by omega) (by omega)).mpr (by omega)) h_z
        | succ q_z ih_z =>
          intro k_z M1 hk_z he_z hh
          have hz1 := hz_z.sc (Or.inl rfl) hh
          have STOP : ∀ M2 : Zmem, Sc M M2 → ¬ (k_z < s_z ∧ k_z < n_z ∧ g_z.2.2 (24 * 3 + k_z) = Zyo f_z k_z) → ZP X Zt30 (Zsf Zt30 72) [(3, .ref 51), (4, .int (nI k_z)), (0, .ref 0)] [] M2 := by
            intro M2 hh2 c_z
            rw [Zju, if_neg c_z] at he_z
            exact OUT k_z M2 he_z hh2
          refine Zgo hX 3 rfl (by (first | exact True.intro | assumption | (dsimp only [ZallP]; and_intros <;> (first | assumption | decide | omega | ((try simp (disch := omega) only [pk_mul, nI_add, Zcl_n]); exact Zin_n (by omega) (by decide)))))) ?_
          rw [show M1 51 2 = nI s_z by rw [hh 51 2 rfl]; exact es]
          refine Zs_ige hX (List.cons_ne_nil _ _) (fun h_z => ?_) (fun h_z => ?_)
          · exact STOP M1 hh (fun q_z => absurd ((Zn_le (by omega) (by omega)).mp h_z) (by omega))
          · have hks : k_z < s_z := (Nat.lt_or_ge k_z s_z).elim id (fun q_z => absurd ((Zn_le (by omega) (by omega)).mpr q_z) h_z)
            refine Zgo hX 4 rfl (by (first | exact True.intro | assumption | (dsimp only [ZallP]; and_intros <;> (first | assumption | decide | omega | ((try simp (disch := omega) only [pk_mul, nI_add, Zcl_n]); exact Zin_n (by omega) (by decide)))))) ?_
            rw [hz1.n hn_z]
            refine Zs_ige hX (List.cons_ne_nil _ _) (fun h2_z => ?_) (fun h2_z => ?_)
            · exact STOP M1 hh (fun q_z => absurd ((Zn_le (by omega) (by omega)).mp h2_z) (by omega))
            · have hkn : k_z < n_z := (Nat.lt_or_ge k_z n_z).elim id (fun q_z => absurd ((Zn_le (by omega) (by omega)).mpr q_z) h2_z)
              have ev : M1 52 k_z = g_z.2.2 (24 * 3 + k_z) := by rw [hh 52 k_z rfl]; exact (hg_z 3 (by decide)).2.2 k_z (by omega)
              refine Zgo hX 7 rfl (Zin_n (by omega) (by decide)) ?_
              rw [Zcl_n (show k_z < 2 ^ 31 by omega), ev]
              refine Zs_callv hX (List.cons_ne_nil _ _) (k_yarnR hz1 hfi hn_z hn2 hkn) (by first | decide | omega) (by decide) rfl rfl rfl (by decide) (Nat.le_of_ble_eq_true rfl) (fun r_z M' hc_z => ?_)
              obtain ⟨rfl, hs2⟩ := hc_z
              refine Zs_ine hX (List.cons_ne_nil _ _) (fun h3_z => ?_) (fun h3_z => ?_)
              · exact STOP M' (hh.tr hs2.sc) (fun q_z => h3_z q_z.2.2)
              · rw [Zju, if_pos ⟨hks, hkn, h3_z⟩] at he_z
                refine Zgo hX 2 rfl (by (first | exact True.intro | assumption | (dsimp only [ZallP]; and_intros <;> (first | assumption | decide | omega | ((try simp (disch := omega) only [pk_mul, nI_add, Zcl_n]); exact Zin_n (by omega) (by decide)))))) ?_
                rw [nI_add]
                refine Zs_sub (l' := [(3, .ref 51), (4, .int (nI (k_z + 1))), (0, .ref 0)]) rfl ?_
                exact ih_z (k_z + 1) _ (by omega) he_z (hh.tr hs2.sc)
      refine Zgo hX 3 rfl (by (first | exact True.intro | assumption | (dsimp only [ZallP]; and_intros <;> (first | assumption | decide | omega | ((try simp (disch := omega) only [pk_mul, nI_add, Zcl_n]); exact Zin_n (by omega) (by decide)))))) ?_
      refine Zs_sub (l' := [(3, .ref 51), (4, .int (nI 0)), (0, .ref 0)]) rfl ?_
      exact L 24 0 M rfl rfl (Sc.rf _)
  · skip
    rw [hw_z]
    refine Zgo hX 2 rfl (by (first | exact True.intro | assumption | (dsimp only [ZallP]; and_intros <;> (first | assumption | decide | omega | ((try simp (disch := omega) only [pk_mul, nI_add, Zcl_n]); exact Zin_n (by omega) (by decide)))))) ?_
    refine Zs_eq hX (List.cons_ne_nil _ _) (fun q_z => False.elim (by revert q_z; decide)) (fun _ => ?_)
    refine Zgo hX 2 rfl (by (first | exact True.intro | assumption | (dsimp only [ZallP]; and_intros <;> (first | assumption | decide | omega | ((try simp (disch := omega) only [pk_mul, nI_add, Zcl_n]); exact Zin_n (by omega) (by decide)))))) ?_
    refine Zs_callv hX (List.cons_ne_nil _ _) (k_refuse 1 _ (by decide)) (by first | decide | omega) (by decide) rfl rfl rfl (by decide) (Nat.le_of_ble_eq_true rfl) (fun r_z M' hc_z => ?_)
    obtain ⟨rfl, hsc⟩ := hc_z
    refine Zs_ret hX hE rfl ⟨by rw [Fjudge, if_neg (by rw [hw_z]; decide), hw_z], hsc⟩
  · skip
    rw [hw_z]
    refine Zgo hX 2 rfl (by (first | exact True.intro | assumption | (dsimp only [ZallP]; and_intros <;> (first | assumption | decide | omega | ((try simp (disch := omega) only [pk_mul, nI_add, Zcl_n]); exact Zin_n (by omega) (by decide)))))) ?_
    refine Zs_eq hX (List.cons_ne_nil _ _) (fun q_z => False.elim (by revert q_z; decide)) (fun _ => ?_)
    refine Zgo hX 2 rfl (by (first | exact True.intro | assumption | (dsimp only [ZallP]; and_intros <;> (first | assumption | decide | omega | ((try simp (disch := omega) only [pk_mul, nI_add, Zcl_n]); exact Zin_n (by omega) (by decide)))))) ?_
    refine Zs_callv hX (List.cons_ne_nil _ _) (k_refuse 2 _ (by decide)) (by first | decide | omega) (by decide) rfl rfl rfl (by decide) (Nat.le_of_ble_eq_true rfl) (fun r_z M' hc_z => ?_)
    obtain ⟨rfl, hsc⟩ := hc_z
    refine Zs_ret hX hE rfl ⟨by rw [Fjudge, if_neg (by rw [hw_z]; decide), hw_z], hsc⟩

set_option maxRecDepth 20000 in
set_option maxHeartbeats 4000000 in
theorem s_tensions (n_z : Nat) (sh : Int32) (M : Zmem) (hi_z : Zsiv (Zgs M)) (hfi : Zfi (M 54)) (hn_z : M 54 7 = nI n_z) (hn2 : n_z ≤ 15) : ZC 128 5 [.ref 53, .int sh] M (Zsok (Ften (Zgs M) (M 54) n_z sh) M) := by
  refine ZC_of Zt128 Zk128 (Nat.le_of_ble_eq_true rfl) (by decide) rfl (fun X hX hE => ?_)
  refine Zgo hX 2 rfl (by (first | exact True.intro | assumption | (dsimp only [ZallP]; and_intros <;> (first | assumption | decide | omega | ((try simp (disch := omega) only [pk_mul, nI_add, Zcl_n]); exact Zin_n (by omega) (by decide)))))) ?_
  refine Zs_callv hX (List.cons_ne_nil _ _) (s_why sh M) (by first | decide | omega) (by decide) rfl rfl rfl (by decide) (Nat.le_of_ble_eq_true rfl) (fun r_z M' hc_z => ?_)
  obtain ⟨rfl, rfl⟩ := hc_z
  rcases Fwhy_lt (Zgs M) sh with hw_z | hw_z | hw_z
  · rw [hw_z]
    refine Zgo hX 2 rfl (by (first | exact True.intro | assumption | (dsimp only [ZallP]; and_intros <;> (first | assumption | decide | omega | ((try simp (disch := omega) only [pk_mul, nI_add, Zcl_n]); exact Zin_n (by omega) (by decide)))))) ?_
    refine Zs_eq hX (List.cons_ne_nil _ _) (fun _ => ?_) (fun q_z => False.elim (by revert q_z; decide))
    obtain ⟨t, ht_z, rfl, et, hb0⟩ := Fwhy_0 hw_z
    obtain ⟨hbt, s_z, hs24, hs_z⟩ := hi_z t ht_z
    have OUT : ∀ (k_z : Nat) (M1 : Zmem), (k_z, M1 54) = Zte (M 68) t s_z n_z 24 0 (M 54) → Zhs M M1 → ZP X Zt128 (Zsf Zt128 76) [(3, .int (nI k_z)), (0, .ref 53), (1, .int (nI t))] [] M1 := by
      intro k_z M1 he_z hh
      refine Zgo hX 1 rfl (by (first | exact True.intro | assumption | (dsimp only [ZallP]; and_intros <;> (first | assumption | decide | omega | ((try simp (disch := omega) only [pk_mul, nI_add, Zcl_n]); exact Zin_n (by omega) (by decide)))))) ?_
      refine Zs_ret hX hE rfl (by rw [Ften, if_pos hw_z, et, hs_z, Zcl_n (show s_z < 2 ^ 31 by omega), show (Zgs M).2.2 = M 68 from rfl, ← he_z]; exact ⟨rfl, rfl, hh⟩)
    have L : ∀ (q_z k_z : Nat) (M1 : Zmem), k_z + q_z = 24 → M1 54 7 = nI n_z → (∀ o_z, 66 ≤ o_z → o_z ≤ 68 → M1 o_z = M o_z) → Zte (M 68) t s_z n_z q_z k_z (M1 54) = Zte (M 68) t s_z n_z 24 0 (M 54) → Zhs M M1 → ZP X Zt128 (Zsf Zt128 18) [(3, .int (nI k_z)), (0, .ref 53), (1, .int (nI t))] [] M1 := by
      intro q_z
      induction q_z with
      | zero =>
        intro k_z M1 hk_z h7_z hsame he_z hh
        refine Zgo hX 5 rfl (Zin_n (by omega) (by decide)) ?_
        simp (disch := omega) only [Zcl_n, pk_mul, nI_add, Zu_s, Zu_o]
        rw [hsame 67 (by decide) (by decide), show M 67 t = nI s_z from hs_z]
        refine Zs_ige hX (List.cons_ne_nil _ _) (fun h_z => ?_) (fun h_z => ?_)
        · exact OUT k_z M1 he_z hh
        · exact absurd ((Zn_le (by omega) (by omega)).mpr (by omega)) h_z
      | succ q_z ih_z =>
        intro k_z M1 hk_z h7_z hsame he_z hh
        have STOP : ∀ M2 : Zmem, M2 54 = M1 54 → Zhs M M2 → ¬ (k_z < s_z ∧ k_z < n_z ∧ -(nI 9) ≤ M 68 (24 * t + k_z) ∧ M 68 (24 * t + k_z) ≤ nI 9) → ZP X Zt128 (Zsf Zt128 76) [(3, .int (nI k_z)), (0, .ref 53), (1, .int (nI t))] [] M2 := by
          intro M2 e2_z hh2 c_z
          rw [Zte, if_neg c_z] at he_z
          exact OUT k_z M2 (by rw [e2_z]; exact he_z) hh2
        refine Zgo hX 5 rfl (Zin_n (by omega) (by decide)) ?_
        simp (disch := omega) only [Zcl_n, pk_mul, nI_add, Zu_s, Zu_o]
        rw [hsame 67 (by decide) (by decide), show M 67 t = nI s_z from hs_z]
        refine Zs_ige hX (List.cons_ne_nil _ _) (fun h_z => ?_) (fun h_z => ?_)
        · exact STOP _ rfl hh (fun q_z => absurd ((Zn_le (by omega) (by omega)).mp h_z) (by omega))
        · have hks : k_z < s_z := (Nat.lt_or_ge k_z s_z).elim id (fun q_z => absurd ((Zn_le (by omega) (by omega)).mpr q_z) h_z)
          refine Zgo hX 2 rfl (by (first | exact True.intro | assumption | (dsimp only [ZallP]; and_intros <;> (first | assumption | decide | omega | ((try simp (disch := omega) only [pk_mul, nI_add, Zcl_n]); exact Zin_n (by omega) (by decide)))))) ?_
          refine Zs_callv hX (List.cons_ne_nil _ _) (s_isRow (nI k_z) n_z _ h7_z hn2) (by first | decide | omega) (by decide) rfl rfl rfl (by decide) (Nat.le_of_ble_eq_true rfl) (fun r_z M' hc_z => ?_)
          rcases hc_z with ⟨⟨rfl, h2_z⟩ | ⟨rfl, h2_z⟩, rfl⟩
          · refine Zs_eq hX (List.cons_ne_nil _ _) (fun q_z => False.elim (by revert q_z; decide)) (fun _ => ?_)
            have hkn : k_z < n_z := by have := (Zin_i.mp h2_z).2; rw [Zn_i (by omega)] at this; omega
            refine Zgo hX 8 rfl (by rw [pk_mul, nI_add]; exact Zin_n (by omega) (by decide)) ?_
            simp (disch := omega) only [Zcl_n, pk_mul, nI_add, Zu_s, Zu_o]
            rw [hsame 68 (by decide) (by decide)]
            refine Zs_calls hX (List.cons_ne_nil _ _) (by decide) (s_isTension _ _) (by first | decide | omega) rfl rfl (by decide) (Nat.le_of_ble_eq_true rfl) (fun r_z M' hc_z => ?_)
            rcases hc_z with ⟨⟨rfl, h3_z⟩ | ⟨rfl, h3_z⟩, rfl⟩
            · refine Zs_eq hX (List.cons_ne_nil _ _) (fun q_z => False.elim (by revert q_z; decide)) (fun _ => ?_)
              rw [Zte, if_pos ⟨hks, hkn, h3_z.1, h3_z.2⟩] at he_z
              refine Zgo hX 11 rfl (by rw [pk_mul, nI_add]; exact Zin_n (by omega) (by decide)) ?_
              simp (disch := omega) only [Zcl_n, pk_mul, nI_add, Zu_s, Zu_o]
              rw [hsame 68 (by decide) (by decide)]
              refine Zs_callv hX (List.cons_ne_nil _ _) (s_lays1 k_z 3 _ _ (by omega) (by decide)) (by first | decide | omega) (by decide) rfl rfl rfl (by decide) (Nat.le_of_ble_eq_true rfl) (fun r_z M' hc_z => ?_)
              obtain ⟨rfl, rfl⟩ := hc_z
              rw [show 9 + 5 * k_z + 3 = 12 + 5 * k_z by omega]
              refine Zgo hX 2 rfl (by (first | exact True.intro | assumption | (dsimp only [ZallP]; and_intros <;> (first | assumption | decide | omega | ((try simp (disch := omega) only [pk_mul, nI_add, Zcl_n]); exact Zin_n (by omega) (by decide)))))) ?_
              rw [nI_add]
              refine Zs_sub (l' := [(3, .int (nI (k_z + 1))), (0, .ref 53), (1, .int (nI t))]) rfl ?_
              exact ih_z (k_z + 1) _ (by omega) (by rw [Zu_o (by omega)]; exact h7_z) (fun o_z h1_z h2_z => by rw [Zu_ne _ _ _ (by omega)]; exact hsame o_z h1_z h2_z) (by rw [Zu_at]; exact he_z) (hh.u _ _)
            · refine Zs_eq hX (List.cons_ne_nil _ _) (fun _ => ?_) (fun q_z => False.elim (by revert q_z; decide))
              exact STOP _ rfl hh (fun q_z => h3_z q_z.2.2)
          · refine Zs_eq hX (List.cons_ne_nil _ _) (fun _ => ?_) (fun q_z => False.elim (by revert q_z; decide))
            exact STOP _ rfl hh (fun q_z => h2_z (Zin_n q_z.2.1 (by omega)))
    refine Zgo hX 2 rfl (by (first | exact True.intro | assumption | (dsimp only [ZallP]; and_intros <;> (first | assumption | decide | omega | ((try simp (disch := omega) only [pk_mul, nI_add, Zcl_n]); exact Zin_n (by omega) (by decide)))))) ?_
    refine Zs_sub (l' := [(3, .int (nI 0)), (0, .ref 53), (1, .int (nI t))]) rfl ?_
    exact L 24 0 M rfl hn_z (fun _ _ _ => rfl) rfl (Zhs.rf _)
  · skip
    rw [hw_z]
    refine Zgo hX 2 rfl (by (first | exact True.intro | assumption | (dsimp only [ZallP]; and_intros <;> (first | assumption | decide | omega | ((try simp (disch := omega) only [pk_mul, nI_add, Zcl_n]); exact Zin_n (by omega) (by decide)))))) ?_
    refine Zs_eq hX (List.cons_ne_nil _ _) (fun q_z => False.elim (by revert q_z; decide)) (fun _ => ?_)
    refine Zgo hX 2 rfl (by (first | exact True.intro | assumption | (dsimp only [ZallP]; and_intros <;> (first | assumption | decide | omega | ((try simp (disch := omega) only [pk_mul, nI_add, Zcl_n]); exact Zin_n (by omega) (by decide)))))) ?_
    refine Zs_callv hX (List.cons_ne_nil _ _) (s_error 1 _ (by decide)) (by first | decide | omega) (by decide) rfl rfl rfl (by decide) (Nat.le_of_ble_eq_true rfl) (fun r_z M' hc_z => ?_)
    obtain ⟨rfl, hsc⟩ := hc_z
    refine Zs_ret hX hE rfl (by rw [Ften, if_neg (by rw [hw_z]; decide), hw_z]; exact Zsok_e hsc)
  · skip
    rw [hw_z]
    refine Zgo hX 2 rfl (by (first | exact True.intro | assumption | (dsimp only [ZallP]; and_intros <;> (first | assumption | decide | omega | ((try simp (disch := omega) only [pk_mul, nI_add, Zcl_n]); exact Zin_n (by omega) (by decide)))))) ?_
    refine Zs_eq hX (List.cons_ne_nil _ _) (fun q_z => False.elim (by revert q_z; decide)) (fun _ => ?_)
    refine Zgo hX 2 rfl (by (first | exact True.intro | assumption | (dsimp only [ZallP]; and_intros <;> (first | assumption | decide | omega | ((try simp (disch := omega) only [pk_mul, nI_add, Zcl_n]); exact Zin_n (by omega) (by decide)))))) ?_
    refine Zs_callv hX (List.cons_ne_nil _ _) (s_error 2 _ (by decide)) (by first | decide | omega) (by decide) rfl rfl rfl (by decide) (Nat.le_of_ble_eq_true rfl) (fun r_z M' hc_z => ?_)
    obtain ⟨rfl, hsc⟩ := hc_z
    refine Zs_ret hX hE rfl (by rw [Ften, if_neg (by rw [hw_z]; decide), hw_z]; exact Zsok_e hsc)

set_option maxRecDepth 20000 in
set_option maxHeartbeats 4000000 in
theorem s_judge (n_z : Nat) (sh : Int32) (M : Zmem) (hi_z : Zsiv (Zgs M)) (hfi : Zfi (M 54)) (hn_z : M 54 7 = nI n_z) (hn2 : n_z ≤ 15) : ZC 129 5 [.ref 53, .int sh] M (fun r_z M' => r_z = some (.int (Fjudge (Zgs M) (M 54) n_z sh)) ∧ Sc M M') := by
  refine ZC_of Zt129 Zk129 (Nat.le_of_ble_eq_true rfl) (by decide) rfl (fun X hX hE => ?_)
  refine Zgo hX 2 rfl (by (first | exact True.intro | assumption | (dsimp only [ZallP]; and_intros <;> (first | assumption | decide | omega | ((try simp (disch := omega) only [pk_mul, nI_add, Zcl_n]); exact Zin_n (by omega) (by decide)))))) ?_
  refine Zs_callv hX (List.cons_ne_nil _ _) (s_why sh M) (by first | decide | omega) (by decide) rfl rfl rfl (by decide) (Nat.le_of_ble_eq_true rfl) (fun r_z M' hc_z => ?_)
  obtain ⟨rfl, rfl⟩ := hc_z
  rcases Fwhy_lt (Zgs M) sh with hw_z | hw_z | hw_z
  · rw [hw_z]
    refine Zgo hX 2 rfl (by (first | exact True.intro | assumption | (dsimp only [ZallP]; and_intros <;> (first | assumption | decide | omega | ((try simp (disch := omega) only [pk_mul, nI_add, Zcl_n]); exact Zin_n (by omega) (by decide)))))) ?_
    refine Zs_eq hX (List.cons_ne_nil _ _) (fun _ => ?_) (fun q_z => False.elim (by revert q_z; decide))
    obtain ⟨t, ht_z, rfl, et, hb0⟩ := Fwhy_0 hw_z
    obtain ⟨hbt, s_z, hs24, hs_z⟩ := hi_z t ht_z
    have OUT : ∀ (k_z : Nat) (M1 : Zmem), k_z = Zju (M 68) (M 54) t s_z n_z 24 0 → Sc M M1 → ZP X Zt129 (Zsf Zt129 61) [(3, .int (nI k_z)), (0, .ref 53), (1, .int (nI t))] [] M1 := by
      intro k_z M1 he_z hh
      refine Zgo hX 1 rfl (by (first | exact True.intro | assumption | (dsimp only [ZallP]; and_intros <;> (first | assumption | decide | omega | ((try simp (disch := omega) only [pk_mul, nI_add, Zcl_n]); exact Zin_n (by omega) (by decide)))))) ?_
      refine Zs_ret hX hE rfl ⟨by rw [Fjudge, if_pos hw_z, et, hs_z, Zcl_n (show s_z < 2 ^ 31 by omega), show (Zgs M).2.2 = M 68 from rfl, ← he_z], hh⟩
    have L : ∀ (q_z k_z : Nat) (M1 : Zmem), k_z + q_z = 24 → Zju (M 68) (M 54) t s_z n_z q_z k_z = Zju (M 68) (M 54) t s_z n_z 24 0 → Sc M M1 → ZP X Zt129 (Zsf Zt129 18) [(3, .int (nI k_z)), (0, .ref 53), (1, .int (nI t))] [] M1 := by
      intro q_z
      induction q_z with
      | zero =>
        intro k_z M1 hk_z he_z hh
        refine Zgo hX 5 rfl (Zin_n (by omega) (by decide)) ?_
        simp (disch := omega) only [Zcl_n, pk_mul, nI_add, Zu_s, Zu_o]
        rw [show M1 67 = M 67 from funext fun j_z => hh 67 j_z rfl, show M 67 t = nI s_z from hs_z]
        refine Zs_ige hX (List.cons_ne_nil _ _) (fun h_z => ?_) (fun h_z => ?_)
        · exact OUT k_z M1 he_z hh
        · exact absurd ((Zn_le (by omega) (by omega)).mpr (by omega)) h_z
      | succ q_z ih_z =>
        intro k_z M1 hk_z he_z hh
        have STOP : ∀ M2 : Zmem, M2 = M2 → Sc M M2 → ¬ (k_z < s_z ∧ k_z < n_z ∧ M 68 (24 * t + k_z) = Zyo (M 54) k_z) → ZP X Zt129 (Zsf Zt129 61) [(3, .int (nI k_z)), (0, .ref 53), (1, .int (nI t))] [] M2 := by
          intro M2 _ hh2 c_z
          rw [Zju, if_neg c_z] at he_z
          exact OUT k_z M2 he_z hh2
        refine Zgo hX 5 rfl (Zin_n (by omega) (by decide)) ?_
        simp (disch := omega) only [Zcl_n, pk_mul, nI_add, Zu_s, Zu_o]
        rw [show M1 67 = M 67 from funext fun j_z => hh 67 j_z rfl, show M 67 t = nI s_z from hs_z]
        refine Zs_ige hX (List.cons_ne_nil _ _) (fun h_z => ?_) (fun h_z => ?_)
        · exact STOP _ rfl hh (fun q_z => absurd ((Zn_le (by omega) (by omega)).mp h_z) (by omega))
        · have hks : k_z < s_z := (Nat.lt_or_ge k_z s_z).elim id (fun q_z => absurd ((Zn_le (by omega) (by omega)).mpr q_z) h_z)
          refine Zgo hX 2 rfl (by (first | exact True.intro | assumption | (dsimp only [ZallP]; and_intros <;> (first | assumption | decide | omega | ((try simp (disch := omega) only [pk_mul, nI_add, Zcl_n]); exact Zin_n (by omega) (by decide)))))) ?_
          refine Zs_callv hX (List.cons_ne_nil _ _) (s_isRow (nI k_z) n_z _ (by rw [hh.f54]; exact hn_z) hn2) (by first | decide | omega) (by decide) rfl rfl rfl (by decide) (Nat.le_of_ble_eq_true rfl) (fun r_z M' hc_z => ?_)
          rcases hc_z with ⟨⟨rfl, h2_z⟩ | ⟨rfl, h2_z⟩, rfl⟩
          · refine Zs_eq hX (List.cons_ne_nil _ _) (fun q_z => False.elim (by revert q_z; decide)) (fun _ => ?_)
            have hkn : k_z < n_z := by have := (Zin_i.mp h2_z).2; rw [Zn_i (by omega)] at this; omega
            refine Zgo hX 2 rfl (by (first | exact True.intro | assumption | (dsimp only [ZallP]; and_intros <;> (first | assumption | decide | omega | ((try simp (disch := omega) only [pk_mul, nI_add, Zcl_n]); exact Zin_n (by omega) (by decide)))))) ?_
            refine Zs_callv hX (List.cons_ne_nil _ _) (s_yarnOf k_z _ (by omega) (by rw [hh.f54]; exact hfi.rw hn_z hn2 hkn) (by rw [hh.f54]; exact hfi.2.2.2.1)) (by first | decide | omega) (by decide) rfl rfl rfl (by decide) (Nat.le_of_ble_eq_true rfl) (fun r_z M' hc_z => ?_)
            obtain ⟨rfl, hs2⟩ := hc_z
            rw [hh.f54]
            have hh2 := hh.tr hs2.sc
            refine Zgo hX 8 rfl (by rw [pk_mul, nI_add]; exact Zin_n (by omega) (by decide)) ?_
            simp (disch := omega) only [Zcl_n, pk_mul, nI_add, Zu_s, Zu_o]
            rw [show M' 68 = M 68 from funext fun j_z => hh2 68 j_z rfl]
            refine Zs_ine hX (List.cons_ne_nil _ _) (fun h3_z => ?_) (fun h3_z => ?_)
            · exact STOP _ rfl hh2 (fun q_z => h3_z q_z.2.2.symm)
            · rw [Zju, if_pos ⟨hks, hkn, h3_z.symm⟩] at he_z
              refine Zgo hX 2 rfl (by (first | exact True.intro | assumption | (dsimp only [ZallP]; and_intros <;> (first | assumption | decide | omega | ((try simp (disch := omega) only [pk_mul, nI_add, Zcl_n]); exact Zin_n (by omega) (by decide)))))) ?_
              rw [nI_add]
              refine Zs_sub (l' := [(3, .int (nI (k_z + 1))), (0, .ref 53), (1, .int (nI t))]) rfl ?_
              exact ih_z (k_z + 1) _ (by omega) he_z hh2
          · refine Zs_eq hX (List.cons_ne_nil _ _) (fun _ => ?_) (fun q_z => False.elim (by revert q_z; decide))
            exact STOP _ rfl hh (fun q_z => h2_z (Zin_n q_z.2.1 (by omega)))
    refine Zgo hX 2 rfl (by (first | exact True.intro | assumption | (dsimp only [ZallP]; and_intros <;> (first | assumption | decide | omega | ((try simp (disch := omega) only [pk_mul, nI_add, Zcl_n]); exact Zin_n (by omega) (by decide)))))) ?_
    refine Zs_sub (l' := [(3, .int (nI 0)), (0, .ref 53), (1, .int (nI t))]) rfl ?_
    exact L 24 0 M rfl rfl (Sc.rf _)
  · skip
    rw [hw_z]
    refine Zgo hX 2 rfl (by (first | exact True.intro | assumption | (dsimp only [ZallP]; and_intros <;> (first | assumption | decide | omega | ((try simp (disch := omega) only [pk_mul, nI_add, Zcl_n]); exact Zin_n (by omega) (by decide)))))) ?_
    refine Zs_eq hX (List.cons_ne_nil _ _) (fun q_z => False.elim (by revert q_z; decide)) (fun _ => ?_)
    refine Zgo hX 2 rfl (by (first | exact True.intro | assumption | (dsimp only [ZallP]; and_intros <;> (first | assumption | decide | omega | ((try simp (disch := omega) only [pk_mul, nI_add, Zcl_n]); exact Zin_n (by omega) (by decide)))))) ?_
    refine Zs_callv hX (List.cons_ne_nil _ _) (s_error 1 _ (by decide)) (by first | decide | omega) (by decide) rfl rfl rfl (by decide) (Nat.le_of_ble_eq_true rfl) (fun r_z M' hc_z => ?_)
    obtain ⟨rfl, hsc⟩ := hc_z
    refine Zs_ret hX hE rfl ⟨by rw [Fjudge, if_neg (by rw [hw_z]; decide), hw_z], hsc⟩
  · skip
    rw [hw_z]
    refine Zgo hX 2 rfl (by (first | exact True.intro | assumption | (dsimp only [ZallP]; and_intros <;> (first | assumption | decide | omega | ((try simp (disch := omega) only [pk_mul, nI_add, Zcl_n]); exact Zin_n (by omega) (by decide)))))) ?_
    refine Zs_eq hX (List.cons_ne_nil _ _) (fun q_z => False.elim (by revert q_z; decide)) (fun _ => ?_)
    refine Zgo hX 2 rfl (by (first | exact True.intro | assumption | (dsimp only [ZallP]; and_intros <;> (first | assumption | decide | omega | ((try simp (disch := omega) only [pk_mul, nI_add, Zcl_n]); exact Zin_n (by omega) (by decide)))))) ?_
    refine Zs_callv hX (List.cons_ne_nil _ _) (s_error 2 _ (by decide)) (by first | decide | omega) (by decide) rfl rfl rfl (by decide) (Nat.le_of_ble_eq_true rfl) (fun r_z M' hc_z => ?_)
    obtain ⟨rfl, hsc⟩ := hc_z
    refine Zs_ret hX hE rfl ⟨by rw [Fjudge, if_neg (by rw [hw_z]; decide), hw_z], hsc⟩
