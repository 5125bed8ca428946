set_option maxRecDepth 20000 in
set_option maxHeartbeats 1000000 in
theorem k_make0 (g_z : Zsn) (b_z : Int32) (s_z : Nat) (M : Zmem) (hg_z : Zks g_z M) (hs_z : s_z ≤ 24) : ZC 180 2 [.ref 45, .int b_z, .int (nI s_z)] M (fun r_z M' => r_z = none ∧ Zks (upd g_z.1 0 b_z, upd g_z.2.1 0 (nI s_z), Zz g_z.2.2 0 24) M' ∧ Zhg M M') := by
  refine ZC_of Zt180 Zk180 (Nat.le_of_ble_eq_true rfl) (by decide) rfl (fun X hX hE => ?_)
  have L : ∀ (q_z i_z : Nat) (M1 : Zmem), 24 - i_z < q_z → i_z ≤ 24 → Zks (upd g_z.1 0 b_z, upd g_z.2.1 0 (nI s_z), Zz g_z.2.2 0 i_z) M1 → Zhg M M1 → ZP X Zt180 (Zsf Zt180 18) [(0, .ref 45), (1, .int b_z), (2, .int (nI s_z)), (3, .int (nI i_z))] [] M1 := by
    intro q_z
    induction q_z with
    | zero => intro i_z M1 hq_z; exact absurd hq_z (Nat.not_lt_zero _)
    | succ q_z ih_z =>
      intro i_z M1 hq_z hi_z hg1 hh
      refine Zgo hX 2 rfl (by (first | exact True.intro | assumption | (dsimp only [ZallP]; and_intros <;> (first | assumption | decide | omega | ((try simp (disch := omega) only [pk_mul, nI_add, Zcl_n]); exact Zin_n (by omega) (by decide)))))) ?_
      refine Zs_ige hX (List.cons_ne_nil _ _) (fun h3_z => ?_) (fun h3_z => ?_)
      · obtain rfl : i_z = 24 := by have := (Zn_le (by omega) (by omega)).mp h3_z; omega
        refine Zs_retv hX hE rfl ⟨rfl, hg1, hh⟩
      · have hlt : i_z < 24 := (Nat.lt_or_ge i_z 24).elim id (fun q_z => absurd ((Zn_le (by omega) (by omega)).mpr q_z) h3_z)
        refine Zgo hX 7 rfl (Zin_n (by omega) (by decide)) ?_
        rw [nI_add, Zcl_n (show i_z < 2 ^ 31 by omega)]
        refine Zs_sub (l' := [(0, .ref 45), (1, .int b_z), (2, .int (nI s_z)), (3, .int (nI (i_z + 1)))]) rfl ?_
        exact ih_z (i_z + 1) _ (by omega) hlt (hg1.n (t := 0) (by decide) hlt (nI 0)) (hh.u 46 (by decide) _ _)
  refine Zgo hX 7 rfl (by (first | exact True.intro | assumption | (dsimp only [ZallP]; and_intros <;> (first | assumption | decide | omega | ((try simp (disch := omega) only [pk_mul, nI_add, Zcl_n]); exact Zin_n (by omega) (by decide)))))) ?_
  refine Zs_calls hX (List.cons_ne_nil _ _) (by decide) (k_held _ _ _ _) (by first | decide | omega) rfl rfl (by decide) (Nat.le_of_ble_eq_true rfl) (fun r_z M' hc_z => ?_)
  obtain ⟨rfl, rfl⟩ := hc_z
  rw [Zhl_k (by decide), Zhl_id ((Zn_le (by decide) (by omega)).mpr (Nat.zero_le _)) ((Zn_le (by omega) (by decide)).mpr hs_z)]
  refine Zgo hX 3 rfl (by (first | exact True.intro | assumption | (dsimp only [ZallP]; and_intros <;> (first | assumption | decide | omega | ((try simp (disch := omega) only [pk_mul, nI_add, Zcl_n]); exact Zin_n (by omega) (by decide)))))) ?_
  refine Zs_sub (l' := [(0, .ref 45), (1, .int b_z), (2, .int (nI s_z)), (3, .int (nI 0))]) rfl ?_
  exact L 25 0 _ (by decide) (by decide) ((hg_z.b (t := 0) (by decide) b_z).s (t := 0) (by decide) (nI s_z)) (((Zhg.rf M).u 45 (by decide) _ _).u 45 (by decide) _ _)

set_option maxRecDepth 20000 in
set_option maxHeartbeats 1000000 in
theorem k_make1 (g_z : Zsn) (b_z : Int32) (s_z : Nat) (M : Zmem) (hg_z : Zks g_z M) (hs_z : s_z ≤ 24) : ZC 180 2 [.ref 47, .int b_z, .int (nI s_z)] M (fun r_z M' => r_z = none ∧ Zks (upd g_z.1 1 b_z, upd g_z.2.1 1 (nI s_z), Zz g_z.2.2 1 24) M' ∧ Zhg M M') := by
  refine ZC_of Zt180 Zk180 (Nat.le_of_ble_eq_true rfl) (by decide) rfl (fun X hX hE => ?_)
  have L : ∀ (q_z i_z : Nat) (M1 : Zmem), 24 - i_z < q_z → i_z ≤ 24 → Zks (upd g_z.1 1 b_z, upd g_z.2.1 1 (nI s_z), Zz g_z.2.2 1 i_z) M1 → Zhg M M1 → ZP X Zt180 (Zsf Zt180 18) [(0, .ref 47), (1, .int b_z), (2, .int (nI s_z)), (3, .int (nI i_z))] [] M1 := by
    intro q_z
    induction q_z with
    | zero => intro i_z M1 hq_z; exact absurd hq_z (Nat.not_lt_zero _)
    | succ q_z ih_z =>
      intro i_z M1 hq_z hi_z hg1 hh
      refine Zgo hX 2 rfl (by (first | exact True.intro | assumption | (dsimp only [ZallP]; and_intros <;> (first | assumption | decide | omega | ((try simp (disch := omega) only [pk_mul, nI_add, Zcl_n]); exact Zin_n (by omega) (by decide)))))) ?_
      refine Zs_ige hX (List.cons_ne_nil _ _) (fun h3_z => ?_) (fun h3_z => ?_)
      · obtain rfl : i_z = 24 := by have := (Zn_le (by omega) (by omega)).mp h3_z; omega
        refine Zs_retv hX hE rfl ⟨rfl, hg1, hh⟩
      · have hlt : i_z < 24 := (Nat.lt_or_ge i_z 24).elim id (fun q_z => absurd ((Zn_le (by omega) (by omega)).mpr q_z) h3_z)
        refine Zgo hX 7 rfl (Zin_n (by omega) (by decide)) ?_
        rw [nI_add, Zcl_n (show i_z < 2 ^ 31 by omega)]
        refine Zs_sub (l' := [(0, .ref 47), (1, .int b_z), (2, .int (nI s_z)), (3, .int (nI (i_z + 1)))]) rfl ?_
        exact ih_z (i_z + 1) _ (by omega) hlt (hg1.n (t := 1) (by decide) hlt (nI 0)) (hh.u 48 (by decide) _ _)
  refine Zgo hX 7 rfl (by (first | exact True.intro | assumption | (dsimp only [ZallP]; and_intros <;> (first | assumption | decide | omega | ((try simp (disch := omega) only [pk_mul, nI_add, Zcl_n]); exact Zin_n (by omega) (by decide)))))) ?_
  refine Zs_calls hX (List.cons_ne_nil _ _) (by decide) (k_held _ _ _ _) (by first | decide | omega) rfl rfl (by decide) (Nat.le_of_ble_eq_true rfl) (fun r_z M' hc_z => ?_)
  obtain ⟨rfl, rfl⟩ := hc_z
  rw [Zhl_k (by decide), Zhl_id ((Zn_le (by decide) (by omega)).mpr (Nat.zero_le _)) ((Zn_le (by omega) (by decide)).mpr hs_z)]
  refine Zgo hX 3 rfl (by (first | exact True.intro | assumption | (dsimp only [ZallP]; and_intros <;> (first | assumption | decide | omega | ((try simp (disch := omega) only [pk_mul, nI_add, Zcl_n]); exact Zin_n (by omega) (by decide)))))) ?_
  refine Zs_sub (l' := [(0, .ref 47), (1, .int b_z), (2, .int (nI s_z)), (3, .int (nI 0))]) rfl ?_
  exact L 25 0 _ (by decide) (by decide) ((hg_z.b (t := 1) (by decide) b_z).s (t := 1) (by decide) (nI s_z)) (((Zhg.rf M).u 47 (by decide) _ _).u 47 (by decide) _ _)

set_option maxRecDepth 20000 in
set_option maxHeartbeats 1000000 in
theorem k_make2 (g_z : Zsn) (b_z : Int32) (s_z : Nat) (M : Zmem) (hg_z : Zks g_z M) (hs_z : s_z ≤ 24) : ZC 180 2 [.ref 49, .int b_z, .int (nI s_z)] M (fun r_z M' => r_z = none ∧ Zks (upd g_z.1 2 b_z, upd g_z.2.1 2 (nI s_z), Zz g_z.2.2 2 24) M' ∧ Zhg M M') := by
  refine ZC_of Zt180 Zk180 (Nat.le_of_ble_eq_true rfl) (by decide) rfl (fun X hX hE => ?_)
  have L : ∀ (q_z i_z : Nat) (M1 : Zmem), 24 - i_z < q_z → i_z ≤ 24 → Zks (upd g_z.1 2 b_z, upd g_z.2.1 2 (nI s_z), Zz g_z.2.2 2 i_z) M1 → Zhg M M1 → ZP X Zt180 (Zsf Zt180 18) [(0, .ref 49), (1, .int b_z), (2, .int (nI s_z)), (3, .int (nI i_z))] [] M1 := by
    intro q_z
    induction q_z with
    | zero => intro i_z M1 hq_z; exact absurd hq_z (Nat.not_lt_zero _)
    | succ q_z ih_z =>
      intro i_z M1 hq_z hi_z hg1 hh
      refine Zgo hX 2 rfl (by (first | exact True.intro | assumption | (dsimp only [ZallP]; and_intros <;> (first | assumption | decide | omega | ((try simp (disch := omega) only [pk_mul, nI_add, Zcl_n]); exact Zin_n (by omega) (by decide)))))) ?_
      refine Zs_ige hX (List.cons_ne_nil _ _) (fun h3_z => ?_) (fun h3_z => ?_)
      · obtain rfl : i_z = 24 := by have := (Zn_le (by omega) (by omega)).mp h3_z; omega
        refine Zs_retv hX hE rfl ⟨rfl, hg1, hh⟩
      · have hlt : i_z < 24 := (Nat.lt_or_ge i_z 24).elim id (fun q_z => absurd ((Zn_le (by omega) (by omega)).mpr q_z) h3_z)
        refine Zgo hX 7 rfl (Zin_n (by omega) (by decide)) ?_
        rw [nI_add, Zcl_n (show i_z < 2 ^ 31 by omega)]
        refine Zs_sub (l' := [(0, .ref 49), (1, .int b_z), (2, .int (nI s_z)), (3, .int (nI (i_z + 1)))]) rfl ?_
        exact ih_z (i_z + 1) _ (by omega) hlt (hg1.n (t := 2) (by decide) hlt (nI 0)) (hh.u 50 (by decide) _ _)
  refine Zgo hX 7 rfl (by (first | exact True.intro | assumption | (dsimp only [ZallP]; and_intros <;> (first | assumption | decide | omega | ((try simp (disch := omega) only [pk_mul, nI_add, Zcl_n]); exact Zin_n (by omega) (by decide)))))) ?_
  refine Zs_calls hX (List.cons_ne_nil _ _) (by decide) (k_held _ _ _ _) (by first | decide | omega) rfl rfl (by decide) (Nat.le_of_ble_eq_true rfl) (fun r_z M' hc_z => ?_)
  obtain ⟨rfl, rfl⟩ := hc_z
  rw [Zhl_k (by decide), Zhl_id ((Zn_le (by decide) (by omega)).mpr (Nat.zero_le _)) ((Zn_le (by omega) (by decide)).mpr hs_z)]
  refine Zgo hX 3 rfl (by (first | exact True.intro | assumption | (dsimp only [ZallP]; and_intros <;> (first | assumption | decide | omega | ((try simp (disch := omega) only [pk_mul, nI_add, Zcl_n]); exact Zin_n (by omega) (by decide)))))) ?_
  refine Zs_sub (l' := [(0, .ref 49), (1, .int b_z), (2, .int (nI s_z)), (3, .int (nI 0))]) rfl ?_
  exact L 25 0 _ (by decide) (by decide) ((hg_z.b (t := 2) (by decide) b_z).s (t := 2) (by decide) (nI s_z)) (((Zhg.rf M).u 49 (by decide) _ _).u 49 (by decide) _ _)

set_option maxRecDepth 20000 in
set_option maxHeartbeats 1000000 in
theorem k_make3 (g_z : Zsn) (b_z : Int32) (s_z : Nat) (M : Zmem) (hg_z : Zks g_z M) (hs_z : s_z ≤ 24) : ZC 180 2 [.ref 51, .int b_z, .int (nI s_z)] M (fun r_z M' => r_z = none ∧ Zks (upd g_z.1 3 b_z, upd g_z.2.1 3 (nI s_z), Zz g_z.2.2 3 24) M' ∧ Zhg M M') := by
  refine ZC_of Zt180 Zk180 (Nat.le_of_ble_eq_true rfl) (by decide) rfl (fun X hX hE => ?_)
  have L : ∀ (q_z i_z : Nat) (M1 : Zmem), 24 - i_z < q_z → i_z ≤ 24 → Zks (upd g_z.1 3 b_z, upd g_z.2.1 3 (nI s_z), Zz g_z.2.2 3 i_z) M1 → Zhg M M1 → ZP X Zt180 (Zsf Zt180 18) [(0, .ref 51), (1, .int b_z), (2, .int (nI s_z)), (3, .int (nI i_z))] [] M1 := by
    intro q_z
    induction q_z with
    | zero => intro i_z M1 hq_z; exact absurd hq_z (Nat.not_lt_zero _)
    | succ q_z ih_z =>
      intro i_z M1 hq_z hi_z hg1 hh
      refine Zgo hX 2 rfl (by (first | exact True.intro | assumption | (dsimp only [ZallP]; and_intros <;> (first | assumption | decide | omega | ((try simp (disch := omega) only [pk_mul, nI_add, Zcl_n]); exact Zin_n (by omega) (by decide)))))) ?_
      refine Zs_ige hX (List.cons_ne_nil _ _) (fun h3_z => ?_) (fun h3_z => ?_)
      · obtain rfl : i_z = 24 := by have := (Zn_le (by omega) (by omega)).mp h3_z; omega
        refine Zs_retv hX hE rfl ⟨rfl, hg1, hh⟩
      · have hlt : i_z < 24 := (Nat.lt_or_ge i_z 24).elim id (fun q_z => absurd ((Zn_le (by omega) (by omega)).mpr q_z) h3_z)
        refine Zgo hX 7 rfl (Zin_n (by omega) (by decide)) ?_
        rw [nI_add, Zcl_n (show i_z < 2 ^ 31 by omega)]
        refine Zs_sub (l' := [(0, .ref 51), (1, .int b_z), (2, .int (nI s_z)), (3, .int (nI (i_z + 1)))]) rfl ?_
        exact ih_z (i_z + 1) _ (by omega) hlt (hg1.n (t := 3) (by decide) hlt (nI 0)) (hh.u 52 (by decide) _ _)
  refine Zgo hX 7 rfl (by (first | exact True.intro | assumption | (dsimp only [ZallP]; and_intros <;> (first | assumption | decide | omega | ((try simp (disch := omega) only [pk_mul, nI_add, Zcl_n]); exact Zin_n (by omega) (by decide)))))) ?_
  refine Zs_calls hX (List.cons_ne_nil _ _) (by decide) (k_held _ _ _ _) (by first | decide | omega) rfl rfl (by decide) (Nat.le_of_ble_eq_true rfl) (fun r_z M' hc_z => ?_)
  obtain ⟨rfl, rfl⟩ := hc_z
  rw [Zhl_k (by decide), Zhl_id ((Zn_le (by decide) (by omega)).mpr (Nat.zero_le _)) ((Zn_le (by omega) (by decide)).mpr hs_z)]
  refine Zgo hX 3 rfl (by (first | exact True.intro | assumption | (dsimp only [ZallP]; and_intros <;> (first | assumption | decide | omega | ((try simp (disch := omega) only [pk_mul, nI_add, Zcl_n]); exact Zin_n (by omega) (by decide)))))) ?_
  refine Zs_sub (l' := [(0, .ref 51), (1, .int b_z), (2, .int (nI s_z)), (3, .int (nI 0))]) rfl ?_
  exact L 25 0 _ (by decide) (by decide) ((hg_z.b (t := 3) (by decide) b_z).s (t := 3) (by decide) (nI s_z)) (((Zhg.rf M).u 51 (by decide) _ _).u 51 (by decide) _ _)

set_option maxRecDepth 20000 in
set_option maxHeartbeats 1000000 in
theorem k_sheet (g_z : Zsn) (sh b_z n_z : Int32) (M : Zmem) (hg_z : Zks g_z M) (hi_z : Zsiv g_z) : ZC 26 4 [.ref 0, .int sh, .int b_z, .int n_z] M (Zkk (Fsheet g_z sh b_z n_z) M) := by
  refine ZC_of Zt26 Zk26 (Nat.le_of_ble_eq_true rfl) (by decide) rfl (fun X hX hE => ?_)
  have BAD : ¬ ((nI 0 ≤ sh ∧ sh ≤ nI 3) ∧ Zbt b_z) → ZP X Zt26 (Zsf Zt26 29) (lv_args 0 [.ref 0, .int sh, .int b_z, .int n_z]) [] M := by
    intro h_z
    refine Zgo hX 2 rfl (by (first | exact True.intro | assumption | (dsimp only [ZallP]; and_intros <;> (first | assumption | decide | omega | ((try simp (disch := omega) only [pk_mul, nI_add, Zcl_n]); exact Zin_n (by omega) (by decide)))))) ?_
    refine Zs_callv hX (List.cons_ne_nil _ _) (k_refuse 1 _ (by decide)) (by first | decide | omega) (by decide) rfl rfl rfl (by decide) (Nat.le_of_ble_eq_true rfl) (fun r_z M' hc_z => ?_)
    obtain ⟨rfl, hsc⟩ := hc_z
    refine Zs_ret hX hE rfl (by rw [Fsheet, if_neg h_z]; exact Zkk_e hg_z hsc)
  have GOOD : (nI 0 ≤ sh ∧ sh ≤ nI 3) → Zbt b_z → ZP X Zt26 (Zsf Zt26 35) (lv_args 0 [.ref 0, .int sh, .int b_z, .int n_z]) [] M := by
    intro h1_z h2_z
    have hall := And.intro h1_z h2_z
    obtain ⟨t, ht_z, rfl⟩ := Zbt_ex (b_z := 3) (by decide) h1_z
    refine Zgo hX 1 rfl (by (first | exact True.intro | assumption | (dsimp only [ZallP]; and_intros <;> (first | assumption | decide | omega | ((try simp (disch := omega) only [pk_mul, nI_add, Zcl_n]); exact Zin_n (by omega) (by decide)))))) ?_
    refine Zs_ne hX (List.cons_ne_nil _ _) (fun h3_z => ?_) (fun h3_z => ?_)
    · refine Zgo hX 1 rfl (by (first | exact True.intro | assumption | (dsimp only [ZallP]; and_intros <;> (first | assumption | decide | omega | ((try simp (disch := omega) only [pk_mul, nI_add, Zcl_n]); exact Zin_n (by omega) (by decide)))))) ?_
      refine Zs_ge hX (List.cons_ne_nil _ _) (fun h4_z => ?_) (fun h4_z => ?_)
      · refine Zgo hX 2 rfl (by (first | exact True.intro | assumption | (dsimp only [ZallP]; and_intros <;> (first | assumption | decide | omega | ((try simp (disch := omega) only [pk_mul, nI_add, Zcl_n]); exact Zin_n (by omega) (by decide)))))) ?_
        refine Zs_ile hX (List.cons_ne_nil _ _) (fun h5_z => ?_) (fun h5_z => ?_)
        · have hnn := Zof (show (0 : Int) ≤ n_z.toInt from (Zle_i 0 n_z).mp h4_z)
          obtain ⟨s_z, hs_z, rfl, -⟩ := hnn
          have hs24 : s_z ≤ 24 := (Zn_le (by omega) (by decide)).mp h5_z
          have c1_z : ¬ (¬ b_z = nI 0 ∧ nI s_z < nI 0) := fun q_z => absurd q_z.2 (Int32.not_lt.mpr ((Zn_le (by decide) (by omega)).mpr (Nat.zero_le _)))
          have c2 : ¬ (¬ b_z = nI 0 ∧ nI 24 < nI s_z) := fun q_z => absurd q_z.2 (Int32.not_lt.mpr h5_z)
          refine Zgo hX 3 rfl (by (first | exact True.intro | assumption | (dsimp only [ZallP]; and_intros <;> (first | assumption | decide | omega | ((try simp (disch := omega) only [pk_mul, nI_add, Zcl_n]); exact Zin_n (by omega) (by decide)))))) ?_
          rcases (show t = 0 ∨ t = 1 ∨ t = 2 ∨ t = 3 by omega) with rfl | rfl | rfl | rfl
          · skip
            refine Zs_aald hX (List.cons_ne_nil _ _) (by decide) rfl (by decide) (j := _) rfl (by decide) (by decide) rfl ?_
            refine Zgo hX 2 rfl (by (first | exact True.intro | assumption | (dsimp only [ZallP]; and_intros <;> (first | assumption | decide | omega | ((try simp (disch := omega) only [pk_mul, nI_add, Zcl_n]); exact Zin_n (by omega) (by decide)))))) ?_
            refine Zs_callv hX (List.cons_ne_nil _ _) (k_make0 g_z b_z s_z _ hg_z hs24) (by first | decide | omega) (by decide) rfl rfl rfl (by decide) (Nat.le_of_ble_eq_true rfl) (fun r_z M' hc_z => ?_)
            obtain ⟨rfl, hg2, hh2⟩ := hc_z
            refine Zgo hX 1 rfl (by (first | exact True.intro | assumption | (dsimp only [ZallP]; and_intros <;> (first | assumption | decide | omega | ((try simp (disch := omega) only [pk_mul, nI_add, Zcl_n]); exact Zin_n (by omega) (by decide)))))) ?_
            refine Zs_ret hX hE rfl (by rw [Fsheet, if_pos hall, if_neg c1_z, if_neg c2, show (nI 0).toNatClampNeg = 0 from Zcl_n (by decide), if_neg (show ¬ b_z = nI 0 from h3_z)]; exact ⟨rfl, hg2, hh2⟩)
          · skip
            refine Zs_aald hX (List.cons_ne_nil _ _) (by decide) rfl (by decide) (j := _) rfl (by decide) (by decide) rfl ?_
            refine Zgo hX 2 rfl (by (first | exact True.intro | assumption | (dsimp only [ZallP]; and_intros <;> (first | assumption | decide | omega | ((try simp (disch := omega) only [pk_mul, nI_add, Zcl_n]); exact Zin_n (by omega) (by decide)))))) ?_
            refine Zs_callv hX (List.cons_ne_nil _ _) (k_make1 g_z b_z s_z _ hg_z hs24) (by first | decide | omega) (by decide) rfl rfl rfl (by decide) (Nat.le_of_ble_eq_true rfl) (fun r_z M' hc_z => ?_)
            obtain ⟨rfl, hg2, hh2⟩ := hc_z
            refine Zgo hX 1 rfl (by (first | exact True.intro | assumption | (dsimp only [ZallP]; and_intros <;> (first | assumption | decide | omega | ((try simp (disch := omega) only [pk_mul, nI_add, Zcl_n]); exact Zin_n (by omega) (by decide)))))) ?_
            refine Zs_ret hX hE rfl (by rw [Fsheet, if_pos hall, if_neg c1_z, if_neg c2, show (nI 1).toNatClampNeg = 1 from Zcl_n (by decide), if_neg (show ¬ b_z = nI 0 from h3_z)]; exact ⟨rfl, hg2, hh2⟩)
          · skip
            refine Zs_aald hX (List.cons_ne_nil _ _) (by decide) rfl (by decide) (j := _) rfl (by decide) (by decide) rfl ?_
            refine Zgo hX 2 rfl (by (first | exact True.intro | assumption | (dsimp only [ZallP]; and_intros <;> (first | assumption | decide | omega | ((try simp (disch := omega) only [pk_mul, nI_add, Zcl_n]); exact Zin_n (by omega) (by decide)))))) ?_
            refine Zs_callv hX (List.cons_ne_nil _ _) (k_make2 g_z b_z s_z _ hg_z hs24) (by first | decide | omega) (by decide) rfl rfl rfl (by decide) (Nat.le_of_ble_eq_true rfl) (fun r_z M' hc_z => ?_)
            obtain ⟨rfl, hg2, hh2⟩ := hc_z
            refine Zgo hX 1 rfl (by (first | exact True.intro | assumption | (dsimp only [ZallP]; and_intros <;> (first | assumption | decide | omega | ((try simp (disch := omega) only [pk_mul, nI_add, Zcl_n]); exact Zin_n (by omega) (by decide)))))) ?_
            refine Zs_ret hX hE rfl (by rw [Fsheet, if_pos hall, if_neg c1_z, if_neg c2, show (nI 2).toNatClampNeg = 2 from Zcl_n (by decide), if_neg (show ¬ b_z = nI 0 from h3_z)]; exact ⟨rfl, hg2, hh2⟩)
          · skip
            refine Zs_aald hX (List.cons_ne_nil _ _) (by decide) rfl (by decide) (j := _) rfl (by decide) (by decide) rfl ?_
            refine Zgo hX 2 rfl (by (first | exact True.intro | assumption | (dsimp only [ZallP]; and_intros <;> (first | assumption | decide | omega | ((try simp (disch := omega) only [pk_mul, nI_add, Zcl_n]); exact Zin_n (by omega) (by decide)))))) ?_
            refine Zs_callv hX (List.cons_ne_nil _ _) (k_make3 g_z b_z s_z _ hg_z hs24) (by first | decide | omega) (by decide) rfl rfl rfl (by decide) (Nat.le_of_ble_eq_true rfl) (fun r_z M' hc_z => ?_)
            obtain ⟨rfl, hg2, hh2⟩ := hc_z
            refine Zgo hX 1 rfl (by (first | exact True.intro | assumption | (dsimp only [ZallP]; and_intros <;> (first | assumption | decide | omega | ((try simp (disch := omega) only [pk_mul, nI_add, Zcl_n]); exact Zin_n (by omega) (by decide)))))) ?_
            refine Zs_ret hX hE rfl (by rw [Fsheet, if_pos hall, if_neg c1_z, if_neg c2, show (nI 3).toNatClampNeg = 3 from Zcl_n (by decide), if_neg (show ¬ b_z = nI 0 from h3_z)]; exact ⟨rfl, hg2, hh2⟩)
        · have c1_z : ¬ (¬ b_z = nI 0 ∧ n_z < nI 0) := fun q_z => absurd q_z.2 (Int32.not_lt.mpr h4_z)
          have c2 : ¬ b_z = nI 0 ∧ nI 24 < n_z := ⟨h3_z, Int32.not_le.mp h5_z⟩
          refine Zgo hX 2 rfl (by (first | exact True.intro | assumption | (dsimp only [ZallP]; and_intros <;> (first | assumption | decide | omega | ((try simp (disch := omega) only [pk_mul, nI_add, Zcl_n]); exact Zin_n (by omega) (by decide)))))) ?_
          refine Zs_callv hX (List.cons_ne_nil _ _) (k_refuse 1 _ (by decide)) (by first | decide | omega) (by decide) rfl rfl rfl (by decide) (Nat.le_of_ble_eq_true rfl) (fun r_z M' hc_z => ?_)
          obtain ⟨rfl, hsc⟩ := hc_z
          refine Zs_ret hX hE rfl (by rw [Fsheet, if_pos hall, if_neg c1_z, if_pos c2]; exact Zkk_e hg_z hsc)
      · have c1_z : ¬ b_z = nI 0 ∧ n_z < nI 0 := ⟨h3_z, Int32.not_le.mp h4_z⟩
        refine Zgo hX 2 rfl (by (first | exact True.intro | assumption | (dsimp only [ZallP]; and_intros <;> (first | assumption | decide | omega | ((try simp (disch := omega) only [pk_mul, nI_add, Zcl_n]); exact Zin_n (by omega) (by decide)))))) ?_
        refine Zs_callv hX (List.cons_ne_nil _ _) (k_refuse 3 _ (by decide)) (by first | decide | omega) (by decide) rfl rfl rfl (by decide) (Nat.le_of_ble_eq_true rfl) (fun r_z M' hc_z => ?_)
        obtain ⟨rfl, hsc⟩ := hc_z
        refine Zs_ret hX hE rfl (by rw [Fsheet, if_pos hall, if_pos c1_z]; exact Zkk_e hg_z hsc)
    · have h3_z : b_z = nI 0 := h3_z
      have c1_z : ¬ (¬ b_z = nI 0 ∧ n_z < nI 0) := fun q_z => q_z.1 h3_z
      have c2 : ¬ (¬ b_z = nI 0 ∧ nI 24 < n_z) := fun q_z => q_z.1 h3_z
      refine Zgo hX 3 rfl (by (first | exact True.intro | assumption | (dsimp only [ZallP]; and_intros <;> (first | assumption | decide | omega | ((try simp (disch := omega) only [pk_mul, nI_add, Zcl_n]); exact Zin_n (by omega) (by decide)))))) ?_
      rcases (show t = 0 ∨ t = 1 ∨ t = 2 ∨ t = 3 by omega) with rfl | rfl | rfl | rfl
      · skip
        refine Zs_aald hX (List.cons_ne_nil _ _) (by decide) rfl (by decide) (j := _) rfl (by decide) (by decide) rfl ?_
        refine Zgo hX 2 rfl (by (first | exact True.intro | assumption | (dsimp only [ZallP]; and_intros <;> (first | assumption | decide | omega | ((try simp (disch := omega) only [pk_mul, nI_add, Zcl_n]); exact Zin_n (by omega) (by decide)))))) ?_
        refine Zs_callv hX (List.cons_ne_nil _ _) (k_make0 g_z (nI 0) 0 _ hg_z (by decide)) (by first | decide | omega) (by decide) rfl rfl rfl (by decide) (Nat.le_of_ble_eq_true rfl) (fun r_z M' hc_z => ?_)
        obtain ⟨rfl, hg2, hh2⟩ := hc_z
        refine Zgo hX 1 rfl (by (first | exact True.intro | assumption | (dsimp only [ZallP]; and_intros <;> (first | assumption | decide | omega | ((try simp (disch := omega) only [pk_mul, nI_add, Zcl_n]); exact Zin_n (by omega) (by decide)))))) ?_
        refine Zs_ret hX hE rfl (by rw [Fsheet, if_pos hall, if_neg c1_z, if_neg c2, show (nI 0).toNatClampNeg = 0 from Zcl_n (by decide), if_pos h3_z, h3_z]; exact ⟨rfl, hg2, hh2⟩)
      · skip
        refine Zs_aald hX (List.cons_ne_nil _ _) (by decide) rfl (by decide) (j := _) rfl (by decide) (by decide) rfl ?_
        refine Zgo hX 2 rfl (by (first | exact True.intro | assumption | (dsimp only [ZallP]; and_intros <;> (first | assumption | decide | omega | ((try simp (disch := omega) only [pk_mul, nI_add, Zcl_n]); exact Zin_n (by omega) (by decide)))))) ?_
        refine Zs_callv hX (List.cons_ne_nil _ _) (k_make1 g_z (nI 0) 0 _ hg_z (by decide)) (by first | decide | omega) (by decide) rfl rfl rfl (by decide) (Nat.le_of_ble_eq_true rfl) (fun r_z M' hc_z => ?_)
        obtain ⟨rfl, hg2, hh2⟩ := hc_z
        refine Zgo hX 1 rfl (by (first | exact True.intro | assumption | (dsimp only [ZallP]; and_intros <;> (first | assumption | decide | omega | ((try simp (disch := omega) only [pk_mul, nI_add, Zcl_n]); exact Zin_n (by omega) (by decide)))))) ?_
        refine Zs_ret hX hE rfl (by rw [Fsheet, if_pos hall, if_neg c1_z, if_neg c2, show (nI 1).toNatClampNeg = 1 from Zcl_n (by decide), if_pos h3_z, h3_z]; exact ⟨rfl, hg2, hh2⟩)
      · skip
        refine Zs_aald hX (List.cons_ne_nil _ _) (by decide) rfl (by decide) (j := _) rfl (by decide) (by decide) rfl ?_
        refine Zgo hX 2 rfl (by (first | exact True.intro | assumption | (dsimp only [ZallP]; and_intros <;> (first | assumption | decide | omega | ((try simp (disch := omega) only [pk_mul, nI_add, Zcl_n]); exact Zin_n (by omega) (by decide)))))) ?_
        refine Zs_callv hX (List.cons_ne_nil _ _) (k_make2 g_z (nI 0) 0 _ hg_z (by decide)) (by first | decide | omega) (by decide) rfl rfl rfl (by decide) (Nat.le_of_ble_eq_true rfl) (fun r_z M' hc_z => ?_)
        obtain ⟨rfl, hg2, hh2⟩ := hc_z
        refine Zgo hX 1 rfl (by (first | exact True.intro | assumption | (dsimp only [ZallP]; and_intros <;> (first | assumption | decide | omega | ((try simp (disch := omega) only [pk_mul, nI_add, Zcl_n]); exact Zin_n (by omega) (by decide)))))) ?_
        refine Zs_ret hX hE rfl (by rw [Fsheet, if_pos hall, if_neg c1_z, if_neg c2, show (nI 2).toNatClampNeg = 2 from Zcl_n (by decide), if_pos h3_z, h3_z]; exact ⟨rfl, hg2, hh2⟩)
      · skip
        refine Zs_aald hX (List.cons_ne_nil _ _) (by decide) rfl (by decide) (j := _) rfl (by decide) (by decide) rfl ?_
        refine Zgo hX 2 rfl (by (first | exact True.intro | assumption | (dsimp only [ZallP]; and_intros <;> (first | assumption | decide | omega | ((try simp (disch := omega) only [pk_mul, nI_add, Zcl_n]); exact Zin_n (by omega) (by decide)))))) ?_
        refine Zs_callv hX (List.cons_ne_nil _ _) (k_make3 g_z (nI 0) 0 _ hg_z (by decide)) (by first | decide | omega) (by decide) rfl rfl rfl (by decide) (Nat.le_of_ble_eq_true rfl) (fun r_z M' hc_z => ?_)
        obtain ⟨rfl, hg2, hh2⟩ := hc_z
        refine Zgo hX 1 rfl (by (first | exact True.intro | assumption | (dsimp only [ZallP]; and_intros <;> (first | assumption | decide | omega | ((try simp (disch := omega) only [pk_mul, nI_add, Zcl_n]); exact Zin_n (by omega) (by decide)))))) ?_
        refine Zs_ret hX hE rfl (by rw [Fsheet, if_pos hall, if_neg c1_z, if_neg c2, show (nI 3).toNatClampNeg = 3 from Zcl_n (by decide), if_pos h3_z, h3_z]; exact ⟨rfl, hg2, hh2⟩)
  refine Zgo hX 1 rfl (by (first | exact True.intro | assumption | (dsimp only [ZallP]; and_intros <;> (first | assumption | decide | omega | ((try simp (disch := omega) only [pk_mul, nI_add, Zcl_n]); exact Zin_n (by omega) (by decide)))))) ?_
  refine Zs_calls hX (List.cons_ne_nil _ _) (by decide) (k_isSheet _ _) (by first | decide | omega) rfl rfl (by decide) (Nat.le_of_ble_eq_true rfl) (fun r_z M' hc_z => ?_)
  rcases hc_z with ⟨⟨rfl, h1_z⟩ | ⟨rfl, h1_z⟩, rfl⟩
  · refine Zs_eq hX (List.cons_ne_nil _ _) (fun q_z => False.elim (by revert q_z; decide)) (fun _ => ?_)
    refine Zgo hX 1 rfl (by (first | exact True.intro | assumption | (dsimp only [ZallP]; and_intros <;> (first | assumption | decide | omega | ((try simp (disch := omega) only [pk_mul, nI_add, Zcl_n]); exact Zin_n (by omega) (by decide)))))) ?_
    refine Zs_eq hX (List.cons_ne_nil _ _) (fun h2_z => ?_) (fun h2_z => ?_)
    · exact GOOD h1_z (Or.inl h2_z)
    · refine Zgo hX 2 rfl (by (first | exact True.intro | assumption | (dsimp only [ZallP]; and_intros <;> (first | assumption | decide | omega | ((try simp (disch := omega) only [pk_mul, nI_add, Zcl_n]); exact Zin_n (by omega) (by decide)))))) ?_
      refine Zs_ieq hX (List.cons_ne_nil _ _) (fun h3_z => ?_) (fun h3_z => ?_)
      · exact GOOD h1_z (Or.inr (Or.inl h3_z))
      · refine Zgo hX 2 rfl (by (first | exact True.intro | assumption | (dsimp only [ZallP]; and_intros <;> (first | assumption | decide | omega | ((try simp (disch := omega) only [pk_mul, nI_add, Zcl_n]); exact Zin_n (by omega) (by decide)))))) ?_
        refine Zs_ieq hX (List.cons_ne_nil _ _) (fun h4_z => ?_) (fun h4_z => ?_)
        · exact GOOD h1_z (Or.inr (Or.inr (Or.inl h4_z)))
        · refine Zgo hX 2 rfl (by (first | exact True.intro | assumption | (dsimp only [ZallP]; and_intros <;> (first | assumption | decide | omega | ((try simp (disch := omega) only [pk_mul, nI_add, Zcl_n]); exact Zin_n (by omega) (by decide)))))) ?_
          refine Zs_ieq hX (List.cons_ne_nil _ _) (fun h5_z => ?_) (fun h5_z => ?_)
          · exact GOOD h1_z (Or.inr (Or.inr (Or.inr h5_z)))
          · exact BAD (fun q_z => q_z.2.elim h2_z (fun q_z => q_z.elim h3_z (fun q_z => q_z.elim h4_z h5_z)))
  · refine Zs_eq hX (List.cons_ne_nil _ _) (fun _ => ?_) (fun q_z => False.elim (by revert q_z; decide))
    exact BAD (fun q_z => h1_z q_z.1)

set_option maxRecDepth 20000 in
set_option maxHeartbeats 1000000 in
theorem s_sheet (sh b_z n_z : Int32) (M : Zmem) (hi_z : Zsiv (Zgs M)) : ZC 124 4 [.ref 53, .int sh, .int b_z, .int n_z] M (Zsk_ (Fsheet (Zgs M) sh b_z n_z) M) := by
  refine ZC_of Zt124 Zk124 (Nat.le_of_ble_eq_true rfl) (by decide) rfl (fun X hX hE => ?_)
  have BAD : ¬ ((nI 0 ≤ sh ∧ sh ≤ nI 3) ∧ Zbt b_z) → ZP X Zt124 (Zsf Zt124 29) (lv_args 0 [.ref 53, .int sh, .int b_z, .int n_z]) [] M := by
    intro h_z
    refine Zgo hX 2 rfl (by (first | exact True.intro | assumption | (dsimp only [ZallP]; and_intros <;> (first | assumption | decide | omega | ((try simp (disch := omega) only [pk_mul, nI_add, Zcl_n]); exact Zin_n (by omega) (by decide)))))) ?_
    refine Zs_callv hX (List.cons_ne_nil _ _) (s_error 1 _ (by decide)) (by first | decide | omega) (by decide) rfl rfl rfl (by decide) (Nat.le_of_ble_eq_true rfl) (fun r_z M' hc_z => ?_)
    obtain ⟨rfl, hsc⟩ := hc_z
    refine Zs_ret hX hE rfl (by rw [Fsheet, if_neg h_z]; exact Zsk_e hsc)
  have L65 : (nI 0 ≤ sh ∧ sh ≤ nI 3) ∧ Zbt b_z → ¬ (¬ b_z = nI 0 ∧ n_z < nI 0) → ¬ (¬ b_z = nI 0 ∧ nI 24 < n_z) → ZP X Zt124 (Zsf Zt124 65) (lv_args 0 [.ref 53, .int sh, .int b_z, .int n_z]) [] M := by
    intro hall c1_z c2
    obtain ⟨t, ht_z, rfl⟩ := Zbt_ex (b_z := 3) (by decide) hall.1
    have et : (nI t).toNatClampNeg = t := Zcl_n (by omega)
    have L : ∀ (q_z k_z : Nat) (M1 : Zmem), 24 - k_z < q_z → k_z ≤ 24 → Zgs M1 = (upd (M 66) t b_z, upd (M 67) t (if b_z = nI 0 then nI 0 else n_z), Zz (M 68) t k_z) → Zhr M M1 → ZP X Zt124 (Zsf Zt124 90) [(0, .ref 53), (1, .int (nI t)), (2, .int b_z), (3, .int n_z), (4, .int (nI k_z))] [] M1 := by
      intro q_z
      induction q_z with
      | zero => intro k_z M1 hq_z; exact absurd hq_z (Nat.not_lt_zero _)
      | succ q_z ih_z =>
        intro k_z M1 hq_z hk_z hg1 hh
        refine Zgo hX 2 rfl (by (first | exact True.intro | assumption | (dsimp only [ZallP]; and_intros <;> (first | assumption | decide | omega | ((try simp (disch := omega) only [pk_mul, nI_add, Zcl_n]); exact Zin_n (by omega) (by decide)))))) ?_
        refine Zs_ige hX (List.cons_ne_nil _ _) (fun h3_z => ?_) (fun h3_z => ?_)
        · obtain rfl : k_z = 24 := by have := (Zn_le (by omega) (by omega)).mp h3_z; omega
          refine Zgo hX 1 rfl (by (first | exact True.intro | assumption | (dsimp only [ZallP]; and_intros <;> (first | assumption | decide | omega | ((try simp (disch := omega) only [pk_mul, nI_add, Zcl_n]); exact Zin_n (by omega) (by decide)))))) ?_
          refine Zs_ret hX hE rfl (by rw [Fsheet, if_pos hall, if_neg c1_z, if_neg c2, et]; exact ⟨rfl, hg1, hh⟩)
        · have hlt : k_z < 24 := (Nat.lt_or_ge k_z 24).elim id (fun q_z => absurd ((Zn_le (by omega) (by omega)).mpr q_z) h3_z)
          refine Zgo hX 11 rfl (by rw [pk_mul, nI_add]; exact Zin_n (by omega) (by decide)) ?_
          simp (disch := omega) only [Zcl_n, pk_mul, nI_add, Zu_s, Zu_o]
          refine Zs_sub (l' := [(0, .ref 53), (1, .int (nI t)), (2, .int b_z), (3, .int n_z), (4, .int (nI (k_z + 1)))]) rfl ?_
          refine ih_z (k_z + 1) _ (by omega) hlt ?_ (hh.u 68 (by decide) _ _)
          have e1_z := congrArg (fun z_z => z_z.1) hg1
          have e2_z := congrArg (fun z_z => z_z.2.1) hg1
          have e3_z := congrArg (fun z_z => z_z.2.2) hg1
          refine Prod.ext e1_z (Prod.ext e2_z ?_)
          show (Zu M1 68 (24 * t + k_z) (nI 0)) 68 = _
          rw [Zu_at, show M1 68 = Zz (M 68) t k_z from e3_z]
          rfl
    have tail : ∀ v_z, v_z = (if b_z = nI 0 then nI 0 else n_z) → ZP X Zt124 (Zsf Zt124 87) [(0, .ref 53), (1, .int (nI t)), (2, .int b_z), (3, .int n_z)] [] (Zu (Zu M 66 t b_z) 67 t v_z) := by
      rintro v_z rfl
      refine Zgo hX 2 rfl (by (first | exact True.intro | assumption | (dsimp only [ZallP]; and_intros <;> (first | assumption | decide | omega | ((try simp (disch := omega) only [pk_mul, nI_add, Zcl_n]); exact Zin_n (by omega) (by decide)))))) ?_
      refine Zs_sub (l' := [(0, .ref 53), (1, .int (nI t)), (2, .int b_z), (3, .int n_z), (4, .int (nI 0))]) rfl ?_
      exact L 25 0 _ (by decide) (by decide) rfl (((Zhr.rf M).u 66 (by decide) _ _).u 67 (by decide) _ _)
    refine Zgo hX 9 rfl (Zin_n (by omega) (by decide)) ?_
    rw [et]
    refine Zs_ne hX (List.cons_ne_nil _ _) (fun h3_z => ?_) (fun h3_z => ?_)
    · refine Zgo hX 2 rfl (Zin_n (by omega) (by decide)) ?_
      rw [et]
      exact tail _ (if_neg h3_z).symm
    · refine Zgo hX 3 rfl (Zin_n (by omega) (by decide)) ?_
      rw [et]
      exact tail _ (if_pos h3_z).symm
  have GOOD : (nI 0 ≤ sh ∧ sh ≤ nI 3) → Zbt b_z → ZP X Zt124 (Zsf Zt124 35) (lv_args 0 [.ref 53, .int sh, .int b_z, .int n_z]) [] M := by
    intro h1_z h2_z
    have hall := And.intro h1_z h2_z
    have L49 : ¬ (¬ b_z = nI 0 ∧ n_z < nI 0) → ZP X Zt124 (Zsf Zt124 49) (lv_args 0 [.ref 53, .int sh, .int b_z, .int n_z]) [] M := by
      intro c1_z
      refine Zgo hX 1 rfl (by (first | exact True.intro | assumption | (dsimp only [ZallP]; and_intros <;> (first | assumption | decide | omega | ((try simp (disch := omega) only [pk_mul, nI_add, Zcl_n]); exact Zin_n (by omega) (by decide)))))) ?_
      refine Zs_eq hX (List.cons_ne_nil _ _) (fun h3_z => ?_) (fun h3_z => ?_)
      · exact L65 hall c1_z (fun q_z => q_z.1 h3_z)
      · refine Zgo hX 2 rfl (by (first | exact True.intro | assumption | (dsimp only [ZallP]; and_intros <;> (first | assumption | decide | omega | ((try simp (disch := omega) only [pk_mul, nI_add, Zcl_n]); exact Zin_n (by omega) (by decide)))))) ?_
        refine Zs_ile hX (List.cons_ne_nil _ _) (fun h4_z => ?_) (fun h4_z => ?_)
        · exact L65 hall c1_z (fun q_z => absurd q_z.2 (Int32.not_lt.mpr h4_z))
        · have c2 : ¬ b_z = nI 0 ∧ nI 24 < n_z := ⟨h3_z, Int32.not_le.mp h4_z⟩
          refine Zgo hX 2 rfl (by (first | exact True.intro | assumption | (dsimp only [ZallP]; and_intros <;> (first | assumption | decide | omega | ((try simp (disch := omega) only [pk_mul, nI_add, Zcl_n]); exact Zin_n (by omega) (by decide)))))) ?_
          refine Zs_callv hX (List.cons_ne_nil _ _) (s_error 1 _ (by decide)) (by first | decide | omega) (by decide) rfl rfl rfl (by decide) (Nat.le_of_ble_eq_true rfl) (fun r_z M' hc_z => ?_)
          obtain ⟨rfl, hsc⟩ := hc_z
          refine Zs_ret hX hE rfl (by rw [Fsheet, if_pos hall, if_neg c1_z, if_pos c2]; exact Zsk_e hsc)
    refine Zgo hX 1 rfl (by (first | exact True.intro | assumption | (dsimp only [ZallP]; and_intros <;> (first | assumption | decide | omega | ((try simp (disch := omega) only [pk_mul, nI_add, Zcl_n]); exact Zin_n (by omega) (by decide)))))) ?_
    refine Zs_eq hX (List.cons_ne_nil _ _) (fun h3_z => ?_) (fun h3_z => ?_)
    · exact L49 (fun q_z => q_z.1 h3_z)
    · refine Zgo hX 1 rfl (by (first | exact True.intro | assumption | (dsimp only [ZallP]; and_intros <;> (first | assumption | decide | omega | ((try simp (disch := omega) only [pk_mul, nI_add, Zcl_n]); exact Zin_n (by omega) (by decide)))))) ?_
      refine Zs_ge hX (List.cons_ne_nil _ _) (fun h4_z => ?_) (fun h4_z => ?_)
      · exact L49 (fun q_z => absurd q_z.2 (Int32.not_lt.mpr h4_z))
      · have c1_z : ¬ b_z = nI 0 ∧ n_z < nI 0 := ⟨h3_z, Int32.not_le.mp h4_z⟩
        refine Zgo hX 2 rfl (by (first | exact True.intro | assumption | (dsimp only [ZallP]; and_intros <;> (first | assumption | decide | omega | ((try simp (disch := omega) only [pk_mul, nI_add, Zcl_n]); exact Zin_n (by omega) (by decide)))))) ?_
        refine Zs_callv hX (List.cons_ne_nil _ _) (s_error 3 _ (by decide)) (by first | decide | omega) (by decide) rfl rfl rfl (by decide) (Nat.le_of_ble_eq_true rfl) (fun r_z M' hc_z => ?_)
        obtain ⟨rfl, hsc⟩ := hc_z
        refine Zs_ret hX hE rfl (by rw [Fsheet, if_pos hall, if_pos c1_z]; exact Zsk_e hsc)
  refine Zgo hX 1 rfl (by (first | exact True.intro | assumption | (dsimp only [ZallP]; and_intros <;> (first | assumption | decide | omega | ((try simp (disch := omega) only [pk_mul, nI_add, Zcl_n]); exact Zin_n (by omega) (by decide)))))) ?_
  refine Zs_calls hX (List.cons_ne_nil _ _) (by decide) (s_isSheet _ _) (by first | decide | omega) rfl rfl (by decide) (Nat.le_of_ble_eq_true rfl) (fun r_z M' hc_z => ?_)
  rcases hc_z with ⟨⟨rfl, h1_z⟩ | ⟨rfl, h1_z⟩, rfl⟩
  · refine Zs_eq hX (List.cons_ne_nil _ _) (fun q_z => False.elim (by revert q_z; decide)) (fun _ => ?_)
    refine Zgo hX 1 rfl (by (first | exact True.intro | assumption | (dsimp only [ZallP]; and_intros <;> (first | assumption | decide | omega | ((try simp (disch := omega) only [pk_mul, nI_add, Zcl_n]); exact Zin_n (by omega) (by decide)))))) ?_
    refine Zs_eq hX (List.cons_ne_nil _ _) (fun h2_z => ?_) (fun h2_z => ?_)
    · exact GOOD h1_z (Or.inl h2_z)
    · refine Zgo hX 2 rfl (by (first | exact True.intro | assumption | (dsimp only [ZallP]; and_intros <;> (first | assumption | decide | omega | ((try simp (disch := omega) only [pk_mul, nI_add, Zcl_n]); exact Zin_n (by omega) (by decide)))))) ?_
      refine Zs_ieq hX (List.cons_ne_nil _ _) (fun h3_z => ?_) (fun h3_z => ?_)
      · exact GOOD h1_z (Or.inr (Or.inl h3_z))
      · refine Zgo hX 2 rfl (by (first | exact True.intro | assumption | (dsimp only [ZallP]; and_intros <;> (first | assumption | decide | omega | ((try simp (disch := omega) only [pk_mul, nI_add, Zcl_n]); exact Zin_n (by omega) (by decide)))))) ?_
        refine Zs_ieq hX (List.cons_ne_nil _ _) (fun h4_z => ?_) (fun h4_z => ?_)
        · exact GOOD h1_z (Or.inr (Or.inr (Or.inl h4_z)))
        · refine Zgo hX 2 rfl (by (first | exact True.intro | assumption | (dsimp only [ZallP]; and_intros <;> (first | assumption | decide | omega | ((try simp (disch := omega) only [pk_mul, nI_add, Zcl_n]); exact Zin_n (by omega) (by decide)))))) ?_
          refine Zs_ieq hX (List.cons_ne_nil _ _) (fun h5_z => ?_) (fun h5_z => ?_)
          · exact GOOD h1_z (Or.inr (Or.inr (Or.inr h5_z)))
          · exact BAD (fun q_z => q_z.2.elim h2_z (fun q_z => q_z.elim h3_z (fun q_z => q_z.elim h4_z h5_z)))
  · refine Zs_eq hX (List.cons_ne_nil _ _) (fun _ => ?_) (fun q_z => False.elim (by revert q_z; decide))
    exact BAD (fun q_z => h1_z q_z.1)

set_option maxRecDepth 20000 in
set_option maxHeartbeats 1000000 in
theorem k_why (g_z : Zsn) (sh : Int32) (M : Zmem) (hg_z : Zks g_z M) : ZC 44 2 [.ref 0, .int sh] M (fun r_z M' => r_z = some (.int (nI (Fwhy g_z sh))) ∧ M = M') := by
  refine ZC_of Zt44 Zk44 (Nat.le_of_ble_eq_true rfl) (by decide) rfl (fun X hX hE => ?_)
  refine Zgo hX 1 rfl (by (first | exact True.intro | assumption | (dsimp only [ZallP]; and_intros <;> (first | assumption | decide | omega | ((try simp (disch := omega) only [pk_mul, nI_add, Zcl_n]); exact Zin_n (by omega) (by decide)))))) ?_
  refine Zs_calls hX (List.cons_ne_nil _ _) (by decide) (k_isSheet _ _) (by first | decide | omega) rfl rfl (by decide) (Nat.le_of_ble_eq_true rfl) (fun r_z M' hc_z => ?_)
  rcases hc_z with ⟨⟨rfl, h1_z⟩ | ⟨rfl, h1_z⟩, rfl⟩
  · refine Zs_ne hX (List.cons_ne_nil _ _) (fun _ => ?_) (fun q_z => False.elim (by revert q_z; decide))
    obtain ⟨t, ht_z, rfl⟩ := Zbt_ex (b_z := 3) (by decide) h1_z
    have key : ∀ t, t < 4 → (nI t).toNatClampNeg = t := fun t h_z => Zcl_n (by omega)
    have fin0 : ∀ t, (nI 0 ≤ nI t ∧ nI t ≤ nI 3) → t < 4 → g_z.1 t = nI 0 → Fwhy g_z (nI t) = 2 := fun t h1_z h_z h2_z => by rw [Fwhy, if_pos h1_z, key t h_z, if_pos h2_z]
    have fin1 : ∀ t, (nI 0 ≤ nI t ∧ nI t ≤ nI 3) → t < 4 → ¬ g_z.1 t = nI 0 → Fwhy g_z (nI t) = 0 := fun t h1_z h_z h2_z => by rw [Fwhy, if_pos h1_z, key t h_z, if_neg h2_z]
    refine Zgo hX 3 rfl (by (first | exact True.intro | assumption | (dsimp only [ZallP]; and_intros <;> (first | assumption | decide | omega | ((try simp (disch := omega) only [pk_mul, nI_add, Zcl_n]); exact Zin_n (by omega) (by decide)))))) ?_
    rcases (show t = 0 ∨ t = 1 ∨ t = 2 ∨ t = 3 by omega) with rfl | rfl | rfl | rfl
    · skip
      refine Zs_aald hX (List.cons_ne_nil _ _) (by decide) rfl (by decide) (j := _) rfl (by decide) (by decide) rfl ?_
      refine Zgo hX 1 rfl (by (first | exact True.intro | assumption | (dsimp only [ZallP]; and_intros <;> (first | assumption | decide | omega | ((try simp (disch := omega) only [pk_mul, nI_add, Zcl_n]); exact Zin_n (by omega) (by decide)))))) ?_
      rw [show M 45 1 = g_z.1 0 from (hg_z 0 (by decide)).1]
      refine Zs_ne hX (List.cons_ne_nil _ _) (fun h2_z => ?_) (fun h2_z => ?_)
      · refine Zgo hX 1 rfl (by (first | exact True.intro | assumption | (dsimp only [ZallP]; and_intros <;> (first | assumption | decide | omega | ((try simp (disch := omega) only [pk_mul, nI_add, Zcl_n]); exact Zin_n (by omega) (by decide)))))) ?_
        refine Zs_ret hX hE rfl ⟨by rw [fin1 0 h1_z (by decide) h2_z], rfl⟩
      · refine Zgo hX 2 rfl (by (first | exact True.intro | assumption | (dsimp only [ZallP]; and_intros <;> (first | assumption | decide | omega | ((try simp (disch := omega) only [pk_mul, nI_add, Zcl_n]); exact Zin_n (by omega) (by decide)))))) ?_
        refine Zs_ret hX hE rfl ⟨by rw [fin0 0 h1_z (by decide) h2_z], rfl⟩
    · skip
      refine Zs_aald hX (List.cons_ne_nil _ _) (by decide) rfl (by decide) (j := _) rfl (by decide) (by decide) rfl ?_
      refine Zgo hX 1 rfl (by (first | exact True.intro | assumption | (dsimp only [ZallP]; and_intros <;> (first | assumption | decide | omega | ((try simp (disch := omega) only [pk_mul, nI_add, Zcl_n]); exact Zin_n (by omega) (by decide)))))) ?_
      rw [show M 47 1 = g_z.1 1 from (hg_z 1 (by decide)).1]
      refine Zs_ne hX (List.cons_ne_nil _ _) (fun h2_z => ?_) (fun h2_z => ?_)
      · refine Zgo hX 1 rfl (by (first | exact True.intro | assumption | (dsimp only [ZallP]; and_intros <;> (first | assumption | decide | omega | ((try simp (disch := omega) only [pk_mul, nI_add, Zcl_n]); exact Zin_n (by omega) (by decide)))))) ?_
        refine Zs_ret hX hE rfl ⟨by rw [fin1 1 h1_z (by decide) h2_z], rfl⟩
      · refine Zgo hX 2 rfl (by (first | exact True.intro | assumption | (dsimp only [ZallP]; and_intros <;> (first | assumption | decide | omega | ((try simp (disch := omega) only [pk_mul, nI_add, Zcl_n]); exact Zin_n (by omega) (by decide)))))) ?_
        refine Zs_ret hX hE rfl ⟨by rw [fin0 1 h1_z (by decide) h2_z], rfl⟩
    · skip
      refine Zs_aald hX (List.cons_ne_nil _ _) (by decide) rfl (by decide) (j := _) rfl (by decide) (by decide) rfl ?_
      refine Zgo hX 1 rfl (by (first | exact True.intro | assumption | (dsimp only [ZallP]; and_intros <;> (first | assumption | decide | omega | ((try simp (disch := omega) only [pk_mul, nI_add, Zcl_n]); exact Zin_n (by omega) (by decide)))))) ?_
      rw [show M 49 1 = g_z.1 2 from (hg_z 2 (by decide)).1]
      refine Zs_ne hX (List.cons_ne_nil _ _) (fun h2_z => ?_) (fun h2_z => ?_)
      · refine Zgo hX 1 rfl (by (first | exact True.intro | assumption | (dsimp only [ZallP]; and_intros <;> (first | assumption | decide | omega | ((try simp (disch := omega) only [pk_mul, nI_add, Zcl_n]); exact Zin_n (by omega) (by decide)))))) ?_
        refine Zs_ret hX hE rfl ⟨by rw [fin1 2 h1_z (by decide) h2_z], rfl⟩
      · refine Zgo hX 2 rfl (by (first | exact True.intro | assumption | (dsimp only [ZallP]; and_intros <;> (first | assumption | decide | omega | ((try simp (disch := omega) only [pk_mul, nI_add, Zcl_n]); exact Zin_n (by omega) (by decide)))))) ?_
        refine Zs_ret hX hE rfl ⟨by rw [fin0 2 h1_z (by decide) h2_z], rfl⟩
    · skip
      refine Zs_aald hX (List.cons_ne_nil _ _) (by decide) rfl (by decide) (j := _) rfl (by decide) (by decide) rfl ?_
      refine Zgo hX 1 rfl (by (first | exact True.intro | assumption | (dsimp only [ZallP]; and_intros <;> (first | assumption | decide | omega | ((try simp (disch := omega) only [pk_mul, nI_add, Zcl_n]); exact Zin_n (by omega) (by decide)))))) ?_
      rw [show M 51 1 = g_z.1 3 from (hg_z 3 (by decide)).1]
      refine Zs_ne hX (List.cons_ne_nil _ _) (fun h2_z => ?_) (fun h2_z => ?_)
      · refine Zgo hX 1 rfl (by (first | exact True.intro | assumption | (dsimp only [ZallP]; and_intros <;> (first | assumption | decide | omega | ((try simp (disch := omega) only [pk_mul, nI_add, Zcl_n]); exact Zin_n (by omega) (by decide)))))) ?_
        refine Zs_ret hX hE rfl ⟨by rw [fin1 3 h1_z (by decide) h2_z], rfl⟩
      · refine Zgo hX 2 rfl (by (first | exact True.intro | assumption | (dsimp only [ZallP]; and_intros <;> (first | assumption | decide | omega | ((try simp (disch := omega) only [pk_mul, nI_add, Zcl_n]); exact Zin_n (by omega) (by decide)))))) ?_
        refine Zs_ret hX hE rfl ⟨by rw [fin0 3 h1_z (by decide) h2_z], rfl⟩
  · refine Zs_ne hX (List.cons_ne_nil _ _) (fun q_z => False.elim (by revert q_z; decide)) (fun _ => ?_)
    refine Zgo hX 1 rfl (by (first | exact True.intro | assumption | (dsimp only [ZallP]; and_intros <;> (first | assumption | decide | omega | ((try simp (disch := omega) only [pk_mul, nI_add, Zcl_n]); exact Zin_n (by omega) (by decide)))))) ?_
    refine Zs_ret hX hE rfl ⟨by rw [Fwhy, if_neg h1_z], rfl⟩

set_option maxRecDepth 20000 in
set_option maxHeartbeats 1000000 in
theorem s_why (sh : Int32) (M : Zmem) : ZC 127 2 [.ref 53, .int sh] M (fun r_z M' => r_z = some (.int (nI (Fwhy (Zgs M) sh))) ∧ M = M') := by
  refine ZC_of Zt127 Zk127 (Nat.le_of_ble_eq_true rfl) (by decide) rfl (fun X hX hE => ?_)
  refine Zgo hX 1 rfl (by (first | exact True.intro | assumption | (dsimp only [ZallP]; and_intros <;> (first | assumption | decide | omega | ((try simp (disch := omega) only [pk_mul, nI_add, Zcl_n]); exact Zin_n (by omega) (by decide)))))) ?_
  refine Zs_calls hX (List.cons_ne_nil _ _) (by decide) (s_isSheet _ _) (by first | decide | omega) rfl rfl (by decide) (Nat.le_of_ble_eq_true rfl) (fun r_z M' hc_z => ?_)
  rcases hc_z with ⟨⟨rfl, h1_z⟩ | ⟨rfl, h1_z⟩, rfl⟩
  · refine Zs_ne hX (List.cons_ne_nil _ _) (fun _ => ?_) (fun q_z => False.elim (by revert q_z; decide))
    obtain ⟨t, ht_z, rfl⟩ := Zbt_ex (b_z := 3) (by decide) h1_z
    have et : (nI t).toNatClampNeg = t := Zcl_n (by omega)
    refine Zgo hX 4 rfl (Zin_n (by omega) (by decide)) ?_
    rw [et]
    refine Zs_ne hX (List.cons_ne_nil _ _) (fun h2_z => ?_) (fun h2_z => ?_)
    · refine Zgo hX 1 rfl (by (first | exact True.intro | assumption | (dsimp only [ZallP]; and_intros <;> (first | assumption | decide | omega | ((try simp (disch := omega) only [pk_mul, nI_add, Zcl_n]); exact Zin_n (by omega) (by decide)))))) ?_
      refine Zs_ret hX hE rfl ⟨by rw [Fwhy, if_pos h1_z, et, if_neg (show ¬ (Zgs M).1 t = nI 0 from h2_z)], rfl⟩
    · refine Zgo hX 2 rfl (by (first | exact True.intro | assumption | (dsimp only [ZallP]; and_intros <;> (first | assumption | decide | omega | ((try simp (disch := omega) only [pk_mul, nI_add, Zcl_n]); exact Zin_n (by omega) (by decide)))))) ?_
      refine Zs_ret hX hE rfl ⟨by rw [Fwhy, if_pos h1_z, et, if_pos (show (Zgs M).1 t = nI 0 from h2_z)], rfl⟩
  · refine Zs_ne hX (List.cons_ne_nil _ _) (fun q_z => False.elim (by revert q_z; decide)) (fun _ => ?_)
    refine Zgo hX 2 rfl (by (first | exact True.intro | assumption | (dsimp only [ZallP]; and_intros <;> (first | assumption | decide | omega | ((try simp (disch := omega) only [pk_mul, nI_add, Zcl_n]); exact Zin_n (by omega) (by decide)))))) ?_
    refine Zs_ret hX hE rfl ⟨by rw [Fwhy, if_neg h1_z], rfl⟩

set_option maxRecDepth 20000 in
set_option maxHeartbeats 1000000 in
theorem k_write0 (g_z : Zsn) (i_z s_z : Nat) (v_z : Int32) (M : Zmem) (hg_z : Zks g_z M) (hb_z : Zbt (g_z.1 0)) (hs_z : g_z.2.1 0 = nI s_z) (hi_z : i_z < s_z) (hs24 : s_z ≤ 24) : ZC 181 1 [.ref 45, .int (nI i_z), .int v_z] M (fun r_z M' => r_z = none ∧ Zks (g_z.1, g_z.2.1, upd g_z.2.2 (24 * 0 + i_z) (Znw (g_z.1 0) v_z)) M' ∧ Zhg M M') := by
  refine ZC_of Zt181 Zk181 (Nat.le_of_ble_eq_true rfl) (by decide) rfl (fun X hX hE => ?_)
  have e1_z : M 45 1 = g_z.1 0 := (hg_z 0 (by decide)).1
  have e2_z : M 45 2 = nI s_z := (hg_z 0 (by decide)).2.1.trans hs_z
  have hn_z := hg_z.n (t := 0) (by decide) (show i_z < 24 by omega) (Znw (g_z.1 0) v_z)
  have hh : Zhg M (Zu M 46 i_z (Znw (g_z.1 0) v_z)) := (Zhg.rf M).u 46 (by decide) _ _
  refine Zgo hX 1 rfl (by (first | exact True.intro | assumption | (dsimp only [ZallP]; and_intros <;> (first | assumption | decide | omega | ((try simp (disch := omega) only [pk_mul, nI_add, Zcl_n]); exact Zin_n (by omega) (by decide)))))) ?_
  refine Zs_lt hX (List.cons_ne_nil _ _) (fun h1_z => ?_) (fun h1_z => ?_)
  · exact absurd h1_z (Zn_nlt0 (by omega))
  · refine Zgo hX 3 rfl (by (first | exact True.intro | assumption | (dsimp only [ZallP]; and_intros <;> (first | assumption | decide | omega | ((try simp (disch := omega) only [pk_mul, nI_add, Zcl_n]); exact Zin_n (by omega) (by decide)))))) ?_
    rw [e2_z]
    refine Zs_ige hX (List.cons_ne_nil _ _) (fun h2_z => ?_) (fun h2_z => ?_)
    · exact absurd ((Zn_le (by omega) (by omega)).mp h2_z) (by omega)
    · refine Zgo hX 6 rfl (by (first | exact True.intro | assumption | (dsimp only [ZallP]; and_intros <;> (first | assumption | decide | omega | ((try simp (disch := omega) only [pk_mul, nI_add, Zcl_n]); exact Zin_n (by omega) (by decide)))))) ?_
      rw [e1_z]
      refine Zs_ine hX (List.cons_ne_nil _ _) (fun h3_z => ?_) (fun h3_z => ?_)
      · refine Zgo hX 3 rfl (by (first | exact True.intro | assumption | (dsimp only [ZallP]; and_intros <;> (first | assumption | decide | omega | ((try simp (disch := omega) only [pk_mul, nI_add, Zcl_n]); exact Zin_n (by omega) (by decide)))))) ?_
        rw [e1_z]
        refine Zs_ine hX (List.cons_ne_nil _ _) (fun h4_z => ?_) (fun h4_z => ?_)
        · refine Zgo hX 2 rfl (Zin_n (by omega) (by decide)) ?_
          rw [Zcl_n (show i_z < 2 ^ 31 by omega)]
          have e_z : Znw (g_z.1 0) v_z = v_z := by rw [Znw, if_neg h3_z, if_neg h4_z]
          rw [e_z] at hn_z hh
          refine Zs_retv hX hE rfl ⟨rfl, by rw [e_z]; exact hn_z, hh⟩
        · refine Zgo hX 4 rfl (Zin_n (by omega) (by decide)) ?_
          rw [Zcl_n (show i_z < 2 ^ 31 by omega)]
          have e_z : Znw (g_z.1 0) v_z = v_z.toInt16.toInt32 := by rw [Znw, if_neg h3_z, if_pos h4_z]
          rw [e_z] at hn_z hh
          refine Zs_retv hX hE rfl ⟨rfl, by rw [e_z]; exact hn_z, hh⟩
      · refine Zgo hX 4 rfl (Zin_n (by omega) (by decide)) ?_
        rw [Zcl_n (show i_z < 2 ^ 31 by omega)]
        have e_z : Znw (g_z.1 0) v_z = v_z.toInt8.toInt32 := by rw [Znw, if_pos h3_z]
        rw [e_z] at hn_z hh
        refine Zs_retv hX hE rfl ⟨rfl, by rw [e_z]; exact hn_z, hh⟩

set_option maxRecDepth 20000 in
set_option maxHeartbeats 1000000 in
theorem k_write1 (g_z : Zsn) (i_z s_z : Nat) (v_z : Int32) (M : Zmem) (hg_z : Zks g_z M) (hb_z : Zbt (g_z.1 1)) (hs_z : g_z.2.1 1 = nI s_z) (hi_z : i_z < s_z) (hs24 : s_z ≤ 24) : ZC 181 1 [.ref 47, .int (nI i_z), .int v_z] M (fun r_z M' => r_z = none ∧ Zks (g_z.1, g_z.2.1, upd g_z.2.2 (24 * 1 + i_z) (Znw (g_z.1 1) v_z)) M' ∧ Zhg M M') := by
  refine ZC_of Zt181 Zk181 (Nat.le_of_ble_eq_true rfl) (by decide) rfl (fun X hX hE => ?_)
  have e1_z : M 47 1 = g_z.1 1 := (hg_z 1 (by decide)).1
  have e2_z : M 47 2 = nI s_z := (hg_z 1 (by decide)).2.1.trans hs_z
  have hn_z := hg_z.n (t := 1) (by decide) (show i_z < 24 by omega) (Znw (g_z.1 1) v_z)
  have hh : Zhg M (Zu M 48 i_z (Znw (g_z.1 1) v_z)) := (Zhg.rf M).u 48 (by decide) _ _
  refine Zgo hX 1 rfl (by (first | exact True.intro | assumption | (dsimp only [ZallP]; and_intros <;> (first | assumption | decide | omega | ((try simp (disch := omega) only [pk_mul, nI_add, Zcl_n]); exact Zin_n (by omega) (by decide)))))) ?_
  refine Zs_lt hX (List.cons_ne_nil _ _) (fun h1_z => ?_) (fun h1_z => ?_)
  · exact absurd h1_z (Zn_nlt0 (by omega))
  · refine Zgo hX 3 rfl (by (first | exact True.intro | assumption | (dsimp only [ZallP]; and_intros <;> (first | assumption | decide | omega | ((try simp (disch := omega) only [pk_mul, nI_add, Zcl_n]); exact Zin_n (by omega) (by decide)))))) ?_
    rw [e2_z]
    refine Zs_ige hX (List.cons_ne_nil _ _) (fun h2_z => ?_) (fun h2_z => ?_)
    · exact absurd ((Zn_le (by omega) (by omega)).mp h2_z) (by omega)
    · refine Zgo hX 6 rfl (by (first | exact True.intro | assumption | (dsimp only [ZallP]; and_intros <;> (first | assumption | decide | omega | ((try simp (disch := omega) only [pk_mul, nI_add, Zcl_n]); exact Zin_n (by omega) (by decide)))))) ?_
      rw [e1_z]
      refine Zs_ine hX (List.cons_ne_nil _ _) (fun h3_z => ?_) (fun h3_z => ?_)
      · refine Zgo hX 3 rfl (by (first | exact True.intro | assumption | (dsimp only [ZallP]; and_intros <;> (first | assumption | decide | omega | ((try simp (disch := omega) only [pk_mul, nI_add, Zcl_n]); exact Zin_n (by omega) (by decide)))))) ?_
        rw [e1_z]
        refine Zs_ine hX (List.cons_ne_nil _ _) (fun h4_z => ?_) (fun h4_z => ?_)
        · refine Zgo hX 2 rfl (Zin_n (by omega) (by decide)) ?_
          rw [Zcl_n (show i_z < 2 ^ 31 by omega)]
          have e_z : Znw (g_z.1 1) v_z = v_z := by rw [Znw, if_neg h3_z, if_neg h4_z]
          rw [e_z] at hn_z hh
          refine Zs_retv hX hE rfl ⟨rfl, by rw [e_z]; exact hn_z, hh⟩
        · refine Zgo hX 4 rfl (Zin_n (by omega) (by decide)) ?_
          rw [Zcl_n (show i_z < 2 ^ 31 by omega)]
          have e_z : Znw (g_z.1 1) v_z = v_z.toInt16.toInt32 := by rw [Znw, if_neg h3_z, if_pos h4_z]
          rw [e_z] at hn_z hh
          refine Zs_retv hX hE rfl ⟨rfl, by rw [e_z]; exact hn_z, hh⟩
      · refine Zgo hX 4 rfl (Zin_n (by omega) (by decide)) ?_
        rw [Zcl_n (show i_z < 2 ^ 31 by omega)]
        have e_z : Znw (g_z.1 1) v_z = v_z.toInt8.toInt32 := by rw [Znw, if_pos h3_z]
        rw [e_z] at hn_z hh
        refine Zs_retv hX hE rfl ⟨rfl, by rw [e_z]; exact hn_z, hh⟩

set_option maxRecDepth 20000 in
set_option maxHeartbeats 1000000 in
theorem k_write2 (g_z : Zsn) (i_z s_z : Nat) (v_z : Int32) (M : Zmem) (hg_z : Zks g_z M) (hb_z : Zbt (g_z.1 2)) (hs_z : g_z.2.1 2 = nI s_z) (hi_z : i_z < s_z) (hs24 : s_z ≤ 24) : ZC 181 1 [.ref 49, .int (nI i_z), .int v_z] M (fun r_z M' => r_z = none ∧ Zks (g_z.1, g_z.2.1, upd g_z.2.2 (24 * 2 + i_z) (Znw (g_z.1 2) v_z)) M' ∧ Zhg M M') := by
  refine ZC_of Zt181 Zk181 (Nat.le_of_ble_eq_true rfl) (by decide) rfl (fun X hX hE => ?_)
  have e1_z : M 49 1 = g_z.1 2 := (hg_z 2 (by decide)).1
  have e2_z : M 49 2 = nI s_z := (hg_z 2 (by decide)).2.1.trans hs_z
  have hn_z := hg_z.n (t := 2) (by decide) (show i_z < 24 by omega) (Znw (g_z.1 2) v_z)
  have hh : Zhg M (Zu M 50 i_z (Znw (g_z.1 2) v_z)) := (Zhg.rf M).u 50 (by decide) _ _
  refine Zgo hX 1 rfl (by (first | exact True.intro | assumption | (dsimp only [ZallP]; and_intros <;> (first | assumption | decide | omega | ((try simp (disch := omega) only [pk_mul, nI_add, Zcl_n]); exact Zin_n (by omega) (by decide)))))) ?_
  refine Zs_lt hX (List.cons_ne_nil _ _) (fun h1_z => ?_) (fun h1_z => ?_)
  · exact absurd h1_z (Zn_nlt0 (by omega))
  · refine Zgo hX 3 rfl (by (first | exact True.intro | assumption | (dsimp only [ZallP]; and_intros <;> (first | assumption | decide | omega | ((try simp (disch := omega) only [pk_mul, nI_add, Zcl_n]); exact Zin_n (by omega) (by decide)))))) ?_
    rw [e2_z]
    refine Zs_ige hX (List.cons_ne_nil _ _) (fun h2_z => ?_) (fun h2_z => ?_)
    · exact absurd ((Zn_le (by omega) (by omega)).mp h2_z) (by omega)
    · refine Zgo hX 6 rfl (by (first | exact True.intro | assumption | (dsimp only [ZallP]; and_intros <;> (first | assumption | decide | omega | ((try simp (disch := omega) only [pk_mul, nI_add, Zcl_n]); exact Zin_n (by omega) (by decide)))))) ?_
      rw [e1_z]
      refine Zs_ine hX (List.cons_ne_nil _ _) (fun h3_z => ?_) (fun h3_z => ?_)
      · refine Zgo hX 3 rfl (by (first | exact True.intro | assumption | (dsimp only [ZallP]; and_intros <;> (first | assumption | decide | omega | ((try simp (disch := omega) only [pk_mul, nI_add, Zcl_n]); exact Zin_n (by omega) (by decide)))))) ?_
        rw [e1_z]
        refine Zs_ine hX (List.cons_ne_nil _ _) (fun h4_z => ?_) (fun h4_z => ?_)
        · refine Zgo hX 2 rfl (Zin_n (by omega) (by decide)) ?_
          rw [Zcl_n (show i_z < 2 ^ 31 by omega)]
          have e_z : Znw (g_z.1 2) v_z = v_z := by rw [Znw, if_neg h3_z, if_neg h4_z]
          rw [e_z] at hn_z hh
          refine Zs_retv hX hE rfl ⟨rfl, by rw [e_z]; exact hn_z, hh⟩
        · refine Zgo hX 4 rfl (Zin_n (by omega) (by decide)) ?_
          rw [Zcl_n (show i_z < 2 ^ 31 by omega)]
          have e_z : Znw (g_z.1 2) v_z = v_z.toInt16.toInt32 := by rw [Znw, if_neg h3_z, if_pos h4_z]
          rw [e_z] at hn_z hh
          refine Zs_retv hX hE rfl ⟨rfl, by rw [e_z]; exact hn_z, hh⟩
      · refine Zgo hX 4 rfl (Zin_n (by omega) (by decide)) ?_
        rw [Zcl_n (show i_z < 2 ^ 31 by omega)]
        have e_z : Znw (g_z.1 2) v_z = v_z.toInt8.toInt32 := by rw [Znw, if_pos h3_z]
        rw [e_z] at hn_z hh
        refine Zs_retv hX hE rfl ⟨rfl, by rw [e_z]; exact hn_z, hh⟩

set_option maxRecDepth 20000 in
set_option maxHeartbeats 1000000 in
theorem k_write3 (g_z : Zsn) (i_z s_z : Nat) (v_z : Int32) (M : Zmem) (hg_z : Zks g_z M) (hb_z : Zbt (g_z.1 3)) (hs_z : g_z.2.1 3 = nI s_z) (hi_z : i_z < s_z) (hs24 : s_z ≤ 24) : ZC 181 1 [.ref 51, .int (nI i_z), .int v_z] M (fun r_z M' => r_z = none ∧ Zks (g_z.1, g_z.2.1, upd g_z.2.2 (24 * 3 + i_z) (Znw (g_z.1 3) v_z)) M' ∧ Zhg M M') := by
  refine ZC_of Zt181 Zk181 (Nat.le_of_ble_eq_true rfl) (by decide) rfl (fun X hX hE => ?_)
  have e1_z : M 51 1 = g_z.1 3 := (hg_z 3 (by decide)).1
  have e2_z : M 51 2 = nI s_z := (hg_z 3 (by decide)).2.1.trans hs_z
  have hn_z := hg_z.n (t := 3) (by decide) (show i_z < 24 by omega) (Znw (g_z.1 3) v_z)
  have hh : Zhg M (Zu M 52 i_z (Znw (g_z.1 3) v_z)) := (Zhg.rf M).u 52 (by decide) _ _
  refine Zgo hX 1 rfl (by (first | exact True.intro | assumption | (dsimp only [ZallP]; and_intros <;> (first | assumption | decide | omega | ((try simp (disch := omega) only [pk_mul, nI_add, Zcl_n]); exact Zin_n (by omega) (by decide)))))) ?_
  refine Zs_lt hX (List.cons_ne_nil _ _) (fun h1_z => ?_) (fun h1_z => ?_)
  · exact absurd h1_z (Zn_nlt0 (by omega))
  · refine Zgo hX 3 rfl (by (first | exact True.intro | assumption | (dsimp only [ZallP]; and_intros <;> (first | assumption | decide | omega | ((try simp (disch := omega) only [pk_mul, nI_add, Zcl_n]); exact Zin_n (by omega) (by decide)))))) ?_
    rw [e2_z]
    refine Zs_ige hX (List.cons_ne_nil _ _) (fun h2_z => ?_) (fun h2_z => ?_)
    · exact absurd ((Zn_le (by omega) (by omega)).mp h2_z) (by omega)
    · refine Zgo hX 6 rfl (by (first | exact True.intro | assumption | (dsimp only [ZallP]; and_intros <;> (first | assumption | decide | omega | ((try simp (disch := omega) only [pk_mul, nI_add, Zcl_n]); exact Zin_n (by omega) (by decide)))))) ?_
      rw [e1_z]
      refine Zs_ine hX (List.cons_ne_nil _ _) (fun h3_z => ?_) (fun h3_z => ?_)
      · refine Zgo hX 3 rfl (by (first | exact True.intro | assumption | (dsimp only [ZallP]; and_intros <;> (first | assumption | decide | omega | ((try simp (disch := omega) only [pk_mul, nI_add, Zcl_n]); exact Zin_n (by omega) (by decide)))))) ?_
        rw [e1_z]
        refine Zs_ine hX (List.cons_ne_nil _ _) (fun h4_z => ?_) (fun h4_z => ?_)
        · refine Zgo hX 2 rfl (Zin_n (by omega) (by decide)) ?_
          rw [Zcl_n (show i_z < 2 ^ 31 by omega)]
          have e_z : Znw (g_z.1 3) v_z = v_z := by rw [Znw, if_neg h3_z, if_neg h4_z]
          rw [e_z] at hn_z hh
          refine Zs_retv hX hE rfl ⟨rfl, by rw [e_z]; exact hn_z, hh⟩
        · refine Zgo hX 4 rfl (Zin_n (by omega) (by decide)) ?_
          rw [Zcl_n (show i_z < 2 ^ 31 by omega)]
          have e_z : Znw (g_z.1 3) v_z = v_z.toInt16.toInt32 := by rw [Znw, if_neg h3_z, if_pos h4_z]
          rw [e_z] at hn_z hh
          refine Zs_retv hX hE rfl ⟨rfl, by rw [e_z]; exact hn_z, hh⟩
      · refine Zgo hX 4 rfl (Zin_n (by omega) (by decide)) ?_
        rw [Zcl_n (show i_z < 2 ^ 31 by omega)]
        have e_z : Znw (g_z.1 3) v_z = v_z.toInt8.toInt32 := by rw [Znw, if_pos h3_z]
        rw [e_z] at hn_z hh
        refine Zs_retv hX hE rfl ⟨rfl, by rw [e_z]; exact hn_z, hh⟩


theorem Zbw {i_z : Int32} {s_z : Nat} (hs_z : s_z ≤ 1000) : (nI 0 ≤ i_z ∧ i_z ≤ nI s_z - nI 1) ↔ ∃ j_z, j_z < s_z ∧ i_z = nI j_z := by
  rw [Zrow_iff hs_z]
  constructor
  · intro h_z; exact Zin_ex h_z (by omega)
  · rintro ⟨j_z, h_z, rfl⟩; exact Zin_n h_z (by omega)
theorem Fput_1 {g_z : Zsn} {sh i_z v_z : Int32} (h_z : ¬ (nI 0 ≤ sh ∧ sh ≤ nI 3)) : Fput g_z sh i_z v_z = (Er 1, g_z) := by rw [Fput, if_neg h_z]

set_option maxRecDepth 20000 in
set_option maxHeartbeats 1000000 in
theorem k_put (g_z : Zsn) (sh i_z v_z : Int32) (M : Zmem) (hg_z : Zks g_z M) (hi_z : Zsiv g_z) : ZC 27 3 [.ref 0, .int sh, .int i_z, .int v_z] M (Zkk (Fput g_z sh i_z v_z) M) := by
  refine ZC_of Zt27 Zk27 (Nat.le_of_ble_eq_true rfl) (by decide) rfl (fun X hX hE => ?_)
  refine Zgo hX 2 rfl (by (first | exact True.intro | assumption | (dsimp only [ZallP]; and_intros <;> (first | assumption | decide | omega | ((try simp (disch := omega) only [pk_mul, nI_add, Zcl_n]); exact Zin_n (by omega) (by decide)))))) ?_
  refine Zs_callv hX (List.cons_ne_nil _ _) (k_why g_z sh M hg_z) (by first | decide | omega) (by decide) rfl rfl rfl (by decide) (Nat.le_of_ble_eq_true rfl) (fun r_z M' hc_z => ?_)
  obtain ⟨rfl, rfl⟩ := hc_z
  rcases Fwhy_lt g_z sh with hw_z | hw_z | hw_z
  · rw [hw_z]
    refine Zgo hX 2 rfl (by (first | exact True.intro | assumption | (dsimp only [ZallP]; and_intros <;> (first | assumption | decide | omega | ((try simp (disch := omega) only [pk_mul, nI_add, Zcl_n]); exact Zin_n (by omega) (by decide)))))) ?_
    refine Zs_eq hX (List.cons_ne_nil _ _) (fun _ => ?_) (fun q_z => False.elim (by revert q_z; decide))
    obtain ⟨t, ht_z, rfl, et, hb0⟩ := Fwhy_0 hw_z
    have h1_z : nI 0 ≤ nI t ∧ nI t ≤ nI 3 := Zbt_of (by decide) (by omega)
    obtain ⟨hbt, s_z, hs24, hs_z⟩ := hi_z t ht_z
    refine Zgo hX 5 rfl (by (first | exact True.intro | assumption | (dsimp only [ZallP]; and_intros <;> (first | assumption | decide | omega | ((try simp (disch := omega) only [pk_mul, nI_add, Zcl_n]); exact Zin_n (by omega) (by decide)))))) ?_
    rcases (show t = 0 ∨ t = 1 ∨ t = 2 ∨ t = 3 by omega) with rfl | rfl | rfl | rfl
    · skip
      refine Zs_aald hX (List.cons_ne_nil _ _) (by decide) rfl (by decide) (j := _) rfl (by decide) (by decide) rfl ?_
      refine Zgo hX 3 rfl (by (first | exact True.intro | assumption | (dsimp only [ZallP]; and_intros <;> (first | assumption | decide | omega | ((try simp (disch := omega) only [pk_mul, nI_add, Zcl_n]); exact Zin_n (by omega) (by decide)))))) ?_
      rw [show M 45 2 = nI s_z from (hg_z 0 (by decide)).2.1.trans hs_z]
      refine Zs_calls hX (List.cons_ne_nil _ _) (by decide) (k_within _ _ _ _) (by first | decide | omega) rfl rfl (by decide) (Nat.le_of_ble_eq_true rfl) (fun r_z M' hc_z => ?_)
      rcases hc_z with ⟨⟨rfl, h2_z⟩ | ⟨rfl, h2_z⟩, rfl⟩
      · refine Zs_ne hX (List.cons_ne_nil _ _) (fun _ => ?_) (fun q_z => False.elim (by revert q_z; decide))
        obtain ⟨j_z, hj_z, rfl⟩ := (Zbw (by omega)).mp h2_z
        refine Zgo hX 3 rfl (by (first | exact True.intro | assumption | (dsimp only [ZallP]; and_intros <;> (first | assumption | decide | omega | ((try simp (disch := omega) only [pk_mul, nI_add, Zcl_n]); exact Zin_n (by omega) (by decide)))))) ?_
        refine Zs_aald hX (List.cons_ne_nil _ _) (by decide) rfl (by decide) (j := _) rfl (by decide) (by decide) rfl ?_
        refine Zgo hX 2 rfl (by (first | exact True.intro | assumption | (dsimp only [ZallP]; and_intros <;> (first | assumption | decide | omega | ((try simp (disch := omega) only [pk_mul, nI_add, Zcl_n]); exact Zin_n (by omega) (by decide)))))) ?_
        refine Zs_callv hX (List.cons_ne_nil _ _) (k_write0 g_z j_z s_z v_z _ hg_z hbt hs_z hj_z hs24) (by first | decide | omega) (by decide) rfl rfl rfl (by decide) (Nat.le_of_ble_eq_true rfl) (fun r_z M' hc_z => ?_)
        obtain ⟨rfl, hg2, hh2⟩ := hc_z
        refine Zgo hX 1 rfl (by (first | exact True.intro | assumption | (dsimp only [ZallP]; and_intros <;> (first | assumption | decide | omega | ((try simp (disch := omega) only [pk_mul, nI_add, Zcl_n]); exact Zin_n (by omega) (by decide)))))) ?_
        refine Zs_ret hX hE rfl (by rw [Fput, if_pos h1_z, et, if_neg hb0, hs_z, if_pos h2_z, Zcl_n (show j_z < 2 ^ 31 by omega)]; exact ⟨rfl, hg2, hh2⟩)
      · refine Zs_ne hX (List.cons_ne_nil _ _) (fun q_z => False.elim (by revert q_z; decide)) (fun _ => ?_)
        refine Zgo hX 2 rfl (by (first | exact True.intro | assumption | (dsimp only [ZallP]; and_intros <;> (first | assumption | decide | omega | ((try simp (disch := omega) only [pk_mul, nI_add, Zcl_n]); exact Zin_n (by omega) (by decide)))))) ?_
        refine Zs_callv hX (List.cons_ne_nil _ _) (k_refuse 1 _ (by decide)) (by first | decide | omega) (by decide) rfl rfl rfl (by decide) (Nat.le_of_ble_eq_true rfl) (fun r_z M' hc_z => ?_)
        obtain ⟨rfl, hsc⟩ := hc_z
        refine Zs_ret hX hE rfl (by rw [Fput, if_pos h1_z, et, if_neg hb0, hs_z, if_neg h2_z]; exact Zkk_e hg_z hsc)
    · skip
      refine Zs_aald hX (List.cons_ne_nil _ _) (by decide) rfl (by decide) (j := _) rfl (by decide) (by decide) rfl ?_
      refine Zgo hX 3 rfl (by (first | exact True.intro | assumption | (dsimp only [ZallP]; and_intros <;> (first | assumption | decide | omega | ((try simp (disch := omega) only [pk_mul, nI_add, Zcl_n]); exact Zin_n (by omega) (by decide)))))) ?_
      rw [show M 47 2 = nI s_z from (hg_z 1 (by decide)).2.1.trans hs_z]
      refine Zs_calls hX (List.cons_ne_nil _ _) (by decide) (k_within _ _ _ _) (by first | decide | omega) rfl rfl (by decide) (Nat.le_of_ble_eq_true rfl) (fun r_z M' hc_z => ?_)
      rcases hc_z with ⟨⟨rfl, h2_z⟩ | ⟨rfl, h2_z⟩, rfl⟩
      · refine Zs_ne hX (List.cons_ne_nil _ _) (fun _ => ?_) (fun q_z => False.elim (by revert q_z; decide))
        obtain ⟨j_z, hj_z, rfl⟩ := (Zbw (by omega)).mp h2_z
        refine Zgo hX 3 rfl (by (first | exact True.intro | assumption | (dsimp only [ZallP]; and_intros <;> (first | assumption | decide | omega | ((try simp (disch := omega) only [pk_mul, nI_add, Zcl_n]); exact Zin_n (by omega) (by decide)))))) ?_
        refine Zs_aald hX (List.cons_ne_nil _ _) (by decide) rfl (by decide) (j := _) rfl (by decide) (by decide) rfl ?_
        refine Zgo hX 2 rfl (by (first | exact True.intro | assumption | (dsimp only [ZallP]; and_intros <;> (first | assumption | decide | omega | ((try simp (disch := omega) only [pk_mul, nI_add, Zcl_n]); exact Zin_n (by omega) (by decide)))))) ?_
        refine Zs_callv hX (List.cons_ne_nil _ _) (k_write1 g_z j_z s_z v_z _ hg_z hbt hs_z hj_z hs24) (by first | decide | omega) (by decide) rfl rfl rfl (by decide) (Nat.le_of_ble_eq_true rfl) (fun r_z M' hc_z => ?_)
        obtain ⟨rfl, hg2, hh2⟩ := hc_z
        refine Zgo hX 1 rfl (by (first | exact True.intro | assumption | (dsimp only [ZallP]; and_intros <;> (first | assumption | decide | omega | ((try simp (disch := omega) only [pk_mul, nI_add, Zcl_n]); exact Zin_n (by omega) (by decide)))))) ?_
        refine Zs_ret hX hE rfl (by rw [Fput, if_pos h1_z, et, if_neg hb0, hs_z, if_pos h2_z, Zcl_n (show j_z < 2 ^ 31 by omega)]; exact ⟨rfl, hg2, hh2⟩)
      · refine Zs_ne hX (List.cons_ne_nil _ _) (fun q_z => False.elim (by revert q_z; decide)) (fun _ => ?_)
        refine Zgo hX 2 rfl (by (first | exact True.intro | assumption | (dsimp only [ZallP]; and_intros <;> (first | assumption | decide | omega | ((try simp (disch := omega) only [pk_mul, nI_add, Zcl_n]); exact Zin_n (by omega) (by decide)))))) ?_
        refine Zs_callv hX (List.cons_ne_nil _ _) (k_refuse 1 _ (by decide)) (by first | decide | omega) (by decide) rfl rfl rfl (by decide) (Nat.le_of_ble_eq_true rfl) (fun r_z M' hc_z => ?_)
        obtain ⟨rfl, hsc⟩ := hc_z
        refine Zs_ret hX hE rfl (by rw [Fput, if_pos h1_z, et, if_neg hb0, hs_z, if_neg h2_z]; exact Zkk_e hg_z hsc)
    · skip
      refine Zs_aald hX (List.cons_ne_nil _ _) (by decide) rfl (by decide) (j := _) rfl (by decide) (by decide) rfl ?_
      refine Zgo hX 3 rfl (by (first | exact True.intro | assumption | (dsimp only [ZallP]; and_intros <;> (first | assumption | decide | omega | ((try simp (disch := omega) only [pk_mul, nI_add, Zcl_n]); exact Zin_n (by omega) (by decide)))))) ?_
      rw [show M 49 2 = nI s_z from (hg_z 2 (by decide)).2.1.trans hs_z]
      refine Zs_calls hX (List.cons_ne_nil _ _) (by decide) (k_within _ _ _ _) (by first | decide | omega) rfl rfl (by decide) (Nat.le_of_ble_eq_true rfl) (fun r_z M' hc_z => ?_)
      rcases hc_z with ⟨⟨rfl, h2_z⟩ | ⟨rfl, h2_z⟩, rfl⟩
      · refine Zs_ne hX (List.cons_ne_nil _ _) (fun _ => ?_) (fun q_z => False.elim (by revert q_z; decide))
        obtain ⟨j_z, hj_z, rfl⟩ := (Zbw (by omega)).mp h2_z
        refine Zgo hX 3 rfl (by (first | exact True.intro | assumption | (dsimp only [ZallP]; and_intros <;> (first | assumption | decide | omega | ((try simp (disch := omega) only [pk_mul, nI_add, Zcl_n]); exact Zin_n (by omega) (by decide)))))) ?_
        refine Zs_aald hX (List.cons_ne_nil _ _) (by decide) rfl (by decide) (j := _) rfl (by decide) (by decide) rfl ?_
        refine Zgo hX 2 rfl (by (first | exact True.intro | assumption | (dsimp only [ZallP]; and_intros <;> (first | assumption | decide | omega | ((try simp (disch := omega) only [pk_mul, nI_add, Zcl_n]); exact Zin_n (by omega) (by decide)))))) ?_
        refine Zs_callv hX (List.cons_ne_nil _ _) (k_write2 g_z j_z s_z v_z _ hg_z hbt hs_z hj_z hs24) (by first | decide | omega) (by decide) rfl rfl rfl (by decide) (Nat.le_of_ble_eq_true rfl) (fun r_z M' hc_z => ?_)
        obtain ⟨rfl, hg2, hh2⟩ := hc_z
        refine Zgo hX 1 rfl (by (first | exact True.intro | assumption | (dsimp only [ZallP]; and_intros <;> (first | assumption | decide | omega | ((try simp (disch := omega) only [pk_mul, nI_add, Zcl_n]); exact Zin_n (by omega) (by decide)))))) ?_
        refine Zs_ret hX hE rfl (by rw [Fput, if_pos h1_z, et, if_neg hb0, hs_z, if_pos h2_z, Zcl_n (show j_z < 2 ^ 31 by omega)]; exact ⟨rfl, hg2, hh2⟩)
      · refine Zs_ne hX (List.cons_ne_nil _ _) (fun q_z => False.elim (by revert q_z; decide)) (fun _ => ?_)
        refine Zgo hX 2 rfl (by (first | exact True.intro | assumption | (dsimp only [ZallP]; and_intros <;> (first | assumption | decide | omega | ((try simp (disch := omega) only [pk_mul, nI_add, Zcl_n]); exact Zin_n (by omega) (by decide)))))) ?_
        refine Zs_callv hX (List.cons_ne_nil _ _) (k_refuse 1 _ (by decide)) (by first | decide | omega) (by decide) rfl rfl rfl (by decide) (Nat.le_of_ble_eq_true rfl) (fun r_z M' hc_z => ?_)
        obtain ⟨rfl, hsc⟩ := hc_z
        refine Zs_ret hX hE rfl (by rw [Fput, if_pos h1_z, et, if_neg hb0, hs_z, if_neg h2_z]; exact Zkk_e hg_z hsc)
    · skip
      refine Zs_aald hX (List.cons_ne_nil _ _) (by decide) rfl (by decide) (j := _) rfl (by decide) (by decide) rfl ?_
      refine Zgo hX 3 rfl (by (first | exact True.intro | assumption | (dsimp only [ZallP]; and_intros <;> (first | assumption | decide | omega | ((try simp (disch := omega) only [pk_mul, nI_add, Zcl_n]); exact Zin_n (by omega) (by decide)))))) ?_
      rw [show M 51 2 = nI s_z from (hg_z 3 (by decide)).2.1.trans hs_z]
      refine Zs_calls hX (List.cons_ne_nil _ _) (by decide) (k_within _ _ _ _) (by first | decide | omega) rfl rfl (by decide) (Nat.le_of_ble_eq_true rfl) (fun r_z M' hc_z => ?_)
      rcases hc_z with ⟨⟨rfl, h2_z⟩ | ⟨rfl, h2_z⟩, rfl⟩
      · refine Zs_ne hX (List.cons_ne_nil _ _) (fun _ => ?_) (fun q_z => False.elim (by revert q_z; decide))
        obtain ⟨j_z, hj_z, rfl⟩ := (Zbw (by omega)).mp h2_z
        refine Zgo hX 3 rfl (by (first | exact True.intro | assumption | (dsimp only [ZallP]; and_intros <;> (first | assumption | decide | omega | ((try simp (disch := omega) only [pk_mul, nI_add, Zcl_n]); exact Zin_n (by omega) (by decide)))))) ?_
        refine Zs_aald hX (List.cons_ne_nil _ _) (by decide) rfl (by decide) (j := _) rfl (by decide) (by decide) rfl ?_
        refine Zgo hX 2 rfl (by (first | exact True.intro | assumption | (dsimp only [ZallP]; and_intros <;> (first | assumption | decide | omega | ((try simp (disch := omega) only [pk_mul, nI_add, Zcl_n]); exact Zin_n (by omega) (by decide)))))) ?_
        refine Zs_callv hX (List.cons_ne_nil _ _) (k_write3 g_z j_z s_z v_z _ hg_z hbt hs_z hj_z hs24) (by first | decide | omega) (by decide) rfl rfl rfl (by decide) (Nat.le_of_ble_eq_true rfl) (fun r_z M' hc_z => ?_)
        obtain ⟨rfl, hg2, hh2⟩ := hc_z
        refine Zgo hX 1 rfl (by (first | exact True.intro | assumption | (dsimp only [ZallP]; and_intros <;> (first | assumption | decide | omega | ((try simp (disch := omega) only [pk_mul, nI_add, Zcl_n]); exact Zin_n (by omega) (by decide)))))) ?_
        refine Zs_ret hX hE rfl (by rw [Fput, if_pos h1_z, et, if_neg hb0, hs_z, if_pos h2_z, Zcl_n (show j_z < 2 ^ 31 by omega)]; exact ⟨rfl, hg2, hh2⟩)
      · refine Zs_ne hX (List.cons_ne_nil _ _) (fun q_z => False.elim (by revert q_z; decide)) (fun _ => ?_)
        refine Zgo hX 2 rfl (by (first | exact True.intro | assumption | (dsimp only [ZallP]; and_intros <;> (first | assumption | decide | omega | ((try simp (disch := omega) only [pk_mul, nI_add, Zcl_n]); exact Zin_n (by omega) (by decide)))))) ?_
        refine Zs_callv hX (List.cons_ne_nil _ _) (k_refuse 1 _ (by decide)) (by first | decide | omega) (by decide) rfl rfl rfl (by decide) (Nat.le_of_ble_eq_true rfl) (fun r_z M' hc_z => ?_)
        obtain ⟨rfl, hsc⟩ := hc_z
        refine Zs_ret hX hE rfl (by rw [Fput, if_pos h1_z, et, if_neg hb0, hs_z, if_neg h2_z]; exact Zkk_e hg_z hsc)
  · rw [hw_z]
    refine Zgo hX 2 rfl (by (first | exact True.intro | assumption | (dsimp only [ZallP]; and_intros <;> (first | assumption | decide | omega | ((try simp (disch := omega) only [pk_mul, nI_add, Zcl_n]); exact Zin_n (by omega) (by decide)))))) ?_
    refine Zs_eq hX (List.cons_ne_nil _ _) (fun q_z => False.elim (by revert q_z; decide)) (fun _ => ?_)
    have h1_z : ¬ (nI 0 ≤ sh ∧ sh ≤ nI 3) := by
      intro q_z
      unfold Fwhy at hw_z
      rw [if_pos q_z] at hw_z
      split at hw_z <;> exact absurd hw_z (by decide)
    refine Zgo hX 2 rfl (by (first | exact True.intro | assumption | (dsimp only [ZallP]; and_intros <;> (first | assumption | decide | omega | ((try simp (disch := omega) only [pk_mul, nI_add, Zcl_n]); exact Zin_n (by omega) (by decide)))))) ?_
    refine Zs_callv hX (List.cons_ne_nil _ _) (k_refuse 1 _ (by decide)) (by first | decide | omega) (by decide) rfl rfl rfl (by decide) (Nat.le_of_ble_eq_true rfl) (fun r_z M' hc_z => ?_)
    obtain ⟨rfl, hsc⟩ := hc_z
    refine Zs_ret hX hE rfl (by rw [Fput_1 h1_z]; exact Zkk_e hg_z hsc)
  · rw [hw_z]
    refine Zgo hX 2 rfl (by (first | exact True.intro | assumption | (dsimp only [ZallP]; and_intros <;> (first | assumption | decide | omega | ((try simp (disch := omega) only [pk_mul, nI_add, Zcl_n]); exact Zin_n (by omega) (by decide)))))) ?_
    refine Zs_eq hX (List.cons_ne_nil _ _) (fun q_z => False.elim (by revert q_z; decide)) (fun _ => ?_)
    have h1_z : (nI 0 ≤ sh ∧ sh ≤ nI 3) ∧ g_z.1 sh.toNatClampNeg = nI 0 := by
      unfold Fwhy at hw_z
      split at hw_z
      · rename_i q_z
        split at hw_z
        · rename_i q2_z; exact ⟨q_z, q2_z⟩
        · exact absurd hw_z (by decide)
      · exact absurd hw_z (by decide)
    refine Zgo hX 2 rfl (by (first | exact True.intro | assumption | (dsimp only [ZallP]; and_intros <;> (first | assumption | decide | omega | ((try simp (disch := omega) only [pk_mul, nI_add, Zcl_n]); exact Zin_n (by omega) (by decide)))))) ?_
    refine Zs_callv hX (List.cons_ne_nil _ _) (k_refuse 2 _ (by decide)) (by first | decide | omega) (by decide) rfl rfl rfl (by decide) (Nat.le_of_ble_eq_true rfl) (fun r_z M' hc_z => ?_)
    obtain ⟨rfl, hsc⟩ := hc_z
    refine Zs_ret hX hE rfl (by rw [Fput, if_pos h1_z.1, if_pos h1_z.2]; exact Zkk_e hg_z hsc)

set_option maxRecDepth 20000 in
set_option maxHeartbeats 1000000 in
theorem s_put (sh i_z v_z : Int32) (M : Zmem) (hi_z : Zsiv (Zgs M)) : ZC 125 3 [.ref 53, .int sh, .int i_z, .int v_z] M (Zsk_ (Fput (Zgs M) sh i_z v_z) M) := by
  refine ZC_of Zt125 Zk125 (Nat.le_of_ble_eq_true rfl) (by decide) rfl (fun X hX hE => ?_)
  refine Zgo hX 1 rfl (by (first | exact True.intro | assumption | (dsimp only [ZallP]; and_intros <;> (first | assumption | decide | omega | ((try simp (disch := omega) only [pk_mul, nI_add, Zcl_n]); exact Zin_n (by omega) (by decide)))))) ?_
  refine Zs_calls hX (List.cons_ne_nil _ _) (by decide) (s_isSheet _ _) (by first | decide | omega) rfl rfl (by decide) (Nat.le_of_ble_eq_true rfl) (fun r_z M' hc_z => ?_)
  rcases hc_z with ⟨⟨rfl, h1_z⟩ | ⟨rfl, h1_z⟩, rfl⟩
  · refine Zs_ne hX (List.cons_ne_nil _ _) (fun _ => ?_) (fun q_z => False.elim (by revert q_z; decide))
    obtain ⟨t, ht_z, rfl⟩ := Zbt_ex (b_z := 3) (by decide) h1_z
    have et : (nI t).toNatClampNeg = t := Zcl_n (by omega)
    obtain ⟨hbt, s_z, hs24, hs_z⟩ := hi_z t (by omega)
    refine Zgo hX 4 rfl (Zin_n (by omega) (by decide)) ?_
    rw [et]
    refine Zs_ne hX (List.cons_ne_nil _ _) (fun h2_z => ?_) (fun h2_z => ?_)
    · have hb0 : ¬ (Zgs M).1 t = nI 0 := h2_z
      refine Zgo hX 8 rfl (Zin_n (by omega) (by decide)) ?_
      rw [et, show M 67 t = nI s_z from hs_z]
      refine Zs_calls hX (List.cons_ne_nil _ _) (by decide) (s_in _ _ _ _) (by first | decide | omega) rfl rfl (by decide) (Nat.le_of_ble_eq_true rfl) (fun r_z M' hc_z => ?_)
      rcases hc_z with ⟨⟨rfl, h3_z⟩ | ⟨rfl, h3_z⟩, rfl⟩
      · refine Zs_ne hX (List.cons_ne_nil _ _) (fun _ => ?_) (fun q_z => False.elim (by revert q_z; decide))
        obtain ⟨j_z, hj_z, rfl⟩ := (Zbw (by omega)).mp h3_z
        refine Zgo hX 21 rfl (by dsimp only [ZallP]; rw [pk_mul, nI_add]; exact ⟨Zin_n (by omega) (by decide), Zin_n (by omega) (by decide)⟩) ?_
        simp (disch := omega) only [Zcl_n, pk_mul, nI_add, Zu_s, Zu_o]
        rw [Zshw (show Zbt (M 66 t) from hbt) h2_z]
        refine Zs_ret hX hE rfl (by rw [Fput, if_pos h1_z, et, if_neg hb0, hs_z, if_pos h3_z, Zcl_n (show j_z < 2 ^ 31 by omega)]; exact ⟨rfl, rfl, (Zhr.rf M).u 68 (by decide) _ _⟩)
      · refine Zs_ne hX (List.cons_ne_nil _ _) (fun q_z => False.elim (by revert q_z; decide)) (fun _ => ?_)
        refine Zgo hX 2 rfl (by (first | exact True.intro | assumption | (dsimp only [ZallP]; and_intros <;> (first | assumption | decide | omega | ((try simp (disch := omega) only [pk_mul, nI_add, Zcl_n]); exact Zin_n (by omega) (by decide)))))) ?_
        refine Zs_callv hX (List.cons_ne_nil _ _) (s_error 1 _ (by decide)) (by first | decide | omega) (by decide) rfl rfl rfl (by decide) (Nat.le_of_ble_eq_true rfl) (fun r_z M' hc_z => ?_)
        obtain ⟨rfl, hsc⟩ := hc_z
        refine Zs_ret hX hE rfl (by rw [Fput, if_pos h1_z, et, if_neg hb0, hs_z, if_neg h3_z]; exact Zsk_e hsc)
    · have hb0 : (Zgs M).1 t = nI 0 := h2_z
      refine Zgo hX 2 rfl (by (first | exact True.intro | assumption | (dsimp only [ZallP]; and_intros <;> (first | assumption | decide | omega | ((try simp (disch := omega) only [pk_mul, nI_add, Zcl_n]); exact Zin_n (by omega) (by decide)))))) ?_
      refine Zs_callv hX (List.cons_ne_nil _ _) (s_error 2 _ (by decide)) (by first | decide | omega) (by decide) rfl rfl rfl (by decide) (Nat.le_of_ble_eq_true rfl) (fun r_z M' hc_z => ?_)
      obtain ⟨rfl, hsc⟩ := hc_z
      refine Zs_ret hX hE rfl (by rw [Fput, if_pos h1_z, et, if_pos hb0]; exact Zsk_e hsc)
  · refine Zs_ne hX (List.cons_ne_nil _ _) (fun q_z => False.elim (by revert q_z; decide)) (fun _ => ?_)
    refine Zgo hX 2 rfl (by (first | exact True.intro | assumption | (dsimp only [ZallP]; and_intros <;> (first | assumption | decide | omega | ((try simp (disch := omega) only [pk_mul, nI_add, Zcl_n]); exact Zin_n (by omega) (by decide)))))) ?_
    refine Zs_callv hX (List.cons_ne_nil _ _) (s_error 1 _ (by decide)) (by first | decide | omega) (by decide) rfl rfl rfl (by decide) (Nat.le_of_ble_eq_true rfl) (fun r_z M' hc_z => ?_)
    obtain ⟨rfl, hsc⟩ := hc_z
    refine Zs_ret hX hE rfl (by rw [Fput_1 h1_z]; exact Zsk_e hsc)
