set_option maxRecDepth 20000 in
set_option maxHeartbeats 1000000 in
theorem k_ease (f_z : Nat → Int32) (n_z : Nat) (much what : Int32) (M : Zmem) (hz_z : Zrv 1 f_z M) (hfi : Zfi f_z) (hn_z : f_z 7 = nI n_z) (hn2 : n_z ≤ 15) : ZC 21 5 [.ref 0, .int much, .int what] M (Zq M) := by
  refine ZC_of Zt21 Zk21 (Nat.le_of_ble_eq_true rfl) (by decide) rfl (fun X hX hE => ?_)
  have BAD : ZP X Zt21 (Zsf Zt21 16) (lv_args 0 [.ref 0, .int much, .int what]) [] M := by
    refine Zgo hX 2 rfl (by (first | exact True.intro | assumption | (dsimp only [ZallP]; and_intros <;> (first | assumption | decide | omega | ((try simp (disch := omega) only [pk_mul, nI_add, Zcl_n]); exact Zin_n (by omega) (by decide)))))) ?_
    refine Zs_callv hX (List.cons_ne_nil _ _) (k_refuse 1 _ (by decide)) (by first | decide | omega) (by decide) rfl rfl rfl (by decide) (Nat.le_of_ble_eq_true rfl) (fun r_z M' hc_z => ?_)
    obtain ⟨rfl, hsc⟩ := hc_z
    refine Zs_ret hX hE rfl (Zq_e hsc)
  have L : ∀ (q_z i_z : Nat) (be fw : Int32) (M1 : Zmem), 19 - i_z < q_z → i_z ≤ 19 → Sc M M1 → ZP X Zt21 (Zsf Zt21 33) [(3, .int be), (4, .int fw), (5, .int (nI i_z - nI 9)), (0, .ref 0), (1, .int much), (2, .int what)] [] M1 := by
    intro q_z
    induction q_z with
    | zero => intro i_z be fw M1 hq_z; exact absurd hq_z (Nat.not_lt_zero _)
    | succ q_z ih_z =>
      intro i_z be fw M1 hq_z hi_z hsc
      refine Zgo hX 2 rfl (by (first | exact True.intro | assumption | (dsimp only [ZallP]; and_intros <;> (first | assumption | decide | omega | ((try simp (disch := omega) only [pk_mul, nI_add, Zcl_n]); exact Zin_n (by omega) (by decide)))))) ?_
      refine Zs_igt hX (List.cons_ne_nil _ _) (fun h_z => ?_) (fun h_z => ?_)
      · refine Zgo hX 1 rfl (by (first | exact True.intro | assumption | (dsimp only [ZallP]; and_intros <;> (first | assumption | decide | omega | ((try simp (disch := omega) only [pk_mul, nI_add, Zcl_n]); exact Zin_n (by omega) (by decide)))))) ?_
        refine Zs_ne hX (List.cons_ne_nil _ _) (fun h2_z => ?_) (fun h2_z => ?_)
        · refine Zgo hX 1 rfl (by (first | exact True.intro | assumption | (dsimp only [ZallP]; and_intros <;> (first | assumption | decide | omega | ((try simp (disch := omega) only [pk_mul, nI_add, Zcl_n]); exact Zin_n (by omega) (by decide)))))) ?_
          refine Zs_ret hX hE rfl (Zq_e hsc)
        · refine Zgo hX 2 rfl (by (first | exact True.intro | assumption | (dsimp only [ZallP]; and_intros <;> (first | assumption | decide | omega | ((try simp (disch := omega) only [pk_mul, nI_add, Zcl_n]); exact Zin_n (by omega) (by decide)))))) ?_
          refine Zs_ret hX hE rfl (Zq_e hsc)
      · have hlt : i_z ≤ 18 := (Nat.lt_or_ge 18 i_z).elim (fun q_z => absurd ((Zm9 (show i_z < 20 by omega)).2.mpr q_z) h_z) id
        refine Zgo hX 4 rfl (by (first | exact True.intro | assumption | (dsimp only [ZallP]; and_intros <;> (first | assumption | decide | omega | ((try simp (disch := omega) only [pk_mul, nI_add, Zcl_n]); exact Zin_n (by omega) (by decide)))))) ?_
        refine Zs_callv hX (List.cons_ne_nil _ _) (k_waters f_z n_z much (nI i_z - nI 9) M1 (hz_z.sc (Or.inl rfl) hsc) hfi hn_z hn2) (by first | decide | omega) (by decide) rfl rfl rfl (by decide) (Nat.le_of_ble_eq_true rfl) (fun r_z M' hc_z => ?_)
        obtain ⟨rfl, hsc2, -⟩ := hc_z
        refine Zs_calls hX (List.cons_ne_nil _ _) (by decide) (c_bitCount _ _) (by first | decide | omega) rfl rfl (by decide) (Nat.le_of_ble_eq_true rfl) (fun r_z M' hc_z => ?_)
        obtain ⟨⟨v_z, rfl⟩, rfl⟩ := hc_z
        have hsc3 := hsc.tr hsc2
        refine Zgo hX 3 rfl (by (first | exact True.intro | assumption | (dsimp only [ZallP]; and_intros <;> (first | assumption | decide | omega | ((try simp (disch := omega) only [pk_mul, nI_add, Zcl_n]); exact Zin_n (by omega) (by decide)))))) ?_
        refine Zs_ige hX (List.cons_ne_nil _ _) (fun h5_z => ?_) (fun h5_z => ?_)
        · refine Zgo hX 2 rfl (by (first | exact True.intro | assumption | (dsimp only [ZallP]; and_intros <;> (first | assumption | decide | omega | ((try simp (disch := omega) only [pk_mul, nI_add, Zcl_n]); exact Zin_n (by omega) (by decide)))))) ?_
          rw [(Zm9 (show i_z < 20 by omega)).1]
          refine Zs_sub (l' := [(3, .int be), (4, .int fw), (5, .int (nI (i_z + 1) - nI 9)), (0, .ref 0), (1, .int much), (2, .int what)]) rfl ?_
          exact ih_z (i_z + 1) be fw _ (by omega) (by omega) hsc3
        · refine Zgo hX 6 rfl (by (first | exact True.intro | assumption | (dsimp only [ZallP]; and_intros <;> (first | assumption | decide | omega | ((try simp (disch := omega) only [pk_mul, nI_add, Zcl_n]); exact Zin_n (by omega) (by decide)))))) ?_
          rw [(Zm9 (show i_z < 20 by omega)).1]
          refine Zs_sub (l' := [(3, .int (nI i_z - nI 9)), (4, .int v_z), (5, .int (nI (i_z + 1) - nI 9)), (0, .ref 0), (1, .int much), (2, .int what)]) rfl ?_
          exact ih_z (i_z + 1) (nI i_z - nI 9) v_z _ (by omega) (by omega) hsc3
  refine Zgo hX 1 rfl (by (first | exact True.intro | assumption | (dsimp only [ZallP]; and_intros <;> (first | assumption | decide | omega | ((try simp (disch := omega) only [pk_mul, nI_add, Zcl_n]); exact Zin_n (by omega) (by decide)))))) ?_
  refine Zs_calls hX (List.cons_ne_nil _ _) (by decide) (k_isWater _ _) (by first | decide | omega) rfl rfl (by decide) (Nat.le_of_ble_eq_true rfl) (fun r_z M' hc_z => ?_)
  rcases hc_z with ⟨⟨rfl, h1_z⟩ | ⟨rfl, h1_z⟩, rfl⟩
  · refine Zs_eq hX (List.cons_ne_nil _ _) (fun q_z => False.elim (by revert q_z; decide)) (fun _ => ?_)
    refine Zgo hX 3 rfl (by (first | exact True.intro | assumption | (dsimp only [ZallP]; and_intros <;> (first | assumption | decide | omega | ((try simp (disch := omega) only [pk_mul, nI_add, Zcl_n]); exact Zin_n (by omega) (by decide)))))) ?_
    refine Zs_calls hX (List.cons_ne_nil _ _) (by decide) (k_within _ _ _ _) (by first | decide | omega) rfl rfl (by decide) (Nat.le_of_ble_eq_true rfl) (fun r_z M' hc_z => ?_)
    rcases hc_z with ⟨⟨rfl, h2_z⟩ | ⟨rfl, h2_z⟩, rfl⟩
    · refine Zs_ne hX (List.cons_ne_nil _ _) (fun _ => ?_) (fun q_z => False.elim (by revert q_z; decide))
      refine Zgo hX 6 rfl (by (first | exact True.intro | assumption | (dsimp only [ZallP]; and_intros <;> (first | assumption | decide | omega | ((try simp (disch := omega) only [pk_mul, nI_add, Zcl_n]); exact Zin_n (by omega) (by decide)))))) ?_
      refine Zs_sub (l' := [(3, .int (-(nI 9))), (4, .int (nI 16)), (5, .int (nI 0 - nI 9)), (0, .ref 0), (1, .int much), (2, .int what)]) rfl ?_
      exact L 20 0 _ _ M (by decide) (by decide) (Sc.rf _)
    · refine Zs_ne hX (List.cons_ne_nil _ _) (fun q_z => False.elim (by revert q_z; decide)) (fun _ => ?_)
      exact BAD
  · refine Zs_eq hX (List.cons_ne_nil _ _) (fun _ => ?_) (fun q_z => False.elim (by revert q_z; decide))
    exact BAD

set_option maxRecDepth 20000 in
set_option maxHeartbeats 1000000 in
theorem s_bitsOf (a_z : Nat) (M : Zmem) (ha_z : a_z < 2 ^ 31) : ZC 85 0 [.int (nI a_z)] M (fun r_z M' => (∃ v_z : Int32, r_z = some (.int v_z)) ∧ M = M') := by
  refine ZC_of Zt85 Zk85 (Nat.le_of_ble_eq_true rfl) (by decide) rfl (fun X hX hE => ?_)
  have L : ∀ (q_z a_z : Nat) (c_z v_z : Int32), a_z < q_z → a_z < 2 ^ 31 → ZP X Zt85 (Zsf Zt85 4) [(1, .int c_z), (2, .int (nI a_z)), (0, .int v_z)] [] M := by
    intro q_z
    induction q_z with
    | zero => intro a_z c_z v_z hq_z; exact absurd hq_z (Nat.not_lt_zero _)
    | succ q_z ih_z =>
      intro a_z c_z v_z hq_z hlt
      refine Zgo hX 1 rfl (by (first | exact True.intro | assumption | (dsimp only [ZallP]; and_intros <;> (first | assumption | decide | omega | ((try simp (disch := omega) only [pk_mul, nI_add, Zcl_n]); exact Zin_n (by omega) (by decide)))))) ?_
      refine Zs_eq hX (List.cons_ne_nil _ _) (fun h_z => ?_) (fun h_z => ?_)
      · refine Zgo hX 1 rfl (by (first | exact True.intro | assumption | (dsimp only [ZallP]; and_intros <;> (first | assumption | decide | omega | ((try simp (disch := omega) only [pk_mul, nI_add, Zcl_n]); exact Zin_n (by omega) (by decide)))))) ?_
        refine Zs_ret hX hE rfl ⟨⟨_, rfl⟩, rfl⟩
      · obtain ⟨b_z, rfl⟩ : ∃ b_z, a_z = b_z + 1 := ⟨a_z - 1, by
          rcases Nat.eq_zero_or_pos a_z with e_z | e_z
          · subst e_z; exact absurd rfl h_z
          · omega⟩
        refine Zgo hX 8 rfl (by (first | exact True.intro | assumption | (dsimp only [ZallP]; and_intros <;> (first | assumption | decide | omega | ((try simp (disch := omega) only [pk_mul, nI_add, Zcl_n]); exact Zin_n (by omega) (by decide)))))) ?_
        rw [Zpr, Znand]
        have hle : (b_z + 1) &&& b_z ≤ b_z := Nat.and_le_right
        refine Zs_sub (l' := [(1, .int (c_z + nI 1)), (2, .int (nI ((b_z + 1) &&& b_z))), (0, .int v_z)]) rfl ?_
        exact ih_z _ (c_z + nI 1) v_z (by omega) (by omega)
  refine Zgo hX 4 rfl (by (first | exact True.intro | assumption | (dsimp only [ZallP]; and_intros <;> (first | assumption | decide | omega | ((try simp (disch := omega) only [pk_mul, nI_add, Zcl_n]); exact Zin_n (by omega) (by decide)))))) ?_
  refine Zs_sub (l' := [(1, .int (nI 0)), (2, .int (nI a_z)), (0, .int (nI a_z))]) rfl ?_
  exact L (a_z + 1) a_z (nI 0) (nI a_z) (by omega) ha_z

set_option maxRecDepth 20000 in
set_option maxHeartbeats 1000000 in
theorem s_ease (n_z : Nat) (much what : Int32) (M : Zmem) (hfi : Zfi (M 54)) (hn_z : M 54 7 = nI n_z) (hn2 : n_z ≤ 15) : ZC 109 5 [.ref 53, .int much, .int what] M (Zq M) := by
  refine ZC_of Zt109 Zk109 (Nat.le_of_ble_eq_true rfl) (by decide) rfl (fun X hX hE => ?_)
  have BAD : ZP X Zt109 (Zsf Zt109 16) (lv_args 0 [.ref 53, .int much, .int what]) [] M := by
    refine Zgo hX 2 rfl (by (first | exact True.intro | assumption | (dsimp only [ZallP]; and_intros <;> (first | assumption | decide | omega | ((try simp (disch := omega) only [pk_mul, nI_add, Zcl_n]); exact Zin_n (by omega) (by decide)))))) ?_
    refine Zs_callv hX (List.cons_ne_nil _ _) (s_error 1 _ (by decide)) (by first | decide | omega) (by decide) rfl rfl rfl (by decide) (Nat.le_of_ble_eq_true rfl) (fun r_z M' hc_z => ?_)
    obtain ⟨rfl, hsc⟩ := hc_z
    refine Zs_ret hX hE rfl (Zq_e hsc)
  have L : ∀ (q_z i_z : Nat) (be fw : Int32) (M1 : Zmem), 19 - i_z < q_z → i_z ≤ 19 → Sc M M1 → ZP X Zt109 (Zsf Zt109 31) [(3, .int be), (4, .int fw), (5, .int (nI i_z - nI 9)), (0, .ref 53), (1, .int much), (2, .int what)] [] M1 := by
    intro q_z
    induction q_z with
    | zero => intro i_z be fw M1 hq_z; exact absurd hq_z (Nat.not_lt_zero _)
    | succ q_z ih_z =>
      intro i_z be fw M1 hq_z hi_z hsc
      refine Zgo hX 2 rfl (by (first | exact True.intro | assumption | (dsimp only [ZallP]; and_intros <;> (first | assumption | decide | omega | ((try simp (disch := omega) only [pk_mul, nI_add, Zcl_n]); exact Zin_n (by omega) (by decide)))))) ?_
      refine Zs_igt hX (List.cons_ne_nil _ _) (fun h_z => ?_) (fun h_z => ?_)
      · refine Zgo hX 1 rfl (by (first | exact True.intro | assumption | (dsimp only [ZallP]; and_intros <;> (first | assumption | decide | omega | ((try simp (disch := omega) only [pk_mul, nI_add, Zcl_n]); exact Zin_n (by omega) (by decide)))))) ?_
        refine Zs_ne hX (List.cons_ne_nil _ _) (fun h2_z => ?_) (fun h2_z => ?_)
        · refine Zgo hX 1 rfl (by (first | exact True.intro | assumption | (dsimp only [ZallP]; and_intros <;> (first | assumption | decide | omega | ((try simp (disch := omega) only [pk_mul, nI_add, Zcl_n]); exact Zin_n (by omega) (by decide)))))) ?_
          refine Zs_ret hX hE rfl (Zq_e hsc)
        · refine Zgo hX 2 rfl (by (first | exact True.intro | assumption | (dsimp only [ZallP]; and_intros <;> (first | assumption | decide | omega | ((try simp (disch := omega) only [pk_mul, nI_add, Zcl_n]); exact Zin_n (by omega) (by decide)))))) ?_
          refine Zs_ret hX hE rfl (Zq_e hsc)
      · have hlt : i_z ≤ 18 := (Nat.lt_or_ge 18 i_z).elim (fun q_z => absurd ((Zm9 (show i_z < 20 by omega)).2.mpr q_z) h_z) id
        refine Zgo hX 3 rfl (by (first | exact True.intro | assumption | (dsimp only [ZallP]; and_intros <;> (first | assumption | decide | omega | ((try simp (disch := omega) only [pk_mul, nI_add, Zcl_n]); exact Zin_n (by omega) (by decide)))))) ?_
        refine Zs_callv hX (List.cons_ne_nil _ _) (s_letDown n_z much (nI i_z - nI 9) M1 (by rw [hsc.f54]; exact hfi) (by rw [hsc.f54]; exact hn_z) hn2) (by first | decide | omega) (by decide) rfl rfl rfl (by decide) (Nat.le_of_ble_eq_true rfl) (fun r_z M' hc_z => ?_)
        obtain ⟨rfl, hsc2, hfl, -⟩ := hc_z
        have hF : Zfn (M1 54) much (nI i_z - nI 9) n_z < 2 ^ 31 := Nat.lt_of_lt_of_le (Zfn_lt (M1 54) much (nI i_z - nI 9) n_z) (Nat.le_trans (Z2p hn2) (by decide))
        refine Zgo hX 2 rfl (by (first | exact True.intro | assumption | (dsimp only [ZallP]; and_intros <;> (first | assumption | decide | omega | ((try simp (disch := omega) only [pk_mul, nI_add, Zcl_n]); exact Zin_n (by omega) (by decide)))))) ?_
        rw [hfl]
        refine Zs_calls hX (List.cons_ne_nil _ _) (by decide) (s_bitsOf _ _ hF) (by first | decide | omega) rfl rfl (by decide) (Nat.le_of_ble_eq_true rfl) (fun r_z M' hc_z => ?_)
        obtain ⟨⟨v_z, rfl⟩, rfl⟩ := hc_z
        have hsc3 := hsc.tr hsc2
        have TAKE : ZP X Zt109 (Zsf Zt109 67) [(6, .int v_z), (3, .int be), (4, .int fw), (5, .int (nI i_z - nI 9)), (0, .ref 53), (1, .int much), (2, .int what)] [] M' := by
          refine Zgo hX 6 rfl (by (first | exact True.intro | assumption | (dsimp only [ZallP]; and_intros <;> (first | assumption | decide | omega | ((try simp (disch := omega) only [pk_mul, nI_add, Zcl_n]); exact Zin_n (by omega) (by decide)))))) ?_
          rw [(Zm9 (show i_z < 20 by omega)).1]
          refine Zs_sub (l' := [(3, .int (nI i_z - nI 9)), (4, .int v_z), (5, .int (nI (i_z + 1) - nI 9)), (0, .ref 53), (1, .int much), (2, .int what)]) rfl ?_
          exact ih_z (i_z + 1) (nI i_z - nI 9) v_z _ (by omega) (by omega) hsc3
        refine Zgo hX 3 rfl (by (first | exact True.intro | assumption | (dsimp only [ZallP]; and_intros <;> (first | assumption | decide | omega | ((try simp (disch := omega) only [pk_mul, nI_add, Zcl_n]); exact Zin_n (by omega) (by decide)))))) ?_
        refine Zs_ieq hX (List.cons_ne_nil _ _) (fun h5_z => ?_) (fun h5_z => ?_)
        · refine Zs_sub (l' := [(6, .int v_z), (3, .int be), (4, .int fw), (5, .int (nI i_z - nI 9)), (0, .ref 53), (1, .int much), (2, .int what)]) rfl ?_
          exact TAKE
        · refine Zgo hX 2 rfl (by (first | exact True.intro | assumption | (dsimp only [ZallP]; and_intros <;> (first | assumption | decide | omega | ((try simp (disch := omega) only [pk_mul, nI_add, Zcl_n]); exact Zin_n (by omega) (by decide)))))) ?_
          refine Zs_ige hX (List.cons_ne_nil _ _) (fun h6_z => ?_) (fun h6_z => ?_)
          · refine Zgo hX 2 rfl (by (first | exact True.intro | assumption | (dsimp only [ZallP]; and_intros <;> (first | assumption | decide | omega | ((try simp (disch := omega) only [pk_mul, nI_add, Zcl_n]); exact Zin_n (by omega) (by decide)))))) ?_
            rw [(Zm9 (show i_z < 20 by omega)).1]
            refine Zs_sub (l' := [(3, .int be), (4, .int fw), (5, .int (nI (i_z + 1) - nI 9)), (0, .ref 53), (1, .int much), (2, .int what)]) rfl ?_
            exact ih_z (i_z + 1) be fw _ (by omega) (by omega) hsc3
          · refine Zs_sub (l' := [(6, .int v_z), (3, .int be), (4, .int fw), (5, .int (nI i_z - nI 9)), (0, .ref 53), (1, .int much), (2, .int what)]) rfl ?_
            exact TAKE
  refine Zgo hX 1 rfl (by (first | exact True.intro | assumption | (dsimp only [ZallP]; and_intros <;> (first | assumption | decide | omega | ((try simp (disch := omega) only [pk_mul, nI_add, Zcl_n]); exact Zin_n (by omega) (by decide)))))) ?_
  refine Zs_calls hX (List.cons_ne_nil _ _) (by decide) (s_isWater _ _) (by first | decide | omega) rfl rfl (by decide) (Nat.le_of_ble_eq_true rfl) (fun r_z M' hc_z => ?_)
  rcases hc_z with ⟨⟨rfl, h1_z⟩ | ⟨rfl, h1_z⟩, rfl⟩
  · refine Zs_eq hX (List.cons_ne_nil _ _) (fun q_z => False.elim (by revert q_z; decide)) (fun _ => ?_)
    refine Zgo hX 3 rfl (by (first | exact True.intro | assumption | (dsimp only [ZallP]; and_intros <;> (first | assumption | decide | omega | ((try simp (disch := omega) only [pk_mul, nI_add, Zcl_n]); exact Zin_n (by omega) (by decide)))))) ?_
    refine Zs_calls hX (List.cons_ne_nil _ _) (by decide) (s_in _ _ _ _) (by first | decide | omega) rfl rfl (by decide) (Nat.le_of_ble_eq_true rfl) (fun r_z M' hc_z => ?_)
    rcases hc_z with ⟨⟨rfl, h2_z⟩ | ⟨rfl, h2_z⟩, rfl⟩
    · refine Zs_ne hX (List.cons_ne_nil _ _) (fun _ => ?_) (fun q_z => False.elim (by revert q_z; decide))
      refine Zgo hX 6 rfl (by (first | exact True.intro | assumption | (dsimp only [ZallP]; and_intros <;> (first | assumption | decide | omega | ((try simp (disch := omega) only [pk_mul, nI_add, Zcl_n]); exact Zin_n (by omega) (by decide)))))) ?_
      refine Zs_sub (l' := [(3, .int (nI 0)), (4, .int (-(nI 1))), (5, .int (nI 0 - nI 9)), (0, .ref 53), (1, .int much), (2, .int what)]) rfl ?_
      exact L 20 0 _ _ M (by decide) (by decide) (Sc.rf _)
    · refine Zs_ne hX (List.cons_ne_nil _ _) (fun q_z => False.elim (by revert q_z; decide)) (fun _ => ?_)
      exact BAD
  · refine Zs_eq hX (List.cons_ne_nil _ _) (fun _ => ?_) (fun q_z => False.elim (by revert q_z; decide))
    exact BAD

set_option maxRecDepth 20000 in
set_option maxHeartbeats 1000000 in
theorem k_gcd (a_z b_z : Nat) (M : Zmem) (ha_z : a_z ≤ 60) (hb_z : b_z ≤ 60) : ZC 48 0 [.int (nI a_z), .int (nI b_z)] M (fun r_z M' => r_z = some (.int (nI (Nat.gcd a_z b_z))) ∧ M = M') := by
  refine ZC_of Zt48 Zk48 (Nat.le_of_ble_eq_true rfl) (by decide) rfl (fun X hX hE => ?_)
  have L : ∀ (q_z x_z y_z i_z : Nat) (a0 b0 : Int32), y_z < q_z → i_z + y_z ≤ 60 → x_z ≤ 60 → Nat.gcd x_z y_z = Nat.gcd a_z b_z → ZP X Zt48 (Zsf Zt48 7) [(2, .int (nI x_z)), (3, .int (nI y_z)), (4, .int (nI i_z)), (0, .int a0), (1, .int b0)] [] M := by
    intro q_z
    induction q_z with
    | zero => intro x_z y_z i_z a0 b0 hq_z; exact absurd hq_z (Nat.not_lt_zero _)
    | succ q_z ih_z =>
      intro x_z y_z i_z a0 b0 hq_z hi_z hx_z hg_z
      refine Zgo hX 2 rfl (by (first | exact True.intro | assumption | (dsimp only [ZallP]; and_intros <;> (first | assumption | decide | omega | ((try simp (disch := omega) only [pk_mul, nI_add, Zcl_n]); exact Zin_n (by omega) (by decide)))))) ?_
      refine Zs_ige hX (List.cons_ne_nil _ _) (fun h_z => ?_) (fun h_z => ?_)
      · exact absurd ((Zn_le (by omega) (by omega)).mp h_z) (by omega)
      · refine Zgo hX 1 rfl (by (first | exact True.intro | assumption | (dsimp only [ZallP]; and_intros <;> (first | assumption | decide | omega | ((try simp (disch := omega) only [pk_mul, nI_add, Zcl_n]); exact Zin_n (by omega) (by decide)))))) ?_
        refine Zs_le hX (List.cons_ne_nil _ _) (fun h2_z => ?_) (fun h2_z => ?_)
        · obtain rfl : y_z = 0 := by have := (Zn_le (b_z := 0) (by omega) (by omega)).mp h2_z; omega
          refine Zgo hX 1 rfl (by (first | exact True.intro | assumption | (dsimp only [ZallP]; and_intros <;> (first | assumption | decide | omega | ((try simp (disch := omega) only [pk_mul, nI_add, Zcl_n]); exact Zin_n (by omega) (by decide)))))) ?_
          refine Zs_ret hX hE rfl ⟨by rw [← hg_z, Nat.gcd_zero_right], rfl⟩
        · have hy : y_z ≠ 0 := fun q_z => h2_z (by rw [q_z]; exact Int32.le_refl _)
          have hlt := Nat.mod_lt x_z (Nat.pos_of_ne_zero hy)
          refine Zgo hX 10 rfl (by show ¬ nI y_z = nI 0; exact fun q_z => hy (Zeq (by omega) (by decide) q_z)) ?_
          rw [pk_rem (by omega) (by omega) (by omega), nI_add]
          refine Zs_sub (l' := [(2, .int (nI y_z)), (3, .int (nI (x_z % y_z))), (4, .int (nI (i_z + 1))), (0, .int a0), (1, .int b0)]) rfl ?_
          exact ih_z y_z (x_z % y_z) (i_z + 1) a0 b0 (by omega) (by omega) (by omega) (by rw [← hg_z, Nat.gcd_comm y_z, ← Nat.gcd_rec, Nat.gcd_comm])
  refine Zgo hX 6 rfl (by (first | exact True.intro | assumption | (dsimp only [ZallP]; and_intros <;> (first | assumption | decide | omega | ((try simp (disch := omega) only [pk_mul, nI_add, Zcl_n]); exact Zin_n (by omega) (by decide)))))) ?_
  refine Zs_sub (l' := [(2, .int (nI a_z)), (3, .int (nI b_z)), (4, .int (nI 0)), (0, .int (nI a_z)), (1, .int (nI b_z))]) rfl ?_
  exact L (b_z + 1) a_z b_z 0 (nI a_z) (nI b_z) (by omega) (by omega) ha_z rfl

set_option maxRecDepth 20000 in
set_option maxHeartbeats 1000000 in
theorem s_gcd (a_z b_z : Nat) (M : Zmem) (ha_z : a_z ≤ 60) (hb_z : b_z ≤ 60) : ZC 110 0 [.int (nI a_z), .int (nI b_z)] M (fun r_z M' => r_z = some (.int (nI (Nat.gcd a_z b_z))) ∧ M = M') := by
  refine ZC_of Zt110 Zk110 (Nat.le_of_ble_eq_true rfl) (by decide) rfl (fun X hX hE => ?_)
  have L : ∀ (q_z x_z y_z : Nat) (a0 b0 : Int32), y_z < q_z → y_z ≤ 60 → x_z ≤ 60 → Nat.gcd x_z y_z = Nat.gcd a_z b_z → ZP X Zt110 (Zsf Zt110 4) [(2, .int (nI x_z)), (3, .int (nI y_z)), (0, .int a0), (1, .int b0)] [] M := by
    intro q_z
    induction q_z with
    | zero => intro x_z y_z a0 b0 hq_z; exact absurd hq_z (Nat.not_lt_zero _)
    | succ q_z ih_z =>
      intro x_z y_z a0 b0 hq_z hi_z hx_z hg_z
      refine Zgo hX 1 rfl (by (first | exact True.intro | assumption | (dsimp only [ZallP]; and_intros <;> (first | assumption | decide | omega | ((try simp (disch := omega) only [pk_mul, nI_add, Zcl_n]); exact Zin_n (by omega) (by decide)))))) ?_
      refine Zs_eq hX (List.cons_ne_nil _ _) (fun h2_z => ?_) (fun h2_z => ?_)
      · obtain rfl : y_z = 0 := Zeq (b_z := 0) (by omega) (by decide) h2_z
        refine Zgo hX 1 rfl (by (first | exact True.intro | assumption | (dsimp only [ZallP]; and_intros <;> (first | assumption | decide | omega | ((try simp (disch := omega) only [pk_mul, nI_add, Zcl_n]); exact Zin_n (by omega) (by decide)))))) ?_
        refine Zs_ret hX hE rfl ⟨by rw [← hg_z, Nat.gcd_zero_right], rfl⟩
      · have hy : y_z ≠ 0 := fun q_z => h2_z (by rw [q_z]; rfl)
        have hlt := Nat.mod_lt x_z (Nat.pos_of_ne_zero hy)
        refine Zgo hX 9 rfl (by show ¬ nI y_z = nI 0; exact fun q_z => hy (Zeq (by omega) (by decide) q_z)) ?_
        rw [pk_rem (by omega) (by omega) (by omega)]
        refine Zs_sub (l' := [(2, .int (nI y_z)), (3, .int (nI (x_z % y_z))), (0, .int a0), (1, .int b0)]) rfl ?_
        exact ih_z y_z (x_z % y_z) a0 b0 (by omega) (by omega) (by omega) (by rw [← hg_z, Nat.gcd_comm y_z, ← Nat.gcd_rec, Nat.gcd_comm])
  refine Zgo hX 4 rfl (by (first | exact True.intro | assumption | (dsimp only [ZallP]; and_intros <;> (first | assumption | decide | omega | ((try simp (disch := omega) only [pk_mul, nI_add, Zcl_n]); exact Zin_n (by omega) (by decide)))))) ?_
  refine Zs_sub (l' := [(2, .int (nI a_z)), (3, .int (nI b_z)), (0, .int (nI a_z)), (1, .int (nI b_z))]) rfl ?_
  exact L (b_z + 1) a_z b_z (nI a_z) (nI b_z) (by omega) hb_z ha_z rfl


/-- the least that rows hold, 999 at most -/
def Zlh (f_z : Nat → Int32) : Nat → Nat
  | 0 => 999
  | i_z + 1 => if (Zhb f_z i_z (nI 0)).toNatClampNeg < Zlh f_z i_z then (Zhb f_z i_z (nI 0)).toNatClampNeg else Zlh f_z i_z
theorem Zlh_le (f_z : Nat → Int32) : ∀ i_z, Zlh f_z i_z ≤ 999 := by
  intro i_z
  induction i_z with
  | zero => exact Nat.le_refl _
  | succ i_z ih_z => rw [Zlh]; split <;> omega
theorem Zhb_n (f_z : Nat → Int32) (i_z : Nat) (more : Int32) : Zhb f_z i_z more = nI (Zhb f_z i_z more).toNatClampNeg ∧ (Zhb f_z i_z more).toNatClampNeg ≤ 999 := by
  have h_z := Zhb_b f_z i_z more
  obtain ⟨j_z, h1_z, h2_z, h3_z⟩ := Zof h_z.1
  rw [h2_z, Zcl_n h1_z]
  exact ⟨rfl, by omega⟩
theorem Zlh_k (f_z : Nat → Int32) (i_z : Nat) : (if Zhb f_z i_z (nI 0) < nI (Zlh f_z i_z) then Zhb f_z i_z (nI 0) else nI (Zlh f_z i_z)) = nI (Zlh f_z (i_z + 1)) := by
  obtain ⟨h1_z, h2_z⟩ := Zhb_n f_z i_z (nI 0)
  have h3_z := Zlh_le f_z i_z
  rw [Zlh]
  by_cases c_z : (Zhb f_z i_z (nI 0)).toNatClampNeg < Zlh f_z i_z
  · rw [if_pos c_z, if_pos (by rw [h1_z]; exact (Zn_lt (by omega) (by omega)).mpr c_z)]
    exact h1_z
  · rw [if_neg c_z, if_neg (by rw [h1_z]; exact fun q_z => c_z ((Zn_lt (by omega) (by omega)).mp q_z))]

set_option maxRecDepth 20000 in
set_option maxHeartbeats 1000000 in
theorem k_leastHolds (f_z : Nat → Int32) (n_z : Nat) (M : Zmem) (hz_z : Zrv 1 f_z M) (hfi : Zfi f_z) (hn_z : f_z 7 = nI n_z) (hn2 : n_z ≤ 15) : ZC 173 4 [.ref 1] M (fun r_z M' => r_z = some (.int (nI (Zlh f_z n_z))) ∧ Sc M M') := by
  refine ZC_of Zt173 Zk173 (Nat.le_of_ble_eq_true rfl) (by decide) rfl (fun X hX hE => ?_)
  have L : ∀ (q_z i_z : Nat) (M1 : Zmem), i_z + q_z = n_z → Sc M M1 → ZP X Zt173 (Zsf Zt173 6) [(1, .int (nI (Zlh f_z i_z))), (2, .int (nI i_z)), (0, .ref 1)] [] M1 := by
    intro q_z
    induction q_z with
    | zero =>
      intro i_z M1 hi_z hsc
      obtain rfl : i_z = n_z := by omega
      refine Zgo hX 3 rfl (by (first | exact True.intro | assumption | (dsimp only [ZallP]; and_intros <;> (first | assumption | decide | omega | ((try simp (disch := omega) only [pk_mul, nI_add, Zcl_n]); exact Zin_n (by omega) (by decide)))))) ?_
      rw [(hz_z.sc (Or.inl rfl) hsc).n hn_z]
      refine Zs_ige hX (List.cons_ne_nil _ _) (fun h_z => ?_) (fun h_z => ?_)
      · refine Zgo hX 1 rfl (by (first | exact True.intro | assumption | (dsimp only [ZallP]; and_intros <;> (first | assumption | decide | omega | ((try simp (disch := omega) only [pk_mul, nI_add, Zcl_n]); exact Zin_n (by omega) (by decide)))))) ?_
        refine Zs_ret hX hE rfl ⟨rfl, hsc⟩
      · exact absurd (Int32.le_refl _) h_z
    | succ q_z ih_z =>
      intro i_z M1 hi_z hsc
      have hz1 := hz_z.sc (Or.inl rfl) hsc
      refine Zgo hX 3 rfl (by (first | exact True.intro | assumption | (dsimp only [ZallP]; and_intros <;> (first | assumption | decide | omega | ((try simp (disch := omega) only [pk_mul, nI_add, Zcl_n]); exact Zin_n (by omega) (by decide)))))) ?_
      rw [hz1.n hn_z]
      refine Zs_ige hX (List.cons_ne_nil _ _) (fun h_z => ?_) (fun h_z => ?_)
      · exact absurd ((Zn_le (by omega) (by omega)).mp h_z) (by omega)
      · refine Zgo hX 4 rfl (by (first | exact True.intro | assumption | (dsimp only [ZallP]; and_intros <;> (first | assumption | decide | omega | ((try simp (disch := omega) only [pk_mul, nI_add, Zcl_n]); exact Zin_n (by omega) (by decide)))))) ?_
        refine Zs_callv hX (List.cons_ne_nil _ _) (k_holdsR (nI 0) hz1 hfi hn_z hn2 (show i_z < n_z by omega)) (by first | decide | omega) (by decide) rfl rfl rfl (by decide) (Nat.le_of_ble_eq_true rfl) (fun r_z M' hc_z => ?_)
        obtain ⟨rfl, hs2⟩ := hc_z
        refine Zs_calls hX (List.cons_ne_nil _ _) (by decide) (c_min _ _ _) (by first | decide | omega) rfl rfl (by decide) (Nat.le_of_ble_eq_true rfl) (fun r_z M' hc_z => ?_)
        obtain ⟨rfl, rfl⟩ := hc_z
        rw [Zlh_k f_z i_z]
        refine Zgo hX 3 rfl (by (first | exact True.intro | assumption | (dsimp only [ZallP]; and_intros <;> (first | assumption | decide | omega | ((try simp (disch := omega) only [pk_mul, nI_add, Zcl_n]); exact Zin_n (by omega) (by decide)))))) ?_
        rw [nI_add]
        refine Zs_sub (l' := [(1, .int (nI (Zlh f_z (i_z + 1)))), (2, .int (nI (i_z + 1))), (0, .ref 1)]) rfl ?_
        exact ih_z (i_z + 1) _ (by omega) (hsc.tr hs2.sc)
  refine Zgo hX 4 rfl (by (first | exact True.intro | assumption | (dsimp only [ZallP]; and_intros <;> (first | assumption | decide | omega | ((try simp (disch := omega) only [pk_mul, nI_add, Zcl_n]); exact Zin_n (by omega) (by decide)))))) ?_
  refine Zs_sub (l' := [(1, .int (nI (Zlh f_z 0))), (2, .int (nI 0)), (0, .ref 1)]) rfl ?_
  exact L n_z 0 M (by omega) (Sc.rf _)


def Zdry (f_z : Nat → Int32) (n_z : Nat) : Nat := if Zlh f_z n_z + 1 < 50 then Zlh f_z n_z + 1 else 50
def Fodds (f_z : Nat → Int32) (n_z : Nat) (part : Int32) : Int32 := if nI 0 ≤ part ∧ part ≤ nI 1 then nI ((if part = 0 then Zdry f_z n_z else 50) / Nat.gcd 50 (Zdry f_z n_z)) else Er 1
theorem Zdry_b (f_z : Nat → Int32) (n_z : Nat) : 1 ≤ Zdry f_z n_z ∧ Zdry f_z n_z ≤ 50 := by
  unfold Zdry
  split <;> omega

set_option maxRecDepth 20000 in
set_option maxHeartbeats 1000000 in
theorem k_odds (f_z : Nat → Int32) (n_z : Nat) (part : Int32) (M : Zmem) (hz_z : Zrv 1 f_z M) (hfi : Zfi f_z) (hn_z : f_z 7 = nI n_z) (hn2 : n_z ≤ 15) : ZC 22 5 [.ref 0, .int part] M (fun r_z M' => r_z = some (.int (Fodds f_z n_z part)) ∧ Sc M M') := by
  refine ZC_of Zt22 Zk22 (Nat.le_of_ble_eq_true rfl) (by decide) rfl (fun X hX hE => ?_)
  refine Zgo hX 3 rfl (by (first | exact True.intro | assumption | (dsimp only [ZallP]; and_intros <;> (first | assumption | decide | omega | ((try simp (disch := omega) only [pk_mul, nI_add, Zcl_n]); exact Zin_n (by omega) (by decide)))))) ?_
  refine Zs_calls hX (List.cons_ne_nil _ _) (by decide) (k_within _ _ _ _) (by first | decide | omega) rfl rfl (by decide) (Nat.le_of_ble_eq_true rfl) (fun r_z M' hc_z => ?_)
  rcases hc_z with ⟨⟨rfl, h1_z⟩ | ⟨rfl, h1_z⟩, rfl⟩
  · refine Zs_ne hX (List.cons_ne_nil _ _) (fun _ => ?_) (fun q_z => False.elim (by revert q_z; decide))
    refine Zgo hX 5 rfl (by (first | exact True.intro | assumption | (dsimp only [ZallP]; and_intros <;> (first | assumption | decide | omega | ((try simp (disch := omega) only [pk_mul, nI_add, Zcl_n]); exact Zin_n (by omega) (by decide)))))) ?_
    refine Zs_callv hX (List.cons_ne_nil _ _) (k_leastHolds f_z n_z M hz_z hfi hn_z hn2) (by first | decide | omega) (by decide) rfl rfl rfl (by decide) (Nat.le_of_ble_eq_true rfl) (fun r_z M' hc_z => ?_)
    obtain ⟨rfl, hsc⟩ := hc_z
    refine Zgo hX 2 rfl (by (first | exact True.intro | assumption | (dsimp only [ZallP]; and_intros <;> (first | assumption | decide | omega | ((try simp (disch := omega) only [pk_mul, nI_add, Zcl_n]); exact Zin_n (by omega) (by decide)))))) ?_
    rw [nI_add]
    refine Zs_calls hX (List.cons_ne_nil _ _) (by decide) (c_min _ _ _) (by first | decide | omega) rfl rfl (by decide) (Nat.le_of_ble_eq_true rfl) (fun r_z M' hc_z => ?_)
    obtain ⟨rfl, rfl⟩ := hc_z
    have hl_z := Zlh_le f_z n_z
    have hd_z := Zdry_b f_z n_z
    have ed : (if nI (Zlh f_z n_z + 1) < nI 50 then nI (Zlh f_z n_z + 1) else nI 50) = nI (Zdry f_z n_z) := by
      unfold Zdry
      by_cases c_z : Zlh f_z n_z + 1 < 50
      · rw [if_pos c_z, if_pos ((Zn_lt (by omega) (by omega)).mpr c_z)]
      · rw [if_neg c_z, if_neg (fun q_z => c_z ((Zn_lt (by omega) (by omega)).mp q_z))]
    rw [ed]
    have hg1 : 0 < Nat.gcd 50 (Zdry f_z n_z) := Nat.gcd_pos_of_pos_left _ (by decide)
    have hg2 : Nat.gcd 50 (Zdry f_z n_z) ≤ 50 := Nat.gcd_le_left _ (by decide)
    refine Zgo hX 3 rfl (by (first | exact True.intro | assumption | (dsimp only [ZallP]; and_intros <;> (first | assumption | decide | omega | ((try simp (disch := omega) only [pk_mul, nI_add, Zcl_n]); exact Zin_n (by omega) (by decide)))))) ?_
    refine Zs_calls hX (List.cons_ne_nil _ _) (by decide) (k_gcd 50 (Zdry f_z n_z) _ (by decide) (by omega)) (by first | decide | omega) rfl rfl (by decide) (Nat.le_of_ble_eq_true rfl) (fun r_z M' hc_z => ?_)
    obtain ⟨rfl, rfl⟩ := hc_z
    have np : ¬ nI (Nat.gcd 50 (Zdry f_z n_z)) ≤ 0 := fun q_z => absurd ((Zn_le (b_z := 0) (by omega) (by decide)).mp q_z) (by omega)
    have n0_z : ¬ nI (Nat.gcd 50 (Zdry f_z n_z)) = nI 0 := fun q_z => absurd (Zeq (by omega) (by decide) q_z) (by omega)
    refine Zgo hX 2 rfl (by (first | exact True.intro | assumption | (dsimp only [ZallP]; and_intros <;> (first | assumption | decide | omega | ((try simp (disch := omega) only [pk_mul, nI_add, Zcl_n]); exact Zin_n (by omega) (by decide)))))) ?_
    refine Zs_ne hX (List.cons_ne_nil _ _) (fun h2_z => ?_) (fun h2_z => ?_)
    · refine Zgo hX 2 rfl (by (first | exact True.intro | assumption | (dsimp only [ZallP]; and_intros <;> (first | assumption | decide | omega | ((try simp (disch := omega) only [pk_mul, nI_add, Zcl_n]); exact Zin_n (by omega) (by decide)))))) ?_
      refine Zs_le hX (List.cons_ne_nil _ _) (fun q_z => False.elim ((np q_z))) (fun _ => ?_)
      refine Zgo hX 3 rfl n0_z ?_
      rw [pk_div (by decide) hg1 (by omega)]
      refine Zs_ret hX hE rfl ⟨by rw [Fodds, if_pos h1_z, if_neg h2_z], hsc⟩
    · refine Zgo hX 3 rfl (by (first | exact True.intro | assumption | (dsimp only [ZallP]; and_intros <;> (first | assumption | decide | omega | ((try simp (disch := omega) only [pk_mul, nI_add, Zcl_n]); exact Zin_n (by omega) (by decide)))))) ?_
      refine Zs_le hX (List.cons_ne_nil _ _) (fun q_z => False.elim ((np q_z))) (fun _ => ?_)
      refine Zgo hX 3 rfl n0_z ?_
      rw [pk_div (by omega) hg1 (by omega)]
      refine Zs_ret hX hE rfl ⟨by rw [Fodds, if_pos h1_z, if_pos h2_z], hsc⟩
  · refine Zs_ne hX (List.cons_ne_nil _ _) (fun q_z => False.elim (by revert q_z; decide)) (fun _ => ?_)
    refine Zgo hX 2 rfl (by (first | exact True.intro | assumption | (dsimp only [ZallP]; and_intros <;> (first | assumption | decide | omega | ((try simp (disch := omega) only [pk_mul, nI_add, Zcl_n]); exact Zin_n (by omega) (by decide)))))) ?_
    refine Zs_callv hX (List.cons_ne_nil _ _) (k_refuse 1 _ (by decide)) (by first | decide | omega) (by decide) rfl rfl rfl (by decide) (Nat.le_of_ble_eq_true rfl) (fun r_z M' hc_z => ?_)
    obtain ⟨rfl, hsc⟩ := hc_z
    refine Zs_ret hX hE rfl ⟨by rw [Fodds, if_neg h1_z], hsc⟩


/-- by how many of WATER 0 .. i_z - 1 no row_z floods -/
def Zgo_ (f_z : Nat → Int32) (n_z : Nat) : Nat → Nat
  | 0 => 0
  | i_z + 1 => Zgo_ f_z n_z i_z + (if Zfn f_z (nI i_z) (nI 0) n_z = 0 then 1 else 0)
theorem Zgo_le (f_z : Nat → Int32) (n_z : Nat) : ∀ i_z, Zgo_ f_z n_z i_z ≤ i_z := by
  intro i_z
  induction i_z with
  | zero => exact Nat.le_refl _
  | succ i_z ih_z => rw [Zgo_]; split <;> omega
def Godds (f_z : Nat → Int32) (n_z : Nat) (part : Int32) : Int32 := if nI 0 ≤ part ∧ part ≤ nI 1 then nI ((if part = 0 then Zgo_ f_z n_z 50 else 50) / Nat.gcd (Zgo_ f_z n_z 50) 50) else Er 1

set_option maxRecDepth 20000 in
set_option maxHeartbeats 1000000 in
theorem s_odds (n_z : Nat) (part : Int32) (M : Zmem) (hfi : Zfi (M 54)) (hn_z : M 54 7 = nI n_z) (hn2 : n_z ≤ 15) : ZC 111 5 [.ref 53, .int part] M (fun r_z M' => r_z = some (.int (Godds (M 54) n_z part)) ∧ Sc M M') := by
  refine ZC_of Zt111 Zk111 (Nat.le_of_ble_eq_true rfl) (by decide) rfl (fun X hX hE => ?_)
  refine Zgo hX 3 rfl (by (first | exact True.intro | assumption | (dsimp only [ZallP]; and_intros <;> (first | assumption | decide | omega | ((try simp (disch := omega) only [pk_mul, nI_add, Zcl_n]); exact Zin_n (by omega) (by decide)))))) ?_
  refine Zs_calls hX (List.cons_ne_nil _ _) (by decide) (s_in _ _ _ _) (by first | decide | omega) rfl rfl (by decide) (Nat.le_of_ble_eq_true rfl) (fun r_z M' hc_z => ?_)
  rcases hc_z with ⟨⟨rfl, h1_z⟩ | ⟨rfl, h1_z⟩, rfl⟩
  · refine Zs_ne hX (List.cons_ne_nil _ _) (fun _ => ?_) (fun q_z => False.elim (by revert q_z; decide))
    have hg0 := Zgo_le (M 54) n_z 50
    have hg1 : 0 < Nat.gcd (Zgo_ (M 54) n_z 50) 50 := Nat.gcd_pos_of_pos_right _ (by decide)
    have hg2 : Nat.gcd (Zgo_ (M 54) n_z 50) 50 ≤ 50 := Nat.gcd_le_right _ (by decide)
    have n0_z : ¬ nI (Nat.gcd (Zgo_ (M 54) n_z 50) 50) = nI 0 := fun q_z => absurd (Zeq (by omega) (by decide) q_z) (by omega)
    have L : ∀ (q_z i_z : Nat) (M1 : Zmem), i_z + q_z = 50 → Sc M M1 → ZP X Zt111 (Zsf Zt111 19) [(2, .int (nI (Zgo_ (M 54) n_z i_z))), (3, .int (nI i_z)), (0, .ref 53), (1, .int part)] [] M1 := by
      intro q_z
      induction q_z with
      | zero =>
        intro i_z M1 hi_z hsc
        obtain rfl : i_z = 50 := by omega
        refine Zgo hX 2 rfl (by (first | exact True.intro | assumption | (dsimp only [ZallP]; and_intros <;> (first | assumption | decide | omega | ((try simp (disch := omega) only [pk_mul, nI_add, Zcl_n]); exact Zin_n (by omega) (by decide)))))) ?_
        refine Zs_ige hX (List.cons_ne_nil _ _) (fun h_z => ?_) (fun h_z => ?_)
        · refine Zgo hX 2 rfl (by (first | exact True.intro | assumption | (dsimp only [ZallP]; and_intros <;> (first | assumption | decide | omega | ((try simp (disch := omega) only [pk_mul, nI_add, Zcl_n]); exact Zin_n (by omega) (by decide)))))) ?_
          refine Zs_calls hX (List.cons_ne_nil _ _) (by decide) (s_gcd (Zgo_ (M 54) n_z 50) 50 _ (by omega) (by decide)) (by first | decide | omega) rfl rfl (by decide) (Nat.le_of_ble_eq_true rfl) (fun r_z M' hc_z => ?_)
          obtain ⟨rfl, rfl⟩ := hc_z
          refine Zgo hX 2 rfl (by (first | exact True.intro | assumption | (dsimp only [ZallP]; and_intros <;> (first | assumption | decide | omega | ((try simp (disch := omega) only [pk_mul, nI_add, Zcl_n]); exact Zin_n (by omega) (by decide)))))) ?_
          refine Zs_ne hX (List.cons_ne_nil _ _) (fun h2_z => ?_) (fun h2_z => ?_)
          · refine Zgo hX 3 rfl n0_z ?_
            rw [pk_div (by decide) hg1 (by omega)]
            refine Zs_ret hX hE rfl ⟨by rw [Godds, if_pos h1_z, if_neg h2_z], hsc⟩
          · refine Zgo hX 4 rfl n0_z ?_
            rw [pk_div (by omega) hg1 (by omega)]
            refine Zs_ret hX hE rfl ⟨by rw [Godds, if_pos h1_z, if_pos h2_z], hsc⟩
        · exact absurd (Int32.le_refl _) h_z
      | succ q_z ih_z =>
        intro i_z M1 hi_z hsc
        refine Zgo hX 2 rfl (by (first | exact True.intro | assumption | (dsimp only [ZallP]; and_intros <;> (first | assumption | decide | omega | ((try simp (disch := omega) only [pk_mul, nI_add, Zcl_n]); exact Zin_n (by omega) (by decide)))))) ?_
        refine Zs_ige hX (List.cons_ne_nil _ _) (fun h_z => ?_) (fun h_z => ?_)
        · exact absurd ((Zn_le (by omega) (by omega)).mp h_z) (by omega)
        · refine Zgo hX 3 rfl (by (first | exact True.intro | assumption | (dsimp only [ZallP]; and_intros <;> (first | assumption | decide | omega | ((try simp (disch := omega) only [pk_mul, nI_add, Zcl_n]); exact Zin_n (by omega) (by decide)))))) ?_
          refine Zs_callv hX (List.cons_ne_nil _ _) (s_letDown n_z (nI i_z) (nI 0) M1 (by rw [hsc.f54]; exact hfi) (by rw [hsc.f54]; exact hn_z) hn2) (by first | decide | omega) (by decide) rfl rfl rfl (by decide) (Nat.le_of_ble_eq_true rfl) (fun r_z M' hc_z => ?_)
          obtain ⟨rfl, hsc2, hfl, -⟩ := hc_z
          rw [hsc.f54] at hfl
          have hF : Zfn (M 54) (nI i_z) (nI 0) n_z < 2 ^ 31 := Nat.lt_of_lt_of_le (Zfn_lt (M 54) (nI i_z) (nI 0) n_z) (Nat.le_trans (Z2p hn2) (by decide))
          refine Zgo hX 3 rfl (by (first | exact True.intro | assumption | (dsimp only [ZallP]; and_intros <;> (first | assumption | decide | omega | ((try simp (disch := omega) only [pk_mul, nI_add, Zcl_n]); exact Zin_n (by omega) (by decide)))))) ?_
          rw [hfl]
          refine Zs_ne hX (List.cons_ne_nil _ _) (fun h2_z => ?_) (fun h2_z => ?_)
          · have n9 : Zfn (M 54) (nI i_z) (nI 0) n_z ≠ 0 := fun q_z => h2_z (by rw [q_z]; rfl)
            refine Zgo hX 5 rfl (by (first | exact True.intro | assumption | (dsimp only [ZallP]; and_intros <;> (first | assumption | decide | omega | ((try simp (disch := omega) only [pk_mul, nI_add, Zcl_n]); exact Zin_n (by omega) (by decide)))))) ?_
            rw [nI_add, nI_add]
            refine Zs_sub (l' := [(2, .int (nI (Zgo_ (M 54) n_z (i_z + 1)))), (3, .int (nI (i_z + 1))), (0, .ref 53), (1, .int part)]) (by rw [Zgo_, if_neg n9]; rfl) ?_
            exact ih_z (i_z + 1) _ (by omega) (hsc.tr hsc2)
          · have n9 : Zfn (M 54) (nI i_z) (nI 0) n_z = 0 := Zeq (b_z := 0) hF (by decide) h2_z
            refine Zgo hX 6 rfl (by (first | exact True.intro | assumption | (dsimp only [ZallP]; and_intros <;> (first | assumption | decide | omega | ((try simp (disch := omega) only [pk_mul, nI_add, Zcl_n]); exact Zin_n (by omega) (by decide)))))) ?_
            rw [nI_add, nI_add]
            refine Zs_sub (l' := [(2, .int (nI (Zgo_ (M 54) n_z (i_z + 1)))), (3, .int (nI (i_z + 1))), (0, .ref 53), (1, .int part)]) (by rw [Zgo_, if_pos n9]; rfl) ?_
            exact ih_z (i_z + 1) _ (by omega) (hsc.tr hsc2)
    refine Zgo hX 4 rfl (by (first | exact True.intro | assumption | (dsimp only [ZallP]; and_intros <;> (first | assumption | decide | omega | ((try simp (disch := omega) only [pk_mul, nI_add, Zcl_n]); exact Zin_n (by omega) (by decide)))))) ?_
    refine Zs_sub (l' := [(2, .int (nI (Zgo_ (M 54) n_z 0))), (3, .int (nI 0)), (0, .ref 53), (1, .int part)]) rfl ?_
    exact L 50 0 M rfl (Sc.rf _)
  · refine Zs_ne hX (List.cons_ne_nil _ _) (fun q_z => False.elim (by revert q_z; decide)) (fun _ => ?_)
    refine Zgo hX 2 rfl (by (first | exact True.intro | assumption | (dsimp only [ZallP]; and_intros <;> (first | assumption | decide | omega | ((try simp (disch := omega) only [pk_mul, nI_add, Zcl_n]); exact Zin_n (by omega) (by decide)))))) ?_
    refine Zs_callv hX (List.cons_ne_nil _ _) (s_error 1 _ (by decide)) (by first | decide | omega) (by decide) rfl rfl rfl (by decide) (Nat.le_of_ble_eq_true rfl) (fun r_z M' hc_z => ?_)
    obtain ⟨rfl, hsc⟩ := hc_z
    refine Zs_ret hX hE rfl ⟨by rw [Godds, if_neg h1_z], hsc⟩

set_option maxRecDepth 20000 in
set_option maxHeartbeats 1000000 in
theorem k_comes0 (f_z : Nat → Int32) (n_z : Nat) (water : Int32) (s_z : Nat) (M : Zmem) (hz_z : Zrv 1 f_z M) (hfi : Zfi f_z) (hn_z : f_z 7 = nI n_z) (hn2 : n_z ≤ 15) (hs_z : M 45 2 = nI s_z) (hs24 : s_z ≤ 24) : ZC 45 5 [.ref 0, .int water, .ref 45] M (fun r_z M' => Zb r_z (s_z ≤ n_z + 1 ∧ ∀ i_z, i_z < s_z → M 46 i_z = Zcm f_z water (nI 0) i_z) ∧ Sc M M') := by
  refine ZC_of Zt45 Zk45 (Nat.le_of_ble_eq_true rfl) (by decide) rfl (fun X hX hE => ?_)
  refine Zgo hX 4 rfl (by (first | exact True.intro | assumption | (dsimp only [ZallP]; and_intros <;> (first | assumption | decide | omega | ((try simp (disch := omega) only [pk_mul, nI_add, Zcl_n]); exact Zin_n (by omega) (by decide)))))) ?_
  refine Zs_callv hX (List.cons_ne_nil _ _) (k_waters f_z n_z water (nI 0) M hz_z hfi hn_z hn2) (by first | decide | omega) (by decide) rfl rfl rfl (by decide) (Nat.le_of_ble_eq_true rfl) (fun r_z M' hc_z => ?_)
  obtain ⟨rfl, hsc, hco⟩ := hc_z
  have L : ∀ (q_z i_z : Nat), i_z + q_z = s_z → (∀ j_z, j_z < i_z → j_z ≤ n_z ∧ M 46 j_z = Zcm f_z water (nI 0) j_z) → ZP X Zt45 (Zsf Zt45 12) [(3, .int (nI i_z)), (0, .ref 0), (2, .ref 45)] [] M' := by
    intro q_z
    induction q_z with
    | zero =>
      intro i_z hi_z hj_z
      obtain rfl : i_z = s_z := by omega
      refine Zgo hX 3 rfl (by (first | exact True.intro | assumption | (dsimp only [ZallP]; and_intros <;> (first | assumption | decide | omega | ((try simp (disch := omega) only [pk_mul, nI_add, Zcl_n]); exact Zin_n (by omega) (by decide)))))) ?_
      rw [show M' 45 2 = nI i_z by rw [hsc 45 2 rfl]; exact hs_z]
      refine Zs_ige hX (List.cons_ne_nil _ _) (fun h_z => ?_) (fun h_z => ?_)
      · refine Zgo hX 1 rfl (by (first | exact True.intro | assumption | (dsimp only [ZallP]; and_intros <;> (first | assumption | decide | omega | ((try simp (disch := omega) only [pk_mul, nI_add, Zcl_n]); exact Zin_n (by omega) (by decide)))))) ?_
        refine Zs_retz hX hE rfl (by first | exact Or.inl rfl | exact Or.inr rfl) ⟨Or.inl ⟨rfl, by rcases Nat.eq_zero_or_pos i_z with e_z | e_z <;> first | omega | (have := (hj_z (i_z - 1) (by omega)).1; omega), fun j_z h_z => (hj_z j_z h_z).2⟩, hsc⟩
      · exact absurd (Int32.le_refl _) h_z
    | succ q_z ih_z =>
      intro i_z hi_z hj_z
      refine Zgo hX 3 rfl (by (first | exact True.intro | assumption | (dsimp only [ZallP]; and_intros <;> (first | assumption | decide | omega | ((try simp (disch := omega) only [pk_mul, nI_add, Zcl_n]); exact Zin_n (by omega) (by decide)))))) ?_
      rw [show M' 45 2 = nI s_z by rw [hsc 45 2 rfl]; exact hs_z]
      refine Zs_ige hX (List.cons_ne_nil _ _) (fun h_z => ?_) (fun h_z => ?_)
      · exact absurd ((Zn_le (by omega) (by omega)).mp h_z) (by omega)
      · refine Zgo hX 4 rfl (by (first | exact True.intro | assumption | (dsimp only [ZallP]; and_intros <;> (first | assumption | decide | omega | ((try simp (disch := omega) only [pk_mul, nI_add, Zcl_n]); exact Zin_n (by omega) (by decide)))))) ?_
        rw [(hz_z.sc (Or.inl rfl) hsc).n hn_z]
        refine Zs_igt hX (List.cons_ne_nil _ _) (fun h2_z => ?_) (fun h2_z => ?_)
        · have := (Zn_lt (by omega) (by omega)).mp h2_z
          refine Zgo hX 1 rfl (by (first | exact True.intro | assumption | (dsimp only [ZallP]; and_intros <;> (first | assumption | decide | omega | ((try simp (disch := omega) only [pk_mul, nI_add, Zcl_n]); exact Zin_n (by omega) (by decide)))))) ?_
          refine Zs_retz hX hE rfl (by first | exact Or.inl rfl | exact Or.inr rfl) ⟨Or.inr ⟨rfl, fun q_z => by omega⟩, hsc⟩
        · have hin : i_z ≤ n_z := (Nat.lt_or_ge n_z i_z).elim (fun q_z => absurd ((Zn_lt (by omega) (by omega)).mpr q_z) h2_z) id
          refine Zgo hX 9 rfl (by dsimp only [ZallP]; exact ⟨Zin_n (by omega) (by decide), Zin_n (by omega) (by decide)⟩) ?_
          rw [Zcl_n (show i_z < 2 ^ 31 by omega), hco i_z hin, show M' 46 i_z = M 46 i_z from hsc 46 i_z rfl]
          refine Zs_ieq hX (List.cons_ne_nil _ _) (fun h3_z => ?_) (fun h3_z => ?_)
          · refine Zgo hX 2 rfl (by (first | exact True.intro | assumption | (dsimp only [ZallP]; and_intros <;> (first | assumption | decide | omega | ((try simp (disch := omega) only [pk_mul, nI_add, Zcl_n]); exact Zin_n (by omega) (by decide)))))) ?_
            rw [nI_add]
            refine Zs_sub (l' := [(3, .int (nI (i_z + 1))), (0, .ref 0), (2, .ref 45)]) rfl ?_
            refine ih_z (i_z + 1) (by omega) (fun j_z h_z => ?_)
            by_cases e_z : j_z = i_z
            · subst e_z; exact ⟨hin, h3_z⟩
            · exact hj_z j_z (by omega)
          · refine Zgo hX 1 rfl (by (first | exact True.intro | assumption | (dsimp only [ZallP]; and_intros <;> (first | assumption | decide | omega | ((try simp (disch := omega) only [pk_mul, nI_add, Zcl_n]); exact Zin_n (by omega) (by decide)))))) ?_
            refine Zs_retz hX hE rfl (by first | exact Or.inl rfl | exact Or.inr rfl) ⟨Or.inr ⟨rfl, fun q_z => h3_z (q_z.2 i_z (by omega))⟩, hsc⟩
  refine Zgo hX 3 rfl (by (first | exact True.intro | assumption | (dsimp only [ZallP]; and_intros <;> (first | assumption | decide | omega | ((try simp (disch := omega) only [pk_mul, nI_add, Zcl_n]); exact Zin_n (by omega) (by decide)))))) ?_
  refine Zs_sub (l' := [(3, .int (nI 0)), (0, .ref 0), (2, .ref 45)]) rfl ?_
  exact L s_z 0 (by omega) (fun j_z h_z => absurd h_z (Nat.not_lt_zero _))

set_option maxRecDepth 20000 in
set_option maxHeartbeats 1000000 in
theorem k_comes1 (f_z : Nat → Int32) (n_z : Nat) (water : Int32) (s_z : Nat) (M : Zmem) (hz_z : Zrv 1 f_z M) (hfi : Zfi f_z) (hn_z : f_z 7 = nI n_z) (hn2 : n_z ≤ 15) (hs_z : M 47 2 = nI s_z) (hs24 : s_z ≤ 24) : ZC 45 5 [.ref 0, .int water, .ref 47] M (fun r_z M' => Zb r_z (s_z ≤ n_z + 1 ∧ ∀ i_z, i_z < s_z → M 48 i_z = Zcm f_z water (nI 0) i_z) ∧ Sc M M') := by
  refine ZC_of Zt45 Zk45 (Nat.le_of_ble_eq_true rfl) (by decide) rfl (fun X hX hE => ?_)
  refine Zgo hX 4 rfl (by (first | exact True.intro | assumption | (dsimp only [ZallP]; and_intros <;> (first | assumption | decide | omega | ((try simp (disch := omega) only [pk_mul, nI_add, Zcl_n]); exact Zin_n (by omega) (by decide)))))) ?_
  refine Zs_callv hX (List.cons_ne_nil _ _) (k_waters f_z n_z water (nI 0) M hz_z hfi hn_z hn2) (by first | decide | omega) (by decide) rfl rfl rfl (by decide) (Nat.le_of_ble_eq_true rfl) (fun r_z M' hc_z => ?_)
  obtain ⟨rfl, hsc, hco⟩ := hc_z
  have L : ∀ (q_z i_z : Nat), i_z + q_z = s_z → (∀ j_z, j_z < i_z → j_z ≤ n_z ∧ M 48 j_z = Zcm f_z water (nI 0) j_z) → ZP X Zt45 (Zsf Zt45 12) [(3, .int (nI i_z)), (0, .ref 0), (2, .ref 47)] [] M' := by
    intro q_z
    induction q_z with
    | zero =>
      intro i_z hi_z hj_z
      obtain rfl : i_z = s_z := by omega
      refine Zgo hX 3 rfl (by (first | exact True.intro | assumption | (dsimp only [ZallP]; and_intros <;> (first | assumption | decide | omega | ((try simp (disch := omega) only [pk_mul, nI_add, Zcl_n]); exact Zin_n (by omega) (by decide)))))) ?_
      rw [show M' 47 2 = nI i_z by rw [hsc 47 2 rfl]; exact hs_z]
      refine Zs_ige hX (List.cons_ne_nil _ _) (fun h_z => ?_) (fun h_z => ?_)
      · refine Zgo hX 1 rfl (by (first | exact True.intro | assumption | (dsimp only [ZallP]; and_intros <;> (first | assumption | decide | omega | ((try simp (disch := omega) only [pk_mul, nI_add, Zcl_n]); exact Zin_n (by omega) (by decide)))))) ?_
        refine Zs_retz hX hE rfl (by first | exact Or.inl rfl | exact Or.inr rfl) ⟨Or.inl ⟨rfl, by rcases Nat.eq_zero_or_pos i_z with e_z | e_z <;> first | omega | (have := (hj_z (i_z - 1) (by omega)).1; omega), fun j_z h_z => (hj_z j_z h_z).2⟩, hsc⟩
      · exact absurd (Int32.le_refl _) h_z
    | succ q_z ih_z =>
      intro i_z hi_z hj_z
      refine Zgo hX 3 rfl (by (first | exact True.intro | assumption | (dsimp only [ZallP]; and_intros <;> (first | assumption | decide | omega | ((try simp (disch := omega) only [pk_mul, nI_add, Zcl_n]); exact Zin_n (by omega) (by decide)))))) ?_
      rw [show M' 47 2 = nI s_z by rw [hsc 47 2 rfl]; exact hs_z]
      refine Zs_ige hX (List.cons_ne_nil _ _) (fun h_z => ?_) (fun h_z => ?_)
      · exact absurd ((Zn_le (by omega) (by omega)).mp h_z) (by omega)
      · refine Zgo hX 4 rfl (by (first | exact True.intro | assumption | (dsimp only [ZallP]; and_intros <;> (first | assumption | decide | omega | ((try simp (disch := omega) only [pk_mul, nI_add, Zcl_n]); exact Zin_n (by omega) (by decide)))))) ?_
        rw [(hz_z.sc (Or.inl rfl) hsc).n hn_z]
        refine Zs_igt hX (List.cons_ne_nil _ _) (fun h2_z => ?_) (fun h2_z => ?_)
        · have := (Zn_lt (by omega) (by omega)).mp h2_z
          refine Zgo hX 1 rfl (by (first | exact True.intro | assumption | (dsimp only [ZallP]; and_intros <;> (first | assumption | decide | omega | ((try simp (disch := omega) only [pk_mul, nI_add, Zcl_n]); exact Zin_n (by omega) (by decide)))))) ?_
          refine Zs_retz hX hE rfl (by first | exact Or.inl rfl | exact Or.inr rfl) ⟨Or.inr ⟨rfl, fun q_z => by omega⟩, hsc⟩
        · have hin : i_z ≤ n_z := (Nat.lt_or_ge n_z i_z).elim (fun q_z => absurd ((Zn_lt (by omega) (by omega)).mpr q_z) h2_z) id
          refine Zgo hX 9 rfl (by dsimp only [ZallP]; exact ⟨Zin_n (by omega) (by decide), Zin_n (by omega) (by decide)⟩) ?_
          rw [Zcl_n (show i_z < 2 ^ 31 by omega), hco i_z hin, show M' 48 i_z = M 48 i_z from hsc 48 i_z rfl]
          refine Zs_ieq hX (List.cons_ne_nil _ _) (fun h3_z => ?_) (fun h3_z => ?_)
          · refine Zgo hX 2 rfl (by (first | exact True.intro | assumption | (dsimp only [ZallP]; and_intros <;> (first | assumption | decide | omega | ((try simp (disch := omega) only [pk_mul, nI_add, Zcl_n]); exact Zin_n (by omega) (by decide)))))) ?_
            rw [nI_add]
            refine Zs_sub (l' := [(3, .int (nI (i_z + 1))), (0, .ref 0), (2, .ref 47)]) rfl ?_
            refine ih_z (i_z + 1) (by omega) (fun j_z h_z => ?_)
            by_cases e_z : j_z = i_z
            · subst e_z; exact ⟨hin, h3_z⟩
            · exact hj_z j_z (by omega)
          · refine Zgo hX 1 rfl (by (first | exact True.intro | assumption | (dsimp only [ZallP]; and_intros <;> (first | assumption | decide | omega | ((try simp (disch := omega) only [pk_mul, nI_add, Zcl_n]); exact Zin_n (by omega) (by decide)))))) ?_
            refine Zs_retz hX hE rfl (by first | exact Or.inl rfl | exact Or.inr rfl) ⟨Or.inr ⟨rfl, fun q_z => h3_z (q_z.2 i_z (by omega))⟩, hsc⟩
  refine Zgo hX 3 rfl (by (first | exact True.intro | assumption | (dsimp only [ZallP]; and_intros <;> (first | assumption | decide | omega | ((try simp (disch := omega) only [pk_mul, nI_add, Zcl_n]); exact Zin_n (by omega) (by decide)))))) ?_
  refine Zs_sub (l' := [(3, .int (nI 0)), (0, .ref 0), (2, .ref 47)]) rfl ?_
  exact L s_z 0 (by omega) (fun j_z h_z => absurd h_z (Nat.not_lt_zero _))

set_option maxRecDepth 20000 in
set_option maxHeartbeats 1000000 in
theorem k_comes2 (f_z : Nat → Int32) (n_z : Nat) (water : Int32) (s_z : Nat) (M : Zmem) (hz_z : Zrv 1 f_z M) (hfi : Zfi f_z) (hn_z : f_z 7 = nI n_z) (hn2 : n_z ≤ 15) (hs_z : M 49 2 = nI s_z) (hs24 : s_z ≤ 24) : ZC 45 5 [.ref 0, .int water, .ref 49] M (fun r_z M' => Zb r_z (s_z ≤ n_z + 1 ∧ ∀ i_z, i_z < s_z → M 50 i_z = Zcm f_z water (nI 0) i_z) ∧ Sc M M') := by
  refine ZC_of Zt45 Zk45 (Nat.le_of_ble_eq_true rfl) (by decide) rfl (fun X hX hE => ?_)
  refine Zgo hX 4 rfl (by (first | exact True.intro | assumption | (dsimp only [ZallP]; and_intros <;> (first | assumption | decide | omega | ((try simp (disch := omega) only [pk_mul, nI_add, Zcl_n]); exact Zin_n (by omega) (by decide)))))) ?_
  refine Zs_callv hX (List.cons_ne_nil _ _) (k_waters f_z n_z water (nI 0) M hz_z hfi hn_z hn2) (by first | decide | omega) (by decide) rfl rfl rfl (by decide) (Nat.le_of_ble_eq_true rfl) (fun r_z M' hc_z => ?_)
  obtain ⟨rfl, hsc, hco⟩ := hc_z
  have L : ∀ (q_z i_z : Nat), i_z + q_z = s_z → (∀ j_z, j_z < i_z → j_z ≤ n_z ∧ M 50 j_z = Zcm f_z water (nI 0) j_z) → ZP X Zt45 (Zsf Zt45 12) [(3, .int (nI i_z)), (0, .ref 0), (2, .ref 49)] [] M' := by
    intro q_z
    induction q_z with
    | zero =>
      intro i_z hi_z hj_z
      obtain rfl : i_z = s_z := by omega
      refine Zgo hX 3 rfl (by (first | exact True.intro | assumption | (dsimp only [ZallP]; and_intros <;> (first | assumption | decide | omega | ((try simp (disch := omega) only [pk_mul, nI_add, Zcl_n]); exact Zin_n (by omega) (by decide)))))) ?_
      rw [show M' 49 2 = nI i_z by rw [hsc 49 2 rfl]; exact hs_z]
      refine Zs_ige hX (List.cons_ne_nil _ _) (fun h_z => ?_) (fun h_z => ?_)
      · refine Zgo hX 1 rfl (by (first | exact True.intro | assumption | (dsimp only [ZallP]; and_intros <;> (first | assumption | decide | omega | ((try simp (disch := omega) only [pk_mul, nI_add, Zcl_n]); exact Zin_n (by omega) (by decide)))))) ?_
        refine Zs_retz hX hE rfl (by first | exact Or.inl rfl | exact Or.inr rfl) ⟨Or.inl ⟨rfl, by rcases Nat.eq_zero_or_pos i_z with e_z | e_z <;> first | omega | (have := (hj_z (i_z - 1) (by omega)).1; omega), fun j_z h_z => (hj_z j_z h_z).2⟩, hsc⟩
      · exact absurd (Int32.le_refl _) h_z
    | succ q_z ih_z =>
      intro i_z hi_z hj_z
      refine Zgo hX 3 rfl (by (first | exact True.intro | assumption | (dsimp only [ZallP]; and_intros <;> (first | assumption | decide | omega | ((try simp (disch := omega) only [pk_mul, nI_add, Zcl_n]); exact Zin_n (by omega) (by decide)))))) ?_
      rw [show M' 49 2 = nI s_z by rw [hsc 49 2 rfl]; exact hs_z]
      refine Zs_ige hX (List.cons_ne_nil _ _) (fun h_z => ?_) (fun h_z => ?_)
      · exact absurd ((Zn_le (by omega) (by omega)).mp h_z) (by omega)
      · refine Zgo hX 4 rfl (by (first | exact True.intro | assumption | (dsimp only [ZallP]; and_intros <;> (first | assumption | decide | omega | ((try simp (disch := omega) only [pk_mul, nI_add, Zcl_n]); exact Zin_n (by omega) (by decide)))))) ?_
        rw [(hz_z.sc (Or.inl rfl) hsc).n hn_z]
        refine Zs_igt hX (List.cons_ne_nil _ _) (fun h2_z => ?_) (fun h2_z => ?_)
        · have := (Zn_lt (by omega) (by omega)).mp h2_z
          refine Zgo hX 1 rfl (by (first | exact True.intro | assumption | (dsimp only [ZallP]; and_intros <;> (first | assumption | decide | omega | ((try simp (disch := omega) only [pk_mul, nI_add, Zcl_n]); exact Zin_n (by omega) (by decide)))))) ?_
          refine Zs_retz hX hE rfl (by first | exact Or.inl rfl | exact Or.inr rfl) ⟨Or.inr ⟨rfl, fun q_z => by omega⟩, hsc⟩
        · have hin : i_z ≤ n_z := (Nat.lt_or_ge n_z i_z).elim (fun q_z => absurd ((Zn_lt (by omega) (by omega)).mpr q_z) h2_z) id
          refine Zgo hX 9 rfl (by dsimp only [ZallP]; exact ⟨Zin_n (by omega) (by decide), Zin_n (by omega) (by decide)⟩) ?_
          rw [Zcl_n (show i_z < 2 ^ 31 by omega), hco i_z hin, show M' 50 i_z = M 50 i_z from hsc 50 i_z rfl]
          refine Zs_ieq hX (List.cons_ne_nil _ _) (fun h3_z => ?_) (fun h3_z => ?_)
          · refine Zgo hX 2 rfl (by (first | exact True.intro | assumption | (dsimp only [ZallP]; and_intros <;> (first | assumption | decide | omega | ((try simp (disch := omega) only [pk_mul, nI_add, Zcl_n]); exact Zin_n (by omega) (by decide)))))) ?_
            rw [nI_add]
            refine Zs_sub (l' := [(3, .int (nI (i_z + 1))), (0, .ref 0), (2, .ref 49)]) rfl ?_
            refine ih_z (i_z + 1) (by omega) (fun j_z h_z => ?_)
            by_cases e_z : j_z = i_z
            · subst e_z; exact ⟨hin, h3_z⟩
            · exact hj_z j_z (by omega)
          · refine Zgo hX 1 rfl (by (first | exact True.intro | assumption | (dsimp only [ZallP]; and_intros <;> (first | assumption | decide | omega | ((try simp (disch := omega) only [pk_mul, nI_add, Zcl_n]); exact Zin_n (by omega) (by decide)))))) ?_
            refine Zs_retz hX hE rfl (by first | exact Or.inl rfl | exact Or.inr rfl) ⟨Or.inr ⟨rfl, fun q_z => h3_z (q_z.2 i_z (by omega))⟩, hsc⟩
  refine Zgo hX 3 rfl (by (first | exact True.intro | assumption | (dsimp only [ZallP]; and_intros <;> (first | assumption | decide | omega | ((try simp (disch := omega) only [pk_mul, nI_add, Zcl_n]); exact Zin_n (by omega) (by decide)))))) ?_
  refine Zs_sub (l' := [(3, .int (nI 0)), (0, .ref 0), (2, .ref 49)]) rfl ?_
  exact L s_z 0 (by omega) (fun j_z h_z => absurd h_z (Nat.not_lt_zero _))

set_option maxRecDepth 20000 in
set_option maxHeartbeats 1000000 in
theorem k_comes3 (f_z : Nat → Int32) (n_z : Nat) (water : Int32) (s_z : Nat) (M : Zmem) (hz_z : Zrv 1 f_z M) (hfi : Zfi f_z) (hn_z : f_z 7 = nI n_z) (hn2 : n_z ≤ 15) (hs_z : M 51 2 = nI s_z) (hs24 : s_z ≤ 24) : ZC 45 5 [.ref 0, .int water, .ref 51] M (fun r_z M' => Zb r_z (s_z ≤ n_z + 1 ∧ ∀ i_z, i_z < s_z → M 52 i_z = Zcm f_z water (nI 0) i_z) ∧ Sc M M') := by
  refine ZC_of Zt45 Zk45 (Nat.le_of_ble_eq_true rfl) (by decide) rfl (fun X hX hE => ?_)
  refine Zgo hX 4 rfl (by (first | exact True.intro | assumption | (dsimp only [ZallP]; and_intros <;> (first | assumption | decide | omega | ((try simp (disch := omega) only [pk_mul, nI_add, Zcl_n]); exact Zin_n (by omega) (by decide)))))) ?_
  refine Zs_callv hX (List.cons_ne_nil _ _) (k_waters f_z n_z water (nI 0) M hz_z hfi hn_z hn2) (by first | decide | omega) (by decide) rfl rfl rfl (by decide) (Nat.le_of_ble_eq_true rfl) (fun r_z M' hc_z => ?_)
  obtain ⟨rfl, hsc, hco⟩ := hc_z
  have L : ∀ (q_z i_z : Nat), i_z + q_z = s_z → (∀ j_z, j_z < i_z → j_z ≤ n_z ∧ M 52 j_z = Zcm f_z water (nI 0) j_z) → ZP X Zt45 (Zsf Zt45 12) [(3, .int (nI i_z)), (0, .ref 0), (2, .ref 51)] [] M' := by
    intro q_z
    induction q_z with
    | zero =>
      intro i_z hi_z hj_z
      obtain rfl : i_z = s_z := by omega
      refine Zgo hX 3 rfl (by (first | exact True.intro | assumption | (dsimp only [ZallP]; and_intros <;> (first | assumption | decide | omega | ((try simp (disch := omega) only [pk_mul, nI_add, Zcl_n]); exact Zin_n (by omega) (by decide)))))) ?_
      rw [show M' 51 2 = nI i_z by rw [hsc 51 2 rfl]; exact hs_z]
      refine Zs_ige hX (List.cons_ne_nil _ _) (fun h_z => ?_) (fun h_z => ?_)
      · refine Zgo hX 1 rfl (by (first | exact True.intro | assumption | (dsimp only [ZallP]; and_intros <;> (first | assumption | decide | omega | ((try simp (disch := omega) only [pk_mul, nI_add, Zcl_n]); exact Zin_n (by omega) (by decide)))))) ?_
        refine Zs_retz hX hE rfl (by first | exact Or.inl rfl | exact Or.inr rfl) ⟨Or.inl ⟨rfl, by rcases Nat.eq_zero_or_pos i_z with e_z | e_z <;> first | omega | (have := (hj_z (i_z - 1) (by omega)).1; omega), fun j_z h_z => (hj_z j_z h_z).2⟩, hsc⟩
      · exact absurd (Int32.le_refl _) h_z
    | succ q_z ih_z =>
      intro i_z hi_z hj_z
      refine Zgo hX 3 rfl (by (first | exact True.intro | assumption | (dsimp only [ZallP]; and_intros <;> (first | assumption | decide | omega | ((try simp (disch := omega) only [pk_mul, nI_add, Zcl_n]); exact Zin_n (by omega) (by decide)))))) ?_
      rw [show M' 51 2 = nI s_z by rw [hsc 51 2 rfl]; exact hs_z]
      refine Zs_ige hX (List.cons_ne_nil _ _) (fun h_z => ?_) (fun h_z => ?_)
      · exact absurd ((Zn_le (by omega) (by omega)).mp h_z) (by omega)
      · refine Zgo hX 4 rfl (by (first | exact True.intro | assumption | (dsimp only [ZallP]; and_intros <;> (first | assumption | decide | omega | ((try simp (disch := omega) only [pk_mul, nI_add, Zcl_n]); exact Zin_n (by omega) (by decide)))))) ?_
        rw [(hz_z.sc (Or.inl rfl) hsc).n hn_z]
        refine Zs_igt hX (List.cons_ne_nil _ _) (fun h2_z => ?_) (fun h2_z => ?_)
        · have := (Zn_lt (by omega) (by omega)).mp h2_z
          refine Zgo hX 1 rfl (by (first | exact True.intro | assumption | (dsimp only [ZallP]; and_intros <;> (first | assumption | decide | omega | ((try simp (disch := omega) only [pk_mul, nI_add, Zcl_n]); exact Zin_n (by omega) (by decide)))))) ?_
          refine Zs_retz hX hE rfl (by first | exact Or.inl rfl | exact Or.inr rfl) ⟨Or.inr ⟨rfl, fun q_z => by omega⟩, hsc⟩
        · have hin : i_z ≤ n_z := (Nat.lt_or_ge n_z i_z).elim (fun q_z => absurd ((Zn_lt (by omega) (by omega)).mpr q_z) h2_z) id
          refine Zgo hX 9 rfl (by dsimp only [ZallP]; exact ⟨Zin_n (by omega) (by decide), Zin_n (by omega) (by decide)⟩) ?_
          rw [Zcl_n (show i_z < 2 ^ 31 by omega), hco i_z hin, show M' 52 i_z = M 52 i_z from hsc 52 i_z rfl]
          refine Zs_ieq hX (List.cons_ne_nil _ _) (fun h3_z => ?_) (fun h3_z => ?_)
          · refine Zgo hX 2 rfl (by (first | exact True.intro | assumption | (dsimp only [ZallP]; and_intros <;> (first | assumption | decide | omega | ((try simp (disch := omega) only [pk_mul, nI_add, Zcl_n]); exact Zin_n (by omega) (by decide)))))) ?_
            rw [nI_add]
            refine Zs_sub (l' := [(3, .int (nI (i_z + 1))), (0, .ref 0), (2, .ref 51)]) rfl ?_
            refine ih_z (i_z + 1) (by omega) (fun j_z h_z => ?_)
            by_cases e_z : j_z = i_z
            · subst e_z; exact ⟨hin, h3_z⟩
            · exact hj_z j_z (by omega)
          · refine Zgo hX 1 rfl (by (first | exact True.intro | assumption | (dsimp only [ZallP]; and_intros <;> (first | assumption | decide | omega | ((try simp (disch := omega) only [pk_mul, nI_add, Zcl_n]); exact Zin_n (by omega) (by decide)))))) ?_
            refine Zs_retz hX hE rfl (by first | exact Or.inl rfl | exact Or.inr rfl) ⟨Or.inr ⟨rfl, fun q_z => h3_z (q_z.2 i_z (by omega))⟩, hsc⟩
  refine Zgo hX 3 rfl (by (first | exact True.intro | assumption | (dsimp only [ZallP]; and_intros <;> (first | assumption | decide | omega | ((try simp (disch := omega) only [pk_mul, nI_add, Zcl_n]); exact Zin_n (by omega) (by decide)))))) ?_
  refine Zs_sub (l' := [(3, .int (nI 0)), (0, .ref 0), (2, .ref 51)]) rfl ?_
  exact L s_z 0 (by omega) (fun j_z h_z => absurd h_z (Nat.not_lt_zero _))

set_option maxRecDepth 20000 in
set_option maxHeartbeats 4000000 in
theorem k_fits (g_z : Zsn) (f_z : Nat → Int32) (n_z : Nat) (sh what : Int32) (M : Zmem) (hg_z : Zks g_z M) (hi_z : Zsiv g_z) (hz_z : Zrv 1 f_z M) (hfi : Zfi f_z) (hn_z : f_z 7 = nI n_z) (hn2 : n_z ≤ 15) : ZC 23 6 [.ref 0, .int sh, .int what] M (Zq M) := by
  refine ZC_of Zt23 Zk23 (Nat.le_of_ble_eq_true rfl) (by decide) rfl (fun X hX hE => ?_)
  have BAD : ZP X Zt23 (Zsf Zt23 16) (lv_args 0 [.ref 0, .int sh, .int what]) [] M := by
    refine Zgo hX 2 rfl (by (first | exact True.intro | assumption | (dsimp only [ZallP]; and_intros <;> (first | assumption | decide | omega | ((try simp (disch := omega) only [pk_mul, nI_add, Zcl_n]); exact Zin_n (by omega) (by decide)))))) ?_
    refine Zs_callv hX (List.cons_ne_nil _ _) (k_refuse 1 _ (by decide)) (by first | decide | omega) (by decide) rfl rfl rfl (by decide) (Nat.le_of_ble_eq_true rfl) (fun r_z M' hc_z => ?_)
    obtain ⟨rfl, hsc⟩ := hc_z
    refine Zs_ret hX hE rfl (Zq_e hsc)
  refine Zgo hX 1 rfl (by (first | exact True.intro | assumption | (dsimp only [ZallP]; and_intros <;> (first | assumption | decide | omega | ((try simp (disch := omega) only [pk_mul, nI_add, Zcl_n]); exact Zin_n (by omega) (by decide)))))) ?_
  refine Zs_calls hX (List.cons_ne_nil _ _) (by decide) (k_isSheet _ _) (by first | decide | omega) rfl rfl (by decide) (Nat.le_of_ble_eq_true rfl) (fun r_z M' hc_z => ?_)
  rcases hc_z with ⟨⟨rfl, h1_z⟩ | ⟨rfl, h1_z⟩, rfl⟩
  · refine Zs_eq hX (List.cons_ne_nil _ _) (fun q_z => False.elim (by revert q_z; decide)) (fun _ => ?_)
    refine Zgo hX 3 rfl (by (first | exact True.intro | assumption | (dsimp only [ZallP]; and_intros <;> (first | assumption | decide | omega | ((try simp (disch := omega) only [pk_mul, nI_add, Zcl_n]); exact Zin_n (by omega) (by decide)))))) ?_
    refine Zs_calls hX (List.cons_ne_nil _ _) (by decide) (k_within _ _ _ _) (by first | decide | omega) rfl rfl (by decide) (Nat.le_of_ble_eq_true rfl) (fun r_z M' hc_z => ?_)
    rcases hc_z with ⟨⟨rfl, h2_z⟩ | ⟨rfl, h2_z⟩, rfl⟩
    · refine Zs_ne hX (List.cons_ne_nil _ _) (fun _ => ?_) (fun q_z => False.elim (by revert q_z; decide))
      obtain ⟨t, ht_z, rfl⟩ := Zbt_ex (b_z := 3) (by decide) h1_z
      obtain ⟨hbt, s_z, hs24, hs_z⟩ := hi_z t (by omega)
      refine Zgo hX 3 rfl (by (first | exact True.intro | assumption | (dsimp only [ZallP]; and_intros <;> (first | assumption | decide | omega | ((try simp (disch := omega) only [pk_mul, nI_add, Zcl_n]); exact Zin_n (by omega) (by decide)))))) ?_
      rcases (show t = 0 ∨ t = 1 ∨ t = 2 ∨ t = 3 by omega) with rfl | rfl | rfl | rfl
      · skip
        have es : M 45 2 = nI s_z := (hg_z 0 (by decide)).2.1.trans hs_z
        refine Zs_aald hX (List.cons_ne_nil _ _) (by decide) rfl (by decide) (j := _) rfl (by decide) (by decide) rfl ?_
        refine Zgo hX 3 rfl (by (first | exact True.intro | assumption | (dsimp only [ZallP]; and_intros <;> (first | assumption | decide | omega | ((try simp (disch := omega) only [pk_mul, nI_add, Zcl_n]); exact Zin_n (by omega) (by decide)))))) ?_
        refine Zs_ne hX (List.cons_ne_nil _ _) (fun h3_z => ?_) (fun h3_z => ?_)
        · refine Zgo hX 2 rfl (by (first | exact True.intro | assumption | (dsimp only [ZallP]; and_intros <;> (first | assumption | decide | omega | ((try simp (disch := omega) only [pk_mul, nI_add, Zcl_n]); exact Zin_n (by omega) (by decide)))))) ?_
          rw [es]
          refine Zs_ne hX (List.cons_ne_nil _ _) (fun h4_z => ?_) (fun h4_z => ?_)
          · have TAIL : ∀ (w5 w4 : Int32) (M1 : Zmem), Sc M M1 → ZP X Zt23 (Zsf Zt23 94) [(5, .int w5), (4, .int w4), (0, .ref 0), (2, .int what)] [] M1 := by
              intro w5 w4 M1 hsc
              refine Zgo hX 1 rfl (by (first | exact True.intro | assumption | (dsimp only [ZallP]; and_intros <;> (first | assumption | decide | omega | ((try simp (disch := omega) only [pk_mul, nI_add, Zcl_n]); exact Zin_n (by omega) (by decide)))))) ?_
              refine Zs_ne hX (List.cons_ne_nil _ _) (fun h5_z => ?_) (fun h5_z => ?_)
              · refine Zgo hX 1 rfl (by (first | exact True.intro | assumption | (dsimp only [ZallP]; and_intros <;> (first | assumption | decide | omega | ((try simp (disch := omega) only [pk_mul, nI_add, Zcl_n]); exact Zin_n (by omega) (by decide)))))) ?_
                refine Zs_eq hX (List.cons_ne_nil _ _) (fun h6_z => ?_) (fun h6_z => ?_)
                · refine Zgo hX 2 rfl (by (first | exact True.intro | assumption | (dsimp only [ZallP]; and_intros <;> (first | assumption | decide | omega | ((try simp (disch := omega) only [pk_mul, nI_add, Zcl_n]); exact Zin_n (by omega) (by decide)))))) ?_
                  refine Zs_callv hX (List.cons_ne_nil _ _) (k_refuse 2 _ (by decide)) (by first | decide | omega) (by decide) rfl rfl rfl (by decide) (Nat.le_of_ble_eq_true rfl) (fun r_z M' hc_z => ?_)
                  obtain ⟨rfl, hsc2⟩ := hc_z
                  refine Zs_ret hX hE rfl (Zq_e (hsc.tr hsc2))
                · refine Zgo hX 2 rfl (by (first | exact True.intro | assumption | (dsimp only [ZallP]; and_intros <;> (first | assumption | decide | omega | ((try simp (disch := omega) only [pk_mul, nI_add, Zcl_n]); exact Zin_n (by omega) (by decide)))))) ?_
                  refine Zs_ret hX hE rfl (Zq_e hsc)
              · refine Zgo hX 1 rfl (by (first | exact True.intro | assumption | (dsimp only [ZallP]; and_intros <;> (first | assumption | decide | omega | ((try simp (disch := omega) only [pk_mul, nI_add, Zcl_n]); exact Zin_n (by omega) (by decide)))))) ?_
                refine Zs_eq hX (List.cons_ne_nil _ _) (fun h6_z => ?_) (fun h6_z => ?_)
                · refine Zgo hX 1 rfl (by (first | exact True.intro | assumption | (dsimp only [ZallP]; and_intros <;> (first | assumption | decide | omega | ((try simp (disch := omega) only [pk_mul, nI_add, Zcl_n]); exact Zin_n (by omega) (by decide)))))) ?_
                  refine Zs_ret hX hE rfl (Zq_e hsc)
                · refine Zgo hX 2 rfl (by (first | exact True.intro | assumption | (dsimp only [ZallP]; and_intros <;> (first | assumption | decide | omega | ((try simp (disch := omega) only [pk_mul, nI_add, Zcl_n]); exact Zin_n (by omega) (by decide)))))) ?_
                  refine Zs_ret hX hE rfl (Zq_e hsc)
            refine Zgo hX 6 rfl (Zin_n (by decide) (by decide)) ?_
            try simp (disch := omega) only [Zcl_n, pk_mul, nI_add]
            refine Zs_calls hX (List.cons_ne_nil _ _) (by decide) (k_isWater _ _) (by first | decide | omega) rfl rfl (by decide) (Nat.le_of_ble_eq_true rfl) (fun r_z M' hc_z => ?_)
            rcases hc_z with ⟨⟨rfl, h7_z⟩ | ⟨rfl, h7_z⟩, rfl⟩
            · refine Zs_eq hX (List.cons_ne_nil _ _) (fun q_z => False.elim (by revert q_z; decide)) (fun _ => ?_)
              refine Zgo hX 3 rfl (by (first | exact True.intro | assumption | (dsimp only [ZallP]; and_intros <;> (first | assumption | decide | omega | ((try simp (disch := omega) only [pk_mul, nI_add, Zcl_n]); exact Zin_n (by omega) (by decide)))))) ?_
              refine Zs_callv hX (List.cons_ne_nil _ _) (k_comes0 f_z n_z _ s_z _ hz_z hfi hn_z hn2 es hs24) (by first | decide | omega) (by decide) rfl rfl rfl (by decide) (Nat.le_of_ble_eq_true rfl) (fun r_z M' hc_z => ?_)
              obtain ⟨hb_z, hsc⟩ := hc_z
              rcases hb_z with ⟨rfl, hb_z⟩ | ⟨rfl, hb_z⟩
              · refine Zs_eq hX (List.cons_ne_nil _ _) (fun q_z => False.elim (by revert q_z; decide)) (fun _ => ?_)
                refine Zgo hX 3 rfl (by (first | exact True.intro | assumption | (dsimp only [ZallP]; and_intros <;> (first | assumption | decide | omega | ((try simp (disch := omega) only [pk_mul, nI_add, Zcl_n]); exact Zin_n (by omega) (by decide)))))) ?_
                refine Zs_sub (l' := [(5, .int (nI 1)), (4, .int (M 46 0)), (0, .ref 0), (2, .int what)]) rfl ?_
                exact TAIL _ _ _ hsc
              · refine Zs_eq hX (List.cons_ne_nil _ _) (fun _ => ?_) (fun q_z => False.elim (by revert q_z; decide))
                refine Zgo hX 2 rfl (by (first | exact True.intro | assumption | (dsimp only [ZallP]; and_intros <;> (first | assumption | decide | omega | ((try simp (disch := omega) only [pk_mul, nI_add, Zcl_n]); exact Zin_n (by omega) (by decide)))))) ?_
                refine Zs_sub (l' := [(5, .int (nI 0)), (4, .int (M 46 0)), (0, .ref 0), (2, .int what)]) rfl ?_
                exact TAIL _ _ _ hsc
            · refine Zs_eq hX (List.cons_ne_nil _ _) (fun _ => ?_) (fun q_z => False.elim (by revert q_z; decide))
              refine Zgo hX 2 rfl (by (first | exact True.intro | assumption | (dsimp only [ZallP]; and_intros <;> (first | assumption | decide | omega | ((try simp (disch := omega) only [pk_mul, nI_add, Zcl_n]); exact Zin_n (by omega) (by decide)))))) ?_
              refine Zs_sub (l' := [(5, .int (nI 0)), (4, .int (M 46 0)), (0, .ref 0), (2, .int what)]) rfl ?_
              exact TAIL _ _ _ (Sc.rf _)
          · refine Zgo hX 1 rfl (by (first | exact True.intro | assumption | (dsimp only [ZallP]; and_intros <;> (first | assumption | decide | omega | ((try simp (disch := omega) only [pk_mul, nI_add, Zcl_n]); exact Zin_n (by omega) (by decide)))))) ?_
            refine Zs_ne hX (List.cons_ne_nil _ _) (fun h5_z => ?_) (fun h5_z => ?_)
            · refine Zgo hX 1 rfl (by (first | exact True.intro | assumption | (dsimp only [ZallP]; and_intros <;> (first | assumption | decide | omega | ((try simp (disch := omega) only [pk_mul, nI_add, Zcl_n]); exact Zin_n (by omega) (by decide)))))) ?_
              refine Zs_ret hX hE rfl (Zq_e (Sc.rf _))
            · refine Zgo hX 2 rfl (by (first | exact True.intro | assumption | (dsimp only [ZallP]; and_intros <;> (first | assumption | decide | omega | ((try simp (disch := omega) only [pk_mul, nI_add, Zcl_n]); exact Zin_n (by omega) (by decide)))))) ?_
              refine Zs_ret hX hE rfl (Zq_e (Sc.rf _))
        · skip
          refine Zgo hX 2 rfl (by (first | exact True.intro | assumption | (dsimp only [ZallP]; and_intros <;> (first | assumption | decide | omega | ((try simp (disch := omega) only [pk_mul, nI_add, Zcl_n]); exact Zin_n (by omega) (by decide)))))) ?_
          refine Zs_callv hX (List.cons_ne_nil _ _) (k_refuse 2 _ (by decide)) (by first | decide | omega) (by decide) rfl rfl rfl (by decide) (Nat.le_of_ble_eq_true rfl) (fun r_z M' hc_z => ?_)
          obtain ⟨rfl, hsc⟩ := hc_z
          refine Zs_ret hX hE rfl (Zq_e hsc)
      · skip
        have es : M 47 2 = nI s_z := (hg_z 1 (by decide)).2.1.trans hs_z
        refine Zs_aald hX (List.cons_ne_nil _ _) (by decide) rfl (by decide) (j := _) rfl (by decide) (by decide) rfl ?_
        refine Zgo hX 3 rfl (by (first | exact True.intro | assumption | (dsimp only [ZallP]; and_intros <;> (first | assumption | decide | omega | ((try simp (disch := omega) only [pk_mul, nI_add, Zcl_n]); exact Zin_n (by omega) (by decide)))))) ?_
        refine Zs_ne hX (List.cons_ne_nil _ _) (fun h3_z => ?_) (fun h3_z => ?_)
        · refine Zgo hX 2 rfl (by (first | exact True.intro | assumption | (dsimp only [ZallP]; and_intros <;> (first | assumption | decide | omega | ((try simp (disch := omega) only [pk_mul, nI_add, Zcl_n]); exact Zin_n (by omega) (by decide)))))) ?_
          rw [es]
          refine Zs_ne hX (List.cons_ne_nil _ _) (fun h4_z => ?_) (fun h4_z => ?_)
          · have TAIL : ∀ (w5 w4 : Int32) (M1 : Zmem), Sc M M1 → ZP X Zt23 (Zsf Zt23 94) [(5, .int w5), (4, .int w4), (0, .ref 0), (2, .int what)] [] M1 := by
              intro w5 w4 M1 hsc
              refine Zgo hX 1 rfl (by (first | exact True.intro | assumption | (dsimp only [ZallP]; and_intros <;> (first | assumption | decide | omega | ((try simp (disch := omega) only [pk_mul, nI_add, Zcl_n]); exact Zin_n (by omega) (by decide)))))) ?_
              refine Zs_ne hX (List.cons_ne_nil _ _) (fun h5_z => ?_) (fun h5_z => ?_)
              · refine Zgo hX 1 rfl (by (first | exact True.intro | assumption | (dsimp only [ZallP]; and_intros <;> (first | assumption | decide | omega | ((try simp (disch := omega) only [pk_mul, nI_add, Zcl_n]); exact Zin_n (by omega) (by decide)))))) ?_
                refine Zs_eq hX (List.cons_ne_nil _ _) (fun h6_z => ?_) (fun h6_z => ?_)
                · refine Zgo hX 2 rfl (by (first | exact True.intro | assumption | (dsimp only [ZallP]; and_intros <;> (first | assumption | decide | omega | ((try simp (disch := omega) only [pk_mul, nI_add, Zcl_n]); exact Zin_n (by omega) (by decide)))))) ?_
                  refine Zs_callv hX (List.cons_ne_nil _ _) (k_refuse 2 _ (by decide)) (by first | decide | omega) (by decide) rfl rfl rfl (by decide) (Nat.le_of_ble_eq_true rfl) (fun r_z M' hc_z => ?_)
                  obtain ⟨rfl, hsc2⟩ := hc_z
                  refine Zs_ret hX hE rfl (Zq_e (hsc.tr hsc2))
                · refine Zgo hX 2 rfl (by (first | exact True.intro | assumption | (dsimp only [ZallP]; and_intros <;> (first | assumption | decide | omega | ((try simp (disch := omega) only [pk_mul, nI_add, Zcl_n]); exact Zin_n (by omega) (by decide)))))) ?_
                  refine Zs_ret hX hE rfl (Zq_e hsc)
              · refine Zgo hX 1 rfl (by (first | exact True.intro | assumption | (dsimp only [ZallP]; and_intros <;> (first | assumption | decide | omega | ((try simp (disch := omega) only [pk_mul, nI_add, Zcl_n]); exact Zin_n (by omega) (by decide)))))) ?_
                refine Zs_eq hX (List.cons_ne_nil _ _) (fun h6_z => ?_) (fun h6_z => ?_)
                · refine Zgo hX 1 rfl (by (first | exact True.intro | assumption | (dsimp only [ZallP]; and_intros <;> (first | assumption | decide | omega | ((try simp (disch := omega) only [pk_mul, nI_add, Zcl_n]); exact Zin_n (by omega) (by decide)))))) ?_
                  refine Zs_ret hX hE rfl (Zq_e hsc)
                · refine Zgo hX 2 rfl (by (first | exact True.intro | assumption | (dsimp only [ZallP]; and_intros <;> (first | assumption | decide | omega | ((try simp (disch := omega) only [pk_mul, nI_add, Zcl_n]); exact Zin_n (by omega) (by decide)))))) ?_
                  refine Zs_ret hX hE rfl (Zq_e hsc)
            refine Zgo hX 6 rfl (Zin_n (by decide) (by decide)) ?_
            try simp (disch := omega) only [Zcl_n, pk_mul, nI_add]
            refine Zs_calls hX (List.cons_ne_nil _ _) (by decide) (k_isWater _ _) (by first | decide | omega) rfl rfl (by decide) (Nat.le_of_ble_eq_true rfl) (fun r_z M' hc_z => ?_)
            rcases hc_z with ⟨⟨rfl, h7_z⟩ | ⟨rfl, h7_z⟩, rfl⟩
            · refine Zs_eq hX (List.cons_ne_nil _ _) (fun q_z => False.elim (by revert q_z; decide)) (fun _ => ?_)
              refine Zgo hX 3 rfl (by (first | exact True.intro | assumption | (dsimp only [ZallP]; and_intros <;> (first | assumption | decide | omega | ((try simp (disch := omega) only [pk_mul, nI_add, Zcl_n]); exact Zin_n (by omega) (by decide)))))) ?_
              refine Zs_callv hX (List.cons_ne_nil _ _) (k_comes1 f_z n_z _ s_z _ hz_z hfi hn_z hn2 es hs24) (by first | decide | omega) (by decide) rfl rfl rfl (by decide) (Nat.le_of_ble_eq_true rfl) (fun r_z M' hc_z => ?_)
              obtain ⟨hb_z, hsc⟩ := hc_z
              rcases hb_z with ⟨rfl, hb_z⟩ | ⟨rfl, hb_z⟩
              · refine Zs_eq hX (List.cons_ne_nil _ _) (fun q_z => False.elim (by revert q_z; decide)) (fun _ => ?_)
                refine Zgo hX 3 rfl (by (first | exact True.intro | assumption | (dsimp only [ZallP]; and_intros <;> (first | assumption | decide | omega | ((try simp (disch := omega) only [pk_mul, nI_add, Zcl_n]); exact Zin_n (by omega) (by decide)))))) ?_
                refine Zs_sub (l' := [(5, .int (nI 1)), (4, .int (M 48 0)), (0, .ref 0), (2, .int what)]) rfl ?_
                exact TAIL _ _ _ hsc
              · refine Zs_eq hX (List.cons_ne_nil _ _) (fun _ => ?_) (fun q_z => False.elim (by revert q_z; decide))
                refine Zgo hX 2 rfl (by (first | exact True.intro | assumption | (dsimp only [ZallP]; and_intros <;> (first | assumption | decide | omega | ((try simp (disch := omega) only [pk_mul, nI_add, Zcl_n]); exact Zin_n (by omega) (by decide)))))) ?_
                refine Zs_sub (l' := [(5, .int (nI 0)), (4, .int (M 48 0)), (0, .ref 0), (2, .int what)]) rfl ?_
                exact TAIL _ _ _ hsc
            · refine Zs_eq hX (List.cons_ne_nil _ _) (fun _ => ?_) (fun q_z => False.elim (by revert q_z; decide))
              refine Zgo hX 2 rfl (by (first | exact True.intro | assumption | (dsimp only [ZallP]; and_intros <;> (first | assumption | decide | omega | ((try simp (disch := omega) only [pk_mul, nI_add, Zcl_n]); exact Zin_n (by omega) (by decide)))))) ?_
              refine Zs_sub (l' := [(5, .int (nI 0)), (4, .int (M 48 0)), (0, .ref 0), (2, .int what)]) rfl ?_
              exact TAIL _ _ _ (Sc.rf _)
          · refine Zgo hX 1 rfl (by (first | exact True.intro | assumption | (dsimp only [ZallP]; and_intros <;> (first | assumption | decide | omega | ((try simp (disch := omega) only [pk_mul, nI_add, Zcl_n]); exact Zin_n (by omega) (by decide)))))) ?_
            refine Zs_ne hX (List.cons_ne_nil _ _) (fun h5_z => ?_) (fun h5_z => ?_)
            · refine Zgo hX 1 rfl (by (first | exact True.intro | assumption | (dsimp only [ZallP]; and_intros <;> (first | assumption | decide | omega | ((try simp (disch := omega) only [pk_mul, nI_add, Zcl_n]); exact Zin_n (by omega) (by decide)))))) ?_
              refine Zs_ret hX hE rfl (Zq_e (Sc.rf _))
            · refine Zgo hX 2 rfl (by (first | exact True.intro | assumption | (dsimp only [ZallP]; and_intros <;> (first | assumption | decide | omega | ((try simp (disch := omega) only [pk_mul, nI_add, Zcl_n]); exact Zin_n (by omega) (by decide)))))) ?_
              refine Zs_ret hX hE rfl (Zq_e (Sc.rf _))
        · skip
          refine Zgo hX 2 rfl (by (first | exact True.intro | assumption | (dsimp only [ZallP]; and_intros <;> (first | assumption | decide | omega | ((try simp (disch := omega) only [pk_mul, nI_add, Zcl_n]); exact Zin_n (by omega) (by decide)))))) ?_
          refine Zs_callv hX (List.cons_ne_nil _ _) (k_refuse 2 _ (by decide)) (by first | decide | omega) (by decide) rfl rfl rfl (by decide) (Nat.le_of_ble_eq_true rfl) (fun r_z M' hc_z => ?_)
          obtain ⟨rfl, hsc⟩ := hc_z
          refine Zs_ret hX hE rfl (Zq_e hsc)
      · skip
        have es : M 49 2 = nI s_z := (hg_z 2 (by decide)).2.1.trans hs_z
        refine Zs_aald hX (List.cons_ne_nil _ _) (by decide) rfl (by decide) (j := _) rfl (by decide) (by decide) rfl ?_
        refine Zgo hX 3 rfl (by (first | exact True.intro | assumption | (dsimp only [ZallP]; and_intros <;> (first | assumption | decide | omega | ((try simp (disch := omega) only [pk_mul, nI_add, Zcl_n]); exact Zin_n (by omega) (by decide)))))) ?_
        refine Zs_ne hX (List.cons_ne_nil _ _) (fun h3_z => ?_) (fun h3_z => ?_)
        · refine Zgo hX 2 rfl (by (first | exact True.intro | assumption | (dsimp only [ZallP]; and_intros <;> (first | assumption | decide | omega | ((try simp (disch := omega) only [pk_mul, nI_add, Zcl_n]); exact Zin_n (by omega) (by decide)))))) ?_
          rw [es]
          refine Zs_ne hX (List.cons_ne_nil _ _) (fun h4_z => ?_) (fun h4_z => ?_)
          · have TAIL : ∀ (w5 w4 : Int32) (M1 : Zmem), Sc M M1 → ZP X Zt23 (Zsf Zt23 94) [(5, .int w5), (4, .int w4), (0, .ref 0), (2, .int what)] [] M1 := by
              intro w5 w4 M1 hsc
              refine Zgo hX 1 rfl (by (first | exact True.intro | assumption | (dsimp only [ZallP]; and_intros <;> (first | assumption | decide | omega | ((try simp (disch := omega) only [pk_mul, nI_add, Zcl_n]); exact Zin_n (by omega) (by decide)))))) ?_
              refine Zs_ne hX (List.cons_ne_nil _ _) (fun h5_z => ?_) (fun h5_z => ?_)
              · refine Zgo hX 1 rfl (by (first | exact True.intro | assumption | (dsimp only [ZallP]; and_intros <;> (first | assumption | decide | omega | ((try simp (disch := omega) only [pk_mul, nI_add, Zcl_n]); exact Zin_n (by omega) (by decide)))))) ?_
                refine Zs_eq hX (List.cons_ne_nil _ _) (fun h6_z => ?_) (fun h6_z => ?_)
                · refine Zgo hX 2 rfl (by (first | exact True.intro | assumption | (dsimp only [ZallP]; and_intros <;> (first | assumption | decide | omega | ((try simp (disch := omega) only [pk_mul, nI_add, Zcl_n]); exact Zin_n (by omega) (by decide)))))) ?_
                  refine Zs_callv hX (List.cons_ne_nil _ _) (k_refuse 2 _ (by decide)) (by first | decide | omega) (by decide) rfl rfl rfl (by decide) (Nat.le_of_ble_eq_true rfl) (fun r_z M' hc_z => ?_)
                  obtain ⟨rfl, hsc2⟩ := hc_z
                  refine Zs_ret hX hE rfl (Zq_e (hsc.tr hsc2))
                · refine Zgo hX 2 rfl (by (first | exact True.intro | assumption | (dsimp only [ZallP]; and_intros <;> (first | assumption | decide | omega | ((try simp (disch := omega) only [pk_mul, nI_add, Zcl_n]); exact Zin_n (by omega) (by decide)))))) ?_
                  refine Zs_ret hX hE rfl (Zq_e hsc)
              · refine Zgo hX 1 rfl (by (first | exact True.intro | assumption | (dsimp only [ZallP]; and_intros <;> (first | assumption | decide | omega | ((try simp (disch := omega) only [pk_mul, nI_add, Zcl_n]); exact Zin_n (by omega) (by decide)))))) ?_
                refine Zs_eq hX (List.cons_ne_nil _ _) (fun h6_z => ?_) (fun h6_z => ?_)
                · refine Zgo hX 1 rfl (by (first | exact True.intro | assumption | (dsimp only [ZallP]; and_intros <;> (first | assumption | decide | omega | ((try simp (disch := omega) only [pk_mul, nI_add, Zcl_n]); exact Zin_n (by omega) (by decide)))))) ?_
                  refine Zs_ret hX hE rfl (Zq_e hsc)
                · refine Zgo hX 2 rfl (by (first | exact True.intro | assumption | (dsimp only [ZallP]; and_intros <;> (first | assumption | decide | omega | ((try simp (disch := omega) only [pk_mul, nI_add, Zcl_n]); exact Zin_n (by omega) (by decide)))))) ?_
                  refine Zs_ret hX hE rfl (Zq_e hsc)
            refine Zgo hX 6 rfl (Zin_n (by decide) (by decide)) ?_
            try simp (disch := omega) only [Zcl_n, pk_mul, nI_add]
            refine Zs_calls hX (List.cons_ne_nil _ _) (by decide) (k_isWater _ _) (by first | decide | omega) rfl rfl (by decide) (Nat.le_of_ble_eq_true rfl) (fun r_z M' hc_z => ?_)
            rcases hc_z with ⟨⟨rfl, h7_z⟩ | ⟨rfl, h7_z⟩, rfl⟩
            · refine Zs_eq hX (List.cons_ne_nil _ _) (fun q_z => False.elim (by revert q_z; decide)) (fun _ => ?_)
              refine Zgo hX 3 rfl (by (first | exact True.intro | assumption | (dsimp only [ZallP]; and_intros <;> (first | assumption | decide | omega | ((try simp (disch := omega) only [pk_mul, nI_add, Zcl_n]); exact Zin_n (by omega) (by decide)))))) ?_
              refine Zs_callv hX (List.cons_ne_nil _ _) (k_comes2 f_z n_z _ s_z _ hz_z hfi hn_z hn2 es hs24) (by first | decide | omega) (by decide) rfl rfl rfl (by decide) (Nat.le_of_ble_eq_true rfl) (fun r_z M' hc_z => ?_)
              obtain ⟨hb_z, hsc⟩ := hc_z
              rcases hb_z with ⟨rfl, hb_z⟩ | ⟨rfl, hb_z⟩
              · refine Zs_eq hX (List.cons_ne_nil _ _) (fun q_z => False.elim (by revert q_z; decide)) (fun _ => ?_)
                refine Zgo hX 3 rfl (by (first | exact True.intro | assumption | (dsimp only [ZallP]; and_intros <;> (first | assumption | decide | omega | ((try simp (disch := omega) only [pk_mul, nI_add, Zcl_n]); exact Zin_n (by omega) (by decide)))))) ?_
                refine Zs_sub (l' := [(5, .int (nI 1)), (4, .int (M 50 0)), (0, .ref 0), (2, .int what)]) rfl ?_
                exact TAIL _ _ _ hsc
              · refine Zs_eq hX (List.cons_ne_nil _ _) (fun _ => ?_) (fun q_z => False.elim (by revert q_z; decide))
                refine Zgo hX 2 rfl (by (first | exact True.intro | assumption | (dsimp only [ZallP]; and_intros <;> (first | assumption | decide | omega | ((try simp (disch := omega) only [pk_mul, nI_add, Zcl_n]); exact Zin_n (by omega) (by decide)))))) ?_
                refine Zs_sub (l' := [(5, .int (nI 0)), (4, .int (M 50 0)), (0, .ref 0), (2, .int what)]) rfl ?_
                exact TAIL _ _ _ hsc
            · refine Zs_eq hX (List.cons_ne_nil _ _) (fun _ => ?_) (fun q_z => False.elim (by revert q_z; decide))
              refine Zgo hX 2 rfl (by (first | exact True.intro | assumption | (dsimp only [ZallP]; and_intros <;> (first | assumption | decide | omega | ((try simp (disch := omega) only [pk_mul, nI_add, Zcl_n]); exact Zin_n (by omega) (by decide)))))) ?_
              refine Zs_sub (l' := [(5, .int (nI 0)), (4, .int (M 50 0)), (0, .ref 0), (2, .int what)]) rfl ?_
              exact TAIL _ _ _ (Sc.rf _)
          · refine Zgo hX 1 rfl (by (first | exact True.intro | assumption | (dsimp only [ZallP]; and_intros <;> (first | assumption | decide | omega | ((try simp (disch := omega) only [pk_mul, nI_add, Zcl_n]); exact Zin_n (by omega) (by decide)))))) ?_
            refine Zs_ne hX (List.cons_ne_nil _ _) (fun h5_z => ?_) (fun h5_z => ?_)
            · refine Zgo hX 1 rfl (by (first | exact True.intro | assumption | (dsimp only [ZallP]; and_intros <;> (first | assumption | decide | omega | ((try simp (disch := omega) only [pk_mul, nI_add, Zcl_n]); exact Zin_n (by omega) (by decide)))))) ?_
              refine Zs_ret hX hE rfl (Zq_e (Sc.rf _))
            · refine Zgo hX 2 rfl (by (first | exact True.intro | assumption | (dsimp only [ZallP]; and_intros <;> (first | assumption | decide | omega | ((try simp (disch := omega) only [pk_mul, nI_add, Zcl_n]); exact Zin_n (by omega) (by decide)))))) ?_
              refine Zs_ret hX hE rfl (Zq_e (Sc.rf _))
        · skip
          refine Zgo hX 2 rfl (by (first | exact True.intro | assumption | (dsimp only [ZallP]; and_intros <;> (first | assumption | decide | omega | ((try simp (disch := omega) only [pk_mul, nI_add, Zcl_n]); exact Zin_n (by omega) (by decide)))))) ?_
          refine Zs_callv hX (List.cons_ne_nil _ _) (k_refuse 2 _ (by decide)) (by first | decide | omega) (by decide) rfl rfl rfl (by decide) (Nat.le_of_ble_eq_true rfl) (fun r_z M' hc_z => ?_)
          obtain ⟨rfl, hsc⟩ := hc_z
          refine Zs_ret hX hE rfl (Zq_e hsc)
      · skip
        have es : M 51 2 = nI s_z := (hg_z 3 (by decide)).2.1.trans hs_z
        refine Zs_aald hX (List.cons_ne_nil _ _) (by decide) rfl (by decide) (j := _) rfl (by decide) (by decide) rfl ?_
        refine Zgo hX 3 rfl (by (first | exact True.intro | assumption | (dsimp only [ZallP]; and_intros <;> (first | assumption | decide | omega | ((try simp (disch := omega) only [pk_mul, nI_add, Zcl_n]); exact Zin_n (by omega) (by decide)))))) ?_
        refine Zs_ne hX (List.cons_ne_nil _ _) (fun h3_z => ?_) (fun h3_z => ?_)
        · refine Zgo hX 2 rfl (by (first | exact True.intro | assumption | (dsimp only [ZallP]; and_intros <;> (first | assumption | decide | omega | ((try simp (disch := omega) only [pk_mul, nI_add, Zcl_n]); exact Zin_n (by omega) (by decide)))))) ?_
          rw [es]
          refine Zs_ne hX (List.cons_ne_nil _ _) (fun h4_z => ?_) (fun h4_z => ?_)
          · have TAIL : ∀ (w5 w4 : Int32) (M1 : Zmem), Sc M M1 → ZP X Zt23 (Zsf Zt23 94) [(5, .int w5), (4, .int w4), (0, .ref 0), (2, .int what)] [] M1 := by
              intro w5 w4 M1 hsc
              refine Zgo hX 1 rfl (by (first | exact True.intro | assumption | (dsimp only [ZallP]; and_intros <;> (first | assumption | decide | omega | ((try simp (disch := omega) only [pk_mul, nI_add, Zcl_n]); exact Zin_n (by omega) (by decide)))))) ?_
              refine Zs_ne hX (List.cons_ne_nil _ _) (fun h5_z => ?_) (fun h5_z => ?_)
              · refine Zgo hX 1 rfl (by (first | exact True.intro | assumption | (dsimp only [ZallP]; and_intros <;> (first | assumption | decide | omega | ((try simp (disch := omega) only [pk_mul, nI_add, Zcl_n]); exact Zin_n (by omega) (by decide)))))) ?_
                refine Zs_eq hX (List.cons_ne_nil _ _) (fun h6_z => ?_) (fun h6_z => ?_)
                · refine Zgo hX 2 rfl (by (first | exact True.intro | assumption | (dsimp only [ZallP]; and_intros <;> (first | assumption | decide | omega | ((try simp (disch := omega) only [pk_mul, nI_add, Zcl_n]); exact Zin_n (by omega) (by decide)))))) ?_
                  refine Zs_callv hX (List.cons_ne_nil _ _) (k_refuse 2 _ (by decide)) (by first | decide | omega) (by decide) rfl rfl rfl (by decide) (Nat.le_of_ble_eq_true rfl) (fun r_z M' hc_z => ?_)
                  obtain ⟨rfl, hsc2⟩ := hc_z
                  refine Zs_ret hX hE rfl (Zq_e (hsc.tr hsc2))
                · refine Zgo hX 2 rfl (by (first | exact True.intro | assumption | (dsimp only [ZallP]; and_intros <;> (first | assumption | decide | omega | ((try simp (disch := omega) only [pk_mul, nI_add, Zcl_n]); exact Zin_n (by omega) (by decide)))))) ?_
                  refine Zs_ret hX hE rfl (Zq_e hsc)
              · refine Zgo hX 1 rfl (by (first | exact True.intro | assumption | (dsimp only [ZallP]; and_intros <;> (first | assumption | decide | omega | ((try simp (disch := omega) only [pk_mul, nI_add, Zcl_n]); exact Zin_n (by omega) (by decide)))))) ?_
                refine Zs_eq hX (List.cons_ne_nil _ _) (fun h6_z => ?_) (fun h6_z => ?_)
                · refine Zgo hX 1 rfl (by (first | exact True.intro | assumption | (dsimp only [ZallP]; and_intros <;> (first | assumption | decide | omega | ((try simp (disch := omega) only [pk_mul, nI_add, Zcl_n]); exact Zin_n (by omega) (by decide)))))) ?_
                  refine Zs_ret hX hE rfl (Zq_e hsc)
                · refine Zgo hX 2 rfl (by (first | exact True.intro | assumption | (dsimp only [ZallP]; and_intros <;> (first | assumption | decide | omega | ((try simp (disch := omega) only [pk_mul, nI_add, Zcl_n]); exact Zin_n (by omega) (by decide)))))) ?_
                  refine Zs_ret hX hE rfl (Zq_e hsc)
            refine Zgo hX 6 rfl (Zin_n (by decide) (by decide)) ?_
            try simp (disch := omega) only [Zcl_n, pk_mul, nI_add]
            refine Zs_calls hX (List.cons_ne_nil _ _) (by decide) (k_isWater _ _) (by first | decide | omega) rfl rfl (by decide) (Nat.le_of_ble_eq_true rfl) (fun r_z M' hc_z => ?_)
            rcases hc_z with ⟨⟨rfl, h7_z⟩ | ⟨rfl, h7_z⟩, rfl⟩
            · refine Zs_eq hX (List.cons_ne_nil _ _) (fun q_z => False.elim (by revert q_z; decide)) (fun _ => ?_)
              refine Zgo hX 3 rfl (by (first | exact True.intro | assumption | (dsimp only [ZallP]; and_intros <;> (first | assumption | decide | omega | ((try simp (disch := omega) only [pk_mul, nI_add, Zcl_n]); exact Zin_n (by omega) (by decide)))))) ?_
              refine Zs_callv hX (List.cons_ne_nil _ _) (k_comes3 f_z n_z _ s_z _ hz_z hfi hn_z hn2 es hs24) (by first | decide | omega) (by decide) rfl rfl rfl (by decide) (Nat.le_of_ble_eq_true rfl) (fun r_z M' hc_z => ?_)
              obtain ⟨hb_z, hsc⟩ := hc_z
              rcases hb_z with ⟨rfl, hb_z⟩ | ⟨rfl, hb_z⟩
              · refine Zs_eq hX (List.cons_ne_nil _ _) (fun q_z => False.elim (by revert q_z; decide)) (fun _ => ?_)
                refine Zgo hX 3 rfl (by (first | exact True.intro | assumption | (dsimp only [ZallP]; and_intros <;> (first | assumption | decide | omega | ((try simp (disch := omega) only [pk_mul, nI_add, Zcl_n]); exact Zin_n (by omega) (by decide)))))) ?_
                refine Zs_sub (l' := [(5, .int (nI 1)), (4, .int (M 52 0)), (0, .ref 0), (2, .int what)]) rfl ?_
                exact TAIL _ _ _ hsc
              · refine Zs_eq hX (List.cons_ne_nil _ _) (fun _ => ?_) (fun q_z => False.elim (by revert q_z; decide))
                refine Zgo hX 2 rfl (by (first | exact True.intro | assumption | (dsimp only [ZallP]; and_intros <;> (first | assumption | decide | omega | ((try simp (disch := omega) only [pk_mul, nI_add, Zcl_n]); exact Zin_n (by omega) (by decide)))))) ?_
                refine Zs_sub (l' := [(5, .int (nI 0)), (4, .int (M 52 0)), (0, .ref 0), (2, .int what)]) rfl ?_
                exact TAIL _ _ _ hsc
            · refine Zs_eq hX (List.cons_ne_nil _ _) (fun _ => ?_) (fun q_z => False.elim (by revert q_z; decide))
              refine Zgo hX 2 rfl (by (first | exact True.intro | assumption | (dsimp only [ZallP]; and_intros <;> (first | assumption | decide | omega | ((try simp (disch := omega) only [pk_mul, nI_add, Zcl_n]); exact Zin_n (by omega) (by decide)))))) ?_
              refine Zs_sub (l' := [(5, .int (nI 0)), (4, .int (M 52 0)), (0, .ref 0), (2, .int what)]) rfl ?_
              exact TAIL _ _ _ (Sc.rf _)
          · refine Zgo hX 1 rfl (by (first | exact True.intro | assumption | (dsimp only [ZallP]; and_intros <;> (first | assumption | decide | omega | ((try simp (disch := omega) only [pk_mul, nI_add, Zcl_n]); exact Zin_n (by omega) (by decide)))))) ?_
            refine Zs_ne hX (List.cons_ne_nil _ _) (fun h5_z => ?_) (fun h5_z => ?_)
            · refine Zgo hX 1 rfl (by (first | exact True.intro | assumption | (dsimp only [ZallP]; and_intros <;> (first | assumption | decide | omega | ((try simp (disch := omega) only [pk_mul, nI_add, Zcl_n]); exact Zin_n (by omega) (by decide)))))) ?_
              refine Zs_ret hX hE rfl (Zq_e (Sc.rf _))
            · refine Zgo hX 2 rfl (by (first | exact True.intro | assumption | (dsimp only [ZallP]; and_intros <;> (first | assumption | decide | omega | ((try simp (disch := omega) only [pk_mul, nI_add, Zcl_n]); exact Zin_n (by omega) (by decide)))))) ?_
              refine Zs_ret hX hE rfl (Zq_e (Sc.rf _))
        · skip
          refine Zgo hX 2 rfl (by (first | exact True.intro | assumption | (dsimp only [ZallP]; and_intros <;> (first | assumption | decide | omega | ((try simp (disch := omega) only [pk_mul, nI_add, Zcl_n]); exact Zin_n (by omega) (by decide)))))) ?_
          refine Zs_callv hX (List.cons_ne_nil _ _) (k_refuse 2 _ (by decide)) (by first | decide | omega) (by decide) rfl rfl rfl (by decide) (Nat.le_of_ble_eq_true rfl) (fun r_z M' hc_z => ?_)
          obtain ⟨rfl, hsc⟩ := hc_z
          refine Zs_ret hX hE rfl (Zq_e hsc)
    · refine Zs_ne hX (List.cons_ne_nil _ _) (fun q_z => False.elim (by revert q_z; decide)) (fun _ => ?_)
      exact BAD
  · refine Zs_eq hX (List.cons_ne_nil _ _) (fun _ => ?_) (fun q_z => False.elim (by revert q_z; decide))
    exact BAD

set_option maxRecDepth 20000 in
set_option maxHeartbeats 4000000 in
theorem s_fits (n_z : Nat) (sh what : Int32) (M : Zmem) (hi_z : Zsiv (Zgs M)) (hfi : Zfi (M 54)) (hn_z : M 54 7 = nI n_z) (hn2 : n_z ≤ 15) : ZC 112 6 [.ref 53, .int sh, .int what] M (Zq M) := by
  refine ZC_of Zt112 Zk112 (Nat.le_of_ble_eq_true rfl) (by decide) rfl (fun X hX hE => ?_)
  have TELL : ∀ (k_z : Nat) (l : List (Nat × Value)), 1 ≤ k_z ∧ k_z ≤ 6 → Zget l 0 = some (.ref 53) → Zget l 3 = some (.int (nI k_z)) → l = [(3, .int (nI k_z)), (0, .ref 53)] → ZP X Zt112 (Zsf Zt112 23) l [] M := by
    rintro k_z l hk_z - - rfl
    refine Zgo hX 2 rfl (by (first | exact True.intro | assumption | (dsimp only [ZallP]; and_intros <;> (first | assumption | decide | omega | ((try simp (disch := omega) only [pk_mul, nI_add, Zcl_n]); exact Zin_n (by omega) (by decide)))))) ?_
    refine Zs_callv hX (List.cons_ne_nil _ _) (s_error k_z _ hk_z) (by first | decide | omega) (by decide) rfl rfl rfl (by decide) (Nat.le_of_ble_eq_true rfl) (fun r_z M' hc_z => ?_)
    obtain ⟨rfl, hsc⟩ := hc_z
    refine Zs_ret hX hE rfl (Zq_e hsc)
  refine Zgo hX 3 rfl (by (first | exact True.intro | assumption | (dsimp only [ZallP]; and_intros <;> (first | assumption | decide | omega | ((try simp (disch := omega) only [pk_mul, nI_add, Zcl_n]); exact Zin_n (by omega) (by decide)))))) ?_
  refine Zs_calls hX (List.cons_ne_nil _ _) (by decide) (s_in _ _ _ _) (by first | decide | omega) rfl rfl (by decide) (Nat.le_of_ble_eq_true rfl) (fun r_z M' hc_z => ?_)
  rcases hc_z with ⟨⟨rfl, h1_z⟩ | ⟨rfl, h1_z⟩, rfl⟩
  · refine Zs_eq hX (List.cons_ne_nil _ _) (fun q_z => False.elim (by revert q_z; decide)) (fun _ => ?_)
    refine Zgo hX 2 rfl (by (first | exact True.intro | assumption | (dsimp only [ZallP]; and_intros <;> (first | assumption | decide | omega | ((try simp (disch := omega) only [pk_mul, nI_add, Zcl_n]); exact Zin_n (by omega) (by decide)))))) ?_
    refine Zs_callv hX (List.cons_ne_nil _ _) (s_why sh M) (by first | decide | omega) (by decide) rfl rfl rfl (by decide) (Nat.le_of_ble_eq_true rfl) (fun r_z M' hc_z => ?_)
    obtain ⟨rfl, rfl⟩ := hc_z
    rcases Fwhy_lt (Zgs M) sh with hw_z | hw_z | hw_z
    · rw [hw_z]
      refine Zgo hX 3 rfl (by (first | exact True.intro | assumption | (dsimp only [ZallP]; and_intros <;> (first | assumption | decide | omega | ((try simp (disch := omega) only [pk_mul, nI_add, Zcl_n]); exact Zin_n (by omega) (by decide)))))) ?_
      refine Zs_eq hX (List.cons_ne_nil _ _) (fun _ => ?_) (fun q_z => False.elim (by revert q_z; decide))
      obtain ⟨t, ht_z, rfl, et, hb0⟩ := Fwhy_0 hw_z
      obtain ⟨hbt, s_z, hs24, hs_z⟩ := hi_z t ht_z
      have L : ∀ (m_z : Nat) (mn le : Int32) (M1 : Zmem), m_z ≤ 1000 → Sc M M1 → ZP X Zt112 (Zsf Zt112 48) [(4, .int mn), (5, .int le), (6, .int (nI s_z)), (7, .int (nI m_z - nI 1)), (0, .ref 53), (1, .int (nI t)), (2, .int what)] [] M1 := by
        intro m_z
        induction m_z with
        | zero =>
          intro mn le M1 hm_z hsc
          refine Zgo hX 1 rfl (by (first | exact True.intro | assumption | (dsimp only [ZallP]; and_intros <;> (first | assumption | decide | omega | ((try simp (disch := omega) only [pk_mul, nI_add, Zcl_n]); exact Zin_n (by omega) (by decide)))))) ?_
          refine Zs_lt hX (List.cons_ne_nil _ _) (fun _ => ?_) (fun q_z => False.elim (by revert q_z; decide))
          refine Zgo hX 1 rfl (by (first | exact True.intro | assumption | (dsimp only [ZallP]; and_intros <;> (first | assumption | decide | omega | ((try simp (disch := omega) only [pk_mul, nI_add, Zcl_n]); exact Zin_n (by omega) (by decide)))))) ?_
          refine Zs_ne hX (List.cons_ne_nil _ _) (fun h5_z => ?_) (fun h5_z => ?_)
          · refine Zgo hX 2 rfl (by (first | exact True.intro | assumption | (dsimp only [ZallP]; and_intros <;> (first | assumption | decide | omega | ((try simp (disch := omega) only [pk_mul, nI_add, Zcl_n]); exact Zin_n (by omega) (by decide)))))) ?_
            refine Zs_ine hX (List.cons_ne_nil _ _) (fun h6_z => ?_) (fun h6_z => ?_)
            · refine Zgo hX 1 rfl (by (first | exact True.intro | assumption | (dsimp only [ZallP]; and_intros <;> (first | assumption | decide | omega | ((try simp (disch := omega) only [pk_mul, nI_add, Zcl_n]); exact Zin_n (by omega) (by decide)))))) ?_
              refine Zs_ret hX hE rfl (Zq_e hsc)
            · refine Zgo hX 2 rfl (by (first | exact True.intro | assumption | (dsimp only [ZallP]; and_intros <;> (first | assumption | decide | omega | ((try simp (disch := omega) only [pk_mul, nI_add, Zcl_n]); exact Zin_n (by omega) (by decide)))))) ?_
              refine Zs_callv hX (List.cons_ne_nil _ _) (s_error 2 _ (by decide)) (by first | decide | omega) (by decide) rfl rfl rfl (by decide) (Nat.le_of_ble_eq_true rfl) (fun r_z M' hc_z => ?_)
              obtain ⟨rfl, hsc2⟩ := hc_z
              refine Zgo hX 1 rfl (by (first | exact True.intro | assumption | (dsimp only [ZallP]; and_intros <;> (first | assumption | decide | omega | ((try simp (disch := omega) only [pk_mul, nI_add, Zcl_n]); exact Zin_n (by omega) (by decide)))))) ?_
              refine Zs_ret hX hE rfl (Zq_e (hsc.tr hsc2))
          · refine Zgo hX 2 rfl (by (first | exact True.intro | assumption | (dsimp only [ZallP]; and_intros <;> (first | assumption | decide | omega | ((try simp (disch := omega) only [pk_mul, nI_add, Zcl_n]); exact Zin_n (by omega) (by decide)))))) ?_
            refine Zs_ret hX hE rfl (Zq_e hsc)
        | succ m_z ih_z =>
          intro mn le M1 hm_z hsc
          have NEXT : ∀ (v_z le2 : Int32) (M2 : Zmem), Sc M M2 → ZP X Zt112 (Zsf Zt112 182) [(4, .int v_z), (5, .int le), (6, .int (nI s_z)), (7, .int (nI m_z)), (0, .ref 53), (1, .int (nI t)), (2, .int what)] [.int le2] M2 := by
            intro v_z le2 M2 hsc2
            refine Zgo hX 3 rfl (by (first | exact True.intro | assumption | (dsimp only [ZallP]; and_intros <;> (first | assumption | decide | omega | ((try simp (disch := omega) only [pk_mul, nI_add, Zcl_n]); exact Zin_n (by omega) (by decide)))))) ?_
            rw [← Int32.sub_eq_add_neg]
            refine Zs_sub (l' := [(4, .int v_z), (5, .int le2), (6, .int (nI s_z)), (7, .int (nI m_z - nI 1)), (0, .ref 53), (1, .int (nI t)), (2, .int what)]) rfl ?_
            exact ih_z v_z le2 M2 (by omega) hsc2
          have END : ∀ (w_z : Int32) (k_z : Nat) (M2 : Zmem), Sc M M2 → ZP X Zt112 (Zsf Zt112 155) [(8, .int w_z), (9, .int (nI k_z)), (4, .int mn), (5, .int le), (6, .int (nI s_z)), (7, .int (nI m_z)), (0, .ref 53), (1, .int (nI t)), (2, .int what)] [] M2 := by
            intro w_z k_z M2 hsc2
            refine Zgo hX 2 rfl (by (first | exact True.intro | assumption | (dsimp only [ZallP]; and_intros <;> (first | assumption | decide | omega | ((try simp (disch := omega) only [pk_mul, nI_add, Zcl_n]); exact Zin_n (by omega) (by decide)))))) ?_
            refine Zs_eq hX (List.cons_ne_nil _ _) (fun h5_z => ?_) (fun h5_z => ?_)
            · refine Zgo hX 4 rfl (by (first | exact True.intro | assumption | (dsimp only [ZallP]; and_intros <;> (first | assumption | decide | omega | ((try simp (disch := omega) only [pk_mul, nI_add, Zcl_n]); exact Zin_n (by omega) (by decide)))))) ?_
              refine Zs_eq hX (List.cons_ne_nil _ _) (fun h6_z => ?_) (fun h6_z => ?_)
              · refine Zgo hX 1 rfl (by (first | exact True.intro | assumption | (dsimp only [ZallP]; and_intros <;> (first | assumption | decide | omega | ((try simp (disch := omega) only [pk_mul, nI_add, Zcl_n]); exact Zin_n (by omega) (by decide)))))) ?_
                refine Zs_sub (l' := [(4, .int (mn + nI 0)), (5, .int le), (6, .int (nI s_z)), (7, .int (nI m_z)), (0, .ref 53), (1, .int (nI t)), (2, .int what)]) rfl ?_
                exact NEXT _ _ M2 hsc2
              · refine Zgo hX 2 rfl (by (first | exact True.intro | assumption | (dsimp only [ZallP]; and_intros <;> (first | assumption | decide | omega | ((try simp (disch := omega) only [pk_mul, nI_add, Zcl_n]); exact Zin_n (by omega) (by decide)))))) ?_
                refine Zs_sub (l' := [(4, .int (mn + nI 0)), (5, .int le), (6, .int (nI s_z)), (7, .int (nI m_z)), (0, .ref 53), (1, .int (nI t)), (2, .int what)]) rfl ?_
                exact NEXT _ _ M2 hsc2
            · refine Zgo hX 5 rfl (by (first | exact True.intro | assumption | (dsimp only [ZallP]; and_intros <;> (first | assumption | decide | omega | ((try simp (disch := omega) only [pk_mul, nI_add, Zcl_n]); exact Zin_n (by omega) (by decide)))))) ?_
              refine Zs_eq hX (List.cons_ne_nil _ _) (fun h6_z => ?_) (fun h6_z => ?_)
              · refine Zgo hX 1 rfl (by (first | exact True.intro | assumption | (dsimp only [ZallP]; and_intros <;> (first | assumption | decide | omega | ((try simp (disch := omega) only [pk_mul, nI_add, Zcl_n]); exact Zin_n (by omega) (by decide)))))) ?_
                refine Zs_sub (l' := [(4, .int (mn + nI 1)), (5, .int le), (6, .int (nI s_z)), (7, .int (nI m_z)), (0, .ref 53), (1, .int (nI t)), (2, .int what)]) rfl ?_
                exact NEXT _ _ M2 hsc2
              · refine Zgo hX 2 rfl (by (first | exact True.intro | assumption | (dsimp only [ZallP]; and_intros <;> (first | assumption | decide | omega | ((try simp (disch := omega) only [pk_mul, nI_add, Zcl_n]); exact Zin_n (by omega) (by decide)))))) ?_
                refine Zs_sub (l' := [(4, .int (mn + nI 1)), (5, .int le), (6, .int (nI s_z)), (7, .int (nI m_z)), (0, .ref 53), (1, .int (nI t)), (2, .int what)]) rfl ?_
                exact NEXT _ _ M2 hsc2
          have I : ∀ (q_z k_z : Nat) (w_z : Int32) (M2 : Zmem), k_z + q_z = s_z → Sc M M2 → (w_z = 0 ∨ s_z ≤ n_z + 1) → ZP X Zt112 (Zsf Zt112 108) [(8, .int w_z), (9, .int (nI k_z)), (4, .int mn), (5, .int le), (6, .int (nI s_z)), (7, .int (nI m_z)), (0, .ref 53), (1, .int (nI t)), (2, .int what)] [] M2 := by
            intro q_z
            induction q_z with
            | zero =>
              intro k_z w_z M2 hk_z hsc2 hw2
              refine Zgo hX 2 rfl (by (first | exact True.intro | assumption | (dsimp only [ZallP]; and_intros <;> (first | assumption | decide | omega | ((try simp (disch := omega) only [pk_mul, nI_add, Zcl_n]); exact Zin_n (by omega) (by decide)))))) ?_
              refine Zs_ige hX (List.cons_ne_nil _ _) (fun h5_z => ?_) (fun h5_z => ?_)
              · exact END w_z k_z M2 hsc2
              · exact absurd ((Zn_le (by omega) (by omega)).mpr (by omega)) h5_z
            | succ q_z ihq =>
              intro k_z w_z M2 hk_z hsc2 hw2
              refine Zgo hX 2 rfl (by (first | exact True.intro | assumption | (dsimp only [ZallP]; and_intros <;> (first | assumption | decide | omega | ((try simp (disch := omega) only [pk_mul, nI_add, Zcl_n]); exact Zin_n (by omega) (by decide)))))) ?_
              refine Zs_ige hX (List.cons_ne_nil _ _) (fun h5_z => ?_) (fun h5_z => ?_)
              · exact END w_z k_z M2 hsc2
              · refine Zgo hX 1 rfl (by (first | exact True.intro | assumption | (dsimp only [ZallP]; and_intros <;> (first | assumption | decide | omega | ((try simp (disch := omega) only [pk_mul, nI_add, Zcl_n]); exact Zin_n (by omega) (by decide)))))) ?_
                refine Zs_eq hX (List.cons_ne_nil _ _) (fun h6_z => ?_) (fun h6_z => ?_)
                · exact END w_z k_z M2 hsc2
                · have hsn : s_z ≤ n_z + 1 := hw2.elim (fun q_z => absurd q_z h6_z) id
                  refine Zgo hX 12 rfl (by dsimp only [ZallP]; simp only [pk_mul, nI_add]; exact ⟨Zin_n (by omega) (by decide), Zin_n (by omega) (by decide)⟩) ?_
                  refine Zs_ine hX (List.cons_ne_nil _ _) (fun h7_z => ?_) (fun h7_z => ?_)
                  · refine Zgo hX 4 rfl (by (first | exact True.intro | assumption | (dsimp only [ZallP]; and_intros <;> (first | assumption | decide | omega | ((try simp (disch := omega) only [pk_mul, nI_add, Zcl_n]); exact Zin_n (by omega) (by decide)))))) ?_
                    rw [nI_add]
                    refine Zs_sub (l' := [(8, .int (nI 0)), (9, .int (nI (k_z + 1))), (4, .int mn), (5, .int le), (6, .int (nI s_z)), (7, .int (nI m_z)), (0, .ref 53), (1, .int (nI t)), (2, .int what)]) rfl ?_
                    exact ihq (k_z + 1) _ M2 (by omega) hsc2 (Or.inl rfl)
                  · refine Zgo hX 5 rfl (by (first | exact True.intro | assumption | (dsimp only [ZallP]; and_intros <;> (first | assumption | decide | omega | ((try simp (disch := omega) only [pk_mul, nI_add, Zcl_n]); exact Zin_n (by omega) (by decide)))))) ?_
                    rw [nI_add]
                    refine Zs_sub (l' := [(8, .int (nI 1)), (9, .int (nI (k_z + 1))), (4, .int mn), (5, .int le), (6, .int (nI s_z)), (7, .int (nI m_z)), (0, .ref 53), (1, .int (nI t)), (2, .int what)]) rfl ?_
                    exact ihq (k_z + 1) _ M2 (by omega) hsc2 (Or.inr hsn)
          have IS : ∀ (v_z : Int32), (v_z = 0 ∨ s_z ≤ n_z + 1) → ZP X Zt112 (Zsf Zt112 91) [(4, .int mn), (5, .int le), (6, .int (nI s_z)), (7, .int (nI m_z)), (0, .ref 53), (1, .int (nI t)), (2, .int what)] [.int v_z] M1 := by
            intro v_z hv_z
            refine Zgo hX 2 rfl (by (first | exact True.intro | assumption | (dsimp only [ZallP]; and_intros <;> (first | assumption | decide | omega | ((try simp (disch := omega) only [pk_mul, nI_add, Zcl_n]); exact Zin_n (by omega) (by decide)))))) ?_
            refine Zs_eq hX (List.cons_ne_nil _ _) (fun h5_z => ?_) (fun h5_z => ?_)
            · refine Zgo hX 2 rfl (by (first | exact True.intro | assumption | (dsimp only [ZallP]; and_intros <;> (first | assumption | decide | omega | ((try simp (disch := omega) only [pk_mul, nI_add, Zcl_n]); exact Zin_n (by omega) (by decide)))))) ?_
              refine Zs_sub (l' := [(8, .int v_z), (9, .int (nI 0)), (4, .int mn), (5, .int le), (6, .int (nI s_z)), (7, .int (nI m_z)), (0, .ref 53), (1, .int (nI t)), (2, .int what)]) rfl ?_
              exact I s_z 0 v_z M1 (by omega) hsc hv_z
            · refine Zgo hX 3 rfl (by (first | exact True.intro | assumption | (dsimp only [ZallP]; and_intros <;> (first | assumption | decide | omega | ((try simp (disch := omega) only [pk_mul, nI_add, Zcl_n]); exact Zin_n (by omega) (by decide)))))) ?_
              refine Zs_callv hX (List.cons_ne_nil _ _) (s_letDown n_z (nI m_z) (nI 0) M1 (by rw [hsc.f54]; exact hfi) (by rw [hsc.f54]; exact hn_z) hn2) (by first | decide | omega) (by decide) rfl rfl rfl (by decide) (Nat.le_of_ble_eq_true rfl) (fun r_z M' hc_z => ?_)
              obtain ⟨rfl, hsc2, -, -⟩ := hc_z
              refine Zgo hX 2 rfl (by (first | exact True.intro | assumption | (dsimp only [ZallP]; and_intros <;> (first | assumption | decide | omega | ((try simp (disch := omega) only [pk_mul, nI_add, Zcl_n]); exact Zin_n (by omega) (by decide)))))) ?_
              refine Zs_sub (l' := [(8, .int v_z), (9, .int (nI 0)), (4, .int mn), (5, .int le), (6, .int (nI s_z)), (7, .int (nI m_z)), (0, .ref 53), (1, .int (nI t)), (2, .int what)]) rfl ?_
              exact I s_z 0 v_z M' (by omega) (hsc.tr hsc2) hv_z
          rw [Zpr]
          refine Zgo hX 1 rfl (by (first | exact True.intro | assumption | (dsimp only [ZallP]; and_intros <;> (first | assumption | decide | omega | ((try simp (disch := omega) only [pk_mul, nI_add, Zcl_n]); exact Zin_n (by omega) (by decide)))))) ?_
          refine Zs_lt hX (List.cons_ne_nil _ _) (fun q_z => False.elim ((absurd q_z (Zn_nlt0 (by omega))))) (fun _ => ?_)
          refine Zgo hX 7 rfl (Zin_n (by decide) (by decide)) ?_
          try simp (disch := omega) only [Zcl_n, pk_mul, nI_add]
          rw [hsc.f54, hn_z, nI_add]
          refine Zs_igt hX (List.cons_ne_nil _ _) (fun h3_z => ?_) (fun h3_z => ?_)
          · refine Zgo hX 1 rfl (by (first | exact True.intro | assumption | (dsimp only [ZallP]; and_intros <;> (first | assumption | decide | omega | ((try simp (disch := omega) only [pk_mul, nI_add, Zcl_n]); exact Zin_n (by omega) (by decide)))))) ?_
            refine Zs_sub (l' := [(4, .int mn), (5, .int le), (6, .int (nI s_z)), (7, .int (nI m_z)), (0, .ref 53), (1, .int (nI t)), (2, .int what)]) rfl ?_
            exact IS _ (Or.inl rfl)
          · have hsn : s_z ≤ n_z + 1 := (Nat.lt_or_ge (n_z + 1) s_z).elim (fun q_z => absurd ((Zn_lt (by omega) (by omega)).mpr q_z) h3_z) id
            refine Zgo hX 1 rfl (by (first | exact True.intro | assumption | (dsimp only [ZallP]; and_intros <;> (first | assumption | decide | omega | ((try simp (disch := omega) only [pk_mul, nI_add, Zcl_n]); exact Zin_n (by omega) (by decide)))))) ?_
            refine Zs_eq hX (List.cons_ne_nil _ _) (fun h4_z => ?_) (fun h4_z => ?_)
            · refine Zgo hX 2 rfl (by (first | exact True.intro | assumption | (dsimp only [ZallP]; and_intros <;> (first | assumption | decide | omega | ((try simp (disch := omega) only [pk_mul, nI_add, Zcl_n]); exact Zin_n (by omega) (by decide)))))) ?_
              refine Zs_sub (l' := [(4, .int mn), (5, .int le), (6, .int (nI s_z)), (7, .int (nI m_z)), (0, .ref 53), (1, .int (nI t)), (2, .int what)]) rfl ?_
              exact IS _ (Or.inr hsn)
            · refine Zgo hX 7 rfl (by rw [pk_mul]; exact Zin_n (by omega) (by decide)) ?_
              refine Zs_ine hX (List.cons_ne_nil _ _) (fun h5_z => ?_) (fun h5_z => ?_)
              · refine Zgo hX 1 rfl (by (first | exact True.intro | assumption | (dsimp only [ZallP]; and_intros <;> (first | assumption | decide | omega | ((try simp (disch := omega) only [pk_mul, nI_add, Zcl_n]); exact Zin_n (by omega) (by decide)))))) ?_
                refine Zs_sub (l' := [(4, .int mn), (5, .int le), (6, .int (nI s_z)), (7, .int (nI m_z)), (0, .ref 53), (1, .int (nI t)), (2, .int what)]) rfl ?_
                exact IS _ (Or.inl rfl)
              · refine Zgo hX 2 rfl (by (first | exact True.intro | assumption | (dsimp only [ZallP]; and_intros <;> (first | assumption | decide | omega | ((try simp (disch := omega) only [pk_mul, nI_add, Zcl_n]); exact Zin_n (by omega) (by decide)))))) ?_
                refine Zs_sub (l' := [(4, .int mn), (5, .int le), (6, .int (nI s_z)), (7, .int (nI m_z)), (0, .ref 53), (1, .int (nI t)), (2, .int what)]) rfl ?_
                exact IS _ (Or.inr hsn)
      refine Zgo hX 11 rfl (Zin_n (by omega) (by decide)) ?_
      rw [et, show M 67 t = nI s_z from hs_z]
      refine Zs_sub (l' := [(4, .int (nI 0)), (5, .int (-(nI 1))), (6, .int (nI s_z)), (7, .int (nI 1000 - nI 1)), (0, .ref 53), (1, .int (nI t)), (2, .int what)]) rfl ?_
      exact L 1000 _ _ M (by decide) (Sc.rf _)
    · rw [hw_z]
      refine Zgo hX 3 rfl (by (first | exact True.intro | assumption | (dsimp only [ZallP]; and_intros <;> (first | assumption | decide | omega | ((try simp (disch := omega) only [pk_mul, nI_add, Zcl_n]); exact Zin_n (by omega) (by decide)))))) ?_
      refine Zs_eq hX (List.cons_ne_nil _ _) (fun q_z => False.elim (by revert q_z; decide)) (fun _ => ?_)
      refine Zs_sub (l' := [(3, .int (nI 1)), (0, .ref 53)]) rfl ?_
      exact TELL 1 _ (by decide) rfl rfl rfl
    · rw [hw_z]
      refine Zgo hX 3 rfl (by (first | exact True.intro | assumption | (dsimp only [ZallP]; and_intros <;> (first | assumption | decide | omega | ((try simp (disch := omega) only [pk_mul, nI_add, Zcl_n]); exact Zin_n (by omega) (by decide)))))) ?_
      refine Zs_eq hX (List.cons_ne_nil _ _) (fun q_z => False.elim (by revert q_z; decide)) (fun _ => ?_)
      refine Zs_sub (l' := [(3, .int (nI 2)), (0, .ref 53)]) rfl ?_
      exact TELL 2 _ (by decide) rfl rfl rfl
  · refine Zs_eq hX (List.cons_ne_nil _ _) (fun _ => ?_) (fun q_z => False.elim (by revert q_z; decide))
    refine Zgo hX 3 rfl (by (first | exact True.intro | assumption | (dsimp only [ZallP]; and_intros <;> (first | assumption | decide | omega | ((try simp (disch := omega) only [pk_mul, nI_add, Zcl_n]); exact Zin_n (by omega) (by decide)))))) ?_
    refine Zs_eq hX (List.cons_ne_nil _ _) (fun q_z => False.elim (by revert q_z; decide)) (fun _ => ?_)
    refine Zs_sub (l' := [(3, .int (nI 1)), (0, .ref 53)]) rfl ?_
    exact TELL 1 _ (by decide) rfl rfl rfl

set_option maxRecDepth 20000 in
set_option maxHeartbeats 1000000 in
theorem k_body (i_z : Int32) (a_z : Nat) (M : Zmem) (ht_z : M 40 1 = nI a_z) (ha_z : a_z ≤ 30) : ZC 25 2 [.ref 0, .int i_z] M (Zq M) := by
  refine ZC_of Zt25 Zk25 (Nat.le_of_ble_eq_true rfl) (by decide) rfl (fun X hX hE => ?_)
  refine Zgo hX 7 rfl (by (first | exact True.intro | assumption | (dsimp only [ZallP]; and_intros <;> (first | assumption | decide | omega | ((try simp (disch := omega) only [pk_mul, nI_add, Zcl_n]); exact Zin_n (by omega) (by decide)))))) ?_
  rw [ht_z]
  refine Zs_calls hX (List.cons_ne_nil _ _) (by decide) (k_within _ _ _ _) (by first | decide | omega) rfl rfl (by decide) (Nat.le_of_ble_eq_true rfl) (fun r_z M' hc_z => ?_)
  rcases hc_z with ⟨⟨rfl, h1_z⟩ | ⟨rfl, h1_z⟩, rfl⟩
  · refine Zs_eq hX (List.cons_ne_nil _ _) (fun q_z => False.elim (by revert q_z; decide)) (fun _ => ?_)
    obtain ⟨j_z, hj_z, rfl⟩ := (Zbw (by omega)).mp h1_z
    refine Zgo hX 6 rfl (Zin_n (by omega) (by decide)) ?_
    refine Zs_ret hX hE rfl (Zq_e (Sc.rf _))
  · refine Zs_eq hX (List.cons_ne_nil _ _) (fun _ => ?_) (fun q_z => False.elim (by revert q_z; decide))
    refine Zgo hX 2 rfl (by (first | exact True.intro | assumption | (dsimp only [ZallP]; and_intros <;> (first | assumption | decide | omega | ((try simp (disch := omega) only [pk_mul, nI_add, Zcl_n]); exact Zin_n (by omega) (by decide)))))) ?_
    refine Zs_callv hX (List.cons_ne_nil _ _) (k_refuse 2 _ (by decide)) (by first | decide | omega) (by decide) rfl rfl rfl (by decide) (Nat.le_of_ble_eq_true rfl) (fun r_z M' hc_z => ?_)
    obtain ⟨rfl, hsc⟩ := hc_z
    refine Zs_ret hX hE rfl (Zq_e hsc)

set_option maxRecDepth 20000 in
set_option maxHeartbeats 1000000 in
theorem k_told (k_z : Int32) (M : Zmem) : ZC 36 2 [.ref 0, .int k_z] M (Zq M) := by
  refine ZC_of Zt36 Zk36 (Nat.le_of_ble_eq_true rfl) (by decide) rfl (fun X hX hE => ?_)
  refine Zgo hX 3 rfl (by (first | exact True.intro | assumption | (dsimp only [ZallP]; and_intros <;> (first | assumption | decide | omega | ((try simp (disch := omega) only [pk_mul, nI_add, Zcl_n]); exact Zin_n (by omega) (by decide)))))) ?_
  refine Zs_calls hX (List.cons_ne_nil _ _) (by decide) (k_within _ _ _ _) (by first | decide | omega) rfl rfl (by decide) (Nat.le_of_ble_eq_true rfl) (fun r_z M' hc_z => ?_)
  rcases hc_z with ⟨⟨rfl, h1_z⟩ | ⟨rfl, h1_z⟩, rfl⟩
  · refine Zs_eq hX (List.cons_ne_nil _ _) (fun q_z => False.elim (by revert q_z; decide)) (fun _ => ?_)
    obtain ⟨j_z, hj_z, rfl⟩ := Zbt_ex (b_z := 6) (by decide) ⟨Int32.le_trans (by decide) h1_z.1, h1_z.2⟩
    refine Zgo hX 5 rfl (Zin_n (by omega) (by decide)) ?_
    refine Zs_ret hX hE rfl (Zq_e (Sc.rf _))
  · refine Zs_eq hX (List.cons_ne_nil _ _) (fun _ => ?_) (fun q_z => False.elim (by revert q_z; decide))
    refine Zgo hX 2 rfl (by (first | exact True.intro | assumption | (dsimp only [ZallP]; and_intros <;> (first | assumption | decide | omega | ((try simp (disch := omega) only [pk_mul, nI_add, Zcl_n]); exact Zin_n (by omega) (by decide)))))) ?_
    refine Zs_callv hX (List.cons_ne_nil _ _) (k_refuse 1 _ (by decide)) (by first | decide | omega) (by decide) rfl rfl rfl (by decide) (Nat.le_of_ble_eq_true rfl) (fun r_z M' hc_z => ?_)
    obtain ⟨rfl, hsc⟩ := hc_z
    refine Zs_ret hX hE rfl (Zq_e hsc)

set_option maxRecDepth 20000 in
set_option maxHeartbeats 1000000 in
theorem k_count (what : Int32) (M : Zmem) : ZC 35 2 [.ref 0, .int what] M (Zq M) := by
  refine ZC_of Zt35 Zk35 (Nat.le_of_ble_eq_true rfl) (by decide) rfl (fun X hX hE => ?_)
  refine Zgo hX 1 rfl (by (first | exact True.intro | assumption | (dsimp only [ZallP]; and_intros <;> (first | assumption | decide | omega | ((try simp (disch := omega) only [pk_mul, nI_add, Zcl_n]); exact Zin_n (by omega) (by decide)))))) ?_
  by_cases h2_z : nI 0 ≤ what ∧ what ≤ nI 8
  · obtain ⟨w_z, hw_z, rfl⟩ := Zbt_ex (b_z := 8) (by decide) h2_z
    rcases (show w_z = 0 ∨ w_z = 1 ∨ w_z = 2 ∨ w_z = 3 ∨ w_z = 4 ∨ w_z = 5 ∨ w_z = 6 ∨ w_z = 7 ∨ w_z = 8 by omega) with rfl | rfl | rfl | rfl | rfl | rfl | rfl | rfl | rfl
    · refine Zs_sw [(nI 0, 52), (nI 1, 60), (nI 2, 68), (nI 3, 76), (nI 4, 84), (nI 5, 92), (nI 6, 100), (nI 7, 108), (nI 8, 116)] 124 hX (by decide +kernel) (by decide +kernel) (t := 52) ((by decide +kernel)) ?_
      refine Zgo hX 3 rfl (by (first | exact True.intro | assumption | (dsimp only [ZallP]; and_intros <;> (first | assumption | decide | omega | ((try simp (disch := omega) only [pk_mul, nI_add, Zcl_n]); exact Zin_n (by omega) (by decide)))))) ?_
      refine Zs_ret hX hE rfl (Zq_e (Sc.rf _))
    · refine Zs_sw [(nI 0, 52), (nI 1, 60), (nI 2, 68), (nI 3, 76), (nI 4, 84), (nI 5, 92), (nI 6, 100), (nI 7, 108), (nI 8, 116)] 124 hX (by decide +kernel) (by decide +kernel) (t := 60) ((by decide +kernel)) ?_
      refine Zgo hX 3 rfl (by (first | exact True.intro | assumption | (dsimp only [ZallP]; and_intros <;> (first | assumption | decide | omega | ((try simp (disch := omega) only [pk_mul, nI_add, Zcl_n]); exact Zin_n (by omega) (by decide)))))) ?_
      refine Zs_ret hX hE rfl (Zq_e (Sc.rf _))
    · refine Zs_sw [(nI 0, 52), (nI 1, 60), (nI 2, 68), (nI 3, 76), (nI 4, 84), (nI 5, 92), (nI 6, 100), (nI 7, 108), (nI 8, 116)] 124 hX (by decide +kernel) (by decide +kernel) (t := 68) ((by decide +kernel)) ?_
      refine Zgo hX 3 rfl (by (first | exact True.intro | assumption | (dsimp only [ZallP]; and_intros <;> (first | assumption | decide | omega | ((try simp (disch := omega) only [pk_mul, nI_add, Zcl_n]); exact Zin_n (by omega) (by decide)))))) ?_
      refine Zs_ret hX hE rfl (Zq_e (Sc.rf _))
    · refine Zs_sw [(nI 0, 52), (nI 1, 60), (nI 2, 68), (nI 3, 76), (nI 4, 84), (nI 5, 92), (nI 6, 100), (nI 7, 108), (nI 8, 116)] 124 hX (by decide +kernel) (by decide +kernel) (t := 76) ((by decide +kernel)) ?_
      refine Zgo hX 3 rfl (by (first | exact True.intro | assumption | (dsimp only [ZallP]; and_intros <;> (first | assumption | decide | omega | ((try simp (disch := omega) only [pk_mul, nI_add, Zcl_n]); exact Zin_n (by omega) (by decide)))))) ?_
      refine Zs_ret hX hE rfl (Zq_e (Sc.rf _))
    · refine Zs_sw [(nI 0, 52), (nI 1, 60), (nI 2, 68), (nI 3, 76), (nI 4, 84), (nI 5, 92), (nI 6, 100), (nI 7, 108), (nI 8, 116)] 124 hX (by decide +kernel) (by decide +kernel) (t := 84) ((by decide +kernel)) ?_
      refine Zgo hX 3 rfl (by (first | exact True.intro | assumption | (dsimp only [ZallP]; and_intros <;> (first | assumption | decide | omega | ((try simp (disch := omega) only [pk_mul, nI_add, Zcl_n]); exact Zin_n (by omega) (by decide)))))) ?_
      refine Zs_ret hX hE rfl (Zq_e (Sc.rf _))
    · refine Zs_sw [(nI 0, 52), (nI 1, 60), (nI 2, 68), (nI 3, 76), (nI 4, 84), (nI 5, 92), (nI 6, 100), (nI 7, 108), (nI 8, 116)] 124 hX (by decide +kernel) (by decide +kernel) (t := 92) ((by decide +kernel)) ?_
      refine Zgo hX 3 rfl (by (first | exact True.intro | assumption | (dsimp only [ZallP]; and_intros <;> (first | assumption | decide | omega | ((try simp (disch := omega) only [pk_mul, nI_add, Zcl_n]); exact Zin_n (by omega) (by decide)))))) ?_
      refine Zs_ret hX hE rfl (Zq_e (Sc.rf _))
    · refine Zs_sw [(nI 0, 52), (nI 1, 60), (nI 2, 68), (nI 3, 76), (nI 4, 84), (nI 5, 92), (nI 6, 100), (nI 7, 108), (nI 8, 116)] 124 hX (by decide +kernel) (by decide +kernel) (t := 100) ((by decide +kernel)) ?_
      refine Zgo hX 3 rfl (by (first | exact True.intro | assumption | (dsimp only [ZallP]; and_intros <;> (first | assumption | decide | omega | ((try simp (disch := omega) only [pk_mul, nI_add, Zcl_n]); exact Zin_n (by omega) (by decide)))))) ?_
      refine Zs_ret hX hE rfl (Zq_e (Sc.rf _))
    · refine Zs_sw [(nI 0, 52), (nI 1, 60), (nI 2, 68), (nI 3, 76), (nI 4, 84), (nI 5, 92), (nI 6, 100), (nI 7, 108), (nI 8, 116)] 124 hX (by decide +kernel) (by decide +kernel) (t := 108) ((by decide +kernel)) ?_
      refine Zgo hX 3 rfl (by (first | exact True.intro | assumption | (dsimp only [ZallP]; and_intros <;> (first | assumption | decide | omega | ((try simp (disch := omega) only [pk_mul, nI_add, Zcl_n]); exact Zin_n (by omega) (by decide)))))) ?_
      refine Zs_ret hX hE rfl (Zq_e (Sc.rf _))
    · refine Zs_sw [(nI 0, 52), (nI 1, 60), (nI 2, 68), (nI 3, 76), (nI 4, 84), (nI 5, 92), (nI 6, 100), (nI 7, 108), (nI 8, 116)] 124 hX (by decide +kernel) (by decide +kernel) (t := 116) ((by decide +kernel)) ?_
      refine Zgo hX 3 rfl (by (first | exact True.intro | assumption | (dsimp only [ZallP]; and_intros <;> (first | assumption | decide | omega | ((try simp (disch := omega) only [pk_mul, nI_add, Zcl_n]); exact Zin_n (by omega) (by decide)))))) ?_
      refine Zs_ret hX hE rfl (Zq_e (Sc.rf _))
  · have hne : ∀ w_z, w_z ≤ 8 → ¬ what = nI w_z := fun w_z hw_z q_z => h2_z (by rw [q_z]; exact Zbt_of (by decide) hw_z)
    refine Zs_sw [(nI 0, 52), (nI 1, 60), (nI 2, 68), (nI 3, 76), (nI 4, 84), (nI 5, 92), (nI 6, 100), (nI 7, 108), (nI 8, 116)] 124 hX (by decide +kernel) (by decide +kernel) (t := 124) (((if_neg (hne 0 (by decide))).trans ((if_neg (hne 1 (by decide))).trans ((if_neg (hne 2 (by decide))).trans ((if_neg (hne 3 (by decide))).trans ((if_neg (hne 4 (by decide))).trans ((if_neg (hne 5 (by decide))).trans ((if_neg (hne 6 (by decide))).trans ((if_neg (hne 7 (by decide))).trans (if_neg (hne 8 (by decide)))))))))))) ?_
    refine Zgo hX 2 rfl (by (first | exact True.intro | assumption | (dsimp only [ZallP]; and_intros <;> (first | assumption | decide | omega | ((try simp (disch := omega) only [pk_mul, nI_add, Zcl_n]); exact Zin_n (by omega) (by decide)))))) ?_
    refine Zs_callv hX (List.cons_ne_nil _ _) (k_refuse 1 _ (by decide)) (by first | decide | omega) (by decide) rfl rfl rfl (by decide) (Nat.le_of_ble_eq_true rfl) (fun r_z M' hc_z => ?_)
    obtain ⟨rfl, hsc⟩ := hc_z
    refine Zs_ret hX hE rfl (Zq_e hsc)

set_option maxRecDepth 20000 in
set_option maxHeartbeats 1000000 in
theorem s_body (i_z : Int32) (a_z : Nat) (M : Zmem) (ht_z : M 53 19 = nI a_z) (ha_z : a_z ≤ 30) : ZC 122 2 [.ref 53, .int i_z] M (Zq M) := by
  refine ZC_of Zt122 Zk122 (Nat.le_of_ble_eq_true rfl) (by decide) rfl (fun X hX hE => ?_)
  refine Zgo hX 6 rfl (by (first | exact True.intro | assumption | (dsimp only [ZallP]; and_intros <;> (first | assumption | decide | omega | ((try simp (disch := omega) only [pk_mul, nI_add, Zcl_n]); exact Zin_n (by omega) (by decide)))))) ?_
  rw [ht_z]
  refine Zs_calls hX (List.cons_ne_nil _ _) (by decide) (s_in _ _ _ _) (by first | decide | omega) rfl rfl (by decide) (Nat.le_of_ble_eq_true rfl) (fun r_z M' hc_z => ?_)
  rcases hc_z with ⟨⟨rfl, h1_z⟩ | ⟨rfl, h1_z⟩, rfl⟩
  · refine Zs_eq hX (List.cons_ne_nil _ _) (fun q_z => False.elim (by revert q_z; decide)) (fun _ => ?_)
    obtain ⟨j_z, hj_z, rfl⟩ := (Zbw (by omega)).mp h1_z
    refine Zgo hX 5 rfl (Zin_n (by omega) (by decide)) ?_
    refine Zs_ret hX hE rfl (Zq_e (Sc.rf _))
  · refine Zs_eq hX (List.cons_ne_nil _ _) (fun _ => ?_) (fun q_z => False.elim (by revert q_z; decide))
    refine Zgo hX 2 rfl (by (first | exact True.intro | assumption | (dsimp only [ZallP]; and_intros <;> (first | assumption | decide | omega | ((try simp (disch := omega) only [pk_mul, nI_add, Zcl_n]); exact Zin_n (by omega) (by decide)))))) ?_
    refine Zs_callv hX (List.cons_ne_nil _ _) (s_error 2 _ (by decide)) (by first | decide | omega) (by decide) rfl rfl rfl (by decide) (Nat.le_of_ble_eq_true rfl) (fun r_z M' hc_z => ?_)
    obtain ⟨rfl, hsc⟩ := hc_z
    refine Zs_ret hX hE rfl (Zq_e hsc)

set_option maxRecDepth 20000 in
set_option maxHeartbeats 1000000 in
theorem s_told (k_z : Int32) (M : Zmem) : ZC 135 2 [.ref 53, .int k_z] M (Zq M) := by
  refine ZC_of Zt135 Zk135 (Nat.le_of_ble_eq_true rfl) (by decide) rfl (fun X hX hE => ?_)
  refine Zgo hX 3 rfl (by (first | exact True.intro | assumption | (dsimp only [ZallP]; and_intros <;> (first | assumption | decide | omega | ((try simp (disch := omega) only [pk_mul, nI_add, Zcl_n]); exact Zin_n (by omega) (by decide)))))) ?_
  refine Zs_calls hX (List.cons_ne_nil _ _) (by decide) (s_in _ _ _ _) (by first | decide | omega) rfl rfl (by decide) (Nat.le_of_ble_eq_true rfl) (fun r_z M' hc_z => ?_)
  rcases hc_z with ⟨⟨rfl, h1_z⟩ | ⟨rfl, h1_z⟩, rfl⟩
  · refine Zs_eq hX (List.cons_ne_nil _ _) (fun q_z => False.elim (by revert q_z; decide)) (fun _ => ?_)
    obtain ⟨j_z, hj_z, rfl⟩ := Zbt_ex (b_z := 6) (by decide) ⟨Int32.le_trans (by decide) h1_z.1, h1_z.2⟩
    refine Zgo hX 5 rfl (Zin_n (by omega) (by decide)) ?_
    refine Zs_ret hX hE rfl (Zq_e (Sc.rf _))
  · refine Zs_eq hX (List.cons_ne_nil _ _) (fun _ => ?_) (fun q_z => False.elim (by revert q_z; decide))
    refine Zgo hX 2 rfl (by (first | exact True.intro | assumption | (dsimp only [ZallP]; and_intros <;> (first | assumption | decide | omega | ((try simp (disch := omega) only [pk_mul, nI_add, Zcl_n]); exact Zin_n (by omega) (by decide)))))) ?_
    refine Zs_callv hX (List.cons_ne_nil _ _) (s_error 1 _ (by decide)) (by first | decide | omega) (by decide) rfl rfl rfl (by decide) (Nat.le_of_ble_eq_true rfl) (fun r_z M' hc_z => ?_)
    obtain ⟨rfl, hsc⟩ := hc_z
    refine Zs_ret hX hE rfl (Zq_e hsc)

set_option maxRecDepth 20000 in
set_option maxHeartbeats 1000000 in
theorem s_count (what : Int32) (M : Zmem) : ZC 134 2 [.ref 53, .int what] M (Zq M) := by
  refine ZC_of Zt134 Zk134 (Nat.le_of_ble_eq_true rfl) (by decide) rfl (fun X hX hE => ?_)
  refine Zgo hX 1 rfl (by (first | exact True.intro | assumption | (dsimp only [ZallP]; and_intros <;> (first | assumption | decide | omega | ((try simp (disch := omega) only [pk_mul, nI_add, Zcl_n]); exact Zin_n (by omega) (by decide)))))) ?_
  by_cases h2_z : nI 0 ≤ what ∧ what ≤ nI 8
  · obtain ⟨w_z, hw_z, rfl⟩ := Zbt_ex (b_z := 8) (by decide) h2_z
    rcases (show w_z = 0 ∨ w_z = 1 ∨ w_z = 2 ∨ w_z = 3 ∨ w_z = 4 ∨ w_z = 5 ∨ w_z = 6 ∨ w_z = 7 ∨ w_z = 8 by omega) with rfl | rfl | rfl | rfl | rfl | rfl | rfl | rfl | rfl
    · refine Zs_sw [(nI 0, 52), (nI 1, 60), (nI 2, 67), (nI 3, 74), (nI 4, 81), (nI 5, 88), (nI 6, 95), (nI 7, 103), (nI 8, 108)] 115 hX (by decide +kernel) (by decide +kernel) (t := 52) ((by decide +kernel)) ?_
      refine Zgo hX 4 rfl (Zin_n (by decide) (by decide)) ?_
      refine Zs_ret hX hE rfl (Zq_e (Sc.rf _))
    · refine Zs_sw [(nI 0, 52), (nI 1, 60), (nI 2, 67), (nI 3, 74), (nI 4, 81), (nI 5, 88), (nI 6, 95), (nI 7, 103), (nI 8, 108)] 115 hX (by decide +kernel) (by decide +kernel) (t := 60) ((by decide +kernel)) ?_
      refine Zgo hX 4 rfl (Zin_n (by decide) (by decide)) ?_
      refine Zs_ret hX hE rfl (Zq_e (Sc.rf _))
    · refine Zs_sw [(nI 0, 52), (nI 1, 60), (nI 2, 67), (nI 3, 74), (nI 4, 81), (nI 5, 88), (nI 6, 95), (nI 7, 103), (nI 8, 108)] 115 hX (by decide +kernel) (by decide +kernel) (t := 67) ((by decide +kernel)) ?_
      refine Zgo hX 4 rfl (Zin_n (by decide) (by decide)) ?_
      refine Zs_ret hX hE rfl (Zq_e (Sc.rf _))
    · refine Zs_sw [(nI 0, 52), (nI 1, 60), (nI 2, 67), (nI 3, 74), (nI 4, 81), (nI 5, 88), (nI 6, 95), (nI 7, 103), (nI 8, 108)] 115 hX (by decide +kernel) (by decide +kernel) (t := 74) ((by decide +kernel)) ?_
      refine Zgo hX 4 rfl (Zin_n (by decide) (by decide)) ?_
      refine Zs_ret hX hE rfl (Zq_e (Sc.rf _))
    · refine Zs_sw [(nI 0, 52), (nI 1, 60), (nI 2, 67), (nI 3, 74), (nI 4, 81), (nI 5, 88), (nI 6, 95), (nI 7, 103), (nI 8, 108)] 115 hX (by decide +kernel) (by decide +kernel) (t := 81) ((by decide +kernel)) ?_
      refine Zgo hX 4 rfl (Zin_n (by decide) (by decide)) ?_
      refine Zs_ret hX hE rfl (Zq_e (Sc.rf _))
    · refine Zs_sw [(nI 0, 52), (nI 1, 60), (nI 2, 67), (nI 3, 74), (nI 4, 81), (nI 5, 88), (nI 6, 95), (nI 7, 103), (nI 8, 108)] 115 hX (by decide +kernel) (by decide +kernel) (t := 88) ((by decide +kernel)) ?_
      refine Zgo hX 4 rfl (Zin_n (by decide) (by decide)) ?_
      refine Zs_ret hX hE rfl (Zq_e (Sc.rf _))
    · refine Zs_sw [(nI 0, 52), (nI 1, 60), (nI 2, 67), (nI 3, 74), (nI 4, 81), (nI 5, 88), (nI 6, 95), (nI 7, 103), (nI 8, 108)] 115 hX (by decide +kernel) (by decide +kernel) (t := 95) ((by decide +kernel)) ?_
      refine Zgo hX 4 rfl (Zin_n (by decide) (by decide)) ?_
      refine Zs_ret hX hE rfl (Zq_e (Sc.rf _))
    · refine Zs_sw [(nI 0, 52), (nI 1, 60), (nI 2, 67), (nI 3, 74), (nI 4, 81), (nI 5, 88), (nI 6, 95), (nI 7, 103), (nI 8, 108)] 115 hX (by decide +kernel) (by decide +kernel) (t := 103) ((by decide +kernel)) ?_
      refine Zgo hX 2 rfl (by (first | exact True.intro | assumption | (dsimp only [ZallP]; and_intros <;> (first | assumption | decide | omega | ((try simp (disch := omega) only [pk_mul, nI_add, Zcl_n]); exact Zin_n (by omega) (by decide)))))) ?_
      refine Zs_ret hX hE rfl (Zq_e (Sc.rf _))
    · refine Zs_sw [(nI 0, 52), (nI 1, 60), (nI 2, 67), (nI 3, 74), (nI 4, 81), (nI 5, 88), (nI 6, 95), (nI 7, 103), (nI 8, 108)] 115 hX (by decide +kernel) (by decide +kernel) (t := 108) ((by decide +kernel)) ?_
      refine Zgo hX 4 rfl (Zin_n (by decide) (by decide)) ?_
      refine Zs_ret hX hE rfl (Zq_e (Sc.rf _))
  · have hne : ∀ w_z, w_z ≤ 8 → ¬ what = nI w_z := fun w_z hw_z q_z => h2_z (by rw [q_z]; exact Zbt_of (by decide) hw_z)
    refine Zs_sw [(nI 0, 52), (nI 1, 60), (nI 2, 67), (nI 3, 74), (nI 4, 81), (nI 5, 88), (nI 6, 95), (nI 7, 103), (nI 8, 108)] 115 hX (by decide +kernel) (by decide +kernel) (t := 115) (((if_neg (hne 0 (by decide))).trans ((if_neg (hne 1 (by decide))).trans ((if_neg (hne 2 (by decide))).trans ((if_neg (hne 3 (by decide))).trans ((if_neg (hne 4 (by decide))).trans ((if_neg (hne 5 (by decide))).trans ((if_neg (hne 6 (by decide))).trans ((if_neg (hne 7 (by decide))).trans (if_neg (hne 8 (by decide)))))))))))) ?_
    refine Zgo hX 2 rfl (by (first | exact True.intro | assumption | (dsimp only [ZallP]; and_intros <;> (first | assumption | decide | omega | ((try simp (disch := omega) only [pk_mul, nI_add, Zcl_n]); exact Zin_n (by omega) (by decide)))))) ?_
    refine Zs_callv hX (List.cons_ne_nil _ _) (s_error 1 _ (by decide)) (by first | decide | omega) (by decide) rfl rfl rfl (by decide) (Nat.le_of_ble_eq_true rfl) (fun r_z M' hc_z => ?_)
    obtain ⟨rfl, hsc⟩ := hc_z
    refine Zs_ret hX hE rfl (Zq_e hsc)
