
section ZRW
variable {f_z : Nat → Int32} {M : Zmem} {i_z n_z : Nat}
theorem Zrv.row (h_z : Zrv 1 f_z M) (hi_z : i_z < 15) : M 2 i_z = f_z (9 + 5 * i_z) ∧ M 3 i_z = f_z (10 + 5 * i_z) ∧ M 4 i_z = f_z (11 + 5 * i_z) ∧ M 5 i_z = f_z (12 + 5 * i_z) ∧ M 6 i_z = f_z (13 + 5 * i_z) := h_z.2.1 i_z hi_z
theorem Zfi.rw (h_z : Zfi f_z) (hn_z : f_z 7 = nI n_z) (hn2 : n_z ≤ 15) (hi_z : i_z < n_z) : Zrw f_z i_z := by
  obtain ⟨n', g1, g2, g3⟩ := h_z.1
  obtain rfl : n' = n_z := Zeq (by omega) (by omega) (g2.symm.trans hn_z)
  exact g3 i_z hi_z
theorem k_holdsR (more : Int32) (hz_z : Zrv 1 f_z M) (hfi : Zfi f_z) (hn_z : f_z 7 = nI n_z) (hn2 : n_z ≤ 15) (hi_z : i_z < n_z) : ZC 171 3 [.ref 1, .int (nI i_z), .int more] M (fun r_z M' => r_z = some (.int (Zhb f_z i_z more)) ∧ St M M') :=
  k_holdsOf f_z i_z more M (by omega) (hfi.rw hn_z hn2 hi_z) (hz_z.row (by omega)).1 (hz_z.row (by omega)).2.2.1 (hz_z.row (by omega)).2.2.2.1 hz_z.2.2.2.2.2 hfi.2.2.2.2
theorem k_yarnR (hz_z : Zrv 1 f_z M) (hfi : Zfi f_z) (hn_z : f_z 7 = nI n_z) (hn2 : n_z ≤ 15) (hi_z : i_z < n_z) : ZC 170 4 [.ref 1, .int (nI i_z)] M (fun r_z M' => r_z = some (.int (Zyo f_z i_z)) ∧ St M M') :=
  k_yarnOf f_z i_z M (by omega) (hfi.rw hn_z hn2 hi_z) (hz_z.row (by omega)).1 (hz_z.row (by omega)).2.1 (hz_z.row (by omega)).2.2.1 (hz_z.row (by omega)).2.2.2.1 hz_z.1.2.2.2.1 hz_z.2.2.2.2.1 hfi.2.2.2.1
end ZRW

set_option maxRecDepth 20000 in
set_option maxHeartbeats 1000000 in
theorem k_waters (f_z : Nat → Int32) (n_z : Nat) (much more : Int32) (M : Zmem) (hz_z : Zrv 1 f_z M) (hfi : Zfi f_z) (hn_z : f_z 7 = nI n_z) (hn2 : n_z ≤ 15) : ZC 175 4 [.ref 1, .int much, .int more] M (fun r_z M' => r_z = some (.int (nI (Zfn f_z much more n_z))) ∧ Sc M M' ∧ ∀ i_z, i_z ≤ n_z → M' 10 i_z = Zcm f_z much more i_z) := by
  refine ZC_of Zt175 Zk175 (Nat.le_of_ble_eq_true rfl) (by decide) rfl (fun X hX hE => ?_)
  have L : ∀ (q_z i_z : Nat) (M1 : Zmem), n_z - i_z < q_z → i_z ≤ n_z → Sc M M1 → (∀ j_z, j_z ≤ i_z → M1 10 j_z = Zcm f_z much more j_z) → ZP X Zt175 (Zsf Zt175 12) [(4, .int (nI i_z)), (3, .int (nI (Zfn f_z much more i_z))), (0, .ref 1), (1, .int much), (2, .int more)] [] M1 := by
    intro q_z
    induction q_z with
    | zero => intro i_z M1 hq_z; exact absurd hq_z (Nat.not_lt_zero _)
    | succ q_z ih_z =>
      intro i_z M1 hq_z hi_z hsc hco
      have hz1 := hz_z.sc (Or.inl rfl) hsc
      refine Zgo hX 3 rfl True.intro ?_
      rw [hz1.n hn_z]
      refine Zs_ige hX (List.cons_ne_nil _ _) (fun h18_z => ?_) (fun h18_z => ?_)
      · obtain rfl : i_z = n_z := by have := (Zn_le (by omega) (by omega)).mp h18_z; omega
        refine Zgo hX 1 rfl True.intro ?_
        refine Zs_ret hX hE rfl ⟨rfl, hsc, hco⟩
      · have hlt : i_z < n_z := (Nat.lt_or_ge i_z n_z).elim id (fun q_z => absurd ((Zn_le (by omega) (by omega)).mpr q_z) h18_z)
        refine Zgo hX 3 rfl True.intro ?_
        refine Zs_callv hX (List.cons_ne_nil _ _) (k_holdsR more hz1 hfi hn_z hn2 hlt) (by first | decide | omega) (by decide) rfl rfl rfl (by decide) (Nat.le_of_ble_eq_true rfl) (fun r_z M' hc_z => ?_)
        obtain ⟨rfl, hs2⟩ := hc_z
        have e10 : ∀ j_z, M' 10 j_z = M1 10 j_z := fun j_z => hs2 10 j_z rfl
        have hsc2 := hsc.tr hs2.sc
        have L49 : ∀ F, Zfn f_z much more (i_z + 1) = F → ZP X Zt175 (Zsf Zt175 49) [(3, .int (nI F)), (5, .int (Zhb f_z i_z more)), (4, .int (nI i_z)), (0, .ref 1), (1, .int much), (2, .int more)] [] M' := by
          rintro F rfl
          refine Zgo hX 10 rfl (Zin_n (by omega) (by decide)) ?_
          rw [Zcl_n (show i_z < 2 ^ 31 by omega), e10, hco i_z (Nat.le_refl _), nI_add]
          refine Zs_calls hX (List.cons_ne_nil _ _) (by decide) (c_min _ _ _) (by first | decide | omega) rfl rfl (by decide) (Nat.le_of_ble_eq_true rfl) (fun r_z M' hc_z => ?_)
          obtain ⟨rfl, rfl⟩ := hc_z
          refine Zgo hX 3 rfl (Zin_n (by omega) (by decide)) ?_
          rw [Zcl_n (show i_z + 1 < 2 ^ 31 by omega), nI_add]
          refine Zs_sub (l' := [(4, .int (nI (i_z + 1))), (3, .int (nI (Zfn f_z much more (i_z + 1)))), (0, .ref 1), (1, .int much), (2, .int more)]) rfl ?_
          refine ih_z (i_z + 1) _ (by omega) hlt (hsc2.u _ rfl) (fun j_z hj_z => ?_)
          rw [Zu_k]
          by_cases e_z : j_z = i_z + 1
          · subst e_z; rw [if_pos ⟨rfl, rfl⟩]; rfl
          · rw [if_neg (fun q_z => e_z q_z.2), e10, hco j_z (by omega)]
        refine Zgo hX 6 rfl (Zin_n (by omega) (by decide)) ?_
        rw [Zcl_n (show i_z < 2 ^ 31 by omega), e10, hco i_z (Nat.le_refl _)]
        refine Zs_ile hX (List.cons_ne_nil _ _) (fun h39_z => ?_) (fun h39_z => ?_)
        · refine Zs_sub (l' := [(3, .int (nI (Zfn f_z much more i_z))), (5, .int (Zhb f_z i_z more)), (4, .int (nI i_z)), (0, .ref 1), (1, .int much), (2, .int more)]) rfl ?_
          exact L49 _ (by rw [Zfn, if_neg (Int32.not_lt.mpr h39_z), Nat.add_zero])
        · refine Zgo hX 6 rfl True.intro ?_
          rw [Zor_bit (Zfn_lt f_z much more i_z) (by omega)]
          refine Zs_sub (l' := [(3, .int (nI (Zfn f_z much more i_z + 2 ^ i_z))), (5, .int (Zhb f_z i_z more)), (4, .int (nI i_z)), (0, .ref 1), (1, .int much), (2, .int more)]) rfl ?_
          exact L49 _ (by rw [Zfn, if_pos (Int32.not_le.mp h39_z)])
  refine Zgo hX 9 rfl (Zin_n (by decide) (by decide)) ?_
  simp only [Zcl_n, Nat.reducePow, Nat.reduceLT]
  refine Zs_sub (l' := [(4, .int (nI 0)), (3, .int (nI 0)), (0, .ref 1), (1, .int much), (2, .int more)]) rfl ?_
  refine L (n_z + 1) 0 _ (by omega) (by omega) ((Sc.rf M).u _ rfl) (fun j_z hj_z => ?_)
  obtain rfl : j_z = 0 := by omega
  rfl

set_option maxRecDepth 20000 in
set_option maxHeartbeats 1000000 in
theorem s_letDown (n_z : Nat) (much more : Int32) (M : Zmem) (hfi : Zfi (M 54)) (hn_z : M 54 7 = nI n_z) (hn2 : n_z ≤ 15) : ZC 82 4 [.ref 53, .int much, .int more] M (fun r_z M' => r_z = none ∧ Sc M M' ∧ M' 53 12 = nI (Zfn (M 54) much more n_z) ∧ ∀ i_z, i_z ≤ n_z → M' 60 i_z = Zcm (M 54) much more i_z) := by
  refine ZC_of Zt82 Zk82 (Nat.le_of_ble_eq_true rfl) (by decide) rfl (fun X hX hE => ?_)
  have L : ∀ (q_z i_z : Nat) (M1 : Zmem), n_z - i_z < q_z → i_z ≤ n_z → Sc M M1 → M1 53 12 = nI (Zfn (M 54) much more i_z) → (∀ j_z, j_z ≤ i_z → M1 60 j_z = Zcm (M 54) much more j_z) → ZP X Zt82 (Zsf Zt82 14) [(3, .int (nI i_z)), (0, .ref 53), (1, .int much), (2, .int more)] [] M1 := by
    intro q_z
    induction q_z with
    | zero => intro i_z M1 hq_z; exact absurd hq_z (Nat.not_lt_zero _)
    | succ q_z ih_z =>
      intro i_z M1 hq_z hi_z hsc hfl hco
      have e54 := hsc.f54
      refine Zgo hX 5 rfl (Zin_n (by decide) (by decide)) ?_
      simp only [Zcl_n, Nat.reducePow, Nat.reduceLT]
      rw [e54, hn_z]
      refine Zs_ige hX (List.cons_ne_nil _ _) (fun h22_z => ?_) (fun h22_z => ?_)
      · obtain rfl : i_z = n_z := by have := (Zn_le (by omega) (by omega)).mp h22_z; omega
        refine Zs_retv hX hE rfl ⟨rfl, hsc, hfl, hco⟩
      · have hlt : i_z < n_z := (Nat.lt_or_ge i_z n_z).elim id (fun q_z => absurd ((Zn_le (by omega) (by omega)).mpr q_z) h22_z)
        refine Zgo hX 3 rfl True.intro ?_
        refine Zs_callv hX (List.cons_ne_nil _ _) (s_holdsBy i_z more M1 (by omega) (by rw [e54]; exact hfi.2.2.2.2)) (by first | decide | omega) (by decide) rfl rfl rfl (by decide) (Nat.le_of_ble_eq_true rfl) (fun r_z M' hc_z => ?_)
        obtain ⟨rfl, hs2⟩ := hc_z
        rw [e54]
        have e10 : ∀ j_z, M' 60 j_z = M1 60 j_z := fun j_z => hs2 60 j_z rfl
        have efl : M' 53 12 = nI (Zfn (M 54) much more i_z) := (hs2 53 12 rfl).trans hfl
        have hsc2 := hsc.tr hs2.sc
        have L60 : ∀ M2 : Zmem, (∀ o_z k_z, o_z ≠ 53 → M2 o_z k_z = M' o_z k_z) → Sc M M2 → M2 53 12 = nI (Zfn (M 54) much more (i_z + 1)) → ZP X Zt82 (Zsf Zt82 60) [(4, .int (Zhb (M 54) i_z more)), (3, .int (nI i_z)), (0, .ref 53), (1, .int much), (2, .int more)] [] M2 := by
          intro M2 h2_z hsc3 hfl3
          have fin : ∀ v_z, v_z = Zcm (M 54) much more (i_z + 1) → ZP X Zt82 (Zsf Zt82 90) [(4, .int (Zhb (M 54) i_z more)), (3, .int (nI i_z)), (0, .ref 53), (1, .int much), (2, .int more)] [] (Zu M2 60 (i_z + 1) v_z) := by
            rintro v_z rfl
            refine Zgo hX 2 rfl True.intro ?_
            rw [nI_add]
            refine Zs_sub (l' := [(3, .int (nI (i_z + 1))), (0, .ref 53), (1, .int much), (2, .int more)]) rfl ?_
            refine ih_z (i_z + 1) _ (by omega) hlt (hsc3.u _ rfl) hfl3 (fun j_z hj_z => ?_)
            rw [Zu_k]
            by_cases e_z : j_z = i_z + 1
            · subst e_z; rw [if_pos ⟨rfl, rfl⟩]
            · rw [if_neg (fun q_z => e_z q_z.2), h2_z 60 j_z (by decide), e10, hco j_z (by omega)]
          refine Zgo hX 10 rfl (Zin_n (by omega) (by decide)) ?_
          rw [Zcl_n (show i_z < 2 ^ 31 by omega), h2_z 60 i_z (by decide), e10, hco i_z (Nat.le_refl _), nI_add]
          refine Zs_ile hX (List.cons_ne_nil _ _) (fun h75_z => ?_) (fun h75_z => ?_)
          · refine Zgo hX 5 rfl ⟨Zin_n (by omega) (by decide), Zin_n (by omega) (by decide)⟩ ?_
            rw [Zcl_n (show i_z < 2 ^ 31 by omega), h2_z 60 i_z (by decide), e10, hco i_z (Nat.le_refl _), Zcl_n (show i_z + 1 < 2 ^ 31 by omega)]
            exact fin _ (by rw [Zcm, if_neg (Int32.not_lt.mpr h75_z)])
          · refine Zgo hX 3 rfl (Zin_n (by omega) (by decide)) ?_
            rw [Zcl_n (show i_z + 1 < 2 ^ 31 by omega)]
            exact fin _ (by rw [Zcm, if_pos (Int32.not_le.mp h75_z)])
        refine Zgo hX 9 rfl (Zin_n (by omega) (by decide)) ?_
        rw [Zcl_n (show i_z < 2 ^ 31 by omega), e10, hco i_z (Nat.le_refl _), efl]
        refine Zs_ile hX (List.cons_ne_nil _ _) (fun h46_z => ?_) (fun h46_z => ?_)
        · refine Zgo hX 3 rfl True.intro ?_
          rw [Zor_0]
          refine Zs_sub (l' := [(4, .int (Zhb (M 54) i_z more)), (3, .int (nI i_z)), (0, .ref 53), (1, .int much), (2, .int more)]) rfl ?_
          exact L60 _ (fun o_z k_z ho => by rw [Zu_ne _ _ _ ho]) (hsc2.u _ rfl) (by rw [Zu_k, if_pos ⟨rfl, rfl⟩, Zfn, if_neg (Int32.not_lt.mpr h46_z), Nat.add_zero])
        · refine Zgo hX 6 rfl True.intro ?_
          rw [Zor_bit (Zfn_lt (M 54) much more i_z) (by omega)]
          refine Zs_sub (l' := [(4, .int (Zhb (M 54) i_z more)), (3, .int (nI i_z)), (0, .ref 53), (1, .int much), (2, .int more)]) rfl ?_
          exact L60 _ (fun o_z k_z ho => by rw [Zu_ne _ _ _ ho]) (hsc2.u _ rfl) (by rw [Zu_k, if_pos ⟨rfl, rfl⟩, Zfn, if_pos (Int32.not_le.mp h46_z)])
  refine Zgo hX 10 rfl (Zin_n (by decide) (by decide)) ?_
  simp only [Zcl_n, Nat.reducePow, Nat.reduceLT]
  refine Zs_sub (l' := [(3, .int (nI 0)), (0, .ref 53), (1, .int much), (2, .int more)]) rfl ?_
  refine L (n_z + 1) 0 _ (by omega) (by omega) (((Sc.rf M).u _ rfl).u _ rfl) rfl (fun j_z hj_z => ?_)
  obtain rfl : j_z = 0 := by omega
  rfl
