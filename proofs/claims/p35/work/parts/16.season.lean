set_option maxRecDepth 20000 in
set_option maxHeartbeats 1000000 in
theorem k_pass (f_z : Nat → Int32) (n_z : Nat) (much : Int32) (M : Zmem) (hz_z : Zrv 1 f_z M) (hfi : Zfi f_z) (hn_z : f_z 7 = nI n_z) (hn2 : n_z ≤ 15) (hmu : 0 ≤ much.toInt ∧ much.toInt ≤ 999) : ZC 176 5 [.ref 1, .int much] M (fun r_z M' => r_z = some (.int (nI (Zfn f_z much (nI 0) n_z))) ∧ Zrv 1 (Zss f_z much n_z) M' ∧ Zhk M M') := by
  refine ZC_of Zt176 Zk176 (Nat.le_of_ble_eq_true rfl) (by decide) rfl (fun X hX hE => ?_)
  have hF := Zfn_lt f_z much (nI 0) n_z
  have hF2 : Zfn f_z much (nI 0) n_z < 2 ^ 15 := Nat.lt_of_lt_of_le hF (Nat.pow_le_pow_right (by decide) hn2)
  have L : ∀ (q_z i_z : Nat) (M1 : Zmem), n_z - i_z < q_z → i_z ≤ n_z → Zrv 1 (Zsk f_z much i_z) M1 → Zhk M M1 → (∀ j_z, j_z ≤ n_z → M1 10 j_z = Zcm f_z much (nI 0) j_z) → ZP X Zt176 (Zsf Zt176 9) [(3, .int (nI i_z)), (2, .int (nI (Zfn f_z much (nI 0) n_z))), (0, .ref 1), (1, .int much)] [] M1 := by
    intro q_z
    induction q_z with
    | zero => intro i_z M1 hq_z; exact absurd hq_z (Nat.not_lt_zero _)
    | succ q_z ih_z =>
      intro i_z M1 hq_z hi_z hz1 hhk hco
      have e7 : Zsk f_z much i_z 7 = nI n_z := (Zsk_o f_z much i_z 7 (fun j_z hj_z => by omega)).trans hn_z
      refine Zgo hX 3 rfl True.intro ?_
      rw [hz1.n e7]
      refine Zs_ige hX (List.cons_ne_nil _ _) (fun h14_z => ?_) (fun h14_z => ?_)
      · obtain rfl : i_z = n_z := by have := (Zn_le (by omega) (by omega)).mp h14_z; omega
        have esa : Zsk f_z much i_z 3 = f_z 3 := Zsk_o f_z much i_z 3 (fun j_z hj_z => by omega)
        have ese : Zsk f_z much i_z 2 = f_z 2 := Zsk_o f_z much i_z 2 (fun j_z hj_z => by omega)
        refine Zgo hX 10 rfl (by show vp_in (M1 1 5) 16; rw [hz1.n e7]; exact Zin_n (by omega) (by decide)) ?_
        rw [hz1.n e7, Zcl_n (show i_z < 2 ^ 31 by omega), hco i_z (Nat.le_refl _), show M1 1 9 = f_z 3 from hz1.1.2.2.2.2.1.trans esa]
        refine Zs_calls hX (List.cons_ne_nil _ _) (by decide) (c_min _ _ _) (by first | decide | omega) rfl rfl (by decide) (Nat.le_of_ble_eq_true rfl) (fun r_z M' hc_z => ?_)
        obtain ⟨rfl, rfl⟩ := hc_z
        refine Zgo hX 8 rfl True.intro ?_
        have hsa : 0 ≤ (f_z 3).toInt ∧ (f_z 3).toInt ≤ 9999 := by
          obtain ⟨a_z, h1_z, h2_z⟩ := hfi.2.1.2.2.2.1
          rw [h2_z, Zn_i (by omega)]
          omega
        rw [Zsea_k hsa (Zcm_b f_z (nI 0) hmu i_z)]
        rw [show (Zu M1 1 9 (Zhl (f_z 3 + Zcm f_z much (nI 0) i_z) (nI 0) (nI 9999))) 1 8 = f_z 2 from hz1.1.2.2.2.1.trans ese]
        refine Zs_ret hX hE rfl ⟨rfl, (hz1.sa1 _).se1 _, (hhk.u _ (by decide) _ _).u _ (by decide) _ _⟩
      · have hlt : i_z < n_z := (Nat.lt_or_ge i_z n_z).elim id (fun q_z => absurd ((Zn_le (by omega) (by omega)).mpr q_z) h14_z)
        have ht_z : M1 5 i_z = f_z (12 + 5 * i_z) := (hz1.row (by omega)).2.2.2.1.trans (Zsk_o f_z much i_z _ (fun j_z hj_z => by omega))
        have hb_z := (hfi.rw hn_z hn2 hlt).2.2.2.1
        have hbit := Zfn_bit f_z much (nI 0) n_z i_z hlt
        have done : ∀ M2 : Zmem, (∀ j_z, M2 10 j_z = M1 10 j_z) → Zrv 1 (Zsk f_z much (i_z + 1)) M2 → Zhk M1 M2 → ZP X Zt176 (Zsf Zt176 76) [(3, .int (nI i_z)), (2, .int (nI (Zfn f_z much (nI 0) n_z))), (0, .ref 1), (1, .int much)] [] M2 := by
          intro M2 h10_z hz2 hk2
          refine Zgo hX 2 rfl True.intro ?_
          rw [nI_add]
          refine Zs_sub (l' := [(3, .int (nI (i_z + 1))), (2, .int (nI (Zfn f_z much (nI 0) n_z))), (0, .ref 1), (1, .int much)]) rfl ?_
          exact ih_z (i_z + 1) _ (by omega) hlt hz2 (hhk.tr hk2) (fun j_z hj_z => (h10_z j_z).trans (hco j_z hj_z))
        have hst : ∀ v_z, v_z = Ztn f_z much i_z → Zrv 1 (Zsk f_z much (i_z + 1)) (Zu M1 5 i_z v_z) := by
          rintro v_z rfl
          exact hz1.r3 _ (by omega)
        refine Zgo hX 6 rfl True.intro ?_
        rw [Zbt_k hF2 (by omega), hbit]
        refine Zs_ine hX (List.cons_ne_nil _ _) (fun h23_z => ?_) (fun h23_z => ?_)
        · have hnf : ¬ Zhb f_z i_z (nI 0) < Zcm f_z much (nI 0) i_z := fun q_z => h23_z (by rw [if_pos q_z])
          refine Zgo hX 4 rfl (Zin_n (by omega) (by decide)) ?_
          rw [Zcl_n (show i_z < 2 ^ 31 by omega), hco i_z (by omega)]
          refine Zs_ne hX (List.cons_ne_nil _ _) (fun h54_z => ?_) (fun h54_z => ?_)
          · refine done M1 (fun _ => rfl) ?_ (Zhk.rf _)
            have e_z : Ztn f_z much i_z = Zsk f_z much i_z (12 + 5 * i_z) := by
              rw [Zsk_o f_z much i_z _ (fun j_z hj_z => by omega), ← Ztn_3 rfl hb_z hnf h54_z]
            show Zrv 1 (upd (Zsk f_z much i_z) (12 + 5 * i_z) (Ztn f_z much i_z)) M1
            rw [e_z, Zupd_id]
            exact hz1
          · refine Zgo hX 10 rfl (Zin_n (by omega) (by decide)) ?_
            rw [Zcl_n (show i_z < 2 ^ 31 by omega), ht_z]
            refine Zs_calls hX (List.cons_ne_nil _ _) (by decide) (c_min _ _ _) (by first | decide | omega) rfl rfl (by decide) (Nat.le_of_ble_eq_true rfl) (fun r_z M' hc_z => ?_)
            obtain ⟨rfl, rfl⟩ := hc_z
            refine Zgo hX 1 rfl (Zin_n (by omega) (by decide)) ?_
            rw [Zcl_n (show i_z < 2 ^ 31 by omega)]
            exact done _ (fun j_z => by rw [Zu_ne _ _ _ (by decide)]) (hst _ (Ztn_2 rfl hb_z hnf h54_z)) ((Zhk.rf _).u _ (by decide) _ _)
        · have hfl : Zhb f_z i_z (nI 0) < Zcm f_z much (nI 0) i_z := by
            rcases Decidable.em (Zhb f_z i_z (nI 0) < Zcm f_z much (nI 0) i_z) with q_z | q_z
            · exact q_z
            · rw [if_neg q_z] at h23_z; exact absurd h23_z (by decide)
          refine Zgo hX 10 rfl (Zin_n (by omega) (by decide)) ?_
          rw [Zcl_n (show i_z < 2 ^ 31 by omega), ht_z]
          refine Zs_calls hX (List.cons_ne_nil _ _) (by decide) (c_max _ _ _) (by first | decide | omega) rfl rfl (by decide) (Nat.le_of_ble_eq_true rfl) (fun r_z M' hc_z => ?_)
          obtain ⟨rfl, rfl⟩ := hc_z
          refine Zgo hX 2 rfl (Zin_n (by omega) (by decide)) ?_
          rw [Zcl_n (show i_z < 2 ^ 31 by omega)]
          exact done _ (fun j_z => by rw [Zu_ne _ _ _ (by decide)]) (hst _ (Ztn_1 rfl hb_z hfl)) ((Zhk.rf _).u _ (by decide) _ _)
  refine Zgo hX 3 rfl True.intro ?_
  refine Zs_callv hX (List.cons_ne_nil _ _) (k_waters f_z n_z much (nI 0) M hz_z hfi hn_z hn2) (by first | decide | omega) (by decide) rfl rfl rfl (by decide) (Nat.le_of_ble_eq_true rfl) (fun r_z M' hc_z => ?_)
  obtain ⟨rfl, hsc, hco⟩ := hc_z
  refine Zgo hX 3 rfl True.intro ?_
  refine Zs_sub (l' := [(3, .int (nI 0)), (2, .int (nI (Zfn f_z much (nI 0) n_z))), (0, .ref 1), (1, .int much)]) rfl ?_
  exact L (n_z + 1) 0 _ (by omega) (by omega) (hz_z.sc (Or.inl rfl) hsc) hsc.hk hco

set_option maxRecDepth 20000 in
set_option maxHeartbeats 1000000 in
theorem s_aSeason (n_z : Nat) (much : Int32) (M : Zmem) (hfi : Zfi (M 54)) (hn_z : M 54 7 = nI n_z) (hn2 : n_z ≤ 15) : ZC 83 5 [.ref 53, .int much] M (fun r_z M' => r_z = some (.int (nI (Zfn (M 54) much (nI 0) n_z))) ∧ M' 54 = Zss (M 54) much n_z ∧ Zhs M M') := by
  refine ZC_of Zt83 Zk83 (Nat.le_of_ble_eq_true rfl) (by decide) rfl (fun X hX hE => ?_)
  have hF := Zfn_lt (M 54) much (nI 0) n_z
  have hF2 : Zfn (M 54) much (nI 0) n_z < 2 ^ 15 := Nat.lt_of_lt_of_le hF (Nat.pow_le_pow_right (by decide) hn2)
  have L : ∀ (q_z i_z : Nat) (M1 : Zmem), n_z - i_z < q_z → i_z ≤ n_z → M1 54 = Zsk (M 54) much i_z → Zhs M M1 → M1 53 12 = nI (Zfn (M 54) much (nI 0) n_z) → (∀ j_z, j_z ≤ n_z → M1 60 j_z = Zcm (M 54) much (nI 0) j_z) → ZP X Zt83 (Zsf Zt83 8) [(2, .int (nI i_z)), (0, .ref 53), (1, .int much)] [] M1 := by
    intro q_z
    induction q_z with
    | zero => intro i_z M1 hq_z; exact absurd hq_z (Nat.not_lt_zero _)
    | succ q_z ih_z =>
      intro i_z M1 hq_z hi_z h54_z hhs hfl hco
      have e7 : M1 54 7 = nI n_z := by rw [h54_z]; exact (Zsk_o (M 54) much i_z 7 (fun j_z hj_z => by omega)).trans hn_z
      refine Zgo hX 5 rfl (Zin_n (by decide) (by decide)) ?_
      simp only [Zcl_n, Nat.reducePow, Nat.reduceLT]
      rw [e7]
      refine Zs_ige hX (List.cons_ne_nil _ _) (fun h16_z => ?_) (fun h16_z => ?_)
      · obtain rfl : i_z = n_z := by have := (Zn_le (by omega) (by omega)).mp h16_z; omega
        have esa : M1 54 3 = M 54 3 := by rw [h54_z]; exact Zsk_o (M 54) much i_z 3 (fun j_z hj_z => by omega)
        have ese : M1 54 2 = M 54 2 := by rw [h54_z]; exact Zsk_o (M 54) much i_z 2 (fun j_z hj_z => by omega)
        refine Zgo hX 17 rfl (by dsimp only [ZallP]; simp only [Zcl_n, Nat.reducePow, Nat.reduceLT]; rw [e7]; exact ⟨⟨Zin_n (by decide) (by decide), Zin_n (by decide) (by decide)⟩, Zin_n (by omega) (by decide)⟩) ?_
        simp only [Zcl_n, Nat.reducePow, Nat.reduceLT]
        rw [e7, Zcl_n (show i_z < 2 ^ 31 by omega), hco i_z (Nat.le_refl _), esa]
        refine Zs_calls hX (List.cons_ne_nil _ _) (by decide) (s_held _ _ _ _) (by first | decide | omega) rfl rfl (by decide) (Nat.le_of_ble_eq_true rfl) (fun r_z M' hc_z => ?_)
        obtain ⟨rfl, rfl⟩ := hc_z
        refine Zgo hX 11 rfl (by dsimp only [ZallP]; exact ⟨⟨Zin_n (by decide) (by decide), Zin_n (by decide) (by decide)⟩, Zin_n (by decide) (by decide)⟩) ?_
        simp only [Zcl_n, Nat.reducePow, Nat.reduceLT]
        refine Zs_ret hX hE rfl ⟨?_, ?_, ?_⟩
        · exact congrArg (fun z_z => some (Value.int z_z)) hfl
        · show upd (upd (M1 54) 3 (Zhl (M 54 3 + Zcm (M 54) much (nI 0) i_z) (nI 0) (nI 9999))) 2 (M1 54 2 + nI 1) = _
          rw [h54_z, ← h54_z, ese, h54_z]
          rfl
        · exact (hhs.u _ _).u _ _
      · have hlt : i_z < n_z := (Nat.lt_or_ge i_z n_z).elim id (fun q_z => absurd ((Zn_le (by omega) (by omega)).mpr q_z) h16_z)
        have ht_z : M1 54 (9 + 5 * i_z + 3) = M 54 (12 + 5 * i_z) := by rw [show 9 + 5 * i_z + 3 = 12 + 5 * i_z by omega, h54_z]; exact Zsk_o (M 54) much i_z _ (fun j_z hj_z => by omega)
        have hbit := Zfn_bit (M 54) much (nI 0) n_z i_z hlt
        have done : ∀ b_z, Zhl (M 54 (12 + 5 * i_z) + b_z) (-(nI 9)) (nI 9) = Ztn (M 54) much i_z → ZP X Zt83 (Zsf Zt83 49) [(2, .int (nI i_z)), (0, .ref 53), (1, .int much)] [.int b_z] M1 := by
          intro b_z hb_z
          refine Zgo hX 7 rfl True.intro ?_
          refine Zs_callv hX (List.cons_ne_nil _ _) (s_its i_z 3 _ (by omega) (by decide)) (by first | decide | omega) (by decide) rfl rfl rfl (by decide) (Nat.le_of_ble_eq_true rfl) (fun r_z M' hc_z => ?_)
          obtain ⟨rfl, rfl⟩ := hc_z
          rw [ht_z]
          refine Zgo hX 4 rfl True.intro ?_
          refine Zs_calls hX (List.cons_ne_nil _ _) (by decide) (s_held _ _ _ _) (by first | decide | omega) rfl rfl (by decide) (Nat.le_of_ble_eq_true rfl) (fun r_z M' hc_z => ?_)
          obtain ⟨rfl, rfl⟩ := hc_z
          refine Zs_callv hX (List.cons_ne_nil _ _) (s_lays1 i_z 3 _ _ (by omega) (by decide)) (by first | decide | omega) (by decide) rfl rfl rfl (by decide) (Nat.le_of_ble_eq_true rfl) (fun r_z M' hc_z => ?_)
          obtain ⟨rfl, rfl⟩ := hc_z
          refine Zgo hX 2 rfl True.intro ?_
          rw [nI_add]
          refine Zs_sub (l' := [(2, .int (nI (i_z + 1))), (0, .ref 53), (1, .int much)]) rfl ?_
          refine ih_z (i_z + 1) _ (by omega) hlt ?_ (hhs.u _ _) hfl (fun j_z hj_z => (by rw [Zu_ne _ _ _ (by decide)]; exact hco j_z hj_z))
          rw [Zu_at, show 9 + 5 * i_z + 3 = 12 + 5 * i_z by omega, h54_z]
          show upd _ _ (Zhl (M 54 (12 + 5 * i_z) + b_z) (-(nI 9)) (nI 9)) = _
          rw [hb_z]
          rfl
        refine Zgo hX 7 rfl True.intro ?_
        rw [hfl, Zbt_s hF2 (by omega), hbit]
        refine Zs_ine hX (List.cons_ne_nil _ _) (fun h28_z => ?_) (fun h28_z => ?_)
        · have hnf : ¬ Zhb (M 54) i_z (nI 0) < Zcm (M 54) much (nI 0) i_z := fun q_z => h28_z (by rw [if_pos q_z])
          refine Zgo hX 4 rfl (Zin_n (by omega) (by decide)) ?_
          rw [Zcl_n (show i_z < 2 ^ 31 by omega), hco i_z (by omega)]
          refine Zs_ne hX (List.cons_ne_nil _ _) (fun h41_z => ?_) (fun h41_z => ?_)
          · refine Zgo hX 1 rfl True.intro ?_
            exact done _ (by unfold Ztn; rw [if_neg hnf, if_neg h41_z])
          · refine Zgo hX 2 rfl True.intro ?_
            exact done _ (by unfold Ztn; rw [if_neg hnf, if_pos h41_z])
        · have hfl2 : Zhb (M 54) i_z (nI 0) < Zcm (M 54) much (nI 0) i_z := by
            rcases Decidable.em (Zhb (M 54) i_z (nI 0) < Zcm (M 54) much (nI 0) i_z) with q_z | q_z
            · exact q_z
            · rw [if_neg q_z] at h28_z; exact absurd h28_z (by decide)
          refine Zgo hX 2 rfl True.intro ?_
          exact done _ (by unfold Ztn; rw [if_pos hfl2])
  refine Zgo hX 3 rfl True.intro ?_
  refine Zs_callv hX (List.cons_ne_nil _ _) (s_letDown n_z much (nI 0) M hfi hn_z hn2) (by first | decide | omega) (by decide) rfl rfl rfl (by decide) (Nat.le_of_ble_eq_true rfl) (fun r_z M' hc_z => ?_)
  obtain ⟨rfl, hsc, hfl, hco⟩ := hc_z
  refine Zgo hX 2 rfl True.intro ?_
  refine Zs_sub (l' := [(2, .int (nI 0)), (0, .ref 53), (1, .int much)]) rfl ?_
  exact L (n_z + 1) 0 _ (by omega) (by omega) hsc.f54 hsc.hs hfl hco

set_option maxRecDepth 20000 in
set_option maxHeartbeats 1000000 in
theorem k_wear (f_z : Nat → Int32) (n_z : Nat) (M : Zmem) (hz_z : Zrv 1 f_z M) (hfi : Zfi f_z) (hn_z : f_z 7 = nI n_z) (hn2 : n_z ≤ 15) : ZC 177 1 [.ref 1] M (fun r_z M' => r_z = none ∧ Zrv 1 (Zwr f_z n_z) M' ∧ Zhk M M') := by
  refine ZC_of Zt177 Zk177 (Nat.le_of_ble_eq_true rfl) (by decide) rfl (fun X hX hE => ?_)
  refine Zgo hX 2 rfl True.intro ?_
  rw [hz_z.n hn_z]
  refine Zs_le hX (List.cons_ne_nil _ _) (fun h4_z => ?_) (fun h4_z => ?_)
  · obtain rfl : n_z = 0 := by have := (Zn_le (b_z := 0) (by omega) (by decide)).mp h4_z; omega
    refine Zs_retv hX hE rfl ⟨rfl, by rw [Zwr, if_pos rfl]; exact hz_z, Zhk.rf _⟩
  · have h0_z : n_z ≠ 0 := fun q_z => h4_z (by rw [q_z]; exact Int32.le_refl _)
    have hlt : Zdn (f_z 4) % n_z < n_z := Nat.mod_lt _ (Nat.pos_of_ne_zero h0_z)
    have ez : M 1 10 = f_z 4 := hz_z.1.2.2.2.2.2.1
    obtain ⟨d1, d2⟩ := Zdn_ok (f_z 4)
    obtain ⟨d3, d4⟩ := Zdn_ok (Zdz (f_z 4))
    refine Zgo hX 1 rfl True.intro ?_
    refine Zs_callv hX (List.cons_ne_nil _ _) (k_draw _) (by first | decide | omega) (by decide) rfl rfl rfl (by decide) (Nat.le_of_ble_eq_true rfl) (fun r_z M' hc_z => ?_)
    obtain ⟨rfl, rfl⟩ := hc_z
    rw [ez]
    have hz2 := hz_z.z1 (Zdz (f_z 4))
    refine Zgo hX 5 rfl (by show ¬ (Zu M 1 10 _) 1 5 = nI 0; rw [show (Zu M 1 10 (f_z 4 * nI 1103515245 + nI 12345)) 1 5 = nI n_z from hz_z.n hn_z]; exact fun q_z => h0_z (Zeq (by omega) (by decide) q_z)) ?_
    rw [show (Zu M 1 10 (f_z 4 * nI 1103515245 + nI 12345)) 1 5 = nI n_z from hz_z.n hn_z, show ((f_z 4 * nI 1103515245 + nI 12345).toUInt32 >>> ((nI 8).toUInt32 &&& Int32.toUInt32 31)).toInt32 = nI (Zdn (f_z 4)) from d1, pk_rem (by omega) (by omega) (by omega)]
    refine Zs_callv hX (List.cons_ne_nil _ _) (k_draw _) (by first | decide | omega) (by decide) rfl rfl rfl (by decide) (Nat.le_of_ble_eq_true rfl) (fun r_z M' hc_z => ?_)
    obtain ⟨rfl, rfl⟩ := hc_z
    rw [show (Zu M 1 10 (f_z 4 * nI 1103515245 + nI 12345)) 1 10 = Zdz (f_z 4) from rfl]
    have hz3 := hz2.z1 (Zdz (Zdz (f_z 4)))
    refine Zgo hX 13 rfl (by dsimp only [ZallP]; exact ⟨by decide, Zin_n (by omega) (by decide)⟩) ?_
    rw [show ((Zdz (f_z 4) * nI 1103515245 + nI 12345).toUInt32 >>> ((nI 8).toUInt32 &&& Int32.toUInt32 31)).toInt32 = nI (Zdn (Zdz (f_z 4))) from d3, pk_rem (by omega) (by decide) (by decide), Zcl_n (show Zdn (f_z 4) % n_z < 2 ^ 31 by omega)]
    have hr_z := hfi.rw hn_z hn2 hlt
    obtain ⟨-, -, ⟨w_z, h1_z, h2_z, h3_z⟩, -, -⟩ := hr_z
    obtain ⟨v_z, g1, g2, g3, g5⟩ := Zhl_w h1_z h2_z (Nat.mod_lt (Zdn (Zdz (f_z 4))) (by decide : 0 < 2))
    rw [show (Zu (Zu M 1 10 (f_z 4 * nI 1103515245 + nI 12345)) 1 10 (Zdz (f_z 4) * nI 1103515245 + nI 12345)) 4 (Zdn (f_z 4) % n_z) = nI w_z from (hz_z.row (by omega)).2.2.1.trans h3_z]
    refine Zs_calls hX (List.cons_ne_nil _ _) (by decide) (c_max _ _ _) (by first | decide | omega) rfl rfl (by decide) (Nat.le_of_ble_eq_true rfl) (fun r_z M' hc_z => ?_)
    obtain ⟨rfl, rfl⟩ := hc_z
    refine Zgo hX 1 rfl (Zin_n (by omega) (by decide)) ?_
    rw [Zcl_n (show Zdn (f_z 4) % n_z < 2 ^ 31 by omega)]
    refine Zs_retv hX hE rfl ⟨rfl, ?_, (((Zhk.rf M).u _ (by decide) _ _).u _ (by decide) _ _).u _ (by decide) _ _⟩
    rw [Zwr, if_neg h0_z, h3_z, g3, g5]
    exact hz3.r2 _ (by omega)
