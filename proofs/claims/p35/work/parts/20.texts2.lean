set_option maxRecDepth 20000 in
set_option maxHeartbeats 1000000 in
theorem k_feed (f_z : Nat → Int32) (n_z : Nat) (w_z : Int64) (m_z : Int32) (M : Zmem) (hz_z : Zrv 1 f_z M) (hfi : Zfi f_z) (hn_z : f_z 7 = nI n_z) (hn2 : n_z ≤ 15) : ZC 10 2 [.ref 0, .long w_z, .int m_z] M (Zkok (Ffeed f_z w_z m_z) M) := by
  refine ZC_of Zt10 Zk10 (Nat.le_of_ble_eq_true rfl) (by decide) rfl (fun X hX hE => ?_)
  refine Zgo hX 3 rfl (by (first | exact True.intro | assumption | (dsimp only [ZallP]; and_intros <;> (first | assumption | decide | omega | ((try simp (disch := omega) only [pk_mul, nI_add, Zcl_n]); exact Zin_n (by omega) (by decide)))))) ?_
  refine Zs_calls hX (List.cons_ne_nil _ _) (by decide) (k_within _ _ _ _) (by first | decide | omega) rfl rfl (by decide) (Nat.le_of_ble_eq_true rfl) (fun r_z M' hc_z => ?_)
  rcases hc_z with ⟨⟨rfl, h1_z⟩ | ⟨rfl, h1_z⟩, rfl⟩
  · refine Zs_ne hX (List.cons_ne_nil _ _) (fun _ => ?_) (fun q_z => False.elim (by revert q_z; decide))
    have h9_z := h1_z
    obtain ⟨m_z, hm_z, rfl⟩ := Zbt_ex (b_z := 8) (by decide) ⟨Int32.le_trans (by decide) h1_z.1, h1_z.2⟩
    obtain ⟨b_z, g1, g2⟩ := hfi.byq
    refine Zgo hX 6 rfl (by (first | exact True.intro | assumption | (dsimp only [ZallP]; and_intros <;> (first | assumption | decide | omega | ((try simp (disch := omega) only [pk_mul, nI_add, Zcl_n]); exact Zin_n (by omega) (by decide)))))) ?_
    rw [show M 1 12 = f_z 5 from hz_z.1.2.2.2.2.2.2.1, g2, nI_add]
    refine Zs_ile hX (List.cons_ne_nil _ _) (fun h2_z => ?_) (fun h2_z => ?_)
    · have hbm : b_z + m_z ≤ 60 := (Zn_le (by omega) (by omega)).mp h2_z
      have e_z : ¬ nI 60 < f_z 5 + nI m_z := by rw [g2, nI_add]; exact Int32.not_lt.mpr h2_z
      have L : ∀ (q_z k_z : Nat) (M1 : Zmem), m_z - k_z < q_z → k_z ≤ m_z → Zrv 1 (Zfd f_z w_z b_z k_z) M1 → Zhk M M1 → ZP X Zt10 (Zsf Zt10 39) [(0, .ref 0), (1, .long w_z), (3, .int (nI m_z)), (4, .int (nI k_z))] [] M1 := by
        intro q_z
        induction q_z with
        | zero => intro k_z M1 hq_z; exact absurd hq_z (Nat.not_lt_zero _)
        | succ q_z ih_z =>
          intro k_z M1 hq_z hk_z hz1 hhk
          obtain ⟨j1_z, j2, j3⟩ := Zfd_fi (w_z := w_z) hfi g2 k_z (by omega)
          have e12 : M1 1 12 = nI (b_z + k_z) := hz1.1.2.2.2.2.2.2.1.trans j2
          refine Zgo hX 2 rfl (by (first | exact True.intro | assumption | (dsimp only [ZallP]; and_intros <;> (first | assumption | decide | omega | ((try simp (disch := omega) only [pk_mul, nI_add, Zcl_n]); exact Zin_n (by omega) (by decide)))))) ?_
          refine Zs_ige hX (List.cons_ne_nil _ _) (fun h3_z => ?_) (fun h3_z => ?_)
          · obtain rfl : k_z = m_z := by have := (Zn_le (by omega) (by omega)).mp h3_z; omega
            refine Zgo hX 3 rfl (by (first | exact True.intro | assumption | (dsimp only [ZallP]; and_intros <;> (first | assumption | decide | omega | ((try simp (disch := omega) only [pk_mul, nI_add, Zcl_n]); exact Zin_n (by omega) (by decide)))))) ?_
            rw [e12]
            refine Zs_ret hX hE rfl (by rw [Ffeed, if_pos h9_z, if_neg e_z, g2, nI_add, Zcl_n (show k_z < 2 ^ 31 by omega), Zcl_n (show b_z < 2 ^ 31 by omega)]; exact ⟨rfl, hz1, hhk⟩)
          · have hlt : k_z < m_z := (Nat.lt_or_ge k_z m_z).elim id (fun q_z => absurd ((Zn_le (by omega) (by omega)).mpr q_z) h3_z)
            refine Zgo hX 14 rfl (by show vp_in (M1 1 12) 60; rw [e12]; exact Zin_n (by omega) (by decide)) ?_
            rw [e12, Zcl_n (show b_z + k_z < 2 ^ 31 by omega), pk_mul, Zby_k w_z (by omega)]
            refine Zgo hX 9 rfl (by (first | exact True.intro | assumption | (dsimp only [ZallP]; and_intros <;> (first | assumption | decide | omega | ((try simp (disch := omega) only [pk_mul, nI_add, Zcl_n]); exact Zin_n (by omega) (by decide)))))) ?_
            rw [show (Zu M1 7 (b_z + k_z) (Zsb (Zby w_z k_z))) 1 12 = nI (b_z + k_z) from e12, nI_add, nI_add]
            refine Zs_sub (l' := [(0, .ref 0), (1, .long w_z), (3, .int (nI m_z)), (4, .int (nI (k_z + 1)))]) rfl ?_
            exact ih_z (k_z + 1) _ (by omega) hlt ((hz1.tp (by omega) (Zby_lt w_z k_z)).by1 _) ((hhk.u _ (by decide) _ _).u _ (by decide) _ _)
      refine Zgo hX 2 rfl (by (first | exact True.intro | assumption | (dsimp only [ZallP]; and_intros <;> (first | assumption | decide | omega | ((try simp (disch := omega) only [pk_mul, nI_add, Zcl_n]); exact Zin_n (by omega) (by decide)))))) ?_
      refine Zs_sub (l' := [(0, .ref 0), (1, .long w_z), (3, .int (nI m_z)), (4, .int (nI 0))]) rfl ?_
      exact L (m_z + 1) 0 M (by omega) (by omega) hz_z (Zhk.rf _)
    · have e_z : nI 60 < f_z 5 + nI m_z := by rw [g2, nI_add]; exact Int32.not_le.mp h2_z
      refine Zgo hX 2 rfl (by (first | exact True.intro | assumption | (dsimp only [ZallP]; and_intros <;> (first | assumption | decide | omega | ((try simp (disch := omega) only [pk_mul, nI_add, Zcl_n]); exact Zin_n (by omega) (by decide)))))) ?_
      refine Zs_callv hX (List.cons_ne_nil _ _) (k_refuse 4 _ (by decide)) (by first | decide | omega) (by decide) rfl rfl rfl (by decide) (Nat.le_of_ble_eq_true rfl) (fun r_z M' hc_z => ?_)
      obtain ⟨rfl, hsc⟩ := hc_z
      refine Zs_ret hX hE rfl (by rw [Ffeed, if_pos h9_z, if_pos e_z]; exact Zkok_e hz_z hsc)
  · refine Zs_ne hX (List.cons_ne_nil _ _) (fun q_z => False.elim (by revert q_z; decide)) (fun _ => ?_)
    refine Zgo hX 2 rfl (by (first | exact True.intro | assumption | (dsimp only [ZallP]; and_intros <;> (first | assumption | decide | omega | ((try simp (disch := omega) only [pk_mul, nI_add, Zcl_n]); exact Zin_n (by omega) (by decide)))))) ?_
    refine Zs_callv hX (List.cons_ne_nil _ _) (k_refuse 1 _ (by decide)) (by first | decide | omega) (by decide) rfl rfl rfl (by decide) (Nat.le_of_ble_eq_true rfl) (fun r_z M' hc_z => ?_)
    obtain ⟨rfl, hsc⟩ := hc_z
    refine Zs_ret hX hE rfl (by rw [Ffeed, if_neg h1_z]; exact Zkok_e hz_z hsc)

set_option maxRecDepth 20000 in
set_option maxHeartbeats 1000000 in
theorem s_feed (n_z : Nat) (w_z : Int64) (m_z : Int32) (M : Zmem) (hfi : Zfi (M 54)) (hn_z : M 54 7 = nI n_z) (hn2 : n_z ≤ 15) : ZC 59 2 [.ref 53, .long w_z, .int m_z] M (Zsok (Ffeed (M 54) w_z m_z) M) := by
  refine ZC_of Zt59 Zk59 (Nat.le_of_ble_eq_true rfl) (by decide) rfl (fun X hX hE => ?_)
  refine Zgo hX 3 rfl (by (first | exact True.intro | assumption | (dsimp only [ZallP]; and_intros <;> (first | assumption | decide | omega | ((try simp (disch := omega) only [pk_mul, nI_add, Zcl_n]); exact Zin_n (by omega) (by decide)))))) ?_
  refine Zs_calls hX (List.cons_ne_nil _ _) (by decide) (s_in _ _ _ _) (by first | decide | omega) rfl rfl (by decide) (Nat.le_of_ble_eq_true rfl) (fun r_z M' hc_z => ?_)
  rcases hc_z with ⟨⟨rfl, h1_z⟩ | ⟨rfl, h1_z⟩, rfl⟩
  · refine Zs_ne hX (List.cons_ne_nil _ _) (fun _ => ?_) (fun q_z => False.elim (by revert q_z; decide))
    have h9_z := h1_z
    obtain ⟨m_z, hm_z, rfl⟩ := Zbt_ex (b_z := 8) (by decide) ⟨Int32.le_trans (by decide) h1_z.1, h1_z.2⟩
    obtain ⟨b_z, g1, g2⟩ := hfi.byq
    refine Zgo hX 7 rfl (Zin_n (by decide) (by decide)) ?_
    try simp (disch := omega) only [Zcl_n, pk_mul, nI_add]
    rw [g2, nI_add]
    refine Zs_ile hX (List.cons_ne_nil _ _) (fun h2_z => ?_) (fun h2_z => ?_)
    · have hbm : b_z + m_z ≤ 60 := (Zn_le (by omega) (by omega)).mp h2_z
      have e_z : ¬ nI 60 < M 54 5 + nI m_z := by rw [g2, nI_add]; exact Int32.not_lt.mpr h2_z
      have L : ∀ (q_z k_z : Nat) (M1 : Zmem), m_z - k_z < q_z → k_z ≤ m_z → M1 54 = Zfd (M 54) w_z b_z k_z → Zhs M M1 → ZP X Zt59 (Zsf Zt59 38) [(0, .ref 53), (1, .long w_z), (3, .int (nI m_z)), (4, .int (nI k_z))] [] M1 := by
        intro q_z
        induction q_z with
        | zero => intro k_z M1 hq_z; exact absurd hq_z (Nat.not_lt_zero _)
        | succ q_z ih_z =>
          intro k_z M1 hq_z hk_z hz1 hhk
          obtain ⟨j1_z, j2, j3⟩ := Zfd_fi (w_z := w_z) hfi g2 k_z (by omega)
          have e12 : M1 54 5 = nI (b_z + k_z) := by rw [hz1]; exact j2
          refine Zgo hX 2 rfl (by (first | exact True.intro | assumption | (dsimp only [ZallP]; and_intros <;> (first | assumption | decide | omega | ((try simp (disch := omega) only [pk_mul, nI_add, Zcl_n]); exact Zin_n (by omega) (by decide)))))) ?_
          refine Zs_ige hX (List.cons_ne_nil _ _) (fun h3_z => ?_) (fun h3_z => ?_)
          · obtain rfl : k_z = m_z := by have := (Zn_le (by omega) (by omega)).mp h3_z; omega
            refine Zgo hX 4 rfl (Zin_n (by decide) (by decide)) ?_
            try simp (disch := omega) only [Zcl_n, pk_mul, nI_add]
            rw [e12]
            refine Zs_ret hX hE rfl (by rw [Ffeed, if_pos h9_z, if_neg e_z, g2, nI_add, Zcl_n (show k_z < 2 ^ 31 by omega), Zcl_n (show b_z < 2 ^ 31 by omega)]; exact ⟨rfl, hz1, hhk⟩)
          · have hlt : k_z < m_z := (Nat.lt_or_ge k_z m_z).elim id (fun q_z => absurd ((Zn_le (by omega) (by omega)).mpr q_z) h3_z)
            refine Zgo hX 17 rfl (by dsimp only [ZallP]; refine ⟨Zin_n (by decide) (by decide), ?_⟩; simp (disch := omega) only [Zcl_n, pk_mul, nI_add, Zu_s, Zu_o]; rw [e12, nI_add]; exact Zin_n (by omega) (by decide)) ?_
            simp (disch := omega) only [Zcl_n, pk_mul, nI_add, Zu_s, Zu_o]
            rw [e12, nI_add, Zby_s w_z (by omega)]
            simp (disch := omega) only [Zcl_n, pk_mul, nI_add, Zu_s, Zu_o]
            refine Zgo hX 10 rfl (by dsimp only [ZallP]; exact ⟨Zin_n (by decide) (by decide), Zin_n (by decide) (by decide)⟩) ?_
            simp (disch := omega) only [Zcl_n, pk_mul, nI_add, Zu_s, Zu_o]
            rw [e12, nI_add]
            refine Zs_sub (l' := [(0, .ref 53), (1, .long w_z), (3, .int (nI m_z)), (4, .int (nI (k_z + 1)))]) rfl ?_
            exact ih_z (k_z + 1) _ (by omega) hlt (by rw [Zu_at, Zu_at, hz1]; rfl) ((hhk.u _ _).u _ _)
      refine Zgo hX 2 rfl (by (first | exact True.intro | assumption | (dsimp only [ZallP]; and_intros <;> (first | assumption | decide | omega | ((try simp (disch := omega) only [pk_mul, nI_add, Zcl_n]); exact Zin_n (by omega) (by decide)))))) ?_
      refine Zs_sub (l' := [(0, .ref 53), (1, .long w_z), (3, .int (nI m_z)), (4, .int (nI 0))]) rfl ?_
      exact L (m_z + 1) 0 M (by omega) (by omega) rfl (Zhs.rf _)
    · have e_z : nI 60 < M 54 5 + nI m_z := by rw [g2, nI_add]; exact Int32.not_le.mp h2_z
      refine Zgo hX 2 rfl (by (first | exact True.intro | assumption | (dsimp only [ZallP]; and_intros <;> (first | assumption | decide | omega | ((try simp (disch := omega) only [pk_mul, nI_add, Zcl_n]); exact Zin_n (by omega) (by decide)))))) ?_
      refine Zs_callv hX (List.cons_ne_nil _ _) (s_error 4 _ (by decide)) (by first | decide | omega) (by decide) rfl rfl rfl (by decide) (Nat.le_of_ble_eq_true rfl) (fun r_z M' hc_z => ?_)
      obtain ⟨rfl, hsc⟩ := hc_z
      refine Zs_ret hX hE rfl (by rw [Ffeed, if_pos h9_z, if_pos e_z]; exact Zsok_e hsc)
  · refine Zs_ne hX (List.cons_ne_nil _ _) (fun q_z => False.elim (by revert q_z; decide)) (fun _ => ?_)
    refine Zgo hX 2 rfl (by (first | exact True.intro | assumption | (dsimp only [ZallP]; and_intros <;> (first | assumption | decide | omega | ((try simp (disch := omega) only [pk_mul, nI_add, Zcl_n]); exact Zin_n (by omega) (by decide)))))) ?_
    refine Zs_callv hX (List.cons_ne_nil _ _) (s_error 1 _ (by decide)) (by first | decide | omega) (by decide) rfl rfl rfl (by decide) (Nat.le_of_ble_eq_true rfl) (fun r_z M' hc_z => ?_)
    obtain ⟨rfl, hsc⟩ := hc_z
    refine Zs_ret hX hE rfl (by rw [Ffeed, if_neg h1_z]; exact Zsok_e hsc)

set_option maxRecDepth 20000 in
set_option maxHeartbeats 1000000 in
theorem k_take11_34 (s_z : Nat) (M : Zmem) (hs_z : s_z ≤ 60) : ZC 184 2 [.ref 11, .ref 34, .int (nI s_z)] M (fun r_z M' => r_z = none ∧ Ztk 11 34 s_z M = M') := by
  refine ZC_of Zt184 Zk184 (Nat.le_of_ble_eq_true rfl) (by decide) rfl (fun X hX hE => ?_)
  refine Zgo hX 6 rfl (by (first | exact True.intro | assumption | (dsimp only [ZallP]; and_intros <;> (first | assumption | decide | omega | ((try simp (disch := omega) only [pk_mul, nI_add, Zcl_n]); exact Zin_n (by omega) (by decide)))))) ?_
  refine Zs_calls hX (List.cons_ne_nil _ _) (by decide) (c_min _ _ _) (by first | decide | omega) rfl rfl (by decide) (Nat.le_of_ble_eq_true rfl) (fun r_z M' hc_z => ?_)
  obtain ⟨rfl, rfl⟩ := hc_z
  rw [show (if nI 60 < nI 60 then nI 60 else nI 60) = nI 60 from rfl]
  refine Zs_calls hX (List.cons_ne_nil _ _) (by decide) (k_held _ _ _ _) (by first | decide | omega) rfl rfl (by decide) (Nat.le_of_ble_eq_true rfl) (fun r_z M' hc_z => ?_)
  obtain ⟨rfl, rfl⟩ := hc_z
  rw [Zhl_k (by decide), Zhl_id ((Zn_le (by decide) (by omega)).mpr (Nat.zero_le _)) ((Zn_le (by omega) (by decide)).mpr hs_z)]
  refine Zgo hX 8 rfl (by (first | exact True.intro | assumption | (dsimp only [ZallP]; and_intros <;> (first | assumption | decide | omega | ((try simp (disch := omega) only [pk_mul, nI_add, Zcl_n]); exact Zin_n (by omega) (by decide)))))) ?_
  rw [show (Zu M 11 2 (nI s_z)) 11 2 = nI s_z from rfl]
  refine Zs_cp s_z hX (List.cons_ne_nil _ _) (by decide) (by decide) (by decide) (Or.inl rfl) rfl rfl (by omega) hs_z hs_z (fun q_z => absurd q_z (by decide)) (by decide) ?_
  refine Zgo hX 3 rfl (Or.inr rfl) ?_
  refine Zs_retv hX hE rfl ⟨rfl, rfl⟩

set_option maxRecDepth 20000 in
set_option maxHeartbeats 1000000 in
theorem k_take14_34 (s_z : Nat) (M : Zmem) (hs_z : s_z ≤ 60) : ZC 184 2 [.ref 14, .ref 34, .int (nI s_z)] M (fun r_z M' => r_z = none ∧ Ztk 14 34 s_z M = M') := by
  refine ZC_of Zt184 Zk184 (Nat.le_of_ble_eq_true rfl) (by decide) rfl (fun X hX hE => ?_)
  refine Zgo hX 6 rfl (by (first | exact True.intro | assumption | (dsimp only [ZallP]; and_intros <;> (first | assumption | decide | omega | ((try simp (disch := omega) only [pk_mul, nI_add, Zcl_n]); exact Zin_n (by omega) (by decide)))))) ?_
  refine Zs_calls hX (List.cons_ne_nil _ _) (by decide) (c_min _ _ _) (by first | decide | omega) rfl rfl (by decide) (Nat.le_of_ble_eq_true rfl) (fun r_z M' hc_z => ?_)
  obtain ⟨rfl, rfl⟩ := hc_z
  rw [show (if nI 60 < nI 60 then nI 60 else nI 60) = nI 60 from rfl]
  refine Zs_calls hX (List.cons_ne_nil _ _) (by decide) (k_held _ _ _ _) (by first | decide | omega) rfl rfl (by decide) (Nat.le_of_ble_eq_true rfl) (fun r_z M' hc_z => ?_)
  obtain ⟨rfl, rfl⟩ := hc_z
  rw [Zhl_k (by decide), Zhl_id ((Zn_le (by decide) (by omega)).mpr (Nat.zero_le _)) ((Zn_le (by omega) (by decide)).mpr hs_z)]
  refine Zgo hX 8 rfl (by (first | exact True.intro | assumption | (dsimp only [ZallP]; and_intros <;> (first | assumption | decide | omega | ((try simp (disch := omega) only [pk_mul, nI_add, Zcl_n]); exact Zin_n (by omega) (by decide)))))) ?_
  rw [show (Zu M 14 2 (nI s_z)) 14 2 = nI s_z from rfl]
  refine Zs_cp s_z hX (List.cons_ne_nil _ _) (by decide) (by decide) (by decide) (Or.inl rfl) rfl rfl (by omega) hs_z hs_z (fun q_z => absurd q_z (by decide)) (by decide) ?_
  refine Zgo hX 3 rfl (Or.inr rfl) ?_
  refine Zs_retv hX hE rfl ⟨rfl, rfl⟩

set_option maxRecDepth 20000 in
set_option maxHeartbeats 1000000 in
theorem k_take27_12 (s_z : Nat) (M : Zmem) (hs_z : s_z ≤ 60) : ZC 184 2 [.ref 27, .ref 12, .int (nI s_z)] M (fun r_z M' => r_z = none ∧ Ztk 27 12 s_z M = M') := by
  refine ZC_of Zt184 Zk184 (Nat.le_of_ble_eq_true rfl) (by decide) rfl (fun X hX hE => ?_)
  refine Zgo hX 6 rfl (by (first | exact True.intro | assumption | (dsimp only [ZallP]; and_intros <;> (first | assumption | decide | omega | ((try simp (disch := omega) only [pk_mul, nI_add, Zcl_n]); exact Zin_n (by omega) (by decide)))))) ?_
  refine Zs_calls hX (List.cons_ne_nil _ _) (by decide) (c_min _ _ _) (by first | decide | omega) rfl rfl (by decide) (Nat.le_of_ble_eq_true rfl) (fun r_z M' hc_z => ?_)
  obtain ⟨rfl, rfl⟩ := hc_z
  rw [show (if nI 60 < nI 60 then nI 60 else nI 60) = nI 60 from rfl]
  refine Zs_calls hX (List.cons_ne_nil _ _) (by decide) (k_held _ _ _ _) (by first | decide | omega) rfl rfl (by decide) (Nat.le_of_ble_eq_true rfl) (fun r_z M' hc_z => ?_)
  obtain ⟨rfl, rfl⟩ := hc_z
  rw [Zhl_k (by decide), Zhl_id ((Zn_le (by decide) (by omega)).mpr (Nat.zero_le _)) ((Zn_le (by omega) (by decide)).mpr hs_z)]
  refine Zgo hX 8 rfl (by (first | exact True.intro | assumption | (dsimp only [ZallP]; and_intros <;> (first | assumption | decide | omega | ((try simp (disch := omega) only [pk_mul, nI_add, Zcl_n]); exact Zin_n (by omega) (by decide)))))) ?_
  rw [show (Zu M 27 2 (nI s_z)) 27 2 = nI s_z from rfl]
  refine Zs_cp s_z hX (List.cons_ne_nil _ _) (by decide) (by decide) (by decide) (Or.inl rfl) rfl rfl (by omega) hs_z hs_z (fun q_z => absurd q_z (by decide)) (by decide) ?_
  refine Zgo hX 3 rfl (Or.inr rfl) ?_
  refine Zs_retv hX hE rfl ⟨rfl, rfl⟩

set_option maxRecDepth 20000 in
set_option maxHeartbeats 1000000 in
theorem k_take30_15 (s_z : Nat) (M : Zmem) (hs_z : s_z ≤ 60) : ZC 184 2 [.ref 30, .ref 15, .int (nI s_z)] M (fun r_z M' => r_z = none ∧ Ztk 30 15 s_z M = M') := by
  refine ZC_of Zt184 Zk184 (Nat.le_of_ble_eq_true rfl) (by decide) rfl (fun X hX hE => ?_)
  refine Zgo hX 6 rfl (by (first | exact True.intro | assumption | (dsimp only [ZallP]; and_intros <;> (first | assumption | decide | omega | ((try simp (disch := omega) only [pk_mul, nI_add, Zcl_n]); exact Zin_n (by omega) (by decide)))))) ?_
  refine Zs_calls hX (List.cons_ne_nil _ _) (by decide) (c_min _ _ _) (by first | decide | omega) rfl rfl (by decide) (Nat.le_of_ble_eq_true rfl) (fun r_z M' hc_z => ?_)
  obtain ⟨rfl, rfl⟩ := hc_z
  rw [show (if nI 60 < nI 60 then nI 60 else nI 60) = nI 60 from rfl]
  refine Zs_calls hX (List.cons_ne_nil _ _) (by decide) (k_held _ _ _ _) (by first | decide | omega) rfl rfl (by decide) (Nat.le_of_ble_eq_true rfl) (fun r_z M' hc_z => ?_)
  obtain ⟨rfl, rfl⟩ := hc_z
  rw [Zhl_k (by decide), Zhl_id ((Zn_le (by decide) (by omega)).mpr (Nat.zero_le _)) ((Zn_le (by omega) (by decide)).mpr hs_z)]
  refine Zgo hX 8 rfl (by (first | exact True.intro | assumption | (dsimp only [ZallP]; and_intros <;> (first | assumption | decide | omega | ((try simp (disch := omega) only [pk_mul, nI_add, Zcl_n]); exact Zin_n (by omega) (by decide)))))) ?_
  rw [show (Zu M 30 2 (nI s_z)) 30 2 = nI s_z from rfl]
  refine Zs_cp s_z hX (List.cons_ne_nil _ _) (by decide) (by decide) (by decide) (Or.inl rfl) rfl rfl (by omega) hs_z hs_z (fun q_z => absurd q_z (by decide)) (by decide) ?_
  refine Zgo hX 3 rfl (Or.inr rfl) ?_
  refine Zs_retv hX hE rfl ⟨rfl, rfl⟩

set_option maxRecDepth 20000 in
set_option maxHeartbeats 1000000 in
theorem k_take11_28 (s_z : Nat) (M : Zmem) (hs_z : s_z ≤ 60) : ZC 184 2 [.ref 11, .ref 28, .int (nI s_z)] M (fun r_z M' => r_z = none ∧ Ztk 11 28 s_z M = M') := by
  refine ZC_of Zt184 Zk184 (Nat.le_of_ble_eq_true rfl) (by decide) rfl (fun X hX hE => ?_)
  refine Zgo hX 6 rfl (by (first | exact True.intro | assumption | (dsimp only [ZallP]; and_intros <;> (first | assumption | decide | omega | ((try simp (disch := omega) only [pk_mul, nI_add, Zcl_n]); exact Zin_n (by omega) (by decide)))))) ?_
  refine Zs_calls hX (List.cons_ne_nil _ _) (by decide) (c_min _ _ _) (by first | decide | omega) rfl rfl (by decide) (Nat.le_of_ble_eq_true rfl) (fun r_z M' hc_z => ?_)
  obtain ⟨rfl, rfl⟩ := hc_z
  rw [show (if nI 60 < nI 60 then nI 60 else nI 60) = nI 60 from rfl]
  refine Zs_calls hX (List.cons_ne_nil _ _) (by decide) (k_held _ _ _ _) (by first | decide | omega) rfl rfl (by decide) (Nat.le_of_ble_eq_true rfl) (fun r_z M' hc_z => ?_)
  obtain ⟨rfl, rfl⟩ := hc_z
  rw [Zhl_k (by decide), Zhl_id ((Zn_le (by decide) (by omega)).mpr (Nat.zero_le _)) ((Zn_le (by omega) (by decide)).mpr hs_z)]
  refine Zgo hX 8 rfl (by (first | exact True.intro | assumption | (dsimp only [ZallP]; and_intros <;> (first | assumption | decide | omega | ((try simp (disch := omega) only [pk_mul, nI_add, Zcl_n]); exact Zin_n (by omega) (by decide)))))) ?_
  rw [show (Zu M 11 2 (nI s_z)) 11 2 = nI s_z from rfl]
  refine Zs_cp s_z hX (List.cons_ne_nil _ _) (by decide) (by decide) (by decide) (Or.inl rfl) rfl rfl (by omega) hs_z hs_z (fun q_z => absurd q_z (by decide)) (by decide) ?_
  refine Zgo hX 3 rfl (Or.inr rfl) ?_
  refine Zs_retv hX hE rfl ⟨rfl, rfl⟩

set_option maxRecDepth 20000 in
set_option maxHeartbeats 1000000 in
theorem k_take14_31 (s_z : Nat) (M : Zmem) (hs_z : s_z ≤ 60) : ZC 184 2 [.ref 14, .ref 31, .int (nI s_z)] M (fun r_z M' => r_z = none ∧ Ztk 14 31 s_z M = M') := by
  refine ZC_of Zt184 Zk184 (Nat.le_of_ble_eq_true rfl) (by decide) rfl (fun X hX hE => ?_)
  refine Zgo hX 6 rfl (by (first | exact True.intro | assumption | (dsimp only [ZallP]; and_intros <;> (first | assumption | decide | omega | ((try simp (disch := omega) only [pk_mul, nI_add, Zcl_n]); exact Zin_n (by omega) (by decide)))))) ?_
  refine Zs_calls hX (List.cons_ne_nil _ _) (by decide) (c_min _ _ _) (by first | decide | omega) rfl rfl (by decide) (Nat.le_of_ble_eq_true rfl) (fun r_z M' hc_z => ?_)
  obtain ⟨rfl, rfl⟩ := hc_z
  rw [show (if nI 60 < nI 60 then nI 60 else nI 60) = nI 60 from rfl]
  refine Zs_calls hX (List.cons_ne_nil _ _) (by decide) (k_held _ _ _ _) (by first | decide | omega) rfl rfl (by decide) (Nat.le_of_ble_eq_true rfl) (fun r_z M' hc_z => ?_)
  obtain ⟨rfl, rfl⟩ := hc_z
  rw [Zhl_k (by decide), Zhl_id ((Zn_le (by decide) (by omega)).mpr (Nat.zero_le _)) ((Zn_le (by omega) (by decide)).mpr hs_z)]
  refine Zgo hX 8 rfl (by (first | exact True.intro | assumption | (dsimp only [ZallP]; and_intros <;> (first | assumption | decide | omega | ((try simp (disch := omega) only [pk_mul, nI_add, Zcl_n]); exact Zin_n (by omega) (by decide)))))) ?_
  rw [show (Zu M 14 2 (nI s_z)) 14 2 = nI s_z from rfl]
  refine Zs_cp s_z hX (List.cons_ne_nil _ _) (by decide) (by decide) (by decide) (Or.inl rfl) rfl rfl (by omega) hs_z hs_z (fun q_z => absurd q_z (by decide)) (by decide) ?_
  refine Zgo hX 3 rfl (Or.inr rfl) ?_
  refine Zs_retv hX hE rfl ⟨rfl, rfl⟩

set_option maxRecDepth 20000 in
set_option maxHeartbeats 1000000 in
theorem k_reads (c_z : Nat → Nat) (n_z u_z : Nat) (M : Zmem) (hst : Zst c_z n_z u_z) (ht_z : ∀ i_z, i_z < n_z → M 7 i_z = Zsb (c_z i_z)) : ZC 155 73 [.ref 33, .ref 7, .int (nI n_z), .int (nI u_z)] M (fun r_z M' => Zb r_z ((Zlvl c_z (Zpie c_z u_z 5) 5 0).1 = true ∧ (Zlvl c_z (Zpie c_z u_z 5) 5 0).2.1 = n_z) ∧ Sc M M' ∧ M' 33 2 = nI (Zlvl c_z (Zpie c_z u_z 5) 5 0).2.1 ∧ ((Zlvl c_z (Zpie c_z u_z 5) 5 0).1 = true → M' 33 1 = nI (Zlvl c_z (Zpie c_z u_z 5) 5 0).2.2.length ∧ Zsgm u_z (Zlvl c_z (Zpie c_z u_z 5) 5 0).2.2 (M' 34) 0)) := by
  refine ZC_of Zt155 Zk155 (Nat.le_of_ble_eq_true rfl) (by decide) rfl (fun X hX hE => ?_)
  obtain ⟨hcn, hcb, hn60, hu2⟩ := id hst
  refine Zgo hX 2 rfl (by (first | exact True.intro | assumption | (dsimp only [ZallP]; and_intros <;> (first | assumption | decide | omega | ((try simp (disch := omega) only [pk_mul, nI_add, Zcl_n]); exact Zin_n (by omega) (by decide)))))) ?_
  refine Zs_putf hX (List.cons_ne_nil _ _) (v := .ref 7) (b := 1) (by decide) rfl rfl (Ztp (zad X) (show ¬ (1 : Int32) = 0 by decide)).symm (fun q_z hq_z => by obtain rfl := Option.some.inj (show some ("KnitRiver$Reader", ZT3, 6) = some q_z from hq_z); exact ⟨.array .byte, by decide +kernel, rfl, rfl⟩) ?_
  refine Zgo hX 5 rfl (by (first | exact True.intro | assumption | (dsimp only [ZallP]; and_intros <;> (first | assumption | decide | omega | ((try simp (disch := omega) only [pk_mul, nI_add, Zcl_n]); exact Zin_n (by omega) (by decide)))))) ?_
  refine Zs_calls hX (List.cons_ne_nil _ _) (by decide) (k_held _ _ _ _) (by first | decide | omega) rfl rfl (by decide) (Nat.le_of_ble_eq_true rfl) (fun r_z M' hc_z => ?_)
  obtain ⟨rfl, rfl⟩ := hc_z
  rw [Zhl_k (by decide), Zhl_id ((Zn_le (by decide) (by omega)).mpr (Nat.zero_le _)) ((Zn_le (by omega) (by decide)).mpr hn60)]
  refine Zgo hX 13 rfl (by (first | exact True.intro | assumption | (dsimp only [ZallP]; and_intros <;> (first | assumption | decide | omega | ((try simp (disch := omega) only [pk_mul, nI_add, Zcl_n]); exact Zin_n (by omega) (by decide)))))) ?_
  refine Zs_abs (fun M1 => Zkp c_z n_z u_z 0 0 M1 ∧ Sc M M1) ⟨⟨⟨hcn, hn60, hu2, Nat.zero_le _⟩, (show ¬ (1 : Int32) = 0 by decide), rfl, rfl, rfl, rfl, ht_z⟩, (((((Sc.rf M).u _ rfl).u _ rfl).u _ rfl).u _ rfl).u _ rfl⟩ (fun M1 hM1 => ?_)
  obtain ⟨hz1, hsc1⟩ := hM1
  refine Zs_callv hX (List.cons_ne_nil _ _) (k_levels c_z n_z u_z 5 62 (k_pieces c_z n_z u_z 5 (by decide)) 4 (by decide) 0 0 _ hz1 (Nat.le_refl 0)) (by first | decide | omega) (by decide) rfl rfl rfl (by decide) (Nat.le_of_ble_eq_true rfl) (fun r_z M' hc_z => ?_)
  obtain ⟨hbb, hsc2, s', hs', hz2, hgood⟩ := hc_z
  have hsc := hsc1.tr hsc2
  have hat : M' 33 2 = nI (Zlvl c_z (Zpie c_z u_z 5) 5 0).2.1 := hz2.2.2.2.2.1
  have hby : M' 33 4 = nI n_z := hz2.2.2.1
  have hrest : Sc M M' ∧ M' 33 2 = nI (Zlvl c_z (Zpie c_z u_z 5) 5 0).2.1 ∧ ((Zlvl c_z (Zpie c_z u_z 5) 5 0).1 = true → M' 33 1 = nI (Zlvl c_z (Zpie c_z u_z 5) 5 0).2.2.length ∧ Zsgm u_z (Zlvl c_z (Zpie c_z u_z 5) 5 0).2.2 (M' 34) 0) := by
    refine ⟨hsc, hat, fun q_z => ?_⟩
    obtain ⟨g1, -, g3⟩ := hgood q_z
    rw [Nat.zero_add] at g1
    exact ⟨by rw [← g1]; exact hz2.2.2.2.2.2.1, g3⟩
  have hle : (Zlvl c_z (Zpie c_z u_z 5) 5 0).2.1 ≤ n_z := (Zlvl_gd hcn (Zpie_gd hcn 5) 5 (by decide) 0 (Nat.zero_le _)).2.1
  rcases hbb with ⟨rfl, hb_z⟩ | ⟨rfl, hb_z⟩
  · refine Zs_eq hX (List.cons_ne_nil _ _) (fun q_z => False.elim (by revert q_z; decide)) (fun _ => ?_)
    refine Zgo hX 4 rfl (by (first | exact True.intro | assumption | (dsimp only [ZallP]; and_intros <;> (first | assumption | decide | omega | ((try simp (disch := omega) only [pk_mul, nI_add, Zcl_n]); exact Zin_n (by omega) (by decide)))))) ?_
    rw [hat, hby]
    refine Zs_ine hX (List.cons_ne_nil _ _) (fun h2_z => ?_) (fun h2_z => ?_)
    · refine Zgo hX 1 rfl (by (first | exact True.intro | assumption | (dsimp only [ZallP]; and_intros <;> (first | assumption | decide | omega | ((try simp (disch := omega) only [pk_mul, nI_add, Zcl_n]); exact Zin_n (by omega) (by decide)))))) ?_
      refine Zs_retz hX hE rfl (by first | exact Or.inl rfl | exact Or.inr rfl) ⟨Or.inr ⟨rfl, fun q_z => h2_z (by rw [q_z.2])⟩, hrest⟩
    · refine Zgo hX 2 rfl (by (first | exact True.intro | assumption | (dsimp only [ZallP]; and_intros <;> (first | assumption | decide | omega | ((try simp (disch := omega) only [pk_mul, nI_add, Zcl_n]); exact Zin_n (by omega) (by decide)))))) ?_
      refine Zs_retz hX hE rfl (by first | exact Or.inl rfl | exact Or.inr rfl) ⟨Or.inl ⟨rfl, hb_z, Zeq (by omega) (by omega) h2_z⟩, hrest⟩
  · refine Zs_eq hX (List.cons_ne_nil _ _) (fun _ => ?_) (fun q_z => False.elim (by revert q_z; decide))
    refine Zgo hX 1 rfl (by (first | exact True.intro | assumption | (dsimp only [ZallP]; and_intros <;> (first | assumption | decide | omega | ((try simp (disch := omega) only [pk_mul, nI_add, Zcl_n]); exact Zin_n (by omega) (by decide)))))) ?_
    refine Zs_retz hX hE rfl (by first | exact Or.inl rfl | exact Or.inr rfl) ⟨Or.inr ⟨rfl, fun q_z => hb_z q_z.1⟩, hrest⟩


theorem Zse_0 {u_z : Nat} (h_z : Zse u_z []) : False := by
  have := h_z (fun _ => (nI 5, nI 5)) 0 0 rfl (fun i_z hi_z => absurd hi_z (Nat.not_lt_zero _))
  exact absurd this (by intro q_z; exact absurd (show (0 : Nat) + 1 = 0 from q_z) (by decide))
theorem Zne0 {f_z : Nat → Int32} {n_z u_z : Nat} (h_z : Zst (Zch f_z) n_z u_z) (hr_z : (Zrd f_z u_z).1 = true) (q_z : (Zrd f_z u_z).2.2.length = 0) : False := by
  obtain ⟨-, -, g3⟩ := Zrd_gd h_z
  obtain ⟨-, -, g6⟩ := g3 hr_z
  rw [List.eq_nil_of_length_eq_zero q_z] at g6
  exact Zse_0 g6

set_option maxRecDepth 20000 in
set_option maxHeartbeats 1000000 in
theorem k_text (f_z : Nat → Int32) (n_z : Nat) (use : Int32) (M : Zmem) (hz_z : Zrv 1 f_z M) (hfi : Zfi f_z) (hn_z : f_z 7 = nI n_z) (hn2 : n_z ≤ 15) : ZC 11 75 [.ref 0, .int use] M (Zkok (Ftext f_z use) M) := by
  refine ZC_of Zt11 Zk11 (Nat.le_of_ble_eq_true rfl) (by decide) rfl (fun X hX hE => ?_)
  obtain ⟨b_z, hb60, h5_z⟩ := hfi.byq
  refine Zgo hX 1 rfl (by (first | exact True.intro | assumption | (dsimp only [ZallP]; and_intros <;> (first | assumption | decide | omega | ((try simp (disch := omega) only [pk_mul, nI_add, Zcl_n]); exact Zin_n (by omega) (by decide)))))) ?_
  refine Zs_calls hX (List.cons_ne_nil _ _) (by decide) (k_isUse _ _) (by first | decide | omega) rfl rfl (by decide) (Nat.le_of_ble_eq_true rfl) (fun r_z M' hc_z => ?_)
  rcases hc_z with ⟨⟨rfl, h1_z⟩ | ⟨rfl, h1_z⟩, rfl⟩
  · refine Zs_ne hX (List.cons_ne_nil _ _) (fun _ => ?_) (fun q_z => False.elim (by revert q_z; decide))
    obtain ⟨u_z, hu_z, rfl⟩ := Zbt_ex (b_z := 1) (by decide) h1_z
    rcases (show u_z = 0 ∨ u_z = 1 by omega) with rfl | rfl
    · skip
      obtain ⟨hst, hch⟩ := Zch_st (u_z := 0) hfi h5_z hb60 (by decide)
      have ht_z : ∀ i_z, i_z < b_z → M 7 i_z = Zsb (Zch f_z i_z) := fun i_z hi_z => by rw [(hch i_z hi_z).2]; exact hz_z.2.2.1 i_z (by omega)
      have hgd := Zrd_gd hst
      refine Zgo hX 9 rfl (by (first | exact True.intro | assumption | (dsimp only [ZallP]; and_intros <;> (first | assumption | decide | omega | ((try simp (disch := omega) only [pk_mul, nI_add, Zcl_n]); exact Zin_n (by omega) (by decide)))))) ?_
      rw [show M 1 12 = nI b_z from hz_z.1.2.2.2.2.2.2.1.trans h5_z]
      refine Zs_callv hX (List.cons_ne_nil _ _) (k_reads (Zch f_z) b_z 0 M hst ht_z) (by first | decide | omega) (by decide) rfl rfl rfl (by decide) (Nat.le_of_ble_eq_true rfl) (fun r_z M' hc_z => ?_)
      obtain ⟨hbb, hsc, hat, hg_z⟩ := hc_z
      rw [show Zlvl (Zch f_z) (Zpie (Zch f_z) 0 5) 5 0 = Zrd f_z 0 from rfl] at hbb hat hg_z
      have hz1 := hz_z.sc (Or.inl rfl) hsc
      have hz2 := hz1.by1 (nI 0)
      have hk2 : Zhk M (Zu M' 1 12 (nI 0)) := hsc.hk.u _ (by decide) _ _
      rcases hbb with ⟨rfl, hb_z⟩ | ⟨rfl, hb_z⟩
      · refine Zgo hX 6 rfl (by (first | exact True.intro | assumption | (dsimp only [ZallP]; and_intros <;> (first | assumption | decide | omega | ((try simp (disch := omega) only [pk_mul, nI_add, Zcl_n]); exact Zin_n (by omega) (by decide)))))) ?_
        refine Zs_ne hX (List.cons_ne_nil _ _) (fun _ => ?_) (fun q_z => False.elim (by revert q_z; decide))
        obtain ⟨g4, g5, g6⟩ := hgd.2.2 hb_z.1
        have hle := hgd.2.1
        obtain ⟨q1_z, q2_z⟩ := hg_z hb_z.1
        refine Zgo hX 4 rfl (by (first | exact True.intro | assumption | (dsimp only [ZallP]; and_intros <;> (first | assumption | decide | omega | ((try simp (disch := omega) only [pk_mul, nI_add, Zcl_n]); exact Zin_n (by omega) (by decide)))))) ?_
        refine Zs_aald hX (List.cons_ne_nil _ _) (by decide) rfl (by decide) (j := 0) rfl (by decide) (by decide) rfl ?_
        refine Zgo hX 6 rfl (by (first | exact True.intro | assumption | (dsimp only [ZallP]; and_intros <;> (first | assumption | decide | omega | ((try simp (disch := omega) only [pk_mul, nI_add, Zcl_n]); exact Zin_n (by omega) (by decide)))))) ?_
        rw [show (Zu M' 1 12 (nI 0)) 33 1 = nI (Zrd f_z 0).2.2.length from q1_z]
        refine Zs_callv hX (List.cons_ne_nil _ _) (k_take11_34 _ _ (by omega)) (by first | decide | omega) (by decide) rfl rfl rfl (by decide) (Nat.le_of_ble_eq_true rfl) (fun r_z M' hc_z => ?_)
        obtain ⟨rfl, rfl⟩ := hc_z
        have hz3 : Zrv 1 (Ztt f_z 0 (Zrd f_z 0).2.2 (2 * (Zrd f_z 0).2.2.length)) (Ztk 11 34 (Zrd f_z 0).2.2.length (Zu M' 1 12 (nI 0))) := Zrv_tx (u_z := 0) (t := 11) (by decide) hz2 (fun o_z k_z a1_z a2_z a3 a4 a5 a6 => Ztk_o a5 (fun q_z => a4 q_z.1)) (fun j_z a1_z a2_z => by rw [Ztt_o (by omega), pk_un (by omega), pk_un a1_z]) (by rw [Ztt_o (by omega), pk_un (by decide), pk_us, Ztk_o (by decide) (by decide)]; rfl) ⟨(Zrd f_z 0).2.2.length, by omega, by rw [Ztt_o (by omega), pk_us], ⟨_, (by omega : (Zrd f_z 0).2.2.length ≤ 60), Ztk_2⟩, (Nat.eq_zero_or_pos (Zrd f_z 0).2.2.length).elim (fun q_z => False.elim (Zne0 hst hb_z.1 q_z)) (fun q_z => Or.inl ⟨q_z, Ztk_0, Ztk_2, fun i_z hi_z => by rw [Ztt_g hi_z, Ztk_i (by decide) hi_z]; exact (show Zen 0 _ ((Zu M' 1 12 (nI 0)) 34 i_z) by have := q2_z i_z hi_z; rw [Nat.zero_add] at this; exact this)⟩)⟩
        refine Zgo hX 1 rfl (by (first | exact True.intro | assumption | (dsimp only [ZallP]; and_intros <;> (first | assumption | decide | omega | ((try simp (disch := omega) only [pk_mul, nI_add, Zcl_n]); exact Zin_n (by omega) (by decide)))))) ?_
        refine Zs_ret hX hE rfl (by rw [Ftext, if_pos h1_z, show (nI 0).toNatClampNeg = 0 from Zcl_n (by decide), h5_z, Zcl_n (show b_z < 2 ^ 31 by omega), if_pos hb_z]; exact ⟨rfl, hz3, fun o_z k_z a1_z a2_z => (Ztk_o (by omega) (fun q_z => by omega)).trans (hk2 o_z k_z a1_z a2_z)⟩)
      · refine Zgo hX 6 rfl (by (first | exact True.intro | assumption | (dsimp only [ZallP]; and_intros <;> (first | assumption | decide | omega | ((try simp (disch := omega) only [pk_mul, nI_add, Zcl_n]); exact Zin_n (by omega) (by decide)))))) ?_
        refine Zs_ne hX (List.cons_ne_nil _ _) (fun q_z => False.elim (by revert q_z; decide)) (fun _ => ?_)
        refine Zgo hX 5 rfl (by (first | exact True.intro | assumption | (dsimp only [ZallP]; and_intros <;> (first | assumption | decide | omega | ((try simp (disch := omega) only [pk_mul, nI_add, Zcl_n]); exact Zin_n (by omega) (by decide)))))) ?_
        rw [show (Zu M' 1 12 (nI 0)) 33 2 = nI (Zrd f_z 0).2.1 from hat]
        refine Zs_ret hX hE rfl (by rw [Ftext, if_pos h1_z, show (nI 0).toNatClampNeg = 0 from Zcl_n (by decide), h5_z, Zcl_n (show b_z < 2 ^ 31 by omega), if_neg hb_z]; exact ⟨rfl, hz2, hk2⟩)
    · skip
      obtain ⟨hst, hch⟩ := Zch_st (u_z := 1) hfi h5_z hb60 (by decide)
      have ht_z : ∀ i_z, i_z < b_z → M 7 i_z = Zsb (Zch f_z i_z) := fun i_z hi_z => by rw [(hch i_z hi_z).2]; exact hz_z.2.2.1 i_z (by omega)
      have hgd := Zrd_gd hst
      refine Zgo hX 9 rfl (by (first | exact True.intro | assumption | (dsimp only [ZallP]; and_intros <;> (first | assumption | decide | omega | ((try simp (disch := omega) only [pk_mul, nI_add, Zcl_n]); exact Zin_n (by omega) (by decide)))))) ?_
      rw [show M 1 12 = nI b_z from hz_z.1.2.2.2.2.2.2.1.trans h5_z]
      refine Zs_callv hX (List.cons_ne_nil _ _) (k_reads (Zch f_z) b_z 1 M hst ht_z) (by first | decide | omega) (by decide) rfl rfl rfl (by decide) (Nat.le_of_ble_eq_true rfl) (fun r_z M' hc_z => ?_)
      obtain ⟨hbb, hsc, hat, hg_z⟩ := hc_z
      rw [show Zlvl (Zch f_z) (Zpie (Zch f_z) 1 5) 5 0 = Zrd f_z 1 from rfl] at hbb hat hg_z
      have hz1 := hz_z.sc (Or.inl rfl) hsc
      have hz2 := hz1.by1 (nI 0)
      have hk2 : Zhk M (Zu M' 1 12 (nI 0)) := hsc.hk.u _ (by decide) _ _
      rcases hbb with ⟨rfl, hb_z⟩ | ⟨rfl, hb_z⟩
      · refine Zgo hX 6 rfl (by (first | exact True.intro | assumption | (dsimp only [ZallP]; and_intros <;> (first | assumption | decide | omega | ((try simp (disch := omega) only [pk_mul, nI_add, Zcl_n]); exact Zin_n (by omega) (by decide)))))) ?_
        refine Zs_ne hX (List.cons_ne_nil _ _) (fun _ => ?_) (fun q_z => False.elim (by revert q_z; decide))
        obtain ⟨g4, g5, g6⟩ := hgd.2.2 hb_z.1
        have hle := hgd.2.1
        obtain ⟨q1_z, q2_z⟩ := hg_z hb_z.1
        refine Zgo hX 4 rfl (by (first | exact True.intro | assumption | (dsimp only [ZallP]; and_intros <;> (first | assumption | decide | omega | ((try simp (disch := omega) only [pk_mul, nI_add, Zcl_n]); exact Zin_n (by omega) (by decide)))))) ?_
        refine Zs_aald hX (List.cons_ne_nil _ _) (by decide) rfl (by decide) (j := 1) rfl (by decide) (by decide) rfl ?_
        refine Zgo hX 6 rfl (by (first | exact True.intro | assumption | (dsimp only [ZallP]; and_intros <;> (first | assumption | decide | omega | ((try simp (disch := omega) only [pk_mul, nI_add, Zcl_n]); exact Zin_n (by omega) (by decide)))))) ?_
        rw [show (Zu M' 1 12 (nI 0)) 33 1 = nI (Zrd f_z 1).2.2.length from q1_z]
        refine Zs_callv hX (List.cons_ne_nil _ _) (k_take14_34 _ _ (by omega)) (by first | decide | omega) (by decide) rfl rfl rfl (by decide) (Nat.le_of_ble_eq_true rfl) (fun r_z M' hc_z => ?_)
        obtain ⟨rfl, rfl⟩ := hc_z
        have hz3 : Zrv 1 (Ztt f_z 1 (Zrd f_z 1).2.2 (2 * (Zrd f_z 1).2.2.length)) (Ztk 14 34 (Zrd f_z 1).2.2.length (Zu M' 1 12 (nI 0))) := Zrv_tx (u_z := 1) (t := 14) (by decide) hz2 (fun o_z k_z a1_z a2_z a3 a4 a5 a6 => Ztk_o a5 (fun q_z => a4 q_z.1)) (fun j_z a1_z a2_z => by rw [Ztt_o (by omega), pk_un (by omega), pk_un a1_z]) (by rw [Ztt_o (by omega), pk_un (by decide), pk_us, Ztk_o (by decide) (by decide)]; rfl) ⟨(Zrd f_z 1).2.2.length, by omega, by rw [Ztt_o (by omega), pk_us], ⟨_, (by omega : (Zrd f_z 1).2.2.length ≤ 60), Ztk_2⟩, (Nat.eq_zero_or_pos (Zrd f_z 1).2.2.length).elim (fun q_z => False.elim (Zne0 hst hb_z.1 q_z)) (fun q_z => Or.inl ⟨q_z, Ztk_0, Ztk_2, fun i_z hi_z => by rw [Ztt_g hi_z, Ztk_i (by decide) hi_z]; exact (show Zen 1 _ ((Zu M' 1 12 (nI 0)) 34 i_z) by have := q2_z i_z hi_z; rw [Nat.zero_add] at this; exact this)⟩)⟩
        refine Zgo hX 1 rfl (by (first | exact True.intro | assumption | (dsimp only [ZallP]; and_intros <;> (first | assumption | decide | omega | ((try simp (disch := omega) only [pk_mul, nI_add, Zcl_n]); exact Zin_n (by omega) (by decide)))))) ?_
        refine Zs_ret hX hE rfl (by rw [Ftext, if_pos h1_z, show (nI 1).toNatClampNeg = 1 from Zcl_n (by decide), h5_z, Zcl_n (show b_z < 2 ^ 31 by omega), if_pos hb_z]; exact ⟨rfl, hz3, fun o_z k_z a1_z a2_z => (Ztk_o (by omega) (fun q_z => by omega)).trans (hk2 o_z k_z a1_z a2_z)⟩)
      · refine Zgo hX 6 rfl (by (first | exact True.intro | assumption | (dsimp only [ZallP]; and_intros <;> (first | assumption | decide | omega | ((try simp (disch := omega) only [pk_mul, nI_add, Zcl_n]); exact Zin_n (by omega) (by decide)))))) ?_
        refine Zs_ne hX (List.cons_ne_nil _ _) (fun q_z => False.elim (by revert q_z; decide)) (fun _ => ?_)
        refine Zgo hX 5 rfl (by (first | exact True.intro | assumption | (dsimp only [ZallP]; and_intros <;> (first | assumption | decide | omega | ((try simp (disch := omega) only [pk_mul, nI_add, Zcl_n]); exact Zin_n (by omega) (by decide)))))) ?_
        rw [show (Zu M' 1 12 (nI 0)) 33 2 = nI (Zrd f_z 1).2.1 from hat]
        refine Zs_ret hX hE rfl (by rw [Ftext, if_pos h1_z, show (nI 1).toNatClampNeg = 1 from Zcl_n (by decide), h5_z, Zcl_n (show b_z < 2 ^ 31 by omega), if_neg hb_z]; exact ⟨rfl, hz2, hk2⟩)
  · refine Zs_ne hX (List.cons_ne_nil _ _) (fun q_z => False.elim (by revert q_z; decide)) (fun _ => ?_)
    refine Zgo hX 2 rfl (by (first | exact True.intro | assumption | (dsimp only [ZallP]; and_intros <;> (first | assumption | decide | omega | ((try simp (disch := omega) only [pk_mul, nI_add, Zcl_n]); exact Zin_n (by omega) (by decide)))))) ?_
    refine Zs_callv hX (List.cons_ne_nil _ _) (k_refuse 1 _ (by decide)) (by first | decide | omega) (by decide) rfl rfl rfl (by decide) (Nat.le_of_ble_eq_true rfl) (fun r_z M' hc_z => ?_)
    obtain ⟨rfl, hsc⟩ := hc_z
    refine Zs_ret hX hE rfl (by rw [Ftext, if_neg h1_z]; exact Zkok_e hz_z hsc)

set_option maxRecDepth 20000 in
set_option maxHeartbeats 1000000 in
theorem s_text (n_z : Nat) (use : Int32) (M : Zmem) (hfi : Zfi (M 54)) (hn_z : M 54 7 = nI n_z) (hn2 : n_z ≤ 15) : ZC 71 75 [.ref 53, .int use] M (Zsok (Ftext (M 54) use) M) := by
  refine ZC_of Zt71 Zk71 (Nat.le_of_ble_eq_true rfl) (by decide) rfl (fun X hX hE => ?_)
  obtain ⟨b_z, hb60, h5_z⟩ := hfi.byq
  refine Zgo hX 3 rfl (by (first | exact True.intro | assumption | (dsimp only [ZallP]; and_intros <;> (first | assumption | decide | omega | ((try simp (disch := omega) only [pk_mul, nI_add, Zcl_n]); exact Zin_n (by omega) (by decide)))))) ?_
  refine Zs_calls hX (List.cons_ne_nil _ _) (by decide) (s_in _ _ _ _) (by first | decide | omega) rfl rfl (by decide) (Nat.le_of_ble_eq_true rfl) (fun r_z M' hc_z => ?_)
  rcases hc_z with ⟨⟨rfl, h1_z⟩ | ⟨rfl, h1_z⟩, rfl⟩
  · refine Zs_ne hX (List.cons_ne_nil _ _) (fun _ => ?_) (fun q_z => False.elim (by revert q_z; decide))
    obtain ⟨u_z, hu_z, rfl⟩ := Zbt_ex (b_z := 1) (by decide) h1_z
    obtain ⟨hst, hch⟩ := Zch_st (u_z := u_z) hfi h5_z hb60 (by omega)
    have hgd := Zrd_gd hst
    refine Zgo hX 13 rfl (by (first | exact True.intro | assumption | (dsimp only [ZallP]; and_intros <;> (first | assumption | decide | omega | ((try simp (disch := omega) only [pk_mul, nI_add, Zcl_n]); exact Zin_n (by omega) (by decide)))))) ?_
    refine Zs_abs (fun M1 => Zsp (Zch (M 54)) b_z u_z 5 0 0 M1 ∧ Sc M M1) ⟨⟨⟨⟨hst, Nat.zero_le _⟩, h5_z, rfl, rfl, fun i_z hi_z => (hch i_z hi_z).1⟩, rfl, rfl⟩, ((((Sc.rf M).u _ rfl).u _ rfl).u _ rfl).u _ rfl⟩ (fun M1 hM1 => ?_)
    obtain ⟨hz1, hsc1⟩ := hM1
    refine Zs_callv hX (List.cons_ne_nil _ _) (s_wholes (Zch (M 54)) b_z u_z 5 31 (Zpie (Zch (M 54)) u_z 5) hst.1 (Zpie_gd hst.1 5) (s_ones (Zch (M 54)) b_z u_z hst 5 (by decide)) 0 0 _ hz1 (Nat.le_refl 0)) (by first | decide | omega) (by decide) rfl rfl rfl (by decide) (Nat.le_of_ble_eq_true rfl) (fun r_z M' hc_z => ?_)
    obtain ⟨hbb, hsc2, hzf, hg_z⟩ := hc_z
    rw [show Zlvl (Zch (M 54)) (Zpie (Zch (M 54)) u_z 5) 5 0 = Zrd (M 54) u_z from rfl] at hbb hzf hg_z
    have hsc := hsc1.tr hsc2
    have e54 := hsc.f54
    have hat : M' 53 4 = nI (Zrd (M 54) u_z).2.1 := hzf.2.2.2.1
    have hle := hgd.2.1
    have BAD : ¬ ((Zrd (M 54) u_z).1 = true ∧ (Zrd (M 54) u_z).2.1 = b_z) → ZP X Zt71 (Zsf Zt71 59) [(0, .ref 53), (1, .int (nI u_z))] [] M' := by
      intro hb_z
      refine Zgo hX 7 rfl (Zin_n (by decide) (by decide)) ?_
      try simp (disch := omega) only [Zcl_n, pk_mul, nI_add]
      refine Zgo hX 1 rfl (by (first | exact True.intro | assumption | (dsimp only [ZallP]; and_intros <;> (first | assumption | decide | omega | ((try simp (disch := omega) only [pk_mul, nI_add, Zcl_n]); exact Zin_n (by omega) (by decide)))))) ?_
      refine Zs_ne hX (List.cons_ne_nil _ _) (fun q_z => False.elim (by revert q_z; decide)) (fun _ => ?_)
      refine Zgo hX 4 rfl (by (first | exact True.intro | assumption | (dsimp only [ZallP]; and_intros <;> (first | assumption | decide | omega | ((try simp (disch := omega) only [pk_mul, nI_add, Zcl_n]); exact Zin_n (by omega) (by decide)))))) ?_
      rw [show (Zu M' 54 5 (nI 0)) 53 4 = nI (Zrd (M 54) u_z).2.1 from hat]
      refine Zs_ret hX hE rfl (by rw [Ftext, if_pos h1_z, Zcl_n (show u_z < 2 ^ 31 by omega), h5_z, Zcl_n (show b_z < 2 ^ 31 by omega), if_neg hb_z]; exact ⟨rfl, by rw [Zu_at, e54], hsc.hs.u _ _⟩)
    rcases hbb with ⟨rfl, hb_z⟩ | ⟨rfl, hb_z⟩
    · refine Zs_eq hX (List.cons_ne_nil _ _) (fun q_z => False.elim (by revert q_z; decide)) (fun _ => ?_)
      refine Zgo hX 6 rfl (Zin_n (by decide) (by decide)) ?_
      try simp (disch := omega) only [Zcl_n, pk_mul, nI_add]
      rw [hat, e54, h5_z]
      refine Zs_ine hX (List.cons_ne_nil _ _) (fun h2_z => ?_) (fun h2_z => ?_)
      · refine Zs_sub (l' := [(0, .ref 53), (1, .int (nI u_z))]) rfl ?_
        exact BAD (fun q_z => h2_z (by rw [q_z.2]))
      · have hall : (Zrd (M 54) u_z).1 = true ∧ (Zrd (M 54) u_z).2.1 = b_z := ⟨hb_z, Zeq (by omega) (by omega) h2_z⟩
        obtain ⟨g4, g5, g6⟩ := hgd.2.2 hb_z
        obtain ⟨q1_z, q2_z, q3⟩ := hg_z hb_z
        have hlen : M' 53 6 = nI (Zrd (M 54) u_z).2.2.length := by have := q1_z.2.2; rw [Nat.zero_add] at this; exact this
        have L : ∀ (q_z k_z : Nat) (M1 : Zmem), 2 * (Zrd (M 54) u_z).2.2.length - k_z < q_z → k_z ≤ 2 * (Zrd (M 54) u_z).2.2.length → M1 54 = Ztt (M 54) u_z (Zrd (M 54) u_z).2.2 k_z → Zhs M' M1 → M1 53 6 = nI (Zrd (M 54) u_z).2.2.length → (∀ j_z, M1 57 j_z = M' 57 j_z) → ZP X Zt71 (Zsf Zt71 101) [(0, .ref 53), (1, .int (nI u_z)), (2, .int (nI 1)), (3, .int (nI (84 + 125 * u_z))), (4, .int (nI k_z))] [] M1 := by
          intro q_z
          induction q_z with
          | zero => intro k_z M1 hq_z; exact absurd hq_z (Nat.not_lt_zero _)
          | succ q_z ih_z =>
            intro k_z M1 hq_z hk_z hz1 hhk hl1 h57_z
            refine Zgo hX 5 rfl (by (first | exact True.intro | assumption | (dsimp only [ZallP]; and_intros <;> (first | assumption | decide | omega | ((try simp (disch := omega) only [pk_mul, nI_add, Zcl_n]); exact Zin_n (by omega) (by decide)))))) ?_
            rw [hl1, pk_mul]
            refine Zs_ige hX (List.cons_ne_nil _ _) (fun h3_z => ?_) (fun h3_z => ?_)
            · obtain rfl : k_z = 2 * (Zrd (M 54) u_z).2.2.length := by have := (Zn_le (by omega) (by omega)).mp h3_z; omega
              refine Zgo hX 1 rfl (by (first | exact True.intro | assumption | (dsimp only [ZallP]; and_intros <;> (first | assumption | decide | omega | ((try simp (disch := omega) only [pk_mul, nI_add, Zcl_n]); exact Zin_n (by omega) (by decide)))))) ?_
              refine Zs_ret hX hE rfl (by rw [Ftext, if_pos h1_z, Zcl_n (show u_z < 2 ^ 31 by omega), h5_z, Zcl_n (show b_z < 2 ^ 31 by omega), if_pos hall]; exact ⟨rfl, hz1, hsc.hs.tr hhk⟩)
            · have hlt : k_z < 2 * (Zrd (M 54) u_z).2.2.length := (Nat.lt_or_ge k_z _).elim id (fun q_z => absurd ((Zn_le (by omega) (by omega)).mpr q_z) h3_z)
              refine Zgo hX 12 rfl (by dsimp only [ZallP]; simp only [nI_add]; exact ⟨Zin_n (by omega) (by decide), Zin_n (by omega) (by decide)⟩) ?_
              simp only [nI_add]
              rw [Zcl_n (show 84 + 125 * u_z + 1 + k_z < 2 ^ 31 by omega), Zcl_n (show k_z < 2 ^ 31 by omega), h57_z]
              refine Zgo hX 2 rfl (by (first | exact True.intro | assumption | (dsimp only [ZallP]; and_intros <;> (first | assumption | decide | omega | ((try simp (disch := omega) only [pk_mul, nI_add, Zcl_n]); exact Zin_n (by omega) (by decide)))))) ?_
              rw [nI_add]
              refine Zs_sub (l' := [(0, .ref 53), (1, .int (nI u_z)), (2, .int (nI 1)), (3, .int (nI (84 + 125 * u_z))), (4, .int (nI (k_z + 1)))]) rfl ?_
              refine ih_z (k_z + 1) _ (by omega) hlt ?_ (hhk.u _ _) hl1 h57_z
              rw [Zu_at, hz1, Ztt, show 84 + 125 * u_z + 1 + k_z = 85 + 125 * u_z + k_z by omega]
              congr 1
              have := q3 (k_z / 2) (by omega)
              rw [Nat.zero_add] at this
              unfold Zvl
              split
              · rename_i h_z; rw [← this.1]; congr 1; omega
              · rename_i h_z; rw [← this.2]; congr 1; omega
        refine Zgo hX 8 rfl (Zin_n (by decide) (by decide)) ?_
        try simp (disch := omega) only [Zcl_n, pk_mul, nI_add]
        refine Zgo hX 1 rfl (by (first | exact True.intro | assumption | (dsimp only [ZallP]; and_intros <;> (first | assumption | decide | omega | ((try simp (disch := omega) only [pk_mul, nI_add, Zcl_n]); exact Zin_n (by omega) (by decide)))))) ?_
        refine Zs_ne hX (List.cons_ne_nil _ _) (fun _ => ?_) (fun q_z => False.elim (by revert q_z; decide))
        refine Zgo hX 14 rfl (by dsimp only [ZallP]; simp (disch := omega) only [Zcl_n, pk_mul, nI_add, Zu_s, Zu_o]; exact Zin_n (by omega) (by decide)) ?_
        simp (disch := omega) only [Zcl_n, pk_mul, nI_add, Zu_s, Zu_o]
        rw [hlen]
        refine Zs_sub (l' := [(0, .ref 53), (1, .int (nI u_z)), (2, .int (nI 1)), (3, .int (nI (84 + 125 * u_z))), (4, .int (nI 0))]) rfl ?_
        exact L (2 * (Zrd (M 54) u_z).2.2.length + 1) 0 _ (by omega) (by omega) (by rw [Zu_at, Zu_at, e54]; rfl) (((Zhs.rf _).u _ _).u _ _) hlen (fun j_z => rfl)
    · refine Zs_eq hX (List.cons_ne_nil _ _) (fun _ => ?_) (fun q_z => False.elim (by revert q_z; decide))
      refine Zs_sub (l' := [(0, .ref 53), (1, .int (nI u_z))]) rfl ?_
      exact BAD (fun q_z => hb_z q_z.1)
  · refine Zs_ne hX (List.cons_ne_nil _ _) (fun q_z => False.elim (by revert q_z; decide)) (fun _ => ?_)
    refine Zgo hX 2 rfl (by (first | exact True.intro | assumption | (dsimp only [ZallP]; and_intros <;> (first | assumption | decide | omega | ((try simp (disch := omega) only [pk_mul, nI_add, Zcl_n]); exact Zin_n (by omega) (by decide)))))) ?_
    refine Zs_callv hX (List.cons_ne_nil _ _) (s_error 1 _ (by decide)) (by first | decide | omega) (by decide) rfl rfl rfl (by decide) (Nat.le_of_ble_eq_true rfl) (fun r_z M' hc_z => ?_)
    obtain ⟨rfl, hsc⟩ := hc_z
    refine Zs_ret hX hE rfl (by rw [Ftext, if_neg h1_z]; exact Zsok_e hsc)

set_option maxRecDepth 20000 in
set_option maxHeartbeats 1000000 in
theorem k_untell (f_z : Nat → Int32) (n_z : Nat) (use : Int32) (M : Zmem) (hz_z : Zrv 1 f_z M) (hfi : Zfi f_z) (hn_z : f_z 7 = nI n_z) (hn2 : n_z ≤ 15) : ZC 12 2 [.ref 0, .int use] M (Zkok (Funtell f_z use) M) := by
  refine ZC_of Zt12 Zk12 (Nat.le_of_ble_eq_true rfl) (by decide) rfl (fun X hX hE => ?_)
  refine Zgo hX 1 rfl (by (first | exact True.intro | assumption | (dsimp only [ZallP]; and_intros <;> (first | assumption | decide | omega | ((try simp (disch := omega) only [pk_mul, nI_add, Zcl_n]); exact Zin_n (by omega) (by decide)))))) ?_
  refine Zs_calls hX (List.cons_ne_nil _ _) (by decide) (k_isUse _ _) (by first | decide | omega) rfl rfl (by decide) (Nat.le_of_ble_eq_true rfl) (fun r_z M' hc_z => ?_)
  rcases hc_z with ⟨⟨rfl, h1_z⟩ | ⟨rfl, h1_z⟩, rfl⟩
  · refine Zs_ne hX (List.cons_ne_nil _ _) (fun _ => ?_) (fun q_z => False.elim (by revert q_z; decide))
    obtain ⟨u_z, hu_z, rfl⟩ := Zbt_ex (b_z := 1) (by decide) h1_z
    have hct0 := hz_z.2.2.2.2.1
    have hct1 := hz_z.2.2.2.2.2
    refine Zgo hX 4 rfl (by (first | exact True.intro | assumption | (dsimp only [ZallP]; and_intros <;> (first | assumption | decide | omega | ((try simp (disch := omega) only [pk_mul, nI_add, Zcl_n]); exact Zin_n (by omega) (by decide)))))) ?_
    rcases (show u_z = 0 ∨ u_z = 1 by omega) with rfl | rfl
    · skip
      refine Zs_aald hX (List.cons_ne_nil _ _) (by decide) rfl (by decide) (j := 0) rfl (by decide) (by decide) rfl ?_
      refine Zgo hX 1 rfl (by (first | exact True.intro | assumption | (dsimp only [ZallP]; and_intros <;> (first | assumption | decide | omega | ((try simp (disch := omega) only [pk_mul, nI_add, Zcl_n]); exact Zin_n (by omega) (by decide)))))) ?_
      obtain ⟨n0_z, g1, g2, ⟨n9, g3, g4⟩, g5⟩ := hct0
      have hcu : Zcu f_z 0 = n0_z := Zcu_of g2 g1
      have hz2 : Zrv 1 (upd f_z (84 + 125 * 0) (nI 0)) (Zu M 11 0 (nI 0)) := Zrv_tx (u_z := 0) (t := 11) (by decide) hz_z (fun o_z k_z a1_z a2_z a3 a4 a5 a6 => Zu_o (fun q_z => a4 q_z.1)) (fun j_z a1_z a2_z => pk_un (by omega)) hz_z.1.2.2.2.2.2.2.1 ⟨0, by decide, pk_us, ⟨n9, g3, g4⟩, Or.inr ⟨rfl, rfl⟩⟩
      have hk2 : Zhk M (Zu M 11 0 (nI 0)) := (Zhk.rf M).u _ (by decide) _ _
      rcases g5 with ⟨g5, g6, -, -⟩ | ⟨g5, g6⟩
      · rw [g6]
        refine Zs_eq hX (List.cons_ne_nil _ _) (fun q_z => False.elim (by revert q_z; decide)) (fun _ => ?_)
        refine Zgo hX 7 rfl (by (first | exact True.intro | assumption | (dsimp only [ZallP]; and_intros <;> (first | assumption | decide | omega | ((try simp (disch := omega) only [pk_mul, nI_add, Zcl_n]); exact Zin_n (by omega) (by decide)))))) ?_
        refine Zs_aald hX (List.cons_ne_nil _ _) (by decide) rfl (by decide) (j := 0) rfl (by decide) (by decide) rfl ?_
        refine Zgo hX 3 rfl (Or.inl rfl) ?_
        refine Zs_ret hX hE rfl (by rw [Funtell, if_pos h1_z, show (nI 0).toNatClampNeg = 0 from Zcl_n (by decide), hcu, if_pos g5]; exact ⟨rfl, hz2, hk2⟩)
      · rw [g6]
        refine Zs_eq hX (List.cons_ne_nil _ _) (fun _ => ?_) (fun q_z => False.elim (by revert q_z; decide))
        refine Zgo hX 6 rfl (by (first | exact True.intro | assumption | (dsimp only [ZallP]; and_intros <;> (first | assumption | decide | omega | ((try simp (disch := omega) only [pk_mul, nI_add, Zcl_n]); exact Zin_n (by omega) (by decide)))))) ?_
        refine Zs_aald hX (List.cons_ne_nil _ _) (by decide) rfl (by decide) (j := 0) rfl (by decide) (by decide) rfl ?_
        refine Zgo hX 3 rfl (Or.inl rfl) ?_
        refine Zs_ret hX hE rfl (by rw [Funtell, if_pos h1_z, show (nI 0).toNatClampNeg = 0 from Zcl_n (by decide), hcu, if_neg (by omega)]; exact ⟨rfl, hz2, hk2⟩)
    · skip
      refine Zs_aald hX (List.cons_ne_nil _ _) (by decide) rfl (by decide) (j := 1) rfl (by decide) (by decide) rfl ?_
      refine Zgo hX 1 rfl (by (first | exact True.intro | assumption | (dsimp only [ZallP]; and_intros <;> (first | assumption | decide | omega | ((try simp (disch := omega) only [pk_mul, nI_add, Zcl_n]); exact Zin_n (by omega) (by decide)))))) ?_
      obtain ⟨n0_z, g1, g2, ⟨n9, g3, g4⟩, g5⟩ := hct1
      have hcu : Zcu f_z 1 = n0_z := Zcu_of g2 g1
      have hz2 : Zrv 1 (upd f_z (84 + 125 * 1) (nI 0)) (Zu M 14 0 (nI 0)) := Zrv_tx (u_z := 1) (t := 14) (by decide) hz_z (fun o_z k_z a1_z a2_z a3 a4 a5 a6 => Zu_o (fun q_z => a4 q_z.1)) (fun j_z a1_z a2_z => pk_un (by omega)) hz_z.1.2.2.2.2.2.2.1 ⟨0, by decide, pk_us, ⟨n9, g3, g4⟩, Or.inr ⟨rfl, rfl⟩⟩
      have hk2 : Zhk M (Zu M 14 0 (nI 0)) := (Zhk.rf M).u _ (by decide) _ _
      rcases g5 with ⟨g5, g6, -, -⟩ | ⟨g5, g6⟩
      · rw [g6]
        refine Zs_eq hX (List.cons_ne_nil _ _) (fun q_z => False.elim (by revert q_z; decide)) (fun _ => ?_)
        refine Zgo hX 7 rfl (by (first | exact True.intro | assumption | (dsimp only [ZallP]; and_intros <;> (first | assumption | decide | omega | ((try simp (disch := omega) only [pk_mul, nI_add, Zcl_n]); exact Zin_n (by omega) (by decide)))))) ?_
        refine Zs_aald hX (List.cons_ne_nil _ _) (by decide) rfl (by decide) (j := 1) rfl (by decide) (by decide) rfl ?_
        refine Zgo hX 3 rfl (Or.inl rfl) ?_
        refine Zs_ret hX hE rfl (by rw [Funtell, if_pos h1_z, show (nI 1).toNatClampNeg = 1 from Zcl_n (by decide), hcu, if_pos g5]; exact ⟨rfl, hz2, hk2⟩)
      · rw [g6]
        refine Zs_eq hX (List.cons_ne_nil _ _) (fun _ => ?_) (fun q_z => False.elim (by revert q_z; decide))
        refine Zgo hX 6 rfl (by (first | exact True.intro | assumption | (dsimp only [ZallP]; and_intros <;> (first | assumption | decide | omega | ((try simp (disch := omega) only [pk_mul, nI_add, Zcl_n]); exact Zin_n (by omega) (by decide)))))) ?_
        refine Zs_aald hX (List.cons_ne_nil _ _) (by decide) rfl (by decide) (j := 1) rfl (by decide) (by decide) rfl ?_
        refine Zgo hX 3 rfl (Or.inl rfl) ?_
        refine Zs_ret hX hE rfl (by rw [Funtell, if_pos h1_z, show (nI 1).toNatClampNeg = 1 from Zcl_n (by decide), hcu, if_neg (by omega)]; exact ⟨rfl, hz2, hk2⟩)
  · refine Zs_ne hX (List.cons_ne_nil _ _) (fun q_z => False.elim (by revert q_z; decide)) (fun _ => ?_)
    refine Zgo hX 2 rfl (by (first | exact True.intro | assumption | (dsimp only [ZallP]; and_intros <;> (first | assumption | decide | omega | ((try simp (disch := omega) only [pk_mul, nI_add, Zcl_n]); exact Zin_n (by omega) (by decide)))))) ?_
    refine Zs_callv hX (List.cons_ne_nil _ _) (k_refuse 1 _ (by decide)) (by first | decide | omega) (by decide) rfl rfl rfl (by decide) (Nat.le_of_ble_eq_true rfl) (fun r_z M' hc_z => ?_)
    obtain ⟨rfl, hsc⟩ := hc_z
    refine Zs_ret hX hE rfl (by rw [Funtell, if_neg h1_z]; exact Zkok_e hz_z hsc)

set_option maxRecDepth 20000 in
set_option maxHeartbeats 1000000 in
theorem s_untell (n_z : Nat) (use : Int32) (M : Zmem) (hfi : Zfi (M 54)) (hn_z : M 54 7 = nI n_z) (hn2 : n_z ≤ 15) : ZC 72 2 [.ref 53, .int use] M (Zsok (Funtell (M 54) use) M) := by
  refine ZC_of Zt72 Zk72 (Nat.le_of_ble_eq_true rfl) (by decide) rfl (fun X hX hE => ?_)
  refine Zgo hX 3 rfl (by (first | exact True.intro | assumption | (dsimp only [ZallP]; and_intros <;> (first | assumption | decide | omega | ((try simp (disch := omega) only [pk_mul, nI_add, Zcl_n]); exact Zin_n (by omega) (by decide)))))) ?_
  refine Zs_calls hX (List.cons_ne_nil _ _) (by decide) (s_in _ _ _ _) (by first | decide | omega) rfl rfl (by decide) (Nat.le_of_ble_eq_true rfl) (fun r_z M' hc_z => ?_)
  rcases hc_z with ⟨⟨rfl, h1_z⟩ | ⟨rfl, h1_z⟩, rfl⟩
  · refine Zs_ne hX (List.cons_ne_nil _ _) (fun _ => ?_) (fun q_z => False.elim (by revert q_z; decide))
    obtain ⟨u_z, hu_z, rfl⟩ := Zbt_ex (b_z := 1) (by decide) h1_z
    have hx_z : Ztx (M 54) u_z := by
      rcases (show u_z = 0 ∨ u_z = 1 by omega) with rfl | rfl
      · exact hfi.2.2.2.1
      · exact hfi.2.2.2.2
    obtain ⟨n0_z, g1, g2, -⟩ := hx_z
    have hcu : Zcu (M 54) u_z = n0_z := Zcu_of g2 g1
    refine Zgo hX 2 rfl (by (first | exact True.intro | assumption | (dsimp only [ZallP]; and_intros <;> (first | assumption | decide | omega | ((try simp (disch := omega) only [pk_mul, nI_add, Zcl_n]); exact Zin_n (by omega) (by decide)))))) ?_
    refine Zs_callv hX (List.cons_ne_nil _ _) (s_hasText u_z n0_z _ (by omega) g2 g1) (by first | decide | omega) (by decide) rfl rfl rfl (by decide) (Nat.le_of_ble_eq_true rfl) (fun r_z M' hc_z => ?_)
    rcases hc_z with ⟨⟨rfl, h2_z⟩ | ⟨rfl, h2_z⟩, rfl⟩
    · refine Zs_eq hX (List.cons_ne_nil _ _) (fun q_z => False.elim (by revert q_z; decide)) (fun _ => ?_)
      refine Zgo hX 13 rfl (by rw [pk_mul, nI_add]; exact Zin_n (by omega) (by decide)) ?_
      simp (disch := omega) only [Zcl_n, pk_mul, nI_add, Zu_s, Zu_o]
      refine Zs_ret hX hE rfl (by rw [Funtell, if_pos h1_z, Zcl_n (show u_z < 2 ^ 31 by omega), hcu, if_pos h2_z]; exact ⟨rfl, by rw [Zu_at], (Zhs.rf M).u _ _⟩)
    · refine Zs_eq hX (List.cons_ne_nil _ _) (fun _ => ?_) (fun q_z => False.elim (by revert q_z; decide))
      refine Zgo hX 12 rfl (by rw [pk_mul, nI_add]; exact Zin_n (by omega) (by decide)) ?_
      simp (disch := omega) only [Zcl_n, pk_mul, nI_add, Zu_s, Zu_o]
      refine Zs_ret hX hE rfl (by rw [Funtell, if_pos h1_z, Zcl_n (show u_z < 2 ^ 31 by omega), hcu, if_neg h2_z]; exact ⟨rfl, by rw [Zu_at], (Zhs.rf M).u _ _⟩)
  · refine Zs_ne hX (List.cons_ne_nil _ _) (fun q_z => False.elim (by revert q_z; decide)) (fun _ => ?_)
    refine Zgo hX 2 rfl (by (first | exact True.intro | assumption | (dsimp only [ZallP]; and_intros <;> (first | assumption | decide | omega | ((try simp (disch := omega) only [pk_mul, nI_add, Zcl_n]); exact Zin_n (by omega) (by decide)))))) ?_
    refine Zs_callv hX (List.cons_ne_nil _ _) (s_error 1 _ (by decide)) (by first | decide | omega) (by decide) rfl rfl rfl (by decide) (Nat.le_of_ble_eq_true rfl) (fun r_z M' hc_z => ?_)
    obtain ⟨rfl, hsc⟩ := hc_z
    refine Zs_ret hX hE rfl (by rw [Funtell, if_neg h1_z]; exact Zsok_e hsc)

set_option maxRecDepth 20000 in
set_option maxHeartbeats 1000000 in
theorem k_law (f_z : Nat → Int32) (n_z : Nat) (use a_z b_z c_z : Int32) (M : Zmem) (hz_z : Zrv 1 f_z M) (hfi : Zfi f_z) (hn_z : f_z 7 = nI n_z) (hn2 : n_z ≤ 15) : ZC 13 4 [.ref 0, .int use, .int a_z, .int b_z, .int c_z] M (fun r_z M' => (∃ v_z : Int32, r_z = some (.int v_z)) ∧ Sc M M') := by
  refine ZC_of Zt13 Zk13 (Nat.le_of_ble_eq_true rfl) (by decide) rfl (fun X hX hE => ?_)
  refine Zgo hX 1 rfl (by (first | exact True.intro | assumption | (dsimp only [ZallP]; and_intros <;> (first | assumption | decide | omega | ((try simp (disch := omega) only [pk_mul, nI_add, Zcl_n]); exact Zin_n (by omega) (by decide)))))) ?_
  refine Zs_calls hX (List.cons_ne_nil _ _) (by decide) (k_isUse _ _) (by first | decide | omega) rfl rfl (by decide) (Nat.le_of_ble_eq_true rfl) (fun r_z M' hc_z => ?_)
  rcases hc_z with ⟨⟨rfl, h1_z⟩ | ⟨rfl, h1_z⟩, rfl⟩
  · refine Zs_eq hX (List.cons_ne_nil _ _) (fun q_z => False.elim (by revert q_z; decide)) (fun _ => ?_)
    obtain ⟨u_z, hu_z, rfl⟩ := Zbt_ex (b_z := 1) (by decide) h1_z
    refine Zgo hX 6 rfl (by (first | exact True.intro | assumption | (dsimp only [ZallP]; and_intros <;> (first | assumption | decide | omega | ((try simp (disch := omega) only [pk_mul, nI_add, Zcl_n]); exact Zin_n (by omega) (by decide)))))) ?_
    rcases (show u_z = 0 ∨ u_z = 1 by omega) with rfl | rfl
    · refine Zs_callv hX (List.cons_ne_nil _ _) (k_given0 f_z _ _ _ _ hz_z.2.2.2.2.1 hfi.2.2.2.1) (by first | decide | omega) (by decide) rfl rfl rfl (by decide) (Nat.le_of_ble_eq_true rfl) (fun r_z M' hc_z => ?_)
      obtain ⟨rfl, hs2⟩ := hc_z
      refine Zgo hX 1 rfl (by (first | exact True.intro | assumption | (dsimp only [ZallP]; and_intros <;> (first | assumption | decide | omega | ((try simp (disch := omega) only [pk_mul, nI_add, Zcl_n]); exact Zin_n (by omega) (by decide)))))) ?_
      refine Zs_ret hX hE rfl ⟨⟨_, rfl⟩, hs2.sc⟩
    · refine Zs_callv hX (List.cons_ne_nil _ _) (k_given1 f_z _ _ _ _ hz_z.2.2.2.2.2 hfi.2.2.2.2) (by first | decide | omega) (by decide) rfl rfl rfl (by decide) (Nat.le_of_ble_eq_true rfl) (fun r_z M' hc_z => ?_)
      obtain ⟨rfl, hs2⟩ := hc_z
      refine Zgo hX 1 rfl (by (first | exact True.intro | assumption | (dsimp only [ZallP]; and_intros <;> (first | assumption | decide | omega | ((try simp (disch := omega) only [pk_mul, nI_add, Zcl_n]); exact Zin_n (by omega) (by decide)))))) ?_
      refine Zs_ret hX hE rfl ⟨⟨_, rfl⟩, hs2.sc⟩
  · refine Zs_eq hX (List.cons_ne_nil _ _) (fun _ => ?_) (fun q_z => False.elim (by revert q_z; decide))
    refine Zgo hX 2 rfl (by (first | exact True.intro | assumption | (dsimp only [ZallP]; and_intros <;> (first | assumption | decide | omega | ((try simp (disch := omega) only [pk_mul, nI_add, Zcl_n]); exact Zin_n (by omega) (by decide)))))) ?_
    refine Zs_callv hX (List.cons_ne_nil _ _) (k_refuse 1 _ (by decide)) (by first | decide | omega) (by decide) rfl rfl rfl (by decide) (Nat.le_of_ble_eq_true rfl) (fun r_z M' hc_z => ?_)
    obtain ⟨rfl, hsc⟩ := hc_z
    refine Zs_ret hX hE rfl ⟨⟨_, rfl⟩, hsc⟩

set_option maxRecDepth 20000 in
set_option maxHeartbeats 1000000 in
theorem s_law (n_z : Nat) (use a_z b_z c_z : Int32) (M : Zmem) (hfi : Zfi (M 54)) (hn_z : M 54 7 = nI n_z) (hn2 : n_z ≤ 15) : ZC 98 4 [.ref 53, .int use, .int a_z, .int b_z, .int c_z] M (fun r_z M' => (∃ v_z : Int32, r_z = some (.int v_z)) ∧ Sc M M') := by
  refine ZC_of Zt98 Zk98 (Nat.le_of_ble_eq_true rfl) (by decide) rfl (fun X hX hE => ?_)
  refine Zgo hX 3 rfl (by (first | exact True.intro | assumption | (dsimp only [ZallP]; and_intros <;> (first | assumption | decide | omega | ((try simp (disch := omega) only [pk_mul, nI_add, Zcl_n]); exact Zin_n (by omega) (by decide)))))) ?_
  refine Zs_calls hX (List.cons_ne_nil _ _) (by decide) (s_in _ _ _ _) (by first | decide | omega) rfl rfl (by decide) (Nat.le_of_ble_eq_true rfl) (fun r_z M' hc_z => ?_)
  rcases hc_z with ⟨⟨rfl, h1_z⟩ | ⟨rfl, h1_z⟩, rfl⟩
  · refine Zs_ne hX (List.cons_ne_nil _ _) (fun _ => ?_) (fun q_z => False.elim (by revert q_z; decide))
    refine Zgo hX 1 rfl (by (first | exact True.intro | assumption | (dsimp only [ZallP]; and_intros <;> (first | assumption | decide | omega | ((try simp (disch := omega) only [pk_mul, nI_add, Zcl_n]); exact Zin_n (by omega) (by decide)))))) ?_
    refine Zs_ne hX (List.cons_ne_nil _ _) (fun h2_z => ?_) (fun h2_z => ?_)
    · refine Zgo hX 4 rfl (by (first | exact True.intro | assumption | (dsimp only [ZallP]; and_intros <;> (first | assumption | decide | omega | ((try simp (disch := omega) only [pk_mul, nI_add, Zcl_n]); exact Zin_n (by omega) (by decide)))))) ?_
      refine Zs_callv hX (List.cons_ne_nil _ _) (s_holdsTold _ _ _ _ hfi.2.2.2.2) (by first | decide | omega) (by decide) rfl rfl rfl (by decide) (Nat.le_of_ble_eq_true rfl) (fun r_z M' hc_z => ?_)
      obtain ⟨rfl, hs2⟩ := hc_z
      refine Zs_ret hX hE rfl ⟨⟨_, rfl⟩, hs2.sc⟩
    · refine Zgo hX 4 rfl (by (first | exact True.intro | assumption | (dsimp only [ZallP]; and_intros <;> (first | assumption | decide | omega | ((try simp (disch := omega) only [pk_mul, nI_add, Zcl_n]); exact Zin_n (by omega) (by decide)))))) ?_
      refine Zs_callv hX (List.cons_ne_nil _ _) (s_yarnTold _ _ _ _ hfi.2.2.2.1) (by first | decide | omega) (by decide) rfl rfl rfl (by decide) (Nat.le_of_ble_eq_true rfl) (fun r_z M' hc_z => ?_)
      obtain ⟨rfl, hs2⟩ := hc_z
      refine Zgo hX 1 rfl (by (first | exact True.intro | assumption | (dsimp only [ZallP]; and_intros <;> (first | assumption | decide | omega | ((try simp (disch := omega) only [pk_mul, nI_add, Zcl_n]); exact Zin_n (by omega) (by decide)))))) ?_
      refine Zs_ret hX hE rfl ⟨⟨_, rfl⟩, hs2.sc⟩
  · refine Zs_ne hX (List.cons_ne_nil _ _) (fun q_z => False.elim (by revert q_z; decide)) (fun _ => ?_)
    refine Zgo hX 2 rfl (by (first | exact True.intro | assumption | (dsimp only [ZallP]; and_intros <;> (first | assumption | decide | omega | ((try simp (disch := omega) only [pk_mul, nI_add, Zcl_n]); exact Zin_n (by omega) (by decide)))))) ?_
    refine Zs_callv hX (List.cons_ne_nil _ _) (s_error 1 _ (by decide)) (by first | decide | omega) (by decide) rfl rfl rfl (by decide) (Nat.le_of_ble_eq_true rfl) (fun r_z M' hc_z => ?_)
    obtain ⟨rfl, hsc⟩ := hc_z
    refine Zs_ret hX hE rfl ⟨⟨_, rfl⟩, hsc⟩
