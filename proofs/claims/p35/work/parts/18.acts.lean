
theorem Zpr (n_z : Nat) : nI (n_z + 1) - nI 1 = nI n_z := nI_pred n_z
theorem Zfi.wq {f_z : Nat → Int32} (h_z : Zfi f_z) : ∃ w_z, w_z ≤ 24 ∧ f_z 6 = nI w_z := h_z.2.1.2.2.2.2.2
theorem Zfi.seq {f_z : Nat → Int32} (h_z : Zfi f_z) : ∃ a_z, a_z ≤ 9999 ∧ f_z 2 = nI a_z := h_z.2.1.2.2.1
theorem Zfi.thq {f_z : Nat → Int32} (h_z : Zfi f_z) : ∃ a_z, a_z ≤ 9999 ∧ f_z 0 = nI a_z := h_z.2.1.1
theorem Zfi.wyq {f_z : Nat → Int32} (h_z : Zfi f_z) : ∃ a_z, a_z < 4 ∧ f_z 1 = nI a_z := h_z.2.1.2.1
theorem Zfi.byq {f_z : Nat → Int32} (h_z : Zfi f_z) : ∃ a_z, a_z ≤ 60 ∧ f_z 5 = nI a_z := h_z.2.1.2.2.2.2.1
theorem Zyo_b (f_z : Nat → Int32) (i_z : Nat) : 1 ≤ (Zyo f_z i_z).toInt ∧ (Zyo f_z i_z).toInt ≤ 99 := Zhl_in (Zn_i (by decide)) (Zn_i (by decide)) (by decide)
/-- the end is pulled as far as a_z row_z, from m_z rows on -/
def Zun (row_z : Nat) (f_z : Nat → Int32) : Nat → Nat × (Nat → Int32)
  | 0 => (0, f_z)
  | m_z + 1 => if row_z ≤ m_z ∧ f_z (13 + 5 * m_z) = 0 then ((Zun row_z (upd (upd f_z 0 (Zhl (f_z 0 + Zyo f_z m_z) (nI 0) (nI 9999))) 7 (nI m_z)) m_z).1 + 1, (Zun row_z (upd (upd f_z 0 (Zhl (f_z 0 + Zyo f_z m_z) (nI 0) (nI 9999))) 7 (nI m_z)) m_z).2) else (0, f_z)
noncomputable def Fpull (f_z : Nat → Int32) (n_z : Nat) (row_z : Int32) : Zan_ := haveI : Decidable (vp_in row_z n_z) := Classical.propDecidable _; if vp_in row_z n_z then (nI (Zun row_z.toNatClampNeg f_z n_z).1, (Zun row_z.toNatClampNeg f_z n_z).2) else (Er 1, f_z)
def Zu1 (f_z : Nat → Int32) (m_z : Nat) : Nat → Int32 := upd (upd f_z 0 (Zhl (f_z 0 + Zyo f_z m_z) (nI 0) (nI 9999))) 7 (nI m_z)
theorem Zun_y {row_z m_z : Nat} {f_z : Nat → Int32} (h_z : row_z ≤ m_z) (h2_z : f_z (13 + 5 * m_z) = 0) : Zun row_z f_z (m_z + 1) = ((Zun row_z (Zu1 f_z m_z) m_z).1 + 1, (Zun row_z (Zu1 f_z m_z) m_z).2) := by rw [Zun, if_pos ⟨h_z, h2_z⟩]; rfl
theorem Zun_n {row_z m_z : Nat} {f_z : Nat → Int32} (h_z : ¬ (row_z ≤ m_z ∧ f_z (13 + 5 * m_z) = 0)) : Zun row_z f_z (m_z + 1) = (0, f_z) := by rw [Zun, if_neg h_z]
theorem Zu1_fi {f_z : Nat → Int32} {m_z : Nat} (h_z : Zfi f_z) (hn_z : f_z 7 = nI (m_z + 1)) (hm_z : m_z + 1 ≤ 15) : Zfi (Zu1 f_z m_z) ∧ Zu1 f_z m_z 7 = nI m_z := by
  obtain ⟨a_z, h1_z, h2_z⟩ := Zhl_ex (x_z := f_z 0 + Zyo f_z m_z)
  refine ⟨?_, pk_us⟩
  unfold Zu1
  rw [h2_z]
  exact (h_z.th h1_z).less (n_z := m_z + 1) (by rw [pk_un (by decide)]; exact hn_z) hm_z (by omega)
theorem Zth_k {f_z : Nat → Int32} (h_z : Zfi f_z) (m_z : Nat) : (if f_z 0 + Zyo f_z m_z < nI 9999 then f_z 0 + Zyo f_z m_z else nI 9999) = Zhl (f_z 0 + Zyo f_z m_z) (nI 0) (nI 9999) := by
  obtain ⟨a_z, h1_z, h2_z⟩ := h_z.thq
  have := Zyo_b f_z m_z
  exact Zsea_k (by rw [h2_z, Zn_i (by omega)]; omega) (by omega)
theorem s_heldZ (v_z a_z b_z : Int32) (M : Zmem) : ZC 52 0 [.int v_z, .int a_z, .int b_z] M (fun r_z M' => r_z = some (.int (Zhl v_z a_z b_z)) ∧ M = M') := s_held v_z a_z b_z M

set_option maxRecDepth 20000 in
set_option maxHeartbeats 1000000 in
theorem k_seed (f_z : Nat → Int32) (n_z : Nat) (v_z : Int32) (M : Zmem) (hz_z : Zrv 1 f_z M) (hfi : Zfi f_z) (hn_z : f_z 7 = nI n_z) (hn2 : n_z ≤ 15) : ZC 16 1 [.ref 0, .int v_z] M (Zkok (Fseed f_z v_z) M) := by
  refine ZC_of Zt16 Zk16 (Nat.le_of_ble_eq_true rfl) (by decide) rfl (fun X hX hE => ?_)
  refine Zgo hX 9 rfl (by (first | exact True.intro | assumption | (dsimp only [ZallP]; and_intros <;> (first | assumption | decide | omega | ((try simp (disch := omega) only [pk_mul, nI_add, Zcl_n]); exact Zin_n (by omega) (by decide)))))) ?_
  refine Zs_ret hX hE rfl ⟨congrArg (fun z_z => some (Value.int z_z)) hz_z.1.2.2.2.2.2.1, hz_z.z1 _, (Zhk.rf M).u _ (by decide) _ _⟩

set_option maxRecDepth 20000 in
set_option maxHeartbeats 1000000 in
theorem s_seed (n_z : Nat) (v_z : Int32) (M : Zmem) (hfi : Zfi (M 54)) (hn_z : M 54 7 = nI n_z) (hn2 : n_z ≤ 15) : ZC 102 1 [.ref 53, .int v_z] M (Zsok (Fseed (M 54) v_z) M) := by
  refine ZC_of Zt102 Zk102 (Nat.le_of_ble_eq_true rfl) (by decide) rfl (fun X hX hE => ?_)
  refine Zgo hX 3 rfl (by (first | exact True.intro | assumption | (dsimp only [ZallP]; and_intros <;> (first | assumption | decide | omega | ((try simp (disch := omega) only [pk_mul, nI_add, Zcl_n]); exact Zin_n (by omega) (by decide)))))) ?_
  refine Zs_callv hX (List.cons_ne_nil _ _) (s_change1 4 _ _ (by decide)) (by first | decide | omega) (by decide) rfl rfl rfl (by decide) (Nat.le_of_ble_eq_true rfl) (fun r_z M' hc_z => ?_)
  obtain ⟨rfl, rfl⟩ := hc_z
  refine Zs_ret hX hE rfl ⟨rfl, by rw [Zu_at]; rfl, (Zhs.rf M).u _ _⟩

set_option maxRecDepth 20000 in
set_option maxHeartbeats 1000000 in
theorem k_wind (f_z : Nat → Int32) (n_z : Nat) (what v_z : Int32) (M : Zmem) (hz_z : Zrv 1 f_z M) (hfi : Zfi f_z) (hn_z : f_z 7 = nI n_z) (hn2 : n_z ≤ 15) : ZC 9 2 [.ref 0, .int what, .int v_z] M (Zkok (Fwind f_z what v_z) M) := by
  refine ZC_of Zt9 Zk9 (Nat.le_of_ble_eq_true rfl) (by decide) rfl (fun X hX hE => ?_)
  have BAD : ¬ (what = nI 0 ∧ nI 0 ≤ v_z ∧ v_z ≤ nI 9999) → ¬ (what = nI 1 ∧ nI 0 ≤ v_z ∧ v_z ≤ nI 3) → ZP X Zt9 (Zsf Zt9 67) (lv_args 0 [.ref 0, .int what, .int v_z]) [] M := by
    intro h1_z h2_z
    refine Zgo hX 2 rfl (by (first | exact True.intro | assumption | (dsimp only [ZallP]; and_intros <;> (first | assumption | decide | omega | ((try simp (disch := omega) only [pk_mul, nI_add, Zcl_n]); exact Zin_n (by omega) (by decide)))))) ?_
    refine Zs_callv hX (List.cons_ne_nil _ _) (k_refuse 1 _ (by decide)) (by first | decide | omega) (by decide) rfl rfl rfl (by decide) (Nat.le_of_ble_eq_true rfl) (fun r_z M' hc_z => ?_)
    obtain ⟨rfl, hsc⟩ := hc_z
    refine Zgo hX 2 rfl (by (first | exact True.intro | assumption | (dsimp only [ZallP]; and_intros <;> (first | assumption | decide | omega | ((try simp (disch := omega) only [pk_mul, nI_add, Zcl_n]); exact Zin_n (by omega) (by decide)))))) ?_
    refine Zs_ret hX hE rfl (by rw [Fwind, if_neg h1_z, if_neg h2_z]; exact Zkok_e hz_z hsc)
  have L34 : ¬ (what = nI 0 ∧ nI 0 ≤ v_z ∧ v_z ≤ nI 9999) → ZP X Zt9 (Zsf Zt9 34) (lv_args 0 [.ref 0, .int what, .int v_z]) [] M := by
    intro h1_z
    refine Zgo hX 2 rfl (by (first | exact True.intro | assumption | (dsimp only [ZallP]; and_intros <;> (first | assumption | decide | omega | ((try simp (disch := omega) only [pk_mul, nI_add, Zcl_n]); exact Zin_n (by omega) (by decide)))))) ?_
    refine Zs_ine hX (List.cons_ne_nil _ _) (fun h2_z => ?_) (fun h2_z => ?_)
    · exact BAD h1_z (fun q_z => h2_z q_z.1)
    · refine Zgo hX 3 rfl (by (first | exact True.intro | assumption | (dsimp only [ZallP]; and_intros <;> (first | assumption | decide | omega | ((try simp (disch := omega) only [pk_mul, nI_add, Zcl_n]); exact Zin_n (by omega) (by decide)))))) ?_
      refine Zs_calls hX (List.cons_ne_nil _ _) (by decide) (k_within _ _ _ _) (by first | decide | omega) rfl rfl (by decide) (Nat.le_of_ble_eq_true rfl) (fun r_z M' hc_z => ?_)
      rcases hc_z with ⟨⟨rfl, h3_z⟩ | ⟨rfl, h3_z⟩, rfl⟩
      · refine Zs_eq hX (List.cons_ne_nil _ _) (fun q_z => False.elim (by revert q_z; decide)) (fun _ => ?_)
        refine Zgo hX 10 rfl (by (first | exact True.intro | assumption | (dsimp only [ZallP]; and_intros <;> (first | assumption | decide | omega | ((try simp (disch := omega) only [pk_mul, nI_add, Zcl_n]); exact Zin_n (by omega) (by decide)))))) ?_
        refine Zs_ret hX hE rfl (by rw [Fwind, if_neg h1_z, if_pos ⟨h2_z, h3_z⟩]; exact ⟨congrArg (fun z_z => some (Value.int z_z)) hz_z.1.2.2.1, hz_z.wy1 _, (Zhk.rf M).u _ (by decide) _ _⟩)
      · refine Zs_eq hX (List.cons_ne_nil _ _) (fun _ => ?_) (fun q_z => False.elim (by revert q_z; decide))
        exact BAD h1_z (fun q_z => h3_z q_z.2)
  refine Zgo hX 1 rfl (by (first | exact True.intro | assumption | (dsimp only [ZallP]; and_intros <;> (first | assumption | decide | omega | ((try simp (disch := omega) only [pk_mul, nI_add, Zcl_n]); exact Zin_n (by omega) (by decide)))))) ?_
  refine Zs_ne hX (List.cons_ne_nil _ _) (fun h1_z => ?_) (fun h1_z => ?_)
  · exact L34 (fun q_z => h1_z q_z.1)
  · refine Zgo hX 3 rfl (by (first | exact True.intro | assumption | (dsimp only [ZallP]; and_intros <;> (first | assumption | decide | omega | ((try simp (disch := omega) only [pk_mul, nI_add, Zcl_n]); exact Zin_n (by omega) (by decide)))))) ?_
    refine Zs_calls hX (List.cons_ne_nil _ _) (by decide) (k_within _ _ _ _) (by first | decide | omega) rfl rfl (by decide) (Nat.le_of_ble_eq_true rfl) (fun r_z M' hc_z => ?_)
    rcases hc_z with ⟨⟨rfl, h3_z⟩ | ⟨rfl, h3_z⟩, rfl⟩
    · refine Zs_eq hX (List.cons_ne_nil _ _) (fun q_z => False.elim (by revert q_z; decide)) (fun _ => ?_)
      refine Zgo hX 10 rfl (by (first | exact True.intro | assumption | (dsimp only [ZallP]; and_intros <;> (first | assumption | decide | omega | ((try simp (disch := omega) only [pk_mul, nI_add, Zcl_n]); exact Zin_n (by omega) (by decide)))))) ?_
      refine Zs_ret hX hE rfl (by rw [Fwind, if_pos ⟨h1_z, h3_z⟩]; exact ⟨congrArg (fun z_z => some (Value.int z_z)) hz_z.1.2.1, hz_z.th1 _, (Zhk.rf M).u _ (by decide) _ _⟩)
    · refine Zs_eq hX (List.cons_ne_nil _ _) (fun _ => ?_) (fun q_z => False.elim (by revert q_z; decide))
      exact L34 (fun q_z => h3_z q_z.2)

set_option maxRecDepth 20000 in
set_option maxHeartbeats 1000000 in
theorem s_wind (n_z : Nat) (what v_z : Int32) (M : Zmem) (hfi : Zfi (M 54)) (hn_z : M 54 7 = nI n_z) (hn2 : n_z ≤ 15) : ZC 97 2 [.ref 53, .int what, .int v_z] M (Zsok (Fwind (M 54) what v_z) M) := by
  refine ZC_of Zt97 Zk97 (Nat.le_of_ble_eq_true rfl) (by decide) rfl (fun X hX hE => ?_)
  have BAD : ¬ (what = nI 0 ∧ nI 0 ≤ v_z ∧ v_z ≤ nI 9999) → ¬ (what = nI 1 ∧ nI 0 ≤ v_z ∧ v_z ≤ nI 3) → ZP X Zt97 (Zsf Zt97 39) (lv_args 0 [.ref 53, .int what, .int v_z]) [] M := by
    intro h1_z h2_z
    refine Zgo hX 2 rfl (by (first | exact True.intro | assumption | (dsimp only [ZallP]; and_intros <;> (first | assumption | decide | omega | ((try simp (disch := omega) only [pk_mul, nI_add, Zcl_n]); exact Zin_n (by omega) (by decide)))))) ?_
    refine Zs_callv hX (List.cons_ne_nil _ _) (s_error 1 _ (by decide)) (by first | decide | omega) (by decide) rfl rfl rfl (by decide) (Nat.le_of_ble_eq_true rfl) (fun r_z M' hc_z => ?_)
    obtain ⟨rfl, hsc⟩ := hc_z
    refine Zs_ret hX hE rfl (by rw [Fwind, if_neg h1_z, if_neg h2_z]; exact Zsok_e hsc)
  refine Zgo hX 3 rfl (by (first | exact True.intro | assumption | (dsimp only [ZallP]; and_intros <;> (first | assumption | decide | omega | ((try simp (disch := omega) only [pk_mul, nI_add, Zcl_n]); exact Zin_n (by omega) (by decide)))))) ?_
  refine Zs_calls hX (List.cons_ne_nil _ _) (by decide) (s_in _ _ _ _) (by first | decide | omega) rfl rfl (by decide) (Nat.le_of_ble_eq_true rfl) (fun r_z M' hc_z => ?_)
  rcases hc_z with ⟨⟨rfl, h1_z⟩ | ⟨rfl, h1_z⟩, rfl⟩
  · refine Zs_eq hX (List.cons_ne_nil _ _) (fun q_z => False.elim (by revert q_z; decide)) (fun _ => ?_)
    obtain ⟨j_z, hj_z, rfl⟩ := Zbt_ex (by decide) h1_z
    refine Zgo hX 3 rfl (by (first | exact True.intro | assumption | (dsimp only [ZallP]; and_intros <;> (first | assumption | decide | omega | ((try simp (disch := omega) only [pk_mul, nI_add, Zcl_n]); exact Zin_n (by omega) (by decide)))))) ?_
    refine Zs_ne hX (List.cons_ne_nil _ _) (fun h2_z => ?_) (fun h2_z => ?_)
    · obtain rfl : j_z = 1 := by
        rcases (show j_z = 0 ∨ j_z = 1 by omega) with rfl | rfl
        · exact absurd rfl h2_z
        · rfl
      refine Zgo hX 1 rfl (by (first | exact True.intro | assumption | (dsimp only [ZallP]; and_intros <;> (first | assumption | decide | omega | ((try simp (disch := omega) only [pk_mul, nI_add, Zcl_n]); exact Zin_n (by omega) (by decide)))))) ?_
      refine Zs_calls hX (List.cons_ne_nil _ _) (by decide) (s_in _ _ _ _) (by first | decide | omega) rfl rfl (by decide) (Nat.le_of_ble_eq_true rfl) (fun r_z M' hc_z => ?_)
      rcases hc_z with ⟨⟨rfl, h3_z⟩ | ⟨rfl, h3_z⟩, rfl⟩
      · refine Zs_eq hX (List.cons_ne_nil _ _) (fun q_z => False.elim (by revert q_z; decide)) (fun _ => ?_)
        refine Zgo hX 5 rfl (by (first | exact True.intro | assumption | (dsimp only [ZallP]; and_intros <;> (first | assumption | decide | omega | ((try simp (disch := omega) only [pk_mul, nI_add, Zcl_n]); exact Zin_n (by omega) (by decide)))))) ?_
        rw [nI_add]
        refine Zs_callv hX (List.cons_ne_nil _ _) (s_change1 1 _ _ (by decide)) (by first | decide | omega) (by decide) rfl rfl rfl (by decide) (Nat.le_of_ble_eq_true rfl) (fun r_z M' hc_z => ?_)
        obtain ⟨rfl, rfl⟩ := hc_z
        refine Zgo hX 1 rfl (by (first | exact True.intro | assumption | (dsimp only [ZallP]; and_intros <;> (first | assumption | decide | omega | ((try simp (disch := omega) only [pk_mul, nI_add, Zcl_n]); exact Zin_n (by omega) (by decide)))))) ?_
        refine Zs_ret hX hE rfl (by rw [Fwind, if_neg (fun q_z => absurd q_z.1 (by decide)), if_pos ⟨rfl, h3_z⟩]; exact ⟨rfl, by rw [Zu_at], (Zhs.rf M).u _ _⟩)
      · refine Zs_eq hX (List.cons_ne_nil _ _) (fun _ => ?_) (fun q_z => False.elim (by revert q_z; decide))
        exact BAD (fun q_z => absurd q_z.1 (by decide)) (fun q_z => h3_z q_z.2)
    · obtain rfl : j_z = 0 := by
        rcases (show j_z = 0 ∨ j_z = 1 by omega) with rfl | rfl
        · rfl
        · exact absurd h2_z (by decide)
      refine Zgo hX 2 rfl (by (first | exact True.intro | assumption | (dsimp only [ZallP]; and_intros <;> (first | assumption | decide | omega | ((try simp (disch := omega) only [pk_mul, nI_add, Zcl_n]); exact Zin_n (by omega) (by decide)))))) ?_
      refine Zs_calls hX (List.cons_ne_nil _ _) (by decide) (s_in _ _ _ _) (by first | decide | omega) rfl rfl (by decide) (Nat.le_of_ble_eq_true rfl) (fun r_z M' hc_z => ?_)
      rcases hc_z with ⟨⟨rfl, h3_z⟩ | ⟨rfl, h3_z⟩, rfl⟩
      · refine Zs_eq hX (List.cons_ne_nil _ _) (fun q_z => False.elim (by revert q_z; decide)) (fun _ => ?_)
        refine Zgo hX 5 rfl (by (first | exact True.intro | assumption | (dsimp only [ZallP]; and_intros <;> (first | assumption | decide | omega | ((try simp (disch := omega) only [pk_mul, nI_add, Zcl_n]); exact Zin_n (by omega) (by decide)))))) ?_
        rw [nI_add]
        refine Zs_callv hX (List.cons_ne_nil _ _) (s_change1 0 _ _ (by decide)) (by first | decide | omega) (by decide) rfl rfl rfl (by decide) (Nat.le_of_ble_eq_true rfl) (fun r_z M' hc_z => ?_)
        obtain ⟨rfl, rfl⟩ := hc_z
        refine Zgo hX 1 rfl (by (first | exact True.intro | assumption | (dsimp only [ZallP]; and_intros <;> (first | assumption | decide | omega | ((try simp (disch := omega) only [pk_mul, nI_add, Zcl_n]); exact Zin_n (by omega) (by decide)))))) ?_
        refine Zs_ret hX hE rfl (by rw [Fwind, if_pos ⟨rfl, h3_z⟩]; exact ⟨rfl, by rw [Zu_at], (Zhs.rf M).u _ _⟩)
      · refine Zs_eq hX (List.cons_ne_nil _ _) (fun _ => ?_) (fun q_z => False.elim (by revert q_z; decide))
        exact BAD (fun q_z => h3_z q_z.2) (fun q_z => absurd q_z.1 (by decide))
  · refine Zs_eq hX (List.cons_ne_nil _ _) (fun _ => ?_) (fun q_z => False.elim (by revert q_z; decide))
    exact BAD (fun q_z => h1_z (by rw [q_z.1]; decide)) (fun q_z => h1_z (by rw [q_z.1]; decide))

set_option maxRecDepth 20000 in
set_option maxHeartbeats 1000000 in
theorem k_undo (f_z : Nat → Int32) (n_z : Nat) (row_z : Nat) (M : Zmem) (hz_z : Zrv 1 f_z M) (hfi : Zfi f_z) (hn_z : f_z 7 = nI n_z) (hn2 : n_z ≤ 15) (hrow : row_z < 15) : ZC 174 5 [.ref 1, .int (nI row_z)] M (fun r_z M' => r_z = some (.int (nI (Zun row_z f_z n_z).1)) ∧ Zrv 1 (Zun row_z f_z n_z).2 M' ∧ Zhk M M') := by
  refine ZC_of Zt174 Zk174 (Nat.le_of_ble_eq_true rfl) (by decide) rfl (fun X hX hE => ?_)
  have L : ∀ (m_z c_z : Nat) (f1_z : Nat → Int32) (M1 : Zmem), c_z + m_z ≤ n_z → Zrv 1 f1_z M1 → Zfi f1_z → f1_z 7 = nI m_z → Zhk M M1 → c_z + (Zun row_z f1_z m_z).1 = (Zun row_z f_z n_z).1 → (Zun row_z f1_z m_z).2 = (Zun row_z f_z n_z).2 → ZP X Zt174 (Zsf Zt174 9) [(0, .ref 1), (1, .int (nI row_z)), (2, .int (nI c_z)), (3, .int (nI m_z - nI 1))] [] M1 := by
    intro m_z
    induction m_z with
    | zero =>
      intro c_z f1_z M1 hcm hz1 hfi1 hn1 hhk e1_z e2_z
      refine Zgo hX 2 rfl (by (first | exact True.intro | assumption | (dsimp only [ZallP]; and_intros <;> (first | assumption | decide | omega | ((try simp (disch := omega) only [pk_mul, nI_add, Zcl_n]); exact Zin_n (by omega) (by decide)))))) ?_
      refine Zs_ilt hX (List.cons_ne_nil _ _) (fun h_z => ?_) (fun h_z => ?_)
      · refine Zgo hX 1 rfl (by (first | exact True.intro | assumption | (dsimp only [ZallP]; and_intros <;> (first | assumption | decide | omega | ((try simp (disch := omega) only [pk_mul, nI_add, Zcl_n]); exact Zin_n (by omega) (by decide)))))) ?_
        refine Zs_ret hX hE rfl ⟨by rw [← e1_z]; rfl, by rw [← e2_z]; exact hz1, hhk⟩
      · exact absurd (show nI 0 - nI 1 < nI row_z by rw [Zlt_i, Zn_i (by omega)]; show (-1 : Int) < _; omega) h_z
    | succ m_z ih_z =>
      intro c_z f1_z M1 hcm hz1 hfi1 hn1 hhk e1_z e2_z
      rw [Zpr]
      refine Zgo hX 2 rfl (by (first | exact True.intro | assumption | (dsimp only [ZallP]; and_intros <;> (first | assumption | decide | omega | ((try simp (disch := omega) only [pk_mul, nI_add, Zcl_n]); exact Zin_n (by omega) (by decide)))))) ?_
      refine Zs_ilt hX (List.cons_ne_nil _ _) (fun h_z => ?_) (fun h_z => ?_)
      · have hlt : m_z < row_z := (Zn_lt (by omega) (by omega)).mp h_z
        rw [Zun_n (fun q_z => absurd q_z.1 (by omega))] at e1_z e2_z
        refine Zgo hX 1 rfl (by (first | exact True.intro | assumption | (dsimp only [ZallP]; and_intros <;> (first | assumption | decide | omega | ((try simp (disch := omega) only [pk_mul, nI_add, Zcl_n]); exact Zin_n (by omega) (by decide)))))) ?_
        refine Zs_ret hX hE rfl ⟨by rw [← e1_z]; rfl, by rw [← e2_z]; exact hz1, hhk⟩
      · have hge : row_z ≤ m_z := (Nat.lt_or_ge m_z row_z).elim (fun q_z => absurd ((Zn_lt (by omega) (by omega)).mpr q_z) h_z) id
        refine Zgo hX 4 rfl (Zin_n (by omega) (by decide)) ?_
        rw [Zcl_n (show m_z < 2 ^ 31 by omega), (hz1.row (by omega)).2.2.2.2]
        refine Zs_ne hX (List.cons_ne_nil _ _) (fun h2_z => ?_) (fun h2_z => ?_)
        · rw [Zun_n (fun q_z => h2_z q_z.2)] at e1_z e2_z
          refine Zgo hX 1 rfl (by (first | exact True.intro | assumption | (dsimp only [ZallP]; and_intros <;> (first | assumption | decide | omega | ((try simp (disch := omega) only [pk_mul, nI_add, Zcl_n]); exact Zin_n (by omega) (by decide)))))) ?_
          refine Zs_ret hX hE rfl ⟨by rw [← e1_z]; rfl, by rw [← e2_z]; exact hz1, hhk⟩
        · rw [Zun_y hge h2_z] at e1_z e2_z
          refine Zgo hX 6 rfl (by (first | exact True.intro | assumption | (dsimp only [ZallP]; and_intros <;> (first | assumption | decide | omega | ((try simp (disch := omega) only [pk_mul, nI_add, Zcl_n]); exact Zin_n (by omega) (by decide)))))) ?_
          rw [show M1 1 6 = f1_z 0 from hz1.1.2.1]
          refine Zs_callv hX (List.cons_ne_nil _ _) (k_yarnR hz1 hfi1 hn1 (by omega) (Nat.lt_succ_self m_z)) (by first | decide | omega) (by decide) rfl rfl rfl (by decide) (Nat.le_of_ble_eq_true rfl) (fun r_z M' hc_z => ?_)
          obtain ⟨rfl, hs2⟩ := hc_z
          have hz2 := hz1.sc (Or.inl rfl) hs2.sc
          refine Zgo hX 1 rfl (by (first | exact True.intro | assumption | (dsimp only [ZallP]; and_intros <;> (first | assumption | decide | omega | ((try simp (disch := omega) only [pk_mul, nI_add, Zcl_n]); exact Zin_n (by omega) (by decide)))))) ?_
          refine Zs_calls hX (List.cons_ne_nil _ _) (by decide) (c_min _ _ _) (by first | decide | omega) rfl rfl (by decide) (Nat.le_of_ble_eq_true rfl) (fun r_z M' hc_z => ?_)
          obtain ⟨rfl, rfl⟩ := hc_z
          rw [Zth_k hfi1]
          refine Zgo hX 7 rfl (by (first | exact True.intro | assumption | (dsimp only [ZallP]; and_intros <;> (first | assumption | decide | omega | ((try simp (disch := omega) only [pk_mul, nI_add, Zcl_n]); exact Zin_n (by omega) (by decide)))))) ?_
          rw [nI_add, ← Int32.sub_eq_add_neg]
          obtain ⟨g1, g2⟩ := Zu1_fi hfi1 hn1 (by omega)
          refine Zs_sub (l' := [(0, .ref 1), (1, .int (nI row_z)), (2, .int (nI (c_z + 1))), (3, .int (nI m_z - nI 1))]) rfl ?_
          exact ih_z (c_z + 1) (Zu1 f1_z m_z) _ (by omega) ((hz2.th1 _).n1 _) g1 g2 (((hhk.tr hs2.sc.hk).u _ (by decide) _ _).u _ (by decide) _ _) (by rw [← e1_z]; omega) e2_z
  refine Zgo hX 7 rfl (by (first | exact True.intro | assumption | (dsimp only [ZallP]; and_intros <;> (first | assumption | decide | omega | ((try simp (disch := omega) only [pk_mul, nI_add, Zcl_n]); exact Zin_n (by omega) (by decide)))))) ?_
  rw [hz_z.n hn_z]
  refine Zs_sub (l' := [(0, .ref 1), (1, .int (nI row_z)), (2, .int (nI 0)), (3, .int (nI n_z - nI 1))]) rfl ?_
  exact L n_z 0 f_z M (by omega) hz_z hfi hn_z (Zhk.rf _) (Nat.zero_add _) rfl

set_option maxRecDepth 20000 in
set_option maxHeartbeats 1000000 in
theorem k_pull (f_z : Nat → Int32) (n_z : Nat) (row_z : Int32) (M : Zmem) (hz_z : Zrv 1 f_z M) (hfi : Zfi f_z) (hn_z : f_z 7 = nI n_z) (hn2 : n_z ≤ 15) : ZC 8 6 [.ref 0, .int row_z] M (Zkok (Fpull f_z n_z row_z) M) := by
  refine ZC_of Zt8 Zk8 (Nat.le_of_ble_eq_true rfl) (by decide) rfl (fun X hX hE => ?_)
  refine Zgo hX 2 rfl (by (first | exact True.intro | assumption | (dsimp only [ZallP]; and_intros <;> (first | assumption | decide | omega | ((try simp (disch := omega) only [pk_mul, nI_add, Zcl_n]); exact Zin_n (by omega) (by decide)))))) ?_
  refine Zs_callv hX (List.cons_ne_nil _ _) (k_isRow row_z n_z M (hz_z.n hn_z) hn2) (by first | decide | omega) (by decide) rfl rfl rfl (by decide) (Nat.le_of_ble_eq_true rfl) (fun r_z M' hc_z => ?_)
  rcases hc_z with ⟨⟨rfl, h1_z⟩ | ⟨rfl, h1_z⟩, rfl⟩
  · refine Zs_eq hX (List.cons_ne_nil _ _) (fun q_z => False.elim (by revert q_z; decide)) (fun _ => ?_)
    obtain ⟨i_z, hi_z, rfl, ei⟩ := Zvp h1_z (by omega)
    refine Zgo hX 3 rfl (by (first | exact True.intro | assumption | (dsimp only [ZallP]; and_intros <;> (first | assumption | decide | omega | ((try simp (disch := omega) only [pk_mul, nI_add, Zcl_n]); exact Zin_n (by omega) (by decide)))))) ?_
    refine Zs_callv hX (List.cons_ne_nil _ _) (k_undo f_z n_z i_z M hz_z hfi hn_z hn2 (by omega)) (by first | decide | omega) (by decide) rfl rfl rfl (by decide) (Nat.le_of_ble_eq_true rfl) (fun r_z M' hc_z => ?_)
    obtain ⟨rfl, hz2, hk2⟩ := hc_z
    refine Zgo hX 1 rfl (by (first | exact True.intro | assumption | (dsimp only [ZallP]; and_intros <;> (first | assumption | decide | omega | ((try simp (disch := omega) only [pk_mul, nI_add, Zcl_n]); exact Zin_n (by omega) (by decide)))))) ?_
    refine Zs_ret hX hE rfl (by rw [Fpull, if_pos h1_z, ei]; exact ⟨rfl, hz2, hk2⟩)
  · refine Zs_eq hX (List.cons_ne_nil _ _) (fun _ => ?_) (fun q_z => False.elim (by revert q_z; decide))
    refine Zgo hX 2 rfl (by (first | exact True.intro | assumption | (dsimp only [ZallP]; and_intros <;> (first | assumption | decide | omega | ((try simp (disch := omega) only [pk_mul, nI_add, Zcl_n]); exact Zin_n (by omega) (by decide)))))) ?_
    refine Zs_callv hX (List.cons_ne_nil _ _) (k_refuse 1 _ (by decide)) (by first | decide | omega) (by decide) rfl rfl rfl (by decide) (Nat.le_of_ble_eq_true rfl) (fun r_z M' hc_z => ?_)
    obtain ⟨rfl, hsc⟩ := hc_z
    refine Zs_ret hX hE rfl (by rw [Fpull, if_neg h1_z]; exact Zkok_e hz_z hsc)

set_option maxRecDepth 20000 in
set_option maxHeartbeats 1000000 in
theorem s_pull (n_z : Nat) (row_z : Int32) (M : Zmem) (hfi : Zfi (M 54)) (hn_z : M 54 7 = nI n_z) (hn2 : n_z ≤ 15) : ZC 96 6 [.ref 53, .int row_z] M (Zsok (Fpull (M 54) n_z row_z) M) := by
  refine ZC_of Zt96 Zk96 (Nat.le_of_ble_eq_true rfl) (by decide) rfl (fun X hX hE => ?_)
  refine Zgo hX 2 rfl (by (first | exact True.intro | assumption | (dsimp only [ZallP]; and_intros <;> (first | assumption | decide | omega | ((try simp (disch := omega) only [pk_mul, nI_add, Zcl_n]); exact Zin_n (by omega) (by decide)))))) ?_
  refine Zs_callv hX (List.cons_ne_nil _ _) (s_isRow row_z n_z M hn_z hn2) (by first | decide | omega) (by decide) rfl rfl rfl (by decide) (Nat.le_of_ble_eq_true rfl) (fun r_z M' hc_z => ?_)
  rcases hc_z with ⟨⟨rfl, h1_z⟩ | ⟨rfl, h1_z⟩, rfl⟩
  · refine Zs_ne hX (List.cons_ne_nil _ _) (fun _ => ?_) (fun q_z => False.elim (by revert q_z; decide))
    have h9_z := h1_z
    obtain ⟨row_z, hi_z, rfl, ei⟩ := Zvp h1_z (by omega)
    have L : ∀ (m_z c_z : Nat) (M1 : Zmem), c_z + m_z ≤ n_z → Zfi (M1 54) → M1 54 7 = nI m_z → Zhs M M1 → c_z + (Zun row_z (M1 54) m_z).1 = (Zun row_z (M 54) n_z).1 → (Zun row_z (M1 54) m_z).2 = (Zun row_z (M 54) n_z).2 → ZP X Zt96 (Zsf Zt96 16) [(0, .ref 53), (1, .int (nI row_z)), (2, .int (nI c_z))] [] M1 := by
      intro m_z
      induction m_z with
      | zero =>
        intro c_z M1 hcm hfi1 hn1 hhk e1_z e2_z
        refine Zgo hX 5 rfl (Zin_n (by decide) (by decide)) ?_
        try simp (disch := omega) only [Zcl_n, pk_mul, nI_add]
        rw [hn1]
        refine Zs_ile hX (List.cons_ne_nil _ _) (fun h_z => ?_) (fun h_z => ?_)
        · refine Zgo hX 1 rfl (by (first | exact True.intro | assumption | (dsimp only [ZallP]; and_intros <;> (first | assumption | decide | omega | ((try simp (disch := omega) only [pk_mul, nI_add, Zcl_n]); exact Zin_n (by omega) (by decide)))))) ?_
          refine Zs_ret hX hE rfl (by rw [Fpull, if_pos h9_z, ei, ← e1_z, ← e2_z]; exact ⟨rfl, rfl, hhk⟩)
        · exact absurd ((Zn_le (by decide) (by omega)).mpr (Nat.zero_le row_z)) h_z
      | succ m_z ih_z =>
        intro c_z M1 hcm hfi1 hn1 hhk e1_z e2_z
        refine Zgo hX 5 rfl (Zin_n (by decide) (by decide)) ?_
        try simp (disch := omega) only [Zcl_n, pk_mul, nI_add]
        rw [hn1]
        refine Zs_ile hX (List.cons_ne_nil _ _) (fun h_z => ?_) (fun h_z => ?_)
        · have hlt : m_z < row_z := by have := (Zn_le (by omega) (by omega)).mp h_z; omega
          rw [Zun_n (fun q_z => absurd q_z.1 (by omega))] at e1_z e2_z
          refine Zgo hX 1 rfl (by (first | exact True.intro | assumption | (dsimp only [ZallP]; and_intros <;> (first | assumption | decide | omega | ((try simp (disch := omega) only [pk_mul, nI_add, Zcl_n]); exact Zin_n (by omega) (by decide)))))) ?_
          refine Zs_ret hX hE rfl (by rw [Fpull, if_pos h9_z, ei, ← e1_z, ← e2_z]; exact ⟨rfl, rfl, hhk⟩)
        · have hge : row_z ≤ m_z := (Nat.lt_or_ge m_z row_z).elim (fun q_z => absurd ((Zn_le (by omega) (by omega)).mpr (by omega)) h_z) id
          refine Zgo hX 8 rfl (Zin_n (by decide) (by decide)) ?_
          try simp (disch := omega) only [Zcl_n, pk_mul, nI_add]
          rw [hn1, Zpr]
          refine Zs_callv hX (List.cons_ne_nil _ _) (s_its m_z 4 _ (by omega) (by decide)) (by first | decide | omega) (by decide) rfl rfl rfl (by decide) (Nat.le_of_ble_eq_true rfl) (fun r_z M' hc_z => ?_)
          obtain ⟨rfl, rfl⟩ := hc_z
          rw [show 9 + 5 * m_z + 4 = 13 + 5 * m_z by omega]
          refine Zs_ne hX (List.cons_ne_nil _ _) (fun h2_z => ?_) (fun h2_z => ?_)
          · rw [Zun_n (fun q_z => h2_z q_z.2)] at e1_z e2_z
            refine Zgo hX 1 rfl (by (first | exact True.intro | assumption | (dsimp only [ZallP]; and_intros <;> (first | assumption | decide | omega | ((try simp (disch := omega) only [pk_mul, nI_add, Zcl_n]); exact Zin_n (by omega) (by decide)))))) ?_
            refine Zs_ret hX hE rfl (by rw [Fpull, if_pos h9_z, ei, ← e1_z, ← e2_z]; exact ⟨rfl, rfl, hhk⟩)
          · rw [Zun_y hge h2_z] at e1_z e2_z
            refine Zgo hX 14 rfl (by dsimp only [ZallP]; exact ⟨Zin_n (by decide) (by decide), Zin_n (by decide) (by decide)⟩) ?_
            try simp (disch := omega) only [Zcl_n, pk_mul, nI_add]
            rw [hn1, Zpr]
            refine Zs_callv hX (List.cons_ne_nil _ _) (s_yarnOf m_z _ (by omega) (hfi1.rw hn1 (by omega) (Nat.lt_succ_self m_z)) hfi1.2.2.2.1) (by first | decide | omega) (by decide) rfl rfl rfl (by decide) (Nat.le_of_ble_eq_true rfl) (fun r_z M' hc_z => ?_)
            obtain ⟨rfl, hs2⟩ := hc_z
            have e54 := hs2.sc.f54
            refine Zgo hX 3 rfl (by (first | exact True.intro | assumption | (dsimp only [ZallP]; and_intros <;> (first | assumption | decide | omega | ((try simp (disch := omega) only [pk_mul, nI_add, Zcl_n]); exact Zin_n (by omega) (by decide)))))) ?_
            refine Zs_calls hX (List.cons_ne_nil _ _) (by decide) (s_heldZ _ _ _ _) (by first | decide | omega) rfl rfl (by decide) (Nat.le_of_ble_eq_true rfl) (fun r_z M' hc_z => ?_)
            obtain ⟨rfl, rfl⟩ := hc_z
            refine Zgo hX 11 rfl (by dsimp only [ZallP]; exact ⟨⟨Zin_n (by decide) (by decide), Zin_n (by decide) (by decide)⟩, Zin_n (by decide) (by decide)⟩) ?_
            simp (disch := omega) only [Zcl_n, pk_mul, nI_add, Zu_s, Zu_o]
            rw [e54, hn1, Zpr]
            obtain ⟨g1, g2⟩ := Zu1_fi hfi1 hn1 (by omega)
            have ef : (Zu (Zu M' 54 0 (Zhl (M1 54 0 + Zyo (M1 54) m_z) (nI 0) (nI 9999))) 54 7 (nI m_z)) 54 = Zu1 (M1 54) m_z := by rw [Zu_at, Zu_at, e54]; rfl
            refine Zs_sub (l' := [(0, .ref 53), (1, .int (nI row_z)), (2, .int (nI (c_z + 1)))]) rfl ?_
            exact ih_z (c_z + 1) _ (by omega) (by first | exact ef ▸ g1 | (show Zfi _; rw [show _ = Zu1 (M1 54) m_z from ef]; exact g1)) (by first | (rw [ef]; exact g2) | (rw [show _ = Zu1 (M1 54) m_z from ef]; exact g2)) (((hhk.tr hs2.sc.hs).u _ _).u _ _) (by rw [show _ = Zu1 (M1 54) m_z from ef, ← e1_z]; omega) (by rw [show _ = Zu1 (M1 54) m_z from ef]; exact e2_z)
    refine Zgo hX 2 rfl (by (first | exact True.intro | assumption | (dsimp only [ZallP]; and_intros <;> (first | assumption | decide | omega | ((try simp (disch := omega) only [pk_mul, nI_add, Zcl_n]); exact Zin_n (by omega) (by decide)))))) ?_
    refine Zs_sub (l' := [(0, .ref 53), (1, .int (nI row_z)), (2, .int (nI 0))]) rfl ?_
    exact L n_z 0 M (by omega) hfi hn_z (Zhs.rf _) (Nat.zero_add _) rfl
  · refine Zs_ne hX (List.cons_ne_nil _ _) (fun q_z => False.elim (by revert q_z; decide)) (fun _ => ?_)
    refine Zgo hX 2 rfl (by (first | exact True.intro | assumption | (dsimp only [ZallP]; and_intros <;> (first | assumption | decide | omega | ((try simp (disch := omega) only [pk_mul, nI_add, Zcl_n]); exact Zin_n (by omega) (by decide)))))) ?_
    refine Zs_callv hX (List.cons_ne_nil _ _) (s_error 1 _ (by decide)) (by first | decide | omega) (by decide) rfl rfl rfl (by decide) (Nat.le_of_ble_eq_true rfl) (fun r_z M' hc_z => ?_)
    obtain ⟨rfl, hsc⟩ := hc_z
    refine Zs_ret hX hE rfl (by rw [Fpull, if_neg h1_z]; exact Zsok_e hsc)

set_option maxRecDepth 20000 in
set_option maxHeartbeats 1000000 in
theorem k_season (f_z : Nat → Int32) (n_z : Nat) (much : Int32) (M : Zmem) (hz_z : Zrv 1 f_z M) (hfi : Zfi f_z) (hn_z : f_z 7 = nI n_z) (hn2 : n_z ≤ 15) : ZC 14 6 [.ref 0, .int much] M (Zkok (Fseason f_z n_z much) M) := by
  refine ZC_of Zt14 Zk14 (Nat.le_of_ble_eq_true rfl) (by decide) rfl (fun X hX hE => ?_)
  refine Zgo hX 1 rfl (by (first | exact True.intro | assumption | (dsimp only [ZallP]; and_intros <;> (first | assumption | decide | omega | ((try simp (disch := omega) only [pk_mul, nI_add, Zcl_n]); exact Zin_n (by omega) (by decide)))))) ?_
  refine Zs_calls hX (List.cons_ne_nil _ _) (by decide) (k_isWater _ _) (by first | decide | omega) rfl rfl (by decide) (Nat.le_of_ble_eq_true rfl) (fun r_z M' hc_z => ?_)
  rcases hc_z with ⟨⟨rfl, h1_z⟩ | ⟨rfl, h1_z⟩, rfl⟩
  · refine Zs_ne hX (List.cons_ne_nil _ _) (fun _ => ?_) (fun q_z => False.elim (by revert q_z; decide))
    have hmu : 0 ≤ much.toInt ∧ much.toInt ≤ 999 := by have h2_z := Zbt_ex (b_z := 999) (by decide) h1_z; obtain ⟨j_z, hj_z, rfl⟩ := h2_z; rw [Zn_i (by omega)]; omega
    obtain ⟨se, g1, g2⟩ := hfi.seq
    refine Zgo hX 4 rfl (by (first | exact True.intro | assumption | (dsimp only [ZallP]; and_intros <;> (first | assumption | decide | omega | ((try simp (disch := omega) only [pk_mul, nI_add, Zcl_n]); exact Zin_n (by omega) (by decide)))))) ?_
    rw [show M 1 8 = f_z 2 from hz_z.1.2.2.2.1, g2]
    refine Zs_ige hX (List.cons_ne_nil _ _) (fun h2_z => ?_) (fun h2_z => ?_)
    · have e_z : f_z 2 = nI 9999 := by rw [g2]; congr 1; have := (Zn_le (by omega) (by omega)).mp h2_z; omega
      refine Zgo hX 2 rfl (by (first | exact True.intro | assumption | (dsimp only [ZallP]; and_intros <;> (first | assumption | decide | omega | ((try simp (disch := omega) only [pk_mul, nI_add, Zcl_n]); exact Zin_n (by omega) (by decide)))))) ?_
      refine Zs_callv hX (List.cons_ne_nil _ _) (k_refuse 3 _ (by decide)) (by first | decide | omega) (by decide) rfl rfl rfl (by decide) (Nat.le_of_ble_eq_true rfl) (fun r_z M' hc_z => ?_)
      obtain ⟨rfl, hsc⟩ := hc_z
      refine Zs_ret hX hE rfl (by rw [Fseason, if_pos h1_z, if_pos e_z]; exact Zkok_e hz_z hsc)
    · have e_z : ¬ f_z 2 = nI 9999 := fun q_z => h2_z (by rw [← g2, q_z]; exact Int32.le_refl _)
      refine Zgo hX 3 rfl (by (first | exact True.intro | assumption | (dsimp only [ZallP]; and_intros <;> (first | assumption | decide | omega | ((try simp (disch := omega) only [pk_mul, nI_add, Zcl_n]); exact Zin_n (by omega) (by decide)))))) ?_
      refine Zs_callv hX (List.cons_ne_nil _ _) (k_pass f_z n_z much M hz_z hfi hn_z hn2 hmu) (by first | decide | omega) (by decide) rfl rfl rfl (by decide) (Nat.le_of_ble_eq_true rfl) (fun r_z M' hc_z => ?_)
      obtain ⟨rfl, hz2, hk2⟩ := hc_z
      refine Zgo hX 1 rfl (by (first | exact True.intro | assumption | (dsimp only [ZallP]; and_intros <;> (first | assumption | decide | omega | ((try simp (disch := omega) only [pk_mul, nI_add, Zcl_n]); exact Zin_n (by omega) (by decide)))))) ?_
      refine Zs_ret hX hE rfl (by rw [Fseason, if_pos h1_z, if_neg e_z]; exact ⟨rfl, hz2, hk2⟩)
  · refine Zs_ne hX (List.cons_ne_nil _ _) (fun q_z => False.elim (by revert q_z; decide)) (fun _ => ?_)
    refine Zgo hX 2 rfl (by (first | exact True.intro | assumption | (dsimp only [ZallP]; and_intros <;> (first | assumption | decide | omega | ((try simp (disch := omega) only [pk_mul, nI_add, Zcl_n]); exact Zin_n (by omega) (by decide)))))) ?_
    refine Zs_callv hX (List.cons_ne_nil _ _) (k_refuse 1 _ (by decide)) (by first | decide | omega) (by decide) rfl rfl rfl (by decide) (Nat.le_of_ble_eq_true rfl) (fun r_z M' hc_z => ?_)
    obtain ⟨rfl, hsc⟩ := hc_z
    refine Zs_ret hX hE rfl (by rw [Fseason, if_neg h1_z]; exact Zkok_e hz_z hsc)

set_option maxRecDepth 20000 in
set_option maxHeartbeats 1000000 in
theorem s_season (n_z : Nat) (much : Int32) (M : Zmem) (hfi : Zfi (M 54)) (hn_z : M 54 7 = nI n_z) (hn2 : n_z ≤ 15) : ZC 100 6 [.ref 53, .int much] M (Zsok (Fseason (M 54) n_z much) M) := by
  refine ZC_of Zt100 Zk100 (Nat.le_of_ble_eq_true rfl) (by decide) rfl (fun X hX hE => ?_)
  refine Zgo hX 1 rfl (by (first | exact True.intro | assumption | (dsimp only [ZallP]; and_intros <;> (first | assumption | decide | omega | ((try simp (disch := omega) only [pk_mul, nI_add, Zcl_n]); exact Zin_n (by omega) (by decide)))))) ?_
  refine Zs_calls hX (List.cons_ne_nil _ _) (by decide) (s_isWater _ _) (by first | decide | omega) rfl rfl (by decide) (Nat.le_of_ble_eq_true rfl) (fun r_z M' hc_z => ?_)
  rcases hc_z with ⟨⟨rfl, h1_z⟩ | ⟨rfl, h1_z⟩, rfl⟩
  · refine Zs_ne hX (List.cons_ne_nil _ _) (fun _ => ?_) (fun q_z => False.elim (by revert q_z; decide))
    refine Zgo hX 5 rfl (Zin_n (by decide) (by decide)) ?_
    try simp (disch := omega) only [Zcl_n, pk_mul, nI_add]
    refine Zs_ine hX (List.cons_ne_nil _ _) (fun e_z => ?_) (fun e_z => ?_)
    · refine Zgo hX 2 rfl (by (first | exact True.intro | assumption | (dsimp only [ZallP]; and_intros <;> (first | assumption | decide | omega | ((try simp (disch := omega) only [pk_mul, nI_add, Zcl_n]); exact Zin_n (by omega) (by decide)))))) ?_
      refine Zs_callv hX (List.cons_ne_nil _ _) (s_aSeason n_z much M hfi hn_z hn2) (by first | decide | omega) (by decide) rfl rfl rfl (by decide) (Nat.le_of_ble_eq_true rfl) (fun r_z M' hc_z => ?_)
      obtain ⟨rfl, e54, hk2⟩ := hc_z
      refine Zs_ret hX hE rfl (by rw [Fseason, if_pos h1_z, if_neg e_z]; exact ⟨rfl, e54, hk2⟩)
    · skip
      refine Zgo hX 2 rfl (by (first | exact True.intro | assumption | (dsimp only [ZallP]; and_intros <;> (first | assumption | decide | omega | ((try simp (disch := omega) only [pk_mul, nI_add, Zcl_n]); exact Zin_n (by omega) (by decide)))))) ?_
      refine Zs_callv hX (List.cons_ne_nil _ _) (s_error 3 _ (by decide)) (by first | decide | omega) (by decide) rfl rfl rfl (by decide) (Nat.le_of_ble_eq_true rfl) (fun r_z M' hc_z => ?_)
      obtain ⟨rfl, hsc⟩ := hc_z
      refine Zgo hX 1 rfl (by (first | exact True.intro | assumption | (dsimp only [ZallP]; and_intros <;> (first | assumption | decide | omega | ((try simp (disch := omega) only [pk_mul, nI_add, Zcl_n]); exact Zin_n (by omega) (by decide)))))) ?_
      refine Zs_ret hX hE rfl (by rw [Fseason, if_pos h1_z, if_pos e_z]; exact Zsok_e hsc)
  · refine Zs_ne hX (List.cons_ne_nil _ _) (fun q_z => False.elim (by revert q_z; decide)) (fun _ => ?_)
    refine Zgo hX 2 rfl (by (first | exact True.intro | assumption | (dsimp only [ZallP]; and_intros <;> (first | assumption | decide | omega | ((try simp (disch := omega) only [pk_mul, nI_add, Zcl_n]); exact Zin_n (by omega) (by decide)))))) ?_
    refine Zs_callv hX (List.cons_ne_nil _ _) (s_error 1 _ (by decide)) (by first | decide | omega) (by decide) rfl rfl rfl (by decide) (Nat.le_of_ble_eq_true rfl) (fun r_z M' hc_z => ?_)
    obtain ⟨rfl, hsc⟩ := hc_z
    refine Zs_ret hX hE rfl (by rw [Fseason, if_neg h1_z]; exact Zsok_e hsc)

set_option maxRecDepth 20000 in
set_option maxHeartbeats 1000000 in
theorem k_loose (f_z : Nat → Int32) (n_z : Nat) (m_z : Int32) (M : Zmem) (hz_z : Zrv 1 f_z M) (hfi : Zfi f_z) (hn_z : f_z 7 = nI n_z) (hn2 : n_z ≤ 15) : ZC 15 6 [.ref 0, .int m_z] M (Zkok (Floose f_z n_z m_z) M) := by
  refine ZC_of Zt15 Zk15 (Nat.le_of_ble_eq_true rfl) (by decide) rfl (fun X hX hE => ?_)
  refine Zgo hX 3 rfl (by (first | exact True.intro | assumption | (dsimp only [ZallP]; and_intros <;> (first | assumption | decide | omega | ((try simp (disch := omega) only [pk_mul, nI_add, Zcl_n]); exact Zin_n (by omega) (by decide)))))) ?_
  refine Zs_calls hX (List.cons_ne_nil _ _) (by decide) (k_within _ _ _ _) (by first | decide | omega) rfl rfl (by decide) (Nat.le_of_ble_eq_true rfl) (fun r_z M' hc_z => ?_)
  rcases hc_z with ⟨⟨rfl, h1_z⟩ | ⟨rfl, h1_z⟩, rfl⟩
  · refine Zs_ne hX (List.cons_ne_nil _ _) (fun _ => ?_) (fun q_z => False.elim (by revert q_z; decide))
    have h9_z := h1_z
    obtain ⟨m_z, hm_z, rfl⟩ := Zbt_ex (b_z := 30) (by decide) ⟨Int32.le_trans (by decide) h1_z.1, h1_z.2⟩
    obtain ⟨se, g1, g2⟩ := hfi.seq
    refine Zgo hX 6 rfl (by (first | exact True.intro | assumption | (dsimp only [ZallP]; and_intros <;> (first | assumption | decide | omega | ((try simp (disch := omega) only [pk_mul, nI_add, Zcl_n]); exact Zin_n (by omega) (by decide)))))) ?_
    rw [show M 1 8 = f_z 2 from hz_z.1.2.2.2.1, g2, nI_add]
    refine Zs_ile hX (List.cons_ne_nil _ _) (fun h2_z => ?_) (fun h2_z => ?_)
    · have hse : se + m_z ≤ 9999 := (Zn_le (by omega) (by omega)).mp h2_z
      have e_z : ¬ nI 9999 < f_z 2 + nI m_z := by rw [g2, nI_add]; exact Int32.not_lt.mpr h2_z
      have L : ∀ (q_z k_z : Nat) (M1 : Zmem), m_z - k_z < q_z → k_z ≤ m_z → Zrv 1 (Zll f_z n_z k_z) M1 → Zhk M M1 → ZP X Zt15 (Zsf Zt15 41) [(0, .ref 0), (1, .int (nI m_z)), (2, .int (Zlo f_z n_z k_z)), (3, .int (nI k_z))] [] M1 := by
        intro q_z
        induction q_z with
        | zero => intro k_z M1 hq_z; exact absurd hq_z (Nat.not_lt_zero _)
        | succ q_z ih_z =>
          intro k_z M1 hq_z hk_z hz1 hhk
          obtain ⟨j1_z, j2, j3⟩ := Zll_ok hfi hn_z hn2 g2 hse k_z hk_z
          refine Zgo hX 2 rfl (by (first | exact True.intro | assumption | (dsimp only [ZallP]; and_intros <;> (first | assumption | decide | omega | ((try simp (disch := omega) only [pk_mul, nI_add, Zcl_n]); exact Zin_n (by omega) (by decide)))))) ?_
          refine Zs_ige hX (List.cons_ne_nil _ _) (fun h3_z => ?_) (fun h3_z => ?_)
          · obtain rfl : k_z = m_z := by have := (Zn_le (by omega) (by omega)).mp h3_z; omega
            refine Zgo hX 1 rfl (by (first | exact True.intro | assumption | (dsimp only [ZallP]; and_intros <;> (first | assumption | decide | omega | ((try simp (disch := omega) only [pk_mul, nI_add, Zcl_n]); exact Zin_n (by omega) (by decide)))))) ?_
            refine Zs_ret hX hE rfl (by rw [Floose, if_pos h9_z, if_neg e_z, Zcl_n (show k_z < 2 ^ 31 by omega)]; exact ⟨rfl, hz1, hhk⟩)
          · have hlt : k_z < m_z := (Nat.lt_or_ge k_z m_z).elim id (fun q_z => absurd ((Zn_le (by omega) (by omega)).mpr q_z) h3_z)
            obtain ⟨d1, d2⟩ := Zdn_ok (Zll f_z n_z k_z 4)
            refine Zgo hX 5 rfl (by (first | exact True.intro | assumption | (dsimp only [ZallP]; and_intros <;> (first | assumption | decide | omega | ((try simp (disch := omega) only [pk_mul, nI_add, Zcl_n]); exact Zin_n (by omega) (by decide)))))) ?_
            refine Zs_callv hX (List.cons_ne_nil _ _) (k_draw _) (by first | decide | omega) (by decide) rfl rfl rfl (by decide) (Nat.le_of_ble_eq_true rfl) (fun r_z M' hc_z => ?_)
            obtain ⟨rfl, rfl⟩ := hc_z
            rw [show M1 1 10 = Zll f_z n_z k_z 4 from hz1.1.2.2.2.2.2.1]
            have hz2 := hz1.z1 (Zdz (Zll f_z n_z k_z 4))
            refine Zgo hX 2 rfl (by (first | exact True.intro | assumption | (dsimp only [ZallP]; and_intros <;> (first | assumption | decide | omega | ((try simp (disch := omega) only [pk_mul, nI_add, Zcl_n]); exact Zin_n (by omega) (by decide)))))) ?_
            rw [show ((Zll f_z n_z k_z 4 * nI 1103515245 + nI 12345).toUInt32 >>> ((nI 8).toUInt32 &&& Int32.toUInt32 31)).toInt32 = nI (Zdn (Zll f_z n_z k_z 4)) from d1, pk_rem (by omega) (by decide) (by decide)]
            refine Zs_callv hX (List.cons_ne_nil _ _) (k_pass (upd (Zll f_z n_z k_z) 4 (Zdz (Zll f_z n_z k_z 4))) n_z (nI (Zdn (Zll f_z n_z k_z 4) % 120)) _ hz2 (j1_z.z _) j2 hn2 (by rw [Zn_i (by omega)]; omega)) (by first | decide | omega) (by decide) rfl rfl rfl (by decide) (Nat.le_of_ble_eq_true rfl) (fun r_z M' hc_z => ?_)
            obtain ⟨rfl, hz3, hk3⟩ := hc_z
            refine Zgo hX 4 rfl (by (first | exact True.intro | assumption | (dsimp only [ZallP]; and_intros <;> (first | assumption | decide | omega | ((try simp (disch := omega) only [pk_mul, nI_add, Zcl_n]); exact Zin_n (by omega) (by decide)))))) ?_
            refine Zs_callv hX (List.cons_ne_nil _ _) (k_wear (Zss (upd (Zll f_z n_z k_z) 4 (Zdz (Zll f_z n_z k_z 4))) (nI (Zdn (Zll f_z n_z k_z 4) % 120)) n_z) n_z _ hz3 (Zss_fi _ (j1_z.z _) hn2 j3 (by omega)) ((Zss_7 _ _ _).trans j2) hn2) (by first | decide | omega) (by decide) rfl rfl rfl (by decide) (Nat.le_of_ble_eq_true rfl) (fun r_z M' hc_z => ?_)
            obtain ⟨rfl, hz4, hk4⟩ := hc_z
            refine Zgo hX 2 rfl (by (first | exact True.intro | assumption | (dsimp only [ZallP]; and_intros <;> (first | assumption | decide | omega | ((try simp (disch := omega) only [pk_mul, nI_add, Zcl_n]); exact Zin_n (by omega) (by decide)))))) ?_
            rw [nI_add]
            refine Zs_sub (l' := [(0, .ref 0), (1, .int (nI m_z)), (2, .int (Zlo f_z n_z (k_z + 1))), (3, .int (nI (k_z + 1)))]) rfl ?_
            exact ih_z (k_z + 1) _ (by omega) hlt hz4 (((hhk.u _ (by decide) _ _).tr hk3).tr hk4)
      refine Zgo hX 4 rfl (by (first | exact True.intro | assumption | (dsimp only [ZallP]; and_intros <;> (first | assumption | decide | omega | ((try simp (disch := omega) only [pk_mul, nI_add, Zcl_n]); exact Zin_n (by omega) (by decide)))))) ?_
      refine Zs_sub (l' := [(0, .ref 0), (1, .int (nI m_z)), (2, .int (Zlo f_z n_z 0)), (3, .int (nI 0))]) rfl ?_
      exact L (m_z + 1) 0 M (by omega) (by omega) hz_z (Zhk.rf _)
    · have e_z : nI 9999 < f_z 2 + nI m_z := by rw [g2, nI_add]; exact Int32.not_le.mp h2_z
      refine Zgo hX 2 rfl (by (first | exact True.intro | assumption | (dsimp only [ZallP]; and_intros <;> (first | assumption | decide | omega | ((try simp (disch := omega) only [pk_mul, nI_add, Zcl_n]); exact Zin_n (by omega) (by decide)))))) ?_
      refine Zs_callv hX (List.cons_ne_nil _ _) (k_refuse 3 _ (by decide)) (by first | decide | omega) (by decide) rfl rfl rfl (by decide) (Nat.le_of_ble_eq_true rfl) (fun r_z M' hc_z => ?_)
      obtain ⟨rfl, hsc⟩ := hc_z
      refine Zs_ret hX hE rfl (by rw [Floose, if_pos h9_z, if_pos e_z]; exact Zkok_e hz_z hsc)
  · refine Zs_ne hX (List.cons_ne_nil _ _) (fun q_z => False.elim (by revert q_z; decide)) (fun _ => ?_)
    refine Zgo hX 2 rfl (by (first | exact True.intro | assumption | (dsimp only [ZallP]; and_intros <;> (first | assumption | decide | omega | ((try simp (disch := omega) only [pk_mul, nI_add, Zcl_n]); exact Zin_n (by omega) (by decide)))))) ?_
    refine Zs_callv hX (List.cons_ne_nil _ _) (k_refuse 1 _ (by decide)) (by first | decide | omega) (by decide) rfl rfl rfl (by decide) (Nat.le_of_ble_eq_true rfl) (fun r_z M' hc_z => ?_)
    obtain ⟨rfl, hsc⟩ := hc_z
    refine Zs_ret hX hE rfl (by rw [Floose, if_neg h1_z]; exact Zkok_e hz_z hsc)

set_option maxRecDepth 20000 in
set_option maxHeartbeats 1000000 in
theorem s_loose (n_z : Nat) (m_z : Int32) (M : Zmem) (hfi : Zfi (M 54)) (hn_z : M 54 7 = nI n_z) (hn2 : n_z ≤ 15) : ZC 101 6 [.ref 53, .int m_z] M (Zsok (Floose (M 54) n_z m_z) M) := by
  refine ZC_of Zt101 Zk101 (Nat.le_of_ble_eq_true rfl) (by decide) rfl (fun X hX hE => ?_)
  refine Zgo hX 3 rfl (by (first | exact True.intro | assumption | (dsimp only [ZallP]; and_intros <;> (first | assumption | decide | omega | ((try simp (disch := omega) only [pk_mul, nI_add, Zcl_n]); exact Zin_n (by omega) (by decide)))))) ?_
  refine Zs_calls hX (List.cons_ne_nil _ _) (by decide) (s_in _ _ _ _) (by first | decide | omega) rfl rfl (by decide) (Nat.le_of_ble_eq_true rfl) (fun r_z M' hc_z => ?_)
  rcases hc_z with ⟨⟨rfl, h1_z⟩ | ⟨rfl, h1_z⟩, rfl⟩
  · refine Zs_ne hX (List.cons_ne_nil _ _) (fun _ => ?_) (fun q_z => False.elim (by revert q_z; decide))
    have h9_z := h1_z
    obtain ⟨m_z, hm_z, rfl⟩ := Zbt_ex (b_z := 30) (by decide) ⟨Int32.le_trans (by decide) h1_z.1, h1_z.2⟩
    obtain ⟨se, g1, g2⟩ := hfi.seq
    refine Zgo hX 7 rfl (Zin_n (by decide) (by decide)) ?_
    try simp (disch := omega) only [Zcl_n, pk_mul, nI_add]
    rw [g2, nI_add]
    refine Zs_ile hX (List.cons_ne_nil _ _) (fun h2_z => ?_) (fun h2_z => ?_)
    · have hse : se + m_z ≤ 9999 := (Zn_le (by omega) (by omega)).mp h2_z
      have e_z : ¬ nI 9999 < M 54 2 + nI m_z := by rw [g2, nI_add]; exact Int32.not_lt.mpr h2_z
      have L : ∀ (q_z k_z : Nat) (M1 : Zmem), m_z - k_z < q_z → k_z ≤ m_z → M1 54 = Zll (M 54) n_z k_z → Zhs M M1 → ZP X Zt101 (Zsf Zt101 40) [(0, .ref 53), (1, .int (nI m_z)), (2, .int (Zlo (M 54) n_z k_z)), (3, .int (nI k_z))] [] M1 := by
        intro q_z
        induction q_z with
        | zero => intro k_z M1 hq_z; exact absurd hq_z (Nat.not_lt_zero _)
        | succ q_z ih_z =>
          intro k_z M1 hq_z hk_z h54_z hhk
          obtain ⟨j1_z, j2, j3⟩ := Zll_ok hfi hn_z hn2 g2 hse k_z hk_z
          refine Zgo hX 2 rfl (by (first | exact True.intro | assumption | (dsimp only [ZallP]; and_intros <;> (first | assumption | decide | omega | ((try simp (disch := omega) only [pk_mul, nI_add, Zcl_n]); exact Zin_n (by omega) (by decide)))))) ?_
          refine Zs_ige hX (List.cons_ne_nil _ _) (fun h3_z => ?_) (fun h3_z => ?_)
          · obtain rfl : k_z = m_z := by have := (Zn_le (by omega) (by omega)).mp h3_z; omega
            refine Zgo hX 1 rfl (by (first | exact True.intro | assumption | (dsimp only [ZallP]; and_intros <;> (first | assumption | decide | omega | ((try simp (disch := omega) only [pk_mul, nI_add, Zcl_n]); exact Zin_n (by omega) (by decide)))))) ?_
            refine Zs_ret hX hE rfl (by rw [Floose, if_pos h9_z, if_neg e_z, Zcl_n (show k_z < 2 ^ 31 by omega)]; exact ⟨rfl, h54_z, hhk⟩)
          · have hlt : k_z < m_z := (Nat.lt_or_ge k_z m_z).elim id (fun q_z => absurd ((Zn_le (by omega) (by omega)).mpr q_z) h3_z)
            have step : ∀ (g_z : Nat → Int32) (l : List (Nat × Value)) (M2 : Zmem), l.map (fun q_z => q_z) = l → M2 54 = g_z → g_z = Zll (M 54) n_z (k_z + 1) → Zhs M M2 → ZP X Zt101 (Zsf Zt101 40) [(0, .ref 53), (1, .int (nI m_z)), (2, .int (Zlo (M 54) n_z (k_z + 1))), (3, .int (nI (k_z + 1)))] [] M2 := by
              intro g_z l M2 _ h1_z h2_z h3_z
              exact ih_z (k_z + 1) M2 (by omega) hlt (h1_z.trans h2_z) h3_z
            obtain ⟨d1, d2⟩ := Zdn_ok (Zll (M 54) n_z k_z 4)
            refine Zgo hX 3 rfl (by (first | exact True.intro | assumption | (dsimp only [ZallP]; and_intros <;> (first | assumption | decide | omega | ((try simp (disch := omega) only [pk_mul, nI_add, Zcl_n]); exact Zin_n (by omega) (by decide)))))) ?_
            refine Zs_callv hX (List.cons_ne_nil _ _) (s_draw _) (by first | decide | omega) (by decide) rfl rfl rfl (by decide) (Nat.le_of_ble_eq_true rfl) (fun r_z M' hc_z => ?_)
            obtain ⟨rfl, rfl⟩ := hc_z
            rw [show M1 54 4 = Zll (M 54) n_z k_z 4 by rw [h54_z]]
            have e2_z : (Zu M1 54 4 (Zll (M 54) n_z k_z 4 * nI 1103515245 + nI 12345)) 54 = upd (Zll (M 54) n_z k_z) 4 (Zdz (Zll (M 54) n_z k_z 4)) := by rw [Zu_at, h54_z]; rfl
            refine Zgo hX 2 rfl (by (first | exact True.intro | assumption | (dsimp only [ZallP]; and_intros <;> (first | assumption | decide | omega | ((try simp (disch := omega) only [pk_mul, nI_add, Zcl_n]); exact Zin_n (by omega) (by decide)))))) ?_
            rw [show ((Zll (M 54) n_z k_z 4 * nI 1103515245 + nI 12345).toUInt32 >>> ((nI 8).toUInt32 &&& Int32.toUInt32 31)).toInt32 = nI (Zdn (Zll (M 54) n_z k_z 4)) from d1, pk_rem (by omega) (by decide) (by decide)]
            refine Zs_callv hX (List.cons_ne_nil _ _) (s_aSeason n_z (nI (Zdn (Zll (M 54) n_z k_z 4) % 120)) _ (by rw [e2_z]; exact j1_z.z _) (by rw [e2_z]; exact j2) hn2) (by first | decide | omega) (by decide) rfl rfl rfl (by decide) (Nat.le_of_ble_eq_true rfl) (fun r_z M' hc_z => ?_)
            obtain ⟨rfl, h3_z, hk3⟩ := hc_z
            rw [e2_z] at h3_z ⊢
            have hg2 := Zss_fi (nI (Zdn (Zll (M 54) n_z k_z 4) % 120)) (j1_z.z (Zdz (Zll (M 54) n_z k_z 4))) hn2 j3 (by omega)
            have hg7 : Zss (upd (Zll (M 54) n_z k_z) 4 (Zdz (Zll (M 54) n_z k_z 4))) (nI (Zdn (Zll (M 54) n_z k_z 4) % 120)) n_z 7 = nI n_z := (Zss_7 _ _ _).trans j2
            have hl1 : Zll (M 54) n_z (k_z + 1) = Zwr (Zss (upd (Zll (M 54) n_z k_z) 4 (Zdz (Zll (M 54) n_z k_z 4))) (nI (Zdn (Zll (M 54) n_z k_z 4) % 120)) n_z) n_z := rfl
            have hlo : Zlo (M 54) n_z k_z ||| nI (Zfn (upd (Zll (M 54) n_z k_z) 4 (Zdz (Zll (M 54) n_z k_z 4))) (nI (Zdn (Zll (M 54) n_z k_z 4) % 120)) (nI 0) n_z) = Zlo (M 54) n_z (k_z + 1) := rfl
            rw [← h3_z] at hg2 hg7 hl1
            refine Zgo hX 6 rfl (Zin_n (by decide) (by decide)) ?_
            try simp (disch := omega) only [Zcl_n, pk_mul, nI_add]
            rw [hg7, hlo]
            refine Zs_le hX (List.cons_ne_nil _ _) (fun h4_z => ?_) (fun h4_z => ?_)
            · obtain rfl : n_z = 0 := by have := (Zn_le (b_z := 0) (by omega) (by decide)).mp h4_z; omega
              refine Zgo hX 2 rfl (by (first | exact True.intro | assumption | (dsimp only [ZallP]; and_intros <;> (first | assumption | decide | omega | ((try simp (disch := omega) only [pk_mul, nI_add, Zcl_n]); exact Zin_n (by omega) (by decide)))))) ?_
              rw [nI_add]
              refine Zs_sub (l' := [(0, .ref 53), (1, .int (nI m_z)), (2, .int (Zlo (M 54) 0 (k_z + 1))), (3, .int (nI (k_z + 1)))]) rfl ?_
              exact ih_z (k_z + 1) _ (by omega) hlt (by rw [hl1, Zwr, if_pos rfl]) ((hhk.u _ _).tr hk3)
            · have h0_z : n_z ≠ 0 := fun q_z => h4_z (by rw [q_z]; exact Int32.le_refl _)
              rw [Zwr, if_neg h0_z] at hl1
              generalize hG : M' 54 = G at hg2 hg7 hl1 h3_z
              have hrlt : Zdn (G 4) % n_z < n_z := Nat.mod_lt _ (Nat.pos_of_ne_zero h0_z)
              obtain ⟨d3, d4⟩ := Zdn_ok (G 4)
              obtain ⟨d5_z, d6_z⟩ := Zdn_ok (Zdz (G 4))
              refine Zgo hX 1 rfl (by (first | exact True.intro | assumption | (dsimp only [ZallP]; and_intros <;> (first | assumption | decide | omega | ((try simp (disch := omega) only [pk_mul, nI_add, Zcl_n]); exact Zin_n (by omega) (by decide)))))) ?_
              refine Zs_callv hX (List.cons_ne_nil _ _) (s_draw _) (by first | decide | omega) (by decide) rfl rfl rfl (by decide) (Nat.le_of_ble_eq_true rfl) (fun r_z M' hc_z => ?_)
              obtain ⟨rfl, rfl⟩ := hc_z
              rw [hG]
              refine Zgo hX 12 rfl (by dsimp only [ZallP]; refine ⟨Zin_n (by decide) (by decide), ?_⟩; simp (disch := omega) only [Zcl_n, pk_mul, nI_add, Zu_s, Zu_o]; rw [hG, hg7]; exact fun q_z => h0_z (Zeq (by omega) (by decide) q_z)) ?_
              simp (disch := omega) only [Zcl_n, pk_mul, nI_add, Zu_s, Zu_o]
              rw [hG, hg7, show ((G 4 * nI 1103515245 + nI 12345).toUInt32 >>> ((nI 8).toUInt32 &&& Int32.toUInt32 31)).toInt32 = nI (Zdn (G 4)) from d3, pk_rem (by omega) (by omega) (by omega)]
              refine Zs_callv hX (List.cons_ne_nil _ _) (s_its (Zdn (G 4) % n_z) 2 _ (by omega) (by decide)) (by first | decide | omega) (by decide) rfl rfl rfl (by decide) (Nat.le_of_ble_eq_true rfl) (fun r_z M' hc_z => ?_)
              obtain ⟨rfl, rfl⟩ := hc_z
              simp (disch := omega) only [Zcl_n, pk_mul, nI_add, Zu_s, Zu_o]
              rw [hG, show 9 + 5 * (Zdn (G 4) % n_z) + 2 = 11 + 5 * (Zdn (G 4) % n_z) by omega]
              refine Zgo hX 1 rfl (by (first | exact True.intro | assumption | (dsimp only [ZallP]; and_intros <;> (first | assumption | decide | omega | ((try simp (disch := omega) only [pk_mul, nI_add, Zcl_n]); exact Zin_n (by omega) (by decide)))))) ?_
              refine Zs_callv hX (List.cons_ne_nil _ _) (s_draw _) (by first | decide | omega) (by decide) rfl rfl rfl (by decide) (Nat.le_of_ble_eq_true rfl) (fun r_z M' hc_z => ?_)
              obtain ⟨rfl, rfl⟩ := hc_z
              simp (disch := omega) only [Zcl_n, pk_mul, nI_add, Zu_s, Zu_o]
              refine Zgo hX 5 rfl (by (first | exact True.intro | assumption | (dsimp only [ZallP]; and_intros <;> (first | assumption | decide | omega | ((try simp (disch := omega) only [pk_mul, nI_add, Zcl_n]); exact Zin_n (by omega) (by decide)))))) ?_
              rw [show (((G 4 * nI 1103515245 + nI 12345) * nI 1103515245 + nI 12345).toUInt32 >>> ((nI 8).toUInt32 &&& Int32.toUInt32 31)).toInt32 = nI (Zdn (Zdz (G 4))) from d5_z, pk_rem (by omega) (by decide) (by decide)]
              refine Zs_calls hX (List.cons_ne_nil _ _) (by decide) (s_held _ _ _ _) (by first | decide | omega) rfl rfl (by decide) (Nat.le_of_ble_eq_true rfl) (fun r_z M' hc_z => ?_)
              obtain ⟨rfl, rfl⟩ := hc_z
              refine Zs_callv hX (List.cons_ne_nil _ _) (s_lays1 (Zdn (G 4) % n_z) 2 _ _ (by omega) (by decide)) (by first | decide | omega) (by decide) rfl rfl rfl (by decide) (Nat.le_of_ble_eq_true rfl) (fun r_z M' hc_z => ?_)
              obtain ⟨rfl, rfl⟩ := hc_z
              refine Zgo hX 2 rfl (by (first | exact True.intro | assumption | (dsimp only [ZallP]; and_intros <;> (first | assumption | decide | omega | ((try simp (disch := omega) only [pk_mul, nI_add, Zcl_n]); exact Zin_n (by omega) (by decide)))))) ?_
              rw [nI_add]
              refine Zs_sub (l' := [(0, .ref 53), (1, .int (nI m_z)), (2, .int (Zlo (M 54) n_z (k_z + 1))), (3, .int (nI (k_z + 1)))]) rfl ?_
              exact ih_z (k_z + 1) _ (by omega) hlt (by rw [hl1, Zu_at, Zu_at, Zu_at, hG, show 9 + 5 * (Zdn (G 4) % n_z) + 2 = 11 + 5 * (Zdn (G 4) % n_z) by omega]; rfl) (((((hhk.u _ _).tr hk3).u _ _).u _ _).u _ _)
      refine Zgo hX 4 rfl (by (first | exact True.intro | assumption | (dsimp only [ZallP]; and_intros <;> (first | assumption | decide | omega | ((try simp (disch := omega) only [pk_mul, nI_add, Zcl_n]); exact Zin_n (by omega) (by decide)))))) ?_
      refine Zs_sub (l' := [(0, .ref 53), (1, .int (nI m_z)), (2, .int (Zlo (M 54) n_z 0)), (3, .int (nI 0))]) rfl ?_
      exact L (m_z + 1) 0 M (by omega) (by omega) rfl (Zhs.rf _)
    · have e_z : nI 9999 < M 54 2 + nI m_z := by rw [g2, nI_add]; exact Int32.not_le.mp h2_z
      refine Zgo hX 2 rfl (by (first | exact True.intro | assumption | (dsimp only [ZallP]; and_intros <;> (first | assumption | decide | omega | ((try simp (disch := omega) only [pk_mul, nI_add, Zcl_n]); exact Zin_n (by omega) (by decide)))))) ?_
      refine Zs_callv hX (List.cons_ne_nil _ _) (s_error 3 _ (by decide)) (by first | decide | omega) (by decide) rfl rfl rfl (by decide) (Nat.le_of_ble_eq_true rfl) (fun r_z M' hc_z => ?_)
      obtain ⟨rfl, hsc⟩ := hc_z
      refine Zs_ret hX hE rfl (by rw [Floose, if_pos h9_z, if_pos e_z]; exact Zsok_e hsc)
  · refine Zs_ne hX (List.cons_ne_nil _ _) (fun q_z => False.elim (by revert q_z; decide)) (fun _ => ?_)
    refine Zgo hX 2 rfl (by (first | exact True.intro | assumption | (dsimp only [ZallP]; and_intros <;> (first | assumption | decide | omega | ((try simp (disch := omega) only [pk_mul, nI_add, Zcl_n]); exact Zin_n (by omega) (by decide)))))) ?_
    refine Zs_callv hX (List.cons_ne_nil _ _) (s_error 1 _ (by decide)) (by first | decide | omega) (by decide) rfl rfl rfl (by decide) (Nat.le_of_ble_eq_true rfl) (fun r_z M' hc_z => ?_)
    obtain ⟨rfl, hsc⟩ := hc_z
    refine Zs_ret hX hE rfl (by rw [Floose, if_neg h1_z]; exact Zsok_e hsc)

set_option maxRecDepth 20000 in
set_option maxHeartbeats 1000000 in
theorem k_tell (f_z : Nat → Int32) (n_z : Nat) (v_z : Int32) (M : Zmem) (hz_z : Zrv 1 f_z M) (hfi : Zfi f_z) (hn_z : f_z 7 = nI n_z) (hn2 : n_z ≤ 15) : ZC 33 2 [.ref 0, .int v_z] M (Zkok (Ftell f_z v_z) M) := by
  refine ZC_of Zt33 Zk33 (Nat.le_of_ble_eq_true rfl) (by decide) rfl (fun X hX hE => ?_)
  obtain ⟨w_z, g1, g2⟩ := hfi.wq
  have e6 : M 1 14 = nI w_z := hz_z.1.2.2.2.2.2.2.2.trans g2
  refine Zgo hX 4 rfl (by (first | exact True.intro | assumption | (dsimp only [ZallP]; and_intros <;> (first | assumption | decide | omega | ((try simp (disch := omega) only [pk_mul, nI_add, Zcl_n]); exact Zin_n (by omega) (by decide)))))) ?_
  rw [e6]
  refine Zs_ilt hX (List.cons_ne_nil _ _) (fun h1_z => ?_) (fun h1_z => ?_)
  · have hlt : w_z < 24 := (Zn_lt (by omega) (by decide)).mp h1_z
    have e_z : ¬ f_z 6 = nI 24 := fun q_z => by rw [g2] at q_z; exact absurd (Zeq (by omega) (by decide) q_z) (by omega)
    refine Zgo hX 18 rfl (by show vp_in (M 1 14) 24; rw [e6]; exact Zin_n (by omega) (by decide)) ?_
    rw [e6, Zcl_n (show w_z < 2 ^ 31 by omega), show (Zu M 8 w_z v_z) 1 14 = nI w_z from e6, nI_add]
    refine Zs_ret hX hE rfl (by rw [Ftell, if_neg e_z, g2, Zcl_n (show w_z < 2 ^ 31 by omega), nI_add]; exact ⟨by rw [Zu_s], (hz_z.ws v_z hlt).wt1 _, ((Zhk.rf M).u _ (by decide) _ _).u _ (by decide) _ _⟩)
  · have e_z : f_z 6 = nI 24 := by
      rw [g2]; congr 1
      have : ¬ w_z < 24 := fun q_z => h1_z ((Zn_lt (by omega) (by decide)).mpr q_z)
      omega
    refine Zgo hX 2 rfl (by (first | exact True.intro | assumption | (dsimp only [ZallP]; and_intros <;> (first | assumption | decide | omega | ((try simp (disch := omega) only [pk_mul, nI_add, Zcl_n]); exact Zin_n (by omega) (by decide)))))) ?_
    refine Zs_callv hX (List.cons_ne_nil _ _) (k_refuse 4 _ (by decide)) (by first | decide | omega) (by decide) rfl rfl rfl (by decide) (Nat.le_of_ble_eq_true rfl) (fun r_z M' hc_z => ?_)
    obtain ⟨rfl, hsc⟩ := hc_z
    refine Zs_ret hX hE rfl (by rw [Ftell, if_pos e_z]; exact Zkok_e hz_z hsc)

set_option maxRecDepth 20000 in
set_option maxHeartbeats 1000000 in
theorem s_tell (n_z : Nat) (v_z : Int32) (M : Zmem) (hfi : Zfi (M 54)) (hn_z : M 54 7 = nI n_z) (hn2 : n_z ≤ 15) : ZC 132 2 [.ref 53, .int v_z] M (Zsok (Ftell (M 54) v_z) M) := by
  refine ZC_of Zt132 Zk132 (Nat.le_of_ble_eq_true rfl) (by decide) rfl (fun X hX hE => ?_)
  obtain ⟨w_z, g1, g2⟩ := hfi.wq
  refine Zgo hX 5 rfl (Zin_n (by decide) (by decide)) ?_
  try simp (disch := omega) only [Zcl_n, pk_mul, nI_add]
  refine Zs_ine hX (List.cons_ne_nil _ _) (fun h1_z => ?_) (fun h1_z => ?_)
  · have hlt : w_z < 24 := by
      have : w_z ≠ 24 := fun q_z => h1_z (by rw [g2, q_z])
      omega
    refine Zgo hX 22 rfl (by dsimp only [ZallP]; simp (disch := omega) only [Zcl_n, pk_mul, nI_add, Zu_s, Zu_o]; rw [g2, nI_add]; (try simp (disch := omega) only [Zcl_n, pk_mul, nI_add, Zu_s, Zu_o]); and_intros <;> exact Zin_n (by omega) (by decide)) ?_
    simp (disch := omega) only [Zcl_n, pk_mul, nI_add, Zu_s, Zu_o]
    rw [g2]
    simp (disch := omega) only [Zcl_n, pk_mul, nI_add, Zu_s, Zu_o]
    rw [g2, nI_add]
    refine Zs_ret hX hE rfl (by rw [Ftell, if_neg h1_z, g2, Zcl_n (show w_z < 2 ^ 31 by omega), nI_add]; exact ⟨by first | rfl | rw [Zu_s], by rw [Zu_at, Zu_at], ((Zhs.rf M).u _ _).u _ _⟩)
  · skip
    refine Zgo hX 2 rfl (by (first | exact True.intro | assumption | (dsimp only [ZallP]; and_intros <;> (first | assumption | decide | omega | ((try simp (disch := omega) only [pk_mul, nI_add, Zcl_n]); exact Zin_n (by omega) (by decide)))))) ?_
    refine Zs_callv hX (List.cons_ne_nil _ _) (s_error 4 _ (by decide)) (by first | decide | omega) (by decide) rfl rfl rfl (by decide) (Nat.le_of_ble_eq_true rfl) (fun r_z M' hc_z => ?_)
    obtain ⟨rfl, hsc⟩ := hc_z
    refine Zs_ret hX hE rfl (by rw [Ftell, if_pos h1_z]; exact Zsok_e hsc)

set_option maxRecDepth 20000 in
set_option maxHeartbeats 1000000 in
theorem k_check (f_z : Nat → Int32) (n_z : Nat) (M : Zmem) (hz_z : Zrv 1 f_z M) (hfi : Zfi f_z) (hn_z : f_z 7 = nI n_z) (hn2 : n_z ≤ 15) : ZC 34 1 [.ref 0] M (Zkok (Fcheck f_z n_z) M) := by
  refine ZC_of Zt34 Zk34 (Nat.le_of_ble_eq_true rfl) (by decide) rfl (fun X hX hE => ?_)
  obtain ⟨w_z, g1, g2⟩ := hfi.wq
  have e6 : M 1 14 = nI w_z := hz_z.1.2.2.2.2.2.2.2.trans g2
  have hz1 := hz_z.wt1 (nI 0)
  have hk1 : Zhk M (Zu M 1 14 (nI 0)) := (Zhk.rf M).u _ (by decide) _ _
  have L : ∀ (q_z k_z : Nat), k_z + q_z = w_z → Zck_ f_z n_z w_z q_z k_z = Zck_ f_z n_z w_z w_z 0 → ZP X Zt34 (Zsf Zt34 18) [(0, .ref 0), (1, .int (nI w_z)), (2, .int (nI k_z))] [] (Zu M 1 14 (nI 0)) := by
    intro q_z
    induction q_z with
    | zero =>
      intro k_z hk_z he_z
      refine Zgo hX 2 rfl (by (first | exact True.intro | assumption | (dsimp only [ZallP]; and_intros <;> (first | assumption | decide | omega | ((try simp (disch := omega) only [pk_mul, nI_add, Zcl_n]); exact Zin_n (by omega) (by decide)))))) ?_
      refine Zs_ige hX (List.cons_ne_nil _ _) (fun h_z => ?_) (fun h_z => ?_)
      · refine Zgo hX 1 rfl (by (first | exact True.intro | assumption | (dsimp only [ZallP]; and_intros <;> (first | assumption | decide | omega | ((try simp (disch := omega) only [pk_mul, nI_add, Zcl_n]); exact Zin_n (by omega) (by decide)))))) ?_
        refine Zs_ret hX hE rfl (by rw [Fcheck, g2, Zcl_n (show w_z < 2 ^ 31 by omega), ← he_z]; exact ⟨rfl, hz1, hk1⟩)
      · exact absurd ((Zn_le (by omega) (by omega)).mpr (by omega)) h_z
    | succ q_z ih_z =>
      intro k_z hk_z he_z
      refine Zgo hX 2 rfl (by (first | exact True.intro | assumption | (dsimp only [ZallP]; and_intros <;> (first | assumption | decide | omega | ((try simp (disch := omega) only [pk_mul, nI_add, Zcl_n]); exact Zin_n (by omega) (by decide)))))) ?_
      refine Zs_ige hX (List.cons_ne_nil _ _) (fun h_z => ?_) (fun h_z => ?_)
      · exact absurd ((Zn_le (by omega) (by omega)).mp h_z) (by omega)
      · refine Zgo hX 4 rfl (by (first | exact True.intro | assumption | (dsimp only [ZallP]; and_intros <;> (first | assumption | decide | omega | ((try simp (disch := omega) only [pk_mul, nI_add, Zcl_n]); exact Zin_n (by omega) (by decide)))))) ?_
        rw [show (Zu M 1 14 (nI 0)) 1 5 = nI n_z from hz_z.n hn_z]
        have OUT : (n_z ≤ k_z ∨ ¬ f_z (394 + k_z) = f_z (11 + 5 * k_z)) → ZP X Zt34 (Zsf Zt34 55) [(0, .ref 0), (1, .int (nI w_z)), (2, .int (nI k_z))] [] (Zu M 1 14 (nI 0)) := by
          intro h2_z
          refine Zgo hX 3 rfl (by (first | exact True.intro | assumption | (dsimp only [ZallP]; and_intros <;> (first | assumption | decide | omega | ((try simp (disch := omega) only [pk_mul, nI_add, Zcl_n]); exact Zin_n (by omega) (by decide)))))) ?_
          refine Zs_ret hX hE rfl (by rw [Fcheck, g2, Zcl_n (show w_z < 2 ^ 31 by omega), ← he_z, Zck_, if_pos h2_z]; exact ⟨rfl, hz1, hk1⟩)
        refine Zs_ige hX (List.cons_ne_nil _ _) (fun h2_z => ?_) (fun h2_z => ?_)
        · exact OUT (Or.inl ((Zn_le (by omega) (by omega)).mp h2_z))
        · have hkn : k_z < n_z := (Nat.lt_or_ge k_z n_z).elim id (fun q_z => absurd ((Zn_le (by omega) (by omega)).mpr q_z) h2_z)
          refine Zgo hX 10 rfl (by dsimp only [ZallP]; exact ⟨Zin_n (by omega) (by decide), Zin_n (by omega) (by decide)⟩) ?_
          rw [Zcl_n (show k_z < 2 ^ 31 by omega), show (Zu M 1 14 (nI 0)) 8 k_z = f_z (394 + k_z) from hz_z.2.2.2.1 k_z (by omega), show (Zu M 1 14 (nI 0)) 4 k_z = f_z (11 + 5 * k_z) from (hz_z.row (by omega)).2.2.1]
          refine Zs_ieq hX (List.cons_ne_nil _ _) (fun h3_z => ?_) (fun h3_z => ?_)
          · refine Zgo hX 2 rfl (by (first | exact True.intro | assumption | (dsimp only [ZallP]; and_intros <;> (first | assumption | decide | omega | ((try simp (disch := omega) only [pk_mul, nI_add, Zcl_n]); exact Zin_n (by omega) (by decide)))))) ?_
            rw [nI_add]
            refine Zs_sub (l' := [(0, .ref 0), (1, .int (nI w_z)), (2, .int (nI (k_z + 1)))]) rfl ?_
            exact ih_z (k_z + 1) (by omega) (by rw [← he_z, Zck_, if_neg (fun q_z => q_z.elim (fun q_z => absurd q_z (by omega)) (fun q_z => q_z h3_z))])
          · exact OUT (Or.inr h3_z)
  refine Zgo hX 10 rfl (by (first | exact True.intro | assumption | (dsimp only [ZallP]; and_intros <;> (first | assumption | decide | omega | ((try simp (disch := omega) only [pk_mul, nI_add, Zcl_n]); exact Zin_n (by omega) (by decide)))))) ?_
  rw [e6]
  refine Zs_sub (l' := [(0, .ref 0), (1, .int (nI w_z)), (2, .int (nI 0))]) rfl ?_
  exact L w_z 0 (by omega) rfl

set_option maxRecDepth 20000 in
set_option maxHeartbeats 1000000 in
theorem s_check (n_z : Nat) (M : Zmem) (hfi : Zfi (M 54)) (hn_z : M 54 7 = nI n_z) (hn2 : n_z ≤ 15) : ZC 133 2 [.ref 53] M (Zsok (Fcheck (M 54) n_z) M) := by
  refine ZC_of Zt133 Zk133 (Nat.le_of_ble_eq_true rfl) (by decide) rfl (fun X hX hE => ?_)
  obtain ⟨w_z, g1, g2⟩ := hfi.wq
  have hk1 : Zhs M (Zu M 54 6 (nI 0)) := (Zhs.rf M).u _ _
  have L : ∀ (q_z k_z : Nat), k_z + q_z = w_z → Zck_ (M 54) n_z w_z q_z k_z = Zck_ (M 54) n_z w_z w_z 0 → ZP X Zt133 (Zsf Zt133 18) [(0, .ref 53), (1, .int (nI w_z)), (2, .int (nI k_z))] [] (Zu M 54 6 (nI 0)) := by
    intro q_z
    induction q_z with
    | zero =>
      intro k_z hk_z he_z
      refine Zgo hX 2 rfl (by (first | exact True.intro | assumption | (dsimp only [ZallP]; and_intros <;> (first | assumption | decide | omega | ((try simp (disch := omega) only [pk_mul, nI_add, Zcl_n]); exact Zin_n (by omega) (by decide)))))) ?_
      refine Zs_ige hX (List.cons_ne_nil _ _) (fun h_z => ?_) (fun h_z => ?_)
      · refine Zgo hX 1 rfl (by (first | exact True.intro | assumption | (dsimp only [ZallP]; and_intros <;> (first | assumption | decide | omega | ((try simp (disch := omega) only [pk_mul, nI_add, Zcl_n]); exact Zin_n (by omega) (by decide)))))) ?_
        refine Zs_ret hX hE rfl (by rw [Fcheck, g2, Zcl_n (show w_z < 2 ^ 31 by omega), ← he_z]; exact ⟨rfl, by rw [Zu_at], hk1⟩)
      · exact absurd ((Zn_le (by omega) (by omega)).mpr (by omega)) h_z
    | succ q_z ih_z =>
      intro k_z hk_z he_z
      refine Zgo hX 2 rfl (by (first | exact True.intro | assumption | (dsimp only [ZallP]; and_intros <;> (first | assumption | decide | omega | ((try simp (disch := omega) only [pk_mul, nI_add, Zcl_n]); exact Zin_n (by omega) (by decide)))))) ?_
      refine Zs_ige hX (List.cons_ne_nil _ _) (fun h_z => ?_) (fun h_z => ?_)
      · exact absurd ((Zn_le (by omega) (by omega)).mp h_z) (by omega)
      · refine Zgo hX 2 rfl (by (first | exact True.intro | assumption | (dsimp only [ZallP]; and_intros <;> (first | assumption | decide | omega | ((try simp (disch := omega) only [pk_mul, nI_add, Zcl_n]); exact Zin_n (by omega) (by decide)))))) ?_
        have OUT : (n_z ≤ k_z ∨ ¬ M 54 (394 + k_z) = M 54 (11 + 5 * k_z)) → ZP X Zt133 (Zsf Zt133 50) [(0, .ref 53), (1, .int (nI w_z)), (2, .int (nI k_z))] [] (Zu M 54 6 (nI 0)) := by
          intro h2_z
          refine Zgo hX 3 rfl (by (first | exact True.intro | assumption | (dsimp only [ZallP]; and_intros <;> (first | assumption | decide | omega | ((try simp (disch := omega) only [pk_mul, nI_add, Zcl_n]); exact Zin_n (by omega) (by decide)))))) ?_
          refine Zs_ret hX hE rfl (by rw [Fcheck, g2, Zcl_n (show w_z < 2 ^ 31 by omega), ← he_z, Zck_, if_pos h2_z]; exact ⟨rfl, by rw [Zu_at], hk1⟩)
        refine Zs_callv hX (List.cons_ne_nil _ _) (s_isRow (nI k_z) n_z _ hn_z hn2) (by first | decide | omega) (by decide) rfl rfl rfl (by decide) (Nat.le_of_ble_eq_true rfl) (fun r_z M' hc_z => ?_)
        rcases hc_z with ⟨⟨rfl, h2_z⟩ | ⟨rfl, h2_z⟩, rfl⟩
        · refine Zs_eq hX (List.cons_ne_nil _ _) (fun q_z => False.elim (by revert q_z; decide)) (fun _ => ?_)
          have hkn : k_z < n_z := by have := (Zin_i.mp h2_z).2; rw [Zn_i (by omega)] at this; omega
          refine Zgo hX 9 rfl (by rw [nI_add]; exact Zin_n (by omega) (by decide)) ?_
          simp (disch := omega) only [Zcl_n, pk_mul, nI_add, Zu_s, Zu_o]
          refine Zs_callv hX (List.cons_ne_nil _ _) (s_its k_z 2 _ (by omega) (by decide)) (by first | decide | omega) (by decide) rfl rfl rfl (by decide) (Nat.le_of_ble_eq_true rfl) (fun r_z M' hc_z => ?_)
          obtain ⟨rfl, rfl⟩ := hc_z
          simp (disch := omega) only [Zcl_n, pk_mul, nI_add, Zu_s, Zu_o]
          rw [show 9 + 5 * k_z + 2 = 11 + 5 * k_z by omega]
          refine Zs_ieq hX (List.cons_ne_nil _ _) (fun h3_z => ?_) (fun h3_z => ?_)
          · refine Zgo hX 2 rfl (by (first | exact True.intro | assumption | (dsimp only [ZallP]; and_intros <;> (first | assumption | decide | omega | ((try simp (disch := omega) only [pk_mul, nI_add, Zcl_n]); exact Zin_n (by omega) (by decide)))))) ?_
            rw [nI_add]
            refine Zs_sub (l' := [(0, .ref 53), (1, .int (nI w_z)), (2, .int (nI (k_z + 1)))]) rfl ?_
            exact ih_z (k_z + 1) (by omega) (by rw [← he_z, Zck_, if_neg (fun q_z => q_z.elim (fun q_z => absurd q_z (by omega)) (fun q_z => q_z h3_z))])
          · exact OUT (Or.inr h3_z)
        · refine Zs_eq hX (List.cons_ne_nil _ _) (fun _ => ?_) (fun q_z => False.elim (by revert q_z; decide))
          exact OUT (Or.inl ((Nat.lt_or_ge k_z n_z).elim (fun q_z => absurd (Zin_n q_z (by omega)) h2_z) id))
  refine Zgo hX 12 rfl (by dsimp only [ZallP]; exact ⟨Zin_n (by decide) (by decide), Zin_n (by decide) (by decide)⟩) ?_
  try simp (disch := omega) only [Zcl_n, pk_mul, nI_add]
  rw [g2]
  refine Zs_sub (l' := [(0, .ref 53), (1, .int (nI w_z)), (2, .int (nI 0))]) rfl ?_
  exact L w_z 0 (by omega) rfl
