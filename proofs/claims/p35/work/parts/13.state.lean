
-- the class's river (its cells from b_z on) told by the reference's row_z f_z
theorem Zct_kp {M M' : Zmem} {t u_z : Nat} {f_z f' : Nat → Int32} (h_z : Zct M t u_z f_z) (h0_z : M' t 0 = M t 0) (h2_z : M' t 2 = M t 2) (hc_z : ∀ i_z, M' (t + 1) i_z = M (t + 1) i_z) (hf_z : ∀ j_z, 84 + 125 * u_z ≤ j_z → j_z < 209 + 125 * u_z → f' j_z = f_z j_z) : Zct M' t u_z f' := by
  obtain ⟨n_z, g1, g2, ⟨m_z, g3, g4⟩, g5⟩ := h_z
  refine ⟨n_z, g1, by rw [hf_z _ (by omega) (by omega)]; exact g2, ⟨m_z, g3, by rw [h2_z]; exact g4⟩, ?_⟩
  rcases g5 with ⟨g5, g6, g7, g8⟩ | ⟨g5, g6⟩
  · refine Or.inl ⟨g5, by rw [h0_z]; exact g6, by rw [h2_z]; exact g7, fun i_z hi_z => ?_⟩
    have e_z : Zgi f' u_z i_z = Zgi f_z u_z i_z := by
      unfold Zgi
      rw [hf_z _ (by omega) (by omega), hf_z _ (by omega) (by omega)]
    rw [e_z, hc_z]
    exact g8 i_z hi_z
  · exact Or.inr ⟨g5, by rw [h0_z]; exact g6⟩
theorem Zwf_kp {u_z : Nat} {g_z g' : Nat → Zitm} : ∀ {n_z d_z : Nat}, Zwf u_z g_z n_z d_z → (∀ i_z, i_z < n_z → g' i_z = g_z i_z) → Zwf u_z g' n_z d_z := by
  intro n_z
  induction n_z with
  | zero => intro d_z h_z _; exact h_z
  | succ n_z ih_z =>
    intro d_z h_z hg_z
    obtain ⟨d', h1_z, h2_z⟩ := h_z
    refine ⟨d', ih_z h1_z (fun i_z hi_z => hg_z i_z (by omega)), ?_⟩
    rw [hg_z n_z (by omega)]
    exact h2_z
theorem Ztx_kp {u_z : Nat} {f_z f' : Nat → Int32} (h_z : Ztx f_z u_z) (hf_z : ∀ j_z, 84 + 125 * u_z ≤ j_z → j_z < 209 + 125 * u_z → f' j_z = f_z j_z) : Ztx f' u_z := by
  obtain ⟨n_z, g1, g2, g3⟩ := h_z
  refine ⟨n_z, g1, by rw [hf_z _ (by omega) (by omega)]; exact g2, fun h0_z => Zwf_kp (g3 h0_z) (fun i_z hi_z => ?_)⟩
  unfold Zgi
  rw [hf_z _ (by omega) (by omega), hf_z _ (by omega) (by omega)]
theorem Zrw_kp {i_z : Nat} {f_z f' : Nat → Int32} (h_z : Zrw f_z i_z) (hf_z : ∀ j_z, 9 + 5 * i_z ≤ j_z → j_z < 14 + 5 * i_z → f' j_z = f_z j_z) : Zrw f' i_z := by
  unfold Zrw at h_z ⊢
  rw [hf_z _ (by omega) (by omega), hf_z _ (by omega) (by omega), hf_z _ (by omega) (by omega), hf_z _ (by omega) (by omega), hf_z _ (by omega) (by omega)]
  exact h_z
def Zrv (b_z : Nat) (f_z : Nat → Int32) (M : Zmem) : Prop := (M b_z 5 = f_z 7 ∧ M b_z 6 = f_z 0 ∧ M b_z 7 = f_z 1 ∧ M b_z 8 = f_z 2 ∧ M b_z 9 = f_z 3 ∧ M b_z 10 = f_z 4 ∧ M b_z 12 = f_z 5 ∧ M b_z 14 = f_z 6) ∧
  (∀ i_z, i_z < 15 → M (b_z + 1) i_z = f_z (9 + 5 * i_z) ∧ M (b_z + 2) i_z = f_z (10 + 5 * i_z) ∧ M (b_z + 3) i_z = f_z (11 + 5 * i_z) ∧ M (b_z + 4) i_z = f_z (12 + 5 * i_z) ∧ M (b_z + 5) i_z = f_z (13 + 5 * i_z)) ∧
  (∀ i_z, i_z < 60 → M (b_z + 6) i_z = Zsb (f_z (334 + i_z)).toNatClampNeg) ∧ (∀ i_z, i_z < 24 → M (b_z + 7) i_z = f_z (394 + i_z)) ∧ Zct M (b_z + 10) 0 f_z ∧ Zct M (b_z + 13) 1 f_z
/-- rows that stand, scalars in their bounds, bytes, texts -/
def Zfr (f_z : Nat → Int32) : Prop := ∃ n_z, n_z ≤ 15 ∧ f_z 7 = nI n_z ∧ ∀ i_z, i_z < n_z → Zrw f_z i_z
def Zfsc (f_z : Nat → Int32) : Prop := (∃ a_z, a_z ≤ 9999 ∧ f_z 0 = nI a_z) ∧ (∃ a_z, a_z < 4 ∧ f_z 1 = nI a_z) ∧ (∃ a_z, a_z ≤ 9999 ∧ f_z 2 = nI a_z) ∧ (∃ a_z, a_z ≤ 9999 ∧ f_z 3 = nI a_z) ∧ (∃ a_z, a_z ≤ 60 ∧ f_z 5 = nI a_z) ∧ ∃ a_z, a_z ≤ 24 ∧ f_z 6 = nI a_z
def Zfb (f_z : Nat → Int32) : Prop := ∀ i_z, i_z < 60 → ∃ b_z, b_z < 256 ∧ f_z (334 + i_z) = nI b_z
def Zfi (f_z : Nat → Int32) : Prop := Zfr f_z ∧ Zfsc f_z ∧ Zfb f_z ∧ Ztx f_z 0 ∧ Ztx f_z 1
theorem Zfr_kp {f_z f' : Nat → Int32} (h_z : Zfr f_z) (hf_z : ∀ j_z, 7 ≤ j_z → j_z < 84 → f' j_z = f_z j_z) : Zfr f' := by
  obtain ⟨n_z, h1_z, h2_z, h3_z⟩ := h_z
  exact ⟨n_z, h1_z, by rw [hf_z 7 (by decide) (by decide)]; exact h2_z, fun i_z hi_z => Zrw_kp (h3_z i_z hi_z) (fun j_z g1 g2 => hf_z j_z (by omega) (by omega))⟩
theorem Zfb_kp {f_z f' : Nat → Int32} (h_z : Zfb f_z) (hf_z : ∀ j_z, 334 ≤ j_z → j_z < 394 → f' j_z = f_z j_z) : Zfb f' := by
  intro i_z hi_z
  rw [hf_z _ (by omega) (by omega)]
  exact h_z i_z hi_z
theorem Zfsc_kp {f_z f' : Nat → Int32} (h_z : Zfsc f_z) (hf_z : ∀ j_z, j_z < 7 → f' j_z = f_z j_z) : Zfsc f' := by
  unfold Zfsc at h_z ⊢
  rw [hf_z 0 (by decide), hf_z 1 (by decide), hf_z 2 (by decide), hf_z 3 (by decide), hf_z 5 (by decide), hf_z 6 (by decide)]
  exact h_z
/-- the reference's own cells change at 54 alone; the class's at 1 .. 16 alone -/
def Zhs (M M' : Zmem) : Prop := ∀ o_z k_z, scr o_z k_z = false → o_z ≠ 54 → M' o_z k_z = M o_z k_z
def Zhk (M M' : Zmem) : Prop := ∀ o_z k_z, scr o_z k_z = false → ¬ (1 ≤ o_z ∧ o_z ≤ 16) → M' o_z k_z = M o_z k_z
theorem Zhs.rf (M : Zmem) : Zhs M M := fun _ _ _ _ => rfl
theorem Zhk.rf (M : Zmem) : Zhk M M := fun _ _ _ _ => rfl
theorem Zhs.tr {M M' M'' : Zmem} (h_z : Zhs M M') (h2_z : Zhs M' M'') : Zhs M M'' := fun o_z k_z q_z q2_z => (h2_z o_z k_z q_z q2_z).trans (h_z o_z k_z q_z q2_z)
theorem Zhk.tr {M M' M'' : Zmem} (h_z : Zhk M M') (h2_z : Zhk M' M'') : Zhk M M'' := fun o_z k_z q_z q2_z => (h2_z o_z k_z q_z q2_z).trans (h_z o_z k_z q_z q2_z)
theorem Sc.hs {M M' : Zmem} (h_z : Sc M M') : Zhs M M' := fun o_z k_z q_z _ => h_z o_z k_z q_z
theorem Sc.hk {M M' : Zmem} (h_z : Sc M M') : Zhk M M' := fun o_z k_z q_z _ => h_z o_z k_z q_z
theorem Zhs.u {M M' : Zmem} (h_z : Zhs M M') (j_z : Nat) (v_z : Int32) : Zhs M (Zu M' 54 j_z v_z) := fun o_z k_z q_z q2_z => by rw [Zu_ne _ _ _ q2_z]; exact h_z o_z k_z q_z q2_z
theorem Zhk.u {M M' : Zmem} (h_z : Zhk M M') (o_z : Nat) (ho : 1 ≤ o_z ∧ o_z ≤ 16) (j_z : Nat) (v_z : Int32) : Zhk M (Zu M' o_z j_z v_z) := fun a_z k_z q_z q2_z => by rw [Zu_ne _ _ _ (fun e_z => q2_z (by rw [e_z]; exact ho))]; exact h_z a_z k_z q_z q2_z
theorem Sc.f54 {M M' : Zmem} (h_z : Sc M M') : M' 54 = M 54 := funext fun j_z => h_z 54 j_z rfl
theorem Zhk.f54 {M M' : Zmem} (h_z : Zhk M M') : M' 54 = M 54 := funext fun j_z => h_z 54 j_z rfl (by decide)
theorem Zhk.f55 {M M' : Zmem} (h_z : Zhk M M') : M' 55 = M 55 := funext fun j_z => h_z 55 j_z rfl (by decide)
theorem Zrv_kp {f_z : Nat → Int32} {b_z : Nat} {M M' : Zmem} (h_z : Zrv b_z f_z M) (hb_z : b_z = 1 ∨ b_z = 17) (hs_z : ∀ o_z k_z, scr o_z k_z = false → b_z ≤ o_z → o_z ≤ b_z + 15 → M' o_z k_z = M o_z k_z) : Zrv b_z f_z M' := by
  obtain ⟨⟨h1_z, h2_z, h3_z, h4_z, h5_z, h6_z, h7_z, h8_z⟩, hr_z, ht_z, hw_z, hc0, hc1⟩ := h_z
  rcases hb_z with rfl | rfl
  · exact ⟨⟨(hs_z _ 5 rfl (by decide) (by decide)).trans h1_z, (hs_z _ 6 rfl (by decide) (by decide)).trans h2_z, (hs_z _ 7 rfl (by decide) (by decide)).trans h3_z, (hs_z _ 8 rfl (by decide) (by decide)).trans h4_z, (hs_z _ 9 rfl (by decide) (by decide)).trans h5_z, (hs_z _ 10 rfl (by decide) (by decide)).trans h6_z, (hs_z _ 12 rfl (by decide) (by decide)).trans h7_z, (hs_z _ 14 rfl (by decide) (by decide)).trans h8_z⟩,
      fun i_z hi_z => ⟨(hs_z _ i_z rfl (by decide) (by decide)).trans (hr_z i_z hi_z).1, (hs_z _ i_z rfl (by decide) (by decide)).trans (hr_z i_z hi_z).2.1, (hs_z _ i_z rfl (by decide) (by decide)).trans (hr_z i_z hi_z).2.2.1, (hs_z _ i_z rfl (by decide) (by decide)).trans (hr_z i_z hi_z).2.2.2.1, (hs_z _ i_z rfl (by decide) (by decide)).trans (hr_z i_z hi_z).2.2.2.2⟩,
      fun i_z hi_z => (hs_z _ i_z rfl (by decide) (by decide)).trans (ht_z i_z hi_z), fun i_z hi_z => (hs_z _ i_z rfl (by decide) (by decide)).trans (hw_z i_z hi_z),
      Zct_kp hc0 (hs_z _ 0 rfl (by decide) (by decide)) (hs_z _ 2 rfl (by decide) (by decide)) (fun i_z => hs_z _ i_z rfl (by decide) (by decide)) (fun _ _ _ => rfl), Zct_kp hc1 (hs_z _ 0 rfl (by decide) (by decide)) (hs_z _ 2 rfl (by decide) (by decide)) (fun i_z => hs_z _ i_z rfl (by decide) (by decide)) (fun _ _ _ => rfl)⟩
  · exact ⟨⟨(hs_z _ 5 rfl (by decide) (by decide)).trans h1_z, (hs_z _ 6 rfl (by decide) (by decide)).trans h2_z, (hs_z _ 7 rfl (by decide) (by decide)).trans h3_z, (hs_z _ 8 rfl (by decide) (by decide)).trans h4_z, (hs_z _ 9 rfl (by decide) (by decide)).trans h5_z, (hs_z _ 10 rfl (by decide) (by decide)).trans h6_z, (hs_z _ 12 rfl (by decide) (by decide)).trans h7_z, (hs_z _ 14 rfl (by decide) (by decide)).trans h8_z⟩,
      fun i_z hi_z => ⟨(hs_z _ i_z rfl (by decide) (by decide)).trans (hr_z i_z hi_z).1, (hs_z _ i_z rfl (by decide) (by decide)).trans (hr_z i_z hi_z).2.1, (hs_z _ i_z rfl (by decide) (by decide)).trans (hr_z i_z hi_z).2.2.1, (hs_z _ i_z rfl (by decide) (by decide)).trans (hr_z i_z hi_z).2.2.2.1, (hs_z _ i_z rfl (by decide) (by decide)).trans (hr_z i_z hi_z).2.2.2.2⟩,
      fun i_z hi_z => (hs_z _ i_z rfl (by decide) (by decide)).trans (ht_z i_z hi_z), fun i_z hi_z => (hs_z _ i_z rfl (by decide) (by decide)).trans (hw_z i_z hi_z),
      Zct_kp hc0 (hs_z _ 0 rfl (by decide) (by decide)) (hs_z _ 2 rfl (by decide) (by decide)) (fun i_z => hs_z _ i_z rfl (by decide) (by decide)) (fun _ _ _ => rfl), Zct_kp hc1 (hs_z _ 0 rfl (by decide) (by decide)) (hs_z _ 2 rfl (by decide) (by decide)) (fun i_z => hs_z _ i_z rfl (by decide) (by decide)) (fun _ _ _ => rfl)⟩
theorem Zrv.sc {f_z : Nat → Int32} {b_z : Nat} {M M' : Zmem} (h_z : Zrv b_z f_z M) (hb_z : b_z = 1 ∨ b_z = 17) (hs_z : Sc M M') : Zrv b_z f_z M' := Zrv_kp h_z hb_z (fun o_z k_z q_z _ _ => hs_z o_z k_z q_z)
theorem Zrv.n {f_z : Nat → Int32} {M : Zmem} (h_z : Zrv 1 f_z M) {n_z : Nat} (hn_z : f_z 7 = nI n_z) : M 1 5 = nI n_z := h_z.1.1.trans hn_z
section ZRV
variable {f_z : Nat → Int32} {M : Zmem}

theorem Zrv.n1 (h_z : Zrv 1 f_z M) (v_z : Int32) : Zrv 1 (upd f_z 7 v_z) (Zu M 1 5 v_z) := by
  obtain ⟨⟨h1_z, h2_z, h3_z, h4_z, h5_z, h6_z, h7_z, h8_z⟩, hr_z, ht_z, hw_z, hc0, hc1⟩ := h_z
  exact ⟨⟨rfl, h2_z, h3_z, h4_z, h5_z, h6_z, h7_z, h8_z⟩, fun i_z hi_z => ⟨(hr_z i_z hi_z).1.trans (pk_un (by omega)).symm, (hr_z i_z hi_z).2.1.trans (pk_un (by omega)).symm, (hr_z i_z hi_z).2.2.1.trans (pk_un (by omega)).symm, (hr_z i_z hi_z).2.2.2.1.trans (pk_un (by omega)).symm, (hr_z i_z hi_z).2.2.2.2.trans (pk_un (by omega)).symm⟩, fun i_z hi_z => (ht_z i_z hi_z).trans (by rw [pk_un (by omega)]), fun i_z hi_z => (hw_z i_z hi_z).trans (pk_un (by omega)).symm, Zct_kp hc0 rfl rfl (fun _ => rfl) (fun j_z g1 g2 => pk_un (by omega)), Zct_kp hc1 rfl rfl (fun _ => rfl) (fun j_z g1 g2 => pk_un (by omega))⟩

theorem Zrv.th1 (h_z : Zrv 1 f_z M) (v_z : Int32) : Zrv 1 (upd f_z 0 v_z) (Zu M 1 6 v_z) := by
  obtain ⟨⟨h1_z, h2_z, h3_z, h4_z, h5_z, h6_z, h7_z, h8_z⟩, hr_z, ht_z, hw_z, hc0, hc1⟩ := h_z
  exact ⟨⟨h1_z, rfl, h3_z, h4_z, h5_z, h6_z, h7_z, h8_z⟩, fun i_z hi_z => ⟨(hr_z i_z hi_z).1.trans (pk_un (by omega)).symm, (hr_z i_z hi_z).2.1.trans (pk_un (by omega)).symm, (hr_z i_z hi_z).2.2.1.trans (pk_un (by omega)).symm, (hr_z i_z hi_z).2.2.2.1.trans (pk_un (by omega)).symm, (hr_z i_z hi_z).2.2.2.2.trans (pk_un (by omega)).symm⟩, fun i_z hi_z => (ht_z i_z hi_z).trans (by rw [pk_un (by omega)]), fun i_z hi_z => (hw_z i_z hi_z).trans (pk_un (by omega)).symm, Zct_kp hc0 rfl rfl (fun _ => rfl) (fun j_z g1 g2 => pk_un (by omega)), Zct_kp hc1 rfl rfl (fun _ => rfl) (fun j_z g1 g2 => pk_un (by omega))⟩

theorem Zrv.wy1 (h_z : Zrv 1 f_z M) (v_z : Int32) : Zrv 1 (upd f_z 1 v_z) (Zu M 1 7 v_z) := by
  obtain ⟨⟨h1_z, h2_z, h3_z, h4_z, h5_z, h6_z, h7_z, h8_z⟩, hr_z, ht_z, hw_z, hc0, hc1⟩ := h_z
  exact ⟨⟨h1_z, h2_z, rfl, h4_z, h5_z, h6_z, h7_z, h8_z⟩, fun i_z hi_z => ⟨(hr_z i_z hi_z).1.trans (pk_un (by omega)).symm, (hr_z i_z hi_z).2.1.trans (pk_un (by omega)).symm, (hr_z i_z hi_z).2.2.1.trans (pk_un (by omega)).symm, (hr_z i_z hi_z).2.2.2.1.trans (pk_un (by omega)).symm, (hr_z i_z hi_z).2.2.2.2.trans (pk_un (by omega)).symm⟩, fun i_z hi_z => (ht_z i_z hi_z).trans (by rw [pk_un (by omega)]), fun i_z hi_z => (hw_z i_z hi_z).trans (pk_un (by omega)).symm, Zct_kp hc0 rfl rfl (fun _ => rfl) (fun j_z g1 g2 => pk_un (by omega)), Zct_kp hc1 rfl rfl (fun _ => rfl) (fun j_z g1 g2 => pk_un (by omega))⟩

theorem Zrv.se1 (h_z : Zrv 1 f_z M) (v_z : Int32) : Zrv 1 (upd f_z 2 v_z) (Zu M 1 8 v_z) := by
  obtain ⟨⟨h1_z, h2_z, h3_z, h4_z, h5_z, h6_z, h7_z, h8_z⟩, hr_z, ht_z, hw_z, hc0, hc1⟩ := h_z
  exact ⟨⟨h1_z, h2_z, h3_z, rfl, h5_z, h6_z, h7_z, h8_z⟩, fun i_z hi_z => ⟨(hr_z i_z hi_z).1.trans (pk_un (by omega)).symm, (hr_z i_z hi_z).2.1.trans (pk_un (by omega)).symm, (hr_z i_z hi_z).2.2.1.trans (pk_un (by omega)).symm, (hr_z i_z hi_z).2.2.2.1.trans (pk_un (by omega)).symm, (hr_z i_z hi_z).2.2.2.2.trans (pk_un (by omega)).symm⟩, fun i_z hi_z => (ht_z i_z hi_z).trans (by rw [pk_un (by omega)]), fun i_z hi_z => (hw_z i_z hi_z).trans (pk_un (by omega)).symm, Zct_kp hc0 rfl rfl (fun _ => rfl) (fun j_z g1 g2 => pk_un (by omega)), Zct_kp hc1 rfl rfl (fun _ => rfl) (fun j_z g1 g2 => pk_un (by omega))⟩

theorem Zrv.sa1 (h_z : Zrv 1 f_z M) (v_z : Int32) : Zrv 1 (upd f_z 3 v_z) (Zu M 1 9 v_z) := by
  obtain ⟨⟨h1_z, h2_z, h3_z, h4_z, h5_z, h6_z, h7_z, h8_z⟩, hr_z, ht_z, hw_z, hc0, hc1⟩ := h_z
  exact ⟨⟨h1_z, h2_z, h3_z, h4_z, rfl, h6_z, h7_z, h8_z⟩, fun i_z hi_z => ⟨(hr_z i_z hi_z).1.trans (pk_un (by omega)).symm, (hr_z i_z hi_z).2.1.trans (pk_un (by omega)).symm, (hr_z i_z hi_z).2.2.1.trans (pk_un (by omega)).symm, (hr_z i_z hi_z).2.2.2.1.trans (pk_un (by omega)).symm, (hr_z i_z hi_z).2.2.2.2.trans (pk_un (by omega)).symm⟩, fun i_z hi_z => (ht_z i_z hi_z).trans (by rw [pk_un (by omega)]), fun i_z hi_z => (hw_z i_z hi_z).trans (pk_un (by omega)).symm, Zct_kp hc0 rfl rfl (fun _ => rfl) (fun j_z g1 g2 => pk_un (by omega)), Zct_kp hc1 rfl rfl (fun _ => rfl) (fun j_z g1 g2 => pk_un (by omega))⟩

theorem Zrv.z1 (h_z : Zrv 1 f_z M) (v_z : Int32) : Zrv 1 (upd f_z 4 v_z) (Zu M 1 10 v_z) := by
  obtain ⟨⟨h1_z, h2_z, h3_z, h4_z, h5_z, h6_z, h7_z, h8_z⟩, hr_z, ht_z, hw_z, hc0, hc1⟩ := h_z
  exact ⟨⟨h1_z, h2_z, h3_z, h4_z, h5_z, rfl, h7_z, h8_z⟩, fun i_z hi_z => ⟨(hr_z i_z hi_z).1.trans (pk_un (by omega)).symm, (hr_z i_z hi_z).2.1.trans (pk_un (by omega)).symm, (hr_z i_z hi_z).2.2.1.trans (pk_un (by omega)).symm, (hr_z i_z hi_z).2.2.2.1.trans (pk_un (by omega)).symm, (hr_z i_z hi_z).2.2.2.2.trans (pk_un (by omega)).symm⟩, fun i_z hi_z => (ht_z i_z hi_z).trans (by rw [pk_un (by omega)]), fun i_z hi_z => (hw_z i_z hi_z).trans (pk_un (by omega)).symm, Zct_kp hc0 rfl rfl (fun _ => rfl) (fun j_z g1 g2 => pk_un (by omega)), Zct_kp hc1 rfl rfl (fun _ => rfl) (fun j_z g1 g2 => pk_un (by omega))⟩

theorem Zrv.by1 (h_z : Zrv 1 f_z M) (v_z : Int32) : Zrv 1 (upd f_z 5 v_z) (Zu M 1 12 v_z) := by
  obtain ⟨⟨h1_z, h2_z, h3_z, h4_z, h5_z, h6_z, h7_z, h8_z⟩, hr_z, ht_z, hw_z, hc0, hc1⟩ := h_z
  exact ⟨⟨h1_z, h2_z, h3_z, h4_z, h5_z, h6_z, rfl, h8_z⟩, fun i_z hi_z => ⟨(hr_z i_z hi_z).1.trans (pk_un (by omega)).symm, (hr_z i_z hi_z).2.1.trans (pk_un (by omega)).symm, (hr_z i_z hi_z).2.2.1.trans (pk_un (by omega)).symm, (hr_z i_z hi_z).2.2.2.1.trans (pk_un (by omega)).symm, (hr_z i_z hi_z).2.2.2.2.trans (pk_un (by omega)).symm⟩, fun i_z hi_z => (ht_z i_z hi_z).trans (by rw [pk_un (by omega)]), fun i_z hi_z => (hw_z i_z hi_z).trans (pk_un (by omega)).symm, Zct_kp hc0 rfl rfl (fun _ => rfl) (fun j_z g1 g2 => pk_un (by omega)), Zct_kp hc1 rfl rfl (fun _ => rfl) (fun j_z g1 g2 => pk_un (by omega))⟩

theorem Zrv.wt1 (h_z : Zrv 1 f_z M) (v_z : Int32) : Zrv 1 (upd f_z 6 v_z) (Zu M 1 14 v_z) := by
  obtain ⟨⟨h1_z, h2_z, h3_z, h4_z, h5_z, h6_z, h7_z, h8_z⟩, hr_z, ht_z, hw_z, hc0, hc1⟩ := h_z
  exact ⟨⟨h1_z, h2_z, h3_z, h4_z, h5_z, h6_z, h7_z, rfl⟩, fun i_z hi_z => ⟨(hr_z i_z hi_z).1.trans (pk_un (by omega)).symm, (hr_z i_z hi_z).2.1.trans (pk_un (by omega)).symm, (hr_z i_z hi_z).2.2.1.trans (pk_un (by omega)).symm, (hr_z i_z hi_z).2.2.2.1.trans (pk_un (by omega)).symm, (hr_z i_z hi_z).2.2.2.2.trans (pk_un (by omega)).symm⟩, fun i_z hi_z => (ht_z i_z hi_z).trans (by rw [pk_un (by omega)]), fun i_z hi_z => (hw_z i_z hi_z).trans (pk_un (by omega)).symm, Zct_kp hc0 rfl rfl (fun _ => rfl) (fun j_z g1 g2 => pk_un (by omega)), Zct_kp hc1 rfl rfl (fun _ => rfl) (fun j_z g1 g2 => pk_un (by omega))⟩

theorem Zrv.r0 (h_z : Zrv 1 f_z M) (v_z : Int32) {i0 : Nat} (h0_z : i0 < 15) : Zrv 1 (upd f_z (9 + 5 * i0) v_z) (Zu M 2 i0 v_z) := by
  obtain ⟨⟨h1_z, h2_z, h3_z, h4_z, h5_z, h6_z, h7_z, h8_z⟩, hr_z, ht_z, hw_z, hc0, hc1⟩ := h_z
  refine ⟨⟨h1_z.trans (pk_un (by omega)).symm, h2_z.trans (pk_un (by omega)).symm, h3_z.trans (pk_un (by omega)).symm, h4_z.trans (pk_un (by omega)).symm, h5_z.trans (pk_un (by omega)).symm, h6_z.trans (pk_un (by omega)).symm, h7_z.trans (pk_un (by omega)).symm, h8_z.trans (pk_un (by omega)).symm⟩, fun i_z hi_z => ⟨?_, (hr_z i_z hi_z).2.1.trans (pk_un (by omega)).symm, (hr_z i_z hi_z).2.2.1.trans (pk_un (by omega)).symm, (hr_z i_z hi_z).2.2.2.1.trans (pk_un (by omega)).symm, (hr_z i_z hi_z).2.2.2.2.trans (pk_un (by omega)).symm⟩, fun i_z hi_z => (ht_z i_z hi_z).trans (by rw [pk_un (by omega)]), fun i_z hi_z => (hw_z i_z hi_z).trans (pk_un (by omega)).symm, Zct_kp hc0 rfl rfl (fun _ => rfl) (fun j_z g1 g2 => pk_un (by omega)), Zct_kp hc1 rfl rfl (fun _ => rfl) (fun j_z g1 g2 => pk_un (by omega))⟩
  show (Zu M 2 i0 v_z) 2 i_z = upd f_z (9 + 5 * i0) v_z (9 + 5 * i_z)
  by_cases e_z : i_z = i0
  · subst e_z
    rw [Zu_k, if_pos ⟨rfl, rfl⟩, pk_us]
  · rw [Zu_k, if_neg (fun q_z => e_z q_z.2), pk_un (by omega)]
    exact (hr_z i_z hi_z).1

theorem Zrv.r1 (h_z : Zrv 1 f_z M) (v_z : Int32) {i0 : Nat} (h0_z : i0 < 15) : Zrv 1 (upd f_z (10 + 5 * i0) v_z) (Zu M 3 i0 v_z) := by
  obtain ⟨⟨h1_z, h2_z, h3_z, h4_z, h5_z, h6_z, h7_z, h8_z⟩, hr_z, ht_z, hw_z, hc0, hc1⟩ := h_z
  refine ⟨⟨h1_z.trans (pk_un (by omega)).symm, h2_z.trans (pk_un (by omega)).symm, h3_z.trans (pk_un (by omega)).symm, h4_z.trans (pk_un (by omega)).symm, h5_z.trans (pk_un (by omega)).symm, h6_z.trans (pk_un (by omega)).symm, h7_z.trans (pk_un (by omega)).symm, h8_z.trans (pk_un (by omega)).symm⟩, fun i_z hi_z => ⟨(hr_z i_z hi_z).1.trans (pk_un (by omega)).symm, ?_, (hr_z i_z hi_z).2.2.1.trans (pk_un (by omega)).symm, (hr_z i_z hi_z).2.2.2.1.trans (pk_un (by omega)).symm, (hr_z i_z hi_z).2.2.2.2.trans (pk_un (by omega)).symm⟩, fun i_z hi_z => (ht_z i_z hi_z).trans (by rw [pk_un (by omega)]), fun i_z hi_z => (hw_z i_z hi_z).trans (pk_un (by omega)).symm, Zct_kp hc0 rfl rfl (fun _ => rfl) (fun j_z g1 g2 => pk_un (by omega)), Zct_kp hc1 rfl rfl (fun _ => rfl) (fun j_z g1 g2 => pk_un (by omega))⟩
  show (Zu M 3 i0 v_z) 3 i_z = upd f_z (10 + 5 * i0) v_z (10 + 5 * i_z)
  by_cases e_z : i_z = i0
  · subst e_z
    rw [Zu_k, if_pos ⟨rfl, rfl⟩, pk_us]
  · rw [Zu_k, if_neg (fun q_z => e_z q_z.2), pk_un (by omega)]
    exact (hr_z i_z hi_z).2.1

theorem Zrv.r2 (h_z : Zrv 1 f_z M) (v_z : Int32) {i0 : Nat} (h0_z : i0 < 15) : Zrv 1 (upd f_z (11 + 5 * i0) v_z) (Zu M 4 i0 v_z) := by
  obtain ⟨⟨h1_z, h2_z, h3_z, h4_z, h5_z, h6_z, h7_z, h8_z⟩, hr_z, ht_z, hw_z, hc0, hc1⟩ := h_z
  refine ⟨⟨h1_z.trans (pk_un (by omega)).symm, h2_z.trans (pk_un (by omega)).symm, h3_z.trans (pk_un (by omega)).symm, h4_z.trans (pk_un (by omega)).symm, h5_z.trans (pk_un (by omega)).symm, h6_z.trans (pk_un (by omega)).symm, h7_z.trans (pk_un (by omega)).symm, h8_z.trans (pk_un (by omega)).symm⟩, fun i_z hi_z => ⟨(hr_z i_z hi_z).1.trans (pk_un (by omega)).symm, (hr_z i_z hi_z).2.1.trans (pk_un (by omega)).symm, ?_, (hr_z i_z hi_z).2.2.2.1.trans (pk_un (by omega)).symm, (hr_z i_z hi_z).2.2.2.2.trans (pk_un (by omega)).symm⟩, fun i_z hi_z => (ht_z i_z hi_z).trans (by rw [pk_un (by omega)]), fun i_z hi_z => (hw_z i_z hi_z).trans (pk_un (by omega)).symm, Zct_kp hc0 rfl rfl (fun _ => rfl) (fun j_z g1 g2 => pk_un (by omega)), Zct_kp hc1 rfl rfl (fun _ => rfl) (fun j_z g1 g2 => pk_un (by omega))⟩
  show (Zu M 4 i0 v_z) 4 i_z = upd f_z (11 + 5 * i0) v_z (11 + 5 * i_z)
  by_cases e_z : i_z = i0
  · subst e_z
    rw [Zu_k, if_pos ⟨rfl, rfl⟩, pk_us]
  · rw [Zu_k, if_neg (fun q_z => e_z q_z.2), pk_un (by omega)]
    exact (hr_z i_z hi_z).2.2.1

theorem Zrv.r3 (h_z : Zrv 1 f_z M) (v_z : Int32) {i0 : Nat} (h0_z : i0 < 15) : Zrv 1 (upd f_z (12 + 5 * i0) v_z) (Zu M 5 i0 v_z) := by
  obtain ⟨⟨h1_z, h2_z, h3_z, h4_z, h5_z, h6_z, h7_z, h8_z⟩, hr_z, ht_z, hw_z, hc0, hc1⟩ := h_z
  refine ⟨⟨h1_z.trans (pk_un (by omega)).symm, h2_z.trans (pk_un (by omega)).symm, h3_z.trans (pk_un (by omega)).symm, h4_z.trans (pk_un (by omega)).symm, h5_z.trans (pk_un (by omega)).symm, h6_z.trans (pk_un (by omega)).symm, h7_z.trans (pk_un (by omega)).symm, h8_z.trans (pk_un (by omega)).symm⟩, fun i_z hi_z => ⟨(hr_z i_z hi_z).1.trans (pk_un (by omega)).symm, (hr_z i_z hi_z).2.1.trans (pk_un (by omega)).symm, (hr_z i_z hi_z).2.2.1.trans (pk_un (by omega)).symm, ?_, (hr_z i_z hi_z).2.2.2.2.trans (pk_un (by omega)).symm⟩, fun i_z hi_z => (ht_z i_z hi_z).trans (by rw [pk_un (by omega)]), fun i_z hi_z => (hw_z i_z hi_z).trans (pk_un (by omega)).symm, Zct_kp hc0 rfl rfl (fun _ => rfl) (fun j_z g1 g2 => pk_un (by omega)), Zct_kp hc1 rfl rfl (fun _ => rfl) (fun j_z g1 g2 => pk_un (by omega))⟩
  show (Zu M 5 i0 v_z) 5 i_z = upd f_z (12 + 5 * i0) v_z (12 + 5 * i_z)
  by_cases e_z : i_z = i0
  · subst e_z
    rw [Zu_k, if_pos ⟨rfl, rfl⟩, pk_us]
  · rw [Zu_k, if_neg (fun q_z => e_z q_z.2), pk_un (by omega)]
    exact (hr_z i_z hi_z).2.2.2.1

theorem Zrv.r4 (h_z : Zrv 1 f_z M) (v_z : Int32) {i0 : Nat} (h0_z : i0 < 15) : Zrv 1 (upd f_z (13 + 5 * i0) v_z) (Zu M 6 i0 v_z) := by
  obtain ⟨⟨h1_z, h2_z, h3_z, h4_z, h5_z, h6_z, h7_z, h8_z⟩, hr_z, ht_z, hw_z, hc0, hc1⟩ := h_z
  refine ⟨⟨h1_z.trans (pk_un (by omega)).symm, h2_z.trans (pk_un (by omega)).symm, h3_z.trans (pk_un (by omega)).symm, h4_z.trans (pk_un (by omega)).symm, h5_z.trans (pk_un (by omega)).symm, h6_z.trans (pk_un (by omega)).symm, h7_z.trans (pk_un (by omega)).symm, h8_z.trans (pk_un (by omega)).symm⟩, fun i_z hi_z => ⟨(hr_z i_z hi_z).1.trans (pk_un (by omega)).symm, (hr_z i_z hi_z).2.1.trans (pk_un (by omega)).symm, (hr_z i_z hi_z).2.2.1.trans (pk_un (by omega)).symm, (hr_z i_z hi_z).2.2.2.1.trans (pk_un (by omega)).symm, ?_⟩, fun i_z hi_z => (ht_z i_z hi_z).trans (by rw [pk_un (by omega)]), fun i_z hi_z => (hw_z i_z hi_z).trans (pk_un (by omega)).symm, Zct_kp hc0 rfl rfl (fun _ => rfl) (fun j_z g1 g2 => pk_un (by omega)), Zct_kp hc1 rfl rfl (fun _ => rfl) (fun j_z g1 g2 => pk_un (by omega))⟩
  show (Zu M 6 i0 v_z) 6 i_z = upd f_z (13 + 5 * i0) v_z (13 + 5 * i_z)
  by_cases e_z : i_z = i0
  · subst e_z
    rw [Zu_k, if_pos ⟨rfl, rfl⟩, pk_us]
  · rw [Zu_k, if_neg (fun q_z => e_z q_z.2), pk_un (by omega)]
    exact (hr_z i_z hi_z).2.2.2.2

theorem Zrv.tp (h_z : Zrv 1 f_z M) {i0 b_z : Nat} (h0_z : i0 < 60) (hb_z : b_z < 256) : Zrv 1 (upd f_z (334 + i0) (nI b_z)) (Zu M 7 i0 (Zsb b_z)) := by
  obtain ⟨⟨h1_z, h2_z, h3_z, h4_z, h5_z, h6_z, h7_z, h8_z⟩, hr_z, ht_z, hw_z, hc0, hc1⟩ := h_z
  refine ⟨⟨h1_z.trans (pk_un (by omega)).symm, h2_z.trans (pk_un (by omega)).symm, h3_z.trans (pk_un (by omega)).symm, h4_z.trans (pk_un (by omega)).symm, h5_z.trans (pk_un (by omega)).symm, h6_z.trans (pk_un (by omega)).symm, h7_z.trans (pk_un (by omega)).symm, h8_z.trans (pk_un (by omega)).symm⟩, fun i_z hi_z => ⟨(hr_z i_z hi_z).1.trans (pk_un (by omega)).symm, (hr_z i_z hi_z).2.1.trans (pk_un (by omega)).symm, (hr_z i_z hi_z).2.2.1.trans (pk_un (by omega)).symm, (hr_z i_z hi_z).2.2.2.1.trans (pk_un (by omega)).symm, (hr_z i_z hi_z).2.2.2.2.trans (pk_un (by omega)).symm⟩, fun i_z hi_z => ?_, fun i_z hi_z => (hw_z i_z hi_z).trans (pk_un (by omega)).symm, Zct_kp hc0 rfl rfl (fun _ => rfl) (fun j_z g1 g2 => pk_un (by omega)), Zct_kp hc1 rfl rfl (fun _ => rfl) (fun j_z g1 g2 => pk_un (by omega))⟩
  show (Zu M 7 i0 (Zsb b_z)) 7 i_z = _
  by_cases e_z : i_z = i0
  · subst e_z
    rw [Zu_k, if_pos ⟨rfl, rfl⟩, pk_us, Zcl_n (by omega)]
  · rw [Zu_k, if_neg (fun q_z => e_z q_z.2), pk_un (by omega)]
    exact ht_z i_z hi_z
theorem Zrv.ws (h_z : Zrv 1 f_z M) (v_z : Int32) {i0 : Nat} (h0_z : i0 < 24) : Zrv 1 (upd f_z (394 + i0) v_z) (Zu M 8 i0 v_z) := by
  obtain ⟨⟨h1_z, h2_z, h3_z, h4_z, h5_z, h6_z, h7_z, h8_z⟩, hr_z, ht_z, hw_z, hc0, hc1⟩ := h_z
  refine ⟨⟨h1_z.trans (pk_un (by omega)).symm, h2_z.trans (pk_un (by omega)).symm, h3_z.trans (pk_un (by omega)).symm, h4_z.trans (pk_un (by omega)).symm, h5_z.trans (pk_un (by omega)).symm, h6_z.trans (pk_un (by omega)).symm, h7_z.trans (pk_un (by omega)).symm, h8_z.trans (pk_un (by omega)).symm⟩, fun i_z hi_z => ⟨(hr_z i_z hi_z).1.trans (pk_un (by omega)).symm, (hr_z i_z hi_z).2.1.trans (pk_un (by omega)).symm, (hr_z i_z hi_z).2.2.1.trans (pk_un (by omega)).symm, (hr_z i_z hi_z).2.2.2.1.trans (pk_un (by omega)).symm, (hr_z i_z hi_z).2.2.2.2.trans (pk_un (by omega)).symm⟩, fun i_z hi_z => (ht_z i_z hi_z).trans (by rw [pk_un (by omega)]), fun i_z hi_z => ?_, Zct_kp hc0 rfl rfl (fun _ => rfl) (fun j_z g1 g2 => pk_un (by omega)), Zct_kp hc1 rfl rfl (fun _ => rfl) (fun j_z g1 g2 => pk_un (by omega))⟩
  show (Zu M 8 i0 v_z) 8 i_z = _
  by_cases e_z : i_z = i0
  · subst e_z
    rw [Zu_k, if_pos ⟨rfl, rfl⟩, pk_us]
  · rw [Zu_k, if_neg (fun q_z => e_z q_z.2), pk_un (by omega)]
    exact hw_z i_z hi_z
end ZRV

section ZFI
variable {f_z : Nat → Int32}

theorem Zfi.th (h_z : Zfi f_z) {a_z : Nat} (ha_z : a_z ≤ 9999) : Zfi (upd f_z 0 (nI a_z)) := by
  obtain ⟨h1_z, ⟨g0, g1, g2, g3, g4, g5⟩, h3_z, h4_z, h5_z⟩ := h_z
  exact ⟨Zfr_kp h1_z (fun j_z _ _ => pk_un (by omega)), ⟨⟨a_z, ha_z, rfl⟩, g1, g2, g3, g4, g5⟩, Zfb_kp h3_z (fun j_z _ _ => pk_un (by omega)), Ztx_kp h4_z (fun j_z _ _ => pk_un (by omega)), Ztx_kp h5_z (fun j_z _ _ => pk_un (by omega))⟩

theorem Zfi.wy (h_z : Zfi f_z) {a_z : Nat} (ha_z : a_z < 4) : Zfi (upd f_z 1 (nI a_z)) := by
  obtain ⟨h1_z, ⟨g0, g1, g2, g3, g4, g5⟩, h3_z, h4_z, h5_z⟩ := h_z
  exact ⟨Zfr_kp h1_z (fun j_z _ _ => pk_un (by omega)), ⟨g0, ⟨a_z, ha_z, rfl⟩, g2, g3, g4, g5⟩, Zfb_kp h3_z (fun j_z _ _ => pk_un (by omega)), Ztx_kp h4_z (fun j_z _ _ => pk_un (by omega)), Ztx_kp h5_z (fun j_z _ _ => pk_un (by omega))⟩

theorem Zfi.se (h_z : Zfi f_z) {a_z : Nat} (ha_z : a_z ≤ 9999) : Zfi (upd f_z 2 (nI a_z)) := by
  obtain ⟨h1_z, ⟨g0, g1, g2, g3, g4, g5⟩, h3_z, h4_z, h5_z⟩ := h_z
  exact ⟨Zfr_kp h1_z (fun j_z _ _ => pk_un (by omega)), ⟨g0, g1, ⟨a_z, ha_z, rfl⟩, g3, g4, g5⟩, Zfb_kp h3_z (fun j_z _ _ => pk_un (by omega)), Ztx_kp h4_z (fun j_z _ _ => pk_un (by omega)), Ztx_kp h5_z (fun j_z _ _ => pk_un (by omega))⟩

theorem Zfi.sa (h_z : Zfi f_z) {a_z : Nat} (ha_z : a_z ≤ 9999) : Zfi (upd f_z 3 (nI a_z)) := by
  obtain ⟨h1_z, ⟨g0, g1, g2, g3, g4, g5⟩, h3_z, h4_z, h5_z⟩ := h_z
  exact ⟨Zfr_kp h1_z (fun j_z _ _ => pk_un (by omega)), ⟨g0, g1, g2, ⟨a_z, ha_z, rfl⟩, g4, g5⟩, Zfb_kp h3_z (fun j_z _ _ => pk_un (by omega)), Ztx_kp h4_z (fun j_z _ _ => pk_un (by omega)), Ztx_kp h5_z (fun j_z _ _ => pk_un (by omega))⟩

theorem Zfi.by (h_z : Zfi f_z) {a_z : Nat} (ha_z : a_z ≤ 60) : Zfi (upd f_z 5 (nI a_z)) := by
  obtain ⟨h1_z, ⟨g0, g1, g2, g3, g4, g5⟩, h3_z, h4_z, h5_z⟩ := h_z
  exact ⟨Zfr_kp h1_z (fun j_z _ _ => pk_un (by omega)), ⟨g0, g1, g2, g3, ⟨a_z, ha_z, rfl⟩, g5⟩, Zfb_kp h3_z (fun j_z _ _ => pk_un (by omega)), Ztx_kp h4_z (fun j_z _ _ => pk_un (by omega)), Ztx_kp h5_z (fun j_z _ _ => pk_un (by omega))⟩

theorem Zfi.wt (h_z : Zfi f_z) {a_z : Nat} (ha_z : a_z ≤ 24) : Zfi (upd f_z 6 (nI a_z)) := by
  obtain ⟨h1_z, ⟨g0, g1, g2, g3, g4, g5⟩, h3_z, h4_z, h5_z⟩ := h_z
  exact ⟨Zfr_kp h1_z (fun j_z _ _ => pk_un (by omega)), ⟨g0, g1, g2, g3, g4, ⟨a_z, ha_z, rfl⟩⟩, Zfb_kp h3_z (fun j_z _ _ => pk_un (by omega)), Ztx_kp h4_z (fun j_z _ _ => pk_un (by omega)), Ztx_kp h5_z (fun j_z _ _ => pk_un (by omega))⟩

theorem Zfi.z (h_z : Zfi f_z) (v_z : Int32) : Zfi (upd f_z 4 v_z) := by
  obtain ⟨h1_z, h2_z, h3_z, h4_z, h5_z⟩ := h_z
  exact ⟨Zfr_kp h1_z (fun j_z _ _ => pk_un (by omega)), h2_z, Zfb_kp h3_z (fun j_z _ _ => pk_un (by omega)), Ztx_kp h4_z (fun j_z _ _ => pk_un (by omega)), Ztx_kp h5_z (fun j_z _ _ => pk_un (by omega))⟩

theorem Zfi.tp (h_z : Zfi f_z) {i0 b_z : Nat} (h0_z : i0 < 60) (hb_z : b_z < 256) : Zfi (upd f_z (334 + i0) (nI b_z)) := by
  obtain ⟨h1_z, h2_z, h3_z, h4_z, h5_z⟩ := h_z
  refine ⟨Zfr_kp h1_z (fun j_z _ _ => pk_un (by omega)), Zfsc_kp h2_z (fun j_z _ => pk_un (by omega)), fun i_z hi_z => ?_, Ztx_kp h4_z (fun j_z _ _ => pk_un (by omega)), Ztx_kp h5_z (fun j_z _ _ => pk_un (by omega))⟩
  by_cases e_z : i_z = i0
  · subst e_z
    rw [pk_us]
    exact ⟨b_z, hb_z, rfl⟩
  · rw [pk_un (by omega)]
    exact h3_z i_z hi_z
theorem Zfi.ws (h_z : Zfi f_z) (v_z : Int32) {i0 : Nat} (h0_z : i0 < 24) : Zfi (upd f_z (394 + i0) v_z) := by
  obtain ⟨h1_z, h2_z, h3_z, h4_z, h5_z⟩ := h_z
  exact ⟨Zfr_kp h1_z (fun j_z _ _ => pk_un (by omega)), Zfsc_kp h2_z (fun j_z _ => pk_un (by omega)), Zfb_kp h3_z (fun j_z _ _ => pk_un (by omega)), Ztx_kp h4_z (fun j_z _ _ => pk_un (by omega)), Ztx_kp h5_z (fun j_z _ _ => pk_un (by omega))⟩
/-- a_z place of a_z row_z is written, the row_z still a_z row_z (if it stands) -/
theorem Zfi.row (h_z : Zfi f_z) (v_z : Int32) {i0 w_z : Nat} (h0_z : i0 < 15) (hw_z : w_z < 5) (hr_z : ∀ n_z, f_z 7 = nI n_z → n_z ≤ 15 → i0 < n_z → Zrw f_z i0 → Zrw (upd f_z (9 + w_z + 5 * i0) v_z) i0) : Zfi (upd f_z (9 + w_z + 5 * i0) v_z) := by
  obtain ⟨⟨n_z, g1, g2, g3⟩, h2_z, h3_z, h4_z, h5_z⟩ := h_z
  refine ⟨⟨n_z, g1, by rw [pk_un (by omega)]; exact g2, fun i_z hi_z => ?_⟩, Zfsc_kp h2_z (fun j_z _ => pk_un (by omega)), Zfb_kp h3_z (fun j_z _ _ => pk_un (by omega)), Ztx_kp h4_z (fun j_z _ _ => pk_un (by omega)), Ztx_kp h5_z (fun j_z _ _ => pk_un (by omega))⟩
  by_cases e_z : i_z = i0
  · subst e_z
    exact hr_z n_z g2 g1 hi_z (g3 i_z hi_z)
  · exact Zrw_kp (g3 i_z hi_z) (fun j_z _ _ => pk_un (by omega))
theorem Zfi.less (h_z : Zfi f_z) {n_z m_z : Nat} (hn_z : f_z 7 = nI n_z) (hn2 : n_z ≤ 15) (hm_z : m_z ≤ n_z) : Zfi (upd f_z 7 (nI m_z)) := by
  obtain ⟨⟨n', g1, g2, g3⟩, h2_z, h3_z, h4_z, h5_z⟩ := h_z
  obtain rfl : n' = n_z := Zeq (by omega) (by omega) (g2.symm.trans hn_z)
  exact ⟨⟨m_z, by omega, rfl, fun i_z hi_z => Zrw_kp (g3 i_z (by omega)) (fun j_z _ _ => pk_un (by omega))⟩, Zfsc_kp h2_z (fun j_z _ => pk_un (by omega)), Zfb_kp h3_z (fun j_z _ _ => pk_un (by omega)), Ztx_kp h4_z (fun j_z _ _ => pk_un (by omega)), Ztx_kp h5_z (fun j_z _ _ => pk_un (by omega))⟩
theorem Zfi.more (h_z : Zfi f_z) {n_z : Nat} (hn_z : f_z 7 = nI n_z) (hn2 : n_z < 15) (hr_z : Zrw f_z n_z) : Zfi (upd f_z 7 (nI (n_z + 1))) := by
  obtain ⟨⟨n', g1, g2, g3⟩, h2_z, h3_z, h4_z, h5_z⟩ := h_z
  obtain rfl : n' = n_z := Zeq (by omega) (by omega) (g2.symm.trans hn_z)
  refine ⟨⟨n' + 1, by omega, rfl, fun i_z hi_z => ?_⟩, Zfsc_kp h2_z (fun j_z _ => pk_un (by omega)), Zfb_kp h3_z (fun j_z _ _ => pk_un (by omega)), Ztx_kp h4_z (fun j_z _ _ => pk_un (by omega)), Ztx_kp h5_z (fun j_z _ _ => pk_un (by omega))⟩
  refine Zrw_kp ?_ (fun j_z _ _ => pk_un (by omega))
  by_cases e_z : i_z = n'
  · subst e_z; exact hr_z
  · exact g3 i_z (by omega)
end ZFI
