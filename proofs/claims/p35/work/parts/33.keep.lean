-- what the acts leave is as it must be
theorem Zyn_b (f_z : Nat → Int32) (b_z w_z t : Int32) : 1 ≤ (Zyn f_z b_z w_z t).toInt ∧ (Zyn f_z b_z w_z t).toInt ≤ 99 := Zhl_in (Zn_i (by decide)) (Zn_i (by decide)) (by decide)
theorem Zfi.n7 {f_z : Nat → Int32} (h_z : Zfi f_z) : ∃ n_z, n_z ≤ 15 ∧ f_z 7 = nI n_z := by
  obtain ⟨⟨n_z, g1, g2, g3⟩, -⟩ := h_z
  exact ⟨n_z, g1, g2⟩
theorem Zkn_fi {f_z : Nat → Int32} {n_z k_z w_z : Nat} {t : Int32} (h_z : Zfi f_z) (hn_z : f_z 7 = nI n_z) (hn2 : n_z < 15) (hk_z : k_z ≤ 69) (hw1 : 1 ≤ w_z) (hw2 : w_z ≤ 12) (ht_z : -9 ≤ t.toInt ∧ t.toInt ≤ 9) : Zfi (Zkn f_z n_z (nI k_z) (nI w_z) t) ∧ (∀ j_z, j_z < 9 → Zkn f_z n_z (nI k_z) (nI w_z) t j_z = f_z j_z) ∧ Zrw (Zkn f_z n_z (nI k_z) (nI w_z) t) n_z := by
  have vac : ∀ {g_z : Nat → Int32} {v_z : Int32} {x_z : Nat}, g_z 7 = nI n_z → ∀ m_z, g_z 7 = nI m_z → m_z ≤ 15 → n_z < m_z → Zrw g_z n_z → Zrw (upd g_z (9 + x_z + 5 * n_z) v_z) n_z := by
    intro g_z v_z x_z hg_z m_z hm_z hm2 hlt
    exact absurd (Zeq (by omega) (by omega) (hm_z.symm.trans hg_z)) (by omega)
  have e7 : ∀ {g_z : Nat → Int32} {v_z : Int32} {x_z : Nat}, g_z 7 = nI n_z → (upd g_z (9 + x_z + 5 * n_z) v_z) 7 = nI n_z := by
    intro g_z v_z x_z hg_z
    rw [pk_un (by omega)]
    exact hg_z
  have g1 := h_z.row (nI (k_z / 10)) (w_z := 0) hn2 (by decide) (vac hn_z)
  have q1_z := e7 (v_z := nI (k_z / 10)) (x_z := 0) hn_z
  have g2 := g1.row (nI (k_z % 10)) (w_z := 1) hn2 (by decide) (vac q1_z)
  have q2_z := e7 (v_z := nI (k_z % 10)) (x_z := 1) q1_z
  have g3 := g2.row (nI w_z) (w_z := 2) hn2 (by decide) (vac q2_z)
  have q3 := e7 (v_z := nI w_z) (x_z := 2) q2_z
  have g4 := g3.row t (w_z := 3) hn2 (by decide) (vac q3)
  have q4 := e7 (v_z := t) (x_z := 3) q3
  have g5 := g4.row (nI 0) (w_z := 4) hn2 (by decide) (vac q4)
  have ec : (nI k_z).toNatClampNeg = k_z := Zcl_n (by omega)
  unfold Zkn
  rw [ec]
  refine ⟨g5, fun j_z hj_z => ?_, ?_⟩
  · rw [pk_un (by omega), pk_un (by omega), pk_un (by omega), pk_un (by omega), pk_un (by omega)]
  · unfold Zrw
    refine ⟨⟨k_z / 10, by omega, ?_⟩, ⟨k_z % 10, by omega, ?_⟩, ⟨w_z, hw1, hw2, ?_⟩, ?_, Or.inl ?_⟩
    · rw [pk_un (by omega), pk_un (by omega), pk_un (by omega), pk_un (by omega), pk_us]
    · rw [pk_un (by omega), pk_un (by omega), pk_un (by omega), pk_us]
    · rw [pk_un (by omega), pk_un (by omega), pk_us]
    · rw [pk_un (by omega), pk_us]
      exact ht_z
    · rw [pk_us]
theorem Z9_t {t : Int32} (h_z : -(nI 9) ≤ t ∧ t ≤ nI 9) : -9 ≤ t.toInt ∧ t.toInt ≤ 9 := by
  have h1_z := (Zle_i _ _).mp h_z.1
  have h2_z := (Zle_i _ _).mp h_z.2
  rw [Zneg9] at h1_z
  rw [Zn_i (by decide)] at h2_z
  exact ⟨h1_z, h2_z⟩
theorem Z1_ex {x_z : Int32} {b_z : Nat} (hb_z : b_z < 2 ^ 31) (h_z : nI 1 ≤ x_z ∧ x_z ≤ nI b_z) : ∃ j_z, 1 ≤ j_z ∧ j_z ≤ b_z ∧ x_z = nI j_z := by
  obtain ⟨j_z, h1_z, rfl⟩ := Zbt_ex hb_z ⟨by have := (Zle_i _ _).mp h_z.1; rw [Zn_i (by decide)] at this; exact (Zle_i _ _).mpr (by rw [Zn_i (by decide)]; omega), h_z.2⟩
  exact ⟨j_z, (Zn_le (by decide) (by omega)).mp h_z.1, h1_z, rfl⟩
theorem Fknit_fi {f_z : Nat → Int32} {n_z : Nat} {km w_z t : Int32} (h_z : Zfi f_z) (hn_z : f_z 7 = nI n_z) (hn2 : n_z ≤ 15) : Zfi (Fknit f_z n_z km w_z t).2 := by
  unfold Fknit
  split
  · rename_i hq_z
    obtain ⟨hk_z, hw_z, ht_z⟩ := hq_z
    split
    · exact h_z
    · rename_i h15_z
      split
      · exact h_z
      · rename_i hy
        obtain ⟨k_z, hk1, rfl⟩ := Zbt_ex (by decide) hk_z
        obtain ⟨w_z, hw1, hw2, rfl⟩ := Z1_ex (by decide) hw_z
        obtain ⟨g1, g2, g3⟩ := Zkn_fi (t := t) h_z hn_z (by omega) hk1 hw1 hw2 (Z9_t ht_z)
        obtain ⟨a_z, ha_z, ha2⟩ := h_z.thq
        have hb_z := Zyn_b f_z (Zsaid ((nI k_z).toNatClampNeg / 10) ((nI k_z).toNatClampNeg % 10) (nI w_z) t (f_z 2)) (nI w_z) t
        obtain ⟨y_z, hy1, hy2, hy3⟩ := Zof (x_z := Zkm f_z (nI k_z) (nI w_z) t) (by unfold Zkm; omega)
        have hy4 : y_z ≤ a_z := by
          rw [hy2, ha2] at hy
          exact (Nat.lt_or_ge a_z y_z).elim (fun q_z => absurd ((Zn_lt (by omega) hy1).mpr q_z) hy) id
        show Zfi (upd (upd (Zkn f_z n_z (nI k_z) (nI w_z) t) 7 (nI (n_z + 1))) 0 (f_z 0 - Zkm f_z (nI k_z) (nI w_z) t))
        rw [hy2, ha2, pk_sub hy4]
        exact (g1.more ((g2 7 (by decide)).trans hn_z) (by omega) g3).th (by omega)
  · exact h_z
theorem Fbecome_fi {f_z : Nat → Int32} {n_z : Nat} {r_z km : Int32} (h_z : Zfi f_z) (hn2 : n_z ≤ 15) : Zfi (Fbecome f_z n_z r_z km).2 := by
  unfold Fbecome
  split
  · rename_i hq_z
    obtain ⟨i_z, hi_z, rfl, ei⟩ := Zvp hq_z.1 (by omega)
    obtain ⟨k_z, hk_z, rfl⟩ := Zbt_ex (by decide) hq_z.2
    rw [ei, Zcl_n (show k_z < 2 ^ 31 by omega)]
    have g1 := h_z.row (nI (k_z % 10)) (w_z := 1) (i0 := i_z) (by omega) (by decide) (fun _ _ _ _ hr_z => by
      unfold Zrw at hr_z ⊢
      rw [pk_un (by omega), pk_us, pk_un (by omega), pk_un (by omega), pk_un (by omega)]
      exact ⟨hr_z.1, ⟨k_z % 10, by omega, rfl⟩, hr_z.2.2.1, hr_z.2.2.2.1, hr_z.2.2.2.2⟩)
    exact g1.row (nI (k_z / 10)) (w_z := 0) (i0 := i_z) (by omega) (by decide) (fun _ _ _ _ hr_z => by
      unfold Zrw at hr_z ⊢
      have e_z : ∀ {g_z : Nat → Int32} {x_z : Nat}, x_z ≠ 9 + 5 * i_z → upd g_z (9 + 0 + 5 * i_z) (nI (k_z / 10)) x_z = g_z x_z := fun q_z => pk_un (by omega)
      rw [pk_us, e_z (show 10 + 5 * i_z ≠ 9 + 5 * i_z by omega), e_z (show 11 + 5 * i_z ≠ 9 + 5 * i_z by omega), e_z (show 12 + 5 * i_z ≠ 9 + 5 * i_z by omega), e_z (show 13 + 5 * i_z ≠ 9 + 5 * i_z by omega)]
      exact ⟨⟨k_z / 10, by omega, rfl⟩, hr_z.2.1, hr_z.2.2.1, hr_z.2.2.2.1, hr_z.2.2.2.2⟩)
  · exact h_z
theorem Ftie_fi {f_z : Nat → Int32} {n_z : Nat} {r_z is : Int32} (h_z : Zfi f_z) (hn2 : n_z ≤ 15) : Zfi (Ftie f_z n_z r_z is).2 := by
  unfold Ftie
  split
  · rename_i hq_z
    obtain ⟨i_z, hi_z, rfl, ei⟩ := Zvp hq_z.1 (by omega)
    obtain ⟨k_z, hk_z, rfl⟩ := Zbt_ex (by decide) hq_z.2
    rw [ei]
    exact h_z.row (nI k_z) (w_z := 4) (i0 := i_z) (by omega) (by decide) (fun _ _ _ _ hr_z => by
      unfold Zrw at hr_z ⊢
      rw [pk_un (by omega), pk_un (by omega), pk_un (by omega), pk_un (by omega), pk_us]
      exact ⟨hr_z.1, hr_z.2.1, hr_z.2.2.1, hr_z.2.2.2.1, (show k_z = 0 ∨ k_z = 1 by omega).elim (fun q_z => Or.inl (by rw [q_z])) (fun q_z => Or.inr (by rw [q_z]))⟩)
  · exact h_z
theorem Fdrop_fi {f_z : Nat → Int32} {n_z : Nat} {r_z : Int32} (h_z : Zfi f_z) (hn_z : f_z 7 = nI n_z) (hn2 : n_z ≤ 15) : Zfi (Fdrop f_z n_z r_z).2 := by
  unfold Fdrop
  split
  · rename_i hq_z
    obtain ⟨i_z, hi_z, rfl, ei⟩ := Zvp hq_z (by omega)
    rw [ei]
    split
    · exact h_z
    · rename_i h1_z
      obtain ⟨-, -, ⟨w_z, hw1, hw2, hw3⟩, -⟩ := h_z.rw hn_z hn2 hi_z
      rw [hw3] at h1_z ⊢
      rw [pk_sub hw1]
      exact Zfi_wi h_z (by omega) (by have : w_z ≠ 1 := fun q_z => h1_z (by rw [q_z]); omega) (by omega)
  · exact h_z
theorem Ftense_fi {f_z : Nat → Int32} {n_z : Nat} {r_z t : Int32} (h_z : Zfi f_z) (hn2 : n_z ≤ 15) : Zfi (Ftense f_z n_z r_z t).2 := by
  unfold Ftense
  split
  · rename_i hq_z
    obtain ⟨i_z, hi_z, rfl, ei⟩ := Zvp hq_z.1 (by omega)
    rw [ei]
    exact Zfi_te h_z (by omega) (Z9_t hq_z.2)
  · exact h_z
theorem Fwind_fi {f_z : Nat → Int32} {a_z v_z : Int32} (h_z : Zfi f_z) : Zfi (Fwind f_z a_z v_z).2 := by
  unfold Fwind
  split
  · rename_i hq_z
    obtain ⟨k_z, hk_z, rfl⟩ := Zbt_ex (by decide) hq_z.2
    exact h_z.th hk_z
  · split
    · rename_i hq_z
      obtain ⟨k_z, hk_z, rfl⟩ := Zbt_ex (by decide) hq_z.2
      exact h_z.wy (by omega)
    · exact h_z
theorem Fseason_fi {f_z : Nat → Int32} {n_z : Nat} {m_z : Int32} (h_z : Zfi f_z) (hn2 : n_z ≤ 15) : Zfi (Fseason f_z n_z m_z).2 := by
  unfold Fseason
  split
  · split
    · exact h_z
    · rename_i h9_z
      obtain ⟨a_z, ha_z, ha2⟩ := h_z.seq
      exact Zss_fi m_z h_z hn2 ha2 (by have : a_z ≠ 9999 := fun q_z => h9_z (by rw [ha2, q_z]); omega)
  · exact h_z
theorem Floose_fi {f_z : Nat → Int32} {n_z : Nat} {m_z : Int32} (h_z : Zfi f_z) (hn_z : f_z 7 = nI n_z) (hn2 : n_z ≤ 15) : Zfi (Floose f_z n_z m_z).2 := by
  unfold Floose
  split
  · rename_i hq_z
    split
    · exact h_z
    · rename_i h9_z
      obtain ⟨k_z, hk1, hk_z, rfl⟩ := Z1_ex (by decide) hq_z
      obtain ⟨a_z, ha_z, ha2⟩ := h_z.seq
      rw [ha2, nI_add] at h9_z
      have hle : a_z + k_z ≤ 9999 := (Nat.lt_or_ge 9999 (a_z + k_z)).elim (fun q_z => absurd ((Zn_lt (by decide) (by omega)).mpr q_z) h9_z) id
      show Zfi (Zll f_z n_z (nI k_z).toNatClampNeg)
      rw [Zcl_n (by omega)]
      exact (Zll_ok h_z hn_z hn2 ha2 hle k_z (Nat.le_refl _)).1
  · exact h_z
theorem Fseed_fi {f_z : Nat → Int32} {v_z : Int32} (h_z : Zfi f_z) : Zfi (Fseed f_z v_z).2 := h_z.z v_z
theorem Ftell_fi {f_z : Nat → Int32} {v_z : Int32} (h_z : Zfi f_z) : Zfi (Ftell f_z v_z).2 := by
  unfold Ftell
  split
  · exact h_z
  · rename_i h9_z
    obtain ⟨a_z, ha_z, ha2⟩ := h_z.wq
    have hlt : a_z < 24 := by have : a_z ≠ 24 := fun q_z => h9_z (by rw [ha2, q_z]); omega
    show Zfi (upd (upd f_z (394 + (f_z 6).toNatClampNeg) v_z) 6 (f_z 6 + nI 1))
    rw [ha2, Zcl_n (by omega), nI_add]
    exact (h_z.ws v_z hlt).wt (by omega)
theorem Fcheck_fi {f_z : Nat → Int32} {n_z : Nat} (h_z : Zfi f_z) : Zfi (Fcheck f_z n_z).2 := h_z.wt (Nat.zero_le _)
theorem Zun_fi {row_z : Nat} : ∀ {m_z : Nat} {f_z : Nat → Int32}, Zfi f_z → f_z 7 = nI m_z → m_z ≤ 15 → Zfi (Zun row_z f_z m_z).2 := by
  intro m_z
  induction m_z with
  | zero => intro f_z h_z _ _; exact h_z
  | succ m_z ih_z =>
    intro f_z h_z hn_z hm_z
    by_cases hc_z : row_z ≤ m_z ∧ f_z (13 + 5 * m_z) = 0
    · rw [Zun_y hc_z.1 hc_z.2]
      obtain ⟨g1, g2⟩ := Zu1_fi h_z hn_z hm_z
      exact ih_z g1 g2 (by omega)
    · rw [Zun_n hc_z]
      exact h_z
theorem Fpull_fi {f_z : Nat → Int32} {n_z : Nat} {r_z : Int32} (h_z : Zfi f_z) (hn_z : f_z 7 = nI n_z) (hn2 : n_z ≤ 15) : Zfi (Fpull f_z n_z r_z).2 := by
  unfold Fpull
  split
  · exact Zun_fi h_z hn_z hn2
  · exact h_z
theorem Ffeed_fi {f_z : Nat → Int32} {w_z : Int64} {m_z : Int32} (h_z : Zfi f_z) : Zfi (Ffeed f_z w_z m_z).2 := by
  unfold Ffeed
  split
  · rename_i hq_z
    split
    · exact h_z
    · rename_i h9_z
      obtain ⟨k_z, hk1, hk_z, rfl⟩ := Z1_ex (by decide) hq_z
      obtain ⟨a_z, ha_z, ha2⟩ := h_z.byq
      rw [ha2, nI_add] at h9_z
      have hle : a_z + k_z ≤ 60 := (Nat.lt_or_ge 60 (a_z + k_z)).elim (fun q_z => absurd ((Zn_lt (by decide) (by omega)).mpr q_z) h9_z) id
      show Zfi (Zfd f_z w_z (f_z 5).toNatClampNeg (nI k_z).toNatClampNeg)
      rw [Zcl_n (show k_z < 2 ^ 31 by omega), ha2, Zcl_n (show a_z < 2 ^ 31 by omega)]
      exact (Zfd_fi h_z ha2 k_z hle).1
  · exact h_z
theorem Ftext_fi {f_z : Nat → Int32} {use : Int32} (h_z : Zfi f_z) : Zfi (Ftext f_z use).2 := by
  unfold Ftext
  split
  · rename_i hq_z
    obtain ⟨u_z, hu_z, rfl⟩ := Zbt_ex (by decide) hq_z
    rw [Zcl_n (show u_z < 2 ^ 31 by omega)]
    split
    · rename_i hr_z
      obtain ⟨a_z, ha_z, ha2⟩ := h_z.byq
      exact Ztt_fi h_z (Zch_st h_z ha2 ha_z (show u_z < 2 by omega)).1 (by omega) hr_z.1
    · exact h_z.by (Nat.zero_le _)
  · exact h_z
theorem Funtell_fi {f_z : Nat → Int32} {use : Int32} (h_z : Zfi f_z) : Zfi (Funtell f_z use).2 := by
  unfold Funtell
  split
  · rename_i hq_z
    obtain ⟨u_z, hu_z, rfl⟩ := Zbt_ex (by decide) hq_z
    rw [Zcl_n (show u_z < 2 ^ 31 by omega)]
    have key : ∀ v_z, v_z < 2 → Ztx f_z v_z → Ztx (upd f_z (84 + 125 * u_z) (nI 0)) v_z := by
      intro v_z hv_z hx_z
      by_cases e_z : v_z = u_z
      · subst e_z
        exact ⟨0, Nat.zero_le _, pk_us, fun q_z => absurd q_z (by decide)⟩
      · exact Ztx_kp hx_z (fun j_z _ _ => pk_un (by omega))
    exact ⟨Zfr_kp h_z.1 (fun j_z _ _ => pk_un (by omega)), Zfsc_kp h_z.2.1 (fun j_z _ => pk_un (by omega)), Zfb_kp h_z.2.2.1 (fun j_z _ _ => pk_un (by omega)), key 0 (by decide) h_z.2.2.2.1, key 1 (by decide) h_z.2.2.2.2⟩
  · exact h_z
theorem Ften_fi {g_z : Zsn} {f_z : Nat → Int32} {n_z : Nat} {sh : Int32} (h_z : Zfi f_z) (hn_z : f_z 7 = nI n_z) (hn2 : n_z ≤ 15) : Zfi (Ften g_z f_z n_z sh).2 := by
  unfold Ften
  split
  · exact (Zte_fi hn2 24 0 f_z h_z hn_z).1
  · exact h_z
theorem Fsheet_iv {g_z : Zsn} {sh b_z n_z : Int32} (h_z : Zsiv g_z) : Zsiv (Fsheet g_z sh b_z n_z).2 := by
  unfold Fsheet
  split
  · rename_i hq_z
    obtain ⟨t, ht_z, rfl⟩ := Zbt_ex (by decide) hq_z.1
    split
    · exact h_z
    · rename_i h1_z
      split
      · exact h_z
      · rename_i h2_z
        rw [Zcl_n (show t < 2 ^ 31 by omega)]
        refine Zsiv_t h_z (by omega) hq_z.2 ?_
        split
        · exact ⟨0, by decide, rfl⟩
        · rename_i h0_z
          have a1_z : ¬ n_z < nI 0 := fun q_z => h1_z ⟨h0_z, q_z⟩
          have a2_z : ¬ nI 24 < n_z := fun q_z => h2_z ⟨h0_z, q_z⟩
          rw [Zlt_i, Zn_i (by decide)] at a1_z a2_z
          obtain ⟨j_z, j1_z, j2, j3⟩ := Zof (x_z := n_z) (by omega)
          exact ⟨j_z, by omega, j2⟩
  · exact h_z
theorem Fput_iv {g_z : Zsn} {sh i_z v_z : Int32} (h_z : Zsiv g_z) : Zsiv (Fput g_z sh i_z v_z).2 := by
  unfold Fput
  split
  · split
    · exact h_z
    · split
      · exact Zsiv_n h_z _
      · exact h_z
  · exact h_z
theorem Fmove_iv {g_z : Zsn} {sh i_z oh j_z n_z : Int32} (h_z : Zsiv g_z) : Zsiv (Fmove g_z sh i_z oh j_z n_z).2 := by
  unfold Fmove
  split
  · split
    · exact h_z
    · split
      · exact h_z
      · split
        · exact Zsiv_n h_z _
        · exact h_z
  · exact h_z
-- what holds between two calls of a_z script
def Zg1 (M : Zmem) : Prop := Zrv 1 (M 54) M ∧ Zfi (M 54)
def Zg2 (M : Zmem) : Prop := M 0 8 = M 53 2 ∧ (¬ M 0 8 = 0 → Zrv 17 (M 55) M ∧ Zfi (M 55))
def Zg3 (M : Zmem) : Prop := Zks (Zgs M) M ∧ Zsiv (Zgs M)
def Zg4 (M : Zmem) : Prop := (∃ a_z, a_z ≤ 30 ∧ M 40 1 = nI a_z) ∧ ∃ a_z, a_z ≤ 30 ∧ M 53 19 = nI a_z
def Zgl (M : Zmem) : Prop := Zg1 M ∧ Zg2 M ∧ Zg3 M ∧ Zg4 M
theorem Zg1.kp {M M2 : Zmem} (h_z : Zg1 M) (hs_z : ∀ o_z k_z, scr o_z k_z = false → (1 ≤ o_z ∧ o_z ≤ 16) ∨ o_z = 54 → M2 o_z k_z = M o_z k_z) : Zg1 M2 := by
  have e_z : M2 54 = M 54 := funext fun j_z => hs_z 54 j_z rfl (Or.inr rfl)
  unfold Zg1
  rw [e_z]
  exact ⟨Zrv_kp h_z.1 (Or.inl rfl) (fun o_z k_z q_z a_z b_z => hs_z o_z k_z q_z (Or.inl ⟨a_z, b_z⟩)), h_z.2⟩
theorem Zg2.kp {M M2 : Zmem} (h_z : Zg2 M) (hs_z : ∀ o_z k_z, scr o_z k_z = false → (17 ≤ o_z ∧ o_z ≤ 32) ∨ o_z = 55 ∨ (o_z = 0 ∧ k_z = 8) ∨ (o_z = 53 ∧ k_z = 2) → M2 o_z k_z = M o_z k_z) : Zg2 M2 := by
  have e_z : M2 55 = M 55 := funext fun j_z => hs_z 55 j_z rfl (by omega)
  have e8 : M2 0 8 = M 0 8 := hs_z 0 8 rfl (by omega)
  have e2_z : M2 53 2 = M 53 2 := hs_z 53 2 rfl (by omega)
  unfold Zg2
  rw [e_z, e8, e2_z]
  exact ⟨h_z.1, fun q_z => ⟨Zrv_kp (h_z.2 q_z).1 (Or.inr rfl) (fun o_z k_z q_z a_z b_z => hs_z o_z k_z q_z (by omega)), (h_z.2 q_z).2⟩⟩
theorem Zg3.kp {M M2 : Zmem} (h_z : Zg3 M) (hs_z : ∀ o_z k_z, scr o_z k_z = false → (45 ≤ o_z ∧ o_z ≤ 52) ∨ (66 ≤ o_z ∧ o_z ≤ 68) → M2 o_z k_z = M o_z k_z) : Zg3 M2 := by
  have e_z : Zgs M2 = Zgs M := by
    unfold Zgs
    rw [show M2 66 = M 66 from funext fun j_z => hs_z 66 j_z rfl (by omega), show M2 67 = M 67 from funext fun j_z => hs_z 67 j_z rfl (by omega), show M2 68 = M 68 from funext fun j_z => hs_z 68 j_z rfl (by omega)]
  unfold Zg3
  rw [e_z]
  exact ⟨Zks_kp h_z.1 (fun o_z k_z a_z b_z => hs_z o_z k_z (Zscr45 a_z b_z) (by omega)), h_z.2⟩
theorem Zg4.kp {M M2 : Zmem} (h_z : Zg4 M) (hs_z : ∀ o_z k_z, scr o_z k_z = false → (o_z = 40 ∧ k_z = 1) ∨ (o_z = 53 ∧ k_z = 19) → M2 o_z k_z = M o_z k_z) : Zg4 M2 := by
  unfold Zg4
  rw [hs_z 40 1 rfl (by omega), hs_z 53 19 rfl (by omega)]
  exact h_z
/-- the class's call, then the reference's: what the reference's finds -/
theorem Zgl_A {M M1 M2 : Zmem} {v_z : Zan_} {r_z r2_z : Option Value} (h_z : Zgl M) (hk_z : Zkok v_z M r_z M1) (hs_z : Zsok v_z M1 r2_z M2) (hf_z : Zfi v_z.2) : Zgl M2 := by
  obtain ⟨h1_z, h2_z, h3_z, h4_z⟩ := h_z
  obtain ⟨-, k1_z, k2_z⟩ := hk_z
  obtain ⟨-, s1_z, s2_z⟩ := hs_z
  have hh : ∀ o_z k_z, scr o_z k_z = false → ¬ (1 ≤ o_z ∧ o_z ≤ 16) → o_z ≠ 54 → M2 o_z k_z = M o_z k_z := fun o_z k_z q_z a_z b_z => (s2_z o_z k_z q_z b_z).trans (k2_z o_z k_z q_z a_z)
  refine ⟨?_, h2_z.kp (fun o_z k_z q_z a_z => hh o_z k_z q_z (by omega) (by omega)), h3_z.kp (fun o_z k_z q_z a_z => hh o_z k_z q_z (by omega) (by omega)), h4_z.kp (fun o_z k_z q_z a_z => hh o_z k_z q_z (by omega) (by omega))⟩
  unfold Zg1
  rw [s1_z]
  exact ⟨Zrv_kp k1_z (Or.inl rfl) (fun o_z k_z q_z a_z b_z => s2_z o_z k_z q_z (by omega)), hf_z⟩
theorem Zgl_B {M M1 M2 : Zmem} (h_z : Zgl M) (hk_z : Sc M M1) (hs_z : Sc M1 M2) : Zgl M2 := by
  obtain ⟨h1_z, h2_z, h3_z, h4_z⟩ := h_z
  have hh : ∀ o_z k_z, scr o_z k_z = false → M2 o_z k_z = M o_z k_z := hk_z.tr hs_z
  exact ⟨h1_z.kp (fun o_z k_z q_z _ => hh o_z k_z q_z), h2_z.kp (fun o_z k_z q_z _ => hh o_z k_z q_z), h3_z.kp (fun o_z k_z q_z _ => hh o_z k_z q_z), h4_z.kp (fun o_z k_z q_z _ => hh o_z k_z q_z)⟩
theorem Zgl_C {M M1 M2 : Zmem} {v_z : Zas_} {r_z r2_z : Option Value} (h_z : Zgl M) (hk_z : Zkk v_z M r_z M1) (hs_z : Zsk_ v_z M1 r2_z M2) (hf_z : Zsiv v_z.2) : Zgl M2 := by
  obtain ⟨h1_z, h2_z, h3_z, h4_z⟩ := h_z
  obtain ⟨-, k1_z, k2_z⟩ := hk_z
  obtain ⟨-, s1_z, s2_z⟩ := hs_z
  have hh : ∀ o_z k_z, scr o_z k_z = false → ¬ (45 ≤ o_z ∧ o_z ≤ 52) → ¬ (66 ≤ o_z ∧ o_z ≤ 68) → M2 o_z k_z = M o_z k_z := fun o_z k_z q_z a_z b_z => (s2_z o_z k_z q_z b_z).trans (k2_z o_z k_z q_z a_z)
  refine ⟨h1_z.kp (fun o_z k_z q_z a_z => hh o_z k_z q_z (by omega) (by omega)), h2_z.kp (fun o_z k_z q_z a_z => hh o_z k_z q_z (by omega) (by omega)), ?_, h4_z.kp (fun o_z k_z q_z a_z => hh o_z k_z q_z (by omega) (by omega))⟩
  unfold Zg3
  rw [s1_z]
  exact ⟨Zks_kp k1_z (fun o_z k_z a_z b_z => s2_z o_z k_z (Zscr45 a_z b_z) (by omega)), hf_z⟩
theorem Zhg.gs {M M1 : Zmem} (hs_z : Zhg M M1) : Zgs M1 = Zgs M := by
  unfold Zgs
  rw [show M1 66 = M 66 from funext fun j_z => hs_z 66 j_z rfl (by decide), show M1 67 = M 67 from funext fun j_z => hs_z 67 j_z rfl (by decide), show M1 68 = M 68 from funext fun j_z => hs_z 68 j_z rfl (by decide)]
theorem Zhk.gs {M M1 : Zmem} (hs_z : Zhk M M1) : Zgs M1 = Zgs M := by
  unfold Zgs
  rw [show M1 66 = M 66 from funext fun j_z => hs_z 66 j_z rfl (by decide), show M1 67 = M 67 from funext fun j_z => hs_z 67 j_z rfl (by decide), show M1 68 = M 68 from funext fun j_z => hs_z 68 j_z rfl (by decide)]
theorem Zhv.f54 {M M1 : Zmem} (hs_z : Zhv M M1) : M1 54 = M 54 := funext fun j_z => hs_z 54 j_z rfl (by omega)
theorem Zgl_D {M M1 M2 : Zmem} (h_z : Zgl M) (hk_z : Zhv M M1) (hk2 : ∃ b_z, b_z ≤ 30 ∧ M1 40 1 = nI b_z) (hs_z : Zhw M1 M2) (hs2 : ∃ b_z, b_z ≤ 30 ∧ M2 53 19 = nI b_z) : Zgl M2 := by
  obtain ⟨h1_z, h2_z, h3_z, h4_z⟩ := h_z
  have hh : ∀ o_z k_z, scr o_z k_z = false → ¬ (o_z = 40 ∧ k_z = 1) → ¬ (o_z = 53 ∧ k_z = 19) → M2 o_z k_z = M o_z k_z := fun o_z k_z q_z a_z b_z => (hs_z o_z k_z q_z b_z).trans (hk_z o_z k_z q_z a_z)
  refine ⟨h1_z.kp (fun o_z k_z q_z a_z => hh o_z k_z q_z (by omega) (by omega)), h2_z.kp (fun o_z k_z q_z a_z => hh o_z k_z q_z (by omega) (by omega)), h3_z.kp (fun o_z k_z q_z a_z => hh o_z k_z q_z (by omega) (by omega)), ?_, hs2⟩
  rw [hs_z 40 1 rfl (by decide)]
  exact hk2
theorem Zgl_I {M M1 M2 : Zmem} (h_z : Zgl M) (k1_z : Zrv 17 (M 54) M1) (k2_z : M1 0 8 = M 0 8 + nI 1) (k3 : ∀ o_z k_z, ¬ (17 ≤ o_z ∧ o_z ≤ 32) → ¬ (o_z = 0 ∧ k_z = 8) → M1 o_z k_z = M o_z k_z)
    (s1_z : ∀ j_z, j_z < 418 → M2 55 j_z = M1 54 j_z) (s2_z : M2 53 2 = M1 53 2 + nI 1) (s3 : ∀ o_z k_z, o_z ≠ 55 → ¬ (o_z = 53 ∧ k_z = 2) → M2 o_z k_z = M1 o_z k_z) : Zgl M2 := by
  obtain ⟨h1_z, h2_z, h3_z, h4_z⟩ := h_z
  have hh : ∀ o_z k_z, ¬ (17 ≤ o_z ∧ o_z ≤ 32) → ¬ (o_z = 0 ∧ k_z = 8) → o_z ≠ 55 → ¬ (o_z = 53 ∧ k_z = 2) → M2 o_z k_z = M o_z k_z := fun o_z k_z a_z b_z c_z d_z => (s3 o_z k_z c_z d_z).trans (k3 o_z k_z a_z b_z)
  refine ⟨h1_z.kp (fun o_z k_z q_z a_z => hh o_z k_z (by omega) (by omega) (by omega) (by omega)), ⟨?_, fun _ => ?_⟩, h3_z.kp (fun o_z k_z q_z a_z => hh o_z k_z (by omega) (by omega) (by omega) (by omega)), h4_z.kp (fun o_z k_z q_z a_z => hh o_z k_z (by omega) (by omega) (by omega) (by omega))⟩
  · rw [s3 0 8 (by decide) (by decide), k2_z, s2_z, k3 53 2 (by decide) (by decide), h2_z.1]
  · have e_z : ∀ j_z, j_z < 418 → M2 55 j_z = M 54 j_z := fun j_z hj_z => (s1_z j_z hj_z).trans (k3 54 j_z (by decide) (by omega))
    exact ⟨Zrv_ext (Zrv_kp k1_z (Or.inr rfl) (fun o_z k_z _ a_z b_z => s3 o_z k_z (by omega) (by omega))) e_z, Zfi_ext h1_z.2 e_z⟩
theorem Zgl_R {M M1 M2 : Zmem} {r_z r2_z : Option Value} (h_z : Zgl M)
    (hk_z : (M 0 8 = 0 ∧ r_z = some (.int (Er 2)) ∧ Sc M M1) ∨ (¬ M 0 8 = 0 ∧ r_z = some (.int (M 55 2)) ∧ Zrv 1 (M 55) M1 ∧ ∀ o_z k_z, ¬ (1 ≤ o_z ∧ o_z ≤ 16) → M1 o_z k_z = M o_z k_z))
    (hs_z : (M1 53 2 = 0 ∧ r2_z = some (.int (Er 2)) ∧ Sc M1 M2) ∨ (¬ M1 53 2 = 0 ∧ r2_z = some (.int (M1 55 2)) ∧ (∀ j_z, j_z < 418 → M2 54 j_z = M1 55 j_z) ∧ ∀ o_z, o_z ≠ 54 → M2 o_z = M1 o_z)) : Zgl M2 ∧ r2_z = r_z := by
  have hg_z := h_z
  obtain ⟨h1_z, h2_z, h3_z, h4_z⟩ := h_z
  rcases hk_z with ⟨k0, k1_z, k2_z⟩ | ⟨k0, k1_z, k2_z, k3⟩
  · have e_z : M1 53 2 = 0 := by rw [k2_z 53 2 rfl, ← h2_z.1]; exact k0
    rcases hs_z with ⟨s0, s1_z, s2_z⟩ | ⟨s0, -⟩
    · exact ⟨Zgl_B hg_z k2_z s2_z, by rw [k1_z, s1_z]⟩
    · exact absurd e_z s0
  · have e_z : ¬ M1 53 2 = 0 := by rw [k3 53 2 (by decide), ← h2_z.1]; exact k0
    rcases hs_z with ⟨s0, -⟩ | ⟨s0, s1_z, s2_z, s3⟩
    · exact absurd s0 e_z
    · have e5 : M1 55 = M 55 := funext fun j_z => k3 55 j_z (by decide)
      rw [e5] at s1_z s2_z
      have hh : ∀ o_z k_z, ¬ (1 ≤ o_z ∧ o_z ≤ 16) → o_z ≠ 54 → M2 o_z k_z = M o_z k_z := fun o_z k_z a_z b_z => (congrFun (s3 o_z b_z) k_z).trans (k3 o_z k_z a_z)
      refine ⟨⟨⟨?_, Zfi_ext (h2_z.2 k0).2 s2_z⟩, h2_z.kp (fun o_z k_z q_z a_z => hh o_z k_z (by omega) (by omega)), h3_z.kp (fun o_z k_z q_z a_z => hh o_z k_z (by omega) (by omega)), h4_z.kp (fun o_z k_z q_z a_z => hh o_z k_z (by omega) (by omega))⟩, by rw [k1_z, s1_z]⟩
      exact Zrv_ext (Zrv_kp k2_z (Or.inl rfl) (fun o_z k_z _ a_z b_z => congrFun (s3 o_z (by omega)) k_z)) s2_z
