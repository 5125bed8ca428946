
/-- the sheet t tells what comes at the WATER m_z -/
def ZFit (f_z : Nat → Int32) (n_z : Nat) (N : Nat → Int32) (t s_z m_z : Nat) : Prop := s_z ≤ n_z + 1 ∧ ∀ j_z, j_z < s_z → N (24 * t + j_z) = Zcm f_z (nI m_z) (nI 0) j_z
def ZFa (f_z : Nat → Int32) (n_z : Nat) (N : Nat → Int32) (t s_z : Nat) : Prop := ∃ m_z, m_z ≤ 999 ∧ ZFit f_z n_z N t s_z m_z
theorem ZFit_0 {f_z : Nat → Int32} {n_z : Nat} {N : Nat → Int32} {t s_z m_z : Nat} (h_z : ZFit f_z n_z N t s_z m_z) (hs_z : 0 < s_z) : N (24 * t) = nI m_z := h_z.2 0 hs_z
noncomputable def Ffit0 (f_z : Nat → Int32) (n_z : Nat) (N : Nat → Int32) (t s_z : Nat) (what : Int32) : Int32 := haveI : Decidable (ZFa f_z n_z N t s_z) := Classical.propDecidable _; if s_z = 0 then (if what = 0 then nI 1000 else nI 0) else if ZFa f_z n_z N t s_z then (if what = 0 then nI 1 else N (24 * t)) else (if what = 0 then nI 0 else Er 2)
noncomputable def Ffits (g_z : Zsn) (f_z : Nat → Int32) (n_z : Nat) (sh what : Int32) : Int32 := if nI 0 ≤ what ∧ what ≤ nI 1 then (if Fwhy g_z sh = 0 then Ffit0 f_z n_z g_z.2.2 sh.toNatClampNeg (g_z.2.1 sh.toNatClampNeg).toNatClampNeg what else Er (Fwhy g_z sh)) else Er 1
theorem Ffits_1 {g_z : Zsn} {f_z : Nat → Int32} {n_z : Nat} {sh what : Int32} (h_z : ¬ (nI 0 ≤ what ∧ what ≤ nI 1)) : Ffits g_z f_z n_z sh what = Er 1 := by
  unfold Ffits
  rw [if_neg h_z]
theorem Ffits_w {g_z : Zsn} {f_z : Nat → Int32} {n_z k_z : Nat} {sh what : Int32} (h_z : nI 0 ≤ what ∧ what ≤ nI 1) (hw_z : Fwhy g_z sh = k_z) (hk_z : k_z ≠ 0) : Ffits g_z f_z n_z sh what = Er k_z := by
  unfold Ffits
  rw [if_pos h_z, if_neg (by rw [hw_z]; exact hk_z), hw_z]
theorem Ffits_t {g_z : Zsn} {f_z : Nat → Int32} {n_z t s_z : Nat} {what : Int32} (h_z : nI 0 ≤ what ∧ what ≤ nI 1) (ht_z : t < 4) (hb_z : ¬ g_z.1 t = nI 0) (hs_z : g_z.2.1 t = nI s_z) (hs24 : s_z ≤ 24) : Ffits g_z f_z n_z (nI t) what = Ffit0 f_z n_z g_z.2.2 t s_z what := by
  have e_z : (nI t).toNatClampNeg = t := Zcl_n (by omega)
  unfold Ffits
  rw [if_pos h_z, if_pos, e_z, hs_z, Zcl_n (by omega)]
  unfold Fwhy
  rw [if_pos (Zbt_of (b_z := 3) (by decide) (by omega)), e_z, if_neg hb_z]
theorem Ffit0_0 {f_z : Nat → Int32} {n_z : Nat} {N : Nat → Int32} {t s_z : Nat} {what : Int32} (h_z : s_z = 0) : Ffit0 f_z n_z N t s_z what = if what = 0 then nI 1000 else nI 0 := by
  unfold Ffit0
  rw [if_pos h_z]
theorem Ffit0_y {f_z : Nat → Int32} {n_z : Nat} {N : Nat → Int32} {t s_z : Nat} {what : Int32} (h_z : ¬ s_z = 0) (h2_z : ZFa f_z n_z N t s_z) : Ffit0 f_z n_z N t s_z what = if what = 0 then nI 1 else N (24 * t) := by
  unfold Ffit0
  rw [if_neg h_z, if_pos h2_z]
theorem Ffit0_n {f_z : Nat → Int32} {n_z : Nat} {N : Nat → Int32} {t s_z : Nat} {what : Int32} (h_z : ¬ s_z = 0) (h2_z : ¬ ZFa f_z n_z N t s_z) : Ffit0 f_z n_z N t s_z what = if what = 0 then nI 0 else Er 2 := by
  unfold Ffit0
  rw [if_neg h_z, if_neg h2_z]
theorem Fwhy_2 {g_z : Zsn} {t : Nat} (ht_z : t < 4) (hb_z : g_z.1 t = nI 0) : Fwhy g_z (nI t) = 2 := by
  unfold Fwhy
  rw [if_pos (Zbt_of (b_z := 3) (by decide) (by omega)), Zcl_n (by omega), if_pos hb_z]
theorem Fwhy_1 {g_z : Zsn} {sh : Int32} (h_z : ¬ (nI 0 ≤ sh ∧ sh ≤ nI 3)) : Fwhy g_z sh = 1 := by
  unfold Fwhy
  rw [if_neg h_z]
/-- behind the WATERs m_z .. 999: how many fit, and the least -/
def ZFv (f_z : Nat → Int32) (n_z : Nat) (N : Nat → Int32) (t s_z m_z : Nat) (mn le : Int32) : Prop :=
  (s_z = 0 ∧ mn = nI (1000 - m_z) ∧ ((m_z = 1000 ∧ le = -(nI 1)) ∨ (m_z < 1000 ∧ le = nI m_z))) ∨ (¬ s_z = 0 ∧ (((∃ m0, m_z ≤ m0 ∧ m0 ≤ 999 ∧ ZFit f_z n_z N t s_z m0) ∧ mn = nI 1 ∧ le = N (24 * t)) ∨ ((¬ ∃ m0, m_z ≤ m0 ∧ m0 ≤ 999 ∧ ZFit f_z n_z N t s_z m0) ∧ mn = nI 0 ∧ le = -(nI 1))))
theorem ZFv.y {f_z : Nat → Int32} {n_z : Nat} {N : Nat → Int32} {t s_z m_z : Nat} {mn le : Int32} (h_z : ZFv f_z n_z N t s_z (m_z + 1) mn le) (hm_z : m_z + 1 ≤ 1000) (hf_z : ZFit f_z n_z N t s_z m_z) : ZFv f_z n_z N t s_z m_z (mn + nI 1) (nI m_z) := by
  rcases h_z with ⟨h0_z, h1_z, h2_z⟩ | ⟨h0_z, ⟨⟨m0, g1, g2, g3⟩, h1_z, h2_z⟩ | ⟨h3_z, h1_z, h2_z⟩⟩
  · exact Or.inl ⟨h0_z, by rw [h1_z, nI_add, show 1000 - (m_z + 1) + 1 = 1000 - m_z by omega], Or.inr ⟨by omega, rfl⟩⟩
  · have e1_z := ZFit_0 g3 (Nat.pos_of_ne_zero h0_z)
    have e2_z := ZFit_0 hf_z (Nat.pos_of_ne_zero h0_z)
    have := Zeq (by omega) (by omega) (e1_z.symm.trans e2_z)
    omega
  · exact Or.inr ⟨h0_z, Or.inl ⟨⟨m_z, Nat.le_refl _, by omega, hf_z⟩, by rw [h1_z, nI_add], (ZFit_0 hf_z (Nat.pos_of_ne_zero h0_z)).symm⟩⟩
theorem ZFv.n {f_z : Nat → Int32} {n_z : Nat} {N : Nat → Int32} {t s_z m_z : Nat} {mn le : Int32} (h_z : ZFv f_z n_z N t s_z (m_z + 1) mn le) (hf_z : ¬ ZFit f_z n_z N t s_z m_z) : ZFv f_z n_z N t s_z m_z (mn + nI 0) le := by
  have e0_z : mn + nI 0 = mn := Int32.add_zero mn
  rw [e0_z]
  rcases h_z with ⟨h0_z, h1_z, h2_z⟩ | ⟨h0_z, ⟨⟨m0, g1, g2, g3⟩, h1_z, h2_z⟩ | ⟨h3_z, h1_z, h2_z⟩⟩
  · exact absurd ⟨by omega, fun j_z hj_z => by omega⟩ hf_z
  · exact Or.inr ⟨h0_z, Or.inl ⟨⟨m0, by omega, g2, g3⟩, h1_z, h2_z⟩⟩
  · refine Or.inr ⟨h0_z, Or.inr ⟨?_, h1_z, h2_z⟩⟩
    rintro ⟨m0, g1, g2, g3⟩
    by_cases e_z : m0 = m_z
    · subst e_z; exact hf_z g3
    · exact h3_z ⟨m0, by omega, g2, g3⟩
theorem ZFv.end {f_z : Nat → Int32} {n_z : Nat} {N : Nat → Int32} {t s_z : Nat} {mn le what : Int32} (h_z : ZFv f_z n_z N t s_z 0 mn le) : (what = 0 → Ffit0 f_z n_z N t s_z what = mn) ∧ (¬ what = 0 → (le = -(nI 1) → Ffit0 f_z n_z N t s_z what = Er 2) ∧ (¬ le = -(nI 1) → Ffit0 f_z n_z N t s_z what = le)) := by
  have n1_z : ∀ m_z, m_z ≤ 999 → ¬ nI m_z = -(nI 1) := fun m_z hm_z q_z => by
    have := congrArg Int32.toInt q_z
    rw [Zn_i (by omega), show (-(nI 1)).toInt = -1 from by decide] at this
    omega
  rcases h_z with ⟨h0_z, h1_z, h2_z⟩ | ⟨h0_z, ⟨⟨m0, g1, g2, g3⟩, h1_z, h2_z⟩ | ⟨h3_z, h1_z, h2_z⟩⟩
  · have h4_z : le = nI 0 := h2_z.elim (fun q_z => absurd q_z.1 (by decide)) (fun q_z => q_z.2)
    refine ⟨fun q_z => by rw [Ffit0_0 h0_z, if_pos q_z, h1_z], fun q_z => ⟨fun q2_z => absurd (h4_z.symm.trans q2_z) (n1_z 0 (by decide)), fun _ => by rw [Ffit0_0 h0_z, if_neg q_z, h4_z]⟩⟩
  · have hy : ZFa f_z n_z N t s_z := ⟨m0, g2, g3⟩
    have e1_z := ZFit_0 g3 (Nat.pos_of_ne_zero h0_z)
    exact ⟨fun q_z => by rw [Ffit0_y h0_z hy, if_pos q_z, h1_z], fun q_z => ⟨fun q2_z => absurd (e1_z.symm.trans (h2_z.symm.trans q2_z)) (n1_z m0 g2), fun _ => by rw [Ffit0_y h0_z hy, if_neg q_z, h2_z]⟩⟩
  · have hy : ¬ ZFa f_z n_z N t s_z := fun ⟨m0, a_z, b_z⟩ => h3_z ⟨m0, Nat.zero_le _, a_z, b_z⟩
    exact ⟨fun q_z => by rw [Ffit0_n h0_z hy, if_pos q_z, h1_z], fun q_z => ⟨fun _ => by rw [Ffit0_n h0_z hy, if_neg q_z], fun q2_z => absurd h2_z q2_z⟩⟩

set_option maxRecDepth 20000 in
set_option maxHeartbeats 4000000 in
theorem k_fits2 (g_z : Zsn) (f_z : Nat → Int32) (n_z : Nat) (sh what : Int32) (M : Zmem) (hg_z : Zks g_z M) (hi_z : Zsiv g_z) (hz_z : Zrv 1 f_z M) (hfi : Zfi f_z) (hn_z : f_z 7 = nI n_z) (hn2 : n_z ≤ 15) : ZC 23 6 [.ref 0, .int sh, .int what] M (fun r_z M' => r_z = some (.int (Ffits g_z f_z n_z sh what)) ∧ Sc M M') := by
  refine ZC_of Zt23 Zk23 (Nat.le_of_ble_eq_true rfl) (by decide) rfl (fun X hX hE => ?_)
  have BAD : Ffits g_z f_z n_z sh what = Er 1 → ZP X Zt23 (Zsf Zt23 16) (lv_args 0 [.ref 0, .int sh, .int what]) [] M := by
    intro hbad
    refine Zgo hX 2 rfl (by (first | exact True.intro | assumption | (dsimp only [ZallP]; and_intros <;> (first | assumption | decide | omega | ((try simp (disch := omega) only [pk_mul, nI_add, Zcl_n]); exact Zin_n (by omega) (by decide)))))) ?_
    refine Zs_callv hX (List.cons_ne_nil _ _) (k_refuse 1 _ (by decide)) (by first | decide | omega) (by decide) rfl rfl rfl (by decide) (Nat.le_of_ble_eq_true rfl) (fun r_z M' hc_z => ?_)
    obtain ⟨rfl, hsc⟩ := hc_z
    refine Zs_ret hX hE rfl ⟨by rw [hbad], hsc⟩
  refine Zgo hX 1 rfl (by (first | exact True.intro | assumption | (dsimp only [ZallP]; and_intros <;> (first | assumption | decide | omega | ((try simp (disch := omega) only [pk_mul, nI_add, Zcl_n]); exact Zin_n (by omega) (by decide)))))) ?_
  refine Zs_calls hX (List.cons_ne_nil _ _) (by decide) (k_isSheet _ _) (by first | decide | omega) rfl rfl (by decide) (Nat.le_of_ble_eq_true rfl) (fun r_z M' hc_z => ?_)
  rcases hc_z with ⟨⟨rfl, h1_z⟩ | ⟨rfl, h1_z⟩, rfl⟩
  · refine Zs_eq hX (List.cons_ne_nil _ _) (fun q_z => False.elim (by revert q_z; decide)) (fun _ => ?_)
    refine Zgo hX 3 rfl (by (first | exact True.intro | assumption | (dsimp only [ZallP]; and_intros <;> (first | assumption | decide | omega | ((try simp (disch := omega) only [pk_mul, nI_add, Zcl_n]); exact Zin_n (by omega) (by decide)))))) ?_
    refine Zs_calls hX (List.cons_ne_nil _ _) (by decide) (k_within _ _ _ _) (by first | decide | omega) rfl rfl (by decide) (Nat.le_of_ble_eq_true rfl) (fun r_z M' hc_z => ?_)
    rcases hc_z with ⟨⟨rfl, h2_z⟩ | ⟨rfl, h2_z⟩, rfl⟩
    · refine Zs_ne hX (List.cons_ne_nil _ _) (fun _ => ?_) (fun q_z => False.elim (by revert q_z; decide))
      clear BAD
      obtain ⟨t, ht_z, rfl⟩ := Zbt_ex (b_z := 3) (by decide) h1_z
      obtain ⟨hbt, s_z, hs24, hs_z⟩ := hi_z t (by omega)
      refine Zgo hX 3 rfl (by (first | exact True.intro | assumption | (dsimp only [ZallP]; and_intros <;> (first | assumption | decide | omega | ((try simp (disch := omega) only [pk_mul, nI_add, Zcl_n]); exact Zin_n (by omega) (by decide)))))) ?_
      rcases (show t = 0 ∨ t = 1 ∨ t = 2 ∨ t = 3 by omega) with rfl | rfl | rfl | rfl
      · skip
        have es : M 45 2 = nI s_z := (hg_z 0 (by decide)).2.1.trans hs_z
        have eb : M 45 1 = g_z.1 0 := (hg_z 0 (by decide)).1
        have ei : ∀ i_z, i_z < 24 → M 46 i_z = g_z.2.2 (24 * 0 + i_z) := (hg_z 0 (by decide)).2.2
        refine Zs_aald hX (List.cons_ne_nil _ _) (by decide) rfl (by decide) (j := _) rfl (by decide) (by decide) rfl ?_
        refine Zgo hX 3 rfl (by (first | exact True.intro | assumption | (dsimp only [ZallP]; and_intros <;> (first | assumption | decide | omega | ((try simp (disch := omega) only [pk_mul, nI_add, Zcl_n]); exact Zin_n (by omega) (by decide)))))) ?_
        rw [eb]
        refine Zs_ne hX (List.cons_ne_nil _ _) (fun h3_z => ?_) (fun h3_z => ?_)
        · refine Zgo hX 2 rfl (by (first | exact True.intro | assumption | (dsimp only [ZallP]; and_intros <;> (first | assumption | decide | omega | ((try simp (disch := omega) only [pk_mul, nI_add, Zcl_n]); exact Zin_n (by omega) (by decide)))))) ?_
          rw [es]
          have hv_z := @Ffits_t g_z f_z n_z 0 s_z what h2_z (by decide) h3_z hs_z hs24
          refine Zs_ne hX (List.cons_ne_nil _ _) (fun h4_z => ?_) (fun h4_z => ?_)
          · have hs0 : ¬ s_z = 0 := fun q_z => h4_z (by rw [q_z]; rfl)
            have TAIL : ∀ (w5 w4 : Int32) (M1 : Zmem), Sc M M1 → ((w5 = nI 1 ∧ ZFa f_z n_z g_z.2.2 0 s_z ∧ w4 = g_z.2.2 (24 * 0)) ∨ (w5 = nI 0 ∧ ¬ ZFa f_z n_z g_z.2.2 0 s_z)) → ZP X Zt23 (Zsf Zt23 94) [(5, .int w5), (4, .int w4), (0, .ref 0), (2, .int what)] [] M1 := by
              intro w5 w4 M1 hsc hq_z
              refine Zgo hX 1 rfl (by (first | exact True.intro | assumption | (dsimp only [ZallP]; and_intros <;> (first | assumption | decide | omega | ((try simp (disch := omega) only [pk_mul, nI_add, Zcl_n]); exact Zin_n (by omega) (by decide)))))) ?_
              refine Zs_ne hX (List.cons_ne_nil _ _) (fun h5_z => ?_) (fun h5_z => ?_)
              · refine Zgo hX 1 rfl (by (first | exact True.intro | assumption | (dsimp only [ZallP]; and_intros <;> (first | assumption | decide | omega | ((try simp (disch := omega) only [pk_mul, nI_add, Zcl_n]); exact Zin_n (by omega) (by decide)))))) ?_
                refine Zs_eq hX (List.cons_ne_nil _ _) (fun h6_z => ?_) (fun h6_z => ?_)
                · rcases hq_z with ⟨rfl, hy, hw_z⟩ | ⟨rfl, hy⟩
                  · exact absurd h6_z (by decide)
                  · refine Zgo hX 2 rfl (by (first | exact True.intro | assumption | (dsimp only [ZallP]; and_intros <;> (first | assumption | decide | omega | ((try simp (disch := omega) only [pk_mul, nI_add, Zcl_n]); exact Zin_n (by omega) (by decide)))))) ?_
                    refine Zs_callv hX (List.cons_ne_nil _ _) (k_refuse 2 _ (by decide)) (by first | decide | omega) (by decide) rfl rfl rfl (by decide) (Nat.le_of_ble_eq_true rfl) (fun r_z M' hc_z => ?_)
                    obtain ⟨rfl, hsc2⟩ := hc_z
                    refine Zs_ret hX hE rfl ⟨by rw [hv_z, Ffit0_n hs0 hy, if_neg h5_z], hsc.tr hsc2⟩
                · rcases hq_z with ⟨rfl, hy, hw_z⟩ | ⟨rfl, hy⟩
                  · refine Zgo hX 2 rfl (by (first | exact True.intro | assumption | (dsimp only [ZallP]; and_intros <;> (first | assumption | decide | omega | ((try simp (disch := omega) only [pk_mul, nI_add, Zcl_n]); exact Zin_n (by omega) (by decide)))))) ?_
                    refine Zs_ret hX hE rfl ⟨by rw [hv_z, Ffit0_y hs0 hy, if_neg h5_z, hw_z], hsc⟩
                  · exact absurd rfl h6_z
              · refine Zgo hX 1 rfl (by (first | exact True.intro | assumption | (dsimp only [ZallP]; and_intros <;> (first | assumption | decide | omega | ((try simp (disch := omega) only [pk_mul, nI_add, Zcl_n]); exact Zin_n (by omega) (by decide)))))) ?_
                refine Zs_eq hX (List.cons_ne_nil _ _) (fun h6_z => ?_) (fun h6_z => ?_)
                · rcases hq_z with ⟨rfl, hy, hw_z⟩ | ⟨rfl, hy⟩
                  · exact absurd h6_z (by decide)
                  · refine Zgo hX 1 rfl (by (first | exact True.intro | assumption | (dsimp only [ZallP]; and_intros <;> (first | assumption | decide | omega | ((try simp (disch := omega) only [pk_mul, nI_add, Zcl_n]); exact Zin_n (by omega) (by decide)))))) ?_
                    refine Zs_ret hX hE rfl ⟨by rw [hv_z, Ffit0_n hs0 hy, if_pos h5_z], hsc⟩
                · rcases hq_z with ⟨rfl, hy, hw_z⟩ | ⟨rfl, hy⟩
                  · refine Zgo hX 2 rfl (by (first | exact True.intro | assumption | (dsimp only [ZallP]; and_intros <;> (first | assumption | decide | omega | ((try simp (disch := omega) only [pk_mul, nI_add, Zcl_n]); exact Zin_n (by omega) (by decide)))))) ?_
                    refine Zs_ret hX hE rfl ⟨by rw [hv_z, Ffit0_y hs0 hy, if_pos h5_z], hsc⟩
                  · exact absurd rfl h6_z
            refine Zgo hX 6 rfl (Zin_n (by decide) (by decide)) ?_
            try simp (disch := omega) only [Zcl_n, pk_mul, nI_add]
            refine Zs_calls hX (List.cons_ne_nil _ _) (by decide) (k_isWater _ _) (by first | decide | omega) rfl rfl (by decide) (Nat.le_of_ble_eq_true rfl) (fun r_z M' hc_z => ?_)
            rcases hc_z with ⟨⟨rfl, h7_z⟩ | ⟨rfl, h7_z⟩, rfl⟩
            · refine Zs_eq hX (List.cons_ne_nil _ _) (fun q_z => False.elim (by revert q_z; decide)) (fun _ => ?_)
              refine Zgo hX 3 rfl (by (first | exact True.intro | assumption | (dsimp only [ZallP]; and_intros <;> (first | assumption | decide | omega | ((try simp (disch := omega) only [pk_mul, nI_add, Zcl_n]); exact Zin_n (by omega) (by decide)))))) ?_
              refine Zs_callv hX (List.cons_ne_nil _ _) (k_comes0 f_z n_z _ s_z _ hz_z hfi hn_z hn2 es hs24) (by first | decide | omega) (by decide) rfl rfl rfl (by decide) (Nat.le_of_ble_eq_true rfl) (fun r_z M' hc_z => ?_)
              obtain ⟨hb_z, hsc⟩ := hc_z
              obtain ⟨m_z, hm_z, em⟩ := Zbt_ex (b_z := 999) (by decide) h7_z
              rcases hb_z with ⟨rfl, hb_z⟩ | ⟨rfl, hb_z⟩
              · refine Zs_eq hX (List.cons_ne_nil _ _) (fun q_z => False.elim (by revert q_z; decide)) (fun _ => ?_)
                refine Zgo hX 3 rfl (by (first | exact True.intro | assumption | (dsimp only [ZallP]; and_intros <;> (first | assumption | decide | omega | ((try simp (disch := omega) only [pk_mul, nI_add, Zcl_n]); exact Zin_n (by omega) (by decide)))))) ?_
                refine Zs_sub (l' := [(5, .int (nI 1)), (4, .int (M 46 0)), (0, .ref 0), (2, .int what)]) rfl ?_
                refine TAIL _ _ _ hsc (Or.inl ⟨rfl, ⟨m_z, hm_z, hb_z.1, fun j_z hj_z => ?_⟩, ei 0 (by decide)⟩)
                rw [← em, ← ei j_z (by omega)]
                exact hb_z.2 j_z hj_z
              · refine Zs_eq hX (List.cons_ne_nil _ _) (fun _ => ?_) (fun q_z => False.elim (by revert q_z; decide))
                refine Zgo hX 2 rfl (by (first | exact True.intro | assumption | (dsimp only [ZallP]; and_intros <;> (first | assumption | decide | omega | ((try simp (disch := omega) only [pk_mul, nI_add, Zcl_n]); exact Zin_n (by omega) (by decide)))))) ?_
                refine Zs_sub (l' := [(5, .int (nI 0)), (4, .int (M 46 0)), (0, .ref 0), (2, .int what)]) rfl ?_
                refine TAIL _ _ _ hsc (Or.inr ⟨rfl, ?_⟩)
                rintro ⟨m2_z, g1, g2⟩
                have e2_z := ZFit_0 g2 (Nat.pos_of_ne_zero hs0)
                refine hb_z ⟨g2.1, fun j_z hj_z => ?_⟩
                rw [ei j_z (by omega), g2.2 j_z hj_z, ei 0 (by decide), ← e2_z]
            · refine Zs_eq hX (List.cons_ne_nil _ _) (fun _ => ?_) (fun q_z => False.elim (by revert q_z; decide))
              refine Zgo hX 2 rfl (by (first | exact True.intro | assumption | (dsimp only [ZallP]; and_intros <;> (first | assumption | decide | omega | ((try simp (disch := omega) only [pk_mul, nI_add, Zcl_n]); exact Zin_n (by omega) (by decide)))))) ?_
              refine Zs_sub (l' := [(5, .int (nI 0)), (4, .int (M 46 0)), (0, .ref 0), (2, .int what)]) rfl ?_
              refine TAIL _ _ _ (Sc.rf _) (Or.inr ⟨rfl, ?_⟩)
              rintro ⟨m2_z, g1, g2⟩
              have e2_z := ZFit_0 g2 (Nat.pos_of_ne_zero hs0)
              refine h7_z ?_
              rw [show M 46 0 = nI m2_z from (ei 0 (by decide)).trans e2_z]
              exact Zbt_of (by decide) g1
          · have hs0 : s_z = 0 := Zeq (b_z := 0) (by omega) (by decide) h4_z
            refine Zgo hX 1 rfl (by (first | exact True.intro | assumption | (dsimp only [ZallP]; and_intros <;> (first | assumption | decide | omega | ((try simp (disch := omega) only [pk_mul, nI_add, Zcl_n]); exact Zin_n (by omega) (by decide)))))) ?_
            refine Zs_ne hX (List.cons_ne_nil _ _) (fun h5_z => ?_) (fun h5_z => ?_)
            · refine Zgo hX 1 rfl (by (first | exact True.intro | assumption | (dsimp only [ZallP]; and_intros <;> (first | assumption | decide | omega | ((try simp (disch := omega) only [pk_mul, nI_add, Zcl_n]); exact Zin_n (by omega) (by decide)))))) ?_
              refine Zs_ret hX hE rfl ⟨by rw [hv_z, Ffit0_0 hs0, if_neg h5_z], Sc.rf _⟩
            · refine Zgo hX 2 rfl (by (first | exact True.intro | assumption | (dsimp only [ZallP]; and_intros <;> (first | assumption | decide | omega | ((try simp (disch := omega) only [pk_mul, nI_add, Zcl_n]); exact Zin_n (by omega) (by decide)))))) ?_
              refine Zs_ret hX hE rfl ⟨by rw [hv_z, Ffit0_0 hs0, if_pos h5_z], Sc.rf _⟩
        · skip
          refine Zgo hX 2 rfl (by (first | exact True.intro | assumption | (dsimp only [ZallP]; and_intros <;> (first | assumption | decide | omega | ((try simp (disch := omega) only [pk_mul, nI_add, Zcl_n]); exact Zin_n (by omega) (by decide)))))) ?_
          refine Zs_callv hX (List.cons_ne_nil _ _) (k_refuse 2 _ (by decide)) (by first | decide | omega) (by decide) rfl rfl rfl (by decide) (Nat.le_of_ble_eq_true rfl) (fun r_z M' hc_z => ?_)
          obtain ⟨rfl, hsc⟩ := hc_z
          refine Zs_ret hX hE rfl ⟨by rw [Ffits_w h2_z (Fwhy_2 (t := 0) (by decide) h3_z) (by decide)], hsc⟩
      · skip
        have es : M 47 2 = nI s_z := (hg_z 1 (by decide)).2.1.trans hs_z
        have eb : M 47 1 = g_z.1 1 := (hg_z 1 (by decide)).1
        have ei : ∀ i_z, i_z < 24 → M 48 i_z = g_z.2.2 (24 * 1 + i_z) := (hg_z 1 (by decide)).2.2
        refine Zs_aald hX (List.cons_ne_nil _ _) (by decide) rfl (by decide) (j := _) rfl (by decide) (by decide) rfl ?_
        refine Zgo hX 3 rfl (by (first | exact True.intro | assumption | (dsimp only [ZallP]; and_intros <;> (first | assumption | decide | omega | ((try simp (disch := omega) only [pk_mul, nI_add, Zcl_n]); exact Zin_n (by omega) (by decide)))))) ?_
        rw [eb]
        refine Zs_ne hX (List.cons_ne_nil _ _) (fun h3_z => ?_) (fun h3_z => ?_)
        · refine Zgo hX 2 rfl (by (first | exact True.intro | assumption | (dsimp only [ZallP]; and_intros <;> (first | assumption | decide | omega | ((try simp (disch := omega) only [pk_mul, nI_add, Zcl_n]); exact Zin_n (by omega) (by decide)))))) ?_
          rw [es]
          have hv_z := @Ffits_t g_z f_z n_z 1 s_z what h2_z (by decide) h3_z hs_z hs24
          refine Zs_ne hX (List.cons_ne_nil _ _) (fun h4_z => ?_) (fun h4_z => ?_)
          · have hs0 : ¬ s_z = 0 := fun q_z => h4_z (by rw [q_z]; rfl)
            have TAIL : ∀ (w5 w4 : Int32) (M1 : Zmem), Sc M M1 → ((w5 = nI 1 ∧ ZFa f_z n_z g_z.2.2 1 s_z ∧ w4 = g_z.2.2 (24 * 1)) ∨ (w5 = nI 0 ∧ ¬ ZFa f_z n_z g_z.2.2 1 s_z)) → ZP X Zt23 (Zsf Zt23 94) [(5, .int w5), (4, .int w4), (0, .ref 0), (2, .int what)] [] M1 := by
              intro w5 w4 M1 hsc hq_z
              refine Zgo hX 1 rfl (by (first | exact True.intro | assumption | (dsimp only [ZallP]; and_intros <;> (first | assumption | decide | omega | ((try simp (disch := omega) only [pk_mul, nI_add, Zcl_n]); exact Zin_n (by omega) (by decide)))))) ?_
              refine Zs_ne hX (List.cons_ne_nil _ _) (fun h5_z => ?_) (fun h5_z => ?_)
              · refine Zgo hX 1 rfl (by (first | exact True.intro | assumption | (dsimp only [ZallP]; and_intros <;> (first | assumption | decide | omega | ((try simp (disch := omega) only [pk_mul, nI_add, Zcl_n]); exact Zin_n (by omega) (by decide)))))) ?_
                refine Zs_eq hX (List.cons_ne_nil _ _) (fun h6_z => ?_) (fun h6_z => ?_)
                · rcases hq_z with ⟨rfl, hy, hw_z⟩ | ⟨rfl, hy⟩
                  · exact absurd h6_z (by decide)
                  · refine Zgo hX 2 rfl (by (first | exact True.intro | assumption | (dsimp only [ZallP]; and_intros <;> (first | assumption | decide | omega | ((try simp (disch := omega) only [pk_mul, nI_add, Zcl_n]); exact Zin_n (by omega) (by decide)))))) ?_
                    refine Zs_callv hX (List.cons_ne_nil _ _) (k_refuse 2 _ (by decide)) (by first | decide | omega) (by decide) rfl rfl rfl (by decide) (Nat.le_of_ble_eq_true rfl) (fun r_z M' hc_z => ?_)
                    obtain ⟨rfl, hsc2⟩ := hc_z
                    refine Zs_ret hX hE rfl ⟨by rw [hv_z, Ffit0_n hs0 hy, if_neg h5_z], hsc.tr hsc2⟩
                · rcases hq_z with ⟨rfl, hy, hw_z⟩ | ⟨rfl, hy⟩
                  · refine Zgo hX 2 rfl (by (first | exact True.intro | assumption | (dsimp only [ZallP]; and_intros <;> (first | assumption | decide | omega | ((try simp (disch := omega) only [pk_mul, nI_add, Zcl_n]); exact Zin_n (by omega) (by decide)))))) ?_
                    refine Zs_ret hX hE rfl ⟨by rw [hv_z, Ffit0_y hs0 hy, if_neg h5_z, hw_z], hsc⟩
                  · exact absurd rfl h6_z
              · refine Zgo hX 1 rfl (by (first | exact True.intro | assumption | (dsimp only [ZallP]; and_intros <;> (first | assumption | decide | omega | ((try simp (disch := omega) only [pk_mul, nI_add, Zcl_n]); exact Zin_n (by omega) (by decide)))))) ?_
                refine Zs_eq hX (List.cons_ne_nil _ _) (fun h6_z => ?_) (fun h6_z => ?_)
                · rcases hq_z with ⟨rfl, hy, hw_z⟩ | ⟨rfl, hy⟩
                  · exact absurd h6_z (by decide)
                  · refine Zgo hX 1 rfl (by (first | exact True.intro | assumption | (dsimp only [ZallP]; and_intros <;> (first | assumption | decide | omega | ((try simp (disch := omega) only [pk_mul, nI_add, Zcl_n]); exact Zin_n (by omega) (by decide)))))) ?_
                    refine Zs_ret hX hE rfl ⟨by rw [hv_z, Ffit0_n hs0 hy, if_pos h5_z], hsc⟩
                · rcases hq_z with ⟨rfl, hy, hw_z⟩ | ⟨rfl, hy⟩
                  · refine Zgo hX 2 rfl (by (first | exact True.intro | assumption | (dsimp only [ZallP]; and_intros <;> (first | assumption | decide | omega | ((try simp (disch := omega) only [pk_mul, nI_add, Zcl_n]); exact Zin_n (by omega) (by decide)))))) ?_
                    refine Zs_ret hX hE rfl ⟨by rw [hv_z, Ffit0_y hs0 hy, if_pos h5_z], hsc⟩
                  · exact absurd rfl h6_z
            refine Zgo hX 6 rfl (Zin_n (by decide) (by decide)) ?_
            try simp (disch := omega) only [Zcl_n, pk_mul, nI_add]
            refine Zs_calls hX (List.cons_ne_nil _ _) (by decide) (k_isWater _ _) (by first | decide | omega) rfl rfl (by decide) (Nat.le_of_ble_eq_true rfl) (fun r_z M' hc_z => ?_)
            rcases hc_z with ⟨⟨rfl, h7_z⟩ | ⟨rfl, h7_z⟩, rfl⟩
            · refine Zs_eq hX (List.cons_ne_nil _ _) (fun q_z => False.elim (by revert q_z; decide)) (fun _ => ?_)
              refine Zgo hX 3 rfl (by (first | exact True.intro | assumption | (dsimp only [ZallP]; and_intros <;> (first | assumption | decide | omega | ((try simp (disch := omega) only [pk_mul, nI_add, Zcl_n]); exact Zin_n (by omega) (by decide)))))) ?_
              refine Zs_callv hX (List.cons_ne_nil _ _) (k_comes1 f_z n_z _ s_z _ hz_z hfi hn_z hn2 es hs24) (by first | decide | omega) (by decide) rfl rfl rfl (by decide) (Nat.le_of_ble_eq_true rfl) (fun r_z M' hc_z => ?_)
              obtain ⟨hb_z, hsc⟩ := hc_z
              obtain ⟨m_z, hm_z, em⟩ := Zbt_ex (b_z := 999) (by decide) h7_z
              rcases hb_z with ⟨rfl, hb_z⟩ | ⟨rfl, hb_z⟩
              · refine Zs_eq hX (List.cons_ne_nil _ _) (fun q_z => False.elim (by revert q_z; decide)) (fun _ => ?_)
                refine Zgo hX 3 rfl (by (first | exact True.intro | assumption | (dsimp only [ZallP]; and_intros <;> (first | assumption | decide | omega | ((try simp (disch := omega) only [pk_mul, nI_add, Zcl_n]); exact Zin_n (by omega) (by decide)))))) ?_
                refine Zs_sub (l' := [(5, .int (nI 1)), (4, .int (M 48 0)), (0, .ref 0), (2, .int what)]) rfl ?_
                refine TAIL _ _ _ hsc (Or.inl ⟨rfl, ⟨m_z, hm_z, hb_z.1, fun j_z hj_z => ?_⟩, ei 0 (by decide)⟩)
                rw [← em, ← ei j_z (by omega)]
                exact hb_z.2 j_z hj_z
              · refine Zs_eq hX (List.cons_ne_nil _ _) (fun _ => ?_) (fun q_z => False.elim (by revert q_z; decide))
                refine Zgo hX 2 rfl (by (first | exact True.intro | assumption | (dsimp only [ZallP]; and_intros <;> (first | assumption | decide | omega | ((try simp (disch := omega) only [pk_mul, nI_add, Zcl_n]); exact Zin_n (by omega) (by decide)))))) ?_
                refine Zs_sub (l' := [(5, .int (nI 0)), (4, .int (M 48 0)), (0, .ref 0), (2, .int what)]) rfl ?_
                refine TAIL _ _ _ hsc (Or.inr ⟨rfl, ?_⟩)
                rintro ⟨m2_z, g1, g2⟩
                have e2_z := ZFit_0 g2 (Nat.pos_of_ne_zero hs0)
                refine hb_z ⟨g2.1, fun j_z hj_z => ?_⟩
                rw [ei j_z (by omega), g2.2 j_z hj_z, ei 0 (by decide), ← e2_z]
            · refine Zs_eq hX (List.cons_ne_nil _ _) (fun _ => ?_) (fun q_z => False.elim (by revert q_z; decide))
              refine Zgo hX 2 rfl (by (first | exact True.intro | assumption | (dsimp only [ZallP]; and_intros <;> (first | assumption | decide | omega | ((try simp (disch := omega) only [pk_mul, nI_add, Zcl_n]); exact Zin_n (by omega) (by decide)))))) ?_
              refine Zs_sub (l' := [(5, .int (nI 0)), (4, .int (M 48 0)), (0, .ref 0), (2, .int what)]) rfl ?_
              refine TAIL _ _ _ (Sc.rf _) (Or.inr ⟨rfl, ?_⟩)
              rintro ⟨m2_z, g1, g2⟩
              have e2_z := ZFit_0 g2 (Nat.pos_of_ne_zero hs0)
              refine h7_z ?_
              rw [show M 48 0 = nI m2_z from (ei 0 (by decide)).trans e2_z]
              exact Zbt_of (by decide) g1
          · have hs0 : s_z = 0 := Zeq (b_z := 0) (by omega) (by decide) h4_z
            refine Zgo hX 1 rfl (by (first | exact True.intro | assumption | (dsimp only [ZallP]; and_intros <;> (first | assumption | decide | omega | ((try simp (disch := omega) only [pk_mul, nI_add, Zcl_n]); exact Zin_n (by omega) (by decide)))))) ?_
            refine Zs_ne hX (List.cons_ne_nil _ _) (fun h5_z => ?_) (fun h5_z => ?_)
            · refine Zgo hX 1 rfl (by (first | exact True.intro | assumption | (dsimp only [ZallP]; and_intros <;> (first | assumption | decide | omega | ((try simp (disch := omega) only [pk_mul, nI_add, Zcl_n]); exact Zin_n (by omega) (by decide)))))) ?_
              refine Zs_ret hX hE rfl ⟨by rw [hv_z, Ffit0_0 hs0, if_neg h5_z], Sc.rf _⟩
            · refine Zgo hX 2 rfl (by (first | exact True.intro | assumption | (dsimp only [ZallP]; and_intros <;> (first | assumption | decide | omega | ((try simp (disch := omega) only [pk_mul, nI_add, Zcl_n]); exact Zin_n (by omega) (by decide)))))) ?_
              refine Zs_ret hX hE rfl ⟨by rw [hv_z, Ffit0_0 hs0, if_pos h5_z], Sc.rf _⟩
        · skip
          refine Zgo hX 2 rfl (by (first | exact True.intro | assumption | (dsimp only [ZallP]; and_intros <;> (first | assumption | decide | omega | ((try simp (disch := omega) only [pk_mul, nI_add, Zcl_n]); exact Zin_n (by omega) (by decide)))))) ?_
          refine Zs_callv hX (List.cons_ne_nil _ _) (k_refuse 2 _ (by decide)) (by first | decide | omega) (by decide) rfl rfl rfl (by decide) (Nat.le_of_ble_eq_true rfl) (fun r_z M' hc_z => ?_)
          obtain ⟨rfl, hsc⟩ := hc_z
          refine Zs_ret hX hE rfl ⟨by rw [Ffits_w h2_z (Fwhy_2 (t := 1) (by decide) h3_z) (by decide)], hsc⟩
      · skip
        have es : M 49 2 = nI s_z := (hg_z 2 (by decide)).2.1.trans hs_z
        have eb : M 49 1 = g_z.1 2 := (hg_z 2 (by decide)).1
        have ei : ∀ i_z, i_z < 24 → M 50 i_z = g_z.2.2 (24 * 2 + i_z) := (hg_z 2 (by decide)).2.2
        refine Zs_aald hX (List.cons_ne_nil _ _) (by decide) rfl (by decide) (j := _) rfl (by decide) (by decide) rfl ?_
        refine Zgo hX 3 rfl (by (first | exact True.intro | assumption | (dsimp only [ZallP]; and_intros <;> (first | assumption | decide | omega | ((try simp (disch := omega) only [pk_mul, nI_add, Zcl_n]); exact Zin_n (by omega) (by decide)))))) ?_
        rw [eb]
        refine Zs_ne hX (List.cons_ne_nil _ _) (fun h3_z => ?_) (fun h3_z => ?_)
        · refine Zgo hX 2 rfl (by (first | exact True.intro | assumption | (dsimp only [ZallP]; and_intros <;> (first | assumption | decide | omega | ((try simp (disch := omega) only [pk_mul, nI_add, Zcl_n]); exact Zin_n (by omega) (by decide)))))) ?_
          rw [es]
          have hv_z := @Ffits_t g_z f_z n_z 2 s_z what h2_z (by decide) h3_z hs_z hs24
          refine Zs_ne hX (List.cons_ne_nil _ _) (fun h4_z => ?_) (fun h4_z => ?_)
          · have hs0 : ¬ s_z = 0 := fun q_z => h4_z (by rw [q_z]; rfl)
            have TAIL : ∀ (w5 w4 : Int32) (M1 : Zmem), Sc M M1 → ((w5 = nI 1 ∧ ZFa f_z n_z g_z.2.2 2 s_z ∧ w4 = g_z.2.2 (24 * 2)) ∨ (w5 = nI 0 ∧ ¬ ZFa f_z n_z g_z.2.2 2 s_z)) → ZP X Zt23 (Zsf Zt23 94) [(5, .int w5), (4, .int w4), (0, .ref 0), (2, .int what)] [] M1 := by
              intro w5 w4 M1 hsc hq_z
              refine Zgo hX 1 rfl (by (first | exact True.intro | assumption | (dsimp only [ZallP]; and_intros <;> (first | assumption | decide | omega | ((try simp (disch := omega) only [pk_mul, nI_add, Zcl_n]); exact Zin_n (by omega) (by decide)))))) ?_
              refine Zs_ne hX (List.cons_ne_nil _ _) (fun h5_z => ?_) (fun h5_z => ?_)
              · refine Zgo hX 1 rfl (by (first | exact True.intro | assumption | (dsimp only [ZallP]; and_intros <;> (first | assumption | decide | omega | ((try simp (disch := omega) only [pk_mul, nI_add, Zcl_n]); exact Zin_n (by omega) (by decide)))))) ?_
                refine Zs_eq hX (List.cons_ne_nil _ _) (fun h6_z => ?_) (fun h6_z => ?_)
                · rcases hq_z with ⟨rfl, hy, hw_z⟩ | ⟨rfl, hy⟩
                  · exact absurd h6_z (by decide)
                  · refine Zgo hX 2 rfl (by (first | exact True.intro | assumption | (dsimp only [ZallP]; and_intros <;> (first | assumption | decide | omega | ((try simp (disch := omega) only [pk_mul, nI_add, Zcl_n]); exact Zin_n (by omega) (by decide)))))) ?_
                    refine Zs_callv hX (List.cons_ne_nil _ _) (k_refuse 2 _ (by decide)) (by first | decide | omega) (by decide) rfl rfl rfl (by decide) (Nat.le_of_ble_eq_true rfl) (fun r_z M' hc_z => ?_)
                    obtain ⟨rfl, hsc2⟩ := hc_z
                    refine Zs_ret hX hE rfl ⟨by rw [hv_z, Ffit0_n hs0 hy, if_neg h5_z], hsc.tr hsc2⟩
                · rcases hq_z with ⟨rfl, hy, hw_z⟩ | ⟨rfl, hy⟩
                  · refine Zgo hX 2 rfl (by (first | exact True.intro | assumption | (dsimp only [ZallP]; and_intros <;> (first | assumption | decide | omega | ((try simp (disch := omega) only [pk_mul, nI_add, Zcl_n]); exact Zin_n (by omega) (by decide)))))) ?_
                    refine Zs_ret hX hE rfl ⟨by rw [hv_z, Ffit0_y hs0 hy, if_neg h5_z, hw_z], hsc⟩
                  · exact absurd rfl h6_z
              · refine Zgo hX 1 rfl (by (first | exact True.intro | assumption | (dsimp only [ZallP]; and_intros <;> (first | assumption | decide | omega | ((try simp (disch := omega) only [pk_mul, nI_add, Zcl_n]); exact Zin_n (by omega) (by decide)))))) ?_
                refine Zs_eq hX (List.cons_ne_nil _ _) (fun h6_z => ?_) (fun h6_z => ?_)
                · rcases hq_z with ⟨rfl, hy, hw_z⟩ | ⟨rfl, hy⟩
                  · exact absurd h6_z (by decide)
                  · refine Zgo hX 1 rfl (by (first | exact True.intro | assumption | (dsimp only [ZallP]; and_intros <;> (first | assumption | decide | omega | ((try simp (disch := omega) only [pk_mul, nI_add, Zcl_n]); exact Zin_n (by omega) (by decide)))))) ?_
                    refine Zs_ret hX hE rfl ⟨by rw [hv_z, Ffit0_n hs0 hy, if_pos h5_z], hsc⟩
                · rcases hq_z with ⟨rfl, hy, hw_z⟩ | ⟨rfl, hy⟩
                  · refine Zgo hX 2 rfl (by (first | exact True.intro | assumption | (dsimp only [ZallP]; and_intros <;> (first | assumption | decide | omega | ((try simp (disch := omega) only [pk_mul, nI_add, Zcl_n]); exact Zin_n (by omega) (by decide)))))) ?_
                    refine Zs_ret hX hE rfl ⟨by rw [hv_z, Ffit0_y hs0 hy, if_pos h5_z], hsc⟩
                  · exact absurd rfl h6_z
            refine Zgo hX 6 rfl (Zin_n (by decide) (by decide)) ?_
            try simp (disch := omega) only [Zcl_n, pk_mul, nI_add]
            refine Zs_calls hX (List.cons_ne_nil _ _) (by decide) (k_isWater _ _) (by first | decide | omega) rfl rfl (by decide) (Nat.le_of_ble_eq_true rfl) (fun r_z M' hc_z => ?_)
            rcases hc_z with ⟨⟨rfl, h7_z⟩ | ⟨rfl, h7_z⟩, rfl⟩
            · refine Zs_eq hX (List.cons_ne_nil _ _) (fun q_z => False.elim (by revert q_z; decide)) (fun _ => ?_)
              refine Zgo hX 3 rfl (by (first | exact True.intro | assumption | (dsimp only [ZallP]; and_intros <;> (first | assumption | decide | omega | ((try simp (disch := omega) only [pk_mul, nI_add, Zcl_n]); exact Zin_n (by omega) (by decide)))))) ?_
              refine Zs_callv hX (List.cons_ne_nil _ _) (k_comes2 f_z n_z _ s_z _ hz_z hfi hn_z hn2 es hs24) (by first | decide | omega) (by decide) rfl rfl rfl (by decide) (Nat.le_of_ble_eq_true rfl) (fun r_z M' hc_z => ?_)
              obtain ⟨hb_z, hsc⟩ := hc_z
              obtain ⟨m_z, hm_z, em⟩ := Zbt_ex (b_z := 999) (by decide) h7_z
              rcases hb_z with ⟨rfl, hb_z⟩ | ⟨rfl, hb_z⟩
              · refine Zs_eq hX (List.cons_ne_nil _ _) (fun q_z => False.elim (by revert q_z; decide)) (fun _ => ?_)
                refine Zgo hX 3 rfl (by (first | exact True.intro | assumption | (dsimp only [ZallP]; and_intros <;> (first | assumption | decide | omega | ((try simp (disch := omega) only [pk_mul, nI_add, Zcl_n]); exact Zin_n (by omega) (by decide)))))) ?_
                refine Zs_sub (l' := [(5, .int (nI 1)), (4, .int (M 50 0)), (0, .ref 0), (2, .int what)]) rfl ?_
                refine TAIL _ _ _ hsc (Or.inl ⟨rfl, ⟨m_z, hm_z, hb_z.1, fun j_z hj_z => ?_⟩, ei 0 (by decide)⟩)
                rw [← em, ← ei j_z (by omega)]
                exact hb_z.2 j_z hj_z
              · refine Zs_eq hX (List.cons_ne_nil _ _) (fun _ => ?_) (fun q_z => False.elim (by revert q_z; decide))
                refine Zgo hX 2 rfl (by (first | exact True.intro | assumption | (dsimp only [ZallP]; and_intros <;> (first | assumption | decide | omega | ((try simp (disch := omega) only [pk_mul, nI_add, Zcl_n]); exact Zin_n (by omega) (by decide)))))) ?_
                refine Zs_sub (l' := [(5, .int (nI 0)), (4, .int (M 50 0)), (0, .ref 0), (2, .int what)]) rfl ?_
                refine TAIL _ _ _ hsc (Or.inr ⟨rfl, ?_⟩)
                rintro ⟨m2_z, g1, g2⟩
                have e2_z := ZFit_0 g2 (Nat.pos_of_ne_zero hs0)
                refine hb_z ⟨g2.1, fun j_z hj_z => ?_⟩
                rw [ei j_z (by omega), g2.2 j_z hj_z, ei 0 (by decide), ← e2_z]
            · refine Zs_eq hX (List.cons_ne_nil _ _) (fun _ => ?_) (fun q_z => False.elim (by revert q_z; decide))
              refine Zgo hX 2 rfl (by (first | exact True.intro | assumption | (dsimp only [ZallP]; and_intros <;> (first | assumption | decide | omega | ((try simp (disch := omega) only [pk_mul, nI_add, Zcl_n]); exact Zin_n (by omega) (by decide)))))) ?_
              refine Zs_sub (l' := [(5, .int (nI 0)), (4, .int (M 50 0)), (0, .ref 0), (2, .int what)]) rfl ?_
              refine TAIL _ _ _ (Sc.rf _) (Or.inr ⟨rfl, ?_⟩)
              rintro ⟨m2_z, g1, g2⟩
              have e2_z := ZFit_0 g2 (Nat.pos_of_ne_zero hs0)
              refine h7_z ?_
              rw [show M 50 0 = nI m2_z from (ei 0 (by decide)).trans e2_z]
              exact Zbt_of (by decide) g1
          · have hs0 : s_z = 0 := Zeq (b_z := 0) (by omega) (by decide) h4_z
            refine Zgo hX 1 rfl (by (first | exact True.intro | assumption | (dsimp only [ZallP]; and_intros <;> (first | assumption | decide | omega | ((try simp (disch := omega) only [pk_mul, nI_add, Zcl_n]); exact Zin_n (by omega) (by decide)))))) ?_
            refine Zs_ne hX (List.cons_ne_nil _ _) (fun h5_z => ?_) (fun h5_z => ?_)
            · refine Zgo hX 1 rfl (by (first | exact True.intro | assumption | (dsimp only [ZallP]; and_intros <;> (first | assumption | decide | omega | ((try simp (disch := omega) only [pk_mul, nI_add, Zcl_n]); exact Zin_n (by omega) (by decide)))))) ?_
              refine Zs_ret hX hE rfl ⟨by rw [hv_z, Ffit0_0 hs0, if_neg h5_z], Sc.rf _⟩
            · refine Zgo hX 2 rfl (by (first | exact True.intro | assumption | (dsimp only [ZallP]; and_intros <;> (first | assumption | decide | omega | ((try simp (disch := omega) only [pk_mul, nI_add, Zcl_n]); exact Zin_n (by omega) (by decide)))))) ?_
              refine Zs_ret hX hE rfl ⟨by rw [hv_z, Ffit0_0 hs0, if_pos h5_z], Sc.rf _⟩
        · skip
          refine Zgo hX 2 rfl (by (first | exact True.intro | assumption | (dsimp only [ZallP]; and_intros <;> (first | assumption | decide | omega | ((try simp (disch := omega) only [pk_mul, nI_add, Zcl_n]); exact Zin_n (by omega) (by decide)))))) ?_
          refine Zs_callv hX (List.cons_ne_nil _ _) (k_refuse 2 _ (by decide)) (by first | decide | omega) (by decide) rfl rfl rfl (by decide) (Nat.le_of_ble_eq_true rfl) (fun r_z M' hc_z => ?_)
          obtain ⟨rfl, hsc⟩ := hc_z
          refine Zs_ret hX hE rfl ⟨by rw [Ffits_w h2_z (Fwhy_2 (t := 2) (by decide) h3_z) (by decide)], hsc⟩
      · skip
        have es : M 51 2 = nI s_z := (hg_z 3 (by decide)).2.1.trans hs_z
        have eb : M 51 1 = g_z.1 3 := (hg_z 3 (by decide)).1
        have ei : ∀ i_z, i_z < 24 → M 52 i_z = g_z.2.2 (24 * 3 + i_z) := (hg_z 3 (by decide)).2.2
        refine Zs_aald hX (List.cons_ne_nil _ _) (by decide) rfl (by decide) (j := _) rfl (by decide) (by decide) rfl ?_
        refine Zgo hX 3 rfl (by (first | exact True.intro | assumption | (dsimp only [ZallP]; and_intros <;> (first | assumption | decide | omega | ((try simp (disch := omega) only [pk_mul, nI_add, Zcl_n]); exact Zin_n (by omega) (by decide)))))) ?_
        rw [eb]
        refine Zs_ne hX (List.cons_ne_nil _ _) (fun h3_z => ?_) (fun h3_z => ?_)
        · refine Zgo hX 2 rfl (by (first | exact True.intro | assumption | (dsimp only [ZallP]; and_intros <;> (first | assumption | decide | omega | ((try simp (disch := omega) only [pk_mul, nI_add, Zcl_n]); exact Zin_n (by omega) (by decide)))))) ?_
          rw [es]
          have hv_z := @Ffits_t g_z f_z n_z 3 s_z what h2_z (by decide) h3_z hs_z hs24
          refine Zs_ne hX (List.cons_ne_nil _ _) (fun h4_z => ?_) (fun h4_z => ?_)
          · have hs0 : ¬ s_z = 0 := fun q_z => h4_z (by rw [q_z]; rfl)
            have TAIL : ∀ (w5 w4 : Int32) (M1 : Zmem), Sc M M1 → ((w5 = nI 1 ∧ ZFa f_z n_z g_z.2.2 3 s_z ∧ w4 = g_z.2.2 (24 * 3)) ∨ (w5 = nI 0 ∧ ¬ ZFa f_z n_z g_z.2.2 3 s_z)) → ZP X Zt23 (Zsf Zt23 94) [(5, .int w5), (4, .int w4), (0, .ref 0), (2, .int what)] [] M1 := by
              intro w5 w4 M1 hsc hq_z
              refine Zgo hX 1 rfl (by (first | exact True.intro | assumption | (dsimp only [ZallP]; and_intros <;> (first | assumption | decide | omega | ((try simp (disch := omega) only [pk_mul, nI_add, Zcl_n]); exact Zin_n (by omega) (by decide)))))) ?_
              refine Zs_ne hX (List.cons_ne_nil _ _) (fun h5_z => ?_) (fun h5_z => ?_)
              · refine Zgo hX 1 rfl (by (first | exact True.intro | assumption | (dsimp only [ZallP]; and_intros <;> (first | assumption | decide | omega | ((try simp (disch := omega) only [pk_mul, nI_add, Zcl_n]); exact Zin_n (by omega) (by decide)))))) ?_
                refine Zs_eq hX (List.cons_ne_nil _ _) (fun h6_z => ?_) (fun h6_z => ?_)
                · rcases hq_z with ⟨rfl, hy, hw_z⟩ | ⟨rfl, hy⟩
                  · exact absurd h6_z (by decide)
                  · refine Zgo hX 2 rfl (by (first | exact True.intro | assumption | (dsimp only [ZallP]; and_intros <;> (first | assumption | decide | omega | ((try simp (disch := omega) only [pk_mul, nI_add, Zcl_n]); exact Zin_n (by omega) (by decide)))))) ?_
                    refine Zs_callv hX (List.cons_ne_nil _ _) (k_refuse 2 _ (by decide)) (by first | decide | omega) (by decide) rfl rfl rfl (by decide) (Nat.le_of_ble_eq_true rfl) (fun r_z M' hc_z => ?_)
                    obtain ⟨rfl, hsc2⟩ := hc_z
                    refine Zs_ret hX hE rfl ⟨by rw [hv_z, Ffit0_n hs0 hy, if_neg h5_z], hsc.tr hsc2⟩
                · rcases hq_z with ⟨rfl, hy, hw_z⟩ | ⟨rfl, hy⟩
                  · refine Zgo hX 2 rfl (by (first | exact True.intro | assumption | (dsimp only [ZallP]; and_intros <;> (first | assumption | decide | omega | ((try simp (disch := omega) only [pk_mul, nI_add, Zcl_n]); exact Zin_n (by omega) (by decide)))))) ?_
                    refine Zs_ret hX hE rfl ⟨by rw [hv_z, Ffit0_y hs0 hy, if_neg h5_z, hw_z], hsc⟩
                  · exact absurd rfl h6_z
              · refine Zgo hX 1 rfl (by (first | exact True.intro | assumption | (dsimp only [ZallP]; and_intros <;> (first | assumption | decide | omega | ((try simp (disch := omega) only [pk_mul, nI_add, Zcl_n]); exact Zin_n (by omega) (by decide)))))) ?_
                refine Zs_eq hX (List.cons_ne_nil _ _) (fun h6_z => ?_) (fun h6_z => ?_)
                · rcases hq_z with ⟨rfl, hy, hw_z⟩ | ⟨rfl, hy⟩
                  · exact absurd h6_z (by decide)
                  · refine Zgo hX 1 rfl (by (first | exact True.intro | assumption | (dsimp only [ZallP]; and_intros <;> (first | assumption | decide | omega | ((try simp (disch := omega) only [pk_mul, nI_add, Zcl_n]); exact Zin_n (by omega) (by decide)))))) ?_
                    refine Zs_ret hX hE rfl ⟨by rw [hv_z, Ffit0_n hs0 hy, if_pos h5_z], hsc⟩
                · rcases hq_z with ⟨rfl, hy, hw_z⟩ | ⟨rfl, hy⟩
                  · refine Zgo hX 2 rfl (by (first | exact True.intro | assumption | (dsimp only [ZallP]; and_intros <;> (first | assumption | decide | omega | ((try simp (disch := omega) only [pk_mul, nI_add, Zcl_n]); exact Zin_n (by omega) (by decide)))))) ?_
                    refine Zs_ret hX hE rfl ⟨by rw [hv_z, Ffit0_y hs0 hy, if_pos h5_z], hsc⟩
                  · exact absurd rfl h6_z
            refine Zgo hX 6 rfl (Zin_n (by decide) (by decide)) ?_
            try simp (disch := omega) only [Zcl_n, pk_mul, nI_add]
            refine Zs_calls hX (List.cons_ne_nil _ _) (by decide) (k_isWater _ _) (by first | decide | omega) rfl rfl (by decide) (Nat.le_of_ble_eq_true rfl) (fun r_z M' hc_z => ?_)
            rcases hc_z with ⟨⟨rfl, h7_z⟩ | ⟨rfl, h7_z⟩, rfl⟩
            · refine Zs_eq hX (List.cons_ne_nil _ _) (fun q_z => False.elim (by revert q_z; decide)) (fun _ => ?_)
              refine Zgo hX 3 rfl (by (first | exact True.intro | assumption | (dsimp only [ZallP]; and_intros <;> (first | assumption | decide | omega | ((try simp (disch := omega) only [pk_mul, nI_add, Zcl_n]); exact Zin_n (by omega) (by decide)))))) ?_
              refine Zs_callv hX (List.cons_ne_nil _ _) (k_comes3 f_z n_z _ s_z _ hz_z hfi hn_z hn2 es hs24) (by first | decide | omega) (by decide) rfl rfl rfl (by decide) (Nat.le_of_ble_eq_true rfl) (fun r_z M' hc_z => ?_)
              obtain ⟨hb_z, hsc⟩ := hc_z
              obtain ⟨m_z, hm_z, em⟩ := Zbt_ex (b_z := 999) (by decide) h7_z
              rcases hb_z with ⟨rfl, hb_z⟩ | ⟨rfl, hb_z⟩
              · refine Zs_eq hX (List.cons_ne_nil _ _) (fun q_z => False.elim (by revert q_z; decide)) (fun _ => ?_)
                refine Zgo hX 3 rfl (by (first | exact True.intro | assumption | (dsimp only [ZallP]; and_intros <;> (first | assumption | decide | omega | ((try simp (disch := omega) only [pk_mul, nI_add, Zcl_n]); exact Zin_n (by omega) (by decide)))))) ?_
                refine Zs_sub (l' := [(5, .int (nI 1)), (4, .int (M 52 0)), (0, .ref 0), (2, .int what)]) rfl ?_
                refine TAIL _ _ _ hsc (Or.inl ⟨rfl, ⟨m_z, hm_z, hb_z.1, fun j_z hj_z => ?_⟩, ei 0 (by decide)⟩)
                rw [← em, ← ei j_z (by omega)]
                exact hb_z.2 j_z hj_z
              · refine Zs_eq hX (List.cons_ne_nil _ _) (fun _ => ?_) (fun q_z => False.elim (by revert q_z; decide))
                refine Zgo hX 2 rfl (by (first | exact True.intro | assumption | (dsimp only [ZallP]; and_intros <;> (first | assumption | decide | omega | ((try simp (disch := omega) only [pk_mul, nI_add, Zcl_n]); exact Zin_n (by omega) (by decide)))))) ?_
                refine Zs_sub (l' := [(5, .int (nI 0)), (4, .int (M 52 0)), (0, .ref 0), (2, .int what)]) rfl ?_
                refine TAIL _ _ _ hsc (Or.inr ⟨rfl, ?_⟩)
                rintro ⟨m2_z, g1, g2⟩
                have e2_z := ZFit_0 g2 (Nat.pos_of_ne_zero hs0)
                refine hb_z ⟨g2.1, fun j_z hj_z => ?_⟩
                rw [ei j_z (by omega), g2.2 j_z hj_z, ei 0 (by decide), ← e2_z]
            · refine Zs_eq hX (List.cons_ne_nil _ _) (fun _ => ?_) (fun q_z => False.elim (by revert q_z; decide))
              refine Zgo hX 2 rfl (by (first | exact True.intro | assumption | (dsimp only [ZallP]; and_intros <;> (first | assumption | decide | omega | ((try simp (disch := omega) only [pk_mul, nI_add, Zcl_n]); exact Zin_n (by omega) (by decide)))))) ?_
              refine Zs_sub (l' := [(5, .int (nI 0)), (4, .int (M 52 0)), (0, .ref 0), (2, .int what)]) rfl ?_
              refine TAIL _ _ _ (Sc.rf _) (Or.inr ⟨rfl, ?_⟩)
              rintro ⟨m2_z, g1, g2⟩
              have e2_z := ZFit_0 g2 (Nat.pos_of_ne_zero hs0)
              refine h7_z ?_
              rw [show M 52 0 = nI m2_z from (ei 0 (by decide)).trans e2_z]
              exact Zbt_of (by decide) g1
          · have hs0 : s_z = 0 := Zeq (b_z := 0) (by omega) (by decide) h4_z
            refine Zgo hX 1 rfl (by (first | exact True.intro | assumption | (dsimp only [ZallP]; and_intros <;> (first | assumption | decide | omega | ((try simp (disch := omega) only [pk_mul, nI_add, Zcl_n]); exact Zin_n (by omega) (by decide)))))) ?_
            refine Zs_ne hX (List.cons_ne_nil _ _) (fun h5_z => ?_) (fun h5_z => ?_)
            · refine Zgo hX 1 rfl (by (first | exact True.intro | assumption | (dsimp only [ZallP]; and_intros <;> (first | assumption | decide | omega | ((try simp (disch := omega) only [pk_mul, nI_add, Zcl_n]); exact Zin_n (by omega) (by decide)))))) ?_
              refine Zs_ret hX hE rfl ⟨by rw [hv_z, Ffit0_0 hs0, if_neg h5_z], Sc.rf _⟩
            · refine Zgo hX 2 rfl (by (first | exact True.intro | assumption | (dsimp only [ZallP]; and_intros <;> (first | assumption | decide | omega | ((try simp (disch := omega) only [pk_mul, nI_add, Zcl_n]); exact Zin_n (by omega) (by decide)))))) ?_
              refine Zs_ret hX hE rfl ⟨by rw [hv_z, Ffit0_0 hs0, if_pos h5_z], Sc.rf _⟩
        · skip
          refine Zgo hX 2 rfl (by (first | exact True.intro | assumption | (dsimp only [ZallP]; and_intros <;> (first | assumption | decide | omega | ((try simp (disch := omega) only [pk_mul, nI_add, Zcl_n]); exact Zin_n (by omega) (by decide)))))) ?_
          refine Zs_callv hX (List.cons_ne_nil _ _) (k_refuse 2 _ (by decide)) (by first | decide | omega) (by decide) rfl rfl rfl (by decide) (Nat.le_of_ble_eq_true rfl) (fun r_z M' hc_z => ?_)
          obtain ⟨rfl, hsc⟩ := hc_z
          refine Zs_ret hX hE rfl ⟨by rw [Ffits_w h2_z (Fwhy_2 (t := 3) (by decide) h3_z) (by decide)], hsc⟩
    · refine Zs_ne hX (List.cons_ne_nil _ _) (fun q_z => False.elim (by revert q_z; decide)) (fun _ => ?_)
      exact BAD (Ffits_1 h2_z)
  · refine Zs_eq hX (List.cons_ne_nil _ _) (fun _ => ?_) (fun q_z => False.elim (by revert q_z; decide))
    refine BAD ?_
    by_cases h2_z : nI 0 ≤ what ∧ what ≤ nI 1
    · exact Ffits_w h2_z (Fwhy_1 h1_z) (by decide)
    · exact Ffits_1 h2_z

set_option maxRecDepth 20000 in
set_option maxHeartbeats 4000000 in
theorem s_fits2 (n_z : Nat) (sh what : Int32) (M : Zmem) (hi_z : Zsiv (Zgs M)) (hfi : Zfi (M 54)) (hn_z : M 54 7 = nI n_z) (hn2 : n_z ≤ 15) : ZC 112 6 [.ref 53, .int sh, .int what] M (fun r_z M' => r_z = some (.int (Ffits (Zgs M) (M 54) n_z sh what)) ∧ Sc M M') := by
  refine ZC_of Zt112 Zk112 (Nat.le_of_ble_eq_true rfl) (by decide) rfl (fun X hX hE => ?_)
  have TELL : ∀ (k_z : Nat) (l : List (Nat × Value)), 1 ≤ k_z ∧ k_z ≤ 6 → Ffits (Zgs M) (M 54) n_z sh what = Er k_z → l = [(3, .int (nI k_z)), (0, .ref 53)] → ZP X Zt112 (Zsf Zt112 23) l [] M := by
    rintro k_z l hk_z hv_z rfl
    refine Zgo hX 2 rfl (by (first | exact True.intro | assumption | (dsimp only [ZallP]; and_intros <;> (first | assumption | decide | omega | ((try simp (disch := omega) only [pk_mul, nI_add, Zcl_n]); exact Zin_n (by omega) (by decide)))))) ?_
    refine Zs_callv hX (List.cons_ne_nil _ _) (s_error k_z _ hk_z) (by first | decide | omega) (by decide) rfl rfl rfl (by decide) (Nat.le_of_ble_eq_true rfl) (fun r_z M' hc_z => ?_)
    obtain ⟨rfl, hsc⟩ := hc_z
    refine Zs_ret hX hE rfl ⟨by rw [hv_z], hsc⟩
  refine Zgo hX 3 rfl (by (first | exact True.intro | assumption | (dsimp only [ZallP]; and_intros <;> (first | assumption | decide | omega | ((try simp (disch := omega) only [pk_mul, nI_add, Zcl_n]); exact Zin_n (by omega) (by decide)))))) ?_
  refine Zs_calls hX (List.cons_ne_nil _ _) (by decide) (s_in _ _ _ _) (by first | decide | omega) rfl rfl (by decide) (Nat.le_of_ble_eq_true rfl) (fun r_z M' hc_z => ?_)
  rcases hc_z with ⟨⟨rfl, h1_z⟩ | ⟨rfl, h1_z⟩, rfl⟩
  · refine Zs_eq hX (List.cons_ne_nil _ _) (fun q_z => False.elim (by revert q_z; decide)) (fun _ => ?_)
    refine Zgo hX 2 rfl (by (first | exact True.intro | assumption | (dsimp only [ZallP]; and_intros <;> (first | assumption | decide | omega | ((try simp (disch := omega) only [pk_mul, nI_add, Zcl_n]); exact Zin_n (by omega) (by decide)))))) ?_
    refine Zs_callv hX (List.cons_ne_nil _ _) (s_why sh M) (by first | decide | omega) (by decide) rfl rfl rfl (by decide) (Nat.le_of_ble_eq_true rfl) (fun r_z M' hc_z => ?_)
    obtain ⟨rfl, rfl⟩ := hc_z
    rcases Fwhy_lt (Zgs M) sh with hw_z | hw_z | hw_z
    · rw [hw_z]
      refine Zgo hX 3 rfl (by (first | exact True.intro | assumption | (dsimp only [ZallP]; and_intros <;> (first | assumption | decide | omega | ((try simp (disch := omega) only [pk_mul, nI_add, Zcl_n]); exact Zin_n (by omega) (by decide)))))) ?_
      refine Zs_eq hX (List.cons_ne_nil _ _) (fun _ => ?_) (fun q_z => False.elim (by revert q_z; decide))
      clear TELL
      obtain ⟨t, ht_z, rfl, et, hb0⟩ := Fwhy_0 hw_z
      obtain ⟨hbt, s_z, hs24, hs_z⟩ := hi_z t ht_z
      have hv_z : Ffits (Zgs M) (M 54) n_z (nI t) what = Ffit0 (M 54) n_z (M 68) t s_z what := Ffits_t h1_z ht_z hb0 hs_z hs24
      have L : ∀ (m_z : Nat) (mn le : Int32) (M1 : Zmem), m_z ≤ 1000 → Sc M M1 → ZFv (M 54) n_z (M 68) t s_z m_z mn le → ZP X Zt112 (Zsf Zt112 48) [(4, .int mn), (5, .int le), (6, .int (nI s_z)), (7, .int (nI m_z - nI 1)), (0, .ref 53), (1, .int (nI t)), (2, .int what)] [] M1 := by
        intro m_z
        induction m_z with
        | zero =>
          intro mn le M1 hm_z hsc hiv
          obtain ⟨e0_z, e1_z⟩ := hiv.end (what := what)
          refine Zgo hX 1 rfl (by (first | exact True.intro | assumption | (dsimp only [ZallP]; and_intros <;> (first | assumption | decide | omega | ((try simp (disch := omega) only [pk_mul, nI_add, Zcl_n]); exact Zin_n (by omega) (by decide)))))) ?_
          refine Zs_lt hX (List.cons_ne_nil _ _) (fun _ => ?_) (fun q_z => False.elim (by revert q_z; decide))
          refine Zgo hX 1 rfl (by (first | exact True.intro | assumption | (dsimp only [ZallP]; and_intros <;> (first | assumption | decide | omega | ((try simp (disch := omega) only [pk_mul, nI_add, Zcl_n]); exact Zin_n (by omega) (by decide)))))) ?_
          refine Zs_ne hX (List.cons_ne_nil _ _) (fun h5_z => ?_) (fun h5_z => ?_)
          · refine Zgo hX 2 rfl (by (first | exact True.intro | assumption | (dsimp only [ZallP]; and_intros <;> (first | assumption | decide | omega | ((try simp (disch := omega) only [pk_mul, nI_add, Zcl_n]); exact Zin_n (by omega) (by decide)))))) ?_
            refine Zs_ine hX (List.cons_ne_nil _ _) (fun h6_z => ?_) (fun h6_z => ?_)
            · refine Zgo hX 1 rfl (by (first | exact True.intro | assumption | (dsimp only [ZallP]; and_intros <;> (first | assumption | decide | omega | ((try simp (disch := omega) only [pk_mul, nI_add, Zcl_n]); exact Zin_n (by omega) (by decide)))))) ?_
              refine Zs_ret hX hE rfl ⟨by rw [hv_z, (e1_z h5_z).2 h6_z], hsc⟩
            · refine Zgo hX 2 rfl (by (first | exact True.intro | assumption | (dsimp only [ZallP]; and_intros <;> (first | assumption | decide | omega | ((try simp (disch := omega) only [pk_mul, nI_add, Zcl_n]); exact Zin_n (by omega) (by decide)))))) ?_
              refine Zs_callv hX (List.cons_ne_nil _ _) (s_error 2 _ (by decide)) (by first | decide | omega) (by decide) rfl rfl rfl (by decide) (Nat.le_of_ble_eq_true rfl) (fun r_z M' hc_z => ?_)
              obtain ⟨rfl, hsc2⟩ := hc_z
              refine Zgo hX 1 rfl (by (first | exact True.intro | assumption | (dsimp only [ZallP]; and_intros <;> (first | assumption | decide | omega | ((try simp (disch := omega) only [pk_mul, nI_add, Zcl_n]); exact Zin_n (by omega) (by decide)))))) ?_
              refine Zs_ret hX hE rfl ⟨by rw [hv_z, (e1_z h5_z).1 h6_z], hsc.tr hsc2⟩
          · refine Zgo hX 2 rfl (by (first | exact True.intro | assumption | (dsimp only [ZallP]; and_intros <;> (first | assumption | decide | omega | ((try simp (disch := omega) only [pk_mul, nI_add, Zcl_n]); exact Zin_n (by omega) (by decide)))))) ?_
            refine Zs_ret hX hE rfl ⟨by rw [hv_z, e0_z h5_z], hsc⟩
        | succ m_z ih_z =>
          intro mn le M1 hm_z hsc hiv
          have NEXT : ∀ (v_z le2 : Int32) (M2 : Zmem), Sc M M2 → ZFv (M 54) n_z (M 68) t s_z m_z v_z le2 → ZP X Zt112 (Zsf Zt112 182) [(4, .int v_z), (5, .int le), (6, .int (nI s_z)), (7, .int (nI m_z)), (0, .ref 53), (1, .int (nI t)), (2, .int what)] [.int le2] M2 := by
            intro v_z le2 M2 hsc2 hiv2
            refine Zgo hX 3 rfl (by (first | exact True.intro | assumption | (dsimp only [ZallP]; and_intros <;> (first | assumption | decide | omega | ((try simp (disch := omega) only [pk_mul, nI_add, Zcl_n]); exact Zin_n (by omega) (by decide)))))) ?_
            rw [← Int32.sub_eq_add_neg]
            refine Zs_sub (l' := [(4, .int v_z), (5, .int le2), (6, .int (nI s_z)), (7, .int (nI m_z - nI 1)), (0, .ref 53), (1, .int (nI t)), (2, .int what)]) rfl ?_
            exact ih_z v_z le2 M2 (by omega) hsc2 hiv2
          have END : ∀ (w_z : Int32) (k_z : Nat) (M2 : Zmem), Sc M M2 → ((w_z = 0 ∧ ¬ ZFit (M 54) n_z (M 68) t s_z m_z) ∨ (¬ w_z = 0 ∧ ZFit (M 54) n_z (M 68) t s_z m_z)) → ZP X Zt112 (Zsf Zt112 155) [(8, .int w_z), (9, .int (nI k_z)), (4, .int mn), (5, .int le), (6, .int (nI s_z)), (7, .int (nI m_z)), (0, .ref 53), (1, .int (nI t)), (2, .int what)] [] M2 := by
            intro w_z k_z M2 hsc2 hw2
            refine Zgo hX 2 rfl (by (first | exact True.intro | assumption | (dsimp only [ZallP]; and_intros <;> (first | assumption | decide | omega | ((try simp (disch := omega) only [pk_mul, nI_add, Zcl_n]); exact Zin_n (by omega) (by decide)))))) ?_
            refine Zs_eq hX (List.cons_ne_nil _ _) (fun h5_z => ?_) (fun h5_z => ?_)
            · have hf_z : ¬ ZFit (M 54) n_z (M 68) t s_z m_z := hw2.elim (fun q_z => q_z.2) (fun q_z => absurd h5_z q_z.1)
              refine Zgo hX 4 rfl (by (first | exact True.intro | assumption | (dsimp only [ZallP]; and_intros <;> (first | assumption | decide | omega | ((try simp (disch := omega) only [pk_mul, nI_add, Zcl_n]); exact Zin_n (by omega) (by decide)))))) ?_
              refine Zs_eq hX (List.cons_ne_nil _ _) (fun h6_z => ?_) (fun h6_z => ?_)
              · refine Zgo hX 1 rfl (by (first | exact True.intro | assumption | (dsimp only [ZallP]; and_intros <;> (first | assumption | decide | omega | ((try simp (disch := omega) only [pk_mul, nI_add, Zcl_n]); exact Zin_n (by omega) (by decide)))))) ?_
                refine Zs_sub (l' := [(4, .int (mn + nI 0)), (5, .int le), (6, .int (nI s_z)), (7, .int (nI m_z)), (0, .ref 53), (1, .int (nI t)), (2, .int what)]) rfl ?_
                exact NEXT _ _ M2 hsc2 (hiv.n hf_z)
              · exact absurd h5_z h6_z
            · have hf_z : ZFit (M 54) n_z (M 68) t s_z m_z := hw2.elim (fun q_z => absurd q_z.1 h5_z) (fun q_z => q_z.2)
              refine Zgo hX 5 rfl (by (first | exact True.intro | assumption | (dsimp only [ZallP]; and_intros <;> (first | assumption | decide | omega | ((try simp (disch := omega) only [pk_mul, nI_add, Zcl_n]); exact Zin_n (by omega) (by decide)))))) ?_
              refine Zs_eq hX (List.cons_ne_nil _ _) (fun h6_z => ?_) (fun h6_z => ?_)
              · exact absurd h6_z h5_z
              · refine Zgo hX 2 rfl (by (first | exact True.intro | assumption | (dsimp only [ZallP]; and_intros <;> (first | assumption | decide | omega | ((try simp (disch := omega) only [pk_mul, nI_add, Zcl_n]); exact Zin_n (by omega) (by decide)))))) ?_
                refine Zs_sub (l' := [(4, .int (mn + nI 1)), (5, .int le), (6, .int (nI s_z)), (7, .int (nI m_z)), (0, .ref 53), (1, .int (nI t)), (2, .int what)]) rfl ?_
                exact NEXT _ _ M2 hsc2 (hiv.y hm_z hf_z)
          have I : ∀ (q_z k_z : Nat) (w_z : Int32) (M2 : Zmem), k_z + q_z = s_z → Sc M M2 → ((w_z = 0 ∧ ¬ ZFit (M 54) n_z (M 68) t s_z m_z) ∨ (¬ w_z = 0 ∧ s_z ≤ n_z + 1 ∧ (∀ j_z, j_z ≤ n_z → M2 60 j_z = Zcm (M 54) (nI m_z) (nI 0) j_z) ∧ ∀ j_z, j_z < k_z → M 68 (24 * t + j_z) = Zcm (M 54) (nI m_z) (nI 0) j_z)) → ZP X Zt112 (Zsf Zt112 108) [(8, .int w_z), (9, .int (nI k_z)), (4, .int mn), (5, .int le), (6, .int (nI s_z)), (7, .int (nI m_z)), (0, .ref 53), (1, .int (nI t)), (2, .int what)] [] M2 := by
            intro q_z
            induction q_z with
            | zero =>
              intro k_z w_z M2 hk_z hsc2 hw2
              refine Zgo hX 2 rfl (by (first | exact True.intro | assumption | (dsimp only [ZallP]; and_intros <;> (first | assumption | decide | omega | ((try simp (disch := omega) only [pk_mul, nI_add, Zcl_n]); exact Zin_n (by omega) (by decide)))))) ?_
              refine Zs_ige hX (List.cons_ne_nil _ _) (fun h5_z => ?_) (fun h5_z => ?_)
              · refine END w_z k_z M2 hsc2 (hw2.elim Or.inl (fun q_z => Or.inr ⟨q_z.1, q_z.2.1, fun j_z hj_z => q_z.2.2.2 j_z (by omega)⟩))
              · exact absurd ((Zn_le (by omega) (by omega)).mpr (by omega)) h5_z
            | succ q_z ihq =>
              intro k_z w_z M2 hk_z hsc2 hw2
              refine Zgo hX 2 rfl (by (first | exact True.intro | assumption | (dsimp only [ZallP]; and_intros <;> (first | assumption | decide | omega | ((try simp (disch := omega) only [pk_mul, nI_add, Zcl_n]); exact Zin_n (by omega) (by decide)))))) ?_
              refine Zs_ige hX (List.cons_ne_nil _ _) (fun h5_z => ?_) (fun h5_z => ?_)
              · exact absurd ((Zn_le (by omega) (by omega)).mp h5_z) (by omega)
              · refine Zgo hX 1 rfl (by (first | exact True.intro | assumption | (dsimp only [ZallP]; and_intros <;> (first | assumption | decide | omega | ((try simp (disch := omega) only [pk_mul, nI_add, Zcl_n]); exact Zin_n (by omega) (by decide)))))) ?_
                refine Zs_eq hX (List.cons_ne_nil _ _) (fun h6_z => ?_) (fun h6_z => ?_)
                · exact END w_z k_z M2 hsc2 (hw2.elim Or.inl (fun q_z => absurd h6_z q_z.1))
                · obtain ⟨-, hsn, hco, hall⟩ := hw2.elim (fun q_z => absurd q_z.1 h6_z) id
                  refine Zgo hX 12 rfl (by dsimp only [ZallP]; simp only [pk_mul, nI_add]; exact ⟨Zin_n (by omega) (by decide), Zin_n (by omega) (by decide)⟩) ?_
                  simp (disch := omega) only [pk_mul, nI_add, Zcl_n]
                  rw [hco k_z (by omega), show M2 68 (24 * t + k_z) = M 68 (24 * t + k_z) from hsc2 68 _ rfl]
                  refine Zs_ine hX (List.cons_ne_nil _ _) (fun h7_z => ?_) (fun h7_z => ?_)
                  · refine Zgo hX 4 rfl (by (first | exact True.intro | assumption | (dsimp only [ZallP]; and_intros <;> (first | assumption | decide | omega | ((try simp (disch := omega) only [pk_mul, nI_add, Zcl_n]); exact Zin_n (by omega) (by decide)))))) ?_
                    rw [nI_add]
                    refine Zs_sub (l' := [(8, .int (nI 0)), (9, .int (nI (k_z + 1))), (4, .int mn), (5, .int le), (6, .int (nI s_z)), (7, .int (nI m_z)), (0, .ref 53), (1, .int (nI t)), (2, .int what)]) rfl ?_
                    exact ihq (k_z + 1) _ M2 (by omega) hsc2 (Or.inl ⟨rfl, fun q_z => h7_z (q_z.2 k_z (by omega)).symm⟩)
                  · refine Zgo hX 5 rfl (by (first | exact True.intro | assumption | (dsimp only [ZallP]; and_intros <;> (first | assumption | decide | omega | ((try simp (disch := omega) only [pk_mul, nI_add, Zcl_n]); exact Zin_n (by omega) (by decide)))))) ?_
                    rw [nI_add]
                    refine Zs_sub (l' := [(8, .int (nI 1)), (9, .int (nI (k_z + 1))), (4, .int mn), (5, .int le), (6, .int (nI s_z)), (7, .int (nI m_z)), (0, .ref 53), (1, .int (nI t)), (2, .int what)]) rfl ?_
                    refine ihq (k_z + 1) _ M2 (by omega) hsc2 (Or.inr ⟨by decide, hsn, hco, fun j_z hj_z => ?_⟩)
                    by_cases e_z : j_z = k_z
                    · subst e_z; exact h7_z.symm
                    · exact hall j_z (by omega)
          have IS : ∀ (v_z : Int32), ((v_z = 0 ∧ ¬ ZFit (M 54) n_z (M 68) t s_z m_z) ∨ (¬ v_z = 0 ∧ s_z ≤ n_z + 1)) → ZP X Zt112 (Zsf Zt112 91) [(4, .int mn), (5, .int le), (6, .int (nI s_z)), (7, .int (nI m_z)), (0, .ref 53), (1, .int (nI t)), (2, .int what)] [.int v_z] M1 := by
            intro v_z hv2
            refine Zgo hX 2 rfl (by (first | exact True.intro | assumption | (dsimp only [ZallP]; and_intros <;> (first | assumption | decide | omega | ((try simp (disch := omega) only [pk_mul, nI_add, Zcl_n]); exact Zin_n (by omega) (by decide)))))) ?_
            refine Zs_eq hX (List.cons_ne_nil _ _) (fun h5_z => ?_) (fun h5_z => ?_)
            · refine Zgo hX 2 rfl (by (first | exact True.intro | assumption | (dsimp only [ZallP]; and_intros <;> (first | assumption | decide | omega | ((try simp (disch := omega) only [pk_mul, nI_add, Zcl_n]); exact Zin_n (by omega) (by decide)))))) ?_
              refine Zs_sub (l' := [(8, .int v_z), (9, .int (nI 0)), (4, .int mn), (5, .int le), (6, .int (nI s_z)), (7, .int (nI m_z)), (0, .ref 53), (1, .int (nI t)), (2, .int what)]) rfl ?_
              exact I s_z 0 v_z M1 (by omega) hsc (hv2.elim Or.inl (fun q_z => absurd h5_z q_z.1))
            · refine Zgo hX 3 rfl (by (first | exact True.intro | assumption | (dsimp only [ZallP]; and_intros <;> (first | assumption | decide | omega | ((try simp (disch := omega) only [pk_mul, nI_add, Zcl_n]); exact Zin_n (by omega) (by decide)))))) ?_
              refine Zs_callv hX (List.cons_ne_nil _ _) (s_letDown n_z (nI m_z) (nI 0) M1 (by rw [hsc.f54]; exact hfi) (by rw [hsc.f54]; exact hn_z) hn2) (by first | decide | omega) (by decide) rfl rfl rfl (by decide) (Nat.le_of_ble_eq_true rfl) (fun r_z M' hc_z => ?_)
              obtain ⟨rfl, hsc2, -, hco⟩ := hc_z
              rw [hsc.f54] at hco
              refine Zgo hX 2 rfl (by (first | exact True.intro | assumption | (dsimp only [ZallP]; and_intros <;> (first | assumption | decide | omega | ((try simp (disch := omega) only [pk_mul, nI_add, Zcl_n]); exact Zin_n (by omega) (by decide)))))) ?_
              refine Zs_sub (l' := [(8, .int v_z), (9, .int (nI 0)), (4, .int mn), (5, .int le), (6, .int (nI s_z)), (7, .int (nI m_z)), (0, .ref 53), (1, .int (nI t)), (2, .int what)]) rfl ?_
              exact I s_z 0 v_z M' (by omega) (hsc.tr hsc2) (hv2.elim (fun q_z => absurd q_z.1 h5_z) (fun q_z => Or.inr ⟨q_z.1, q_z.2, hco, fun j_z hj_z => absurd hj_z (Nat.not_lt_zero _)⟩))
          rw [Zpr]
          refine Zgo hX 1 rfl (by (first | exact True.intro | assumption | (dsimp only [ZallP]; and_intros <;> (first | assumption | decide | omega | ((try simp (disch := omega) only [pk_mul, nI_add, Zcl_n]); exact Zin_n (by omega) (by decide)))))) ?_
          refine Zs_lt hX (List.cons_ne_nil _ _) (fun q_z => False.elim ((absurd q_z (Zn_nlt0 (by omega))))) (fun _ => ?_)
          refine Zgo hX 7 rfl (Zin_n (by decide) (by decide)) ?_
          try simp (disch := omega) only [Zcl_n, pk_mul, nI_add]
          rw [hsc.f54, hn_z, nI_add]
          refine Zs_igt hX (List.cons_ne_nil _ _) (fun h3_z => ?_) (fun h3_z => ?_)
          · have hno := (Zn_lt (by omega) (by omega)).mp h3_z
            refine Zgo hX 1 rfl (by (first | exact True.intro | assumption | (dsimp only [ZallP]; and_intros <;> (first | assumption | decide | omega | ((try simp (disch := omega) only [pk_mul, nI_add, Zcl_n]); exact Zin_n (by omega) (by decide)))))) ?_
            refine Zs_sub (l' := [(4, .int mn), (5, .int le), (6, .int (nI s_z)), (7, .int (nI m_z)), (0, .ref 53), (1, .int (nI t)), (2, .int what)]) rfl ?_
            exact IS _ (Or.inl ⟨rfl, fun q_z => by have := q_z.1; omega⟩)
          · have hsn : s_z ≤ n_z + 1 := (Nat.lt_or_ge (n_z + 1) s_z).elim (fun q_z => absurd ((Zn_lt (by omega) (by omega)).mpr q_z) h3_z) id
            refine Zgo hX 1 rfl (by (first | exact True.intro | assumption | (dsimp only [ZallP]; and_intros <;> (first | assumption | decide | omega | ((try simp (disch := omega) only [pk_mul, nI_add, Zcl_n]); exact Zin_n (by omega) (by decide)))))) ?_
            refine Zs_eq hX (List.cons_ne_nil _ _) (fun h4_z => ?_) (fun h4_z => ?_)
            · refine Zgo hX 2 rfl (by (first | exact True.intro | assumption | (dsimp only [ZallP]; and_intros <;> (first | assumption | decide | omega | ((try simp (disch := omega) only [pk_mul, nI_add, Zcl_n]); exact Zin_n (by omega) (by decide)))))) ?_
              refine Zs_sub (l' := [(4, .int mn), (5, .int le), (6, .int (nI s_z)), (7, .int (nI m_z)), (0, .ref 53), (1, .int (nI t)), (2, .int what)]) rfl ?_
              exact IS _ (Or.inr ⟨by decide, hsn⟩)
            · refine Zgo hX 7 rfl (by rw [pk_mul]; exact Zin_n (by omega) (by decide)) ?_
              simp (disch := omega) only [pk_mul, Zcl_n]
              rw [show M1 68 (24 * t) = M 68 (24 * t) from hsc 68 _ rfl]
              refine Zs_ine hX (List.cons_ne_nil _ _) (fun h5_z => ?_) (fun h5_z => ?_)
              · refine Zgo hX 1 rfl (by (first | exact True.intro | assumption | (dsimp only [ZallP]; and_intros <;> (first | assumption | decide | omega | ((try simp (disch := omega) only [pk_mul, nI_add, Zcl_n]); exact Zin_n (by omega) (by decide)))))) ?_
                refine Zs_sub (l' := [(4, .int mn), (5, .int le), (6, .int (nI s_z)), (7, .int (nI m_z)), (0, .ref 53), (1, .int (nI t)), (2, .int what)]) rfl ?_
                have hs0 : 0 < s_z := Nat.pos_of_ne_zero (fun q_z => h4_z (by rw [q_z]; rfl))
                exact IS _ (Or.inl ⟨rfl, fun q_z => h5_z (ZFit_0 q_z hs0)⟩)
              · refine Zgo hX 2 rfl (by (first | exact True.intro | assumption | (dsimp only [ZallP]; and_intros <;> (first | assumption | decide | omega | ((try simp (disch := omega) only [pk_mul, nI_add, Zcl_n]); exact Zin_n (by omega) (by decide)))))) ?_
                refine Zs_sub (l' := [(4, .int mn), (5, .int le), (6, .int (nI s_z)), (7, .int (nI m_z)), (0, .ref 53), (1, .int (nI t)), (2, .int what)]) rfl ?_
                exact IS _ (Or.inr ⟨by decide, hsn⟩)
      refine Zgo hX 11 rfl (Zin_n (by omega) (by decide)) ?_
      rw [et, show M 67 t = nI s_z from hs_z]
      refine Zs_sub (l' := [(4, .int (nI 0)), (5, .int (-(nI 1))), (6, .int (nI s_z)), (7, .int (nI 1000 - nI 1)), (0, .ref 53), (1, .int (nI t)), (2, .int what)]) rfl ?_
      refine L 1000 _ _ M (by decide) (Sc.rf _) ?_
      by_cases e_z : s_z = 0
      · exact Or.inl ⟨e_z, rfl, Or.inl ⟨rfl, rfl⟩⟩
      · refine Or.inr ⟨e_z, Or.inr ⟨?_, rfl, rfl⟩⟩
        rintro ⟨m0, g1, g2, -⟩
        omega
    · rw [hw_z]
      refine Zgo hX 3 rfl (by (first | exact True.intro | assumption | (dsimp only [ZallP]; and_intros <;> (first | assumption | decide | omega | ((try simp (disch := omega) only [pk_mul, nI_add, Zcl_n]); exact Zin_n (by omega) (by decide)))))) ?_
      refine Zs_eq hX (List.cons_ne_nil _ _) (fun q_z => False.elim (by revert q_z; decide)) (fun _ => ?_)
      refine Zs_sub (l' := [(3, .int (nI 1)), (0, .ref 53)]) rfl ?_
      exact TELL 1 _ (by decide) (Ffits_w h1_z hw_z (by decide)) rfl
    · rw [hw_z]
      refine Zgo hX 3 rfl (by (first | exact True.intro | assumption | (dsimp only [ZallP]; and_intros <;> (first | assumption | decide | omega | ((try simp (disch := omega) only [pk_mul, nI_add, Zcl_n]); exact Zin_n (by omega) (by decide)))))) ?_
      refine Zs_eq hX (List.cons_ne_nil _ _) (fun q_z => False.elim (by revert q_z; decide)) (fun _ => ?_)
      refine Zs_sub (l' := [(3, .int (nI 2)), (0, .ref 53)]) rfl ?_
      exact TELL 2 _ (by decide) (Ffits_w h1_z hw_z (by decide)) rfl
  · refine Zs_eq hX (List.cons_ne_nil _ _) (fun _ => ?_) (fun q_z => False.elim (by revert q_z; decide))
    refine Zgo hX 3 rfl (by (first | exact True.intro | assumption | (dsimp only [ZallP]; and_intros <;> (first | assumption | decide | omega | ((try simp (disch := omega) only [pk_mul, nI_add, Zcl_n]); exact Zin_n (by omega) (by decide)))))) ?_
    refine Zs_eq hX (List.cons_ne_nil _ _) (fun q_z => False.elim (by revert q_z; decide)) (fun _ => ?_)
    refine Zs_sub (l' := [(3, .int (nI 1)), (0, .ref 53)]) rfl ?_
    exact TELL 1 _ (by decide) (Ffits_1 h1_z) rfl
