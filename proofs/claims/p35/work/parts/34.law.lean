
theorem Zix {len i_z k_z : Nat} (hlen : len ≤ 100000) (hi_z : i_z + 6 ≤ len) (hk_z : k_z < 6) : vp_in (nI i_z + nI k_z) len := by
  rw [nI_add]
  exact Zin_n (by omega) (by omega)
theorem Zfi.seven {f_z : Nat → Int32} (h_z : Zfi f_z) : ∃ n_z, f_z 7 = nI n_z ∧ n_z ≤ 15 := by
  obtain ⟨n_z, g1, g2⟩ := h_z.n7
  exact ⟨n_z, g2, g1⟩

set_option maxRecDepth 20000 in
set_option maxHeartbeats 2000000 in
theorem Zlaw_knit {X : Zx} {fr i_z : Nat} {M : Zmem} (hX : ZOK X 196 fr Zt196) (hfr : 80 ≤ fr) (hlen : (zsc X).1 ≤ 100000) (hi_z : i_z + 6 ≤ (zsc X).1) (hg_z : Zgl M) (kk : ∀ M2, Zgl M2 → ZP X Zt196 (Zsf Zt196 1300) [(3, .int (nI i_z)), (0, .ref 99), (1, .ref 0), (2, .ref 53)] [] M2) : ZP X Zt196 (Zsf Zt196 192) [(3, .int (nI i_z)), (0, .ref 99), (1, .ref 0), (2, .ref 53)] [] M := by
  obtain ⟨h1_z, h2_z, h3_z, h4_z⟩ := id hg_z
  obtain ⟨hz_z, hfi⟩ := h1_z
  obtain ⟨n_z, hn_z, hn2⟩ := hfi.seven
  refine Zgo hX 16 rfl (by first | exact True.intro | (dsimp only [ZallP]; and_intros <;> exact Zix hlen hi_z (by decide))) ?_
  refine Zs_callv hX (List.cons_ne_nil _ _) (k_knit (M 54) n_z _ _ _ M hz_z hfi hn_z hn2) (by first | decide | omega) (by decide) rfl rfl rfl (by decide) (Nat.le_of_ble_eq_true rfl) (fun r_z M' hc_z => ?_)
  have hk_z := hc_z
  obtain ⟨rfl, -, hh⟩ := hc_z
  have e54 : M' 54 = M 54 := hh.f54
  obtain ⟨M1, rfl⟩ : ∃ M1, M1 = M' := ⟨_, rfl⟩
  refine Zgo hX 17 rfl (by first | exact True.intro | (dsimp only [ZallP]; and_intros <;> exact Zix hlen hi_z (by decide))) ?_
  refine Zs_callv hX (List.cons_ne_nil _ _) (s_knit n_z _ _ _ M1 (by rw [e54]; exact hfi) (by rw [e54]; exact hn_z) hn2) (by first | decide | omega) (by decide) rfl rfl rfl (by decide) (Nat.le_of_ble_eq_true rfl) (fun r_z M' hc_z => ?_)
  rw [e54] at hc_z
  have hs_z := hc_z
  obtain ⟨rfl, -⟩ := hc_z
  refine Zgo hX 2 rfl (by (first | exact True.intro | assumption | (dsimp only [ZallP]; and_intros <;> (first | assumption | decide | omega | ((try simp (disch := omega) only [pk_mul, nI_add, Zcl_n]); exact Zin_n (by omega) (by decide)))))) ?_
  exact kk _ (Zgl_A hg_z hk_z hs_z (Fknit_fi hfi hn_z hn2))

set_option maxRecDepth 20000 in
set_option maxHeartbeats 2000000 in
theorem Zlaw_rowIs {X : Zx} {fr i_z : Nat} {M : Zmem} (hX : ZOK X 196 fr Zt196) (hfr : 80 ≤ fr) (hlen : (zsc X).1 ≤ 100000) (hi_z : i_z + 6 ≤ (zsc X).1) (hg_z : Zgl M) (kk : ∀ M2, Zgl M2 → ZP X Zt196 (Zsf Zt196 1300) [(3, .int (nI i_z)), (0, .ref 99), (1, .ref 0), (2, .ref 53)] [] M2) : ZP X Zt196 (Zsf Zt196 235) [(3, .int (nI i_z)), (0, .ref 99), (1, .ref 0), (2, .ref 53)] [] M := by
  obtain ⟨h1_z, h2_z, h3_z, h4_z⟩ := id hg_z
  obtain ⟨hz_z, hfi⟩ := h1_z
  obtain ⟨n_z, hn_z, hn2⟩ := hfi.seven
  refine Zgo hX 11 rfl (by first | exact True.intro | (dsimp only [ZallP]; and_intros <;> exact Zix hlen hi_z (by decide))) ?_
  refine Zs_callv hX (List.cons_ne_nil _ _) (k_rowIs (M 54) n_z _ _ M hz_z hfi hn_z hn2) (by first | decide | omega) (by decide) rfl rfl rfl (by decide) (Nat.le_of_ble_eq_true rfl) (fun r_z M' hc_z => ?_)
  obtain ⟨rfl, hsc⟩ := hc_z
  have e54 : M' 54 = M 54 := hsc.f54
  obtain ⟨M1, rfl⟩ : ∃ M1, M1 = M' := ⟨_, rfl⟩
  refine Zgo hX 12 rfl (by first | exact True.intro | (dsimp only [ZallP]; and_intros <;> exact Zix hlen hi_z (by decide))) ?_
  refine Zs_callv hX (List.cons_ne_nil _ _) (s_rowIs n_z _ _ M1 (by rw [e54]; exact hfi) (by rw [e54]; exact hn_z) hn2) (by first | decide | omega) (by decide) rfl rfl rfl (by decide) (Nat.le_of_ble_eq_true rfl) (fun r_z M' hc_z => ?_)
  rw [e54] at hc_z
  obtain ⟨rfl, hsc2⟩ := hc_z
  refine Zgo hX 2 rfl (by (first | exact True.intro | assumption | (dsimp only [ZallP]; and_intros <;> (first | assumption | decide | omega | ((try simp (disch := omega) only [pk_mul, nI_add, Zcl_n]); exact Zin_n (by omega) (by decide)))))) ?_
  exact kk _ (Zgl_B hg_z hsc hsc2)

set_option maxRecDepth 20000 in
set_option maxHeartbeats 2000000 in
theorem Zlaw_become {X : Zx} {fr i_z : Nat} {M : Zmem} (hX : ZOK X 196 fr Zt196) (hfr : 80 ≤ fr) (hlen : (zsc X).1 ≤ 100000) (hi_z : i_z + 6 ≤ (zsc X).1) (hg_z : Zgl M) (kk : ∀ M2, Zgl M2 → ZP X Zt196 (Zsf Zt196 1300) [(3, .int (nI i_z)), (0, .ref 99), (1, .ref 0), (2, .ref 53)] [] M2) : ZP X Zt196 (Zsf Zt196 268) [(3, .int (nI i_z)), (0, .ref 99), (1, .ref 0), (2, .ref 53)] [] M := by
  obtain ⟨h1_z, h2_z, h3_z, h4_z⟩ := id hg_z
  obtain ⟨hz_z, hfi⟩ := h1_z
  obtain ⟨n_z, hn_z, hn2⟩ := hfi.seven
  refine Zgo hX 11 rfl (by first | exact True.intro | (dsimp only [ZallP]; and_intros <;> exact Zix hlen hi_z (by decide))) ?_
  refine Zs_callv hX (List.cons_ne_nil _ _) (k_become (M 54) n_z _ _ M hz_z hfi hn_z hn2) (by first | decide | omega) (by decide) rfl rfl rfl (by decide) (Nat.le_of_ble_eq_true rfl) (fun r_z M' hc_z => ?_)
  have hk_z := hc_z
  obtain ⟨rfl, -, hh⟩ := hc_z
  have e54 : M' 54 = M 54 := hh.f54
  obtain ⟨M1, rfl⟩ : ∃ M1, M1 = M' := ⟨_, rfl⟩
  refine Zgo hX 12 rfl (by first | exact True.intro | (dsimp only [ZallP]; and_intros <;> exact Zix hlen hi_z (by decide))) ?_
  refine Zs_callv hX (List.cons_ne_nil _ _) (s_become n_z _ _ M1 (by rw [e54]; exact hfi) (by rw [e54]; exact hn_z) hn2) (by first | decide | omega) (by decide) rfl rfl rfl (by decide) (Nat.le_of_ble_eq_true rfl) (fun r_z M' hc_z => ?_)
  rw [e54] at hc_z
  have hs_z := hc_z
  obtain ⟨rfl, -⟩ := hc_z
  refine Zgo hX 2 rfl (by (first | exact True.intro | assumption | (dsimp only [ZallP]; and_intros <;> (first | assumption | decide | omega | ((try simp (disch := omega) only [pk_mul, nI_add, Zcl_n]); exact Zin_n (by omega) (by decide)))))) ?_
  exact kk _ (Zgl_A hg_z hk_z hs_z (Fbecome_fi hfi hn2))

set_option maxRecDepth 20000 in
set_option maxHeartbeats 2000000 in
theorem Zlaw_as {X : Zx} {fr i_z : Nat} {M : Zmem} (hX : ZOK X 196 fr Zt196) (hfr : 80 ≤ fr) (hlen : (zsc X).1 ≤ 100000) (hi_z : i_z + 6 ≤ (zsc X).1) (hg_z : Zgl M) (kk : ∀ M2, Zgl M2 → ZP X Zt196 (Zsf Zt196 1300) [(3, .int (nI i_z)), (0, .ref 99), (1, .ref 0), (2, .ref 53)] [] M2) : ZP X Zt196 (Zsf Zt196 301) [(3, .int (nI i_z)), (0, .ref 99), (1, .ref 0), (2, .ref 53)] [] M := by
  obtain ⟨h1_z, h2_z, h3_z, h4_z⟩ := id hg_z
  obtain ⟨hz_z, hfi⟩ := h1_z
  obtain ⟨n_z, hn_z, hn2⟩ := hfi.seven
  refine Zgo hX 11 rfl (by first | exact True.intro | (dsimp only [ZallP]; and_intros <;> exact Zix hlen hi_z (by decide))) ?_
  refine Zs_callv hX (List.cons_ne_nil _ _) (k_as (M 54) n_z _ _ M hz_z hfi hn_z hn2) (by first | decide | omega) (by decide) rfl rfl rfl (by decide) (Nat.le_of_ble_eq_true rfl) (fun r_z M' hc_z => ?_)
  obtain ⟨rfl, hsc⟩ := hc_z
  have e54 : M' 54 = M 54 := hsc.f54
  obtain ⟨M1, rfl⟩ : ∃ M1, M1 = M' := ⟨_, rfl⟩
  refine Zgo hX 12 rfl (by first | exact True.intro | (dsimp only [ZallP]; and_intros <;> exact Zix hlen hi_z (by decide))) ?_
  refine Zs_callv hX (List.cons_ne_nil _ _) (s_as n_z _ _ M1 (by rw [e54]; exact hfi) (by rw [e54]; exact hn_z) hn2) (by first | decide | omega) (by decide) rfl rfl rfl (by decide) (Nat.le_of_ble_eq_true rfl) (fun r_z M' hc_z => ?_)
  rw [e54] at hc_z
  obtain ⟨rfl, hsc2⟩ := hc_z
  refine Zgo hX 2 rfl (by (first | exact True.intro | assumption | (dsimp only [ZallP]; and_intros <;> (first | assumption | decide | omega | ((try simp (disch := omega) only [pk_mul, nI_add, Zcl_n]); exact Zin_n (by omega) (by decide)))))) ?_
  exact kk _ (Zgl_B hg_z hsc hsc2)

set_option maxRecDepth 20000 in
set_option maxHeartbeats 2000000 in
theorem Zlaw_tie {X : Zx} {fr i_z : Nat} {M : Zmem} (hX : ZOK X 196 fr Zt196) (hfr : 80 ≤ fr) (hlen : (zsc X).1 ≤ 100000) (hi_z : i_z + 6 ≤ (zsc X).1) (hg_z : Zgl M) (kk : ∀ M2, Zgl M2 → ZP X Zt196 (Zsf Zt196 1300) [(3, .int (nI i_z)), (0, .ref 99), (1, .ref 0), (2, .ref 53)] [] M2) : ZP X Zt196 (Zsf Zt196 334) [(3, .int (nI i_z)), (0, .ref 99), (1, .ref 0), (2, .ref 53)] [] M := by
  obtain ⟨h1_z, h2_z, h3_z, h4_z⟩ := id hg_z
  obtain ⟨hz_z, hfi⟩ := h1_z
  obtain ⟨n_z, hn_z, hn2⟩ := hfi.seven
  refine Zgo hX 11 rfl (by first | exact True.intro | (dsimp only [ZallP]; and_intros <;> exact Zix hlen hi_z (by decide))) ?_
  refine Zs_callv hX (List.cons_ne_nil _ _) (k_tie (M 54) n_z _ _ M hz_z hfi hn_z hn2) (by first | decide | omega) (by decide) rfl rfl rfl (by decide) (Nat.le_of_ble_eq_true rfl) (fun r_z M' hc_z => ?_)
  have hk_z := hc_z
  obtain ⟨rfl, -, hh⟩ := hc_z
  have e54 : M' 54 = M 54 := hh.f54
  obtain ⟨M1, rfl⟩ : ∃ M1, M1 = M' := ⟨_, rfl⟩
  refine Zgo hX 12 rfl (by first | exact True.intro | (dsimp only [ZallP]; and_intros <;> exact Zix hlen hi_z (by decide))) ?_
  refine Zs_callv hX (List.cons_ne_nil _ _) (s_tie n_z _ _ M1 (by rw [e54]; exact hfi) (by rw [e54]; exact hn_z) hn2) (by first | decide | omega) (by decide) rfl rfl rfl (by decide) (Nat.le_of_ble_eq_true rfl) (fun r_z M' hc_z => ?_)
  rw [e54] at hc_z
  have hs_z := hc_z
  obtain ⟨rfl, -⟩ := hc_z
  refine Zgo hX 2 rfl (by (first | exact True.intro | assumption | (dsimp only [ZallP]; and_intros <;> (first | assumption | decide | omega | ((try simp (disch := omega) only [pk_mul, nI_add, Zcl_n]); exact Zin_n (by omega) (by decide)))))) ?_
  exact kk _ (Zgl_A hg_z hk_z hs_z (Ftie_fi hfi hn2))

set_option maxRecDepth 20000 in
set_option maxHeartbeats 2000000 in
theorem Zlaw_drop {X : Zx} {fr i_z : Nat} {M : Zmem} (hX : ZOK X 196 fr Zt196) (hfr : 80 ≤ fr) (hlen : (zsc X).1 ≤ 100000) (hi_z : i_z + 6 ≤ (zsc X).1) (hg_z : Zgl M) (kk : ∀ M2, Zgl M2 → ZP X Zt196 (Zsf Zt196 1300) [(3, .int (nI i_z)), (0, .ref 99), (1, .ref 0), (2, .ref 53)] [] M2) : ZP X Zt196 (Zsf Zt196 367) [(3, .int (nI i_z)), (0, .ref 99), (1, .ref 0), (2, .ref 53)] [] M := by
  obtain ⟨h1_z, h2_z, h3_z, h4_z⟩ := id hg_z
  obtain ⟨hz_z, hfi⟩ := h1_z
  obtain ⟨n_z, hn_z, hn2⟩ := hfi.seven
  refine Zgo hX 6 rfl (by first | exact True.intro | (dsimp only [ZallP]; and_intros <;> exact Zix hlen hi_z (by decide))) ?_
  refine Zs_callv hX (List.cons_ne_nil _ _) (k_drop (M 54) n_z _ M hz_z hfi hn_z hn2) (by first | decide | omega) (by decide) rfl rfl rfl (by decide) (Nat.le_of_ble_eq_true rfl) (fun r_z M' hc_z => ?_)
  have hk_z := hc_z
  obtain ⟨rfl, -, hh⟩ := hc_z
  have e54 : M' 54 = M 54 := hh.f54
  obtain ⟨M1, rfl⟩ : ∃ M1, M1 = M' := ⟨_, rfl⟩
  refine Zgo hX 7 rfl (by first | exact True.intro | (dsimp only [ZallP]; and_intros <;> exact Zix hlen hi_z (by decide))) ?_
  refine Zs_callv hX (List.cons_ne_nil _ _) (s_drop n_z _ M1 (by rw [e54]; exact hfi) (by rw [e54]; exact hn_z) hn2) (by first | decide | omega) (by decide) rfl rfl rfl (by decide) (Nat.le_of_ble_eq_true rfl) (fun r_z M' hc_z => ?_)
  rw [e54] at hc_z
  have hs_z := hc_z
  obtain ⟨rfl, -⟩ := hc_z
  refine Zgo hX 2 rfl (by (first | exact True.intro | assumption | (dsimp only [ZallP]; and_intros <;> (first | assumption | decide | omega | ((try simp (disch := omega) only [pk_mul, nI_add, Zcl_n]); exact Zin_n (by omega) (by decide)))))) ?_
  exact kk _ (Zgl_A hg_z hk_z hs_z (Fdrop_fi hfi hn_z hn2))

set_option maxRecDepth 20000 in
set_option maxHeartbeats 2000000 in
theorem Zlaw_tense {X : Zx} {fr i_z : Nat} {M : Zmem} (hX : ZOK X 196 fr Zt196) (hfr : 80 ≤ fr) (hlen : (zsc X).1 ≤ 100000) (hi_z : i_z + 6 ≤ (zsc X).1) (hg_z : Zgl M) (kk : ∀ M2, Zgl M2 → ZP X Zt196 (Zsf Zt196 1300) [(3, .int (nI i_z)), (0, .ref 99), (1, .ref 0), (2, .ref 53)] [] M2) : ZP X Zt196 (Zsf Zt196 390) [(3, .int (nI i_z)), (0, .ref 99), (1, .ref 0), (2, .ref 53)] [] M := by
  obtain ⟨h1_z, h2_z, h3_z, h4_z⟩ := id hg_z
  obtain ⟨hz_z, hfi⟩ := h1_z
  obtain ⟨n_z, hn_z, hn2⟩ := hfi.seven
  refine Zgo hX 11 rfl (by first | exact True.intro | (dsimp only [ZallP]; and_intros <;> exact Zix hlen hi_z (by decide))) ?_
  refine Zs_callv hX (List.cons_ne_nil _ _) (k_tense (M 54) n_z _ _ M hz_z hfi hn_z hn2) (by first | decide | omega) (by decide) rfl rfl rfl (by decide) (Nat.le_of_ble_eq_true rfl) (fun r_z M' hc_z => ?_)
  have hk_z := hc_z
  obtain ⟨rfl, -, hh⟩ := hc_z
  have e54 : M' 54 = M 54 := hh.f54
  obtain ⟨M1, rfl⟩ : ∃ M1, M1 = M' := ⟨_, rfl⟩
  refine Zgo hX 12 rfl (by first | exact True.intro | (dsimp only [ZallP]; and_intros <;> exact Zix hlen hi_z (by decide))) ?_
  refine Zs_callv hX (List.cons_ne_nil _ _) (s_tense n_z _ _ M1 (by rw [e54]; exact hfi) (by rw [e54]; exact hn_z) hn2) (by first | decide | omega) (by decide) rfl rfl rfl (by decide) (Nat.le_of_ble_eq_true rfl) (fun r_z M' hc_z => ?_)
  rw [e54] at hc_z
  have hs_z := hc_z
  obtain ⟨rfl, -⟩ := hc_z
  refine Zgo hX 2 rfl (by (first | exact True.intro | assumption | (dsimp only [ZallP]; and_intros <;> (first | assumption | decide | omega | ((try simp (disch := omega) only [pk_mul, nI_add, Zcl_n]); exact Zin_n (by omega) (by decide)))))) ?_
  exact kk _ (Zgl_A hg_z hk_z hs_z (Ftense_fi hfi hn2))

set_option maxRecDepth 20000 in
set_option maxHeartbeats 2000000 in
theorem Zlaw_pull {X : Zx} {fr i_z : Nat} {M : Zmem} (hX : ZOK X 196 fr Zt196) (hfr : 80 ≤ fr) (hlen : (zsc X).1 ≤ 100000) (hi_z : i_z + 6 ≤ (zsc X).1) (hg_z : Zgl M) (kk : ∀ M2, Zgl M2 → ZP X Zt196 (Zsf Zt196 1300) [(3, .int (nI i_z)), (0, .ref 99), (1, .ref 0), (2, .ref 53)] [] M2) : ZP X Zt196 (Zsf Zt196 423) [(3, .int (nI i_z)), (0, .ref 99), (1, .ref 0), (2, .ref 53)] [] M := by
  obtain ⟨h1_z, h2_z, h3_z, h4_z⟩ := id hg_z
  obtain ⟨hz_z, hfi⟩ := h1_z
  obtain ⟨n_z, hn_z, hn2⟩ := hfi.seven
  refine Zgo hX 6 rfl (by first | exact True.intro | (dsimp only [ZallP]; and_intros <;> exact Zix hlen hi_z (by decide))) ?_
  refine Zs_callv hX (List.cons_ne_nil _ _) (k_pull (M 54) n_z _ M hz_z hfi hn_z hn2) (by first | decide | omega) (by decide) rfl rfl rfl (by decide) (Nat.le_of_ble_eq_true rfl) (fun r_z M' hc_z => ?_)
  have hk_z := hc_z
  obtain ⟨rfl, -, hh⟩ := hc_z
  have e54 : M' 54 = M 54 := hh.f54
  obtain ⟨M1, rfl⟩ : ∃ M1, M1 = M' := ⟨_, rfl⟩
  refine Zgo hX 7 rfl (by first | exact True.intro | (dsimp only [ZallP]; and_intros <;> exact Zix hlen hi_z (by decide))) ?_
  refine Zs_callv hX (List.cons_ne_nil _ _) (s_pull n_z _ M1 (by rw [e54]; exact hfi) (by rw [e54]; exact hn_z) hn2) (by first | decide | omega) (by decide) rfl rfl rfl (by decide) (Nat.le_of_ble_eq_true rfl) (fun r_z M' hc_z => ?_)
  rw [e54] at hc_z
  have hs_z := hc_z
  obtain ⟨rfl, -⟩ := hc_z
  refine Zgo hX 2 rfl (by (first | exact True.intro | assumption | (dsimp only [ZallP]; and_intros <;> (first | assumption | decide | omega | ((try simp (disch := omega) only [pk_mul, nI_add, Zcl_n]); exact Zin_n (by omega) (by decide)))))) ?_
  exact kk _ (Zgl_A hg_z hk_z hs_z (Fpull_fi hfi hn_z hn2))

set_option maxRecDepth 20000 in
set_option maxHeartbeats 2000000 in
theorem Zlaw_wind {X : Zx} {fr i_z : Nat} {M : Zmem} (hX : ZOK X 196 fr Zt196) (hfr : 80 ≤ fr) (hlen : (zsc X).1 ≤ 100000) (hi_z : i_z + 6 ≤ (zsc X).1) (hg_z : Zgl M) (kk : ∀ M2, Zgl M2 → ZP X Zt196 (Zsf Zt196 1300) [(3, .int (nI i_z)), (0, .ref 99), (1, .ref 0), (2, .ref 53)] [] M2) : ZP X Zt196 (Zsf Zt196 446) [(3, .int (nI i_z)), (0, .ref 99), (1, .ref 0), (2, .ref 53)] [] M := by
  obtain ⟨h1_z, h2_z, h3_z, h4_z⟩ := id hg_z
  obtain ⟨hz_z, hfi⟩ := h1_z
  obtain ⟨n_z, hn_z, hn2⟩ := hfi.seven
  refine Zgo hX 11 rfl (by first | exact True.intro | (dsimp only [ZallP]; and_intros <;> exact Zix hlen hi_z (by decide))) ?_
  refine Zs_callv hX (List.cons_ne_nil _ _) (k_wind (M 54) n_z _ _ M hz_z hfi hn_z hn2) (by first | decide | omega) (by decide) rfl rfl rfl (by decide) (Nat.le_of_ble_eq_true rfl) (fun r_z M' hc_z => ?_)
  have hk_z := hc_z
  obtain ⟨rfl, -, hh⟩ := hc_z
  have e54 : M' 54 = M 54 := hh.f54
  obtain ⟨M1, rfl⟩ : ∃ M1, M1 = M' := ⟨_, rfl⟩
  refine Zgo hX 12 rfl (by first | exact True.intro | (dsimp only [ZallP]; and_intros <;> exact Zix hlen hi_z (by decide))) ?_
  refine Zs_callv hX (List.cons_ne_nil _ _) (s_wind n_z _ _ M1 (by rw [e54]; exact hfi) (by rw [e54]; exact hn_z) hn2) (by first | decide | omega) (by decide) rfl rfl rfl (by decide) (Nat.le_of_ble_eq_true rfl) (fun r_z M' hc_z => ?_)
  rw [e54] at hc_z
  have hs_z := hc_z
  obtain ⟨rfl, -⟩ := hc_z
  refine Zgo hX 2 rfl (by (first | exact True.intro | assumption | (dsimp only [ZallP]; and_intros <;> (first | assumption | decide | omega | ((try simp (disch := omega) only [pk_mul, nI_add, Zcl_n]); exact Zin_n (by omega) (by decide)))))) ?_
  exact kk _ (Zgl_A hg_z hk_z hs_z (Fwind_fi hfi))

set_option maxRecDepth 20000 in
set_option maxHeartbeats 2000000 in
theorem Zlaw_feed {X : Zx} {fr i_z : Nat} {M : Zmem} (hX : ZOK X 196 fr Zt196) (hfr : 80 ≤ fr) (hlen : (zsc X).1 ≤ 100000) (hi_z : i_z + 6 ≤ (zsc X).1) (hg_z : Zgl M) (kk : ∀ M2, Zgl M2 → ZP X Zt196 (Zsf Zt196 1300) [(3, .int (nI i_z)), (0, .ref 99), (1, .ref 0), (2, .ref 53)] [] M2) : ZP X Zt196 (Zsf Zt196 479) [(3, .int (nI i_z)), (0, .ref 99), (1, .ref 0), (2, .ref 53)] [] M := by
  obtain ⟨h1_z, h2_z, h3_z, h4_z⟩ := id hg_z
  obtain ⟨hz_z, hfi⟩ := h1_z
  obtain ⟨n_z, hn_z, hn2⟩ := hfi.seven
  refine Zgo hX 23 rfl (by first | exact True.intro | (dsimp only [ZallP]; and_intros <;> exact Zix hlen hi_z (by decide))) ?_
  refine Zs_callv hX (List.cons_ne_nil _ _) (k_feed (M 54) n_z _ _ M hz_z hfi hn_z hn2) (by first | decide | omega) (by decide) rfl rfl rfl (by decide) (Nat.le_of_ble_eq_true rfl) (fun r_z M' hc_z => ?_)
  have hk_z := hc_z
  obtain ⟨rfl, -, hh⟩ := hc_z
  have e54 : M' 54 = M 54 := hh.f54
  obtain ⟨M1, rfl⟩ : ∃ M1, M1 = M' := ⟨_, rfl⟩
  refine Zgo hX 24 rfl (by first | exact True.intro | (dsimp only [ZallP]; and_intros <;> exact Zix hlen hi_z (by decide))) ?_
  refine Zs_callv hX (List.cons_ne_nil _ _) (s_feed n_z _ _ M1 (by rw [e54]; exact hfi) (by rw [e54]; exact hn_z) hn2) (by first | decide | omega) (by decide) rfl rfl rfl (by decide) (Nat.le_of_ble_eq_true rfl) (fun r_z M' hc_z => ?_)
  rw [e54] at hc_z
  have hs_z := hc_z
  obtain ⟨rfl, -⟩ := hc_z
  refine Zgo hX 2 rfl (by (first | exact True.intro | assumption | (dsimp only [ZallP]; and_intros <;> (first | assumption | decide | omega | ((try simp (disch := omega) only [pk_mul, nI_add, Zcl_n]); exact Zin_n (by omega) (by decide)))))) ?_
  exact kk _ (Zgl_A hg_z hk_z hs_z (Ffeed_fi hfi))

set_option maxRecDepth 20000 in
set_option maxHeartbeats 2000000 in
theorem Zlaw_text {X : Zx} {fr i_z : Nat} {M : Zmem} (hX : ZOK X 196 fr Zt196) (hfr : 80 ≤ fr) (hlen : (zsc X).1 ≤ 100000) (hi_z : i_z + 6 ≤ (zsc X).1) (hg_z : Zgl M) (kk : ∀ M2, Zgl M2 → ZP X Zt196 (Zsf Zt196 1300) [(3, .int (nI i_z)), (0, .ref 99), (1, .ref 0), (2, .ref 53)] [] M2) : ZP X Zt196 (Zsf Zt196 542) [(3, .int (nI i_z)), (0, .ref 99), (1, .ref 0), (2, .ref 53)] [] M := by
  obtain ⟨h1_z, h2_z, h3_z, h4_z⟩ := id hg_z
  obtain ⟨hz_z, hfi⟩ := h1_z
  obtain ⟨n_z, hn_z, hn2⟩ := hfi.seven
  refine Zgo hX 6 rfl (by first | exact True.intro | (dsimp only [ZallP]; and_intros <;> exact Zix hlen hi_z (by decide))) ?_
  refine Zs_callv hX (List.cons_ne_nil _ _) (k_text (M 54) n_z _ M hz_z hfi hn_z hn2) (by first | decide | omega) (by decide) rfl rfl rfl (by decide) (Nat.le_of_ble_eq_true rfl) (fun r_z M' hc_z => ?_)
  have hk_z := hc_z
  obtain ⟨rfl, -, hh⟩ := hc_z
  have e54 : M' 54 = M 54 := hh.f54
  obtain ⟨M1, rfl⟩ : ∃ M1, M1 = M' := ⟨_, rfl⟩
  refine Zgo hX 7 rfl (by first | exact True.intro | (dsimp only [ZallP]; and_intros <;> exact Zix hlen hi_z (by decide))) ?_
  refine Zs_callv hX (List.cons_ne_nil _ _) (s_text n_z _ M1 (by rw [e54]; exact hfi) (by rw [e54]; exact hn_z) hn2) (by first | decide | omega) (by decide) rfl rfl rfl (by decide) (Nat.le_of_ble_eq_true rfl) (fun r_z M' hc_z => ?_)
  rw [e54] at hc_z
  have hs_z := hc_z
  obtain ⟨rfl, -⟩ := hc_z
  refine Zgo hX 2 rfl (by (first | exact True.intro | assumption | (dsimp only [ZallP]; and_intros <;> (first | assumption | decide | omega | ((try simp (disch := omega) only [pk_mul, nI_add, Zcl_n]); exact Zin_n (by omega) (by decide)))))) ?_
  exact kk _ (Zgl_A hg_z hk_z hs_z (Ftext_fi hfi))

set_option maxRecDepth 20000 in
set_option maxHeartbeats 2000000 in
theorem Zlaw_untell {X : Zx} {fr i_z : Nat} {M : Zmem} (hX : ZOK X 196 fr Zt196) (hfr : 80 ≤ fr) (hlen : (zsc X).1 ≤ 100000) (hi_z : i_z + 6 ≤ (zsc X).1) (hg_z : Zgl M) (kk : ∀ M2, Zgl M2 → ZP X Zt196 (Zsf Zt196 1300) [(3, .int (nI i_z)), (0, .ref 99), (1, .ref 0), (2, .ref 53)] [] M2) : ZP X Zt196 (Zsf Zt196 565) [(3, .int (nI i_z)), (0, .ref 99), (1, .ref 0), (2, .ref 53)] [] M := by
  obtain ⟨h1_z, h2_z, h3_z, h4_z⟩ := id hg_z
  obtain ⟨hz_z, hfi⟩ := h1_z
  obtain ⟨n_z, hn_z, hn2⟩ := hfi.seven
  refine Zgo hX 6 rfl (by first | exact True.intro | (dsimp only [ZallP]; and_intros <;> exact Zix hlen hi_z (by decide))) ?_
  refine Zs_callv hX (List.cons_ne_nil _ _) (k_untell (M 54) n_z _ M hz_z hfi hn_z hn2) (by first | decide | omega) (by decide) rfl rfl rfl (by decide) (Nat.le_of_ble_eq_true rfl) (fun r_z M' hc_z => ?_)
  have hk_z := hc_z
  obtain ⟨rfl, -, hh⟩ := hc_z
  have e54 : M' 54 = M 54 := hh.f54
  obtain ⟨M1, rfl⟩ : ∃ M1, M1 = M' := ⟨_, rfl⟩
  refine Zgo hX 7 rfl (by first | exact True.intro | (dsimp only [ZallP]; and_intros <;> exact Zix hlen hi_z (by decide))) ?_
  refine Zs_callv hX (List.cons_ne_nil _ _) (s_untell n_z _ M1 (by rw [e54]; exact hfi) (by rw [e54]; exact hn_z) hn2) (by first | decide | omega) (by decide) rfl rfl rfl (by decide) (Nat.le_of_ble_eq_true rfl) (fun r_z M' hc_z => ?_)
  rw [e54] at hc_z
  have hs_z := hc_z
  obtain ⟨rfl, -⟩ := hc_z
  refine Zgo hX 2 rfl (by (first | exact True.intro | assumption | (dsimp only [ZallP]; and_intros <;> (first | assumption | decide | omega | ((try simp (disch := omega) only [pk_mul, nI_add, Zcl_n]); exact Zin_n (by omega) (by decide)))))) ?_
  exact kk _ (Zgl_A hg_z hk_z hs_z (Funtell_fi hfi))

set_option maxRecDepth 20000 in
set_option maxHeartbeats 2000000 in
theorem Zlaw_law {X : Zx} {fr i_z : Nat} {M : Zmem} (hX : ZOK X 196 fr Zt196) (hfr : 80 ≤ fr) (hlen : (zsc X).1 ≤ 100000) (hi_z : i_z + 6 ≤ (zsc X).1) (hg_z : Zgl M) (kk : ∀ M2, Zgl M2 → ZP X Zt196 (Zsf Zt196 1300) [(3, .int (nI i_z)), (0, .ref 99), (1, .ref 0), (2, .ref 53)] [] M2) : ZP X Zt196 (Zsf Zt196 588) [(3, .int (nI i_z)), (0, .ref 99), (1, .ref 0), (2, .ref 53)] [] M := by
  obtain ⟨h1_z, h2_z, h3_z, h4_z⟩ := id hg_z
  obtain ⟨hz_z, hfi⟩ := h1_z
  obtain ⟨n_z, hn_z, hn2⟩ := hfi.seven
  refine Zgo hX 21 rfl (by first | exact True.intro | (dsimp only [ZallP]; and_intros <;> exact Zix hlen hi_z (by decide))) ?_
  refine Zs_callv hX (List.cons_ne_nil _ _) (k_law (M 54) n_z _ _ _ _ M hz_z hfi hn_z hn2) (by first | decide | omega) (by decide) rfl rfl rfl (by decide) (Nat.le_of_ble_eq_true rfl) (fun r_z M' hc_z => ?_)
  obtain ⟨⟨v_z, rfl⟩, hsc⟩ := hc_z
  have e54 : M' 54 = M 54 := hsc.f54
  obtain ⟨M1, rfl⟩ : ∃ M1, M1 = M' := ⟨_, rfl⟩
  refine Zgo hX 22 rfl (by first | exact True.intro | (dsimp only [ZallP]; and_intros <;> exact Zix hlen hi_z (by decide))) ?_
  refine Zs_callv hX (List.cons_ne_nil _ _) (s_law n_z _ _ _ _ M1 (by rw [e54]; exact hfi) (by rw [e54]; exact hn_z) hn2) (by first | decide | omega) (by decide) rfl rfl rfl (by decide) (Nat.le_of_ble_eq_true rfl) (fun r_z M' hc_z => ?_)
  obtain ⟨⟨v2_z, rfl⟩, hsc2⟩ := hc_z
  refine Zgo hX 2 rfl (by (first | exact True.intro | assumption | (dsimp only [ZallP]; and_intros <;> (first | assumption | decide | omega | ((try simp (disch := omega) only [pk_mul, nI_add, Zcl_n]); exact Zin_n (by omega) (by decide)))))) ?_
  exact kk _ (Zgl_B hg_z hsc hsc2)

set_option maxRecDepth 20000 in
set_option maxHeartbeats 2000000 in
theorem Zlaw_season {X : Zx} {fr i_z : Nat} {M : Zmem} (hX : ZOK X 196 fr Zt196) (hfr : 80 ≤ fr) (hlen : (zsc X).1 ≤ 100000) (hi_z : i_z + 6 ≤ (zsc X).1) (hg_z : Zgl M) (kk : ∀ M2, Zgl M2 → ZP X Zt196 (Zsf Zt196 1300) [(3, .int (nI i_z)), (0, .ref 99), (1, .ref 0), (2, .ref 53)] [] M2) : ZP X Zt196 (Zsf Zt196 641) [(3, .int (nI i_z)), (0, .ref 99), (1, .ref 0), (2, .ref 53)] [] M := by
  obtain ⟨h1_z, h2_z, h3_z, h4_z⟩ := id hg_z
  obtain ⟨hz_z, hfi⟩ := h1_z
  obtain ⟨n_z, hn_z, hn2⟩ := hfi.seven
  refine Zgo hX 6 rfl (by first | exact True.intro | (dsimp only [ZallP]; and_intros <;> exact Zix hlen hi_z (by decide))) ?_
  refine Zs_callv hX (List.cons_ne_nil _ _) (k_season (M 54) n_z _ M hz_z hfi hn_z hn2) (by first | decide | omega) (by decide) rfl rfl rfl (by decide) (Nat.le_of_ble_eq_true rfl) (fun r_z M' hc_z => ?_)
  have hk_z := hc_z
  obtain ⟨rfl, -, hh⟩ := hc_z
  have e54 : M' 54 = M 54 := hh.f54
  obtain ⟨M1, rfl⟩ : ∃ M1, M1 = M' := ⟨_, rfl⟩
  refine Zgo hX 7 rfl (by first | exact True.intro | (dsimp only [ZallP]; and_intros <;> exact Zix hlen hi_z (by decide))) ?_
  refine Zs_callv hX (List.cons_ne_nil _ _) (s_season n_z _ M1 (by rw [e54]; exact hfi) (by rw [e54]; exact hn_z) hn2) (by first | decide | omega) (by decide) rfl rfl rfl (by decide) (Nat.le_of_ble_eq_true rfl) (fun r_z M' hc_z => ?_)
  rw [e54] at hc_z
  have hs_z := hc_z
  obtain ⟨rfl, -⟩ := hc_z
  refine Zgo hX 2 rfl (by (first | exact True.intro | assumption | (dsimp only [ZallP]; and_intros <;> (first | assumption | decide | omega | ((try simp (disch := omega) only [pk_mul, nI_add, Zcl_n]); exact Zin_n (by omega) (by decide)))))) ?_
  exact kk _ (Zgl_A hg_z hk_z hs_z (Fseason_fi hfi hn2))

set_option maxRecDepth 20000 in
set_option maxHeartbeats 2000000 in
theorem Zlaw_loose {X : Zx} {fr i_z : Nat} {M : Zmem} (hX : ZOK X 196 fr Zt196) (hfr : 80 ≤ fr) (hlen : (zsc X).1 ≤ 100000) (hi_z : i_z + 6 ≤ (zsc X).1) (hg_z : Zgl M) (kk : ∀ M2, Zgl M2 → ZP X Zt196 (Zsf Zt196 1300) [(3, .int (nI i_z)), (0, .ref 99), (1, .ref 0), (2, .ref 53)] [] M2) : ZP X Zt196 (Zsf Zt196 664) [(3, .int (nI i_z)), (0, .ref 99), (1, .ref 0), (2, .ref 53)] [] M := by
  obtain ⟨h1_z, h2_z, h3_z, h4_z⟩ := id hg_z
  obtain ⟨hz_z, hfi⟩ := h1_z
  obtain ⟨n_z, hn_z, hn2⟩ := hfi.seven
  refine Zgo hX 6 rfl (by first | exact True.intro | (dsimp only [ZallP]; and_intros <;> exact Zix hlen hi_z (by decide))) ?_
  refine Zs_callv hX (List.cons_ne_nil _ _) (k_loose (M 54) n_z _ M hz_z hfi hn_z hn2) (by first | decide | omega) (by decide) rfl rfl rfl (by decide) (Nat.le_of_ble_eq_true rfl) (fun r_z M' hc_z => ?_)
  have hk_z := hc_z
  obtain ⟨rfl, -, hh⟩ := hc_z
  have e54 : M' 54 = M 54 := hh.f54
  obtain ⟨M1, rfl⟩ : ∃ M1, M1 = M' := ⟨_, rfl⟩
  refine Zgo hX 7 rfl (by first | exact True.intro | (dsimp only [ZallP]; and_intros <;> exact Zix hlen hi_z (by decide))) ?_
  refine Zs_callv hX (List.cons_ne_nil _ _) (s_loose n_z _ M1 (by rw [e54]; exact hfi) (by rw [e54]; exact hn_z) hn2) (by first | decide | omega) (by decide) rfl rfl rfl (by decide) (Nat.le_of_ble_eq_true rfl) (fun r_z M' hc_z => ?_)
  rw [e54] at hc_z
  have hs_z := hc_z
  obtain ⟨rfl, -⟩ := hc_z
  refine Zgo hX 2 rfl (by (first | exact True.intro | assumption | (dsimp only [ZallP]; and_intros <;> (first | assumption | decide | omega | ((try simp (disch := omega) only [pk_mul, nI_add, Zcl_n]); exact Zin_n (by omega) (by decide)))))) ?_
  exact kk _ (Zgl_A hg_z hk_z hs_z (Floose_fi hfi hn_z hn2))

set_option maxRecDepth 20000 in
set_option maxHeartbeats 2000000 in
theorem Zlaw_seed {X : Zx} {fr i_z : Nat} {M : Zmem} (hX : ZOK X 196 fr Zt196) (hfr : 80 ≤ fr) (hlen : (zsc X).1 ≤ 100000) (hi_z : i_z + 6 ≤ (zsc X).1) (hg_z : Zgl M) (kk : ∀ M2, Zgl M2 → ZP X Zt196 (Zsf Zt196 1300) [(3, .int (nI i_z)), (0, .ref 99), (1, .ref 0), (2, .ref 53)] [] M2) : ZP X Zt196 (Zsf Zt196 687) [(3, .int (nI i_z)), (0, .ref 99), (1, .ref 0), (2, .ref 53)] [] M := by
  obtain ⟨h1_z, h2_z, h3_z, h4_z⟩ := id hg_z
  obtain ⟨hz_z, hfi⟩ := h1_z
  obtain ⟨n_z, hn_z, hn2⟩ := hfi.seven
  refine Zgo hX 6 rfl (by first | exact True.intro | (dsimp only [ZallP]; and_intros <;> exact Zix hlen hi_z (by decide))) ?_
  refine Zs_callv hX (List.cons_ne_nil _ _) (k_seed (M 54) n_z _ M hz_z hfi hn_z hn2) (by first | decide | omega) (by decide) rfl rfl rfl (by decide) (Nat.le_of_ble_eq_true rfl) (fun r_z M' hc_z => ?_)
  have hk_z := hc_z
  obtain ⟨rfl, -, hh⟩ := hc_z
  have e54 : M' 54 = M 54 := hh.f54
  obtain ⟨M1, rfl⟩ : ∃ M1, M1 = M' := ⟨_, rfl⟩
  refine Zgo hX 7 rfl (by first | exact True.intro | (dsimp only [ZallP]; and_intros <;> exact Zix hlen hi_z (by decide))) ?_
  refine Zs_callv hX (List.cons_ne_nil _ _) (s_seed n_z _ M1 (by rw [e54]; exact hfi) (by rw [e54]; exact hn_z) hn2) (by first | decide | omega) (by decide) rfl rfl rfl (by decide) (Nat.le_of_ble_eq_true rfl) (fun r_z M' hc_z => ?_)
  rw [e54] at hc_z
  have hs_z := hc_z
  obtain ⟨rfl, -⟩ := hc_z
  refine Zgo hX 2 rfl (by (first | exact True.intro | assumption | (dsimp only [ZallP]; and_intros <;> (first | assumption | decide | omega | ((try simp (disch := omega) only [pk_mul, nI_add, Zcl_n]); exact Zin_n (by omega) (by decide)))))) ?_
  exact kk _ (Zgl_A hg_z hk_z hs_z (Fseed_fi hfi))

set_option maxRecDepth 20000 in
set_option maxHeartbeats 2000000 in
theorem Zlaw_flow {X : Zx} {fr i_z : Nat} {M : Zmem} (hX : ZOK X 196 fr Zt196) (hfr : 80 ≤ fr) (hlen : (zsc X).1 ≤ 100000) (hi_z : i_z + 6 ≤ (zsc X).1) (hg_z : Zgl M) (kk : ∀ M2, Zgl M2 → ZP X Zt196 (Zsf Zt196 1300) [(3, .int (nI i_z)), (0, .ref 99), (1, .ref 0), (2, .ref 53)] [] M2) : ZP X Zt196 (Zsf Zt196 710) [(3, .int (nI i_z)), (0, .ref 99), (1, .ref 0), (2, .ref 53)] [] M := by
  obtain ⟨h1_z, h2_z, h3_z, h4_z⟩ := id hg_z
  obtain ⟨hz_z, hfi⟩ := h1_z
  obtain ⟨n_z, hn_z, hn2⟩ := hfi.seven
  refine Zgo hX 16 rfl (by first | exact True.intro | (dsimp only [ZallP]; and_intros <;> exact Zix hlen hi_z (by decide))) ?_
  refine Zs_callv hX (List.cons_ne_nil _ _) (k_flow (M 54) n_z _ _ _ M hz_z hfi hn_z hn2) (by first | decide | omega) (by decide) rfl rfl rfl (by decide) (Nat.le_of_ble_eq_true rfl) (fun r_z M' hc_z => ?_)
  obtain ⟨rfl, hsc⟩ := hc_z
  have e54 : M' 54 = M 54 := hsc.f54
  obtain ⟨M1, rfl⟩ : ∃ M1, M1 = M' := ⟨_, rfl⟩
  refine Zgo hX 17 rfl (by first | exact True.intro | (dsimp only [ZallP]; and_intros <;> exact Zix hlen hi_z (by decide))) ?_
  refine Zs_callv hX (List.cons_ne_nil _ _) (s_flow n_z _ _ _ M1 (by rw [e54]; exact hfi) (by rw [e54]; exact hn_z) hn2) (by first | decide | omega) (by decide) rfl rfl rfl (by decide) (Nat.le_of_ble_eq_true rfl) (fun r_z M' hc_z => ?_)
  rw [e54] at hc_z
  obtain ⟨rfl, hsc2⟩ := hc_z
  refine Zgo hX 2 rfl (by (first | exact True.intro | assumption | (dsimp only [ZallP]; and_intros <;> (first | assumption | decide | omega | ((try simp (disch := omega) only [pk_mul, nI_add, Zcl_n]); exact Zin_n (by omega) (by decide)))))) ?_
  exact kk _ (Zgl_B hg_z hsc hsc2)

set_option maxRecDepth 20000 in
set_option maxHeartbeats 2000000 in
theorem Zlaw_course {X : Zx} {fr i_z : Nat} {M : Zmem} (hX : ZOK X 196 fr Zt196) (hfr : 80 ≤ fr) (hlen : (zsc X).1 ≤ 100000) (hi_z : i_z + 6 ≤ (zsc X).1) (hg_z : Zgl M) (kk : ∀ M2, Zgl M2 → ZP X Zt196 (Zsf Zt196 1300) [(3, .int (nI i_z)), (0, .ref 99), (1, .ref 0), (2, .ref 53)] [] M2) : ZP X Zt196 (Zsf Zt196 753) [(3, .int (nI i_z)), (0, .ref 99), (1, .ref 0), (2, .ref 53)] [] M := by
  obtain ⟨h1_z, h2_z, h3_z, h4_z⟩ := id hg_z
  obtain ⟨hz_z, hfi⟩ := h1_z
  obtain ⟨n_z, hn_z, hn2⟩ := hfi.seven
  refine Zgo hX 11 rfl (by first | exact True.intro | (dsimp only [ZallP]; and_intros <;> exact Zix hlen hi_z (by decide))) ?_
  refine Zs_callv hX (List.cons_ne_nil _ _) (k_course (M 54) n_z _ _ M hz_z hfi hn_z hn2) (by first | decide | omega) (by decide) rfl rfl rfl (by decide) (Nat.le_of_ble_eq_true rfl) (fun r_z M' hc_z => ?_)
  obtain ⟨rfl, hsc⟩ := hc_z
  have e54 : M' 54 = M 54 := hsc.f54
  obtain ⟨M1, rfl⟩ : ∃ M1, M1 = M' := ⟨_, rfl⟩
  refine Zgo hX 12 rfl (by first | exact True.intro | (dsimp only [ZallP]; and_intros <;> exact Zix hlen hi_z (by decide))) ?_
  refine Zs_callv hX (List.cons_ne_nil _ _) (s_course n_z _ _ M1 (by rw [e54]; exact hfi) (by rw [e54]; exact hn_z) hn2) (by first | decide | omega) (by decide) rfl rfl rfl (by decide) (Nat.le_of_ble_eq_true rfl) (fun r_z M' hc_z => ?_)
  rw [e54] at hc_z
  obtain ⟨rfl, hsc2⟩ := hc_z
  refine Zgo hX 2 rfl (by (first | exact True.intro | assumption | (dsimp only [ZallP]; and_intros <;> (first | assumption | decide | omega | ((try simp (disch := omega) only [pk_mul, nI_add, Zcl_n]); exact Zin_n (by omega) (by decide)))))) ?_
  exact kk _ (Zgl_B hg_z hsc hsc2)

set_option maxRecDepth 20000 in
set_option maxHeartbeats 2000000 in
theorem Zlaw_crosses {X : Zx} {fr i_z : Nat} {M : Zmem} (hX : ZOK X 196 fr Zt196) (hfr : 80 ≤ fr) (hlen : (zsc X).1 ≤ 100000) (hi_z : i_z + 6 ≤ (zsc X).1) (hg_z : Zgl M) (kk : ∀ M2, Zgl M2 → ZP X Zt196 (Zsf Zt196 1300) [(3, .int (nI i_z)), (0, .ref 99), (1, .ref 0), (2, .ref 53)] [] M2) : ZP X Zt196 (Zsf Zt196 786) [(3, .int (nI i_z)), (0, .ref 99), (1, .ref 0), (2, .ref 53)] [] M := by
  obtain ⟨h1_z, h2_z, h3_z, h4_z⟩ := id hg_z
  obtain ⟨hz_z, hfi⟩ := h1_z
  obtain ⟨n_z, hn_z, hn2⟩ := hfi.seven
  refine Zgo hX 1 rfl (by first | exact True.intro | (dsimp only [ZallP]; and_intros <;> exact Zix hlen hi_z (by decide))) ?_
  refine Zs_callv hX (List.cons_ne_nil _ _) (k_crosses (M 54) n_z M hz_z hfi hn_z hn2) (by first | decide | omega) (by decide) rfl rfl rfl (by decide) (Nat.le_of_ble_eq_true rfl) (fun r_z M' hc_z => ?_)
  obtain ⟨rfl, hsc⟩ := hc_z
  have e54 : M' 54 = M 54 := hsc.f54
  obtain ⟨M1, rfl⟩ : ∃ M1, M1 = M' := ⟨_, rfl⟩
  refine Zgo hX 2 rfl (by first | exact True.intro | (dsimp only [ZallP]; and_intros <;> exact Zix hlen hi_z (by decide))) ?_
  refine Zs_callv hX (List.cons_ne_nil _ _) (s_crosses n_z M1 (by rw [e54]; exact hfi) (by rw [e54]; exact hn_z) hn2) (by first | decide | omega) (by decide) rfl rfl rfl (by decide) (Nat.le_of_ble_eq_true rfl) (fun r_z M' hc_z => ?_)
  rw [e54] at hc_z
  obtain ⟨rfl, hsc2⟩ := hc_z
  refine Zgo hX 2 rfl (by (first | exact True.intro | assumption | (dsimp only [ZallP]; and_intros <;> (first | assumption | decide | omega | ((try simp (disch := omega) only [pk_mul, nI_add, Zcl_n]); exact Zin_n (by omega) (by decide)))))) ?_
  exact kk _ (Zgl_B hg_z hsc hsc2)

set_option maxRecDepth 20000 in
set_option maxHeartbeats 2000000 in
theorem Zlaw_reach {X : Zx} {fr i_z : Nat} {M : Zmem} (hX : ZOK X 196 fr Zt196) (hfr : 80 ≤ fr) (hlen : (zsc X).1 ≤ 100000) (hi_z : i_z + 6 ≤ (zsc X).1) (hg_z : Zgl M) (kk : ∀ M2, Zgl M2 → ZP X Zt196 (Zsf Zt196 1300) [(3, .int (nI i_z)), (0, .ref 99), (1, .ref 0), (2, .ref 53)] [] M2) : ZP X Zt196 (Zsf Zt196 799) [(3, .int (nI i_z)), (0, .ref 99), (1, .ref 0), (2, .ref 53)] [] M := by
  obtain ⟨h1_z, h2_z, h3_z, h4_z⟩ := id hg_z
  obtain ⟨hz_z, hfi⟩ := h1_z
  obtain ⟨n_z, hn_z, hn2⟩ := hfi.seven
  refine Zgo hX 16 rfl (by first | exact True.intro | (dsimp only [ZallP]; and_intros <;> exact Zix hlen hi_z (by decide))) ?_
  refine Zs_callv hX (List.cons_ne_nil _ _) (k_reach (M 54) n_z _ _ _ M hz_z hfi hn_z hn2) (by first | decide | omega) (by decide) rfl rfl rfl (by decide) (Nat.le_of_ble_eq_true rfl) (fun r_z M' hc_z => ?_)
  obtain ⟨⟨v_z, rfl⟩, hsc⟩ := hc_z
  have e54 : M' 54 = M 54 := hsc.f54
  obtain ⟨M1, rfl⟩ : ∃ M1, M1 = M' := ⟨_, rfl⟩
  refine Zgo hX 17 rfl (by first | exact True.intro | (dsimp only [ZallP]; and_intros <;> exact Zix hlen hi_z (by decide))) ?_
  refine Zs_callv hX (List.cons_ne_nil _ _) (s_reach n_z _ _ _ M1 (by rw [e54]; exact hfi) (by rw [e54]; exact hn_z) hn2) (by first | decide | omega) (by decide) rfl rfl rfl (by decide) (Nat.le_of_ble_eq_true rfl) (fun r_z M' hc_z => ?_)
  obtain ⟨⟨v2_z, rfl⟩, hsc2⟩ := hc_z
  refine Zgo hX 2 rfl (by (first | exact True.intro | assumption | (dsimp only [ZallP]; and_intros <;> (first | assumption | decide | omega | ((try simp (disch := omega) only [pk_mul, nI_add, Zcl_n]); exact Zin_n (by omega) (by decide)))))) ?_
  exact kk _ (Zgl_B hg_z hsc hsc2)

set_option maxRecDepth 20000 in
set_option maxHeartbeats 2000000 in
theorem Zlaw_ease {X : Zx} {fr i_z : Nat} {M : Zmem} (hX : ZOK X 196 fr Zt196) (hfr : 80 ≤ fr) (hlen : (zsc X).1 ≤ 100000) (hi_z : i_z + 6 ≤ (zsc X).1) (hg_z : Zgl M) (kk : ∀ M2, Zgl M2 → ZP X Zt196 (Zsf Zt196 1300) [(3, .int (nI i_z)), (0, .ref 99), (1, .ref 0), (2, .ref 53)] [] M2) : ZP X Zt196 (Zsf Zt196 842) [(3, .int (nI i_z)), (0, .ref 99), (1, .ref 0), (2, .ref 53)] [] M := by
  obtain ⟨h1_z, h2_z, h3_z, h4_z⟩ := id hg_z
  obtain ⟨hz_z, hfi⟩ := h1_z
  obtain ⟨n_z, hn_z, hn2⟩ := hfi.seven
  refine Zgo hX 11 rfl (by first | exact True.intro | (dsimp only [ZallP]; and_intros <;> exact Zix hlen hi_z (by decide))) ?_
  refine Zs_callv hX (List.cons_ne_nil _ _) (k_ease (M 54) n_z _ _ M hz_z hfi hn_z hn2) (by first | decide | omega) (by decide) rfl rfl rfl (by decide) (Nat.le_of_ble_eq_true rfl) (fun r_z M' hc_z => ?_)
  obtain ⟨⟨v_z, rfl⟩, hsc⟩ := hc_z
  have e54 : M' 54 = M 54 := hsc.f54
  obtain ⟨M1, rfl⟩ : ∃ M1, M1 = M' := ⟨_, rfl⟩
  refine Zgo hX 12 rfl (by first | exact True.intro | (dsimp only [ZallP]; and_intros <;> exact Zix hlen hi_z (by decide))) ?_
  refine Zs_callv hX (List.cons_ne_nil _ _) (s_ease n_z _ _ M1 (by rw [e54]; exact hfi) (by rw [e54]; exact hn_z) hn2) (by first | decide | omega) (by decide) rfl rfl rfl (by decide) (Nat.le_of_ble_eq_true rfl) (fun r_z M' hc_z => ?_)
  obtain ⟨⟨v2_z, rfl⟩, hsc2⟩ := hc_z
  refine Zgo hX 2 rfl (by (first | exact True.intro | assumption | (dsimp only [ZallP]; and_intros <;> (first | assumption | decide | omega | ((try simp (disch := omega) only [pk_mul, nI_add, Zcl_n]); exact Zin_n (by omega) (by decide)))))) ?_
  exact kk _ (Zgl_B hg_z hsc hsc2)

set_option maxRecDepth 20000 in
set_option maxHeartbeats 2000000 in
theorem Zlaw_odds {X : Zx} {fr i_z : Nat} {M : Zmem} (hX : ZOK X 196 fr Zt196) (hfr : 80 ≤ fr) (hlen : (zsc X).1 ≤ 100000) (hi_z : i_z + 6 ≤ (zsc X).1) (hg_z : Zgl M) (kk : ∀ M2, Zgl M2 → ZP X Zt196 (Zsf Zt196 1300) [(3, .int (nI i_z)), (0, .ref 99), (1, .ref 0), (2, .ref 53)] [] M2) : ZP X Zt196 (Zsf Zt196 875) [(3, .int (nI i_z)), (0, .ref 99), (1, .ref 0), (2, .ref 53)] [] M := by
  obtain ⟨h1_z, h2_z, h3_z, h4_z⟩ := id hg_z
  obtain ⟨hz_z, hfi⟩ := h1_z
  obtain ⟨n_z, hn_z, hn2⟩ := hfi.seven
  refine Zgo hX 6 rfl (by first | exact True.intro | (dsimp only [ZallP]; and_intros <;> exact Zix hlen hi_z (by decide))) ?_
  refine Zs_callv hX (List.cons_ne_nil _ _) (k_odds (M 54) n_z _ M hz_z hfi hn_z hn2) (by first | decide | omega) (by decide) rfl rfl rfl (by decide) (Nat.le_of_ble_eq_true rfl) (fun r_z M' hc_z => ?_)
  obtain ⟨rfl, hsc⟩ := hc_z
  have e54 : M' 54 = M 54 := hsc.f54
  obtain ⟨M1, rfl⟩ : ∃ M1, M1 = M' := ⟨_, rfl⟩
  refine Zgo hX 7 rfl (by first | exact True.intro | (dsimp only [ZallP]; and_intros <;> exact Zix hlen hi_z (by decide))) ?_
  refine Zs_callv hX (List.cons_ne_nil _ _) (s_odds n_z _ M1 (by rw [e54]; exact hfi) (by rw [e54]; exact hn_z) hn2) (by first | decide | omega) (by decide) rfl rfl rfl (by decide) (Nat.le_of_ble_eq_true rfl) (fun r_z M' hc_z => ?_)
  rw [e54] at hc_z
  obtain ⟨rfl, hsc2⟩ := hc_z
  refine Zgo hX 2 rfl (by (first | exact True.intro | assumption | (dsimp only [ZallP]; and_intros <;> (first | assumption | decide | omega | ((try simp (disch := omega) only [pk_mul, nI_add, Zcl_n]); exact Zin_n (by omega) (by decide)))))) ?_
  exact kk _ (Zgl_B hg_z hsc hsc2)

set_option maxRecDepth 20000 in
set_option maxHeartbeats 2000000 in
theorem Zlaw_fits {X : Zx} {fr i_z : Nat} {M : Zmem} (hX : ZOK X 196 fr Zt196) (hfr : 80 ≤ fr) (hlen : (zsc X).1 ≤ 100000) (hi_z : i_z + 6 ≤ (zsc X).1) (hg_z : Zgl M) (kk : ∀ M2, Zgl M2 → ZP X Zt196 (Zsf Zt196 1300) [(3, .int (nI i_z)), (0, .ref 99), (1, .ref 0), (2, .ref 53)] [] M2) : ZP X Zt196 (Zsf Zt196 898) [(3, .int (nI i_z)), (0, .ref 99), (1, .ref 0), (2, .ref 53)] [] M := by
  obtain ⟨h1_z, h2_z, h3_z, h4_z⟩ := id hg_z
  obtain ⟨hz_z, hfi⟩ := h1_z
  obtain ⟨n_z, hn_z, hn2⟩ := hfi.seven
  refine Zgo hX 11 rfl (by first | exact True.intro | (dsimp only [ZallP]; and_intros <;> exact Zix hlen hi_z (by decide))) ?_
  refine Zs_callv hX (List.cons_ne_nil _ _) (k_fits (Zgs M) (M 54) n_z _ _ M h3_z.1 h3_z.2 hz_z hfi hn_z hn2) (by first | decide | omega) (by decide) rfl rfl rfl (by decide) (Nat.le_of_ble_eq_true rfl) (fun r_z M' hc_z => ?_)
  obtain ⟨⟨v_z, rfl⟩, hsc⟩ := hc_z
  have e54 : M' 54 = M 54 := hsc.f54
  obtain ⟨M1, rfl⟩ : ∃ M1, M1 = M' := ⟨_, rfl⟩
  refine Zgo hX 12 rfl (by first | exact True.intro | (dsimp only [ZallP]; and_intros <;> exact Zix hlen hi_z (by decide))) ?_
  refine Zs_callv hX (List.cons_ne_nil _ _) (s_fits n_z _ _ M1 (by rw [hsc.gs]; exact h3_z.2) (by rw [e54]; exact hfi) (by rw [e54]; exact hn_z) hn2) (by first | decide | omega) (by decide) rfl rfl rfl (by decide) (Nat.le_of_ble_eq_true rfl) (fun r_z M' hc_z => ?_)
  obtain ⟨⟨v2_z, rfl⟩, hsc2⟩ := hc_z
  refine Zgo hX 2 rfl (by (first | exact True.intro | assumption | (dsimp only [ZallP]; and_intros <;> (first | assumption | decide | omega | ((try simp (disch := omega) only [pk_mul, nI_add, Zcl_n]); exact Zin_n (by omega) (by decide)))))) ?_
  exact kk _ (Zgl_B hg_z hsc hsc2)

set_option maxRecDepth 20000 in
set_option maxHeartbeats 2000000 in
theorem Zlaw_voice {X : Zx} {fr i_z : Nat} {M : Zmem} (hX : ZOK X 196 fr Zt196) (hfr : 80 ≤ fr) (hlen : (zsc X).1 ≤ 100000) (hi_z : i_z + 6 ≤ (zsc X).1) (hg_z : Zgl M) (kk : ∀ M2, Zgl M2 → ZP X Zt196 (Zsf Zt196 1300) [(3, .int (nI i_z)), (0, .ref 99), (1, .ref 0), (2, .ref 53)] [] M2) : ZP X Zt196 (Zsf Zt196 931) [(3, .int (nI i_z)), (0, .ref 99), (1, .ref 0), (2, .ref 53)] [] M := by
  obtain ⟨h1_z, h2_z, h3_z, h4_z⟩ := id hg_z
  obtain ⟨hz_z, hfi⟩ := h1_z
  obtain ⟨n_z, hn_z, hn2⟩ := hfi.seven
  obtain ⟨⟨a_z, ha_z, hta⟩, ⟨b_z, hb_z, htb⟩⟩ := h4_z
  refine Zgo hX 16 rfl (by first | exact True.intro | (dsimp only [ZallP]; and_intros <;> exact Zix hlen hi_z (by decide))) ?_
  refine Zs_callv hX (List.cons_ne_nil _ _) (k_voice (M 54) n_z _ _ _ a_z M hz_z hfi hn_z hn2 hta ha_z) (by first | decide | omega) (by decide) rfl rfl rfl (by decide) (Nat.le_of_ble_eq_true rfl) (fun r_z M' hc_z => ?_)
  obtain ⟨rfl, hv_z, hv2⟩ := hc_z
  have e54 : M' 54 = M 54 := hv_z.f54
  obtain ⟨M1, rfl⟩ : ∃ M1, M1 = M' := ⟨_, rfl⟩
  refine Zgo hX 17 rfl (by first | exact True.intro | (dsimp only [ZallP]; and_intros <;> exact Zix hlen hi_z (by decide))) ?_
  refine Zs_callv hX (List.cons_ne_nil _ _) (s_voice n_z _ _ _ b_z M1 (by rw [e54]; exact hfi) (by rw [e54]; exact hn_z) hn2 ((hv_z 53 19 rfl (by decide)).trans htb) hb_z) (by first | decide | omega) (by decide) rfl rfl rfl (by decide) (Nat.le_of_ble_eq_true rfl) (fun r_z M' hc_z => ?_)
  rw [e54] at hc_z
  obtain ⟨rfl, hw_z, hw2⟩ := hc_z
  refine Zgo hX 2 rfl (by (first | exact True.intro | assumption | (dsimp only [ZallP]; and_intros <;> (first | assumption | decide | omega | ((try simp (disch := omega) only [pk_mul, nI_add, Zcl_n]); exact Zin_n (by omega) (by decide)))))) ?_
  exact kk _ (Zgl_D hg_z hv_z hv2 hw_z hw2)

set_option maxRecDepth 20000 in
set_option maxHeartbeats 2000000 in
theorem Zlaw_body {X : Zx} {fr i_z : Nat} {M : Zmem} (hX : ZOK X 196 fr Zt196) (hfr : 80 ≤ fr) (hlen : (zsc X).1 ≤ 100000) (hi_z : i_z + 6 ≤ (zsc X).1) (hg_z : Zgl M) (kk : ∀ M2, Zgl M2 → ZP X Zt196 (Zsf Zt196 1300) [(3, .int (nI i_z)), (0, .ref 99), (1, .ref 0), (2, .ref 53)] [] M2) : ZP X Zt196 (Zsf Zt196 974) [(3, .int (nI i_z)), (0, .ref 99), (1, .ref 0), (2, .ref 53)] [] M := by
  obtain ⟨h1_z, h2_z, h3_z, h4_z⟩ := id hg_z
  obtain ⟨hz_z, hfi⟩ := h1_z
  obtain ⟨n_z, hn_z, hn2⟩ := hfi.seven
  obtain ⟨⟨a_z, ha_z, hta⟩, ⟨b_z, hb_z, htb⟩⟩ := h4_z
  refine Zgo hX 6 rfl (by first | exact True.intro | (dsimp only [ZallP]; and_intros <;> exact Zix hlen hi_z (by decide))) ?_
  refine Zs_callv hX (List.cons_ne_nil _ _) (k_body _ a_z M hta ha_z) (by first | decide | omega) (by decide) rfl rfl rfl (by decide) (Nat.le_of_ble_eq_true rfl) (fun r_z M' hc_z => ?_)
  obtain ⟨⟨v_z, rfl⟩, hsc⟩ := hc_z
  have e54 : M' 54 = M 54 := hsc.f54
  obtain ⟨M1, rfl⟩ : ∃ M1, M1 = M' := ⟨_, rfl⟩
  refine Zgo hX 7 rfl (by first | exact True.intro | (dsimp only [ZallP]; and_intros <;> exact Zix hlen hi_z (by decide))) ?_
  refine Zs_callv hX (List.cons_ne_nil _ _) (s_body _ b_z M1 ((hsc 53 19 rfl).trans htb) hb_z) (by first | decide | omega) (by decide) rfl rfl rfl (by decide) (Nat.le_of_ble_eq_true rfl) (fun r_z M' hc_z => ?_)
  obtain ⟨⟨v2_z, rfl⟩, hsc2⟩ := hc_z
  refine Zgo hX 2 rfl (by (first | exact True.intro | assumption | (dsimp only [ZallP]; and_intros <;> (first | assumption | decide | omega | ((try simp (disch := omega) only [pk_mul, nI_add, Zcl_n]); exact Zin_n (by omega) (by decide)))))) ?_
  exact kk _ (Zgl_B hg_z hsc hsc2)

set_option maxRecDepth 20000 in
set_option maxHeartbeats 2000000 in
theorem Zlaw_sheet {X : Zx} {fr i_z : Nat} {M : Zmem} (hX : ZOK X 196 fr Zt196) (hfr : 80 ≤ fr) (hlen : (zsc X).1 ≤ 100000) (hi_z : i_z + 6 ≤ (zsc X).1) (hg_z : Zgl M) (kk : ∀ M2, Zgl M2 → ZP X Zt196 (Zsf Zt196 1300) [(3, .int (nI i_z)), (0, .ref 99), (1, .ref 0), (2, .ref 53)] [] M2) : ZP X Zt196 (Zsf Zt196 997) [(3, .int (nI i_z)), (0, .ref 99), (1, .ref 0), (2, .ref 53)] [] M := by
  obtain ⟨h1_z, h2_z, h3_z, h4_z⟩ := id hg_z
  obtain ⟨hz_z, hfi⟩ := h1_z
  obtain ⟨n_z, hn_z, hn2⟩ := hfi.seven
  refine Zgo hX 16 rfl (by first | exact True.intro | (dsimp only [ZallP]; and_intros <;> exact Zix hlen hi_z (by decide))) ?_
  refine Zs_callv hX (List.cons_ne_nil _ _) (k_sheet (Zgs M) _ _ _ M h3_z.1 h3_z.2) (by first | decide | omega) (by decide) rfl rfl rfl (by decide) (Nat.le_of_ble_eq_true rfl) (fun r_z M' hc_z => ?_)
  have hk_z := hc_z
  obtain ⟨rfl, -, hh⟩ := hc_z
  have eg : Zgs M' = Zgs M := hh.gs
  obtain ⟨M1, rfl⟩ : ∃ M1, M1 = M' := ⟨_, rfl⟩
  refine Zgo hX 17 rfl (by first | exact True.intro | (dsimp only [ZallP]; and_intros <;> exact Zix hlen hi_z (by decide))) ?_
  refine Zs_callv hX (List.cons_ne_nil _ _) (s_sheet _ _ _ M1 (by rw [eg]; exact h3_z.2)) (by first | decide | omega) (by decide) rfl rfl rfl (by decide) (Nat.le_of_ble_eq_true rfl) (fun r_z M' hc_z => ?_)
  rw [eg] at hc_z
  have hs_z := hc_z
  obtain ⟨rfl, -⟩ := hc_z
  refine Zgo hX 2 rfl (by (first | exact True.intro | assumption | (dsimp only [ZallP]; and_intros <;> (first | assumption | decide | omega | ((try simp (disch := omega) only [pk_mul, nI_add, Zcl_n]); exact Zin_n (by omega) (by decide)))))) ?_
  exact kk _ (Zgl_C hg_z hk_z hs_z (Fsheet_iv h3_z.2))

set_option maxRecDepth 20000 in
set_option maxHeartbeats 2000000 in
theorem Zlaw_put {X : Zx} {fr i_z : Nat} {M : Zmem} (hX : ZOK X 196 fr Zt196) (hfr : 80 ≤ fr) (hlen : (zsc X).1 ≤ 100000) (hi_z : i_z + 6 ≤ (zsc X).1) (hg_z : Zgl M) (kk : ∀ M2, Zgl M2 → ZP X Zt196 (Zsf Zt196 1300) [(3, .int (nI i_z)), (0, .ref 99), (1, .ref 0), (2, .ref 53)] [] M2) : ZP X Zt196 (Zsf Zt196 1040) [(3, .int (nI i_z)), (0, .ref 99), (1, .ref 0), (2, .ref 53)] [] M := by
  obtain ⟨h1_z, h2_z, h3_z, h4_z⟩ := id hg_z
  obtain ⟨hz_z, hfi⟩ := h1_z
  obtain ⟨n_z, hn_z, hn2⟩ := hfi.seven
  refine Zgo hX 16 rfl (by first | exact True.intro | (dsimp only [ZallP]; and_intros <;> exact Zix hlen hi_z (by decide))) ?_
  refine Zs_callv hX (List.cons_ne_nil _ _) (k_put (Zgs M) _ _ _ M h3_z.1 h3_z.2) (by first | decide | omega) (by decide) rfl rfl rfl (by decide) (Nat.le_of_ble_eq_true rfl) (fun r_z M' hc_z => ?_)
  have hk_z := hc_z
  obtain ⟨rfl, -, hh⟩ := hc_z
  have eg : Zgs M' = Zgs M := hh.gs
  obtain ⟨M1, rfl⟩ : ∃ M1, M1 = M' := ⟨_, rfl⟩
  refine Zgo hX 17 rfl (by first | exact True.intro | (dsimp only [ZallP]; and_intros <;> exact Zix hlen hi_z (by decide))) ?_
  refine Zs_callv hX (List.cons_ne_nil _ _) (s_put _ _ _ M1 (by rw [eg]; exact h3_z.2)) (by first | decide | omega) (by decide) rfl rfl rfl (by decide) (Nat.le_of_ble_eq_true rfl) (fun r_z M' hc_z => ?_)
  rw [eg] at hc_z
  have hs_z := hc_z
  obtain ⟨rfl, -⟩ := hc_z
  refine Zgo hX 2 rfl (by (first | exact True.intro | assumption | (dsimp only [ZallP]; and_intros <;> (first | assumption | decide | omega | ((try simp (disch := omega) only [pk_mul, nI_add, Zcl_n]); exact Zin_n (by omega) (by decide)))))) ?_
  exact kk _ (Zgl_C hg_z hk_z hs_z (Fput_iv h3_z.2))

set_option maxRecDepth 20000 in
set_option maxHeartbeats 2000000 in
theorem Zlaw_move {X : Zx} {fr i_z : Nat} {M : Zmem} (hX : ZOK X 196 fr Zt196) (hfr : 80 ≤ fr) (hlen : (zsc X).1 ≤ 100000) (hi_z : i_z + 6 ≤ (zsc X).1) (hg_z : Zgl M) (kk : ∀ M2, Zgl M2 → ZP X Zt196 (Zsf Zt196 1300) [(3, .int (nI i_z)), (0, .ref 99), (1, .ref 0), (2, .ref 53)] [] M2) : ZP X Zt196 (Zsf Zt196 1083) [(3, .int (nI i_z)), (0, .ref 99), (1, .ref 0), (2, .ref 53)] [] M := by
  obtain ⟨h1_z, h2_z, h3_z, h4_z⟩ := id hg_z
  obtain ⟨hz_z, hfi⟩ := h1_z
  obtain ⟨n_z, hn_z, hn2⟩ := hfi.seven
  refine Zgo hX 26 rfl (by first | exact True.intro | (dsimp only [ZallP]; and_intros <;> exact Zix hlen hi_z (by decide))) ?_
  refine Zs_callv hX (List.cons_ne_nil _ _) (k_move (Zgs M) _ _ _ _ _ M h3_z.1 h3_z.2) (by first | decide | omega) (by decide) rfl rfl rfl (by decide) (Nat.le_of_ble_eq_true rfl) (fun r_z M' hc_z => ?_)
  have hk_z := hc_z
  obtain ⟨rfl, -, hh⟩ := hc_z
  have eg : Zgs M' = Zgs M := hh.gs
  obtain ⟨M1, rfl⟩ : ∃ M1, M1 = M' := ⟨_, rfl⟩
  refine Zgo hX 27 rfl (by first | exact True.intro | (dsimp only [ZallP]; and_intros <;> exact Zix hlen hi_z (by decide))) ?_
  refine Zs_callv hX (List.cons_ne_nil _ _) (s_move _ _ _ _ _ M1 (by rw [eg]; exact h3_z.2)) (by first | decide | omega) (by decide) rfl rfl rfl (by decide) (Nat.le_of_ble_eq_true rfl) (fun r_z M' hc_z => ?_)
  rw [eg] at hc_z
  have hs_z := hc_z
  obtain ⟨rfl, -⟩ := hc_z
  refine Zgo hX 2 rfl (by (first | exact True.intro | assumption | (dsimp only [ZallP]; and_intros <;> (first | assumption | decide | omega | ((try simp (disch := omega) only [pk_mul, nI_add, Zcl_n]); exact Zin_n (by omega) (by decide)))))) ?_
  exact kk _ (Zgl_C hg_z hk_z hs_z (Fmove_iv h3_z.2))

set_option maxRecDepth 20000 in
set_option maxHeartbeats 2000000 in
theorem Zlaw_tensions {X : Zx} {fr i_z : Nat} {M : Zmem} (hX : ZOK X 196 fr Zt196) (hfr : 80 ≤ fr) (hlen : (zsc X).1 ≤ 100000) (hi_z : i_z + 6 ≤ (zsc X).1) (hg_z : Zgl M) (kk : ∀ M2, Zgl M2 → ZP X Zt196 (Zsf Zt196 1300) [(3, .int (nI i_z)), (0, .ref 99), (1, .ref 0), (2, .ref 53)] [] M2) : ZP X Zt196 (Zsf Zt196 1146) [(3, .int (nI i_z)), (0, .ref 99), (1, .ref 0), (2, .ref 53)] [] M := by
  obtain ⟨h1_z, h2_z, h3_z, h4_z⟩ := id hg_z
  obtain ⟨hz_z, hfi⟩ := h1_z
  obtain ⟨n_z, hn_z, hn2⟩ := hfi.seven
  refine Zgo hX 6 rfl (by first | exact True.intro | (dsimp only [ZallP]; and_intros <;> exact Zix hlen hi_z (by decide))) ?_
  refine Zs_callv hX (List.cons_ne_nil _ _) (k_tensions (Zgs M) (M 54) n_z _ M h3_z.1 h3_z.2 hz_z hfi hn_z hn2) (by first | decide | omega) (by decide) rfl rfl rfl (by decide) (Nat.le_of_ble_eq_true rfl) (fun r_z M' hc_z => ?_)
  have hk_z := hc_z
  obtain ⟨rfl, -, hh⟩ := hc_z
  have e54 : M' 54 = M 54 := hh.f54
  have eg : Zgs M' = Zgs M := hh.gs
  obtain ⟨M1, rfl⟩ : ∃ M1, M1 = M' := ⟨_, rfl⟩
  refine Zgo hX 7 rfl (by first | exact True.intro | (dsimp only [ZallP]; and_intros <;> exact Zix hlen hi_z (by decide))) ?_
  refine Zs_callv hX (List.cons_ne_nil _ _) (s_tensions n_z _ M1 (by rw [eg]; exact h3_z.2) (by rw [e54]; exact hfi) (by rw [e54]; exact hn_z) hn2) (by first | decide | omega) (by decide) rfl rfl rfl (by decide) (Nat.le_of_ble_eq_true rfl) (fun r_z M' hc_z => ?_)
  rw [e54, eg] at hc_z
  have hs_z := hc_z
  obtain ⟨rfl, -⟩ := hc_z
  refine Zgo hX 2 rfl (by (first | exact True.intro | assumption | (dsimp only [ZallP]; and_intros <;> (first | assumption | decide | omega | ((try simp (disch := omega) only [pk_mul, nI_add, Zcl_n]); exact Zin_n (by omega) (by decide)))))) ?_
  exact kk _ (Zgl_A hg_z hk_z hs_z (Ften_fi hfi hn_z hn2))

set_option maxRecDepth 20000 in
set_option maxHeartbeats 2000000 in
theorem Zlaw_judge {X : Zx} {fr i_z : Nat} {M : Zmem} (hX : ZOK X 196 fr Zt196) (hfr : 80 ≤ fr) (hlen : (zsc X).1 ≤ 100000) (hi_z : i_z + 6 ≤ (zsc X).1) (hg_z : Zgl M) (kk : ∀ M2, Zgl M2 → ZP X Zt196 (Zsf Zt196 1300) [(3, .int (nI i_z)), (0, .ref 99), (1, .ref 0), (2, .ref 53)] [] M2) : ZP X Zt196 (Zsf Zt196 1169) [(3, .int (nI i_z)), (0, .ref 99), (1, .ref 0), (2, .ref 53)] [] M := by
  obtain ⟨h1_z, h2_z, h3_z, h4_z⟩ := id hg_z
  obtain ⟨hz_z, hfi⟩ := h1_z
  obtain ⟨n_z, hn_z, hn2⟩ := hfi.seven
  refine Zgo hX 6 rfl (by first | exact True.intro | (dsimp only [ZallP]; and_intros <;> exact Zix hlen hi_z (by decide))) ?_
  refine Zs_callv hX (List.cons_ne_nil _ _) (k_judge (Zgs M) (M 54) n_z _ M h3_z.1 h3_z.2 hz_z hfi hn_z hn2) (by first | decide | omega) (by decide) rfl rfl rfl (by decide) (Nat.le_of_ble_eq_true rfl) (fun r_z M' hc_z => ?_)
  obtain ⟨rfl, hsc⟩ := hc_z
  have e54 : M' 54 = M 54 := hsc.f54
  obtain ⟨M1, rfl⟩ : ∃ M1, M1 = M' := ⟨_, rfl⟩
  refine Zgo hX 7 rfl (by first | exact True.intro | (dsimp only [ZallP]; and_intros <;> exact Zix hlen hi_z (by decide))) ?_
  refine Zs_callv hX (List.cons_ne_nil _ _) (s_judge n_z _ M1 (by rw [hsc.gs]; exact h3_z.2) (by rw [e54]; exact hfi) (by rw [e54]; exact hn_z) hn2) (by first | decide | omega) (by decide) rfl rfl rfl (by decide) (Nat.le_of_ble_eq_true rfl) (fun r_z M' hc_z => ?_)
  rw [e54, hsc.gs] at hc_z
  obtain ⟨rfl, hsc2⟩ := hc_z
  refine Zgo hX 2 rfl (by (first | exact True.intro | assumption | (dsimp only [ZallP]; and_intros <;> (first | assumption | decide | omega | ((try simp (disch := omega) only [pk_mul, nI_add, Zcl_n]); exact Zin_n (by omega) (by decide)))))) ?_
  exact kk _ (Zgl_B hg_z hsc hsc2)

set_option maxRecDepth 20000 in
set_option maxHeartbeats 2000000 in
theorem Zlaw_image {X : Zx} {fr i_z : Nat} {M : Zmem} (hX : ZOK X 196 fr Zt196) (hfr : 80 ≤ fr) (hlen : (zsc X).1 ≤ 100000) (hi_z : i_z + 6 ≤ (zsc X).1) (hg_z : Zgl M) (kk : ∀ M2, Zgl M2 → ZP X Zt196 (Zsf Zt196 1300) [(3, .int (nI i_z)), (0, .ref 99), (1, .ref 0), (2, .ref 53)] [] M2) : ZP X Zt196 (Zsf Zt196 1192) [(3, .int (nI i_z)), (0, .ref 99), (1, .ref 0), (2, .ref 53)] [] M := by
  obtain ⟨h1_z, h2_z, h3_z, h4_z⟩ := id hg_z
  obtain ⟨hz_z, hfi⟩ := h1_z
  obtain ⟨n_z, hn_z, hn2⟩ := hfi.seven
  refine Zgo hX 1 rfl (by (first | exact True.intro | assumption | (dsimp only [ZallP]; and_intros <;> (first | assumption | decide | omega | ((try simp (disch := omega) only [pk_mul, nI_add, Zcl_n]); exact Zin_n (by omega) (by decide)))))) ?_
  refine Zs_callv hX (List.cons_ne_nil _ _) (k_image (M 54) M hz_z) (by first | decide | omega) (by decide) rfl rfl rfl (by decide) (Nat.le_of_ble_eq_true rfl) (fun r_z M' hc_z => ?_)
  obtain ⟨rfl, k1_z, k2_z, k3⟩ := hc_z
  obtain ⟨M1, rfl⟩ : ∃ M1, M1 = M' := ⟨_, rfl⟩
  refine Zgo hX 2 rfl (by (first | exact True.intro | assumption | (dsimp only [ZallP]; and_intros <;> (first | assumption | decide | omega | ((try simp (disch := omega) only [pk_mul, nI_add, Zcl_n]); exact Zin_n (by omega) (by decide)))))) ?_
  refine Zs_callv hX (List.cons_ne_nil _ _) (s_image M1) (by first | decide | omega) (by decide) rfl rfl rfl (by decide) (Nat.le_of_ble_eq_true rfl) (fun r_z M' hc_z => ?_)
  obtain ⟨rfl, s1_z, s2_z, s3⟩ := hc_z
  refine Zgo hX 2 rfl (by (first | exact True.intro | assumption | (dsimp only [ZallP]; and_intros <;> (first | assumption | decide | omega | ((try simp (disch := omega) only [pk_mul, nI_add, Zcl_n]); exact Zin_n (by omega) (by decide)))))) ?_
  exact kk _ (Zgl_I hg_z k1_z k2_z k3 s1_z s2_z s3)

set_option maxRecDepth 20000 in
set_option maxHeartbeats 2000000 in
theorem Zlaw_restore {X : Zx} {fr i_z : Nat} {M : Zmem} (hX : ZOK X 196 fr Zt196) (hfr : 80 ≤ fr) (hlen : (zsc X).1 ≤ 100000) (hi_z : i_z + 6 ≤ (zsc X).1) (hg_z : Zgl M) (kk : ∀ M2, Zgl M2 → ZP X Zt196 (Zsf Zt196 1300) [(3, .int (nI i_z)), (0, .ref 99), (1, .ref 0), (2, .ref 53)] [] M2) : ZP X Zt196 (Zsf Zt196 1205) [(3, .int (nI i_z)), (0, .ref 99), (1, .ref 0), (2, .ref 53)] [] M := by
  obtain ⟨h1_z, h2_z, h3_z, h4_z⟩ := id hg_z
  obtain ⟨hz_z, hfi⟩ := h1_z
  obtain ⟨n_z, hn_z, hn2⟩ := hfi.seven
  refine Zgo hX 1 rfl (by (first | exact True.intro | assumption | (dsimp only [ZallP]; and_intros <;> (first | assumption | decide | omega | ((try simp (disch := omega) only [pk_mul, nI_add, Zcl_n]); exact Zin_n (by omega) (by decide)))))) ?_
  refine Zs_callv hX (List.cons_ne_nil _ _) (k_restore (M 55) M (fun q_z => (h2_z.2 q_z).1)) (by first | decide | omega) (by decide) rfl rfl rfl (by decide) (Nat.le_of_ble_eq_true rfl) (fun r_z M' hc_z => ?_)
  have hk_z := hc_z
  have hk1 : ∃ v_z, r_z = some (.int v_z) := hc_z.elim (fun q_z => ⟨_, q_z.2.1⟩) (fun q_z => ⟨_, q_z.2.1⟩)
  obtain ⟨v_z, rfl⟩ := hk1
  clear hc_z
  obtain ⟨M1, rfl⟩ : ∃ M1, M1 = M' := ⟨_, rfl⟩
  refine Zgo hX 2 rfl (by (first | exact True.intro | assumption | (dsimp only [ZallP]; and_intros <;> (first | assumption | decide | omega | ((try simp (disch := omega) only [pk_mul, nI_add, Zcl_n]); exact Zin_n (by omega) (by decide)))))) ?_
  refine Zs_callv hX (List.cons_ne_nil _ _) (s_restore M1) (by first | decide | omega) (by decide) rfl rfl rfl (by decide) (Nat.le_of_ble_eq_true rfl) (fun r_z M' hc_z => ?_)
  obtain ⟨hg2, he_z⟩ := Zgl_R hg_z hk_z hc_z
  obtain ⟨v2_z, rfl⟩ : ∃ v_z, r_z = some (.int v_z) := ⟨_, he_z⟩
  refine Zgo hX 2 rfl (by (first | exact True.intro | assumption | (dsimp only [ZallP]; and_intros <;> (first | assumption | decide | omega | ((try simp (disch := omega) only [pk_mul, nI_add, Zcl_n]); exact Zin_n (by omega) (by decide)))))) ?_
  exact kk _ hg2

set_option maxRecDepth 20000 in
set_option maxHeartbeats 2000000 in
theorem Zlaw_tell {X : Zx} {fr i_z : Nat} {M : Zmem} (hX : ZOK X 196 fr Zt196) (hfr : 80 ≤ fr) (hlen : (zsc X).1 ≤ 100000) (hi_z : i_z + 6 ≤ (zsc X).1) (hg_z : Zgl M) (kk : ∀ M2, Zgl M2 → ZP X Zt196 (Zsf Zt196 1300) [(3, .int (nI i_z)), (0, .ref 99), (1, .ref 0), (2, .ref 53)] [] M2) : ZP X Zt196 (Zsf Zt196 1218) [(3, .int (nI i_z)), (0, .ref 99), (1, .ref 0), (2, .ref 53)] [] M := by
  obtain ⟨h1_z, h2_z, h3_z, h4_z⟩ := id hg_z
  obtain ⟨hz_z, hfi⟩ := h1_z
  obtain ⟨n_z, hn_z, hn2⟩ := hfi.seven
  refine Zgo hX 6 rfl (by first | exact True.intro | (dsimp only [ZallP]; and_intros <;> exact Zix hlen hi_z (by decide))) ?_
  refine Zs_callv hX (List.cons_ne_nil _ _) (k_tell (M 54) n_z _ M hz_z hfi hn_z hn2) (by first | decide | omega) (by decide) rfl rfl rfl (by decide) (Nat.le_of_ble_eq_true rfl) (fun r_z M' hc_z => ?_)
  have hk_z := hc_z
  obtain ⟨rfl, -, hh⟩ := hc_z
  have e54 : M' 54 = M 54 := hh.f54
  obtain ⟨M1, rfl⟩ : ∃ M1, M1 = M' := ⟨_, rfl⟩
  refine Zgo hX 7 rfl (by first | exact True.intro | (dsimp only [ZallP]; and_intros <;> exact Zix hlen hi_z (by decide))) ?_
  refine Zs_callv hX (List.cons_ne_nil _ _) (s_tell n_z _ M1 (by rw [e54]; exact hfi) (by rw [e54]; exact hn_z) hn2) (by first | decide | omega) (by decide) rfl rfl rfl (by decide) (Nat.le_of_ble_eq_true rfl) (fun r_z M' hc_z => ?_)
  rw [e54] at hc_z
  have hs_z := hc_z
  obtain ⟨rfl, -⟩ := hc_z
  refine Zgo hX 2 rfl (by (first | exact True.intro | assumption | (dsimp only [ZallP]; and_intros <;> (first | assumption | decide | omega | ((try simp (disch := omega) only [pk_mul, nI_add, Zcl_n]); exact Zin_n (by omega) (by decide)))))) ?_
  exact kk _ (Zgl_A hg_z hk_z hs_z (Ftell_fi hfi))

set_option maxRecDepth 20000 in
set_option maxHeartbeats 2000000 in
theorem Zlaw_check {X : Zx} {fr i_z : Nat} {M : Zmem} (hX : ZOK X 196 fr Zt196) (hfr : 80 ≤ fr) (hlen : (zsc X).1 ≤ 100000) (hi_z : i_z + 6 ≤ (zsc X).1) (hg_z : Zgl M) (kk : ∀ M2, Zgl M2 → ZP X Zt196 (Zsf Zt196 1300) [(3, .int (nI i_z)), (0, .ref 99), (1, .ref 0), (2, .ref 53)] [] M2) : ZP X Zt196 (Zsf Zt196 1241) [(3, .int (nI i_z)), (0, .ref 99), (1, .ref 0), (2, .ref 53)] [] M := by
  obtain ⟨h1_z, h2_z, h3_z, h4_z⟩ := id hg_z
  obtain ⟨hz_z, hfi⟩ := h1_z
  obtain ⟨n_z, hn_z, hn2⟩ := hfi.seven
  refine Zgo hX 1 rfl (by first | exact True.intro | (dsimp only [ZallP]; and_intros <;> exact Zix hlen hi_z (by decide))) ?_
  refine Zs_callv hX (List.cons_ne_nil _ _) (k_check (M 54) n_z M hz_z hfi hn_z hn2) (by first | decide | omega) (by decide) rfl rfl rfl (by decide) (Nat.le_of_ble_eq_true rfl) (fun r_z M' hc_z => ?_)
  have hk_z := hc_z
  obtain ⟨rfl, -, hh⟩ := hc_z
  have e54 : M' 54 = M 54 := hh.f54
  obtain ⟨M1, rfl⟩ : ∃ M1, M1 = M' := ⟨_, rfl⟩
  refine Zgo hX 1 rfl (by first | exact True.intro | (dsimp only [ZallP]; and_intros <;> exact Zix hlen hi_z (by decide))) ?_
  refine Zs_callv hX (List.cons_ne_nil _ _) (s_check n_z M1 (by rw [e54]; exact hfi) (by rw [e54]; exact hn_z) hn2) (by first | decide | omega) (by decide) rfl rfl rfl (by decide) (Nat.le_of_ble_eq_true rfl) (fun r_z M' hc_z => ?_)
  rw [e54] at hc_z
  have hs_z := hc_z
  obtain ⟨rfl, -⟩ := hc_z
  refine Zs_ieq hX (List.cons_ne_nil _ _) (fun _ => ?_) (fun q_z => False.elim ((q_z rfl)))
  exact kk _ (Zgl_A hg_z hk_z hs_z (Fcheck_fi hfi))

set_option maxRecDepth 20000 in
set_option maxHeartbeats 2000000 in
theorem Zlaw_count {X : Zx} {fr i_z : Nat} {M : Zmem} (hX : ZOK X 196 fr Zt196) (hfr : 80 ≤ fr) (hlen : (zsc X).1 ≤ 100000) (hi_z : i_z + 6 ≤ (zsc X).1) (hg_z : Zgl M) (kk : ∀ M2, Zgl M2 → ZP X Zt196 (Zsf Zt196 1300) [(3, .int (nI i_z)), (0, .ref 99), (1, .ref 0), (2, .ref 53)] [] M2) : ZP X Zt196 (Zsf Zt196 1254) [(3, .int (nI i_z)), (0, .ref 99), (1, .ref 0), (2, .ref 53)] [] M := by
  obtain ⟨h1_z, h2_z, h3_z, h4_z⟩ := id hg_z
  obtain ⟨hz_z, hfi⟩ := h1_z
  obtain ⟨n_z, hn_z, hn2⟩ := hfi.seven
  refine Zgo hX 6 rfl (by first | exact True.intro | (dsimp only [ZallP]; and_intros <;> exact Zix hlen hi_z (by decide))) ?_
  refine Zs_callv hX (List.cons_ne_nil _ _) (k_count _ M) (by first | decide | omega) (by decide) rfl rfl rfl (by decide) (Nat.le_of_ble_eq_true rfl) (fun r_z M' hc_z => ?_)
  obtain ⟨⟨v_z, rfl⟩, hsc⟩ := hc_z
  have e54 : M' 54 = M 54 := hsc.f54
  obtain ⟨M1, rfl⟩ : ∃ M1, M1 = M' := ⟨_, rfl⟩
  refine Zgo hX 7 rfl (by first | exact True.intro | (dsimp only [ZallP]; and_intros <;> exact Zix hlen hi_z (by decide))) ?_
  refine Zs_callv hX (List.cons_ne_nil _ _) (s_count _ M1) (by first | decide | omega) (by decide) rfl rfl rfl (by decide) (Nat.le_of_ble_eq_true rfl) (fun r_z M' hc_z => ?_)
  obtain ⟨⟨v2_z, rfl⟩, hsc2⟩ := hc_z
  refine Zgo hX 2 rfl (by (first | exact True.intro | assumption | (dsimp only [ZallP]; and_intros <;> (first | assumption | decide | omega | ((try simp (disch := omega) only [pk_mul, nI_add, Zcl_n]); exact Zin_n (by omega) (by decide)))))) ?_
  exact kk _ (Zgl_B hg_z hsc hsc2)

set_option maxRecDepth 20000 in
set_option maxHeartbeats 2000000 in
theorem Zlaw_told {X : Zx} {fr i_z : Nat} {M : Zmem} (hX : ZOK X 196 fr Zt196) (hfr : 80 ≤ fr) (hlen : (zsc X).1 ≤ 100000) (hi_z : i_z + 6 ≤ (zsc X).1) (hg_z : Zgl M) (kk : ∀ M2, Zgl M2 → ZP X Zt196 (Zsf Zt196 1300) [(3, .int (nI i_z)), (0, .ref 99), (1, .ref 0), (2, .ref 53)] [] M2) : ZP X Zt196 (Zsf Zt196 1277) [(3, .int (nI i_z)), (0, .ref 99), (1, .ref 0), (2, .ref 53)] [] M := by
  obtain ⟨h1_z, h2_z, h3_z, h4_z⟩ := id hg_z
  obtain ⟨hz_z, hfi⟩ := h1_z
  obtain ⟨n_z, hn_z, hn2⟩ := hfi.seven
  refine Zgo hX 6 rfl (by first | exact True.intro | (dsimp only [ZallP]; and_intros <;> exact Zix hlen hi_z (by decide))) ?_
  refine Zs_callv hX (List.cons_ne_nil _ _) (k_told _ M) (by first | decide | omega) (by decide) rfl rfl rfl (by decide) (Nat.le_of_ble_eq_true rfl) (fun r_z M' hc_z => ?_)
  obtain ⟨⟨v_z, rfl⟩, hsc⟩ := hc_z
  have e54 : M' 54 = M 54 := hsc.f54
  obtain ⟨M1, rfl⟩ : ∃ M1, M1 = M' := ⟨_, rfl⟩
  refine Zgo hX 7 rfl (by first | exact True.intro | (dsimp only [ZallP]; and_intros <;> exact Zix hlen hi_z (by decide))) ?_
  refine Zs_callv hX (List.cons_ne_nil _ _) (s_told _ M1) (by first | decide | omega) (by decide) rfl rfl rfl (by decide) (Nat.le_of_ble_eq_true rfl) (fun r_z M' hc_z => ?_)
  obtain ⟨⟨v2_z, rfl⟩, hsc2⟩ := hc_z
  refine Zgo hX 2 rfl (by (first | exact True.intro | assumption | (dsimp only [ZallP]; and_intros <;> (first | assumption | decide | omega | ((try simp (disch := omega) only [pk_mul, nI_add, Zcl_n]); exact Zin_n (by omega) (by decide)))))) ?_
  exact kk _ (Zgl_B hg_z hsc hsc2)

def Zlaw_ks : List (Int32 × Nat) := [(nI 0, 192), (nI 1, 235), (nI 2, 268), (nI 3, 301), (nI 4, 334), (nI 5, 367), (nI 6, 390), (nI 7, 423), (nI 8, 446), (nI 9, 479), (nI 10, 542), (nI 11, 565), (nI 12, 588), (nI 13, 641), (nI 14, 664), (nI 15, 687), (nI 16, 710), (nI 17, 753), (nI 18, 786), (nI 19, 799), (nI 20, 842), (nI 21, 875), (nI 22, 898), (nI 23, 931), (nI 24, 974), (nI 25, 997), (nI 26, 1040), (nI 27, 1083), (nI 28, 1146), (nI 29, 1169), (nI 30, 1192), (nI 31, 1205), (nI 32, 1218), (nI 33, 1241), (nI 34, 1254), (nI 35, 1277)]
theorem Zlaw_d : ∀ v_z, v_z < 64 → 35 < v_z → Zsl (nI v_z) 1300 Zlaw_ks = 1300 := by decide +kernel
theorem Zlaw_m (x_z : Int32) : ∃ v_z, v_z < 64 ∧ x_z &&& nI 63 = nI v_z := by
  refine ⟨(x_z.toBitVec &&& 63#32).toNat, ?_, ?_⟩
  · have : (x_z.toBitVec &&& 63#32).toNat = x_z.toBitVec.toNat % 64 := by
      rw [BitVec.toNat_and]
      exact Nat.and_two_pow_sub_one_eq_mod _ 6
    omega
  · apply Int32.toBitVec_inj.1
    show x_z.toBitVec &&& (nI 63).toBitVec = BitVec.ofNat 32 (x_z.toBitVec &&& 63#32).toNat
    rw [BitVec.ofNat_toNat, BitVec.setWidth_eq]
    rfl

set_option maxRecDepth 20000 in
theorem Zlaw_s0 {X : Zx} {fr i_z : Nat} {M : Zmem} (hX : ZOK X 196 fr Zt196) (hfr : 80 ≤ fr) (hlen : (zsc X).1 ≤ 100000) (hi_z : i_z + 6 ≤ (zsc X).1) (hg_z : Zgl M) (kk : ∀ M2, Zgl M2 → ZP X Zt196 (Zsf Zt196 1300) [(3, .int (nI i_z)), (0, .ref 99), (1, .ref 0), (2, .ref 53)] [] M2) : ZP X Zt196 (Zsf Zt196 33) [(3, .int (nI i_z)), (0, .ref 99), (1, .ref 0), (2, .ref 53)] [.int (nI 0)] M := by
  refine Zs_sw Zlaw_ks 1300 hX (by decide +kernel) (by decide +kernel) (t := 192) (by decide +kernel) ?_
  exact Zlaw_knit hX hfr hlen hi_z hg_z kk

set_option maxRecDepth 20000 in
theorem Zlaw_s1 {X : Zx} {fr i_z : Nat} {M : Zmem} (hX : ZOK X 196 fr Zt196) (hfr : 80 ≤ fr) (hlen : (zsc X).1 ≤ 100000) (hi_z : i_z + 6 ≤ (zsc X).1) (hg_z : Zgl M) (kk : ∀ M2, Zgl M2 → ZP X Zt196 (Zsf Zt196 1300) [(3, .int (nI i_z)), (0, .ref 99), (1, .ref 0), (2, .ref 53)] [] M2) : ZP X Zt196 (Zsf Zt196 33) [(3, .int (nI i_z)), (0, .ref 99), (1, .ref 0), (2, .ref 53)] [.int (nI 1)] M := by
  refine Zs_sw Zlaw_ks 1300 hX (by decide +kernel) (by decide +kernel) (t := 235) (by decide +kernel) ?_
  exact Zlaw_rowIs hX hfr hlen hi_z hg_z kk

set_option maxRecDepth 20000 in
theorem Zlaw_s2 {X : Zx} {fr i_z : Nat} {M : Zmem} (hX : ZOK X 196 fr Zt196) (hfr : 80 ≤ fr) (hlen : (zsc X).1 ≤ 100000) (hi_z : i_z + 6 ≤ (zsc X).1) (hg_z : Zgl M) (kk : ∀ M2, Zgl M2 → ZP X Zt196 (Zsf Zt196 1300) [(3, .int (nI i_z)), (0, .ref 99), (1, .ref 0), (2, .ref 53)] [] M2) : ZP X Zt196 (Zsf Zt196 33) [(3, .int (nI i_z)), (0, .ref 99), (1, .ref 0), (2, .ref 53)] [.int (nI 2)] M := by
  refine Zs_sw Zlaw_ks 1300 hX (by decide +kernel) (by decide +kernel) (t := 268) (by decide +kernel) ?_
  exact Zlaw_become hX hfr hlen hi_z hg_z kk

set_option maxRecDepth 20000 in
theorem Zlaw_s3 {X : Zx} {fr i_z : Nat} {M : Zmem} (hX : ZOK X 196 fr Zt196) (hfr : 80 ≤ fr) (hlen : (zsc X).1 ≤ 100000) (hi_z : i_z + 6 ≤ (zsc X).1) (hg_z : Zgl M) (kk : ∀ M2, Zgl M2 → ZP X Zt196 (Zsf Zt196 1300) [(3, .int (nI i_z)), (0, .ref 99), (1, .ref 0), (2, .ref 53)] [] M2) : ZP X Zt196 (Zsf Zt196 33) [(3, .int (nI i_z)), (0, .ref 99), (1, .ref 0), (2, .ref 53)] [.int (nI 3)] M := by
  refine Zs_sw Zlaw_ks 1300 hX (by decide +kernel) (by decide +kernel) (t := 301) (by decide +kernel) ?_
  exact Zlaw_as hX hfr hlen hi_z hg_z kk

set_option maxRecDepth 20000 in
theorem Zlaw_s4 {X : Zx} {fr i_z : Nat} {M : Zmem} (hX : ZOK X 196 fr Zt196) (hfr : 80 ≤ fr) (hlen : (zsc X).1 ≤ 100000) (hi_z : i_z + 6 ≤ (zsc X).1) (hg_z : Zgl M) (kk : ∀ M2, Zgl M2 → ZP X Zt196 (Zsf Zt196 1300) [(3, .int (nI i_z)), (0, .ref 99), (1, .ref 0), (2, .ref 53)] [] M2) : ZP X Zt196 (Zsf Zt196 33) [(3, .int (nI i_z)), (0, .ref 99), (1, .ref 0), (2, .ref 53)] [.int (nI 4)] M := by
  refine Zs_sw Zlaw_ks 1300 hX (by decide +kernel) (by decide +kernel) (t := 334) (by decide +kernel) ?_
  exact Zlaw_tie hX hfr hlen hi_z hg_z kk

set_option maxRecDepth 20000 in
theorem Zlaw_s5 {X : Zx} {fr i_z : Nat} {M : Zmem} (hX : ZOK X 196 fr Zt196) (hfr : 80 ≤ fr) (hlen : (zsc X).1 ≤ 100000) (hi_z : i_z + 6 ≤ (zsc X).1) (hg_z : Zgl M) (kk : ∀ M2, Zgl M2 → ZP X Zt196 (Zsf Zt196 1300) [(3, .int (nI i_z)), (0, .ref 99), (1, .ref 0), (2, .ref 53)] [] M2) : ZP X Zt196 (Zsf Zt196 33) [(3, .int (nI i_z)), (0, .ref 99), (1, .ref 0), (2, .ref 53)] [.int (nI 5)] M := by
  refine Zs_sw Zlaw_ks 1300 hX (by decide +kernel) (by decide +kernel) (t := 367) (by decide +kernel) ?_
  exact Zlaw_drop hX hfr hlen hi_z hg_z kk

set_option maxRecDepth 20000 in
theorem Zlaw_s6 {X : Zx} {fr i_z : Nat} {M : Zmem} (hX : ZOK X 196 fr Zt196) (hfr : 80 ≤ fr) (hlen : (zsc X).1 ≤ 100000) (hi_z : i_z + 6 ≤ (zsc X).1) (hg_z : Zgl M) (kk : ∀ M2, Zgl M2 → ZP X Zt196 (Zsf Zt196 1300) [(3, .int (nI i_z)), (0, .ref 99), (1, .ref 0), (2, .ref 53)] [] M2) : ZP X Zt196 (Zsf Zt196 33) [(3, .int (nI i_z)), (0, .ref 99), (1, .ref 0), (2, .ref 53)] [.int (nI 6)] M := by
  refine Zs_sw Zlaw_ks 1300 hX (by decide +kernel) (by decide +kernel) (t := 390) (by decide +kernel) ?_
  exact Zlaw_tense hX hfr hlen hi_z hg_z kk

set_option maxRecDepth 20000 in
theorem Zlaw_s7 {X : Zx} {fr i_z : Nat} {M : Zmem} (hX : ZOK X 196 fr Zt196) (hfr : 80 ≤ fr) (hlen : (zsc X).1 ≤ 100000) (hi_z : i_z + 6 ≤ (zsc X).1) (hg_z : Zgl M) (kk : ∀ M2, Zgl M2 → ZP X Zt196 (Zsf Zt196 1300) [(3, .int (nI i_z)), (0, .ref 99), (1, .ref 0), (2, .ref 53)] [] M2) : ZP X Zt196 (Zsf Zt196 33) [(3, .int (nI i_z)), (0, .ref 99), (1, .ref 0), (2, .ref 53)] [.int (nI 7)] M := by
  refine Zs_sw Zlaw_ks 1300 hX (by decide +kernel) (by decide +kernel) (t := 423) (by decide +kernel) ?_
  exact Zlaw_pull hX hfr hlen hi_z hg_z kk

set_option maxRecDepth 20000 in
theorem Zlaw_s8 {X : Zx} {fr i_z : Nat} {M : Zmem} (hX : ZOK X 196 fr Zt196) (hfr : 80 ≤ fr) (hlen : (zsc X).1 ≤ 100000) (hi_z : i_z + 6 ≤ (zsc X).1) (hg_z : Zgl M) (kk : ∀ M2, Zgl M2 → ZP X Zt196 (Zsf Zt196 1300) [(3, .int (nI i_z)), (0, .ref 99), (1, .ref 0), (2, .ref 53)] [] M2) : ZP X Zt196 (Zsf Zt196 33) [(3, .int (nI i_z)), (0, .ref 99), (1, .ref 0), (2, .ref 53)] [.int (nI 8)] M := by
  refine Zs_sw Zlaw_ks 1300 hX (by decide +kernel) (by decide +kernel) (t := 446) (by decide +kernel) ?_
  exact Zlaw_wind hX hfr hlen hi_z hg_z kk

set_option maxRecDepth 20000 in
theorem Zlaw_s9 {X : Zx} {fr i_z : Nat} {M : Zmem} (hX : ZOK X 196 fr Zt196) (hfr : 80 ≤ fr) (hlen : (zsc X).1 ≤ 100000) (hi_z : i_z + 6 ≤ (zsc X).1) (hg_z : Zgl M) (kk : ∀ M2, Zgl M2 → ZP X Zt196 (Zsf Zt196 1300) [(3, .int (nI i_z)), (0, .ref 99), (1, .ref 0), (2, .ref 53)] [] M2) : ZP X Zt196 (Zsf Zt196 33) [(3, .int (nI i_z)), (0, .ref 99), (1, .ref 0), (2, .ref 53)] [.int (nI 9)] M := by
  refine Zs_sw Zlaw_ks 1300 hX (by decide +kernel) (by decide +kernel) (t := 479) (by decide +kernel) ?_
  exact Zlaw_feed hX hfr hlen hi_z hg_z kk

set_option maxRecDepth 20000 in
theorem Zlaw_s10 {X : Zx} {fr i_z : Nat} {M : Zmem} (hX : ZOK X 196 fr Zt196) (hfr : 80 ≤ fr) (hlen : (zsc X).1 ≤ 100000) (hi_z : i_z + 6 ≤ (zsc X).1) (hg_z : Zgl M) (kk : ∀ M2, Zgl M2 → ZP X Zt196 (Zsf Zt196 1300) [(3, .int (nI i_z)), (0, .ref 99), (1, .ref 0), (2, .ref 53)] [] M2) : ZP X Zt196 (Zsf Zt196 33) [(3, .int (nI i_z)), (0, .ref 99), (1, .ref 0), (2, .ref 53)] [.int (nI 10)] M := by
  refine Zs_sw Zlaw_ks 1300 hX (by decide +kernel) (by decide +kernel) (t := 542) (by decide +kernel) ?_
  exact Zlaw_text hX hfr hlen hi_z hg_z kk

set_option maxRecDepth 20000 in
theorem Zlaw_s11 {X : Zx} {fr i_z : Nat} {M : Zmem} (hX : ZOK X 196 fr Zt196) (hfr : 80 ≤ fr) (hlen : (zsc X).1 ≤ 100000) (hi_z : i_z + 6 ≤ (zsc X).1) (hg_z : Zgl M) (kk : ∀ M2, Zgl M2 → ZP X Zt196 (Zsf Zt196 1300) [(3, .int (nI i_z)), (0, .ref 99), (1, .ref 0), (2, .ref 53)] [] M2) : ZP X Zt196 (Zsf Zt196 33) [(3, .int (nI i_z)), (0, .ref 99), (1, .ref 0), (2, .ref 53)] [.int (nI 11)] M := by
  refine Zs_sw Zlaw_ks 1300 hX (by decide +kernel) (by decide +kernel) (t := 565) (by decide +kernel) ?_
  exact Zlaw_untell hX hfr hlen hi_z hg_z kk

set_option maxRecDepth 20000 in
theorem Zlaw_s12 {X : Zx} {fr i_z : Nat} {M : Zmem} (hX : ZOK X 196 fr Zt196) (hfr : 80 ≤ fr) (hlen : (zsc X).1 ≤ 100000) (hi_z : i_z + 6 ≤ (zsc X).1) (hg_z : Zgl M) (kk : ∀ M2, Zgl M2 → ZP X Zt196 (Zsf Zt196 1300) [(3, .int (nI i_z)), (0, .ref 99), (1, .ref 0), (2, .ref 53)] [] M2) : ZP X Zt196 (Zsf Zt196 33) [(3, .int (nI i_z)), (0, .ref 99), (1, .ref 0), (2, .ref 53)] [.int (nI 12)] M := by
  refine Zs_sw Zlaw_ks 1300 hX (by decide +kernel) (by decide +kernel) (t := 588) (by decide +kernel) ?_
  exact Zlaw_law hX hfr hlen hi_z hg_z kk

set_option maxRecDepth 20000 in
theorem Zlaw_s13 {X : Zx} {fr i_z : Nat} {M : Zmem} (hX : ZOK X 196 fr Zt196) (hfr : 80 ≤ fr) (hlen : (zsc X).1 ≤ 100000) (hi_z : i_z + 6 ≤ (zsc X).1) (hg_z : Zgl M) (kk : ∀ M2, Zgl M2 → ZP X Zt196 (Zsf Zt196 1300) [(3, .int (nI i_z)), (0, .ref 99), (1, .ref 0), (2, .ref 53)] [] M2) : ZP X Zt196 (Zsf Zt196 33) [(3, .int (nI i_z)), (0, .ref 99), (1, .ref 0), (2, .ref 53)] [.int (nI 13)] M := by
  refine Zs_sw Zlaw_ks 1300 hX (by decide +kernel) (by decide +kernel) (t := 641) (by decide +kernel) ?_
  exact Zlaw_season hX hfr hlen hi_z hg_z kk

set_option maxRecDepth 20000 in
theorem Zlaw_s14 {X : Zx} {fr i_z : Nat} {M : Zmem} (hX : ZOK X 196 fr Zt196) (hfr : 80 ≤ fr) (hlen : (zsc X).1 ≤ 100000) (hi_z : i_z + 6 ≤ (zsc X).1) (hg_z : Zgl M) (kk : ∀ M2, Zgl M2 → ZP X Zt196 (Zsf Zt196 1300) [(3, .int (nI i_z)), (0, .ref 99), (1, .ref 0), (2, .ref 53)] [] M2) : ZP X Zt196 (Zsf Zt196 33) [(3, .int (nI i_z)), (0, .ref 99), (1, .ref 0), (2, .ref 53)] [.int (nI 14)] M := by
  refine Zs_sw Zlaw_ks 1300 hX (by decide +kernel) (by decide +kernel) (t := 664) (by decide +kernel) ?_
  exact Zlaw_loose hX hfr hlen hi_z hg_z kk

set_option maxRecDepth 20000 in
theorem Zlaw_s15 {X : Zx} {fr i_z : Nat} {M : Zmem} (hX : ZOK X 196 fr Zt196) (hfr : 80 ≤ fr) (hlen : (zsc X).1 ≤ 100000) (hi_z : i_z + 6 ≤ (zsc X).1) (hg_z : Zgl M) (kk : ∀ M2, Zgl M2 → ZP X Zt196 (Zsf Zt196 1300) [(3, .int (nI i_z)), (0, .ref 99), (1, .ref 0), (2, .ref 53)] [] M2) : ZP X Zt196 (Zsf Zt196 33) [(3, .int (nI i_z)), (0, .ref 99), (1, .ref 0), (2, .ref 53)] [.int (nI 15)] M := by
  refine Zs_sw Zlaw_ks 1300 hX (by decide +kernel) (by decide +kernel) (t := 687) (by decide +kernel) ?_
  exact Zlaw_seed hX hfr hlen hi_z hg_z kk

set_option maxRecDepth 20000 in
theorem Zlaw_s16 {X : Zx} {fr i_z : Nat} {M : Zmem} (hX : ZOK X 196 fr Zt196) (hfr : 80 ≤ fr) (hlen : (zsc X).1 ≤ 100000) (hi_z : i_z + 6 ≤ (zsc X).1) (hg_z : Zgl M) (kk : ∀ M2, Zgl M2 → ZP X Zt196 (Zsf Zt196 1300) [(3, .int (nI i_z)), (0, .ref 99), (1, .ref 0), (2, .ref 53)] [] M2) : ZP X Zt196 (Zsf Zt196 33) [(3, .int (nI i_z)), (0, .ref 99), (1, .ref 0), (2, .ref 53)] [.int (nI 16)] M := by
  refine Zs_sw Zlaw_ks 1300 hX (by decide +kernel) (by decide +kernel) (t := 710) (by decide +kernel) ?_
  exact Zlaw_flow hX hfr hlen hi_z hg_z kk

set_option maxRecDepth 20000 in
theorem Zlaw_s17 {X : Zx} {fr i_z : Nat} {M : Zmem} (hX : ZOK X 196 fr Zt196) (hfr : 80 ≤ fr) (hlen : (zsc X).1 ≤ 100000) (hi_z : i_z + 6 ≤ (zsc X).1) (hg_z : Zgl M) (kk : ∀ M2, Zgl M2 → ZP X Zt196 (Zsf Zt196 1300) [(3, .int (nI i_z)), (0, .ref 99), (1, .ref 0), (2, .ref 53)] [] M2) : ZP X Zt196 (Zsf Zt196 33) [(3, .int (nI i_z)), (0, .ref 99), (1, .ref 0), (2, .ref 53)] [.int (nI 17)] M := by
  refine Zs_sw Zlaw_ks 1300 hX (by decide +kernel) (by decide +kernel) (t := 753) (by decide +kernel) ?_
  exact Zlaw_course hX hfr hlen hi_z hg_z kk

set_option maxRecDepth 20000 in
theorem Zlaw_s18 {X : Zx} {fr i_z : Nat} {M : Zmem} (hX : ZOK X 196 fr Zt196) (hfr : 80 ≤ fr) (hlen : (zsc X).1 ≤ 100000) (hi_z : i_z + 6 ≤ (zsc X).1) (hg_z : Zgl M) (kk : ∀ M2, Zgl M2 → ZP X Zt196 (Zsf Zt196 1300) [(3, .int (nI i_z)), (0, .ref 99), (1, .ref 0), (2, .ref 53)] [] M2) : ZP X Zt196 (Zsf Zt196 33) [(3, .int (nI i_z)), (0, .ref 99), (1, .ref 0), (2, .ref 53)] [.int (nI 18)] M := by
  refine Zs_sw Zlaw_ks 1300 hX (by decide +kernel) (by decide +kernel) (t := 786) (by decide +kernel) ?_
  exact Zlaw_crosses hX hfr hlen hi_z hg_z kk

set_option maxRecDepth 20000 in
theorem Zlaw_s19 {X : Zx} {fr i_z : Nat} {M : Zmem} (hX : ZOK X 196 fr Zt196) (hfr : 80 ≤ fr) (hlen : (zsc X).1 ≤ 100000) (hi_z : i_z + 6 ≤ (zsc X).1) (hg_z : Zgl M) (kk : ∀ M2, Zgl M2 → ZP X Zt196 (Zsf Zt196 1300) [(3, .int (nI i_z)), (0, .ref 99), (1, .ref 0), (2, .ref 53)] [] M2) : ZP X Zt196 (Zsf Zt196 33) [(3, .int (nI i_z)), (0, .ref 99), (1, .ref 0), (2, .ref 53)] [.int (nI 19)] M := by
  refine Zs_sw Zlaw_ks 1300 hX (by decide +kernel) (by decide +kernel) (t := 799) (by decide +kernel) ?_
  exact Zlaw_reach hX hfr hlen hi_z hg_z kk

set_option maxRecDepth 20000 in
theorem Zlaw_s20 {X : Zx} {fr i_z : Nat} {M : Zmem} (hX : ZOK X 196 fr Zt196) (hfr : 80 ≤ fr) (hlen : (zsc X).1 ≤ 100000) (hi_z : i_z + 6 ≤ (zsc X).1) (hg_z : Zgl M) (kk : ∀ M2, Zgl M2 → ZP X Zt196 (Zsf Zt196 1300) [(3, .int (nI i_z)), (0, .ref 99), (1, .ref 0), (2, .ref 53)] [] M2) : ZP X Zt196 (Zsf Zt196 33) [(3, .int (nI i_z)), (0, .ref 99), (1, .ref 0), (2, .ref 53)] [.int (nI 20)] M := by
  refine Zs_sw Zlaw_ks 1300 hX (by decide +kernel) (by decide +kernel) (t := 842) (by decide +kernel) ?_
  exact Zlaw_ease hX hfr hlen hi_z hg_z kk

set_option maxRecDepth 20000 in
theorem Zlaw_s21 {X : Zx} {fr i_z : Nat} {M : Zmem} (hX : ZOK X 196 fr Zt196) (hfr : 80 ≤ fr) (hlen : (zsc X).1 ≤ 100000) (hi_z : i_z + 6 ≤ (zsc X).1) (hg_z : Zgl M) (kk : ∀ M2, Zgl M2 → ZP X Zt196 (Zsf Zt196 1300) [(3, .int (nI i_z)), (0, .ref 99), (1, .ref 0), (2, .ref 53)] [] M2) : ZP X Zt196 (Zsf Zt196 33) [(3, .int (nI i_z)), (0, .ref 99), (1, .ref 0), (2, .ref 53)] [.int (nI 21)] M := by
  refine Zs_sw Zlaw_ks 1300 hX (by decide +kernel) (by decide +kernel) (t := 875) (by decide +kernel) ?_
  exact Zlaw_odds hX hfr hlen hi_z hg_z kk

set_option maxRecDepth 20000 in
theorem Zlaw_s22 {X : Zx} {fr i_z : Nat} {M : Zmem} (hX : ZOK X 196 fr Zt196) (hfr : 80 ≤ fr) (hlen : (zsc X).1 ≤ 100000) (hi_z : i_z + 6 ≤ (zsc X).1) (hg_z : Zgl M) (kk : ∀ M2, Zgl M2 → ZP X Zt196 (Zsf Zt196 1300) [(3, .int (nI i_z)), (0, .ref 99), (1, .ref 0), (2, .ref 53)] [] M2) : ZP X Zt196 (Zsf Zt196 33) [(3, .int (nI i_z)), (0, .ref 99), (1, .ref 0), (2, .ref 53)] [.int (nI 22)] M := by
  refine Zs_sw Zlaw_ks 1300 hX (by decide +kernel) (by decide +kernel) (t := 898) (by decide +kernel) ?_
  exact Zlaw_fits hX hfr hlen hi_z hg_z kk

set_option maxRecDepth 20000 in
theorem Zlaw_s23 {X : Zx} {fr i_z : Nat} {M : Zmem} (hX : ZOK X 196 fr Zt196) (hfr : 80 ≤ fr) (hlen : (zsc X).1 ≤ 100000) (hi_z : i_z + 6 ≤ (zsc X).1) (hg_z : Zgl M) (kk : ∀ M2, Zgl M2 → ZP X Zt196 (Zsf Zt196 1300) [(3, .int (nI i_z)), (0, .ref 99), (1, .ref 0), (2, .ref 53)] [] M2) : ZP X Zt196 (Zsf Zt196 33) [(3, .int (nI i_z)), (0, .ref 99), (1, .ref 0), (2, .ref 53)] [.int (nI 23)] M := by
  refine Zs_sw Zlaw_ks 1300 hX (by decide +kernel) (by decide +kernel) (t := 931) (by decide +kernel) ?_
  exact Zlaw_voice hX hfr hlen hi_z hg_z kk

set_option maxRecDepth 20000 in
theorem Zlaw_s24 {X : Zx} {fr i_z : Nat} {M : Zmem} (hX : ZOK X 196 fr Zt196) (hfr : 80 ≤ fr) (hlen : (zsc X).1 ≤ 100000) (hi_z : i_z + 6 ≤ (zsc X).1) (hg_z : Zgl M) (kk : ∀ M2, Zgl M2 → ZP X Zt196 (Zsf Zt196 1300) [(3, .int (nI i_z)), (0, .ref 99), (1, .ref 0), (2, .ref 53)] [] M2) : ZP X Zt196 (Zsf Zt196 33) [(3, .int (nI i_z)), (0, .ref 99), (1, .ref 0), (2, .ref 53)] [.int (nI 24)] M := by
  refine Zs_sw Zlaw_ks 1300 hX (by decide +kernel) (by decide +kernel) (t := 974) (by decide +kernel) ?_
  exact Zlaw_body hX hfr hlen hi_z hg_z kk

set_option maxRecDepth 20000 in
theorem Zlaw_s25 {X : Zx} {fr i_z : Nat} {M : Zmem} (hX : ZOK X 196 fr Zt196) (hfr : 80 ≤ fr) (hlen : (zsc X).1 ≤ 100000) (hi_z : i_z + 6 ≤ (zsc X).1) (hg_z : Zgl M) (kk : ∀ M2, Zgl M2 → ZP X Zt196 (Zsf Zt196 1300) [(3, .int (nI i_z)), (0, .ref 99), (1, .ref 0), (2, .ref 53)] [] M2) : ZP X Zt196 (Zsf Zt196 33) [(3, .int (nI i_z)), (0, .ref 99), (1, .ref 0), (2, .ref 53)] [.int (nI 25)] M := by
  refine Zs_sw Zlaw_ks 1300 hX (by decide +kernel) (by decide +kernel) (t := 997) (by decide +kernel) ?_
  exact Zlaw_sheet hX hfr hlen hi_z hg_z kk

set_option maxRecDepth 20000 in
theorem Zlaw_s26 {X : Zx} {fr i_z : Nat} {M : Zmem} (hX : ZOK X 196 fr Zt196) (hfr : 80 ≤ fr) (hlen : (zsc X).1 ≤ 100000) (hi_z : i_z + 6 ≤ (zsc X).1) (hg_z : Zgl M) (kk : ∀ M2, Zgl M2 → ZP X Zt196 (Zsf Zt196 1300) [(3, .int (nI i_z)), (0, .ref 99), (1, .ref 0), (2, .ref 53)] [] M2) : ZP X Zt196 (Zsf Zt196 33) [(3, .int (nI i_z)), (0, .ref 99), (1, .ref 0), (2, .ref 53)] [.int (nI 26)] M := by
  refine Zs_sw Zlaw_ks 1300 hX (by decide +kernel) (by decide +kernel) (t := 1040) (by decide +kernel) ?_
  exact Zlaw_put hX hfr hlen hi_z hg_z kk

set_option maxRecDepth 20000 in
theorem Zlaw_s27 {X : Zx} {fr i_z : Nat} {M : Zmem} (hX : ZOK X 196 fr Zt196) (hfr : 80 ≤ fr) (hlen : (zsc X).1 ≤ 100000) (hi_z : i_z + 6 ≤ (zsc X).1) (hg_z : Zgl M) (kk : ∀ M2, Zgl M2 → ZP X Zt196 (Zsf Zt196 1300) [(3, .int (nI i_z)), (0, .ref 99), (1, .ref 0), (2, .ref 53)] [] M2) : ZP X Zt196 (Zsf Zt196 33) [(3, .int (nI i_z)), (0, .ref 99), (1, .ref 0), (2, .ref 53)] [.int (nI 27)] M := by
  refine Zs_sw Zlaw_ks 1300 hX (by decide +kernel) (by decide +kernel) (t := 1083) (by decide +kernel) ?_
  exact Zlaw_move hX hfr hlen hi_z hg_z kk

set_option maxRecDepth 20000 in
theorem Zlaw_s28 {X : Zx} {fr i_z : Nat} {M : Zmem} (hX : ZOK X 196 fr Zt196) (hfr : 80 ≤ fr) (hlen : (zsc X).1 ≤ 100000) (hi_z : i_z + 6 ≤ (zsc X).1) (hg_z : Zgl M) (kk : ∀ M2, Zgl M2 → ZP X Zt196 (Zsf Zt196 1300) [(3, .int (nI i_z)), (0, .ref 99), (1, .ref 0), (2, .ref 53)] [] M2) : ZP X Zt196 (Zsf Zt196 33) [(3, .int (nI i_z)), (0, .ref 99), (1, .ref 0), (2, .ref 53)] [.int (nI 28)] M := by
  refine Zs_sw Zlaw_ks 1300 hX (by decide +kernel) (by decide +kernel) (t := 1146) (by decide +kernel) ?_
  exact Zlaw_tensions hX hfr hlen hi_z hg_z kk

set_option maxRecDepth 20000 in
theorem Zlaw_s29 {X : Zx} {fr i_z : Nat} {M : Zmem} (hX : ZOK X 196 fr Zt196) (hfr : 80 ≤ fr) (hlen : (zsc X).1 ≤ 100000) (hi_z : i_z + 6 ≤ (zsc X).1) (hg_z : Zgl M) (kk : ∀ M2, Zgl M2 → ZP X Zt196 (Zsf Zt196 1300) [(3, .int (nI i_z)), (0, .ref 99), (1, .ref 0), (2, .ref 53)] [] M2) : ZP X Zt196 (Zsf Zt196 33) [(3, .int (nI i_z)), (0, .ref 99), (1, .ref 0), (2, .ref 53)] [.int (nI 29)] M := by
  refine Zs_sw Zlaw_ks 1300 hX (by decide +kernel) (by decide +kernel) (t := 1169) (by decide +kernel) ?_
  exact Zlaw_judge hX hfr hlen hi_z hg_z kk

set_option maxRecDepth 20000 in
theorem Zlaw_s30 {X : Zx} {fr i_z : Nat} {M : Zmem} (hX : ZOK X 196 fr Zt196) (hfr : 80 ≤ fr) (hlen : (zsc X).1 ≤ 100000) (hi_z : i_z + 6 ≤ (zsc X).1) (hg_z : Zgl M) (kk : ∀ M2, Zgl M2 → ZP X Zt196 (Zsf Zt196 1300) [(3, .int (nI i_z)), (0, .ref 99), (1, .ref 0), (2, .ref 53)] [] M2) : ZP X Zt196 (Zsf Zt196 33) [(3, .int (nI i_z)), (0, .ref 99), (1, .ref 0), (2, .ref 53)] [.int (nI 30)] M := by
  refine Zs_sw Zlaw_ks 1300 hX (by decide +kernel) (by decide +kernel) (t := 1192) (by decide +kernel) ?_
  exact Zlaw_image hX hfr hlen hi_z hg_z kk

set_option maxRecDepth 20000 in
theorem Zlaw_s31 {X : Zx} {fr i_z : Nat} {M : Zmem} (hX : ZOK X 196 fr Zt196) (hfr : 80 ≤ fr) (hlen : (zsc X).1 ≤ 100000) (hi_z : i_z + 6 ≤ (zsc X).1) (hg_z : Zgl M) (kk : ∀ M2, Zgl M2 → ZP X Zt196 (Zsf Zt196 1300) [(3, .int (nI i_z)), (0, .ref 99), (1, .ref 0), (2, .ref 53)] [] M2) : ZP X Zt196 (Zsf Zt196 33) [(3, .int (nI i_z)), (0, .ref 99), (1, .ref 0), (2, .ref 53)] [.int (nI 31)] M := by
  refine Zs_sw Zlaw_ks 1300 hX (by decide +kernel) (by decide +kernel) (t := 1205) (by decide +kernel) ?_
  exact Zlaw_restore hX hfr hlen hi_z hg_z kk

set_option maxRecDepth 20000 in
theorem Zlaw_s32 {X : Zx} {fr i_z : Nat} {M : Zmem} (hX : ZOK X 196 fr Zt196) (hfr : 80 ≤ fr) (hlen : (zsc X).1 ≤ 100000) (hi_z : i_z + 6 ≤ (zsc X).1) (hg_z : Zgl M) (kk : ∀ M2, Zgl M2 → ZP X Zt196 (Zsf Zt196 1300) [(3, .int (nI i_z)), (0, .ref 99), (1, .ref 0), (2, .ref 53)] [] M2) : ZP X Zt196 (Zsf Zt196 33) [(3, .int (nI i_z)), (0, .ref 99), (1, .ref 0), (2, .ref 53)] [.int (nI 32)] M := by
  refine Zs_sw Zlaw_ks 1300 hX (by decide +kernel) (by decide +kernel) (t := 1218) (by decide +kernel) ?_
  exact Zlaw_tell hX hfr hlen hi_z hg_z kk

set_option maxRecDepth 20000 in
theorem Zlaw_s33 {X : Zx} {fr i_z : Nat} {M : Zmem} (hX : ZOK X 196 fr Zt196) (hfr : 80 ≤ fr) (hlen : (zsc X).1 ≤ 100000) (hi_z : i_z + 6 ≤ (zsc X).1) (hg_z : Zgl M) (kk : ∀ M2, Zgl M2 → ZP X Zt196 (Zsf Zt196 1300) [(3, .int (nI i_z)), (0, .ref 99), (1, .ref 0), (2, .ref 53)] [] M2) : ZP X Zt196 (Zsf Zt196 33) [(3, .int (nI i_z)), (0, .ref 99), (1, .ref 0), (2, .ref 53)] [.int (nI 33)] M := by
  refine Zs_sw Zlaw_ks 1300 hX (by decide +kernel) (by decide +kernel) (t := 1241) (by decide +kernel) ?_
  exact Zlaw_check hX hfr hlen hi_z hg_z kk

set_option maxRecDepth 20000 in
theorem Zlaw_s34 {X : Zx} {fr i_z : Nat} {M : Zmem} (hX : ZOK X 196 fr Zt196) (hfr : 80 ≤ fr) (hlen : (zsc X).1 ≤ 100000) (hi_z : i_z + 6 ≤ (zsc X).1) (hg_z : Zgl M) (kk : ∀ M2, Zgl M2 → ZP X Zt196 (Zsf Zt196 1300) [(3, .int (nI i_z)), (0, .ref 99), (1, .ref 0), (2, .ref 53)] [] M2) : ZP X Zt196 (Zsf Zt196 33) [(3, .int (nI i_z)), (0, .ref 99), (1, .ref 0), (2, .ref 53)] [.int (nI 34)] M := by
  refine Zs_sw Zlaw_ks 1300 hX (by decide +kernel) (by decide +kernel) (t := 1254) (by decide +kernel) ?_
  exact Zlaw_count hX hfr hlen hi_z hg_z kk

set_option maxRecDepth 20000 in
theorem Zlaw_s35 {X : Zx} {fr i_z : Nat} {M : Zmem} (hX : ZOK X 196 fr Zt196) (hfr : 80 ≤ fr) (hlen : (zsc X).1 ≤ 100000) (hi_z : i_z + 6 ≤ (zsc X).1) (hg_z : Zgl M) (kk : ∀ M2, Zgl M2 → ZP X Zt196 (Zsf Zt196 1300) [(3, .int (nI i_z)), (0, .ref 99), (1, .ref 0), (2, .ref 53)] [] M2) : ZP X Zt196 (Zsf Zt196 33) [(3, .int (nI i_z)), (0, .ref 99), (1, .ref 0), (2, .ref 53)] [.int (nI 35)] M := by
  refine Zs_sw Zlaw_ks 1300 hX (by decide +kernel) (by decide +kernel) (t := 1277) (by decide +kernel) ?_
  exact Zlaw_told hX hfr hlen hi_z hg_z kk

set_option maxRecDepth 20000 in
set_option maxHeartbeats 2000000 in
theorem Zlaw_one {X : Zx} {fr i_z : Nat} {M : Zmem} (hX : ZOK X 196 fr Zt196) (hfr : 80 ≤ fr) (hlen : (zsc X).1 ≤ 100000) (hi_z : i_z + 6 ≤ (zsc X).1) (hg_z : Zgl M) (kk : ∀ M2, Zgl M2 → ZP X Zt196 (Zsf Zt196 1300) [(3, .int (nI i_z)), (0, .ref 99), (1, .ref 0), (2, .ref 53)] [] M2) : ZP X Zt196 (Zsf Zt196 27) [(3, .int (nI i_z)), (0, .ref 99), (1, .ref 0), (2, .ref 53)] [] M := by
  refine Zgo hX 5 rfl (by dsimp only [ZallP]; exact Zin_n (by omega) (by omega)) ?_
  rw [Zcl_n (show i_z < 2 ^ 31 by omega)]
  obtain ⟨v_z, hv_z, ev⟩ := Zlaw_m ((zsc X).2 i_z)
  rw [ev]
  rcases (show v_z = 0 ∨ v_z = 1 ∨ v_z = 2 ∨ v_z = 3 ∨ v_z = 4 ∨ v_z = 5 ∨ v_z = 6 ∨ v_z = 7 ∨ v_z = 8 ∨ v_z = 9 ∨ v_z = 10 ∨ v_z = 11 ∨ v_z = 12 ∨ v_z = 13 ∨ v_z = 14 ∨ v_z = 15 ∨ v_z = 16 ∨ v_z = 17 ∨ v_z = 18 ∨ v_z = 19 ∨ v_z = 20 ∨ v_z = 21 ∨ v_z = 22 ∨ v_z = 23 ∨ v_z = 24 ∨ v_z = 25 ∨ v_z = 26 ∨ v_z = 27 ∨ v_z = 28 ∨ v_z = 29 ∨ v_z = 30 ∨ v_z = 31 ∨ v_z = 32 ∨ v_z = 33 ∨ v_z = 34 ∨ v_z = 35 ∨ 35 < v_z by omega) with rfl | rfl | rfl | rfl | rfl | rfl | rfl | rfl | rfl | rfl | rfl | rfl | rfl | rfl | rfl | rfl | rfl | rfl | rfl | rfl | rfl | rfl | rfl | rfl | rfl | rfl | rfl | rfl | rfl | rfl | rfl | rfl | rfl | rfl | rfl | rfl | hd_z
  · exact Zlaw_s0 hX hfr hlen hi_z hg_z kk
  · exact Zlaw_s1 hX hfr hlen hi_z hg_z kk
  · exact Zlaw_s2 hX hfr hlen hi_z hg_z kk
  · exact Zlaw_s3 hX hfr hlen hi_z hg_z kk
  · exact Zlaw_s4 hX hfr hlen hi_z hg_z kk
  · exact Zlaw_s5 hX hfr hlen hi_z hg_z kk
  · exact Zlaw_s6 hX hfr hlen hi_z hg_z kk
  · exact Zlaw_s7 hX hfr hlen hi_z hg_z kk
  · exact Zlaw_s8 hX hfr hlen hi_z hg_z kk
  · exact Zlaw_s9 hX hfr hlen hi_z hg_z kk
  · exact Zlaw_s10 hX hfr hlen hi_z hg_z kk
  · exact Zlaw_s11 hX hfr hlen hi_z hg_z kk
  · exact Zlaw_s12 hX hfr hlen hi_z hg_z kk
  · exact Zlaw_s13 hX hfr hlen hi_z hg_z kk
  · exact Zlaw_s14 hX hfr hlen hi_z hg_z kk
  · exact Zlaw_s15 hX hfr hlen hi_z hg_z kk
  · exact Zlaw_s16 hX hfr hlen hi_z hg_z kk
  · exact Zlaw_s17 hX hfr hlen hi_z hg_z kk
  · exact Zlaw_s18 hX hfr hlen hi_z hg_z kk
  · exact Zlaw_s19 hX hfr hlen hi_z hg_z kk
  · exact Zlaw_s20 hX hfr hlen hi_z hg_z kk
  · exact Zlaw_s21 hX hfr hlen hi_z hg_z kk
  · exact Zlaw_s22 hX hfr hlen hi_z hg_z kk
  · exact Zlaw_s23 hX hfr hlen hi_z hg_z kk
  · exact Zlaw_s24 hX hfr hlen hi_z hg_z kk
  · exact Zlaw_s25 hX hfr hlen hi_z hg_z kk
  · exact Zlaw_s26 hX hfr hlen hi_z hg_z kk
  · exact Zlaw_s27 hX hfr hlen hi_z hg_z kk
  · exact Zlaw_s28 hX hfr hlen hi_z hg_z kk
  · exact Zlaw_s29 hX hfr hlen hi_z hg_z kk
  · exact Zlaw_s30 hX hfr hlen hi_z hg_z kk
  · exact Zlaw_s31 hX hfr hlen hi_z hg_z kk
  · exact Zlaw_s32 hX hfr hlen hi_z hg_z kk
  · exact Zlaw_s33 hX hfr hlen hi_z hg_z kk
  · exact Zlaw_s34 hX hfr hlen hi_z hg_z kk
  · exact Zlaw_s35 hX hfr hlen hi_z hg_z kk
  · refine Zs_sw Zlaw_ks 1300 hX (by decide +kernel) (by decide +kernel) (t := 1300) (Zlaw_d v_z hv_z hd_z) ?_
    exact kk M hg_z

set_option maxRecDepth 20000 in
set_option maxHeartbeats 2000000 in
theorem Zlaw_all {X : Zx} {fr : Nat} (hX : ZOK X 196 fr Zt196) (hE : ZE X 196 (fun r_z _ => r_z = some (.int (nI 1)))) (hfr : 80 ≤ fr) (hlen : (zsc X).1 ≤ 100000) : ∀ (q_z i_z : Nat) (M : Zmem), (zsc X).1 + 6 - i_z < q_z → i_z ≤ (zsc X).1 + 6 → Zgl M → ZP X Zt196 (Zsf Zt196 18) [(3, .int (nI i_z)), (0, .ref 99), (1, .ref 0), (2, .ref 53)] [] M := by
  intro q_z
  induction q_z with
  | zero => intro i_z M hq_z; exact absurd hq_z (Nat.not_lt_zero _)
  | succ q_z ih_z =>
    intro i_z M hq_z hi_z hg_z
    refine Zgo hX 5 rfl (by (first | exact True.intro | assumption | (dsimp only [ZallP]; and_intros <;> (first | assumption | decide | omega | ((try simp (disch := omega) only [pk_mul, nI_add, Zcl_n]); exact Zin_n (by omega) (by decide)))))) ?_
    refine Zs_igt hX (List.cons_ne_nil _ _) (fun h_z => ?_) (fun h_z => ?_)
    · refine Zgo hX 1 rfl (by (first | exact True.intro | assumption | (dsimp only [ZallP]; and_intros <;> (first | assumption | decide | omega | ((try simp (disch := omega) only [pk_mul, nI_add, Zcl_n]); exact Zin_n (by omega) (by decide)))))) ?_
      refine Zs_retz hX hE rfl (by first | exact Or.inl rfl | exact Or.inr rfl) rfl
    · have hle : i_z + 6 ≤ (zsc X).1 := by
        rw [Zlt_i, pk_sub_toInt (by omega) (by decide), Zn_i (by omega)] at h_z
        omega
      refine Zlaw_one hX hfr hlen hle hg_z (fun M2 hg2 => ?_)
      refine Zgo hX 2 rfl (by (first | exact True.intro | assumption | (dsimp only [ZallP]; and_intros <;> (first | assumption | decide | omega | ((try simp (disch := omega) only [pk_mul, nI_add, Zcl_n]); exact Zin_n (by omega) (by decide)))))) ?_
      rw [nI_add]
      refine Zs_sub (l' := [(3, .int (nI (i_z + 6))), (0, .ref 99), (1, .ref 0), (2, .ref 53)]) rfl ?_
      exact ih_z (i_z + 6) M2 (by omega) (by omega) hg2

theorem Zlaw_walk {X : Zx} {fr : Nat} {M : Zmem} (hX : ZOK X 196 fr Zt196) (hE : ZE X 196 (fun r_z _ => r_z = some (.int (nI 1)))) (hfr : 80 ≤ fr) (hlen : (zsc X).1 ≤ 100000) (hg_z : Zgl M) : ZP X Zt196 (Zsf Zt196 16) [(0, .ref 99), (1, .ref 0), (2, .ref 53)] [] M := by
  refine Zgo hX 2 rfl (by (first | exact True.intro | assumption | (dsimp only [ZallP]; and_intros <;> (first | assumption | decide | omega | ((try simp (disch := omega) only [pk_mul, nI_add, Zcl_n]); exact Zin_n (by omega) (by decide)))))) ?_
  refine Zs_sub (l' := [(3, .int (nI 0)), (0, .ref 99), (1, .ref 0), (2, .ref 53)]) rfl ?_
  exact Zlaw_all hX hE hfr hlen _ 0 M (Nat.lt_succ_self _) (by omega) hg_z
