theorem Zpred (d_z : Nat) : nI (d_z + 1) + -(nI 1) = nI d_z := by
  rw [← Int32.sub_eq_add_neg]
  exact nI_pred d_z

set_option maxRecDepth 20000 in
set_option maxHeartbeats 1000000 in
theorem s_worked (u_z n_z : Nat) (M : Zmem) (hu_z : u_z < 2) (hn_z : M 54 (84 + 125 * u_z) = nI n_z) (hn2 : n_z ≤ 60) (hw_z : Zwf u_z (Zgi (M 54) u_z) n_z 1) : ZC 74 1 [.ref 53, .int (nI u_z)] M (fun r_z M' => r_z = some (.int (Ztop (Zev (fun v_z => M 58 v_z.toNatClampNeg) (Zgi (M 54) u_z) n_z))) ∧ Sc M M') := by
  refine ZC_of Zt74 Zk74 (Nat.le_of_ble_eq_true rfl) (by decide) rfl (fun X hX hE => ?_)
  have h54_z : ∀ {M1 : Zmem}, Sc M M1 → ∀ {j_z : Nat}, M1 54 j_z = M 54 j_z := fun h_z => h_z 54 _ rfl
  have L : ∀ (q_z i_z d_z : Nat) (M1 : Zmem), n_z - i_z < q_z → i_z ≤ n_z → Sc M M1 ∧ (∀ j_z, M1 58 j_z = M 58 j_z) → Zwf u_z (Zgi (M 54) u_z) i_z d_z → Zpl (M1 59) (Zev (fun v_z => M 58 v_z.toNatClampNeg) (Zgi (M 54) u_z) i_z) → ZP X Zt74 (Zsf Zt74 13) [(0, .ref 53), (2, .int (nI (84 + 125 * u_z))), (3, .int (nI d_z)), (4, .int (nI i_z))] [] M1 := by
    intro q_z
    induction q_z with
    | zero => intro i_z d_z M1 hq_z; exact absurd hq_z (Nat.not_lt_zero _)
    | succ q_z ih_z =>
      intro i_z d_z M1 hq_z hi_z hsc0 hwf hpl
      obtain ⟨hsc, hfr⟩ := hsc0
      have hln : (Zev (fun v_z => M 58 v_z.toNatClampNeg) (Zgi (M 54) u_z) i_z).length = d_z := Zwf_len _ hwf
      have hdi : d_z ≤ i_z := Zwf_le hwf
      refine Zgo hX 5 rfl (Zin_n (by omega) (by decide)) ?_
      rw [Zcl_n (show 84 + 125 * u_z < 2 ^ 31 by omega), h54_z hsc, hn_z]
      refine Zs_ige hX (List.cons_ne_nil _ _) (fun h21_z => ?_) (fun h21_z => ?_)
      · skip
        obtain rfl : i_z = n_z := by have := (Zn_le (by omega) (by omega)).mp h21_z; omega
        obtain rfl : d_z = 1 := Zwf_un hwf hw_z
        refine Zgo hX 4 rfl (Zin_n (by decide) (by decide)) ?_
        simp only [Zcl_n, Nat.reducePow, Nat.reduceLT]
        obtain ⟨y_z, hL⟩ : ∃ y_z, Zev (fun v_z => M 58 v_z.toNatClampNeg) (Zgi (M 54) u_z) i_z = [y_z] := by
          match hq0 : Zev (fun v_z => M 58 v_z.toNatClampNeg) (Zgi (M 54) u_z) i_z with
          | [] => rw [hq0] at hln; simp at hln
          | [y_z] => exact ⟨y_z, rfl⟩
          | y_z :: z_z :: r_z => rw [hq0] at hln; simp at hln
        rw [hL] at hpl
        rw [show M1 59 0 = y_z from hpl.1]
        refine Zs_ret hX hE rfl ⟨by rw [hL]; rfl, hsc⟩
      · skip
        have hlt : i_z < n_z := (Nat.lt_or_ge i_z n_z).elim id (fun h_z => absurd ((Zn_le (by omega) (by omega)).mpr h_z) h21_z)
        obtain ⟨dn_z, hwn⟩ := Zwf_pre hw_z (i_z + 1) (by omega)
        obtain ⟨d9_z, hw9, hor⟩ := hwn
        obtain rfl : d9_z = d_z := Zwf_un hw9 hwf
        refine Zgo hX 22 rfl (by dsimp only [ZallP]; simp only [pk_mul, nI_add]; exact ⟨Zin_n (by omega) (by decide), Zin_n (by omega) (by decide)⟩) ?_
        simp only [pk_mul, nI_add]
        rw [Zcl_n (show 84 + 125 * u_z + 1 + 2 * i_z < 2 ^ 31 by omega), Zcl_n (show 84 + 125 * u_z + 2 + 2 * i_z < 2 ^ 31 by omega), h54_z hsc, h54_z hsc, show 84 + 125 * u_z + 1 + 2 * i_z = 85 + 125 * u_z + 2 * i_z by omega, show 84 + 125 * u_z + 2 + 2 * i_z = 86 + 125 * u_z + 2 * i_z by omega]
        rw [show M 54 (85 + 125 * u_z + 2 * i_z) = (Zgi (M 54) u_z i_z).1 from rfl, show M 54 (86 + 125 * u_z + 2 * i_z) = (Zgi (M 54) u_z i_z).2 from rfl]
        rcases hor with ⟨e1_z, ⟨j0_z, hj0, e2_z⟩, rfl⟩ | ⟨e1_z, ⟨c0_z, hc0, e2_z⟩, rfl⟩ | ⟨e1_z, h1_z, rfl⟩ | ⟨e1_z, ⟨c0_z, hc0, e2_z⟩, h2_z, hd3⟩
        · skip
          rw [e1_z]
          refine Zgo hX 1 rfl (by first | exact True.intro | (dsimp only [ZallP]; and_intros <;> (first | decide | ((try simp only [pk_mul, nI_add]); exact Zin_n (by omega) (by decide))))) ?_
          refine Zs_eq hX (List.cons_ne_nil _ _) (fun _ => ?_) (fun q_z => False.elim (by revert q_z; decide))
          refine Zgo hX 4 rfl True.intro ?_
          refine Zs_ne hX (List.cons_ne_nil _ _) (fun q_z => False.elim (by revert q_z; decide)) (fun _ => ?_)
          refine Zgo hX 7 rfl (Zin_n (by omega) (by decide)) ?_
          rw [Zcl_n (show d9_z < 2 ^ 31 by omega)]
          have hsc3 : Sc M (Zu M1 59 d9_z ((Zgi (M 54) u_z i_z).2)) := hsc.u _ rfl
          have hpl3 : Zpl ((Zu M1 59 d9_z ((Zgi (M 54) u_z i_z).2)) 59) ((Zgi (M 54) u_z i_z).2 :: Zev (fun v_z => M 58 v_z.toNatClampNeg) (Zgi (M 54) u_z) i_z) := by rw [Zu_at]; exact Zpl_push _ hpl hln
          have hev : Zev (fun v_z => M 58 v_z.toNatClampNeg) (Zgi (M 54) u_z) (i_z + 1) = (Zgi (M 54) u_z i_z).2 :: Zev (fun v_z => M 58 v_z.toNatClampNeg) (Zgi (M 54) u_z) i_z := by simp only [Zev, Zit, e1_z, if_true]
          rw [← hev] at hpl3
          have hwf3 : Zwf u_z (Zgi (M 54) u_z) (i_z + 1) (d9_z + 1) := ⟨d9_z, hwf, Or.inl ⟨e1_z, ⟨j0_z, hj0, e2_z⟩, rfl⟩⟩
          refine Zs_sub (l' := [(0, .ref 53), (2, .int (nI (84 + 125 * u_z))), (3, .int (nI d9_z + nI 1)), (4, .int (nI i_z + nI 1))]) rfl ?_
          rw [nI_add]
          rw [nI_add]
          exact ih_z (i_z + 1) _ _ (by omega) (by omega) ⟨hsc3, fun j_z => by rw [Zu_k, if_neg (by omega)]; exact hfr j_z⟩ hwf3 hpl3
        · skip
          rw [e1_z, e2_z]
          have hc1 := Znm_lt hc0
          refine Zgo hX 1 rfl (by first | exact True.intro | (dsimp only [ZallP]; and_intros <;> (first | decide | ((try simp only [pk_mul, nI_add]); exact Zin_n (by omega) (by decide))))) ?_
          refine Zs_eq hX (List.cons_ne_nil _ _) (fun q_z => False.elim (by revert q_z; decide)) (fun _ => ?_)
          refine Zgo hX 2 rfl (by first | exact True.intro | (dsimp only [ZallP]; and_intros <;> (first | decide | ((try simp only [pk_mul, nI_add]); exact Zin_n (by omega) (by decide))))) ?_
          refine Zs_ine hX (List.cons_ne_nil _ _) (fun q_z => False.elim (by revert q_z; decide)) (fun _ => ?_)
          refine Zgo hX 4 rfl (by first | exact True.intro | (dsimp only [ZallP]; and_intros <;> (first | decide | ((try simp only [pk_mul, nI_add]); exact Zin_n (by omega) (by decide))))) ?_
          refine Zs_ne hX (List.cons_ne_nil _ _) (fun _ => ?_) (fun q_z => False.elim (by revert q_z; decide))
          refine Zgo hX 9 rfl (by dsimp only [ZallP]; exact ⟨Zin_n (by omega) (by decide), Zin_n (by omega) (by decide)⟩) ?_
          rw [Zcl_n (show d9_z < 2 ^ 31 by omega), show M1 58 = M1 58 from rfl]
          have h58_z : M1 58 (nI c0_z).toNatClampNeg = M 58 (nI c0_z).toNatClampNeg := hfr _
          rw [h58_z]
          have hsc3 : Sc M (Zu M1 59 d9_z (M 58 (nI c0_z).toNatClampNeg)) := hsc.u _ rfl
          have hpl3 : Zpl ((Zu M1 59 d9_z (M 58 (nI c0_z).toNatClampNeg)) 59) (M 58 (nI c0_z).toNatClampNeg :: Zev (fun v_z => M 58 v_z.toNatClampNeg) (Zgi (M 54) u_z) i_z) := by rw [Zu_at]; exact Zpl_push _ hpl hln
          have hev : Zev (fun v_z => M 58 v_z.toNatClampNeg) (Zgi (M 54) u_z) (i_z + 1) = M 58 (nI c0_z).toNatClampNeg :: Zev (fun v_z => M 58 v_z.toNatClampNeg) (Zgi (M 54) u_z) i_z := by simp only [Zev, Zit, e1_z, if_neg (show ¬ nI 1 = nI 0 by decide), if_true, e2_z]
          rw [← hev] at hpl3
          have hwf3 : Zwf u_z (Zgi (M 54) u_z) (i_z + 1) (d9_z + 1) := ⟨d9_z, hwf, Or.inr (Or.inl ⟨e1_z, ⟨c0_z, hc0, e2_z⟩, rfl⟩)⟩
          refine Zs_sub (l' := [(0, .ref 53), (2, .int (nI (84 + 125 * u_z))), (3, .int (nI d9_z + nI 1)), (4, .int (nI i_z + nI 1))]) rfl ?_
          rw [nI_add]
          rw [nI_add]
          exact ih_z (i_z + 1) _ _ (by omega) (by omega) ⟨hsc3, fun j_z => by rw [Zu_k, if_neg (by omega)]; exact hfr j_z⟩ hwf3 hpl3
        · skip
          obtain ⟨y_z, r_z, hL⟩ : ∃ y_z r_z, Zev (fun v_z => M 58 v_z.toNatClampNeg) (Zgi (M 54) u_z) i_z = y_z :: r_z := by
            match hq0 : Zev (fun v_z => M 58 v_z.toNatClampNeg) (Zgi (M 54) u_z) i_z with
            | [] => rw [hq0] at hln; simp at hln; omega
            | y_z :: r_z => exact ⟨y_z, r_z, rfl⟩
          rw [hL] at hpl hln
          obtain ⟨d8_z, hd8⟩ : ∃ d8_z, dn_z = d8_z + 1 := ⟨r_z.length, by simp at hln; omega⟩
          subst hd8
          have hlr : r_z.length = d8_z := by simp at hln; omega
          have ey : M1 59 d8_z = y_z := by rw [← hlr]; exact hpl.1
          rw [e1_z]
          refine Zgo hX 1 rfl (by first | exact True.intro | (dsimp only [ZallP]; and_intros <;> (first | decide | ((try simp only [pk_mul, nI_add]); exact Zin_n (by omega) (by decide))))) ?_
          refine Zs_eq hX (List.cons_ne_nil _ _) (fun q_z => False.elim (by revert q_z; decide)) (fun _ => ?_)
          refine Zgo hX 2 rfl (by first | exact True.intro | (dsimp only [ZallP]; and_intros <;> (first | decide | ((try simp only [pk_mul, nI_add]); exact Zin_n (by omega) (by decide))))) ?_
          refine Zs_ine hX (List.cons_ne_nil _ _) (fun _ => ?_) (fun q_z => False.elim (by revert q_z; decide))
          refine Zgo hX 2 rfl (by first | exact True.intro | (dsimp only [ZallP]; and_intros <;> (first | decide | ((try simp only [pk_mul, nI_add]); exact Zin_n (by omega) (by decide))))) ?_
          refine Zs_ine hX (List.cons_ne_nil _ _) (fun q_z => False.elim (by revert q_z; decide)) (fun _ => ?_)
          refine Zgo hX 11 rfl (by show vp_in (nI (d8_z + 1) - nI 1) 64; rw [pk_sub (by omega)]; exact Zin_n (by omega) (by decide)) ?_
          rw [pk_sub (show 1 ≤ d8_z + 1 by omega), show d8_z + 1 - 1 = d8_z by omega, Zcl_n (show d8_z < 2 ^ 31 by omega), ey]
          refine Zs_ne hX (List.cons_ne_nil _ _) (fun h115_z => ?_) (fun h115_z => ?_)
          · skip
            refine Zgo hX 5 rfl (Zin_n (by omega) (by decide)) ?_
            have hv_z : (if y_z = 0 then nI 1 else nI 0) = nI 0 := if_neg h115_z
            rw [Zcl_n (show d8_z < 2 ^ 31 by omega)]
            have hsc3 : Sc M (Zu M1 59 d8_z (nI 0)) := hsc.u _ rfl
            have hpl3 : Zpl ((Zu M1 59 d8_z (nI 0)) 59) (nI 0 :: r_z) := by rw [Zu_at]; exact Zpl_push _ hpl.2 hlr
            have hev : Zev (fun v_z => M 58 v_z.toNatClampNeg) (Zgi (M 54) u_z) (i_z + 1) = (if y_z = 0 then nI 1 else nI 0) :: r_z := by simp only [Zev, Zit, e1_z, hL, if_neg (show ¬ nI 2 = nI 0 by decide), if_neg (show ¬ nI 2 = nI 1 by decide), if_true]
            rw [hv_z] at hev
            rw [← hev] at hpl3
            have hwf3 : Zwf u_z (Zgi (M 54) u_z) (i_z + 1) (d8_z + 1) := ⟨d8_z + 1, hwf, Or.inr (Or.inr (Or.inl ⟨e1_z, by omega, rfl⟩))⟩
            refine Zs_sub (l' := [(0, .ref 53), (2, .int (nI (84 + 125 * u_z))), (3, .int (nI (d8_z + 1))), (4, .int (nI i_z + nI 1))]) rfl ?_
            rw [nI_add]
            exact ih_z (i_z + 1) _ _ (by omega) (by omega) ⟨hsc3, fun j_z => by rw [Zu_k, if_neg (by omega)]; exact hfr j_z⟩ hwf3 hpl3
          · skip
            refine Zgo hX 6 rfl (Zin_n (by omega) (by decide)) ?_
            have hv_z : (if y_z = 0 then nI 1 else nI 0) = nI 1 := if_pos h115_z
            rw [Zcl_n (show d8_z < 2 ^ 31 by omega)]
            have hsc3 : Sc M (Zu M1 59 d8_z (nI 1)) := hsc.u _ rfl
            have hpl3 : Zpl ((Zu M1 59 d8_z (nI 1)) 59) (nI 1 :: r_z) := by rw [Zu_at]; exact Zpl_push _ hpl.2 hlr
            have hev : Zev (fun v_z => M 58 v_z.toNatClampNeg) (Zgi (M 54) u_z) (i_z + 1) = (if y_z = 0 then nI 1 else nI 0) :: r_z := by simp only [Zev, Zit, e1_z, hL, if_neg (show ¬ nI 2 = nI 0 by decide), if_neg (show ¬ nI 2 = nI 1 by decide), if_true]
            rw [hv_z] at hev
            rw [← hev] at hpl3
            have hwf3 : Zwf u_z (Zgi (M 54) u_z) (i_z + 1) (d8_z + 1) := ⟨d8_z + 1, hwf, Or.inr (Or.inr (Or.inl ⟨e1_z, by omega, rfl⟩))⟩
            refine Zs_sub (l' := [(0, .ref 53), (2, .int (nI (84 + 125 * u_z))), (3, .int (nI (d8_z + 1))), (4, .int (nI i_z + nI 1))]) rfl ?_
            rw [nI_add]
            exact ih_z (i_z + 1) _ _ (by omega) (by omega) ⟨hsc3, fun j_z => by rw [Zu_k, if_neg (by omega)]; exact hfr j_z⟩ hwf3 hpl3
        · skip
          obtain ⟨y_z, x_z, r_z, hL⟩ : ∃ y_z x_z r_z, Zev (fun v_z => M 58 v_z.toNatClampNeg) (Zgi (M 54) u_z) i_z = y_z :: x_z :: r_z := by
            match hq0 : Zev (fun v_z => M 58 v_z.toNatClampNeg) (Zgi (M 54) u_z) i_z with
            | [] => rw [hq0] at hln; simp at hln; omega
            | [z_z] => rw [hq0] at hln; simp at hln; omega
            | y_z :: x_z :: r_z => exact ⟨y_z, x_z, r_z, rfl⟩
          rw [hL] at hpl hln
          obtain ⟨d8_z, rfl⟩ : ∃ d8_z, d9_z = d8_z + 1 + 1 := ⟨r_z.length, by simp at hln; omega⟩
          have hlr : r_z.length = d8_z := by simp at hln; omega
          have ey : M1 59 (d8_z + 1) = y_z := by have h_z := hpl.1; rw [← hlr]; simpa using h_z
          have ex : M1 59 d8_z = x_z := by rw [← hlr]; exact hpl.2.1
          obtain rfl : dn_z = d8_z + 1 := by omega
          have hc1 := Zsg_lt hc0
          rw [e1_z, e2_z]
          refine Zgo hX 1 rfl (by first | exact True.intro | (dsimp only [ZallP]; and_intros <;> (first | decide | ((try simp only [pk_mul, nI_add]); exact Zin_n (by omega) (by decide))))) ?_
          refine Zs_eq hX (List.cons_ne_nil _ _) (fun q_z => False.elim (by revert q_z; decide)) (fun _ => ?_)
          refine Zgo hX 2 rfl (by first | exact True.intro | (dsimp only [ZallP]; and_intros <;> (first | decide | ((try simp only [pk_mul, nI_add]); exact Zin_n (by omega) (by decide))))) ?_
          refine Zs_ine hX (List.cons_ne_nil _ _) (fun _ => ?_) (fun q_z => False.elim (by revert q_z; decide))
          refine Zgo hX 2 rfl (by first | exact True.intro | (dsimp only [ZallP]; and_intros <;> (first | decide | ((try simp only [pk_mul, nI_add]); exact Zin_n (by omega) (by decide))))) ?_
          refine Zs_ine hX (List.cons_ne_nil _ _) (fun _ => ?_) (fun q_z => False.elim (by revert q_z; decide))
          refine Zgo hX 17 rfl (by dsimp only [ZallP]; have e_z : nI (d8_z + 1 + 1) + -(nI 1) = nI (d8_z + 1) := Zpred _; simp only [e_z]; rw [pk_sub (show 1 ≤ d8_z + 1 by omega)]; exact ⟨Zin_n (by omega) (by decide), Zin_n (by omega) (by decide)⟩) ?_
          have e_z : nI (d8_z + 1 + 1) + -(nI 1) = nI (d8_z + 1) := Zpred _
          simp only [e_z]
          rw [pk_sub (show 1 ≤ d8_z + 1 by omega), show d8_z + 1 - 1 = d8_z by omega, Zcl_n (show d8_z < 2 ^ 31 by omega), Zcl_n (show d8_z + 1 < 2 ^ 31 by omega), ey, ex]
          refine Zs_calls hX (List.cons_ne_nil _ _) (by decide) (s_joined c0_z _ _ _ hc0) (by decide) rfl rfl (by decide) (Nat.le_of_ble_eq_true rfl) (fun r_z M' hc_z => ?_)
          obtain ⟨rfl, rfl⟩ := hc_z
          refine Zgo hX 3 rfl (Zin_n (by omega) (by decide)) ?_
          rw [Zcl_n (show d8_z < 2 ^ 31 by omega)]
          have hsc3 : Sc M (Zu M1 59 d8_z (Zjn c0_z x_z y_z)) := hsc.u _ rfl
          have hpl3 : Zpl ((Zu M1 59 d8_z (Zjn c0_z x_z y_z)) 59) (Zjn c0_z x_z y_z :: r_z) := by rw [Zu_at]; exact Zpl_push _ hpl.2.2 hlr
          have hev : Zev (fun v_z => M 58 v_z.toNatClampNeg) (Zgi (M 54) u_z) (i_z + 1) = Zjn c0_z x_z y_z :: r_z := by simp only [Zev, Zit, e1_z, hL, e2_z, if_neg (show ¬ nI 3 = nI 0 by decide), if_neg (show ¬ nI 3 = nI 1 by decide), if_neg (show ¬ nI 3 = nI 2 by decide), Zcl_n (show c0_z < 2 ^ 31 by omega)]
          rw [← hev] at hpl3
          have hwf3 : Zwf u_z (Zgi (M 54) u_z) (i_z + 1) (d8_z + 1) := ⟨d8_z + 1 + 1, hwf, Or.inr (Or.inr (Or.inr ⟨e1_z, ⟨c0_z, hc0, e2_z⟩, h2_z, hd3⟩))⟩
          refine Zs_sub (l' := [(0, .ref 53), (2, .int (nI (84 + 125 * u_z))), (3, .int (nI (d8_z + 1))), (4, .int (nI i_z + nI 1))]) rfl ?_
          rw [nI_add]
          exact ih_z (i_z + 1) _ _ (by omega) (by omega) ⟨hsc3, fun j_z => by rw [Zu_k, if_neg (by omega)]; exact hfr j_z⟩ hwf3 hpl3
  refine Zgo hX 10 rfl True.intro ?_
  simp only [pk_mul, nI_add]
  refine Zs_sub (l' := [(0, .ref 53), (2, .int (nI (84 + 125 * u_z))), (3, .int (nI 0)), (4, .int (nI 0))]) rfl ?_
  exact L (n_z + 1) 0 0 _ (by omega) (by omega) ⟨Sc.rf M, fun _ => rfl⟩ rfl True.intro
