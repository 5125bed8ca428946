theorem Zpred (d_z : Nat) : nI (d_z + 1) + -(nI 1) = nI d_z := by
  rw [← Int32.sub_eq_add_neg]
  exact nI_pred d_z
def Znv (u_z : Nat) (a_z b_z c_z : Int32) (v_z : Int32) : Int32 := ([a_z, b_z, c_z] : List Int32).getD (Zpn u_z v_z.toNatClampNeg) 0
def Zcu (f_z : Nat → Int32) (u_z : Nat) : Nat := (f_z (84 + 125 * u_z)).toNatClampNeg
def Zwkd (f_z : Nat → Int32) (u_z : Nat) (a_z b_z c_z : Int32) : Int32 := Ztop (Zev (Znv u_z a_z b_z c_z) (Zgi f_z u_z) (Zcu f_z u_z))
def Zhl (v_z lo hi_z : Int32) : Int32 := if v_z < lo then lo else if hi_z < v_z then hi_z else v_z
def Zyn (f_z : Nat → Int32) (b_z w_z t : Int32) : Int32 := Zhl (if 0 < Zcu f_z 0 then Zwkd f_z 0 b_z w_z t else b_z) (nI 1) (nI 99)
def Zho (f_z : Nat → Int32) (w_z t k_z : Int32) : Int32 := Zhl (if 0 < Zcu f_z 1 then Zwkd f_z 1 w_z t k_z else w_z * (nI 10 - t)) (nI 0) (nI 999)
def Zhc (f_z : Nat → Int32) (w_z t k_z : Int32) : Int32 := if 0 < Zcu f_z 1 then Zhl (Zwkd f_z 1 w_z t k_z) (nI 0) (nI 999) else w_z * (nI 10 - t)
def Ztx (f_z : Nat → Int32) (u_z : Nat) : Prop := ∃ n_z, n_z ≤ 60 ∧ f_z (84 + 125 * u_z) = nI n_z ∧ (0 < n_z → Zwf u_z (Zgi f_z u_z) n_z 1)
theorem Zev_nm {u_z : Nat} {g_z : Nat → Zitm} {nm nm' : Int32 → Int32} (h_z : ∀ c_z, Znm u_z c_z → nm (nI c_z) = nm' (nI c_z)) : ∀ {n_z d_z : Nat}, Zwf u_z g_z n_z d_z → Zev nm g_z n_z = Zev nm' g_z n_z := by
  intro n_z
  induction n_z with
  | zero => intro d_z _; rfl
  | succ n_z ih_z =>
    intro d_z hw_z
    obtain ⟨d', h1_z, h2_z⟩ := hw_z
    rw [Zev, Zev, ih_z h1_z]
    rcases h2_z with ⟨e_z, -, -⟩ | ⟨e_z, ⟨c_z, hc_z, e2_z⟩, -⟩ | ⟨e_z, -, -⟩ | ⟨e_z, -, -, -⟩
    · simp only [Zit, e_z, if_true]
    · simp only [Zit, e_z, e2_z, h_z c_z hc_z, if_true]
    · simp only [Zit, e_z, if_neg (show ¬ nI 2 = nI 0 by decide), if_neg (show ¬ nI 2 = nI 1 by decide)]
    · simp only [Zit, e_z, if_neg (show ¬ nI 3 = nI 0 by decide), if_neg (show ¬ nI 3 = nI 1 by decide)]
theorem Znv_ab (u_z : Nat) (a_z b_z c_z : Int32) : Zab u_z (Znv u_z a_z b_z c_z) a_z b_z c_z := by
  intro n_z hn_z
  have := Znm_lt hn_z
  rw [Znv, Zcl_n (by omega)]
theorem Zcu_of {f_z : Nat → Int32} {u_z n_z : Nat} (h_z : f_z (84 + 125 * u_z) = nI n_z) (hn_z : n_z ≤ 60) : Zcu f_z u_z = n_z := by rw [Zcu, h_z, Zcl_n (by omega)]
theorem Zhl_k {v_z lo hi_z : Int32} (h_z : lo ≤ hi_z) : (if lo < (if v_z < hi_z then v_z else hi_z) then (if v_z < hi_z then v_z else hi_z) else lo) = Zhl v_z lo hi_z := by
  unfold Zhl
  simp only [Zlt_i, Zle_i] at h_z ⊢
  split <;> split <;> split <;> (try split) <;> (first | rfl | (rw [Zeq_i]; omega) | omega)
/-- a_z row's numbers: its kind, m_z, how wide, its tension, tied -/
def Zrw (f_z : Nat → Int32) (i_z : Nat) : Prop := (∃ kd_z, kd_z ≤ 6 ∧ f_z (9 + 5 * i_z) = nI kd_z) ∧ (∃ m_z, m_z ≤ 9 ∧ f_z (10 + 5 * i_z) = nI m_z) ∧ (∃ w_z, 1 ≤ w_z ∧ w_z ≤ 12 ∧ f_z (11 + 5 * i_z) = nI w_z) ∧ (-9 ≤ (f_z (12 + 5 * i_z)).toInt ∧ (f_z (12 + 5 * i_z)).toInt ≤ 9) ∧ (f_z (13 + 5 * i_z) = nI 0 ∨ f_z (13 + 5 * i_z) = nI 1)
def Zyo (f_z : Nat → Int32) (i_z : Nat) : Int32 := Zyn f_z (Zsaid (f_z (9 + 5 * i_z)).toNatClampNeg (f_z (10 + 5 * i_z)).toNatClampNeg (f_z (11 + 5 * i_z)) (f_z (12 + 5 * i_z)) (f_z 2)) (f_z (11 + 5 * i_z)) (f_z (12 + 5 * i_z))
def Zhb (f_z : Nat → Int32) (i_z : Nat) (more : Int32) : Int32 := Zho f_z (f_z (11 + 5 * i_z)) (Zhl (f_z (12 + 5 * i_z) + more) (-(nI 9)) (nI 9)) (f_z (9 + 5 * i_z))
/-- a_z text of the class, told as the reference tells it -/
def Zct (M : Zmem) (t u_z : Nat) (f_z : Nat → Int32) : Prop := ∃ n_z, n_z ≤ 60 ∧ f_z (84 + 125 * u_z) = nI n_z ∧ (∃ n', n' ≤ 60 ∧ M t 2 = nI n') ∧ ((0 < n_z ∧ M t 0 = nI 1 ∧ M t 2 = nI n_z ∧ ∀ i_z, i_z < n_z → Zen u_z (Zgi f_z u_z i_z) (M (t + 1) i_z)) ∨ (n_z = 0 ∧ M t 0 = nI 0))
theorem Zwk_r {w_z : Nat} {t : Int32} (h1_z : 1 ≤ w_z) (h2_z : w_z ≤ 12) (h3_z : -9 ≤ t.toInt ∧ t.toInt ≤ 9) : Zhl (nI w_z * (nI 10 - t)) (nI 0) (nI 999) = nI w_z * (nI 10 - t) := by
  have e1_z : (nI 10 - t).toInt = 10 - t.toInt := by rw [Zsub_i (by rw [Zn_i (by decide)]; omega) (by rw [Zn_i (by decide)]; omega), Zn_i (by decide)]; rfl
  have hb_z : 0 ≤ (w_z : Int) * (10 - t.toInt) ∧ (w_z : Int) * (10 - t.toInt) ≤ 228 := by
    refine ⟨Int.mul_nonneg (by omega) (by omega), ?_⟩
    calc (w_z : Int) * (10 - t.toInt) ≤ 12 * (10 - t.toInt) := Int.mul_le_mul_of_nonneg_right (by omega) (by omega)
      _ ≤ 228 := by omega
  have e2_z : (nI w_z * (nI 10 - t)).toInt = (w_z : Int) * (10 - t.toInt) := by
    rw [Zmul_i (by rw [e1_z, Zn_i (by omega)]; omega) (by rw [e1_z, Zn_i (by omega)]; omega), e1_z, Zn_i (by omega)]
  unfold Zhl
  rw [if_neg (by rw [Zlt_i, e2_z, Zn_i (by decide)]; omega), if_neg (by rw [Zlt_i, e2_z, Zn_i (by decide)]; omega)]
theorem Zhl_in {v_z : Int32} {lo hi_z : Int} {l h_z : Int32} (e1_z : l.toInt = lo) (e2_z : h_z.toInt = hi_z) (hlh : lo ≤ hi_z) : lo ≤ (Zhl v_z l h_z).toInt ∧ (Zhl v_z l h_z).toInt ≤ hi_z := by
  unfold Zhl
  simp only [Zlt_i]
  split
  · omega
  · split <;> omega
theorem Zneg9 : (-(nI 9)).toInt = -9 := Zneg_i (by decide)
theorem Zhb_c {f_z : Nat → Int32} {i_z : Nat} (hr_z : Zrw f_z i_z) (more : Int32) : Zhc f_z (f_z (11 + 5 * i_z)) (Zhl (f_z (12 + 5 * i_z) + more) (-(nI 9)) (nI 9)) (f_z (9 + 5 * i_z)) = Zhb f_z i_z more := by
  unfold Zhb Zho Zhc
  split
  · rfl
  · obtain ⟨-, -, ⟨w_z, h1_z, h2_z, h3_z⟩, -, -⟩ := hr_z
    rw [h3_z, Zwk_r h1_z h2_z (Zhl_in Zneg9 (Zn_i (by decide)) (by decide))]
theorem Znm58 {p_z : Nat → Int32} {u_z n_z d_z : Nat} {a_z b_z c_z : Int32} {g_z : Nat → Zitm} (h_z : ∀ k_z, Znm u_z k_z → p_z k_z = ([a_z, b_z, c_z] : List Int32).getD (Zpn u_z k_z) 0) (hw_z : Zwf u_z g_z n_z d_z) : Zev (fun v_z => p_z v_z.toNatClampNeg) g_z n_z = Zev (Znv u_z a_z b_z c_z) g_z n_z := by
  refine Zev_nm (fun k_z hk_z => ?_) hw_z
  have := Znm_lt hk_z
  rw [Znv_ab u_z a_z b_z c_z k_z hk_z, Zcl_n (by omega)]
  exact h_z k_z hk_z
theorem Zp58_0 (M : Zmem) (b_z w_z t : Int32) : ∀ k_z, Znm 0 k_z → (Zu (Zu (Zu M 58 98 b_z) 58 119 w_z) 58 116 t) 58 k_z = ([b_z, w_z, t] : List Int32).getD (Zpn 0 k_z) 0 := by
  rintro k_z (⟨-, rfl | rfl | rfl⟩ | ⟨h_z, -⟩)
  · rfl
  · rfl
  · rfl
  · cases h_z
theorem Zp58_1 (M : Zmem) (w_z t k' : Int32) : ∀ k_z, Znm 1 k_z → (Zu (Zu (Zu M 58 119 w_z) 58 116 t) 58 107 k') 58 k_z = ([w_z, t, k'] : List Int32).getD (Zpn 1 k_z) 0 := by
  rintro k_z (⟨h_z, -⟩ | ⟨-, rfl | rfl | rfl⟩)
  · cases h_z
  · rfl
  · rfl
  · rfl
theorem Zyn_t {f_z : Nat → Int32} {n_z : Nat} {nm : Int32 → Int32} {b_z w_z t : Int32} (hcn : Zcu f_z 0 = n_z) (hb_z : 0 < n_z) (h_z : Zev nm (Zgi f_z 0) n_z = Zev (Znv 0 b_z w_z t) (Zgi f_z 0) n_z) : Zhl (Ztop (Zev nm (Zgi f_z 0) n_z)) (nI 1) (nI 99) = Zyn f_z b_z w_z t := by
  unfold Zyn
  rw [hcn, if_pos hb_z, Zwkd, hcn, h_z]
theorem Zyn_f {f_z : Nat → Int32} {n_z : Nat} {b_z w_z t : Int32} (hcn : Zcu f_z 0 = n_z) (hb_z : ¬ 0 < n_z) : Zhl b_z (nI 1) (nI 99) = Zyn f_z b_z w_z t := by
  unfold Zyn
  rw [hcn, if_neg hb_z]
theorem Zho_t {f_z : Nat → Int32} {n_z : Nat} {nm : Int32 → Int32} {w_z t k_z : Int32} (hcn : Zcu f_z 1 = n_z) (hb_z : 0 < n_z) (h_z : Zev nm (Zgi f_z 1) n_z = Zev (Znv 1 w_z t k_z) (Zgi f_z 1) n_z) : Zhl (Ztop (Zev nm (Zgi f_z 1) n_z)) (nI 0) (nI 999) = Zho f_z w_z t k_z := by
  unfold Zho
  rw [hcn, if_pos hb_z, Zwkd, hcn, h_z]
theorem Zho_f {f_z : Nat → Int32} {n_z : Nat} {w_z t k_z : Int32} (hcn : Zcu f_z 1 = n_z) (hb_z : ¬ 0 < n_z) : Zhl (w_z * (nI 10 - t)) (nI 0) (nI 999) = Zho f_z w_z t k_z := by
  unfold Zho
  rw [hcn, if_neg hb_z]
theorem Zhc_t {f_z : Nat → Int32} {n_z : Nat} {nm : Int32 → Int32} {w_z t k_z : Int32} (hcn : Zcu f_z 1 = n_z) (hb_z : 0 < n_z) (h_z : Zev nm (Zgi f_z 1) n_z = Zev (Znv 1 w_z t k_z) (Zgi f_z 1) n_z) : Zhl (Ztop (Zev nm (Zgi f_z 1) n_z)) (nI 0) (nI 999) = Zhc f_z w_z t k_z := by
  unfold Zhc
  rw [hcn, if_pos hb_z, Zwkd, hcn, h_z]
theorem Zhc_f {f_z : Nat → Int32} {n_z : Nat} {w_z t k_z : Int32} (hcn : Zcu f_z 1 = n_z) (hb_z : ¬ 0 < n_z) : w_z * (nI 10 - t) = Zhc f_z w_z t k_z := by
  unfold Zhc
  rw [hcn, if_neg hb_z]
theorem Zyo_of {f_z : Nat → Int32} {i_z kd_z m_z : Nat} (h1_z : f_z (9 + 5 * i_z) = nI kd_z) (h2_z : f_z (10 + 5 * i_z) = nI m_z) (hk_z : kd_z ≤ 6) (hm_z : m_z ≤ 9) : Zyo f_z i_z = Zyn f_z (Zsaid kd_z m_z (f_z (11 + 5 * i_z)) (f_z (12 + 5 * i_z)) (f_z 2)) (f_z (11 + 5 * i_z)) (f_z (12 + 5 * i_z)) := by
  unfold Zyo
  rw [h1_z, h2_z, Zcl_n (by omega), Zcl_n (by omega)]

set_option maxRecDepth 20000 in
set_option maxHeartbeats 1000000 in
theorem s_worked (u_z n_z : Nat) (M : Zmem) (hu_z : u_z < 2) (hn_z : M 54 (84 + 125 * u_z) = nI n_z) (hn2 : n_z ≤ 60) (hw_z : Zwf u_z (Zgi (M 54) u_z) n_z 1) : ZC 74 1 [.ref 53, .int (nI u_z)] M (fun r_z M' => r_z = some (.int (Ztop (Zev (fun v_z => M 58 v_z.toNatClampNeg) (Zgi (M 54) u_z) n_z))) ∧ St M M') := by
  refine ZC_of Zt74 Zk74 (Nat.le_of_ble_eq_true rfl) (by decide) rfl (fun X hX hE => ?_)
  have h54_z : ∀ {M1 : Zmem}, St M M1 → ∀ {j_z : Nat}, M1 54 j_z = M 54 j_z := fun h_z => h_z 54 _ rfl
  have L : ∀ (q_z i_z d_z : Nat) (M1 : Zmem), n_z - i_z < q_z → i_z ≤ n_z → St M M1 ∧ (∀ j_z, M1 58 j_z = M 58 j_z) → Zwf u_z (Zgi (M 54) u_z) i_z d_z → Zpl (M1 59) (Zev (fun v_z => M 58 v_z.toNatClampNeg) (Zgi (M 54) u_z) i_z) → ZP X Zt74 (Zsf Zt74 13) [(0, .ref 53), (2, .int (nI (84 + 125 * u_z))), (3, .int (nI d_z)), (4, .int (nI i_z))] [] M1 := by
    intro q_z
    induction q_z with
    | zero => intro i_z d_z M1 hq_z; exact absurd hq_z (Nat.not_lt_zero _)
    | succ q_z ih_z =>
      intro i_z d_z M1 hq_z hi_z hsc0 hwf hpl
      obtain ⟨hsc, hfr⟩ := hsc0
      have hln : (Zev (fun v_z => M 58 v_z.toNatClampNeg) (Zgi (M 54) u_z) i_z).length = d_z := Zwf_len _ hwf
      have hdi : d_z ≤ i_z := Zwf_le hwf
      refine Zgo hX 5 rfl (Zin_n (by omega) (by decide)) ?_
      rw [Zcl_n (show 84 + 125 * u_z < 2 ^ 31 by omega), h54_z hsc, hn_z]
      refine Zs_ige hX (List.cons_ne_nil _ _) (fun h21_z => ?_) (fun h21_z => ?_)
      · skip
        obtain rfl : i_z = n_z := by have := (Zn_le (by omega) (by omega)).mp h21_z; omega
        obtain rfl : d_z = 1 := Zwf_un hwf hw_z
        refine Zgo hX 4 rfl (Zin_n (by decide) (by decide)) ?_
        simp only [Zcl_n, Nat.reducePow, Nat.reduceLT]
        obtain ⟨y_z, hL⟩ : ∃ y_z, Zev (fun v_z => M 58 v_z.toNatClampNeg) (Zgi (M 54) u_z) i_z = [y_z] := by
          match hq0 : Zev (fun v_z => M 58 v_z.toNatClampNeg) (Zgi (M 54) u_z) i_z with
          | [] => rw [hq0] at hln; simp at hln
          | [y_z] => exact ⟨y_z, rfl⟩
          | y_z :: z_z :: r_z => rw [hq0] at hln; simp at hln
        rw [hL] at hpl
        rw [show M1 59 0 = y_z from hpl.1]
        refine Zs_ret hX hE rfl ⟨by rw [hL]; rfl, hsc⟩
      · skip
        have hlt : i_z < n_z := (Nat.lt_or_ge i_z n_z).elim id (fun h_z => absurd ((Zn_le (by omega) (by omega)).mpr h_z) h21_z)
        obtain ⟨dn_z, hwn⟩ := Zwf_pre hw_z (i_z + 1) (by omega)
        obtain ⟨d9_z, hw9, hor⟩ := hwn
        obtain rfl : d9_z = d_z := Zwf_un hw9 hwf
        refine Zgo hX 22 rfl (by dsimp only [ZallP]; simp only [pk_mul, nI_add]; exact ⟨Zin_n (by omega) (by decide), Zin_n (by omega) (by decide)⟩) ?_
        simp only [pk_mul, nI_add]
        rw [Zcl_n (show 84 + 125 * u_z + 1 + 2 * i_z < 2 ^ 31 by omega), Zcl_n (show 84 + 125 * u_z + 2 + 2 * i_z < 2 ^ 31 by omega), h54_z hsc, h54_z hsc, show 84 + 125 * u_z + 1 + 2 * i_z = 85 + 125 * u_z + 2 * i_z by omega, show 84 + 125 * u_z + 2 + 2 * i_z = 86 + 125 * u_z + 2 * i_z by omega]
        rw [show M 54 (85 + 125 * u_z + 2 * i_z) = (Zgi (M 54) u_z i_z).1 from rfl, show M 54 (86 + 125 * u_z + 2 * i_z) = (Zgi (M 54) u_z i_z).2 from rfl]
        rcases hor with ⟨e1_z, ⟨j0_z, hj0, e2_z⟩, rfl⟩ | ⟨e1_z, ⟨c0_z, hc0, e2_z⟩, rfl⟩ | ⟨e1_z, h1_z, rfl⟩ | ⟨e1_z, ⟨c0_z, hc0, e2_z⟩, h2_z, hd3⟩
        · skip
          rw [e1_z]
          refine Zgo hX 1 rfl (by first | exact True.intro | (dsimp only [ZallP]; and_intros <;> (first | decide | ((try simp only [pk_mul, nI_add]); exact Zin_n (by omega) (by decide))))) ?_
          refine Zs_eq hX (List.cons_ne_nil _ _) (fun _ => ?_) (fun q_z => False.elim (by revert q_z; decide))
          refine Zgo hX 4 rfl True.intro ?_
          refine Zs_ne hX (List.cons_ne_nil _ _) (fun q_z => False.elim (by revert q_z; decide)) (fun _ => ?_)
          refine Zgo hX 7 rfl (Zin_n (by omega) (by decide)) ?_
          rw [Zcl_n (show d9_z < 2 ^ 31 by omega)]
          have hsc3 : St M (Zu M1 59 d9_z ((Zgi (M 54) u_z i_z).2)) := hsc.u _ rfl
          have hpl3 : Zpl ((Zu M1 59 d9_z ((Zgi (M 54) u_z i_z).2)) 59) ((Zgi (M 54) u_z i_z).2 :: Zev (fun v_z => M 58 v_z.toNatClampNeg) (Zgi (M 54) u_z) i_z) := by rw [Zu_at]; exact Zpl_push _ hpl hln
          have hev : Zev (fun v_z => M 58 v_z.toNatClampNeg) (Zgi (M 54) u_z) (i_z + 1) = (Zgi (M 54) u_z i_z).2 :: Zev (fun v_z => M 58 v_z.toNatClampNeg) (Zgi (M 54) u_z) i_z := by simp only [Zev, Zit, e1_z, if_true]
          rw [← hev] at hpl3
          have hwf3 : Zwf u_z (Zgi (M 54) u_z) (i_z + 1) (d9_z + 1) := ⟨d9_z, hwf, Or.inl ⟨e1_z, ⟨j0_z, hj0, e2_z⟩, rfl⟩⟩
          refine Zs_sub (l' := [(0, .ref 53), (2, .int (nI (84 + 125 * u_z))), (3, .int (nI d9_z + nI 1)), (4, .int (nI i_z + nI 1))]) rfl ?_
          rw [nI_add]
          rw [nI_add]
          exact ih_z (i_z + 1) _ _ (by omega) (by omega) ⟨hsc3, fun j_z => by rw [Zu_k, if_neg (by omega)]; exact hfr j_z⟩ hwf3 hpl3
        · skip
          rw [e1_z, e2_z]
          have hc1 := Znm_lt hc0
          refine Zgo hX 1 rfl (by first | exact True.intro | (dsimp only [ZallP]; and_intros <;> (first | decide | ((try simp only [pk_mul, nI_add]); exact Zin_n (by omega) (by decide))))) ?_
          refine Zs_eq hX (List.cons_ne_nil _ _) (fun q_z => False.elim (by revert q_z; decide)) (fun _ => ?_)
          refine Zgo hX 2 rfl (by first | exact True.intro | (dsimp only [ZallP]; and_intros <;> (first | decide | ((try simp only [pk_mul, nI_add]); exact Zin_n (by omega) (by decide))))) ?_
          refine Zs_ine hX (List.cons_ne_nil _ _) (fun q_z => False.elim (by revert q_z; decide)) (fun _ => ?_)
          refine Zgo hX 4 rfl (by first | exact True.intro | (dsimp only [ZallP]; and_intros <;> (first | decide | ((try simp only [pk_mul, nI_add]); exact Zin_n (by omega) (by decide))))) ?_
          refine Zs_ne hX (List.cons_ne_nil _ _) (fun _ => ?_) (fun q_z => False.elim (by revert q_z; decide))
          refine Zgo hX 9 rfl (by dsimp only [ZallP]; exact ⟨Zin_n (by omega) (by decide), Zin_n (by omega) (by decide)⟩) ?_
          rw [Zcl_n (show d9_z < 2 ^ 31 by omega), show M1 58 = M1 58 from rfl]
          have h58_z : M1 58 (nI c0_z).toNatClampNeg = M 58 (nI c0_z).toNatClampNeg := hfr _
          rw [h58_z]
          have hsc3 : St M (Zu M1 59 d9_z (M 58 (nI c0_z).toNatClampNeg)) := hsc.u _ rfl
          have hpl3 : Zpl ((Zu M1 59 d9_z (M 58 (nI c0_z).toNatClampNeg)) 59) (M 58 (nI c0_z).toNatClampNeg :: Zev (fun v_z => M 58 v_z.toNatClampNeg) (Zgi (M 54) u_z) i_z) := by rw [Zu_at]; exact Zpl_push _ hpl hln
          have hev : Zev (fun v_z => M 58 v_z.toNatClampNeg) (Zgi (M 54) u_z) (i_z + 1) = M 58 (nI c0_z).toNatClampNeg :: Zev (fun v_z => M 58 v_z.toNatClampNeg) (Zgi (M 54) u_z) i_z := by simp only [Zev, Zit, e1_z, if_neg (show ¬ nI 1 = nI 0 by decide), if_true, e2_z]
          rw [← hev] at hpl3
          have hwf3 : Zwf u_z (Zgi (M 54) u_z) (i_z + 1) (d9_z + 1) := ⟨d9_z, hwf, Or.inr (Or.inl ⟨e1_z, ⟨c0_z, hc0, e2_z⟩, rfl⟩)⟩
          refine Zs_sub (l' := [(0, .ref 53), (2, .int (nI (84 + 125 * u_z))), (3, .int (nI d9_z + nI 1)), (4, .int (nI i_z + nI 1))]) rfl ?_
          rw [nI_add]
          rw [nI_add]
          exact ih_z (i_z + 1) _ _ (by omega) (by omega) ⟨hsc3, fun j_z => by rw [Zu_k, if_neg (by omega)]; exact hfr j_z⟩ hwf3 hpl3
        · skip
          obtain ⟨y_z, r_z, hL⟩ : ∃ y_z r_z, Zev (fun v_z => M 58 v_z.toNatClampNeg) (Zgi (M 54) u_z) i_z = y_z :: r_z := by
            match hq0 : Zev (fun v_z => M 58 v_z.toNatClampNeg) (Zgi (M 54) u_z) i_z with
            | [] => rw [hq0] at hln; simp at hln; omega
            | y_z :: r_z => exact ⟨y_z, r_z, rfl⟩
          rw [hL] at hpl hln
          obtain ⟨d8_z, hd8⟩ : ∃ d8_z, dn_z = d8_z + 1 := ⟨r_z.length, by simp at hln; omega⟩
          subst hd8
          have hlr : r_z.length = d8_z := by simp at hln; omega
          have ey : M1 59 d8_z = y_z := by rw [← hlr]; exact hpl.1
          rw [e1_z]
          refine Zgo hX 1 rfl (by first | exact True.intro | (dsimp only [ZallP]; and_intros <;> (first | decide | ((try simp only [pk_mul, nI_add]); exact Zin_n (by omega) (by decide))))) ?_
          refine Zs_eq hX (List.cons_ne_nil _ _) (fun q_z => False.elim (by revert q_z; decide)) (fun _ => ?_)
          refine Zgo hX 2 rfl (by first | exact True.intro | (dsimp only [ZallP]; and_intros <;> (first | decide | ((try simp only [pk_mul, nI_add]); exact Zin_n (by omega) (by decide))))) ?_
          refine Zs_ine hX (List.cons_ne_nil _ _) (fun _ => ?_) (fun q_z => False.elim (by revert q_z; decide))
          refine Zgo hX 2 rfl (by first | exact True.intro | (dsimp only [ZallP]; and_intros <;> (first | decide | ((try simp only [pk_mul, nI_add]); exact Zin_n (by omega) (by decide))))) ?_
          refine Zs_ine hX (List.cons_ne_nil _ _) (fun q_z => False.elim (by revert q_z; decide)) (fun _ => ?_)
          refine Zgo hX 11 rfl (by show vp_in (nI (d8_z + 1) - nI 1) 64; rw [pk_sub (by omega)]; exact Zin_n (by omega) (by decide)) ?_
          rw [pk_sub (show 1 ≤ d8_z + 1 by omega), show d8_z + 1 - 1 = d8_z by omega, Zcl_n (show d8_z < 2 ^ 31 by omega), ey]
          refine Zs_ne hX (List.cons_ne_nil _ _) (fun h115_z => ?_) (fun h115_z => ?_)
          · skip
            refine Zgo hX 5 rfl (Zin_n (by omega) (by decide)) ?_
            have hv_z : (if y_z = 0 then nI 1 else nI 0) = nI 0 := if_neg h115_z
            rw [Zcl_n (show d8_z < 2 ^ 31 by omega)]
            have hsc3 : St M (Zu M1 59 d8_z (nI 0)) := hsc.u _ rfl
            have hpl3 : Zpl ((Zu M1 59 d8_z (nI 0)) 59) (nI 0 :: r_z) := by rw [Zu_at]; exact Zpl_push _ hpl.2 hlr
            have hev : Zev (fun v_z => M 58 v_z.toNatClampNeg) (Zgi (M 54) u_z) (i_z + 1) = (if y_z = 0 then nI 1 else nI 0) :: r_z := by simp only [Zev, Zit, e1_z, hL, if_neg (show ¬ nI 2 = nI 0 by decide), if_neg (show ¬ nI 2 = nI 1 by decide), if_true]
            rw [hv_z] at hev
            rw [← hev] at hpl3
            have hwf3 : Zwf u_z (Zgi (M 54) u_z) (i_z + 1) (d8_z + 1) := ⟨d8_z + 1, hwf, Or.inr (Or.inr (Or.inl ⟨e1_z, by omega, rfl⟩))⟩
            refine Zs_sub (l' := [(0, .ref 53), (2, .int (nI (84 + 125 * u_z))), (3, .int (nI (d8_z + 1))), (4, .int (nI i_z + nI 1))]) rfl ?_
            rw [nI_add]
            exact ih_z (i_z + 1) _ _ (by omega) (by omega) ⟨hsc3, fun j_z => by rw [Zu_k, if_neg (by omega)]; exact hfr j_z⟩ hwf3 hpl3
          · skip
            refine Zgo hX 6 rfl (Zin_n (by omega) (by decide)) ?_
            have hv_z : (if y_z = 0 then nI 1 else nI 0) = nI 1 := if_pos h115_z
            rw [Zcl_n (show d8_z < 2 ^ 31 by omega)]
            have hsc3 : St M (Zu M1 59 d8_z (nI 1)) := hsc.u _ rfl
            have hpl3 : Zpl ((Zu M1 59 d8_z (nI 1)) 59) (nI 1 :: r_z) := by rw [Zu_at]; exact Zpl_push _ hpl.2 hlr
            have hev : Zev (fun v_z => M 58 v_z.toNatClampNeg) (Zgi (M 54) u_z) (i_z + 1) = (if y_z = 0 then nI 1 else nI 0) :: r_z := by simp only [Zev, Zit, e1_z, hL, if_neg (show ¬ nI 2 = nI 0 by decide), if_neg (show ¬ nI 2 = nI 1 by decide), if_true]
            rw [hv_z] at hev
            rw [← hev] at hpl3
            have hwf3 : Zwf u_z (Zgi (M 54) u_z) (i_z + 1) (d8_z + 1) := ⟨d8_z + 1, hwf, Or.inr (Or.inr (Or.inl ⟨e1_z, by omega, rfl⟩))⟩
            refine Zs_sub (l' := [(0, .ref 53), (2, .int (nI (84 + 125 * u_z))), (3, .int (nI (d8_z + 1))), (4, .int (nI i_z + nI 1))]) rfl ?_
            rw [nI_add]
            exact ih_z (i_z + 1) _ _ (by omega) (by omega) ⟨hsc3, fun j_z => by rw [Zu_k, if_neg (by omega)]; exact hfr j_z⟩ hwf3 hpl3
        · skip
          obtain ⟨y_z, x_z, r_z, hL⟩ : ∃ y_z x_z r_z, Zev (fun v_z => M 58 v_z.toNatClampNeg) (Zgi (M 54) u_z) i_z = y_z :: x_z :: r_z := by
            match hq0 : Zev (fun v_z => M 58 v_z.toNatClampNeg) (Zgi (M 54) u_z) i_z with
            | [] => rw [hq0] at hln; simp at hln; omega
            | [z_z] => rw [hq0] at hln; simp at hln; omega
            | y_z :: x_z :: r_z => exact ⟨y_z, x_z, r_z, rfl⟩
          rw [hL] at hpl hln
          obtain ⟨d8_z, rfl⟩ : ∃ d8_z, d9_z = d8_z + 1 + 1 := ⟨r_z.length, by simp at hln; omega⟩
          have hlr : r_z.length = d8_z := by simp at hln; omega
          have ey : M1 59 (d8_z + 1) = y_z := by have h_z := hpl.1; rw [← hlr]; simpa using h_z
          have ex : M1 59 d8_z = x_z := by rw [← hlr]; exact hpl.2.1
          obtain rfl : dn_z = d8_z + 1 := by omega
          have hc1 := Zsg_lt hc0
          rw [e1_z, e2_z]
          refine Zgo hX 1 rfl (by first | exact True.intro | (dsimp only [ZallP]; and_intros <;> (first | decide | ((try simp only [pk_mul, nI_add]); exact Zin_n (by omega) (by decide))))) ?_
          refine Zs_eq hX (List.cons_ne_nil _ _) (fun q_z => False.elim (by revert q_z; decide)) (fun _ => ?_)
          refine Zgo hX 2 rfl (by first | exact True.intro | (dsimp only [ZallP]; and_intros <;> (first | decide | ((try simp only [pk_mul, nI_add]); exact Zin_n (by omega) (by decide))))) ?_
          refine Zs_ine hX (List.cons_ne_nil _ _) (fun _ => ?_) (fun q_z => False.elim (by revert q_z; decide))
          refine Zgo hX 2 rfl (by first | exact True.intro | (dsimp only [ZallP]; and_intros <;> (first | decide | ((try simp only [pk_mul, nI_add]); exact Zin_n (by omega) (by decide))))) ?_
          refine Zs_ine hX (List.cons_ne_nil _ _) (fun _ => ?_) (fun q_z => False.elim (by revert q_z; decide))
          refine Zgo hX 17 rfl (by dsimp only [ZallP]; have e_z : nI (d8_z + 1 + 1) + -(nI 1) = nI (d8_z + 1) := Zpred _; simp only [e_z]; rw [pk_sub (show 1 ≤ d8_z + 1 by omega)]; exact ⟨Zin_n (by omega) (by decide), Zin_n (by omega) (by decide)⟩) ?_
          have e_z : nI (d8_z + 1 + 1) + -(nI 1) = nI (d8_z + 1) := Zpred _
          simp only [e_z]
          rw [pk_sub (show 1 ≤ d8_z + 1 by omega), show d8_z + 1 - 1 = d8_z by omega, Zcl_n (show d8_z < 2 ^ 31 by omega), Zcl_n (show d8_z + 1 < 2 ^ 31 by omega), ey, ex]
          refine Zs_calls hX (List.cons_ne_nil _ _) (by decide) (s_joined c0_z _ _ _ hc0) (by decide) rfl rfl (by decide) (Nat.le_of_ble_eq_true rfl) (fun r_z M' hc_z => ?_)
          obtain ⟨rfl, rfl⟩ := hc_z
          refine Zgo hX 3 rfl (Zin_n (by omega) (by decide)) ?_
          rw [Zcl_n (show d8_z < 2 ^ 31 by omega)]
          have hsc3 : St M (Zu M1 59 d8_z (Zjn c0_z x_z y_z)) := hsc.u _ rfl
          have hpl3 : Zpl ((Zu M1 59 d8_z (Zjn c0_z x_z y_z)) 59) (Zjn c0_z x_z y_z :: r_z) := by rw [Zu_at]; exact Zpl_push _ hpl.2.2 hlr
          have hev : Zev (fun v_z => M 58 v_z.toNatClampNeg) (Zgi (M 54) u_z) (i_z + 1) = Zjn c0_z x_z y_z :: r_z := by simp only [Zev, Zit, e1_z, hL, e2_z, if_neg (show ¬ nI 3 = nI 0 by decide), if_neg (show ¬ nI 3 = nI 1 by decide), if_neg (show ¬ nI 3 = nI 2 by decide), Zcl_n (show c0_z < 2 ^ 31 by omega)]
          rw [← hev] at hpl3
          have hwf3 : Zwf u_z (Zgi (M 54) u_z) (i_z + 1) (d8_z + 1) := ⟨d8_z + 1 + 1, hwf, Or.inr (Or.inr (Or.inr ⟨e1_z, ⟨c0_z, hc0, e2_z⟩, h2_z, hd3⟩))⟩
          refine Zs_sub (l' := [(0, .ref 53), (2, .int (nI (84 + 125 * u_z))), (3, .int (nI (d8_z + 1))), (4, .int (nI i_z + nI 1))]) rfl ?_
          rw [nI_add]
          exact ih_z (i_z + 1) _ _ (by omega) (by omega) ⟨hsc3, fun j_z => by rw [Zu_k, if_neg (by omega)]; exact hfr j_z⟩ hwf3 hpl3
  refine Zgo hX 10 rfl True.intro ?_
  simp only [pk_mul, nI_add]
  refine Zs_sub (l' := [(0, .ref 53), (2, .int (nI (84 + 125 * u_z))), (3, .int (nI 0)), (4, .int (nI 0))]) rfl ?_
  exact L (n_z + 1) 0 0 _ (by omega) (by omega) ⟨St.rf M, fun _ => rfl⟩ rfl True.intro

set_option maxRecDepth 20000 in
theorem s_yarnTold (b_z w_z t : Int32) (M : Zmem) (hx_z : Ztx (M 54) 0) : ZC 76 2 [.ref 53, .int b_z, .int w_z, .int t] M (fun r_z M' => r_z = some (.int (Zyn (M 54) b_z w_z t)) ∧ St M M') := by
  refine ZC_of Zt76 Zk76 (Nat.le_of_ble_eq_true rfl) (by decide) rfl (fun X hX hE => ?_)
  obtain ⟨n_z, hn2, hn_z, hw_z⟩ := hx_z
  have hcn : Zcu (M 54) 0 = n_z := Zcu_of hn_z hn2
  have hsc : St M (Zu (Zu (Zu M 58 98 b_z) 58 119 w_z) 58 116 t) := (((St.rf M).u _ rfl).u _ rfl).u _ rfl
  refine Zgo hX 17 rfl (by dsimp only [ZallP]; exact ⟨⟨Zin_n (by decide) (by decide), Zin_n (by decide) (by decide)⟩, Zin_n (by decide) (by decide)⟩) ?_
  simp only [Zcl_n, Nat.reducePow, Nat.reduceLT]
  refine Zs_callv hX (List.cons_ne_nil _ _) (s_hasText 0 n_z _ (by decide) hn_z hn2) (by decide) (by decide) rfl rfl rfl (by decide) (Nat.le_of_ble_eq_true rfl) (fun r_z M' hc_z => ?_)
  rcases hc_z with ⟨⟨rfl, hb_z⟩ | ⟨rfl, hb_z⟩, rfl⟩
  · skip
    refine Zs_eq hX (List.cons_ne_nil _ _) (fun q_z => absurd q_z (by decide)) (fun _ => ?_)
    refine Zgo hX 2 rfl (by first | exact True.intro | (dsimp only [ZallP]; and_intros <;> (first | decide | ((try simp only [pk_mul, nI_add]); exact Zin_n (by omega) (by decide))))) ?_
    refine Zs_callv hX (List.cons_ne_nil _ _) (s_worked 0 n_z _ (by decide) hn_z hn2 (hw_z hb_z)) (by decide) (by decide) rfl rfl rfl (by decide) (Nat.le_of_ble_eq_true rfl) (fun r_z M' hc_z => ?_)
    obtain ⟨rfl, hs2⟩ := hc_z
    refine Zgo hX 3 rfl (by first | exact True.intro | (dsimp only [ZallP]; and_intros <;> (first | decide | ((try simp only [pk_mul, nI_add]); exact Zin_n (by omega) (by decide))))) ?_
    refine Zs_calls hX (List.cons_ne_nil _ _) (by decide) (s_held _ _ _ _) (by decide) rfl rfl (by decide) (Nat.le_of_ble_eq_true rfl) (fun r_z M' hc_z => ?_)
    obtain ⟨rfl, rfl⟩ := hc_z
    refine Zs_ret hX hE rfl ⟨?_, by first | exact hsc | exact hsc.tr hs2⟩
    first | (exact congrArg (fun z_z => some (Value.int z_z)) ((show _ = Zhl (b_z) (nI 1) (nI 99) from rfl).trans (Zyn_f (w_z := w_z) hcn hb_z))) | (have e_z := Zyn_t hcn hb_z (Znm58 (Zp58_0 M b_z w_z t) (hw_z hb_z)); rw [← e_z]; rfl)
  · skip
    refine Zs_eq hX (List.cons_ne_nil _ _) (fun _ => ?_) (fun q_z => absurd rfl q_z)
    refine Zgo hX 3 rfl (by first | exact True.intro | (dsimp only [ZallP]; and_intros <;> (first | decide | ((try simp only [pk_mul, nI_add]); exact Zin_n (by omega) (by decide))))) ?_
    refine Zs_calls hX (List.cons_ne_nil _ _) (by decide) (s_held _ _ _ _) (by decide) rfl rfl (by decide) (Nat.le_of_ble_eq_true rfl) (fun r_z M' hc_z => ?_)
    obtain ⟨rfl, rfl⟩ := hc_z
    refine Zs_ret hX hE rfl ⟨?_, by first | exact hsc | exact hsc.tr hs2⟩
    first | (exact congrArg (fun z_z => some (Value.int z_z)) ((show _ = Zhl (b_z) (nI 1) (nI 99) from rfl).trans (Zyn_f (w_z := w_z) hcn hb_z))) | (have e_z := Zyn_t hcn hb_z (Znm58 (Zp58_0 M b_z w_z t) (hw_z hb_z)); rw [← e_z]; rfl)

set_option maxRecDepth 20000 in
theorem s_holdsTold (w_z t k_z : Int32) (M : Zmem) (hx_z : Ztx (M 54) 1) : ZC 77 2 [.ref 53, .int w_z, .int t, .int k_z] M (fun r_z M' => r_z = some (.int (Zho (M 54) w_z t k_z)) ∧ St M M') := by
  refine ZC_of Zt77 Zk77 (Nat.le_of_ble_eq_true rfl) (by decide) rfl (fun X hX hE => ?_)
  obtain ⟨n_z, hn2, hn_z, hw_z⟩ := hx_z
  have hcn : Zcu (M 54) 1 = n_z := Zcu_of hn_z hn2
  have hsc : St M (Zu (Zu (Zu M 58 119 w_z) 58 116 t) 58 107 k_z) := (((St.rf M).u _ rfl).u _ rfl).u _ rfl
  refine Zgo hX 17 rfl (by dsimp only [ZallP]; exact ⟨⟨Zin_n (by decide) (by decide), Zin_n (by decide) (by decide)⟩, Zin_n (by decide) (by decide)⟩) ?_
  simp only [Zcl_n, Nat.reducePow, Nat.reduceLT]
  refine Zs_callv hX (List.cons_ne_nil _ _) (s_hasText 1 n_z _ (by decide) hn_z hn2) (by decide) (by decide) rfl rfl rfl (by decide) (Nat.le_of_ble_eq_true rfl) (fun r_z M' hc_z => ?_)
  rcases hc_z with ⟨⟨rfl, hb_z⟩ | ⟨rfl, hb_z⟩, rfl⟩
  · skip
    refine Zs_eq hX (List.cons_ne_nil _ _) (fun q_z => absurd q_z (by decide)) (fun _ => ?_)
    refine Zgo hX 2 rfl (by first | exact True.intro | (dsimp only [ZallP]; and_intros <;> (first | decide | ((try simp only [pk_mul, nI_add]); exact Zin_n (by omega) (by decide))))) ?_
    refine Zs_callv hX (List.cons_ne_nil _ _) (s_worked 1 n_z _ (by decide) hn_z hn2 (hw_z hb_z)) (by decide) (by decide) rfl rfl rfl (by decide) (Nat.le_of_ble_eq_true rfl) (fun r_z M' hc_z => ?_)
    obtain ⟨rfl, hs2⟩ := hc_z
    refine Zgo hX 3 rfl (by first | exact True.intro | (dsimp only [ZallP]; and_intros <;> (first | decide | ((try simp only [pk_mul, nI_add]); exact Zin_n (by omega) (by decide))))) ?_
    refine Zs_calls hX (List.cons_ne_nil _ _) (by decide) (s_held _ _ _ _) (by decide) rfl rfl (by decide) (Nat.le_of_ble_eq_true rfl) (fun r_z M' hc_z => ?_)
    obtain ⟨rfl, rfl⟩ := hc_z
    refine Zs_ret hX hE rfl ⟨?_, by first | exact hsc | exact hsc.tr hs2⟩
    first | (exact congrArg (fun z_z => some (Value.int z_z)) ((show _ = Zhl (w_z * (nI 10 - t)) (nI 0) (nI 999) from rfl).trans (Zho_f (w_z := w_z) hcn hb_z))) | (have e_z := Zho_t hcn hb_z (Znm58 (Zp58_1 M w_z t k_z) (hw_z hb_z)); rw [← e_z]; rfl)
  · skip
    refine Zs_eq hX (List.cons_ne_nil _ _) (fun _ => ?_) (fun q_z => absurd rfl q_z)
    refine Zgo hX 7 rfl (by first | exact True.intro | (dsimp only [ZallP]; and_intros <;> (first | decide | ((try simp only [pk_mul, nI_add]); exact Zin_n (by omega) (by decide))))) ?_
    refine Zs_calls hX (List.cons_ne_nil _ _) (by decide) (s_held _ _ _ _) (by decide) rfl rfl (by decide) (Nat.le_of_ble_eq_true rfl) (fun r_z M' hc_z => ?_)
    obtain ⟨rfl, rfl⟩ := hc_z
    refine Zs_ret hX hE rfl ⟨?_, by first | exact hsc | exact hsc.tr hs2⟩
    first | (exact congrArg (fun z_z => some (Value.int z_z)) ((show _ = Zhl (w_z * (nI 10 - t)) (nI 0) (nI 999) from rfl).trans (Zho_f (w_z := w_z) hcn hb_z))) | (have e_z := Zho_t hcn hb_z (Znm58 (Zp58_1 M w_z t k_z) (hw_z hb_z)); rw [← e_z]; rfl)

set_option maxRecDepth 20000 in
theorem s_yarnAs (kd_z m_z : Nat) (w_z t : Int32) (M : Zmem) (hkd : kd_z ≤ 6) (hm_z : m_z ≤ 9) (hx_z : Ztx (M 54) 0) : ZC 78 3 [.ref 53, .int (nI (10 * kd_z + m_z)), .int w_z, .int t] M (fun r_z M' => r_z = some (.int (Zyn (M 54) (Zsaid kd_z m_z w_z t (M 54 2)) w_z t)) ∧ St M M') := by
  refine ZC_of Zt78 Zk78 (Nat.le_of_ble_eq_true rfl) (by decide) rfl (fun X hX hE => ?_)
  have e10 : nI (10 * kd_z + m_z) / nI 10 = nI kd_z := by rw [pk_div (by omega) (by decide) (by decide)]; congr 1; omega
  have r10 : nI (10 * kd_z + m_z) - nI (10 * kd_z + m_z) / nI 10 * nI 10 = nI m_z := by rw [pk_rem (by omega) (by decide) (by decide)]; congr 1; omega
  refine Zgo hX 10 rfl (by first | exact True.intro | (dsimp only [ZallP]; and_intros <;> (first | decide | ((try simp only [pk_mul, nI_add]); exact Zin_n (by omega) (by decide))))) ?_
  rw [r10, e10]
  refine Zs_callv hX (List.cons_ne_nil _ _) (s_saidOf kd_z m_z _ _ _ hkd hm_z) (by decide) (by decide) rfl rfl rfl (by decide) (Nat.le_of_ble_eq_true rfl) (fun r_z M' hc_z => ?_)
  obtain ⟨rfl, rfl⟩ := hc_z
  refine Zgo hX 2 rfl (by first | exact True.intro | (dsimp only [ZallP]; and_intros <;> (first | decide | ((try simp only [pk_mul, nI_add]); exact Zin_n (by omega) (by decide))))) ?_
  refine Zs_callv hX (List.cons_ne_nil _ _) (s_yarnTold _ _ _ _ hx_z) (by decide) (by decide) rfl rfl rfl (by decide) (Nat.le_of_ble_eq_true rfl) (fun r_z M' hc_z => ?_)
  obtain ⟨rfl, hs2⟩ := hc_z
  refine Zs_ret hX hE rfl ⟨rfl, hs2⟩

set_option maxRecDepth 20000 in
theorem s_yarnOf (i_z : Nat) (M : Zmem) (hi_z : i_z < 15) (hr_z : Zrw (M 54) i_z) (hx_z : Ztx (M 54) 0) : ZC 79 4 [.ref 53, .int (nI i_z)] M (fun r_z M' => r_z = some (.int (Zyo (M 54) i_z)) ∧ St M M') := by
  refine ZC_of Zt79 Zk79 (Nat.le_of_ble_eq_true rfl) (by decide) rfl (fun X hX hE => ?_)
  obtain ⟨⟨kd_z, hkd, e1_z⟩, ⟨m_z, hm_z, e2_z⟩, -, -, -⟩ := hr_z
  refine Zgo hX 5 rfl (by first | exact True.intro | (dsimp only [ZallP]; and_intros <;> (first | decide | ((try simp only [pk_mul, nI_add]); exact Zin_n (by omega) (by decide))))) ?_
  refine Zs_callv hX (List.cons_ne_nil _ _) (s_its i_z 0 _ hi_z (by decide)) (by decide) (by decide) rfl rfl rfl (by decide) (Nat.le_of_ble_eq_true rfl) (fun r_z M' hc_z => ?_)
  obtain ⟨rfl, rfl⟩ := hc_z
  rw [show M 54 (9 + 5 * i_z + 0) = nI kd_z from e1_z]
  refine Zgo hX 4 rfl (by first | exact True.intro | (dsimp only [ZallP]; and_intros <;> (first | decide | ((try simp only [pk_mul, nI_add]); exact Zin_n (by omega) (by decide))))) ?_
  refine Zs_callv hX (List.cons_ne_nil _ _) (s_its i_z 1 _ hi_z (by decide)) (by decide) (by decide) rfl rfl rfl (by decide) (Nat.le_of_ble_eq_true rfl) (fun r_z M' hc_z => ?_)
  obtain ⟨rfl, rfl⟩ := hc_z
  rw [show 9 + 5 * i_z + 1 = 10 + 5 * i_z by omega, e2_z]
  refine Zgo hX 4 rfl (by first | exact True.intro | (dsimp only [ZallP]; and_intros <;> (first | decide | ((try simp only [pk_mul, nI_add]); exact Zin_n (by omega) (by decide))))) ?_
  rw [pk_mul, nI_add]
  refine Zs_callv hX (List.cons_ne_nil _ _) (s_its i_z 2 _ hi_z (by decide)) (by decide) (by decide) rfl rfl rfl (by decide) (Nat.le_of_ble_eq_true rfl) (fun r_z M' hc_z => ?_)
  obtain ⟨rfl, rfl⟩ := hc_z
  rw [show 9 + 5 * i_z + 2 = 11 + 5 * i_z by omega]
  refine Zgo hX 3 rfl (by first | exact True.intro | (dsimp only [ZallP]; and_intros <;> (first | decide | ((try simp only [pk_mul, nI_add]); exact Zin_n (by omega) (by decide))))) ?_
  refine Zs_callv hX (List.cons_ne_nil _ _) (s_its i_z 3 _ hi_z (by decide)) (by decide) (by decide) rfl rfl rfl (by decide) (Nat.le_of_ble_eq_true rfl) (fun r_z M' hc_z => ?_)
  obtain ⟨rfl, rfl⟩ := hc_z
  rw [show 9 + 5 * i_z + 3 = 12 + 5 * i_z by omega]
  refine Zs_callv hX (List.cons_ne_nil _ _) (s_yarnAs kd_z m_z _ _ _ hkd hm_z hx_z) (by decide) (by decide) rfl rfl rfl (by decide) (Nat.le_of_ble_eq_true rfl) (fun r_z M' hc_z => ?_)
  obtain ⟨rfl, hs2⟩ := hc_z
  refine Zs_ret hX hE rfl ⟨by rw [Zyo_of e1_z e2_z hkd hm_z], hs2⟩

set_option maxRecDepth 20000 in
theorem s_holdsBy (i_z : Nat) (more : Int32) (M : Zmem) (hi_z : i_z < 15) (hx_z : Ztx (M 54) 1) : ZC 80 3 [.ref 53, .int (nI i_z), .int more] M (fun r_z M' => r_z = some (.int (Zhb (M 54) i_z more)) ∧ St M M') := by
  refine ZC_of Zt80 Zk80 (Nat.le_of_ble_eq_true rfl) (by decide) rfl (fun X hX hE => ?_)
  refine Zgo hX 4 rfl (by first | exact True.intro | (dsimp only [ZallP]; and_intros <;> (first | decide | ((try simp only [pk_mul, nI_add]); exact Zin_n (by omega) (by decide))))) ?_
  refine Zs_callv hX (List.cons_ne_nil _ _) (s_its i_z 2 _ hi_z (by decide)) (by decide) (by decide) rfl rfl rfl (by decide) (Nat.le_of_ble_eq_true rfl) (fun r_z M' hc_z => ?_)
  obtain ⟨rfl, rfl⟩ := hc_z
  rw [show 9 + 5 * i_z + 2 = 11 + 5 * i_z by omega]
  refine Zgo hX 3 rfl (by first | exact True.intro | (dsimp only [ZallP]; and_intros <;> (first | decide | ((try simp only [pk_mul, nI_add]); exact Zin_n (by omega) (by decide))))) ?_
  refine Zs_callv hX (List.cons_ne_nil _ _) (s_its i_z 3 _ hi_z (by decide)) (by decide) (by decide) rfl rfl rfl (by decide) (Nat.le_of_ble_eq_true rfl) (fun r_z M' hc_z => ?_)
  obtain ⟨rfl, rfl⟩ := hc_z
  rw [show 9 + 5 * i_z + 3 = 12 + 5 * i_z by omega]
  refine Zgo hX 4 rfl (by first | exact True.intro | (dsimp only [ZallP]; and_intros <;> (first | decide | ((try simp only [pk_mul, nI_add]); exact Zin_n (by omega) (by decide))))) ?_
  refine Zs_calls hX (List.cons_ne_nil _ _) (by decide) (s_held _ _ _ _) (by decide) rfl rfl (by decide) (Nat.le_of_ble_eq_true rfl) (fun r_z M' hc_z => ?_)
  obtain ⟨rfl, rfl⟩ := hc_z
  refine Zgo hX 3 rfl (by first | exact True.intro | (dsimp only [ZallP]; and_intros <;> (first | decide | ((try simp only [pk_mul, nI_add]); exact Zin_n (by omega) (by decide))))) ?_
  refine Zs_callv hX (List.cons_ne_nil _ _) (s_its i_z 0 _ hi_z (by decide)) (by decide) (by decide) rfl rfl rfl (by decide) (Nat.le_of_ble_eq_true rfl) (fun r_z M' hc_z => ?_)
  obtain ⟨rfl, rfl⟩ := hc_z
  rw [show 9 + 5 * i_z + 0 = 9 + 5 * i_z by omega]
  refine Zs_callv hX (List.cons_ne_nil _ _) (s_holdsTold _ _ _ _ hx_z) (by decide) (by decide) rfl rfl rfl (by decide) (Nat.le_of_ble_eq_true rfl) (fun r_z M' hc_z => ?_)
  obtain ⟨rfl, hs2⟩ := hc_z
  refine Zs_ret hX hE rfl ⟨rfl, hs2⟩

set_option maxRecDepth 20000 in
theorem k_given0 (f_z : Nat → Int32) (a_z b_z c_z : Int32) (M : Zmem) (hc_z : Zct M 11 0 f_z) (hw_z : Ztx f_z 0) : ZC 172 2 [.ref 1, .int (nI 0), .int a_z, .int b_z, .int c_z] M (fun r_z M' => r_z = some (.int (Zyn f_z a_z b_z c_z)) ∧ St M M') := by
  refine ZC_of Zt172 Zk172 (Nat.le_of_ble_eq_true rfl) (by decide) rfl (fun X hX hE => ?_)
  obtain ⟨n_z, hn2, hn_z, ⟨n9, hn9, hs9⟩, hor⟩ := hc_z
  have hcn : Zcu f_z 0 = n_z := Zcu_of hn_z hn2
  refine Zgo hX 3 rfl (by first | exact True.intro | (dsimp only [ZallP]; and_intros <;> (first | decide | ((try simp only [pk_mul, nI_add]); exact Zin_n (by omega) (by decide))))) ?_
  refine Zs_aald hX (List.cons_ne_nil _ _) (by decide) rfl (by decide) (j := 0) rfl (by decide) (by decide) rfl ?_
  refine Zgo hX 2 rfl (by first | exact True.intro | (dsimp only [ZallP]; and_intros <;> (first | decide | ((try simp only [pk_mul, nI_add]); exact Zin_n (by omega) (by decide))))) ?_
  refine Zs_ne hX (List.cons_ne_nil _ _) (fun q_z => False.elim (by revert q_z; decide)) (fun _ => ?_)
  refine Zgo hX 2 rfl (by first | exact True.intro | (dsimp only [ZallP]; and_intros <;> (first | decide | ((try simp only [pk_mul, nI_add]); exact Zin_n (by omega) (by decide))))) ?_
  rcases hor with ⟨h0_z, k1_z, k2_z, k3⟩ | ⟨h0_z, k1_z⟩
  · skip
    rw [k1_z]
    have hwf := (show ∃ n_z, n_z ≤ 60 ∧ f_z (84 + 125 * 0) = nI n_z ∧ (0 < n_z → Zwf 0 (Zgi f_z 0) n_z 1) from hw_z)
    obtain ⟨n8, h8_z, e8, hw8⟩ := hwf
    obtain rfl : n_z = n8 := Zeq (by omega) (by omega) (hn_z.symm.trans e8)
    have hwf := hw8 h0_z
    refine Zs_eq hX (List.cons_ne_nil _ _) (fun q_z => False.elim (by revert q_z; decide)) (fun _ => ?_)
    refine Zgo hX 4 rfl (by first | exact True.intro | (dsimp only [ZallP]; and_intros <;> (first | decide | ((try simp only [pk_mul, nI_add]); exact Zin_n (by omega) (by decide))))) ?_
    refine Zs_callv hX (List.cons_ne_nil _ _) (k_worked11 n_z (Zgi f_z 0) (Znv 0 a_z b_z c_z) _ _ _ _ k2_z hn2 hwf k3 (Znv_ab 0 a_z b_z c_z)) (by decide) (by decide) rfl rfl rfl (by decide) (Nat.le_of_ble_eq_true rfl) (fun r_z M' hc_z => ?_)
    obtain ⟨rfl, hs2⟩ := hc_z
    refine Zgo hX 3 rfl (by first | exact True.intro | (dsimp only [ZallP]; and_intros <;> (first | decide | ((try simp only [pk_mul, nI_add]); exact Zin_n (by omega) (by decide))))) ?_
    refine Zs_calls hX (List.cons_ne_nil _ _) (by decide) (k_held _ _ _ _) (by decide) rfl rfl (by decide) (Nat.le_of_ble_eq_true rfl) (fun r_z M' hc_z => ?_)
    obtain ⟨rfl, rfl⟩ := hc_z
    rw [Zhl_k (by decide)]
    refine Zs_ret hX hE rfl ⟨congrArg (fun z_z => some (Value.int z_z)) (Zyn_t hcn h0_z rfl), hs2⟩
  · skip
    rw [k1_z]
    refine Zs_eq hX (List.cons_ne_nil _ _) (fun _ => ?_) (fun q_z => False.elim (by revert q_z; decide))
    refine Zgo hX 3 rfl (by first | exact True.intro | (dsimp only [ZallP]; and_intros <;> (first | decide | ((try simp only [pk_mul, nI_add]); exact Zin_n (by omega) (by decide))))) ?_
    refine Zs_calls hX (List.cons_ne_nil _ _) (by decide) (k_held _ _ _ _) (by decide) rfl rfl (by decide) (Nat.le_of_ble_eq_true rfl) (fun r_z M' hc_z => ?_)
    obtain ⟨rfl, rfl⟩ := hc_z
    rw [Zhl_k (by decide)]
    refine Zs_ret hX hE rfl ⟨congrArg (fun z_z => some (Value.int z_z)) (Zyn_f hcn (by omega)), St.rf _⟩

set_option maxRecDepth 20000 in
theorem k_given1 (f_z : Nat → Int32) (a_z b_z c_z : Int32) (M : Zmem) (hc_z : Zct M 14 1 f_z) (hw_z : Ztx f_z 1) : ZC 172 2 [.ref 1, .int (nI 1), .int a_z, .int b_z, .int c_z] M (fun r_z M' => r_z = some (.int (Zhc f_z a_z b_z c_z)) ∧ St M M') := by
  refine ZC_of Zt172 Zk172 (Nat.le_of_ble_eq_true rfl) (by decide) rfl (fun X hX hE => ?_)
  obtain ⟨n_z, hn2, hn_z, ⟨n9, hn9, hs9⟩, hor⟩ := hc_z
  have hcn : Zcu f_z 1 = n_z := Zcu_of hn_z hn2
  refine Zgo hX 3 rfl (by first | exact True.intro | (dsimp only [ZallP]; and_intros <;> (first | decide | ((try simp only [pk_mul, nI_add]); exact Zin_n (by omega) (by decide))))) ?_
  refine Zs_aald hX (List.cons_ne_nil _ _) (by decide) rfl (by decide) (j := 1) rfl (by decide) (by decide) rfl ?_
  refine Zgo hX 2 rfl (by first | exact True.intro | (dsimp only [ZallP]; and_intros <;> (first | decide | ((try simp only [pk_mul, nI_add]); exact Zin_n (by omega) (by decide))))) ?_
  refine Zs_ne hX (List.cons_ne_nil _ _) (fun _ => ?_) (fun q_z => False.elim (by revert q_z; decide))
  refine Zgo hX 2 rfl (by first | exact True.intro | (dsimp only [ZallP]; and_intros <;> (first | decide | ((try simp only [pk_mul, nI_add]); exact Zin_n (by omega) (by decide))))) ?_
  rcases hor with ⟨h0_z, k1_z, k2_z, k3⟩ | ⟨h0_z, k1_z⟩
  · skip
    rw [k1_z]
    have hwf := (show ∃ n_z, n_z ≤ 60 ∧ f_z (84 + 125 * 1) = nI n_z ∧ (0 < n_z → Zwf 1 (Zgi f_z 1) n_z 1) from hw_z)
    obtain ⟨n8, h8_z, e8, hw8⟩ := hwf
    obtain rfl : n_z = n8 := Zeq (by omega) (by omega) (hn_z.symm.trans e8)
    have hwf := hw8 h0_z
    refine Zs_eq hX (List.cons_ne_nil _ _) (fun q_z => False.elim (by revert q_z; decide)) (fun _ => ?_)
    refine Zgo hX 4 rfl (by first | exact True.intro | (dsimp only [ZallP]; and_intros <;> (first | decide | ((try simp only [pk_mul, nI_add]); exact Zin_n (by omega) (by decide))))) ?_
    refine Zs_callv hX (List.cons_ne_nil _ _) (k_worked14 n_z (Zgi f_z 1) (Znv 1 a_z b_z c_z) _ _ _ _ k2_z hn2 hwf k3 (Znv_ab 1 a_z b_z c_z)) (by decide) (by decide) rfl rfl rfl (by decide) (Nat.le_of_ble_eq_true rfl) (fun r_z M' hc_z => ?_)
    obtain ⟨rfl, hs2⟩ := hc_z
    refine Zgo hX 2 rfl (by first | exact True.intro | (dsimp only [ZallP]; and_intros <;> (first | decide | ((try simp only [pk_mul, nI_add]); exact Zin_n (by omega) (by decide))))) ?_
    refine Zs_calls hX (List.cons_ne_nil _ _) (by decide) (k_held _ _ _ _) (by decide) rfl rfl (by decide) (Nat.le_of_ble_eq_true rfl) (fun r_z M' hc_z => ?_)
    obtain ⟨rfl, rfl⟩ := hc_z
    rw [Zhl_k (by decide)]
    refine Zgo hX 1 rfl (by first | exact True.intro | (dsimp only [ZallP]; and_intros <;> (first | decide | ((try simp only [pk_mul, nI_add]); exact Zin_n (by omega) (by decide))))) ?_
    refine Zs_ret hX hE rfl ⟨congrArg (fun z_z => some (Value.int z_z)) (Zhc_t hcn h0_z rfl), hs2⟩
  · skip
    rw [k1_z]
    refine Zs_eq hX (List.cons_ne_nil _ _) (fun _ => ?_) (fun q_z => False.elim (by revert q_z; decide))
    refine Zgo hX 5 rfl (by first | exact True.intro | (dsimp only [ZallP]; and_intros <;> (first | decide | ((try simp only [pk_mul, nI_add]); exact Zin_n (by omega) (by decide))))) ?_
    refine Zs_ret hX hE rfl ⟨congrArg (fun z_z => some (Value.int z_z)) (Zhc_f hcn (by omega)), St.rf _⟩

set_option maxRecDepth 20000 in
theorem k_yarnFor (f_z : Nat → Int32) (kd_z m_z : Nat) (w_z t : Int32) (M : Zmem) (hkd : kd_z ≤ 6) (hm_z : m_z ≤ 9) (hse : M 1 8 = f_z 2) (hc_z : Zct M 11 0 f_z) (hw_z : Ztx f_z 0) : ZC 169 3 [.ref 1, .int (nI (10 * kd_z + m_z)), .int w_z, .int t] M (fun r_z M' => r_z = some (.int (Zyn f_z (Zsaid kd_z m_z w_z t (f_z 2)) w_z t)) ∧ St M M') := by
  refine ZC_of Zt169 Zk169 (Nat.le_of_ble_eq_true rfl) (by decide) rfl (fun X hX hE => ?_)
  refine Zgo hX 7 rfl (by first | exact True.intro | (dsimp only [ZallP]; and_intros <;> (first | decide | ((try simp only [pk_mul, nI_add]); exact Zin_n (by omega) (by decide))))) ?_
  rw [hse]
  refine Zs_calls hX (List.cons_ne_nil _ _) (by decide) (k_yarn kd_z m_z _ _ _ _ hkd hm_z) (by decide) rfl rfl (by decide) (Nat.le_of_ble_eq_true rfl) (fun r_z M' hc_z => ?_)
  obtain ⟨rfl, rfl⟩ := hc_z
  refine Zgo hX 2 rfl (by first | exact True.intro | (dsimp only [ZallP]; and_intros <;> (first | decide | ((try simp only [pk_mul, nI_add]); exact Zin_n (by omega) (by decide))))) ?_
  refine Zs_callv hX (List.cons_ne_nil _ _) (k_given0 f_z _ _ _ _ hc_z hw_z) (by decide) (by decide) rfl rfl rfl (by decide) (Nat.le_of_ble_eq_true rfl) (fun r_z M' hc_z => ?_)
  obtain ⟨rfl, hs2⟩ := hc_z
  refine Zs_ret hX hE rfl ⟨rfl, hs2⟩

set_option maxRecDepth 20000 in
theorem k_yarnOf (f_z : Nat → Int32) (i_z : Nat) (M : Zmem) (hi_z : i_z < 15) (hr_z : Zrw f_z i_z) (hk_z : M 2 i_z = f_z (9 + 5 * i_z)) (hm_z : M 3 i_z = f_z (10 + 5 * i_z)) (hwi : M 4 i_z = f_z (11 + 5 * i_z)) (hte : M 5 i_z = f_z (12 + 5 * i_z)) (hse : M 1 8 = f_z 2) (hc_z : Zct M 11 0 f_z) (hw_z : Ztx f_z 0) : ZC 170 4 [.ref 1, .int (nI i_z)] M (fun r_z M' => r_z = some (.int (Zyo f_z i_z)) ∧ St M M') := by
  refine ZC_of Zt170 Zk170 (Nat.le_of_ble_eq_true rfl) (by decide) rfl (fun X hX hE => ?_)
  obtain ⟨⟨kd_z, hkd, e1_z⟩, ⟨m_z, hm9, e2_z⟩, -, -, -⟩ := hr_z
  refine Zgo hX 20 rfl (by dsimp only [ZallP]; exact ⟨⟨⟨Zin_n (by omega) (by decide), Zin_n (by omega) (by decide)⟩, Zin_n (by omega) (by decide)⟩, Zin_n (by omega) (by decide)⟩) ?_
  rw [Zcl_n (show i_z < 2 ^ 31 by omega), hk_z, hm_z, hwi, hte, e1_z, e2_z, pk_mul, nI_add]
  refine Zs_callv hX (List.cons_ne_nil _ _) (k_yarnFor f_z kd_z m_z _ _ _ hkd hm9 hse hc_z hw_z) (by decide) (by decide) rfl rfl rfl (by decide) (Nat.le_of_ble_eq_true rfl) (fun r_z M' hc_z => ?_)
  obtain ⟨rfl, hs2⟩ := hc_z
  refine Zs_ret hX hE rfl ⟨by rw [Zyo_of e1_z e2_z hkd hm9], hs2⟩

set_option maxRecDepth 20000 in
theorem k_holdsOf (f_z : Nat → Int32) (i_z : Nat) (more : Int32) (M : Zmem) (hi_z : i_z < 15) (hr_z : Zrw f_z i_z) (hk_z : M 2 i_z = f_z (9 + 5 * i_z)) (hwi : M 4 i_z = f_z (11 + 5 * i_z)) (hte : M 5 i_z = f_z (12 + 5 * i_z)) (hc_z : Zct M 14 1 f_z) (hw_z : Ztx f_z 1) : ZC 171 3 [.ref 1, .int (nI i_z), .int more] M (fun r_z M' => r_z = some (.int (Zhb f_z i_z more)) ∧ St M M') := by
  refine ZC_of Zt171 Zk171 (Nat.le_of_ble_eq_true rfl) (by decide) rfl (fun X hX hE => ?_)
  refine Zgo hX 8 rfl (Zin_n (by omega) (by decide)) ?_
  rw [Zcl_n (show i_z < 2 ^ 31 by omega), hte]
  refine Zs_calls hX (List.cons_ne_nil _ _) (by decide) (k_held _ _ _ _) (by decide) rfl rfl (by decide) (Nat.le_of_ble_eq_true rfl) (fun r_z M' hc_z => ?_)
  obtain ⟨rfl, rfl⟩ := hc_z
  rw [Zhl_k (by decide)]
  refine Zgo hX 12 rfl (by dsimp only [ZallP]; exact ⟨Zin_n (by omega) (by decide), Zin_n (by omega) (by decide)⟩) ?_
  rw [Zcl_n (show i_z < 2 ^ 31 by omega), hwi, hk_z]
  refine Zs_callv hX (List.cons_ne_nil _ _) (k_given1 f_z _ _ _ _ hc_z hw_z) (by decide) (by decide) rfl rfl rfl (by decide) (Nat.le_of_ble_eq_true rfl) (fun r_z M' hc_z => ?_)
  obtain ⟨rfl, hs2⟩ := hc_z
  refine Zs_ret hX hE rfl ⟨by rw [Zhb_c hr_z], hs2⟩
