-- texts, bytes, images
theorem Zs_abs {X : Zx} {tab cs : List Zent} {l : List (Nat × Value)} {st : List Value} {M : Zmem} (P : Zmem → Prop) (h_z : P M) (kk : ∀ M1 : Zmem, P M1 → ZP X tab cs l st M1) : ZP X tab cs l st M := kk M h_z
def Zcpy (M : Zmem) (o0 o1 n_z : Nat) : Zmem := fun q_z => if q_z = o1 then va_cpy (M o0) (M o1) 0 0 n_z else M q_z
theorem Zs_cp {X : Zx} {k_z fr : Nat} {tab cs : List Zent} {l : List (Nat × Value)} {st : List Value} {M : Zmem} {pc len r1_z i_z a_z n0_z n1_z o0 o1 : Nat} {hs_z : List Nat} {z0 z1_z : List (Nat × Nat)} (n_z : Nat) (hX : ZOK X k_z fr tab) (hne : cs ≠ []) (hfr : 1 ≤ fr) (h0_z : o0 < Zno) (h1_z : o1 < Zno) (ha_z : a_z = 0 ∨ a_z = 1) (hs0 : Zsh o0 = (a_z, n0_z, z0)) (hs1 : Zsh o1 = (a_z, n1_z, z1_z)) (hlt : n_z < 2 ^ 31) (hn0 : n_z ≤ n0_z) (hn1 : n_z ≤ n1_z)
    (hby : a_z = 1 → ∀ j_z, j_z < n_z → fits .byte (.int (M o0 j_z)) = true) (hrest : (st.map fun v_z => v_z.category).sum ≤ 8)
    (kk : ZP X tab cs l st (Zcpy M o0 o1 n_z)) : ZP X tab ((pc, len, .invokestatic i_z, r1_z, 2, hs_z) :: cs) l (.int (nI n_z) :: .int (nI 0) :: .ref o1 :: .int (nI 0) :: .ref o0 :: st) M := by
  have e0_z : (nI 0).toNatClampNeg = 0 := Zcl_n (by decide)
  have en : (nI n_z).toNatClampNeg = n_z := Zcl_n hlt
  refine Zs_copy hX hne hfr h0_z h1_z ha_z hs0 hs1 (Zn_nlt0 (by decide)) (Zn_nlt0 (by decide)) (Zn_nlt0 hlt) (by rw [e0_z, en]; omega) (by rw [e0_z, en]; omega) ?_ hrest ?_
  · rw [e0_z, en]
    intro h_z j_z hj_z
    rw [Nat.zero_add]
    exact hby h_z j_z hj_z
  · rw [e0_z, en]
    exact kk
theorem Zsb_fits (m_z : Nat) : fits .byte (.int (Zsb m_z)) = true := by
  have key : ∀ m_z, m_z < 256 → Zsb m_z = (nI m_z).toInt8.toInt32 := by decide +kernel
  have e_z : Zsb m_z = (nI (if m_z < 256 then m_z else 255)).toInt8.toInt32 := by
    split
    · rename_i h_z; exact key m_z h_z
    · rename_i h_z; unfold Zsb; rw [if_neg (by omega), if_neg h_z]; decide +kernel
  rw [e_z]
  exact pk_fb _
/-- bytes of a_z word -/
def Zby (x_z : Int64) (k_z : Nat) : Nat := ((x_z.toBitVec >>> (8 * k_z)).setWidth 8).toNat
theorem Zby_lt (x_z : Int64) (k_z : Nat) : Zby x_z k_z < 256 := BitVec.isLt _
theorem Zby_s (x_z : Int64) {k_z : Nat} (hk_z : k_z < 8) : ((x_z >>> ((nI (8 * k_z)).toInt64 &&& 63)) &&& lN 255).toInt32 = nI (Zby x_z k_z) := by
  have hd_z : ∀ k_z, k_z < 8 → (((nI (8 * k_z)).toInt64 &&& 63).toBitVec.smod 64).toNat = 8 * k_z := by decide +kernel
  have hm_z : ∀ i_z, i_z < 32 → (lN 255).toBitVec.getLsbD i_z = decide (i_z < 8) := by decide +kernel
  apply Int32.toBitVec_inj.1
  show ((x_z.toBitVec.sshiftRight (((nI (8 * k_z)).toInt64 &&& 63).toBitVec.smod 64).toNat) &&& (lN 255).toBitVec).signExtend 32 = BitVec.ofNat 32 (Zby x_z k_z)
  rw [BitVec.signExtend_eq_setWidth_of_le _ (by decide), hd_z k_z hk_z]
  unfold Zby
  rw [BitVec.ofNat_toNat]
  apply BitVec.eq_of_getLsbD_eq
  intro i_z hi_z
  rw [BitVec.getLsbD_setWidth, BitVec.getLsbD_and, BitVec.getLsbD_sshiftRight, hm_z i_z hi_z, BitVec.getLsbD_setWidth, BitVec.getLsbD_setWidth, BitVec.getLsbD_ushiftRight]
  by_cases h8_z : i_z < 8
  · have h64_z : 8 * k_z + i_z < 64 := by omega
    have h64' : ¬ 64 ≤ i_z := by omega
    simp [h8_z, hi_z, h64_z, h64']
  · simp [h8_z]
theorem Zby_k (x_z : Int64) {k_z : Nat} (hk_z : k_z < 8) : vp_nar .byte ((x_z.toUInt64 >>> ((nI (8 * k_z)).toInt64.toUInt64 &&& Int64.toUInt64 63)).toInt64.toInt32.toInt8.toInt32) = Zsb (Zby x_z k_z) := by
  have hd_z : ∀ k_z, k_z < 8 → (((nI (8 * k_z)).toInt64.toUInt64 &&& Int64.toUInt64 63).toBitVec % 64).toNat = 8 * k_z := by decide +kernel
  have hz_z : ∀ n_z, n_z < 256 → (Int8.ofNat n_z).toInt32 = Zsb n_z := by decide +kernel
  rw [pk_vb, ← hz_z _ (Zby_lt x_z k_z)]
  congr 1
  apply Int8.toBitVec_inj.1
  show ((x_z.toBitVec >>> (((nI (8 * k_z)).toInt64.toUInt64 &&& Int64.toUInt64 63).toBitVec % 64).toNat).signExtend 32).signExtend 8 = BitVec.ofNat 8 (Zby x_z k_z)
  rw [BitVec.signExtend_eq_setWidth_of_le _ (by decide), BitVec.signExtend_eq_setWidth_of_le _ (by decide), hd_z k_z hk_z]
  unfold Zby
  rw [BitVec.ofNat_toNat]
  apply BitVec.eq_of_getLsbD_eq
  intro i_z hi_z
  have h32_z : i_z < 32 := by omega
  simp [hi_z, h32_z]
def Zfd (f_z : Nat → Int32) (w_z : Int64) (b_z : Nat) : Nat → Nat → Int32
  | 0 => f_z
  | k_z + 1 => upd (upd (Zfd f_z w_z b_z k_z) (334 + (b_z + k_z)) (nI (Zby w_z k_z))) 5 (nI (b_z + k_z + 1))
theorem Zfd_fi {f_z : Nat → Int32} {w_z : Int64} {b_z : Nat} (h_z : Zfi f_z) (h5_z : f_z 5 = nI b_z) : ∀ k_z, b_z + k_z ≤ 60 → Zfi (Zfd f_z w_z b_z k_z) ∧ Zfd f_z w_z b_z k_z 5 = nI (b_z + k_z) ∧ Zfd f_z w_z b_z k_z 7 = f_z 7 := by
  intro k_z
  induction k_z with
  | zero => intro _; exact ⟨h_z, h5_z, rfl⟩
  | succ k_z ih_z =>
    intro hk_z
    obtain ⟨h1_z, -, h3_z⟩ := ih_z (by omega)
    exact ⟨(h1_z.tp (by omega) (Zby_lt w_z k_z)).by (by omega), pk_us, by rw [Zfd, pk_un (by decide), pk_un (by omega), h3_z]⟩
def Ffeed (f_z : Nat → Int32) (w_z : Int64) (m_z : Int32) : Zan_ := if nI 1 ≤ m_z ∧ m_z ≤ nI 8 then (if nI 60 < f_z 5 + m_z then (Er 4, f_z) else (f_z 5 + m_z, Zfd f_z w_z (f_z 5).toNatClampNeg m_z.toNatClampNeg)) else (Er 1, f_z)
/-- the bytes that stand on the tape -/
def Zch (f_z : Nat → Int32) (i_z : Nat) : Nat := if i_z < (f_z 5).toNatClampNeg then (f_z (334 + i_z)).toNatClampNeg else 256
def Zrd (f_z : Nat → Int32) (u_z : Nat) : Zrs := Zlvl (Zch f_z) (Zpie (Zch f_z) u_z 5) 5 0
def Zvl (L : List Zitm) (k_z : Nat) : Int32 := if k_z % 2 = 0 then (L.getD (k_z / 2) (0, 0)).1 else (L.getD (k_z / 2) (0, 0)).2
def Ztt (f_z : Nat → Int32) (u_z : Nat) (L : List Zitm) : Nat → Nat → Int32
  | 0 => upd (upd f_z 5 (nI 0)) (84 + 125 * u_z) (nI L.length)
  | k_z + 1 => upd (Ztt f_z u_z L k_z) (85 + 125 * u_z + k_z) (Zvl L k_z)
def Ftext (f_z : Nat → Int32) (use : Int32) : Zan_ := if nI 0 ≤ use ∧ use ≤ nI 1 then (if (Zrd f_z use.toNatClampNeg).1 = true ∧ (Zrd f_z use.toNatClampNeg).2.1 = (f_z 5).toNatClampNeg then (nI 1, Ztt f_z use.toNatClampNeg (Zrd f_z use.toNatClampNeg).2.2 (2 * (Zrd f_z use.toNatClampNeg).2.2.length)) else (-(nI 10) - nI (Zrd f_z use.toNatClampNeg).2.1, upd f_z 5 (nI 0))) else (Er 1, f_z)
def Funtell (f_z : Nat → Int32) (use : Int32) : Zan_ := if nI 0 ≤ use ∧ use ≤ nI 1 then (if 0 < Zcu f_z use.toNatClampNeg then nI 1 else nI 0, upd f_z (84 + 125 * use.toNatClampNeg) (nI 0)) else (Er 1, f_z)
theorem Ztt_o {f_z : Nat → Int32} {u_z : Nat} {L : List Zitm} : ∀ {k_z j_z : Nat}, (j_z < 85 + 125 * u_z ∨ 85 + 125 * u_z + k_z ≤ j_z) → Ztt f_z u_z L k_z j_z = upd (upd f_z 5 (nI 0)) (84 + 125 * u_z) (nI L.length) j_z := by
  intro k_z
  induction k_z with
  | zero => intro j_z _; rfl
  | succ k_z ih_z =>
    intro j_z hj_z
    rw [Ztt, pk_un (by omega)]
    exact ih_z (by omega)
theorem Ztt_i {f_z : Nat → Int32} {u_z : Nat} {L : List Zitm} : ∀ {k_z i_z : Nat}, i_z < k_z → Ztt f_z u_z L k_z (85 + 125 * u_z + i_z) = Zvl L i_z := by
  intro k_z
  induction k_z with
  | zero => intro i_z h_z; exact absurd h_z (Nat.not_lt_zero _)
  | succ k_z ih_z =>
    intro i_z hi_z
    rw [Ztt]
    by_cases e_z : i_z = k_z
    · subst e_z; exact pk_us
    · rw [pk_un (by omega)]
      exact ih_z (by omega)
theorem Ztt_g {f_z : Nat → Int32} {u_z : Nat} {L : List Zitm} {i_z : Nat} (hi_z : i_z < L.length) : Zgi (Ztt f_z u_z L (2 * L.length)) u_z i_z = L.getD i_z (0, 0) := by
  unfold Zgi
  rw [show 86 + 125 * u_z + 2 * i_z = 85 + 125 * u_z + (2 * i_z + 1) by omega, Ztt_i (by omega), Ztt_i (by omega), Zvl, Zvl, if_pos (by omega), if_neg (by omega), show 2 * i_z / 2 = i_z by omega, show (2 * i_z + 1) / 2 = i_z by omega]
theorem Zch_st {f_z : Nat → Int32} {n_z u_z : Nat} (h_z : Zfi f_z) (h5_z : f_z 5 = nI n_z) (hn_z : n_z ≤ 60) (hu_z : u_z < 2) : Zst (Zch f_z) n_z u_z ∧ ∀ i_z, i_z < n_z → f_z (334 + i_z) = nI (Zch f_z i_z) ∧ Zch f_z i_z = (f_z (334 + i_z)).toNatClampNeg := by
  have e5 : (f_z 5).toNatClampNeg = n_z := by rw [h5_z, Zcl_n (by omega)]
  have key : ∀ i_z, i_z < n_z → Zch f_z i_z = (f_z (334 + i_z)).toNatClampNeg := fun i_z hi_z => by unfold Zch; rw [e5, if_pos hi_z]
  refine ⟨⟨fun i_z hi_z => by unfold Zch; rw [e5, if_neg (by omega)], fun i_z hi_z => ?_, hn_z, hu_z⟩, fun i_z hi_z => ?_⟩
  · obtain ⟨b_z, h1_z, h2_z⟩ := h_z.2.2.1 i_z (by omega)
    rw [key i_z hi_z, h2_z, Zcl_n (by omega)]
    exact h1_z
  · obtain ⟨b_z, h1_z, h2_z⟩ := h_z.2.2.1 i_z (by omega)
    refine ⟨?_, key i_z hi_z⟩
    rw [key i_z hi_z, h2_z, Zcl_n (by omega)]
theorem Zrd_gd {f_z : Nat → Int32} {n_z u_z : Nat} (h_z : Zst (Zch f_z) n_z u_z) : Zgd u_z n_z 0 (Zrd f_z u_z) := Zlvl_gd h_z.1 (Zpie_gd h_z.1 5) 5 (by decide) 0 (Nat.zero_le _)
theorem Ztt_fi {f_z : Nat → Int32} {n_z u_z : Nat} (h_z : Zfi f_z) (hs_z : Zst (Zch f_z) n_z u_z) (hu_z : u_z < 2) (hr_z : (Zrd f_z u_z).1 = true) : Zfi (Ztt f_z u_z (Zrd f_z u_z).2.2 (2 * (Zrd f_z u_z).2.2.length)) := by
  obtain ⟨-, g2, g3⟩ := Zrd_gd hs_z
  obtain ⟨g4, g5, g6⟩ := g3 hr_z
  have hn_z := hs_z.2.2.1
  have ho : ∀ j_z, j_z ≠ 5 → ¬ (84 + 125 * u_z ≤ j_z ∧ j_z < 209 + 125 * u_z) → Ztt f_z u_z (Zrd f_z u_z).2.2 (2 * (Zrd f_z u_z).2.2.length) j_z = f_z j_z := by
    intro j_z h5_z hj_z
    rw [Ztt_o (by omega), pk_un (by omega), pk_un h5_z]
  have e5 : Ztt f_z u_z (Zrd f_z u_z).2.2 (2 * (Zrd f_z u_z).2.2.length) 5 = nI 0 := by rw [Ztt_o (by omega), pk_un (by omega), pk_us]
  have et : Ztt f_z u_z (Zrd f_z u_z).2.2 (2 * (Zrd f_z u_z).2.2.length) (84 + 125 * u_z) = nI (Zrd f_z u_z).2.2.length := by rw [Ztt_o (by omega), pk_us]
  have hx_z : Ztx (Ztt f_z u_z (Zrd f_z u_z).2.2 (2 * (Zrd f_z u_z).2.2.length)) u_z := by
    refine ⟨(Zrd f_z u_z).2.2.length, by omega, et, fun _ => ?_⟩
    have := g6 (Zgi (Ztt f_z u_z (Zrd f_z u_z).2.2 (2 * (Zrd f_z u_z).2.2.length)) u_z) 0 0 rfl (fun i_z hi_z => by rw [Nat.zero_add]; exact Ztt_g hi_z)
    rw [Nat.zero_add] at this
    exact this
  obtain ⟨h1_z, ⟨s0, s1_z, s2_z, s3, s4, s5⟩, h3_z, h4_z, h5_z⟩ := h_z
  refine ⟨Zfr_kp h1_z (fun j_z a_z b_z => ho j_z (by omega) (by omega)), ⟨?_, ?_, ?_, ?_, ⟨0, by decide, e5⟩, ?_⟩, Zfb_kp h3_z (fun j_z a_z b_z => ho j_z (by omega) (by omega)), ?_, ?_⟩
  · rw [ho 0 (by decide) (by omega)]; exact s0
  · rw [ho 1 (by decide) (by omega)]; exact s1_z
  · rw [ho 2 (by decide) (by omega)]; exact s2_z
  · rw [ho 3 (by decide) (by omega)]; exact s3
  · rw [ho 6 (by decide) (by omega)]; exact s5
  · rcases (show u_z = 0 ∨ u_z = 1 by omega) with rfl | rfl
    · exact hx_z
    · exact Ztx_kp h4_z (fun j_z a_z b_z => ho j_z (by omega) (by omega))
  · rcases (show u_z = 0 ∨ u_z = 1 by omega) with rfl | rfl
    · exact Ztx_kp h5_z (fun j_z a_z b_z => ho j_z (by omega) (by omega))
    · exact hx_z
/-- a_z text of the class is changed, the tape perhaps -/
theorem Zrv_tx {f_z f2_z : Nat → Int32} {M M2 : Zmem} {u_z t : Nat} (hu_z : (u_z = 0 ∧ t = 11) ∨ (u_z = 1 ∧ t = 14)) (h_z : Zrv 1 f_z M) (hs_z : ∀ o_z k_z, scr o_z k_z = false → 1 ≤ o_z → o_z ≤ 16 → o_z ≠ t → o_z ≠ t + 1 → ¬ (o_z = 1 ∧ k_z = 12) → M2 o_z k_z = M o_z k_z) (hf_z : ∀ j_z, j_z ≠ 5 → ¬ (84 + 125 * u_z ≤ j_z ∧ j_z < 209 + 125 * u_z) → f2_z j_z = f_z j_z) (h5_z : M2 1 12 = f2_z 5) (hc_z : Zct M2 t u_z f2_z) : Zrv 1 f2_z M2 := by
  obtain ⟨⟨h1_z, h2_z, h3_z, h4_z, h5', h6_z, h7_z, h8_z⟩, hr_z, ht_z, hw_z, hc0, hc1⟩ := h_z
  have sc : ∀ k_z j_z, k_z ≠ 12 → k_z < 17 → j_z < 8 → j_z ≠ 5 → M 1 k_z = f_z j_z → M2 1 k_z = f2_z j_z := fun k_z j_z a_z b_z c_z d_z e_z => by
    rw [hs_z 1 k_z rfl (by decide) (by decide) (by omega) (by omega) (fun q_z => a_z q_z.2), hf_z j_z d_z (by omega)]
    exact e_z
  have cell : ∀ o_z k_z j_z, scr o_z k_z = false → 2 ≤ o_z → o_z ≤ 8 → (j_z < 84 ∨ 334 ≤ j_z) → 9 ≤ j_z → M o_z k_z = f_z j_z → M2 o_z k_z = f2_z j_z := fun o_z k_z j_z z_z a_z b_z c_z d_z e_z => by
    rw [hs_z o_z k_z z_z (by omega) (by omega) (by omega) (by omega) (fun q_z => by omega), hf_z j_z (by omega) (by omega)]
    exact e_z
  refine ⟨⟨sc 5 7 (by decide) (by decide) (by decide) (by decide) h1_z, sc 6 0 (by decide) (by decide) (by decide) (by decide) h2_z, sc 7 1 (by decide) (by decide) (by decide) (by decide) h3_z, sc 8 2 (by decide) (by decide) (by decide) (by decide) h4_z, sc 9 3 (by decide) (by decide) (by decide) (by decide) h5', sc 10 4 (by decide) (by decide) (by decide) (by decide) h6_z, h5_z, sc 14 6 (by decide) (by decide) (by decide) (by decide) h8_z⟩, fun i_z hi_z => ⟨?_, ?_, ?_, ?_, ?_⟩, fun i_z hi_z => ?_, fun i_z hi_z => ?_, ?_, ?_⟩
  · exact cell 2 i_z _ rfl (by decide) (by decide) (by omega) (by omega) (hr_z i_z hi_z).1
  · exact cell 3 i_z _ rfl (by decide) (by decide) (by omega) (by omega) (hr_z i_z hi_z).2.1
  · exact cell 4 i_z _ rfl (by decide) (by decide) (by omega) (by omega) (hr_z i_z hi_z).2.2.1
  · exact cell 5 i_z _ rfl (by decide) (by decide) (by omega) (by omega) (hr_z i_z hi_z).2.2.2.1
  · exact cell 6 i_z _ rfl (by decide) (by decide) (by omega) (by omega) (hr_z i_z hi_z).2.2.2.2
  · show M2 7 i_z = _
    rw [hs_z 7 i_z rfl (by decide) (by decide) (by omega) (by omega) (fun q_z => by omega), hf_z _ (by omega) (by omega)]
    exact ht_z i_z hi_z
  · exact cell 8 i_z _ rfl (by decide) (by decide) (by omega) (by omega) (hw_z i_z hi_z)
  · rcases hu_z with ⟨rfl, rfl⟩ | ⟨rfl, rfl⟩
    · exact hc_z
    · exact Zct_kp hc0 (hs_z 11 0 rfl (by decide) (by decide) (by decide) (by decide) (by decide)) (hs_z 11 2 rfl (by decide) (by decide) (by decide) (by decide) (by decide)) (fun i_z => hs_z 12 i_z rfl (by decide) (by decide) (by decide) (by decide) (fun q_z => by omega)) (fun j_z a_z b_z => hf_z j_z (by omega) (by omega))
  · rcases hu_z with ⟨rfl, rfl⟩ | ⟨rfl, rfl⟩
    · exact Zct_kp hc1 (hs_z 14 0 rfl (by decide) (by decide) (by decide) (by decide) (by decide)) (hs_z 14 2 rfl (by decide) (by decide) (by decide) (by decide) (by decide)) (fun i_z => hs_z 15 i_z rfl (by decide) (by decide) (by decide) (by decide) (fun q_z => by omega)) (fun j_z a_z b_z => hf_z j_z (by omega) (by omega))
    · exact hc_z
theorem Zrv_ext {f_z f2_z : Nat → Int32} {M : Zmem} {b_z : Nat} (h_z : Zrv b_z f_z M) (hf_z : ∀ j_z, j_z < 418 → f2_z j_z = f_z j_z) : Zrv b_z f2_z M := by
  obtain ⟨⟨h1_z, h2_z, h3_z, h4_z, h5_z, h6_z, h7_z, h8_z⟩, hr_z, ht_z, hw_z, hc0, hc1⟩ := h_z
  refine ⟨⟨?_, ?_, ?_, ?_, ?_, ?_, ?_, ?_⟩, fun i_z hi_z => ⟨?_, ?_, ?_, ?_, ?_⟩, fun i_z hi_z => ?_, fun i_z hi_z => ?_, Zct_kp hc0 rfl rfl (fun _ => rfl) (fun j_z a_z b_z => hf_z j_z (by omega)), Zct_kp hc1 rfl rfl (fun _ => rfl) (fun j_z a_z b_z => hf_z j_z (by omega))⟩
  · rw [hf_z _ (by omega)]; exact h1_z
  · rw [hf_z _ (by omega)]; exact h2_z
  · rw [hf_z _ (by omega)]; exact h3_z
  · rw [hf_z _ (by omega)]; exact h4_z
  · rw [hf_z _ (by omega)]; exact h5_z
  · rw [hf_z _ (by omega)]; exact h6_z
  · rw [hf_z _ (by omega)]; exact h7_z
  · rw [hf_z _ (by omega)]; exact h8_z
  · rw [hf_z _ (by omega)]; exact (hr_z i_z hi_z).1
  · rw [hf_z _ (by omega)]; exact (hr_z i_z hi_z).2.1
  · rw [hf_z _ (by omega)]; exact (hr_z i_z hi_z).2.2.1
  · rw [hf_z _ (by omega)]; exact (hr_z i_z hi_z).2.2.2.1
  · rw [hf_z _ (by omega)]; exact (hr_z i_z hi_z).2.2.2.2
  · rw [hf_z _ (by omega)]; exact ht_z i_z hi_z
  · rw [hf_z _ (by omega)]; exact hw_z i_z hi_z
theorem Zfi_ext {f_z f2_z : Nat → Int32} (h_z : Zfi f_z) (hf_z : ∀ j_z, j_z < 418 → f2_z j_z = f_z j_z) : Zfi f2_z := ⟨Zfr_kp h_z.1 (fun j_z a_z b_z => hf_z j_z (by omega)), Zfsc_kp h_z.2.1 (fun j_z a_z => hf_z j_z (by omega)), Zfb_kp h_z.2.2.1 (fun j_z a_z b_z => hf_z j_z (by omega)), Ztx_kp h_z.2.2.2.1 (fun j_z a_z b_z => hf_z j_z (by omega)), Ztx_kp h_z.2.2.2.2 (fun j_z a_z b_z => hf_z j_z (by omega))⟩
theorem Zhl_id {v_z lo hi_z : Int32} (h1_z : lo ≤ v_z) (h2_z : v_z ≤ hi_z) : Zhl v_z lo hi_z = v_z := by
  unfold Zhl
  rw [if_neg (Int32.not_lt.mpr h1_z), if_neg (Int32.not_lt.mpr h2_z)]
/-- a_z text takes what another row_z holds -/
def Ztk (t src s_z : Nat) (M : Zmem) : Zmem := Zu (Zcpy (Zu M t 2 (nI s_z)) src (t + 1) s_z) t 0 (nI 1)
theorem Ztk_i {t src s_z i_z : Nat} {M : Zmem} (h_z : src ≠ t) (hi_z : i_z < s_z) : Ztk t src s_z M (t + 1) i_z = M src i_z := by
  unfold Ztk
  rw [Zu_o (by omega)]
  unfold Zcpy
  rw [if_pos rfl, pk_cpy_in (Nat.zero_le _) (by omega), Nat.zero_add, Nat.sub_zero, Zu_o (by omega)]
theorem Ztk_o {t src s_z o_z k_z : Nat} {M : Zmem} (h1_z : o_z ≠ t + 1) (h2_z : ¬ (o_z = t ∧ (k_z = 0 ∨ k_z = 2))) : Ztk t src s_z M o_z k_z = M o_z k_z := by
  unfold Ztk
  rw [Zu_o (by omega)]
  unfold Zcpy
  rw [if_neg h1_z, Zu_o (by omega)]
theorem Ztk_0 {t src s_z : Nat} {M : Zmem} : Ztk t src s_z M t 0 = nI 1 := by unfold Ztk; rw [Zu_s]
theorem Ztk_2 {t src s_z : Nat} {M : Zmem} : Ztk t src s_z M t 2 = nI s_z := by
  unfold Ztk
  rw [Zu_o (by omega)]
  unfold Zcpy
  rw [if_neg (by omega), Zu_s]
