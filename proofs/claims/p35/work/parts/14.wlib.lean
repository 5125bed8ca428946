-- water let down, seasons, draws, purely
theorem fa_or (a_z b_z : Nat) : nI a_z ||| nI b_z = nI (a_z ||| b_z) := by
  apply Int32.toBitVec_inj.1
  show BitVec.ofNat 32 a_z ||| BitVec.ofNat 32 b_z = BitVec.ofNat 32 (a_z ||| b_z)
  apply BitVec.eq_of_getLsbD_eq
  intro i_z hi_z
  simp [hi_z]
def Zcm (f_z : Nat → Int32) (much more : Int32) : Nat → Int32
  | 0 => much
  | i_z + 1 => if Zhb f_z i_z more < Zcm f_z much more i_z then Zhb f_z i_z more else Zcm f_z much more i_z
def Zfn (f_z : Nat → Int32) (much more : Int32) : Nat → Nat
  | 0 => 0
  | i_z + 1 => Zfn f_z much more i_z + (if Zhb f_z i_z more < Zcm f_z much more i_z then 2 ^ i_z else 0)
theorem Zfn_lt (f_z : Nat → Int32) (much more : Int32) : ∀ i_z, Zfn f_z much more i_z < 2 ^ i_z := by
  intro i_z
  induction i_z with
  | zero => exact Nat.zero_lt_one
  | succ i_z ih_z =>
    rw [Zfn, Nat.pow_succ]
    split <;> omega
theorem Zfn_bit (f_z : Nat → Int32) (much more : Int32) : ∀ n_z i_z, i_z < n_z → Zfn f_z much more n_z / 2 ^ i_z % 2 = if Zhb f_z i_z more < Zcm f_z much more i_z then 1 else 0 := by
  intro n_z
  induction n_z with
  | zero => intro i_z hi_z; exact absurd hi_z (Nat.not_lt_zero _)
  | succ n_z ih_z =>
    intro i_z hi_z
    have hlt := Zfn_lt f_z much more n_z
    rw [Zfn]
    by_cases e_z : i_z = n_z
    · subst e_z
      split
      · rw [Nat.add_div_right _ (Nat.two_pow_pos i_z), Nat.div_eq_of_lt hlt]
      · rw [Nat.add_zero, Nat.div_eq_of_lt hlt]
    · have hin : i_z < n_z := by omega
      have h2_z : 2 ^ n_z = 2 ^ i_z * (2 * 2 ^ (n_z - i_z - 1)) := by
        rw [← Nat.pow_succ', ← Nat.pow_add]
        congr 1
        omega
      rw [← ih_z i_z hin]
      split
      · rw [h2_z, Nat.add_mul_div_left _ _ (Nat.two_pow_pos i_z), Nat.add_mul_mod_self_left]
      · rw [Nat.add_zero]
theorem Z2p {i_z : Nat} (hi_z : i_z ≤ 15) : 2 ^ i_z ≤ 32768 := by
  have : 2 ^ i_z ≤ 2 ^ 15 := Nat.pow_le_pow_right (by decide) hi_z
  omega
theorem Zor_bit {F i_z : Nat} (h_z : F < 2 ^ i_z) (hi_z : i_z < 15) : nI F ||| (nI 1 <<< (nI i_z &&& 31)) = nI (F + 2 ^ i_z) := by
  have key : ∀ i_z, i_z < 15 → nI 1 <<< (nI i_z &&& 31) = nI (2 ^ i_z) := by decide +kernel
  rw [key i_z hi_z, fa_or, Nat.or_comm]
  have := Nat.two_pow_add_eq_or_of_lt h_z 1
  rw [Nat.mul_one] at this
  rw [← this, Nat.add_comm]
theorem Zor_0 (x_z : Int32) : x_z ||| nI 0 = x_z := by
  have : nI 0 = (0 : Int32) := rfl
  rw [this]
  exact Int32.or_zero
theorem Zbt_k {F i_z : Nat} (h_z : F < 2 ^ 15) (hi_z : i_z < 15) : ((nI F).toUInt32 >>> ((nI i_z).toUInt32 &&& Int32.toUInt32 31)).toInt32 &&& nI 1 = nI (F / 2 ^ i_z % 2) := by
  have key : ∀ i_z, i_z < 15 → (((nI i_z).toUInt32 &&& Int32.toUInt32 31).toBitVec % 32).toNat = i_z := by decide +kernel
  rw [pk_ushrN (by omega) (nI i_z) i_z (key i_z hi_z), pk_andN (Nat.lt_of_le_of_lt (Nat.div_le_self _ _) (by omega)) 1 (by decide)]
theorem Zbt_s {F i_z : Nat} (h_z : F < 2 ^ 15) (hi_z : i_z < 15) : (nI F >>> (nI i_z &&& 31)) &&& nI 1 = nI (F / 2 ^ i_z % 2) := by
  have key : ∀ i_z, i_z < 15 → ((nI i_z &&& 31).toBitVec.smod 32).toNat = i_z := by decide +kernel
  rw [pk_shrN (by omega) (nI i_z &&& 31) i_z (key i_z hi_z), pk_andN (Nat.lt_of_le_of_lt (Nat.div_le_self _ _) (by omega)) 1 (by decide)]
theorem Zhb_b (f_z : Nat → Int32) (i_z : Nat) (more : Int32) : 0 ≤ (Zhb f_z i_z more).toInt ∧ (Zhb f_z i_z more).toInt ≤ 999 := Zhl_in (Zn_i (by decide)) (Zn_i (by decide)) (by decide)
theorem Zcm_b (f_z : Nat → Int32) {much : Int32} (more : Int32) (h_z : 0 ≤ much.toInt ∧ much.toInt ≤ 999) : ∀ i_z, 0 ≤ (Zcm f_z much more i_z).toInt ∧ (Zcm f_z much more i_z).toInt ≤ 999 := by
  intro i_z
  induction i_z with
  | zero => exact h_z
  | succ i_z ih_z =>
    rw [Zcm]
    split
    · exact Zhb_b f_z i_z more
    · exact ih_z
/-- the TENSION of a_z row_z behind a_z season -/
def Ztn (f_z : Nat → Int32) (much : Int32) (i_z : Nat) : Int32 := if Zhb f_z i_z (nI 0) < Zcm f_z much (nI 0) i_z then Zhl (f_z (12 + 5 * i_z) + -(nI 1)) (-(nI 9)) (nI 9) else if Zcm f_z much (nI 0) i_z = 0 then Zhl (f_z (12 + 5 * i_z) + nI 1) (-(nI 9)) (nI 9) else Zhl (f_z (12 + 5 * i_z) + nI 0) (-(nI 9)) (nI 9)
def Zsk (f_z : Nat → Int32) (much : Int32) : Nat → Nat → Int32
  | 0 => f_z
  | k_z + 1 => upd (Zsk f_z much k_z) (12 + 5 * k_z) (Ztn f_z much k_z)
def Zss (f_z : Nat → Int32) (much : Int32) (n_z : Nat) : Nat → Int32 := upd (upd (Zsk f_z much n_z) 3 (Zhl (f_z 3 + Zcm f_z much (nI 0) n_z) (nI 0) (nI 9999))) 2 (f_z 2 + nI 1)
theorem Zsk_o (f_z : Nat → Int32) (much : Int32) : ∀ (k_z j_z : Nat), (∀ i_z, i_z < k_z → j_z ≠ 12 + 5 * i_z) → Zsk f_z much k_z j_z = f_z j_z := by
  intro k_z
  induction k_z with
  | zero => intro j_z _; rfl
  | succ k_z ih_z =>
    intro j_z h_z
    rw [Zsk, pk_un (h_z k_z (by omega))]
    exact ih_z j_z (fun i_z hi_z => h_z i_z (by omega))
theorem Ztn_b (f_z : Nat → Int32) (much : Int32) (i_z : Nat) : -9 ≤ (Ztn f_z much i_z).toInt ∧ (Ztn f_z much i_z).toInt ≤ 9 := by
  unfold Ztn
  split
  · exact Zhl_in Zneg9 (Zn_i (by decide)) (by decide)
  · split
    · exact Zhl_in Zneg9 (Zn_i (by decide)) (by decide)
    · exact Zhl_in Zneg9 (Zn_i (by decide)) (by decide)
theorem Zrw_te {f_z : Nat → Int32} {i_z : Nat} {v_z : Int32} (h_z : Zrw f_z i_z) (hv_z : -9 ≤ v_z.toInt ∧ v_z.toInt ≤ 9) : Zrw (upd f_z (12 + 5 * i_z) v_z) i_z := by
  unfold Zrw at h_z ⊢
  rw [pk_un (by omega), pk_un (by omega), pk_un (by omega), pk_us, pk_un (by omega)]
  exact ⟨h_z.1, h_z.2.1, h_z.2.2.1, hv_z, h_z.2.2.2.2⟩
theorem Zrw_wi {f_z : Nat → Int32} {i_z w_z : Nat} (h_z : Zrw f_z i_z) (h1_z : 1 ≤ w_z) (h2_z : w_z ≤ 12) : Zrw (upd f_z (11 + 5 * i_z) (nI w_z)) i_z := by
  unfold Zrw at h_z ⊢
  rw [pk_un (by omega), pk_un (by omega), pk_us, pk_un (by omega), pk_un (by omega)]
  exact ⟨h_z.1, h_z.2.1, ⟨w_z, h1_z, h2_z, rfl⟩, h_z.2.2.2.1, h_z.2.2.2.2⟩
theorem Zfi_te {f_z : Nat → Int32} (h_z : Zfi f_z) {i_z : Nat} (hi_z : i_z < 15) {v_z : Int32} (hv_z : -9 ≤ v_z.toInt ∧ v_z.toInt ≤ 9) : Zfi (upd f_z (12 + 5 * i_z) v_z) := h_z.row v_z (w_z := 3) hi_z (by decide) (fun _ _ _ _ hr_z => Zrw_te hr_z hv_z)
theorem Zfi_wi {f_z : Nat → Int32} (h_z : Zfi f_z) {i_z : Nat} (hi_z : i_z < 15) {w_z : Nat} (h1_z : 1 ≤ w_z) (h2_z : w_z ≤ 12) : Zfi (upd f_z (11 + 5 * i_z) (nI w_z)) := h_z.row (nI w_z) (w_z := 2) hi_z (by decide) (fun _ _ _ _ hr_z => Zrw_wi hr_z h1_z h2_z)
theorem Zsk_fi {f_z : Nat → Int32} (much : Int32) (h_z : Zfi f_z) : ∀ k_z, k_z ≤ 15 → Zfi (Zsk f_z much k_z) := by
  intro k_z
  induction k_z with
  | zero => intro _; exact h_z
  | succ k_z ih_z => intro hk_z; exact Zfi_te (ih_z (by omega)) (by omega) (Ztn_b f_z much k_z)
theorem Zhl_ex {x_z : Int32} : ∃ a_z, a_z ≤ 9999 ∧ Zhl x_z (nI 0) (nI 9999) = nI a_z := by
  have h_z := Zhl_in (v_z := x_z) (l := nI 0) (h_z := nI 9999) (lo := 0) (hi_z := 9999) (Zn_i (by decide)) (Zn_i (by decide)) (by decide)
  obtain ⟨j_z, h1_z, h2_z, h3_z⟩ := Zof h_z.1
  exact ⟨j_z, by omega, h2_z⟩
theorem Zss_fi {f_z : Nat → Int32} (much : Int32) {n_z se : Nat} (h_z : Zfi f_z) (hn_z : n_z ≤ 15) (hse : f_z 2 = nI se) (hlt : se < 9999) : Zfi (Zss f_z much n_z) := by
  obtain ⟨a_z, h1_z, h2_z⟩ := Zhl_ex (x_z := f_z 3 + Zcm f_z much (nI 0) n_z)
  unfold Zss
  rw [h2_z, hse, nI_add]
  exact ((Zsk_fi much h_z n_z hn_z).sa h1_z).se (by omega)
/-- draws -/
def Zdz (z_z : Int32) : Int32 := z_z * nI 1103515245 + nI 12345
def Zdr (z_z : Int32) : Int32 := (z_z.toUInt32 >>> ((nI 8).toUInt32 &&& Int32.toUInt32 31)).toInt32
def Zdn (z_z : Int32) : Nat := (Zdr (Zdz z_z)).toNatClampNeg
theorem Zdn_ok (z_z : Int32) : Zdr (Zdz z_z) = nI (Zdn z_z) ∧ Zdn z_z < 16777216 := by
  unfold Zdn
  generalize Zdz z_z = y_z
  have h_z := pk_ushr y_z (nI 8) 8 (by decide)
  have hlt : (Zdr y_z).toBitVec.toNat < 16777216 := by
    show (y_z.toUInt32 >>> ((nI 8).toUInt32 &&& Int32.toUInt32 31)).toInt32.toBitVec.toNat < _
    rw [h_z]
    have := y_z.toBitVec.isLt
    omega
  have e_z : Zdr y_z = nI (Zdr y_z).toBitVec.toNat := by
    apply Int32.toBitVec_inj.1
    show (Zdr y_z).toBitVec = BitVec.ofNat 32 (Zdr y_z).toBitVec.toNat
    rw [BitVec.ofNat_toNat, BitVec.setWidth_eq]
  rw [e_z, Zcl_n (by omega)]
  exact ⟨rfl, hlt⟩
/-- what draws take from a_z row_z -/
def Zwr (f_z : Nat → Int32) (n_z : Nat) : Nat → Int32 := if n_z = 0 then f_z else upd (upd (upd f_z 4 (Zdz (f_z 4))) 4 (Zdz (Zdz (f_z 4)))) (11 + 5 * (Zdn (f_z 4) % n_z)) (Zhl (f_z (11 + 5 * (Zdn (f_z 4) % n_z)) - nI (Zdn (Zdz (f_z 4)) % 2)) (nI 1) (nI 12))
theorem Zhl_w {w_z l : Nat} (h1_z : 1 ≤ w_z) (h2_z : w_z ≤ 12) (hl_z : l < 2) : ∃ v_z, 1 ≤ v_z ∧ v_z ≤ 12 ∧ Zhl (nI w_z - nI l) (nI 1) (nI 12) = nI v_z ∧ (if nI 1 < nI w_z - nI l then nI w_z - nI l else nI 1) = nI v_z := by
  have key : ∀ w_z, w_z < 13 → 1 ≤ w_z → ∀ l, l < 2 → ∃ v_z, v_z < 13 ∧ 1 ≤ v_z ∧ Zhl (nI w_z - nI l) (nI 1) (nI 12) = nI v_z ∧ (if nI 1 < nI w_z - nI l then nI w_z - nI l else nI 1) = nI v_z := by decide +kernel
  obtain ⟨v_z, g1, g2, g3, g4⟩ := key w_z (by omega) h1_z l hl_z
  exact ⟨v_z, g2, by omega, g3, g4⟩
/-- a_z season by draws -/
def Zl1 (f_z : Nat → Int32) (n_z : Nat) : Nat → Int32 := Zwr (Zss (upd f_z 4 (Zdz (f_z 4))) (nI (Zdn (f_z 4) % 120)) n_z) n_z
def Zlf (f_z : Nat → Int32) (n_z : Nat) : Int32 := nI (Zfn (upd f_z 4 (Zdz (f_z 4))) (nI (Zdn (f_z 4) % 120)) (nI 0) n_z)
def Zll (f_z : Nat → Int32) (n_z : Nat) : Nat → (Nat → Int32)
  | 0 => f_z
  | k_z + 1 => Zl1 (Zll f_z n_z k_z) n_z
def Zlo (f_z : Nat → Int32) (n_z : Nat) : Nat → Int32
  | 0 => nI 0
  | k_z + 1 => Zlo f_z n_z k_z ||| Zlf (Zll f_z n_z k_z) n_z
theorem Zwr_fi {f_z : Nat → Int32} {n_z : Nat} (h_z : Zfi f_z) (hn_z : f_z 7 = nI n_z) (hn2 : n_z ≤ 15) : Zfi (Zwr f_z n_z) := by
  unfold Zwr
  split
  · exact h_z
  · rename_i h0_z
    have hlt : Zdn (f_z 4) % n_z < n_z := Nat.mod_lt _ (Nat.pos_of_ne_zero h0_z)
    have hr_z : Zrw f_z (Zdn (f_z 4) % n_z) := by
      obtain ⟨n', g1, g2, g3⟩ := h_z.1
      obtain rfl : n' = n_z := Zeq (by omega) (by omega) (g2.symm.trans hn_z)
      exact g3 _ hlt
    obtain ⟨-, -, ⟨w_z, h1_z, h2_z, h3_z⟩, -, -⟩ := hr_z
    obtain ⟨v_z, g1, g2, g3, -⟩ := Zhl_w h1_z h2_z (Nat.mod_lt (Zdn (Zdz (f_z 4))) (by decide : 0 < 2))
    rw [h3_z, g3]
    exact Zfi_wi ((h_z.z _).z _) (by omega) g1 g2
theorem Zss_7 (f_z : Nat → Int32) (much : Int32) (n_z : Nat) : Zss f_z much n_z 7 = f_z 7 := by
  unfold Zss
  rw [pk_un (by decide), pk_un (by decide), Zsk_o]
  intro i_z hi_z; omega
theorem Zss_2 (f_z : Nat → Int32) (much : Int32) (n_z : Nat) : Zss f_z much n_z 2 = f_z 2 + nI 1 := pk_us
theorem Zwr_o (f_z : Nat → Int32) (n_z j_z : Nat) (hj_z : j_z < 11) (h4_z : j_z ≠ 4) : Zwr f_z n_z j_z = f_z j_z := by
  unfold Zwr
  split
  · rfl
  · rw [pk_un (by omega), pk_un h4_z, pk_un h4_z]
theorem Zll_ok {f_z : Nat → Int32} {n_z se m_z : Nat} (h_z : Zfi f_z) (hn_z : f_z 7 = nI n_z) (hn2 : n_z ≤ 15) (hse : f_z 2 = nI se) (hm_z : se + m_z ≤ 9999) : ∀ k_z, k_z ≤ m_z → Zfi (Zll f_z n_z k_z) ∧ Zll f_z n_z k_z 7 = nI n_z ∧ Zll f_z n_z k_z 2 = nI (se + k_z) := by
  intro k_z
  induction k_z with
  | zero => intro _; exact ⟨h_z, hn_z, hse⟩
  | succ k_z ih_z =>
    intro hk_z
    obtain ⟨h1_z, h2_z, h3_z⟩ := ih_z (by omega)
    have e7 : (upd (Zll f_z n_z k_z) 4 (Zdz (Zll f_z n_z k_z 4))) 7 = nI n_z := h2_z
    have e2_z : (upd (Zll f_z n_z k_z) 4 (Zdz (Zll f_z n_z k_z 4))) 2 = nI (se + k_z) := h3_z
    have g1 := Zss_fi (nI (Zdn (Zll f_z n_z k_z 4) % 120)) (h1_z.z (Zdz (Zll f_z n_z k_z 4))) hn2 e2_z (by omega)
    have g7 := (Zss_7 (upd (Zll f_z n_z k_z) 4 (Zdz (Zll f_z n_z k_z 4))) (nI (Zdn (Zll f_z n_z k_z 4) % 120)) n_z).trans e7
    refine ⟨Zwr_fi g1 g7 hn2, ?_, ?_⟩
    · show Zwr _ n_z 7 = _
      rw [Zwr_o _ _ _ (by decide) (by decide)]
      exact g7
    · show Zwr _ n_z 2 = _
      rw [Zwr_o _ _ _ (by decide) (by decide), Zss_2, e2_z, nI_add]
      rfl
/-- the class's way to a_z row's TENSION -/
theorem Ztn_1 {f_z : Nat → Int32} {much t : Int32} {i_z : Nat} (ht_z : f_z (12 + 5 * i_z) = t) (hb_z : -9 ≤ t.toInt ∧ t.toInt ≤ 9) (h_z : Zhb f_z i_z (nI 0) < Zcm f_z much (nI 0) i_z) : (if -(nI 9) < t - nI 1 then t - nI 1 else -(nI 9)) = Ztn f_z much i_z := by
  unfold Ztn
  rw [if_pos h_z, ht_z]
  have e1_z : (t - nI 1).toInt = t.toInt - 1 := by rw [Zsub_i (by rw [Zn_i (by decide)]; omega) (by rw [Zn_i (by decide)]; omega), Zn_i (by decide)]; rfl
  have e2_z : t + -(nI 1) = t - nI 1 := (Int32.sub_eq_add_neg ..).symm
  rw [e2_z]
  unfold Zhl
  simp only [Zlt_i, Zneg9, e1_z, Zn_i (show 9 < 2 ^ 31 by decide)]
  split <;> split <;> (try split) <;> first | rfl | omega | (rw [Zeq_i, Zneg9, e1_z]; omega)
theorem Ztn_2 {f_z : Nat → Int32} {much t : Int32} {i_z : Nat} (ht_z : f_z (12 + 5 * i_z) = t) (hb_z : -9 ≤ t.toInt ∧ t.toInt ≤ 9) (h_z : ¬ Zhb f_z i_z (nI 0) < Zcm f_z much (nI 0) i_z) (h0_z : Zcm f_z much (nI 0) i_z = 0) : (if t + nI 1 < nI 9 then t + nI 1 else nI 9) = Ztn f_z much i_z := by
  unfold Ztn
  rw [if_neg h_z, if_pos h0_z, ht_z]
  have e1_z : (t + nI 1).toInt = t.toInt + 1 := by rw [Zadd_i (by rw [Zn_i (by decide)]; omega) (by rw [Zn_i (by decide)]; omega), Zn_i (by decide)]; rfl
  unfold Zhl
  simp only [Zlt_i, Zneg9, e1_z, Zn_i (show 9 < 2 ^ 31 by decide)]
  split <;> split <;> (try split) <;> first | rfl | omega | (rw [Zeq_i, Zn_i (by decide), e1_z]; omega)
theorem Ztn_3 {f_z : Nat → Int32} {much t : Int32} {i_z : Nat} (ht_z : f_z (12 + 5 * i_z) = t) (hb_z : -9 ≤ t.toInt ∧ t.toInt ≤ 9) (h_z : ¬ Zhb f_z i_z (nI 0) < Zcm f_z much (nI 0) i_z) (h0_z : ¬ Zcm f_z much (nI 0) i_z = 0) : t = Ztn f_z much i_z := by
  unfold Ztn
  rw [if_neg h_z, if_neg h0_z, ht_z]
  have e1_z : t + nI 0 = t := Int32.add_zero t
  rw [e1_z]
  unfold Zhl
  rw [if_neg (by rw [Zlt_i, Zneg9]; omega), if_neg (by rw [Zlt_i, Zn_i (by decide)]; omega)]
theorem Zupd_id (f_z : Nat → Int32) (j_z : Nat) : upd f_z j_z (f_z j_z) = f_z := by
  funext i_z
  by_cases e_z : i_z = j_z
  · subst e_z; exact pk_us
  · exact pk_un e_z
theorem Zsea_k {a_z c_z : Int32} (ha_z : 0 ≤ a_z.toInt ∧ a_z.toInt ≤ 9999) (hc_z : 0 ≤ c_z.toInt ∧ c_z.toInt ≤ 999) : (if a_z + c_z < nI 9999 then a_z + c_z else nI 9999) = Zhl (a_z + c_z) (nI 0) (nI 9999) := by
  have e1_z : (a_z + c_z).toInt = a_z.toInt + c_z.toInt := Zadd_i (by omega) (by omega)
  unfold Zhl
  simp only [Zlt_i, e1_z, Zn_i (show 9999 < 2 ^ 31 by decide), Zn_i (show 0 < 2 ^ 31 by decide)]
  split <;> split <;> (try split) <;> first | rfl | omega | (rw [Zeq_i, e1_z, Zn_i (by decide)]; omega)
-- reads behind writes
theorem Zu_s (M : Zmem) (o_z k_z : Nat) (v_z : Int32) : Zu M o_z k_z v_z o_z k_z = v_z := by rw [Zu_k, if_pos ⟨rfl, rfl⟩]
theorem Zu_o {M : Zmem} {o_z k_z a_z j_z : Nat} {v_z : Int32} (h_z : ¬ (a_z = o_z ∧ j_z = k_z)) : Zu M o_z k_z v_z a_z j_z = M a_z j_z := by rw [Zu_k, if_neg h_z]
-- what the acts that change the state answer, and the state then, purely (n_z: how many rows)
abbrev Zan_ : Type := Int32 × (Nat → Int32)
def Zkok (v_z : Zan_) (M : Zmem) (r_z : Option Value) (M' : Zmem) : Prop := r_z = some (.int v_z.1) ∧ Zrv 1 v_z.2 M' ∧ Zhk M M'
def Zsok (v_z : Zan_) (M : Zmem) (r_z : Option Value) (M' : Zmem) : Prop := r_z = some (.int v_z.1) ∧ M' 54 = v_z.2 ∧ Zhs M M'
theorem Zkok_e {f_z : Nat → Int32} {M M' : Zmem} {k_z : Nat} (hz_z : Zrv 1 f_z M) (hs_z : Sc M M') : Zkok (Er k_z, f_z) M (some (.int (Er k_z))) M' := ⟨rfl, hz_z.sc (Or.inl rfl) hs_z, hs_z.hk⟩
theorem Zsok_e {M M' : Zmem} {k_z : Nat} (hs_z : Sc M M') : Zsok (Er k_z, M 54) M (some (.int (Er k_z))) M' := ⟨rfl, hs_z.f54, hs_z.hs⟩
def Zkm (f_z : Nat → Int32) (km w_z t : Int32) : Int32 := Zyn f_z (Zsaid (km.toNatClampNeg / 10) (km.toNatClampNeg % 10) w_z t (f_z 2)) w_z t
def Zkn (f_z : Nat → Int32) (n_z : Nat) (km w_z t : Int32) : Nat → Int32 := upd (upd (upd (upd (upd f_z (9 + 5 * n_z) (nI (km.toNatClampNeg / 10))) (10 + 5 * n_z) (nI (km.toNatClampNeg % 10))) (11 + 5 * n_z) w_z) (12 + 5 * n_z) t) (13 + 5 * n_z) (nI 0)
def Fknit (f_z : Nat → Int32) (n_z : Nat) (km w_z t : Int32) : Zan_ := if (nI 0 ≤ km ∧ km ≤ nI 69) ∧ (nI 1 ≤ w_z ∧ w_z ≤ nI 12) ∧ (-(nI 9) ≤ t ∧ t ≤ nI 9) then (if n_z = 15 then (Er 4, f_z) else if f_z 0 < Zkm f_z km w_z t then (Er 3, f_z) else (Zkm f_z km w_z t, upd (upd (Zkn f_z n_z km w_z t) 7 (nI (n_z + 1))) 0 (f_z 0 - Zkm f_z km w_z t))) else (Er 1, f_z)
noncomputable def Fbecome (f_z : Nat → Int32) (n_z : Nat) (row_z km : Int32) : Zan_ := haveI : Decidable (vp_in row_z n_z) := Classical.propDecidable _; if vp_in row_z n_z ∧ nI 0 ≤ km ∧ km ≤ nI 69 then (f_z (9 + 5 * row_z.toNatClampNeg), upd (upd f_z (10 + 5 * row_z.toNatClampNeg) (nI (km.toNatClampNeg % 10))) (9 + 5 * row_z.toNatClampNeg) (nI (km.toNatClampNeg / 10))) else (Er 1, f_z)
noncomputable def Ftie (f_z : Nat → Int32) (n_z : Nat) (row_z is : Int32) : Zan_ := haveI : Decidable (vp_in row_z n_z) := Classical.propDecidable _; if vp_in row_z n_z ∧ nI 0 ≤ is ∧ is ≤ nI 1 then (f_z (13 + 5 * row_z.toNatClampNeg), upd f_z (13 + 5 * row_z.toNatClampNeg) is) else (Er 1, f_z)
noncomputable def Fdrop (f_z : Nat → Int32) (n_z : Nat) (row_z : Int32) : Zan_ := haveI : Decidable (vp_in row_z n_z) := Classical.propDecidable _; if vp_in row_z n_z then (if f_z (11 + 5 * row_z.toNatClampNeg) = nI 1 then (Er 3, f_z) else (f_z (11 + 5 * row_z.toNatClampNeg) - nI 1, upd f_z (11 + 5 * row_z.toNatClampNeg) (f_z (11 + 5 * row_z.toNatClampNeg) - nI 1))) else (Er 1, f_z)
noncomputable def Ftense (f_z : Nat → Int32) (n_z : Nat) (row_z t : Int32) : Zan_ := haveI : Decidable (vp_in row_z n_z) := Classical.propDecidable _; if vp_in row_z n_z ∧ -(nI 9) ≤ t ∧ t ≤ nI 9 then (f_z (12 + 5 * row_z.toNatClampNeg), upd f_z (12 + 5 * row_z.toNatClampNeg) t) else (Er 1, f_z)
def Fwind (f_z : Nat → Int32) (what v_z : Int32) : Zan_ := if what = nI 0 ∧ nI 0 ≤ v_z ∧ v_z ≤ nI 9999 then (f_z 0, upd f_z 0 v_z) else if what = nI 1 ∧ nI 0 ≤ v_z ∧ v_z ≤ nI 3 then (f_z 1, upd f_z 1 v_z) else (Er 1, f_z)
def Fseason (f_z : Nat → Int32) (n_z : Nat) (much : Int32) : Zan_ := if nI 0 ≤ much ∧ much ≤ nI 999 then (if f_z 2 = nI 9999 then (Er 3, f_z) else (nI (Zfn f_z much (nI 0) n_z), Zss f_z much n_z)) else (Er 1, f_z)
def Floose (f_z : Nat → Int32) (n_z : Nat) (m_z : Int32) : Zan_ := if nI 1 ≤ m_z ∧ m_z ≤ nI 30 then (if nI 9999 < f_z 2 + m_z then (Er 3, f_z) else (Zlo f_z n_z m_z.toNatClampNeg, Zll f_z n_z m_z.toNatClampNeg)) else (Er 1, f_z)
def Fseed (f_z : Nat → Int32) (v_z : Int32) : Zan_ := (f_z 4, upd f_z 4 v_z)
def Ftell (f_z : Nat → Int32) (v_z : Int32) : Zan_ := if f_z 6 = nI 24 then (Er 4, f_z) else (f_z 6 + nI 1, upd (upd f_z (394 + (f_z 6).toNatClampNeg) v_z) 6 (f_z 6 + nI 1))
/-- from row_z k_z on: the first number that waits that is not as wide as its row_z -/
def Zck_ (f_z : Nat → Int32) (n_z m_z : Nat) : Nat → Nat → Int32
  | 0, _ => nI 0
  | j_z + 1, k_z => if n_z ≤ k_z ∨ ¬ f_z (394 + k_z) = f_z (11 + 5 * k_z) then nI 1 + nI k_z else Zck_ f_z n_z m_z j_z (k_z + 1)
def Fcheck (f_z : Nat → Int32) (n_z : Nat) : Zan_ := (Zck_ f_z n_z (f_z 6).toNatClampNeg (f_z 6).toNatClampNeg 0, upd f_z 6 (nI 0))
theorem Zvp {x_z : Int32} {n_z : Nat} (h_z : vp_in x_z n_z) (hn_z : n_z ≤ 1000) : ∃ i_z, i_z < n_z ∧ x_z = nI i_z ∧ x_z.toNatClampNeg = i_z := by
  obtain ⟨i_z, h1_z, h2_z⟩ := Zin_ex h_z (by omega)
  exact ⟨i_z, h1_z, h2_z, by rw [h2_z, Zcl_n (by omega)]⟩
theorem Zkm_of {k_z : Nat} (h_z : k_z ≤ 69) : ∃ kd_z m_z, kd_z ≤ 6 ∧ m_z ≤ 9 ∧ k_z = 10 * kd_z + m_z ∧ k_z / 10 = kd_z ∧ k_z % 10 = m_z := ⟨k_z / 10, k_z % 10, by omega, by omega, by omega, rfl, rfl⟩
theorem Zupd_c {f_z : Nat → Int32} {i_z j_z : Nat} {v_z w_z : Int32} (h_z : i_z ≠ j_z) : upd (upd f_z i_z v_z) j_z w_z = upd (upd f_z j_z w_z) i_z v_z := by
  funext k_z
  unfold upd
  split
  · rename_i e_z
    split
    · rename_i e2_z; exact absurd (e2_z.symm.trans e_z) h_z
    · rfl
  · rfl
theorem Zkn_s {f_z : Nat → Int32} {M' : Zmem} {n_z kd_z m_z : Nat} {w_z t : Int32} (e54 : M' 54 = f_z) (hn_z : f_z 7 = nI n_z) (hn2 : n_z ≤ 15) (hk_z : 10 * kd_z + m_z ≤ 69) (ekd : (10 * kd_z + m_z) / 10 = kd_z) (em : (10 * kd_z + m_z) % 10 = m_z) {y_z : Int32} :
    (Zu (Zu (Zu (Zu (Zu (Zu (Zu M' 54 (9 + 5 * n_z + 0) (nI ((10 * kd_z + m_z) / 10))) 54 (9 + 5 * n_z + 1) (nI ((10 * kd_z + m_z) % 10))) 54 (9 + 5 * n_z + 2) w_z) 54 (9 + 5 * n_z + 3) t) 54 (9 + 5 * n_z + 4) (nI 0)) 54 7 ((Zu (Zu (Zu (Zu (Zu M' 54 (9 + 5 * n_z + 0) (nI ((10 * kd_z + m_z) / 10))) 54 (9 + 5 * n_z + 1) (nI ((10 * kd_z + m_z) % 10))) 54 (9 + 5 * n_z + 2) w_z) 54 (9 + 5 * n_z + 3) t) 54 (9 + 5 * n_z + 4) (nI 0)) 54 7 + nI 1)) 54 0 y_z) 54 = upd (upd (Zkn f_z n_z (nI (10 * kd_z + m_z)) w_z t) 7 (nI (n_z + 1))) 0 y_z := by
  have e7 : (Zu (Zu (Zu (Zu (Zu M' 54 (9 + 5 * n_z + 0) (nI ((10 * kd_z + m_z) / 10))) 54 (9 + 5 * n_z + 1) (nI ((10 * kd_z + m_z) % 10))) 54 (9 + 5 * n_z + 2) w_z) 54 (9 + 5 * n_z + 3) t) 54 (9 + 5 * n_z + 4) (nI 0)) 54 7 = nI n_z := by
    simp only [Zu_at]
    rw [pk_un (by omega), pk_un (by omega), pk_un (by omega), pk_un (by omega), pk_un (by omega), e54, hn_z]
  rw [e7, nI_add]
  simp only [Zu_at]
  rw [e54]
  unfold Zkn
  rw [Zcl_n (show 10 * kd_z + m_z < 2 ^ 31 by omega), show 9 + 5 * n_z + 0 = 9 + 5 * n_z by omega, show 9 + 5 * n_z + 1 = 10 + 5 * n_z by omega, show 9 + 5 * n_z + 2 = 11 + 5 * n_z by omega, show 9 + 5 * n_z + 3 = 12 + 5 * n_z by omega, show 9 + 5 * n_z + 4 = 13 + 5 * n_z by omega]
