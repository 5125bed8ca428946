-- what is: rows, the course, water
noncomputable def Frow (f_z : Nat → Int32) (n_z : Nat) (row_z what : Int32) : Int32 := haveI : Decidable (vp_in row_z n_z) := Classical.propDecidable _; if vp_in row_z n_z ∧ nI 0 ≤ what ∧ what ≤ nI 7 then (if what.toNatClampNeg < 5 then f_z (9 + 5 * row_z.toNatClampNeg + what.toNatClampNeg) else if what.toNatClampNeg = 5 then Zyo f_z row_z.toNatClampNeg else if what.toNatClampNeg = 6 then Zhb f_z row_z.toNatClampNeg (nI 0) else Zbend (f_z (9 + 5 * row_z.toNatClampNeg)).toNatClampNeg (f_z (10 + 5 * row_z.toNatClampNeg)).toNatClampNeg) else Er 1
/-- a_z kind and those that it stands under -/
def Zchn (kd_z : Nat) : List Int32 := ([[nI 0], [nI 1, nI 0], [nI 2, nI 0], [nI 3, nI 0], [nI 4, nI 1, nI 0], [nI 5, nI 2, nI 0], [nI 6, nI 0]] : List (List Int32)).getD kd_z []
def Zcv : List Int32 → Prop
  | [] => False
  | [a_z] => (∃ kd_z, kd_z ≤ 6 ∧ a_z = nI kd_z) ∧ a_z = nI 0
  | a_z :: b_z :: L => (∃ kd_z, kd_z ≤ 6 ∧ a_z = nI kd_z ∧ Zabv kd_z = b_z ∧ kd_z ≠ 0) ∧ (if a_z = nI 4 then nI 1 else if a_z = nI 5 then nI 2 else nI 0) = b_z ∧ Zcv (b_z :: L)
theorem Zcv_ok : ∀ {kd_z : Nat}, kd_z ≤ 6 → ∃ L, Zchn kd_z = nI kd_z :: L ∧ L.length ≤ 2 ∧ Zcv (nI kd_z :: L) := by
  intro kd_z h_z
  rcases (show kd_z = 0 ∨ kd_z = 1 ∨ kd_z = 2 ∨ kd_z = 3 ∨ kd_z = 4 ∨ kd_z = 5 ∨ kd_z = 6 by omega) with rfl | rfl | rfl | rfl | rfl | rfl | rfl
  · exact ⟨[], rfl, by decide, ⟨⟨0, by decide, rfl⟩, rfl⟩⟩
  · exact ⟨[nI 0], rfl, by decide, ⟨⟨1, by decide, rfl, rfl, by decide⟩, by decide, ⟨⟨0, by decide, rfl⟩, rfl⟩⟩⟩
  · exact ⟨[nI 0], rfl, by decide, ⟨⟨2, by decide, rfl, rfl, by decide⟩, by decide, ⟨⟨0, by decide, rfl⟩, rfl⟩⟩⟩
  · exact ⟨[nI 0], rfl, by decide, ⟨⟨3, by decide, rfl, rfl, by decide⟩, by decide, ⟨⟨0, by decide, rfl⟩, rfl⟩⟩⟩
  · exact ⟨[nI 1, nI 0], rfl, by decide, ⟨⟨4, by decide, rfl, rfl, by decide⟩, by decide, ⟨⟨1, by decide, rfl, rfl, by decide⟩, by decide, ⟨⟨0, by decide, rfl⟩, rfl⟩⟩⟩⟩
  · exact ⟨[nI 2, nI 0], rfl, by decide, ⟨⟨5, by decide, rfl, rfl, by decide⟩, by decide, ⟨⟨2, by decide, rfl, rfl, by decide⟩, by decide, ⟨⟨0, by decide, rfl⟩, rfl⟩⟩⟩⟩
  · exact ⟨[nI 0], rfl, by decide, ⟨⟨6, by decide, rfl, rfl, by decide⟩, by decide, ⟨⟨0, by decide, rfl⟩, rfl⟩⟩⟩
noncomputable def Fas (f_z : Nat → Int32) (n_z : Nat) (row_z kind : Int32) : Int32 := haveI : Decidable (vp_in row_z n_z) := Classical.propDecidable _; if vp_in row_z n_z ∧ nI 0 ≤ kind ∧ kind ≤ nI 6 then (if kind ∈ Zchn (f_z (9 + 5 * row_z.toNatClampNeg)).toNatClampNeg then f_z (10 + 5 * row_z.toNatClampNeg) else Er 5) else Er 1
/-- the bends of a_z row_z by 2 more; the way behind them -/
def Zbn (kd_z m_z : Nat) : Nat := (Zbend kd_z m_z + nI 2).toNatClampNeg
theorem Zbn_ok {kd_z m_z : Nat} (hk_z : kd_z ≤ 6) (hm_z : m_z ≤ 9) : Zbend kd_z m_z = nI (Zbn kd_z m_z) - nI 2 ∧ Zbn kd_z m_z < 5 := by
  have key : ∀ kd_z, kd_z < 7 → ∀ m_z, m_z < 10 → Zbend kd_z m_z = nI (Zbn kd_z m_z) - nI 2 ∧ Zbn kd_z m_z < 5 := by decide +kernel
  exact key kd_z (by omega) m_z (by omega)
def Zgn (w_z b_z : Nat) : Nat := (w_z + b_z + 6) % 4
theorem Zgn_lt (w_z b_z : Nat) : Zgn w_z b_z < 4 := Nat.mod_lt _ (by decide)
theorem Zgn_k {w_z b_z : Nat} (hw_z : w_z < 4) (hb_z : b_z < 5) : (if ((nI w_z + (nI b_z - nI 2)) ^^^ nI 4) < 0 ∧ ¬ ((nI w_z + (nI b_z - nI 2)) - (nI w_z + (nI b_z - nI 2)) / nI 4 * nI 4) = 0 then (nI w_z + (nI b_z - nI 2)) - (nI w_z + (nI b_z - nI 2)) / nI 4 * nI 4 + nI 4 else (nI w_z + (nI b_z - nI 2)) - (nI w_z + (nI b_z - nI 2)) / nI 4 * nI 4) = nI (Zgn w_z b_z) := by
  have key : ∀ w_z, w_z < 4 → ∀ b_z, b_z < 5 → (if ((nI w_z + (nI b_z - nI 2)) ^^^ nI 4) < 0 ∧ ¬ ((nI w_z + (nI b_z - nI 2)) - (nI w_z + (nI b_z - nI 2)) / nI 4 * nI 4) = 0 then (nI w_z + (nI b_z - nI 2)) - (nI w_z + (nI b_z - nI 2)) / nI 4 * nI 4 + nI 4 else (nI w_z + (nI b_z - nI 2)) - (nI w_z + (nI b_z - nI 2)) / nI 4 * nI 4) = nI (Zgn w_z b_z) := by decide +kernel
  exact key w_z hw_z b_z hb_z
theorem Zgn_s {w_z b_z : Nat} (hw_z : w_z < 4) (hb_z : b_z < 5) : (nI w_z + (nI b_z - nI 2) + nI 8) - (nI w_z + (nI b_z - nI 2) + nI 8) / nI 4 * nI 4 = nI (Zgn w_z b_z) := by
  have key : ∀ w_z, w_z < 4 → ∀ b_z, b_z < 5 → (nI w_z + (nI b_z - nI 2) + nI 8) - (nI w_z + (nI b_z - nI 2) + nI 8) / nI 4 * nI 4 = nI (Zgn w_z b_z) := by decide +kernel
  exact key w_z hw_z b_z hb_z
def Zam (w_z : Nat) : Int32 := if w_z = 1 then nI 1 else if w_z = 3 then -(nI 1) else nI 0
def Zdm (w_z : Nat) : Int32 := if w_z = 2 then nI 1 else if w_z = 0 then -(nI 1) else nI 0
/-- way, across, down behind so many rows -/
def Zgw (f_z : Nat → Int32) : Nat → Nat
  | 0 => (f_z 1).toNatClampNeg
  | i_z + 1 => Zgn (Zgw f_z i_z) (Zbn (f_z (9 + 5 * i_z)).toNatClampNeg (f_z (10 + 5 * i_z)).toNatClampNeg)
def Zax (f_z : Nat → Int32) : Nat → Int32
  | 0 => nI 0
  | i_z + 1 => Zax f_z i_z + Zam (Zgw f_z (i_z + 1))
def Zdx (f_z : Nat → Int32) : Nat → Int32
  | 0 => nI 0
  | i_z + 1 => Zdx f_z i_z + Zdm (Zgw f_z (i_z + 1))
theorem Zgw_lt {f_z : Nat → Int32} (h_z : Zfi f_z) : ∀ i_z, Zgw f_z i_z < 4 := by
  intro i_z
  cases i_z with
  | zero =>
    obtain ⟨a_z, h1_z, h2_z⟩ := h_z.wyq
    rw [Zgw, h2_z, Zcl_n (by omega)]
    exact h1_z
  | succ i_z => exact Zgn_lt _ _
theorem Zam_b (w_z : Nat) : -1 ≤ (Zam w_z).toInt ∧ (Zam w_z).toInt ≤ 1 := by
  unfold Zam
  split
  · decide
  · split <;> decide
theorem Zdm_b (w_z : Nat) : -1 ≤ (Zdm w_z).toInt ∧ (Zdm w_z).toInt ≤ 1 := by
  unfold Zdm
  split
  · decide
  · split <;> decide
theorem Zax_b (f_z : Nat → Int32) : ∀ i_z : Nat, i_z ≤ 1000 → -(i_z : Int) ≤ (Zax f_z i_z).toInt ∧ (Zax f_z i_z).toInt ≤ i_z := by
  intro i_z
  induction i_z with
  | zero => intro _; rw [Zax, Zn_i (by decide)]; omega
  | succ i_z ih_z =>
    intro hi_z
    have h1_z := ih_z (by omega)
    have h2_z := Zam_b (Zgw f_z (i_z + 1))
    rw [Zax, Zadd_i (by omega) (by omega)]
    omega
theorem Zdx_b (f_z : Nat → Int32) : ∀ i_z : Nat, i_z ≤ 1000 → -(i_z : Int) ≤ (Zdx f_z i_z).toInt ∧ (Zdx f_z i_z).toInt ≤ i_z := by
  intro i_z
  induction i_z with
  | zero => intro _; rw [Zdx, Zn_i (by decide)]; omega
  | succ i_z ih_z =>
    intro hi_z
    have h1_z := ih_z (by omega)
    have h2_z := Zdm_b (Zgw f_z (i_z + 1))
    rw [Zdx, Zadd_i (by omega) (by omega)]
    omega
def Fcourse (f_z : Nat → Int32) (n_z : Nat) (row_z what : Int32) : Int32 := if (nI 0 ≤ row_z ∧ row_z ≤ nI n_z) ∧ nI 0 ≤ what ∧ what ≤ nI 1 then (if what = 0 then Zax f_z row_z.toNatClampNeg else Zdx f_z row_z.toNatClampNeg) else Er 1
def Fflow (f_z : Nat → Int32) (n_z : Nat) (much row_z what : Int32) : Int32 := if (nI 0 ≤ much ∧ much ≤ nI 999) ∧ (nI 0 ≤ row_z ∧ row_z ≤ nI n_z) ∧ nI 0 ≤ what ∧ what ≤ nI 1 then (if what = 0 then Zcm f_z much (nI 0) row_z.toNatClampNeg else nI (Zfn f_z much (nI 0) n_z)) else Er 1
/-- whether a_z place was there ahead; how many are -/
def Zwa (f_z : Nat → Int32) (r_z : Nat) : Nat → Prop
  | 0 => False
  | o_z + 1 => Zwa f_z r_z o_z ∨ (Zax f_z o_z = Zax f_z r_z ∧ Zdx f_z o_z = Zdx f_z r_z)
noncomputable def Zcc (f_z : Nat → Int32) : Nat → Nat
  | 0 => 0
  | r_z + 1 => Zcc f_z r_z + (haveI : Decidable (Zwa f_z (r_z + 1) (r_z + 1)) := Classical.propDecidable _; if Zwa f_z (r_z + 1) (r_z + 1) then 1 else 0)
theorem Zcc_y {f_z : Nat → Int32} {r_z : Nat} (h_z : Zwa f_z (r_z + 1) (r_z + 1)) : Zcc f_z (r_z + 1) = Zcc f_z r_z + 1 := by rw [Zcc, if_pos h_z]
theorem Zcc_n {f_z : Nat → Int32} {r_z : Nat} (h_z : ¬ Zwa f_z (r_z + 1) (r_z + 1)) : Zcc f_z (r_z + 1) = Zcc f_z r_z := by rw [Zcc, if_neg h_z]; rfl
theorem Zcc_le (f_z : Nat → Int32) : ∀ r_z, Zcc f_z r_z ≤ r_z := by
  intro r_z
  induction r_z with
  | zero => exact Nat.le_refl _
  | succ r_z ih_z =>
    rcases Classical.em (Zwa f_z (r_z + 1) (r_z + 1)) with h_z | h_z
    · rw [Zcc_y h_z]; omega
    · rw [Zcc_n h_z]; omega
/-- some answer, nothing kept -/
def Zq (M : Zmem) (r_z : Option Value) (M' : Zmem) : Prop := (∃ v_z : Int32, r_z = some (.int v_z)) ∧ Sc M M'
theorem Zq_e {M M' : Zmem} {v_z : Int32} (h_z : Sc M M') : Zq M (some (.int v_z)) M' := ⟨⟨v_z, rfl⟩, h_z⟩
