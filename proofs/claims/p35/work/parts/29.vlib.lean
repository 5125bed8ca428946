-- voices, purely: by kind (from), of a_z row_z of kind kd_z, number k_z, m_z
def Vr (k_z : Int32) (fr : Nat) (x_z : Int32) : Int32 := match fr with
  | 1 => x_z + k_z - nI 4
  | 4 => (x_z + k_z - nI 4) * nI 3
  | 6 => nI 9
  | _ => x_z + k_z
def Vt (kd_z : Nat) (k_z m_z : Int32) (fr : Nat) (x_z : Int32) : Int32 := match fr with
  | 2 => nI 0 - Vr k_z kd_z x_z * nI 2
  | 5 => nI 0 - Vr k_z kd_z (x_z + nI 1) * nI 2
  | 6 => Vr k_z kd_z x_z * nI 2 + m_z
  | _ => Vr k_z kd_z x_z * nI 2
def Vp (kd_z : Nat) (k_z m_z : Int32) (fr : Nat) (x_z : Int32) : Int32 := match fr with
  | 3 => Vt kd_z k_z m_z kd_z (x_z / nI 2) - m_z
  | 4 => (Vt kd_z k_z m_z kd_z x_z - m_z) ^^^ k_z
  | _ => Vt kd_z k_z m_z kd_z x_z - m_z
def Vd (kd_z : Nat) (k_z m_z : Int32) (fr : Nat) (x_z : Int32) : Int32 := match fr with
  | 1 => x_z / (m_z - k_z) + Vt kd_z k_z m_z kd_z (nI 1)
  | 4 => x_z / (m_z - k_z) + Vt kd_z k_z m_z kd_z (nI 1)
  | _ => x_z / (m_z - k_z)
def Vo (kd_z : Nat) (k_z m_z : Int32) (v_z : Nat) (x_z : Int32) : Int32 := match v_z with
  | 0 => Vr k_z kd_z x_z
  | 1 => Vt kd_z k_z m_z kd_z x_z
  | 2 => Vp kd_z k_z m_z kd_z x_z
  | _ => Vd kd_z k_z m_z kd_z x_z
noncomputable def Fvoice (f_z : Nat → Int32) (n_z : Nat) (row_z v_z x_z : Int32) : Int32 := haveI : Decidable (vp_in row_z n_z) := Classical.propDecidable _; if vp_in row_z n_z ∧ nI 0 ≤ v_z ∧ v_z ≤ nI 3 then (if v_z = nI 3 ∧ f_z (10 + 5 * row_z.toNatClampNeg) - row_z = 0 then Er 6 else Vo (f_z (9 + 5 * row_z.toNatClampNeg)).toNatClampNeg row_z (f_z (10 + 5 * row_z.toNatClampNeg)) v_z.toNatClampNeg x_z) else Er 1
/-- the numbers of bodies -/
def Zbd (j_z : Nat) : Int32 := ([10, 11, 12, 13, 20, 0, 0, 21, 0, 30, 0, 0, 0, 0, 40, 0, 50, 0, 51, 0, 0, 60, 0, 0, 70, 71, 0, 0] : List Int32).getD j_z 0
def Zbl (v_z : Nat) : List Int32 → Int32
  | [] => 0
  | a_z :: L => if Zbd (4 * a_z.toNatClampNeg + v_z) = 0 then Zbl v_z L else Zbd (4 * a_z.toNatClampNeg + v_z)
def Zvo (kd_z : Nat) (k_z m_z : Int32) (M : Zmem) : Prop := M 40 6 = nI kd_z ∧ M 40 7 = k_z ∧ M 40 8 = m_z ∧ ∃ b_z, b_z ≤ 30 ∧ M 40 4 = nI b_z
def Zso (kd_z r_z m_z : Nat) (M : Zmem) : Prop := r_z < 15 ∧ M 53 21 = nI r_z ∧ M 54 (9 + 5 * r_z) = nI kd_z ∧ M 54 (10 + 5 * r_z) = nI m_z ∧ ∃ b_z, b_z ≤ 30 ∧ M 53 19 = nI b_z
/-- nothing is kept but how many bodies are traced -/
def Zhv (M M' : Zmem) : Prop := ∀ o_z k_z, scr o_z k_z = false → ¬ (o_z = 40 ∧ k_z = 1) → M' o_z k_z = M o_z k_z
def Zhw (M M' : Zmem) : Prop := ∀ o_z k_z, scr o_z k_z = false → ¬ (o_z = 53 ∧ k_z = 19) → M' o_z k_z = M o_z k_z
theorem Zhw.rf (M : Zmem) : Zhw M M := fun _ _ _ _ => rfl
theorem Zhw.tr {M M' M'' : Zmem} (h_z : Zhw M M') (h2_z : Zhw M' M'') : Zhw M M'' := fun o_z k_z q_z q2_z => (h2_z o_z k_z q_z q2_z).trans (h_z o_z k_z q_z q2_z)
theorem Sc.hv {M M' : Zmem} (h_z : Sc M M') : Zhv M M' := fun o_z k_z q_z _ => h_z o_z k_z q_z
theorem Sc.hw {M M' : Zmem} (h_z : Sc M M') : Zhw M M' := fun o_z k_z q_z _ => h_z o_z k_z q_z
theorem Zhw.u {M M' : Zmem} {o_z k_z : Nat} (h_z : Zhw M M') (v_z : Int32) (hs_z : scr o_z k_z = true ∨ (o_z = 53 ∧ k_z = 19)) : Zhw M (Zu M' o_z k_z v_z) := by
  intro a_z j_z hq_z hq2
  rw [Zu_k, if_neg]
  · exact h_z a_z j_z hq_z hq2
  · rintro ⟨rfl, rfl⟩
    rcases hs_z with hs_z | hs_z
    · rw [hs_z] at hq_z; cases hq_z
    · exact hq2 hs_z
theorem Zhw.f54 {M M' : Zmem} (h_z : Zhw M M') (j_z : Nat) : M' 54 j_z = M 54 j_z := h_z 54 j_z rfl (fun q_z => absurd q_z.1 (by decide))
def Zvq (kd_z : Nat) (k_z m_z v_z : Int32) (M : Zmem) (r_z : Option Value) (M' : Zmem) : Prop := r_z = some (.int v_z) ∧ Sc M M' ∧ Zvo kd_z k_z m_z M' ∧ M' 40 5 = M 40 5
def Zvq3 (kd_z : Nat) (k_z m_z v_z : Int32) (M : Zmem) (r_z : Option Value) (M' : Zmem) : Prop := Sc M M' ∧ Zvo kd_z k_z m_z M' ∧ ((m_z - k_z = 0 ∧ M' 40 5 = nI 1 ∧ ∃ y_z : Int32, r_z = some (.int y_z)) ∨ (¬ m_z - k_z = 0 ∧ M' 40 5 = M 40 5 ∧ r_z = some (.int v_z)))
def Zwq (kd_z row_z m_z : Nat) (v_z : Int32) (M : Zmem) (r_z : Option Value) (M' : Zmem) : Prop := r_z = some (.int v_z) ∧ Zhw M M' ∧ Zso kd_z row_z m_z M' ∧ M' 53 22 = M 53 22
def Zwq3 (kd_z row_z m_z : Nat) (v_z : Int32) (M : Zmem) (r_z : Option Value) (M' : Zmem) : Prop := Zhw M M' ∧ Zso kd_z row_z m_z M' ∧ ((nI m_z - nI row_z = 0 ∧ M' 53 22 = nI 1 ∧ ∃ y_z : Int32, r_z = some (.int y_z)) ∨ (¬ nI m_z - nI row_z = 0 ∧ M' 53 22 = nI 0 ∧ r_z = some (.int v_z)))
theorem Zab_of {kd_z : Nat} (h_z : kd_z ≤ 6) {y_z : Int32} (hy : (∃ k_z, k_z ≤ 6 ∧ nI kd_z = nI k_z ∧ y_z = Zabv k_z) ∨ (¬ (nI 0 ≤ nI kd_z ∧ nI kd_z ≤ nI 6) ∧ y_z = -(nI 1))) : y_z = Zabv kd_z := by
  rcases hy with ⟨k_z, h1_z, h2_z, h3_z⟩ | ⟨h1_z, -⟩
  · obtain rfl : kd_z = k_z := Zeq (by omega) (by omega) h2_z
    exact h3_z
  · exact absurd (Zbt_of (by decide) h_z) h1_z
theorem Zseven {kd_z : Nat} (h_z : kd_z ≤ 6) : kd_z = 0 ∨ kd_z = 1 ∨ kd_z = 2 ∨ kd_z = 3 ∨ kd_z = 4 ∨ kd_z = 5 ∨ kd_z = 6 := by omega
