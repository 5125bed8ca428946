
-- ways of stitches, by their number: the last digit (base 4) is the last stitch
def Zbo (o_z : Nat) : Nat := Zbn (Zst_ o_z / 10) (Zst_ o_z % 10)
abbrev Zwy : Type := Nat × Int32 × Int32
def Zp1 (T : Zwy) (o_z : Nat) : Zwy := (Zgn T.1 (Zbo o_z), T.2.1 + Zam (Zgn T.1 (Zbo o_z)), T.2.2 + Zdm (Zgn T.1 (Zbo o_z)))
def Zpz (T : Zwy) : Nat → Nat → Zwy
  | 0, _ => T
  | k_z + 1, P => Zp1 (Zpz T k_z (P / 4)) (P % 4)
def Zyz (y_z : Nat → Int32) : Nat → Nat → Int32
  | 0, _ => nI 0
  | k_z + 1, P => Zyz y_z k_z (P / 4) + y_z (P % 4)
def Zy4 (f_z : Nat → Int32) (o_z : Nat) : Int32 := Zyn f_z (Zsaid (Zst_ o_z / 10) (Zst_ o_z % 10) (nI 2) (nI 0) (f_z 2)) (nI 2) (nI 0)
theorem Zpz_s (T : Zwy) (k_z P : Nat) {o_z : Nat} (ho : o_z < 4) : Zpz T (k_z + 1) (4 * P + o_z) = Zp1 (Zpz T k_z P) o_z := by
  show Zp1 (Zpz T k_z ((4 * P + o_z) / 4)) ((4 * P + o_z) % 4) = _
  rw [show (4 * P + o_z) / 4 = P by omega, show (4 * P + o_z) % 4 = o_z by omega]
theorem Zyz_s (y_z : Nat → Int32) (k_z P : Nat) {o_z : Nat} (ho : o_z < 4) : Zyz y_z (k_z + 1) (4 * P + o_z) = Zyz y_z k_z P + y_z o_z := by
  show Zyz y_z k_z ((4 * P + o_z) / 4) + y_z ((4 * P + o_z) % 4) = _
  rw [show (4 * P + o_z) / 4 = P by omega, show (4 * P + o_z) % 4 = o_z by omega]
theorem Zpz_w {T : Zwy} (hT : T.1 < 4) : ∀ k_z P, (Zpz T k_z P).1 < 4 := by
  intro k_z
  induction k_z with
  | zero => intro P; exact hT
  | succ k_z ih_z => intro P; exact Zgn_lt _ _
/-- the digit i_z of a_z number of n_z digits -/
def Zdg (n_z r_z i_z : Nat) : Nat := r_z / 4 ^ (n_z - 1 - i_z) % 4
theorem Zdg_lt (n_z r_z i_z : Nat) : Zdg n_z r_z i_z < 4 := Nat.mod_lt _ (by decide)
theorem Zpre {n_z r_z i_z : Nat} (hi_z : i_z < n_z) : r_z / 4 ^ (n_z - i_z) = (r_z / 4 ^ (n_z - (i_z + 1))) / 4 ∧ Zdg n_z r_z i_z = (r_z / 4 ^ (n_z - (i_z + 1))) % 4 := by
  obtain ⟨j_z, rfl⟩ : ∃ j_z, n_z = i_z + 1 + j_z := ⟨n_z - (i_z + 1), by omega⟩
  have e1_z : i_z + 1 + j_z - i_z = j_z + 1 := by omega
  have e2_z : i_z + 1 + j_z - (i_z + 1) = j_z := by omega
  have e3_z : i_z + 1 + j_z - 1 - i_z = j_z := by omega
  unfold Zdg
  rw [e1_z, e2_z, e3_z, Nat.pow_succ, Nat.div_div_eq_div_mul]
  exact ⟨rfl, rfl⟩
theorem Zpz_i (T : Zwy) {n_z r_z i_z : Nat} (hi_z : i_z < n_z) : Zpz T (i_z + 1) (r_z / 4 ^ (n_z - (i_z + 1))) = Zp1 (Zpz T i_z (r_z / 4 ^ (n_z - i_z))) (Zdg n_z r_z i_z) := by
  obtain ⟨h1_z, h2_z⟩ := Zpre (r_z := r_z) hi_z
  rw [h1_z, h2_z]
  rfl
theorem Zyz_i (y_z : Nat → Int32) {n_z r_z i_z : Nat} (hi_z : i_z < n_z) : Zyz y_z (i_z + 1) (r_z / 4 ^ (n_z - (i_z + 1))) = Zyz y_z i_z (r_z / 4 ^ (n_z - i_z)) + y_z (Zdg n_z r_z i_z) := by
  obtain ⟨h1_z, h2_z⟩ := Zpre (r_z := r_z) hi_z
  rw [h1_z, h2_z]
  rfl
theorem Zdg_s (k_z P : Nat) {o_z i_z : Nat} (ho : o_z < 4) (hi_z : i_z < k_z) : Zdg (k_z + 1) (4 * P + o_z) i_z = Zdg k_z P i_z := by
  unfold Zdg
  obtain ⟨j_z, rfl⟩ : ∃ j_z, k_z = i_z + 1 + j_z := ⟨k_z - (i_z + 1), by omega⟩
  rw [show i_z + 1 + j_z + 1 - 1 - i_z = j_z + 1 by omega, show i_z + 1 + j_z - 1 - i_z = j_z by omega, Nat.pow_succ, Nat.mul_comm (4 ^ j_z) 4, ← Nat.div_div_eq_div_mul, show (4 * P + o_z) / 4 = P by omega]
theorem Zdg_k (k_z P : Nat) {o_z : Nat} (ho : o_z < 4) : Zdg (k_z + 1) (4 * P + o_z) k_z = o_z := by
  unfold Zdg
  rw [show k_z + 1 - 1 - k_z = 0 by omega, Nat.pow_zero, Nat.div_one]
  omega
section ZBF
variable (y_z : Nat → Int32) (T : Zwy) (N : Nat) (X Y : Int32)
/-- this row_z leads there -/
abbrev Zldr (r_z : Nat) : Prop := (Zpz T N r_z).2.1 = X ∧ (Zpz T N r_z).2.2 = Y
def Zbu (b_z : Option Nat) (r_z : Nat) : Option Nat := match b_z with
  | none => some r_z
  | some q_z => if Zyz y_z N r_z < Zyz y_z N q_z then some r_z else some q_z
def Zbq (b_z : Option Nat) (r_z : Nat) : Option Nat := if (Zpz T N r_z).2.1 = X ∧ (Zpz T N r_z).2.2 = Y then Zbu y_z N b_z r_z else b_z
def Zbf (lo : Nat) : Nat → Option Nat → Option Nat
  | 0, b_z => b_z
  | c_z + 1, b_z => Zbq y_z T N X Y (Zbf lo c_z b_z) (lo + c_z)
theorem Zbf_add (lo c1_z : Nat) (b_z : Option Nat) : ∀ c2, Zbf y_z T N X Y lo (c1_z + c2) b_z = Zbf y_z T N X Y (lo + c1_z) c2 (Zbf y_z T N X Y lo c1_z b_z) := by
  intro c2
  induction c2 with
  | zero => rfl
  | succ c2 ih_z =>
    show Zbq y_z T N X Y (Zbf y_z T N X Y lo (c1_z + c2) b_z) (lo + (c1_z + c2)) = Zbq y_z T N X Y (Zbf y_z T N X Y (lo + c1_z) c2 (Zbf y_z T N X Y lo c1_z b_z)) (lo + c1_z + c2)
    rw [ih_z, Nat.add_assoc]
theorem Zbf_none (lo : Nat) : ∀ c_z, (∀ r_z, lo ≤ r_z → r_z < lo + c_z → ¬ Zldr T N X Y r_z) → Zbf y_z T N X Y lo c_z none = none := by
  intro c_z
  induction c_z with
  | zero => intro _; rfl
  | succ c_z ih_z =>
    intro h_z
    show Zbq y_z T N X Y (Zbf y_z T N X Y lo c_z none) (lo + c_z) = none
    rw [ih_z (fun r_z h1_z h2_z => h_z r_z h1_z (by omega))]
    unfold Zbq
    rw [if_neg (h_z (lo + c_z) (by omega) (by omega))]
theorem Zbu_some (b_z : Option Nat) (r_z : Nat) : ∃ q_z, Zbu y_z N b_z r_z = some q_z := by
  unfold Zbu
  split
  · exact ⟨r_z, rfl⟩
  · split
    · exact ⟨r_z, rfl⟩
    · exact ⟨_, rfl⟩
theorem Zbf_some (lo : Nat) : ∀ c_z b_z, (∃ r_z, lo ≤ r_z ∧ r_z < lo + c_z ∧ Zldr T N X Y r_z) ∨ (∃ q_z, b_z = some q_z) → ∃ q_z, Zbf y_z T N X Y lo c_z b_z = some q_z := by
  intro c_z
  induction c_z with
  | zero =>
    rintro b_z (⟨r_z, h1_z, h2_z, -⟩ | h_z)
    · omega
    · exact h_z
  | succ c_z ih_z =>
    intro b_z h_z
    show ∃ q_z, Zbq y_z T N X Y (Zbf y_z T N X Y lo c_z b_z) (lo + c_z) = some q_z
    by_cases d_z : Zldr T N X Y (lo + c_z)
    · unfold Zbq
      rw [if_pos d_z]
      exact Zbu_some y_z N _ _
    · unfold Zbq
      rw [if_neg d_z]
      refine ih_z b_z (h_z.imp (fun ⟨r_z, h1_z, h2_z, h3_z⟩ => ⟨r_z, h1_z, ?_, h3_z⟩) id)
      by_cases e_z : r_z = lo + c_z
      · subst e_z; exact absurd h3_z d_z
      · omega
theorem Zbf_lt (lo : Nat) : ∀ c_z b_z q_z, Zbf y_z T N X Y lo c_z b_z = some q_z → q_z < lo + c_z ∨ b_z = some q_z := by
  intro c_z
  induction c_z with
  | zero => intro b_z q_z h_z; exact Or.inr h_z
  | succ c_z ih_z =>
    intro b_z q_z h_z
    replace h_z : Zbq y_z T N X Y (Zbf y_z T N X Y lo c_z b_z) (lo + c_z) = some q_z := h_z
    unfold Zbq at h_z
    split at h_z
    · unfold Zbu at h_z
      split at h_z
      · injection h_z with h_z; omega
      · rename_i q2_z h2_z
        split at h_z
        · injection h_z with h_z; omega
        · injection h_z with h_z
          subst h_z
          exact (ih_z b_z _ h2_z).imp (fun z_z => by omega) id
    · exact (ih_z b_z q_z h_z).imp (fun z_z => by omega) id
end ZBF
-- how far one comes
theorem Zam_i {v_z : Nat} (hv_z : v_z < 4) : ((Zam v_z).toInt = 0 ∧ ((Zdm v_z).toInt = 1 ∨ (Zdm v_z).toInt = -1)) ∨ ((Zdm v_z).toInt = 0 ∧ ((Zam v_z).toInt = 1 ∨ (Zam v_z).toInt = -1)) := by
  have key : ∀ v_z, v_z < 4 → ((Zam v_z).toInt = 0 ∧ ((Zdm v_z).toInt = 1 ∨ (Zdm v_z).toInt = -1)) ∨ ((Zdm v_z).toInt = 0 ∧ ((Zam v_z).toInt = 1 ∨ (Zam v_z).toInt = -1)) := by decide +kernel
  exact key v_z hv_z
theorem Zto {w_z v_z : Nat} (hw_z : w_z < 4) (hv_z : v_z < 4) : ∃ o_z, o_z < 4 ∧ Zgn w_z (Zbo o_z) = v_z := by
  have key : ∀ w_z, w_z < 4 → ∀ v_z, v_z < 4 → ∃ o_z, o_z < 4 ∧ Zgn w_z (Zbo o_z) = v_z := by decide +kernel
  exact key w_z hw_z v_z hv_z
theorem Zpz_b {T : Zwy} (hT : T.1 < 4) (ha_z : -15 ≤ T.2.1.toInt ∧ T.2.1.toInt ≤ 15) (hd_z : -15 ≤ T.2.2.toInt ∧ T.2.2.toInt ≤ 15) : ∀ k_z P, k_z ≤ 100 → ((Zpz T k_z P).2.1.toInt - T.2.1.toInt).natAbs + ((Zpz T k_z P).2.2.toInt - T.2.2.toInt).natAbs ≤ k_z := by
  intro k_z
  induction k_z with
  | zero => intro P _; show (T.2.1.toInt - T.2.1.toInt).natAbs + (T.2.2.toInt - T.2.2.toInt).natAbs ≤ 0; omega
  | succ k_z ih_z =>
    intro P hk_z
    have h_z := ih_z (P / 4) (by omega)
    have hv_z := Zgn_lt (Zpz T k_z (P / 4)).1 (Zbo (P % 4))
    have h1_z := Zam_i hv_z
    show (((Zpz T k_z (P / 4)).2.1 + Zam (Zgn (Zpz T k_z (P / 4)).1 (Zbo (P % 4)))).toInt - T.2.1.toInt).natAbs + (((Zpz T k_z (P / 4)).2.2 + Zdm (Zgn (Zpz T k_z (P / 4)).1 (Zbo (P % 4)))).toInt - T.2.2.toInt).natAbs ≤ k_z + 1
    rw [Zadd_i (by omega) (by omega), Zadd_i (by omega) (by omega)]
    omega
theorem Zam_of : ∀ v_z, v_z < 4 → (v_z = 0 → (Zam v_z).toInt = 0 ∧ (Zdm v_z).toInt = -1) ∧ (v_z = 1 → (Zam v_z).toInt = 1 ∧ (Zdm v_z).toInt = 0) ∧ (v_z = 2 → (Zam v_z).toInt = 0 ∧ (Zdm v_z).toInt = 1) ∧ (v_z = 3 → (Zam v_z).toInt = -1 ∧ (Zdm v_z).toInt = 0) := by decide +kernel
theorem Zpz_y {T : Zwy} (hT : T.1 < 4) (ha_z : -15 ≤ T.2.1.toInt ∧ T.2.1.toInt ≤ 15) (hd_z : -15 ≤ T.2.2.toInt ∧ T.2.2.toInt ≤ 15) : ∀ (k_z : Nat) (x_z y_z : Int), k_z ≤ 100 → (x_z - T.2.1.toInt).natAbs + (y_z - T.2.2.toInt).natAbs = k_z → ∃ P, P < 4 ^ k_z ∧ (Zpz T k_z P).2.1.toInt = x_z ∧ (Zpz T k_z P).2.2.toInt = y_z := by
  intro k_z
  induction k_z with
  | zero =>
    intro x_z y_z _ h_z
    refine ⟨0, by decide, ?_, ?_⟩
    · show T.2.1.toInt = x_z; omega
    · show T.2.2.toInt = y_z; omega
  | succ k_z ih_z =>
    intro x_z y_z hk_z h_z
    have go : ∀ (v_z : Nat) (x' y' : Int), v_z < 4 → x' + (Zam v_z).toInt = x_z → y' + (Zdm v_z).toInt = y_z → (x' - T.2.1.toInt).natAbs + (y' - T.2.2.toInt).natAbs = k_z → ∃ P, P < 4 ^ (k_z + 1) ∧ (Zpz T (k_z + 1) P).2.1.toInt = x_z ∧ (Zpz T (k_z + 1) P).2.2.toInt = y_z := by
      intro v_z x' y' hv_z h1_z h2_z h3_z
      obtain ⟨P, p1, p2, p3⟩ := ih_z x' y' (by omega) h3_z
      obtain ⟨o_z, o1, o2⟩ := Zto (Zpz_w hT k_z P) hv_z
      have h4_z := Zam_i hv_z
      refine ⟨4 * P + o_z, by rw [Nat.pow_succ]; omega, ?_, ?_⟩
      · rw [Zpz_s T k_z P o1]
        show ((Zpz T k_z P).2.1 + Zam (Zgn (Zpz T k_z P).1 (Zbo o_z))).toInt = x_z
        rw [o2, Zadd_i (by omega) (by omega)]
        omega
      · rw [Zpz_s T k_z P o1]
        show ((Zpz T k_z P).2.2 + Zdm (Zgn (Zpz T k_z P).1 (Zbo o_z))).toInt = y_z
        rw [o2, Zadd_i (by omega) (by omega)]
        omega
    obtain ⟨a0, a1_z, a2_z, a3⟩ := (⟨(Zam_of 0 (by decide)).1 rfl, (Zam_of 1 (by decide)).2.1 rfl, (Zam_of 2 (by decide)).2.2.1 rfl, (Zam_of 3 (by decide)).2.2.2 rfl⟩ : ((Zam 0).toInt = 0 ∧ (Zdm 0).toInt = -1) ∧ ((Zam 1).toInt = 1 ∧ (Zdm 1).toInt = 0) ∧ ((Zam 2).toInt = 0 ∧ (Zdm 2).toInt = 1) ∧ ((Zam 3).toInt = -1 ∧ (Zdm 3).toInt = 0))
    by_cases c1_z : T.2.1.toInt < x_z
    · exact go 1 (x_z - 1) y_z (by decide) (by omega) (by omega) (by omega)
    · by_cases c2 : x_z < T.2.1.toInt
      · exact go 3 (x_z + 1) y_z (by decide) (by omega) (by omega) (by omega)
      · by_cases c3 : T.2.2.toInt < y_z
        · exact go 2 x_z (y_z - 1) (by decide) (by omega) (by omega) (by omega)
        · exact go 0 x_z (y_z + 1) (by decide) (by omega) (by omega) (by omega)
/-- how far it is -/
def Zfar (T : Zwy) (X Y : Int32) : Nat := (X.toInt - T.2.1.toInt).natAbs + (Y.toInt - T.2.2.toInt).natAbs
theorem Zld_far {T : Zwy} {N r_z : Nat} {X Y : Int32} (hT : T.1 < 4) (ha_z : -15 ≤ T.2.1.toInt ∧ T.2.1.toInt ≤ 15) (hd_z : -15 ≤ T.2.2.toInt ∧ T.2.2.toInt ≤ 15) (hN : N ≤ 100) (h_z : Zldr T N X Y r_z) : Zfar T X Y ≤ N := by
  have := Zpz_b hT ha_z hd_z N r_z hN
  obtain ⟨h1_z, h2_z⟩ := h_z
  rw [h1_z, h2_z] at this
  exact this
theorem Zld_ex {T : Zwy} {X Y : Int32} (hT : T.1 < 4) (ha_z : -15 ≤ T.2.1.toInt ∧ T.2.1.toInt ≤ 15) (hd_z : -15 ≤ T.2.2.toInt ∧ T.2.2.toInt ≤ 15) (hN : Zfar T X Y ≤ 100) : ∃ r_z, r_z < 4 ^ Zfar T X Y ∧ Zldr T (Zfar T X Y) X Y r_z := by
  obtain ⟨P, p1, p2, p3⟩ := Zpz_y hT ha_z hd_z (Zfar T X Y) X.toInt Y.toInt hN rfl
  exact ⟨P, p1, Int32.toInt_inj.mp p2, Int32.toInt_inj.mp p3⟩
def Fr0 (y_z : Nat → Int32) (T : Zwy) (n_z : Nat) (X Y what : Int32) : Int32 := if Zfar T X Y ≤ 5 ∧ n_z + Zfar T X Y ≤ 15 then (match Zbf y_z T (Zfar T X Y) X Y 0 (4 ^ Zfar T X Y) none with
  | none => Er 2
  | some q_z => if what = -(nI 2) then nI (Zfar T X Y) else if what = -(nI 1) then Zyz y_z (Zfar T X Y) q_z else if nI (Zfar T X Y) ≤ what then -(nI 1) else nI (Zst_ (Zdg (Zfar T X Y) q_z what.toNatClampNeg))) else Er 2
def Zs0 (f_z : Nat → Int32) (n_z : Nat) : Zwy := (Zgw f_z n_z, Zax f_z n_z, Zdx f_z n_z)
def Freach (f_z : Nat → Int32) (n_z : Nat) (X Y what : Int32) : Int32 := if (-(nI 9) ≤ X ∧ X ≤ nI 9) ∧ (-(nI 9) ≤ Y ∧ Y ≤ nI 9) ∧ -(nI 2) ≤ what ∧ what ≤ nI 4 then Fr0 (Zy4 f_z) (Zs0 f_z n_z) n_z X Y what else Er 1
theorem Fr0_n {y_z : Nat → Int32} {T : Zwy} {n_z : Nat} {X Y what : Int32} (h_z : ¬ (Zfar T X Y ≤ 5 ∧ n_z + Zfar T X Y ≤ 15)) : Fr0 y_z T n_z X Y what = Er 2 := by
  unfold Fr0
  rw [if_neg h_z]
theorem Fr0_y {y_z : Nat → Int32} {T : Zwy} {n_z q_z : Nat} {X Y what : Int32} (h_z : Zfar T X Y ≤ 5 ∧ n_z + Zfar T X Y ≤ 15) (hb_z : Zbf y_z T (Zfar T X Y) X Y 0 (4 ^ Zfar T X Y) none = some q_z) : Fr0 y_z T n_z X Y what = if what = -(nI 2) then nI (Zfar T X Y) else if what = -(nI 1) then Zyz y_z (Zfar T X Y) q_z else if nI (Zfar T X Y) ≤ what then -(nI 1) else nI (Zst_ (Zdg (Zfar T X Y) q_z what.toNatClampNeg)) := by
  unfold Fr0
  rw [if_pos h_z, hb_z]
theorem Z4le {F : Nat} (h_z : F ≤ 5) : 4 ^ F ≤ 1024 := (Z4p h_z).2
theorem Zwhat {F : Nat} {what : Int32} (hF : F ≤ 5) (h3_z : -(nI 2) ≤ what ∧ what ≤ nI 4) (n2_z : ¬ what = -(nI 2)) (n1_z : ¬ what = -(nI 1)) (h_z : ¬ nI F ≤ what) : ∃ i_z, i_z < F ∧ what = nI i_z ∧ what.toNatClampNeg = i_z := by
  have a1_z := (Zle_i _ _).mp h3_z.1
  have e2_z : (-(nI 2)).toInt = -2 := Zneg_i (by decide)
  have e1_z : (-(nI 1)).toInt = -1 := Zneg_i (by decide)
  have b2_z : ¬ what.toInt = -2 := fun q_z => n2_z (by rw [Zeq_i, e2_z]; exact q_z)
  have b1_z : ¬ what.toInt = -1 := fun q_z => n1_z (by rw [Zeq_i, e1_z]; exact q_z)
  have b3 : ¬ (nI F).toInt ≤ what.toInt := fun q_z => h_z ((Zle_i _ _).mpr q_z)
  rw [Zn_i (by omega)] at b3
  obtain ⟨j_z, j1_z, j2, j3⟩ := Zof (x_z := what) (by omega)
  exact ⟨j_z, by omega, j2, by rw [j2, Zcl_n j1_z]⟩
/-- the class's best row_z -/
def Zkb (y_z : Nat → Int32) (F : Nat) (b_z : Option Nat) (M : Zmem) : Prop := (b_z = none ∧ M 38 3 = -(nI 1)) ∨ ∃ q_z, b_z = some q_z ∧ q_z < 1024 ∧ M 38 3 = nI q_z ∧ M 38 2 = Zyz y_z F q_z
/-- the reference's -/
def Zrb (y_z : Nat → Int32) (N : Nat) (b_z : Option Nat) (M : Zmem) : Prop := (b_z = none ∧ M 53 18 = -(nI 1)) ∨ ∃ q_z, b_z = some q_z ∧ M 53 18 = Zyz y_z N q_z ∧ ∀ i_z, i_z < N → M 64 i_z = nI (Zst_ (Zdg N q_z i_z))
theorem Zy4_b (f_z : Nat → Int32) (o_z : Nat) : 1 ≤ (Zy4 f_z o_z).toInt ∧ (Zy4 f_z o_z).toInt ≤ 99 := Zyn_b _ _ _ _
theorem Zyz_b (f_z : Nat → Int32) : ∀ k_z P, k_z ≤ 100 → 0 ≤ (Zyz (Zy4 f_z) k_z P).toInt ∧ (Zyz (Zy4 f_z) k_z P).toInt ≤ 99 * k_z := by
  intro k_z
  induction k_z with
  | zero => intro P _; show 0 ≤ (nI 0).toInt ∧ (nI 0).toInt ≤ 99 * 0; rw [Zn_i (by decide)]; omega
  | succ k_z ih_z =>
    intro P hk_z
    have h_z := ih_z (P / 4) (by omega)
    have h2_z := Zy4_b f_z (P % 4)
    show 0 ≤ (Zyz (Zy4 f_z) k_z (P / 4) + Zy4 f_z (P % 4)).toInt ∧ (Zyz (Zy4 f_z) k_z (P / 4) + Zy4 f_z (P % 4)).toInt ≤ 99 * (k_z + 1 : Nat)
    rw [Zadd_i (by omega) (by omega)]
    omega
theorem Zyz_n (f_z : Nat → Int32) {k_z P : Nat} (hk_z : k_z ≤ 100) : ¬ Zyz (Zy4 f_z) k_z P = -(nI 1) := fun q_z => by
  have h_z := Zyz_b f_z k_z P hk_z
  rw [q_z, show (-(nI 1)).toInt = -1 from by decide] at h_z
  omega
theorem Zsh2 {n_z i_z : Nat} (hn_z : n_z ≤ 5) (hi_z : i_z < n_z) : nI 2 * (nI n_z - nI 1 - nI i_z) = nI (2 * (n_z - 1 - i_z)) := by
  have key : ∀ n_z, n_z < 6 → ∀ i_z, i_z < n_z → nI 2 * (nI n_z - nI 1 - nI i_z) = nI (2 * (n_z - 1 - i_z)) := by decide +kernel
  exact key n_z (by omega) i_z hi_z
theorem Zsh3 {j_z : Nat} (hj_z : j_z < 5) : (((nI (2 * j_z)).toUInt32 &&& Int32.toUInt32 31).toBitVec % 32).toNat = 2 * j_z := by
  have key : ∀ j_z, j_z < 5 → (((nI (2 * j_z)).toUInt32 &&& Int32.toUInt32 31).toBitVec % 32).toNat = 2 * j_z := by decide +kernel
  exact key j_z hj_z

/-- what the reference's walk finds, and leaves -/
def Zpe (T : Zwy) (n_z k_z P : Nat) (M : Zmem) : Prop := M 53 15 = nI (Zpz T k_z P).1 ∧ M 61 (n_z + k_z) = (Zpz T k_z P).2.1 ∧ M 62 (n_z + k_z) = (Zpz T k_z P).2.2 ∧ ∀ j_z, j_z < k_z → M 63 j_z = nI (Zst_ (Zdg k_z P j_z))
def Zhit (T : Zwy) (N : Nat) (X Y : Int32) (lo c_z : Nat) : Prop := ∃ q_z, lo ≤ q_z ∧ q_z < lo + c_z ∧ Zldr T N X Y q_z
def Zpo (y_z : Nat → Int32) (T : Zwy) (n_z N : Nat) (X Y : Int32) (k_z P : Nat) (b_z : Option Nat) (M : Zmem) (r_z : Option Value) (M' : Zmem) : Prop :=
  Zb r_z (Zhit T N X Y (P * 4 ^ (N - k_z)) (4 ^ (N - k_z))) ∧ Sc M M' ∧ M' 53 15 = M 53 15 ∧ (∀ j_z, j_z ≤ n_z + k_z → M' 61 j_z = M 61 j_z ∧ M' 62 j_z = M 62 j_z) ∧ (∀ j_z, j_z < k_z → M' 63 j_z = M 63 j_z) ∧ Zrb y_z N (Zbf y_z T N X Y (P * 4 ^ (N - k_z)) (4 ^ (N - k_z)) b_z) M'
theorem Zlo_ (P E o_z : Nat) : P * (E * 4) + o_z * E = (4 * P + o_z) * E := by
  rw [Nat.add_mul, Nat.mul_comm E 4, ← Nat.mul_assoc, Nat.mul_comm P 4]
theorem Zrb_kp {y_z : Nat → Int32} {N : Nat} {b_z : Option Nat} {M M2 : Zmem} (h_z : Zrb y_z N b_z M) (h1_z : M2 53 18 = M 53 18) (h2_z : ∀ i_z, i_z < N → M2 64 i_z = M 64 i_z) : Zrb y_z N b_z M2 := by
  rcases h_z with ⟨rfl, h_z⟩ | ⟨q_z, rfl, h_z, h3_z⟩
  · exact Or.inl ⟨rfl, h1_z.trans h_z⟩
  · exact Or.inr ⟨q_z, rfl, h1_z.trans h_z, fun i_z hi_z => (h2_z i_z hi_z).trans (h3_z i_z hi_z)⟩
theorem Zhit_s {T : Zwy} {N : Nat} {X Y : Int32} {lo c1_z c2 : Nat} : Zhit T N X Y lo (c1_z + c2) ↔ Zhit T N X Y lo c1_z ∨ Zhit T N X Y (lo + c1_z) c2 := by
  constructor
  · rintro ⟨q_z, h1_z, h2_z, h3_z⟩
    by_cases e_z : q_z < lo + c1_z
    · exact Or.inl ⟨q_z, h1_z, e_z, h3_z⟩
    · exact Or.inr ⟨q_z, by omega, by omega, h3_z⟩
  · rintro (⟨q_z, h1_z, h2_z, h3_z⟩ | ⟨q_z, h1_z, h2_z, h3_z⟩)
    · exact ⟨q_z, h1_z, by omega, h3_z⟩
    · exact ⟨q_z, by omega, by omega, h3_z⟩
theorem Zhit_0 {T : Zwy} {N : Nat} {X Y : Int32} {lo : Nat} : ¬ Zhit T N X Y lo 0 := by
  rintro ⟨q_z, h1_z, h2_z, -⟩
  omega
theorem Zhit_1 {T : Zwy} {N : Nat} {X Y : Int32} {lo : Nat} : Zhit T N X Y lo 1 ↔ Zldr T N X Y lo := by
  constructor
  · rintro ⟨q_z, h1_z, h2_z, h3_z⟩
    obtain rfl : q_z = lo := by omega
    exact h3_z
  · intro h_z
    exact ⟨lo, Nat.le_refl _, by omega, h_z⟩

set_option maxRecDepth 20000 in
set_option maxHeartbeats 1000000 in
theorem k_digit2 (n_z r_z i_z : Nat) (M : Zmem) (hn_z : n_z ≤ 5) (hi_z : i_z < n_z) (hr_z : r_z < 1024) : ZC 153 0 [.int (nI r_z), .int (nI n_z), .int (nI i_z)] M (fun z_z M' => z_z = some (.int (nI (Zdg n_z r_z i_z))) ∧ M = M') := by
  refine ZC_of Zt153 Zk153 (Nat.le_of_ble_eq_true rfl) (by decide) rfl (fun X hX hE => ?_)
  refine Zgo hX 11 rfl (by (first | exact True.intro | assumption | (dsimp only [ZallP]; and_intros <;> (first | assumption | decide | omega | ((try simp (disch := omega) only [pk_mul, nI_add, Zcl_n]); exact Zin_n (by omega) (by decide)))))) ?_
  rw [Zsh2 hn_z hi_z, pk_ushrN (by omega) _ (2 * (n_z - 1 - i_z)) (Zsh3 (by omega)), pk_andN (by have := Nat.div_le_self r_z (2 ^ (2 * (n_z - 1 - i_z))); omega) 2 (by decide)]
  refine Zs_ret hX hE rfl ⟨by rw [Nat.pow_mul]; rfl, rfl⟩

set_option maxRecDepth 20000 in
set_option maxHeartbeats 1000000 in
theorem k_ryarn2 (y_z : Nat → Int32) (F r_z : Nat) (M : Zmem) (hF : F ≤ 5) (hr_z : r_z < 1024) (hm_z : M 38 1 = nI F) (hy : ∀ o_z, o_z < 4 → M 39 o_z = y_z o_z) : ZC 152 1 [.ref 38, .int (nI r_z)] M (fun z_z M' => z_z = some (.int (Zyz y_z F r_z)) ∧ M = M') := by
  refine ZC_of Zt152 Zk152 (Nat.le_of_ble_eq_true rfl) (by decide) rfl (fun X hX hE => ?_)
  have L : ∀ (q_z i_z : Nat), i_z + q_z = F → ZP X Zt152 (Zsf Zt152 4) [(2, .int (Zyz y_z i_z (r_z / 4 ^ (F - i_z)))), (3, .int (nI i_z)), (0, .ref 38), (1, .int (nI r_z))] [] M := by
    intro q_z
    induction q_z with
    | zero =>
      intro i_z hi_z
      obtain rfl : i_z = F := by omega
      refine Zgo hX 3 rfl (by (first | exact True.intro | assumption | (dsimp only [ZallP]; and_intros <;> (first | assumption | decide | omega | ((try simp (disch := omega) only [pk_mul, nI_add, Zcl_n]); exact Zin_n (by omega) (by decide)))))) ?_
      rw [hm_z]
      refine Zs_ige hX (List.cons_ne_nil _ _) (fun h_z => ?_) (fun h_z => ?_)
      · refine Zgo hX 1 rfl (by (first | exact True.intro | assumption | (dsimp only [ZallP]; and_intros <;> (first | assumption | decide | omega | ((try simp (disch := omega) only [pk_mul, nI_add, Zcl_n]); exact Zin_n (by omega) (by decide)))))) ?_
        refine Zs_ret hX hE rfl ⟨by rw [Nat.sub_self, Nat.pow_zero, Nat.div_one], rfl⟩
      · exact absurd (Int32.le_refl _) h_z
    | succ q_z ih_z =>
      intro i_z hi_z
      refine Zgo hX 3 rfl (by (first | exact True.intro | assumption | (dsimp only [ZallP]; and_intros <;> (first | assumption | decide | omega | ((try simp (disch := omega) only [pk_mul, nI_add, Zcl_n]); exact Zin_n (by omega) (by decide)))))) ?_
      rw [hm_z]
      refine Zs_ige hX (List.cons_ne_nil _ _) (fun h_z => ?_) (fun h_z => ?_)
      · exact absurd ((Zn_le (by omega) (by omega)).mp h_z) (by omega)
      · refine Zgo hX 7 rfl (by (first | exact True.intro | assumption | (dsimp only [ZallP]; and_intros <;> (first | assumption | decide | omega | ((try simp (disch := omega) only [pk_mul, nI_add, Zcl_n]); exact Zin_n (by omega) (by decide)))))) ?_
        rw [hm_z]
        refine Zs_calls hX (List.cons_ne_nil _ _) (by decide) (k_digit2 F r_z i_z _ hF (by omega) hr_z) (by first | decide | omega) rfl rfl (by decide) (Nat.le_of_ble_eq_true rfl) (fun r_z M' hc_z => ?_)
        obtain ⟨rfl, rfl⟩ := hc_z
        have hd_z := Zdg_lt F r_z i_z
        refine Zgo hX 5 rfl (Zin_n hd_z (by decide)) ?_
        rw [nI_add, Zcl_n (by omega), hy _ hd_z, ← Zyz_i y_z (show i_z < F by omega)]
        refine Zs_sub (l' := [(2, .int (Zyz y_z (i_z + 1) (r_z / 4 ^ (F - (i_z + 1))))), (3, .int (nI (i_z + 1))), (0, .ref 38), (1, .int (nI r_z))]) rfl ?_
        exact ih_z (i_z + 1) (by omega)
  refine Zgo hX 4 rfl (by (first | exact True.intro | assumption | (dsimp only [ZallP]; and_intros <;> (first | assumption | decide | omega | ((try simp (disch := omega) only [pk_mul, nI_add, Zcl_n]); exact Zin_n (by omega) (by decide)))))) ?_
  refine Zs_sub (l' := [(2, .int (Zyz y_z 0 (r_z / 4 ^ (F - 0)))), (3, .int (nI 0)), (0, .ref 38), (1, .int (nI r_z))]) rfl ?_
  exact L F 0 (by omega)

set_option maxRecDepth 20000 in
set_option maxHeartbeats 1000000 in
theorem k_keep3 (y_z : Nat → Int32) (F r_z : Nat) (b_z : Option Nat) (M : Zmem) (hF : F ≤ 5) (hr_z : r_z < 1024) (hm_z : M 38 1 = nI F) (hy : ∀ o_z, o_z < 4 → M 39 o_z = y_z o_z) (hb_z : Zkb y_z F b_z M) : ZC 150 2 [.ref 38, .int (nI r_z)] M (fun z_z M' => z_z = none ∧ Sc M M' ∧ M' 38 1 = nI F ∧ (∀ j_z, M' 35 j_z = M 35 j_z) ∧ (∀ j_z, M' 36 j_z = M 36 j_z) ∧ (∀ j_z, M' 37 j_z = M 37 j_z) ∧ (∀ j_z, M' 39 j_z = M 39 j_z) ∧ Zkb y_z F (Zbu y_z F b_z r_z) M') := by
  refine ZC_of Zt150 Zk150 (Nat.le_of_ble_eq_true rfl) (by decide) rfl (fun X hX hE => ?_)
  refine Zgo hX 2 rfl (by (first | exact True.intro | assumption | (dsimp only [ZallP]; and_intros <;> (first | assumption | decide | omega | ((try simp (disch := omega) only [pk_mul, nI_add, Zcl_n]); exact Zin_n (by omega) (by decide)))))) ?_
  refine Zs_callv hX (List.cons_ne_nil _ _) (k_ryarn2 y_z F r_z M hF hr_z hm_z hy) (by first | decide | omega) (by decide) rfl rfl rfl (by decide) (Nat.le_of_ble_eq_true rfl) (fun r_z M' hc_z => ?_)
  obtain ⟨rfl, rfl⟩ := hc_z
  have TAKE : Zbu y_z F b_z r_z = some r_z → ZP X Zt150 (Zsf Zt150 21) [(2, .int (Zyz y_z F r_z)), (0, .ref 38), (1, .int (nI r_z))] [] M := by
    intro hb2
    refine Zgo hX 6 rfl (by (first | exact True.intro | assumption | (dsimp only [ZallP]; and_intros <;> (first | assumption | decide | omega | ((try simp (disch := omega) only [pk_mul, nI_add, Zcl_n]); exact Zin_n (by omega) (by decide)))))) ?_
    refine Zs_retv hX hE rfl ⟨rfl, ((Sc.rf M).u _ rfl).u _ rfl, hm_z, fun _ => rfl, fun _ => rfl, fun _ => rfl, fun _ => rfl, by rw [hb2]; exact Or.inr ⟨r_z, rfl, hr_z, rfl, rfl⟩⟩
  refine Zgo hX 3 rfl (by (first | exact True.intro | assumption | (dsimp only [ZallP]; and_intros <;> (first | assumption | decide | omega | ((try simp (disch := omega) only [pk_mul, nI_add, Zcl_n]); exact Zin_n (by omega) (by decide)))))) ?_
  rcases hb_z with ⟨rfl, hb_z⟩ | ⟨q_z, rfl, hq_z, hb_z, hb2⟩
  · rw [hb_z]
    refine Zs_lt hX (List.cons_ne_nil _ _) (fun _ => ?_) (fun q_z => False.elim (by revert q_z; decide))
    refine Zs_sub (l' := [(2, .int (Zyz y_z F r_z)), (0, .ref 38), (1, .int (nI r_z))]) rfl ?_
    exact TAKE rfl
  · rw [hb_z]
    refine Zs_lt hX (List.cons_ne_nil _ _) (fun q_z => False.elim ((absurd q_z (Zn_nlt0 (by omega))))) (fun _ => ?_)
    refine Zgo hX 3 rfl (by (first | exact True.intro | assumption | (dsimp only [ZallP]; and_intros <;> (first | assumption | decide | omega | ((try simp (disch := omega) only [pk_mul, nI_add, Zcl_n]); exact Zin_n (by omega) (by decide)))))) ?_
    rw [hb2]
    refine Zs_ige hX (List.cons_ne_nil _ _) (fun h2_z => ?_) (fun h2_z => ?_)
    · have h3_z : ¬ Zyz y_z F r_z < Zyz y_z F q_z := Int32.not_lt.mpr h2_z
      refine Zs_retv hX hE rfl ⟨rfl, Sc.rf _, hm_z, fun _ => rfl, fun _ => rfl, fun _ => rfl, fun _ => rfl, by unfold Zbu; dsimp only; rw [if_neg h3_z]; exact Or.inr ⟨q_z, rfl, hq_z, hb_z, hb2⟩⟩
    · have h3_z : Zyz y_z F r_z < Zyz y_z F q_z := Int32.not_le.mp h2_z
      refine Zs_sub (l' := [(2, .int (Zyz y_z F r_z)), (0, .ref 38), (1, .int (nI r_z))]) rfl ?_
      exact TAKE (by unfold Zbu; dsimp only; rw [if_pos h3_z])

set_option maxRecDepth 20000 in
set_option maxHeartbeats 1000000 in
theorem k_leads2 (T : Zwy) (n_z F r_z : Nat) (x_z y_z : Int32) (M : Zmem) (hn_z : n_z ≤ 15) (hF : F ≤ 5) (hr2 : r_z < 1024) (hm_z : M 38 1 = nI F) (hr_z : M 35 2 = nI n_z) (hw_z : T.1 < 4) (hg_z : M 35 3 = nI T.1) (ha_z : M 36 n_z = T.2.1) (hd_z : M 37 n_z = T.2.2) : ZC 151 2 [.ref 38, .int (nI r_z), .ref 35, .int x_z, .int y_z] M (fun z_z M' => Zb z_z (Zldr T F x_z y_z r_z) ∧ M = M') := by
  refine ZC_of Zt151 Zk151 (Nat.le_of_ble_eq_true rfl) (by decide) rfl (fun X hX hE => ?_)
  have L : ∀ (q_z i_z : Nat), i_z + q_z = F → ZP X Zt151 (Zsf Zt151 31) [(8, .int (nI i_z)), (7, .int (nI (Zpz T i_z (r_z / 4 ^ (F - i_z))).1)), (5, .int (Zpz T i_z (r_z / 4 ^ (F - i_z))).2.1), (6, .int (Zpz T i_z (r_z / 4 ^ (F - i_z))).2.2), (0, .ref 38), (1, .int (nI r_z)), (3, .int x_z), (4, .int y_z)] [] M := by
    intro q_z
    induction q_z with
    | zero =>
      intro i_z hi_z
      obtain rfl : i_z = F := by omega
      have e_z : r_z / 4 ^ (i_z - i_z) = r_z := by rw [Nat.sub_self, Nat.pow_zero, Nat.div_one]
      rw [e_z]
      refine Zgo hX 3 rfl (by (first | exact True.intro | assumption | (dsimp only [ZallP]; and_intros <;> (first | assumption | decide | omega | ((try simp (disch := omega) only [pk_mul, nI_add, Zcl_n]); exact Zin_n (by omega) (by decide)))))) ?_
      rw [hm_z]
      refine Zs_ige hX (List.cons_ne_nil _ _) (fun h_z => ?_) (fun h_z => ?_)
      · refine Zgo hX 2 rfl (by (first | exact True.intro | assumption | (dsimp only [ZallP]; and_intros <;> (first | assumption | decide | omega | ((try simp (disch := omega) only [pk_mul, nI_add, Zcl_n]); exact Zin_n (by omega) (by decide)))))) ?_
        refine Zs_ine hX (List.cons_ne_nil _ _) (fun h2_z => ?_) (fun h2_z => ?_)
        · refine Zgo hX 1 rfl (by (first | exact True.intro | assumption | (dsimp only [ZallP]; and_intros <;> (first | assumption | decide | omega | ((try simp (disch := omega) only [pk_mul, nI_add, Zcl_n]); exact Zin_n (by omega) (by decide)))))) ?_
          refine Zs_retz hX hE rfl (by first | exact Or.inl rfl | exact Or.inr rfl) ⟨Or.inr ⟨rfl, fun q_z => h2_z q_z.1⟩, rfl⟩
        · refine Zgo hX 2 rfl (by (first | exact True.intro | assumption | (dsimp only [ZallP]; and_intros <;> (first | assumption | decide | omega | ((try simp (disch := omega) only [pk_mul, nI_add, Zcl_n]); exact Zin_n (by omega) (by decide)))))) ?_
          refine Zs_ine hX (List.cons_ne_nil _ _) (fun h3_z => ?_) (fun h3_z => ?_)
          · refine Zgo hX 1 rfl (by (first | exact True.intro | assumption | (dsimp only [ZallP]; and_intros <;> (first | assumption | decide | omega | ((try simp (disch := omega) only [pk_mul, nI_add, Zcl_n]); exact Zin_n (by omega) (by decide)))))) ?_
            refine Zs_retz hX hE rfl (by first | exact Or.inl rfl | exact Or.inr rfl) ⟨Or.inr ⟨rfl, fun q_z => h3_z q_z.2⟩, rfl⟩
          · refine Zgo hX 2 rfl (by (first | exact True.intro | assumption | (dsimp only [ZallP]; and_intros <;> (first | assumption | decide | omega | ((try simp (disch := omega) only [pk_mul, nI_add, Zcl_n]); exact Zin_n (by omega) (by decide)))))) ?_
            refine Zs_retz hX hE rfl (by first | exact Or.inl rfl | exact Or.inr rfl) ⟨Or.inl ⟨rfl, h2_z, h3_z⟩, rfl⟩
      · exact absurd (Int32.le_refl _) h_z
    | succ q_z ih_z =>
      intro i_z hi_z
      have hwi := Zpz_w hw_z i_z (r_z / 4 ^ (F - i_z))
      refine Zgo hX 3 rfl (by (first | exact True.intro | assumption | (dsimp only [ZallP]; and_intros <;> (first | assumption | decide | omega | ((try simp (disch := omega) only [pk_mul, nI_add, Zcl_n]); exact Zin_n (by omega) (by decide)))))) ?_
      rw [hm_z]
      refine Zs_ige hX (List.cons_ne_nil _ _) (fun h_z => ?_) (fun h_z => ?_)
      · exact absurd ((Zn_le (by omega) (by omega)).mp h_z) (by omega)
      · refine Zgo hX 5 rfl (by (first | exact True.intro | assumption | (dsimp only [ZallP]; and_intros <;> (first | assumption | decide | omega | ((try simp (disch := omega) only [pk_mul, nI_add, Zcl_n]); exact Zin_n (by omega) (by decide)))))) ?_
        rw [hm_z]
        refine Zs_calls hX (List.cons_ne_nil _ _) (by decide) (k_digit2 F r_z i_z _ hF (by omega) hr2) (by first | decide | omega) rfl rfl (by decide) (Nat.le_of_ble_eq_true rfl) (fun r_z M' hc_z => ?_)
        obtain ⟨rfl, rfl⟩ := hc_z
        have hst := Zpz_i T (r_z := r_z) (show i_z < F by omega)
        have hdl := Zdg_lt F r_z i_z
        generalize Zdg F r_z i_z = j_z at hst hdl
        obtain ⟨kd_z, m_z, hkd, hm9, e1_z, e2_z⟩ := Zst_k hdl
        have ebo : Zbo j_z = Zbn kd_z m_z := by unfold Zbo; rw [e1_z, show (10 * kd_z + m_z) / 10 = kd_z by omega, show (10 * kd_z + m_z) % 10 = m_z by omega]
        obtain ⟨b1_z, b2_z⟩ := Zbn_ok hkd hm9
        refine Zgo hX 9 rfl (by dsimp only [ZallP]; exact ⟨⟨Zin_n hdl (by decide), (show ¬ nI 10 = nI 0 by decide)⟩, (show ¬ nI 10 = nI 0 by decide)⟩) ?_
        dsimp only
        rw [Zcl_n (show j_z < 2 ^ 31 by omega), e2_z, pk_rem (by omega) (by decide) (by decide), pk_div (by omega) (by decide) (by decide), show (10 * kd_z + m_z) / 10 = kd_z by omega, show (10 * kd_z + m_z) % 10 = m_z by omega]
        refine Zs_calls hX (List.cons_ne_nil _ _) (by decide) (k_bends kd_z m_z _ hkd hm9) (by first | decide | omega) rfl rfl (by decide) (Nat.le_of_ble_eq_true rfl) (fun r_z M' hc_z => ?_)
        obtain ⟨rfl, rfl⟩ := hc_z
        rw [b1_z]
        refine Zs_calls hX (List.cons_ne_nil _ _) (by decide) (k_turned _ (Zbn kd_z m_z) _ hwi b2_z) (by first | decide | omega) rfl rfl (by decide) (Nat.le_of_ble_eq_true rfl) (fun r_z M' hc_z => ?_)
        obtain ⟨rfl, rfl⟩ := hc_z
        have hv_z := Zgn_lt (Zpz T i_z (r_z / 4 ^ (F - i_z))).1 (Zbn kd_z m_z)
        refine Zgo hX 3 rfl (by (first | exact True.intro | assumption | (dsimp only [ZallP]; and_intros <;> (first | assumption | decide | omega | ((try simp (disch := omega) only [pk_mul, nI_add, Zcl_n]); exact Zin_n (by omega) (by decide)))))) ?_
        refine Zs_calls hX (List.cons_ne_nil _ _) (by decide) (k_acrossMore _ _ hv_z) (by first | decide | omega) rfl rfl (by decide) (Nat.le_of_ble_eq_true rfl) (fun r_z M' hc_z => ?_)
        obtain ⟨rfl, rfl⟩ := hc_z
        refine Zgo hX 4 rfl (by (first | exact True.intro | assumption | (dsimp only [ZallP]; and_intros <;> (first | assumption | decide | omega | ((try simp (disch := omega) only [pk_mul, nI_add, Zcl_n]); exact Zin_n (by omega) (by decide)))))) ?_
        refine Zs_calls hX (List.cons_ne_nil _ _) (by decide) (k_downMore _ _ hv_z) (by first | decide | omega) rfl rfl (by decide) (Nat.le_of_ble_eq_true rfl) (fun r_z M' hc_z => ?_)
        obtain ⟨rfl, rfl⟩ := hc_z
        refine Zgo hX 4 rfl (by (first | exact True.intro | assumption | (dsimp only [ZallP]; and_intros <;> (first | assumption | decide | omega | ((try simp (disch := omega) only [pk_mul, nI_add, Zcl_n]); exact Zin_n (by omega) (by decide)))))) ?_
        rw [nI_add, ← ebo]
        refine Zs_sub (l' := [(8, .int (nI (i_z + 1))), (7, .int (nI (Zpz T (i_z + 1) (r_z / 4 ^ (F - (i_z + 1)))).1)), (5, .int (Zpz T (i_z + 1) (r_z / 4 ^ (F - (i_z + 1)))).2.1), (6, .int (Zpz T (i_z + 1) (r_z / 4 ^ (F - (i_z + 1)))).2.2), (0, .ref 38), (1, .int (nI r_z)), (3, .int x_z), (4, .int y_z)]) (by rw [hst]; rfl) ?_
        exact ih_z (i_z + 1) (by omega)
  refine Zgo hX 17 rfl (by dsimp only [ZallP]; rw [hr_z]; exact ⟨Zin_n (by omega) (by decide), Zin_n (by omega) (by decide)⟩) ?_
  rw [hr_z, hg_z, Zcl_n (show n_z < 2 ^ 31 by omega), ha_z, hd_z]
  refine Zs_sub (l' := [(8, .int (nI 0)), (7, .int (nI (Zpz T 0 (r_z / 4 ^ (F - 0))).1)), (5, .int (Zpz T 0 (r_z / 4 ^ (F - 0))).2.1), (6, .int (Zpz T 0 (r_z / 4 ^ (F - 0))).2.2), (0, .ref 38), (1, .int (nI r_z)), (3, .int x_z), (4, .int y_z)]) rfl ?_
  exact L F 0 (by omega)

set_option maxRecDepth 20000 in
set_option maxHeartbeats 1000000 in
theorem k_finds2 (f_z : Nat → Int32) (n_z : Nat) (T : Zwy) (x_z y_z : Int32) (M : Zmem) (hz_z : Zrv 1 f_z M) (hfi : Zfi f_z) (hn_z : f_z 7 = nI n_z) (hn2 : n_z ≤ 15) (hr_z : M 35 2 = nI n_z) (hw_z : T.1 < 4) (hg_z : M 35 3 = nI T.1) (hax : M 36 n_z = T.2.1) (hdx : M 37 n_z = T.2.2) (hab : -15 ≤ T.2.1.toInt ∧ T.2.1.toInt ≤ 15) (hdb : -15 ≤ T.2.2.toInt ∧ T.2.2.toInt ≤ 15) (hx_z : -9 ≤ x_z.toInt ∧ x_z.toInt ≤ 9) (hy : -9 ≤ y_z.toInt ∧ y_z.toInt ≤ 9) : ZC 149 5 [.ref 38, .ref 1, .ref 35, .int x_z, .int y_z] M (fun z_z M' => Sc M M' ∧ ((¬ (Zfar T x_z y_z ≤ 5 ∧ n_z + Zfar T x_z y_z ≤ 15) ∧ z_z = some (.int (nI 0))) ∨ ((Zfar T x_z y_z ≤ 5 ∧ n_z + Zfar T x_z y_z ≤ 15) ∧ M' 38 1 = nI (Zfar T x_z y_z) ∧ ∃ q_z, Zbf (Zy4 f_z) T (Zfar T x_z y_z) x_z y_z 0 (4 ^ Zfar T x_z y_z) none = some q_z ∧ Zkb (Zy4 f_z) (Zfar T x_z y_z) (some q_z) M' ∧ z_z = some (.int (nI 1))))) := by
  refine ZC_of Zt149 Zk149 (Nat.le_of_ble_eq_true rfl) (by decide) rfl (fun X hX hE => ?_)
  have dx1 : (x_z - T.2.1).toInt = x_z.toInt - T.2.1.toInt := Zsub_i (by omega) (by omega)
  have dy1 : (y_z - T.2.2).toInt = y_z.toInt - T.2.2.toInt := Zsub_i (by omega) (by omega)
  obtain ⟨ea, ba⟩ := Zabs_n (a_z := x_z - T.2.1) (by omega) (by omega)
  obtain ⟨eb, bb⟩ := Zabs_n (a_z := y_z - T.2.2) (by omega) (by omega)
  refine Zgo hX 7 rfl (by rw [hr_z]; exact Zin_n (by omega) (by decide)) ?_
  rw [hr_z, Zcl_n (show n_z < 2 ^ 31 by omega), hax]
  refine Zs_calls hX (List.cons_ne_nil _ _) (by decide) (c_abs _ _) (by first | decide | omega) rfl rfl (by decide) (Nat.le_of_ble_eq_true rfl) (fun r_z M' hc_z => ?_)
  obtain ⟨rfl, rfl⟩ := hc_z
  rw [ea]
  refine Zgo hX 7 rfl (by rw [hr_z]; exact Zin_n (by omega) (by decide)) ?_
  rw [hr_z, Zcl_n (show n_z < 2 ^ 31 by omega), hdx]
  refine Zs_calls hX (List.cons_ne_nil _ _) (by decide) (c_abs _ _) (by first | decide | omega) rfl rfl (by decide) (Nat.le_of_ble_eq_true rfl) (fun r_z M' hc_z => ?_)
  obtain ⟨rfl, rfl⟩ := hc_z
  rw [eb]
  refine Zgo hX 8 rfl (by (first | exact True.intro | assumption | (dsimp only [ZallP]; and_intros <;> (first | assumption | decide | omega | ((try simp (disch := omega) only [pk_mul, nI_add, Zcl_n]); exact Zin_n (by omega) (by decide)))))) ?_
  rw [hr_z, nI_add, pk_sub (show n_z ≤ 15 by omega)]
  refine Zs_calls hX (List.cons_ne_nil _ _) (by decide) (c_min _ _ _) (by first | decide | omega) rfl rfl (by decide) (Nat.le_of_ble_eq_true rfl) (fun r_z M' hc_z => ?_)
  obtain ⟨rfl, rfl⟩ := hc_z
  have hF0 : (x_z - T.2.1).toInt.natAbs + (y_z - T.2.2).toInt.natAbs = Zfar T x_z y_z := by rw [dx1, dy1]; rfl
  rw [hF0]
  have hex := fun hN => Zld_ex (X := x_z) (Y := y_z) hw_z hab hdb hN
  have emin : (if nI (15 - n_z) < nI 5 then nI (15 - n_z) else nI 5) = nI (if 15 - n_z < 5 then 15 - n_z else 5) := by
    by_cases c_z : 15 - n_z < 5
    · rw [if_pos c_z, if_pos ((Zn_lt (by omega) (by omega)).mpr c_z)]
    · rw [if_neg c_z, if_neg (fun q_z => c_z ((Zn_lt (by omega) (by omega)).mp q_z))]
  rw [emin]
  have hmn : (if 15 - n_z < 5 then 15 - n_z else 5) ≤ 5 ∧ (if 15 - n_z < 5 then 15 - n_z else 5) ≤ 15 - n_z := by split <;> omega
  have hmx : (Zfar T x_z y_z) ≤ 5 → (Zfar T x_z y_z) ≤ 15 - n_z → (Zfar T x_z y_z) ≤ (if 15 - n_z < 5 then 15 - n_z else 5) := by split <;> omega
  refine Zs_ile hX (List.cons_ne_nil _ _) (fun h_z => ?_) (fun h_z => ?_)
  · have hF2 := (Zn_le (by omega) (by omega)).mp h_z
    have hF : (Zfar T x_z y_z) ≤ 5 := Nat.le_trans hF2 hmn.1
    have hok : (Zfar T x_z y_z) ≤ 5 ∧ n_z + (Zfar T x_z y_z) ≤ 15 := ⟨hF, by have := Nat.le_trans hF2 hmn.2; omega⟩
    have h4p := (Z4p hF).2
    obtain ⟨r0, hr1, hr2⟩ := hex (by omega)
    have LR : ∀ (q_z i_z : Nat) (M1 : Zmem), i_z + q_z = 4 ^ (Zfar T x_z y_z) → Sc M M1 → M1 38 1 = nI (Zfar T x_z y_z) → M1 35 2 = nI n_z → M1 35 3 = nI T.1 → M1 36 n_z = T.2.1 → M1 37 n_z = T.2.2 → (∀ o_z, o_z < 4 → M1 39 o_z = Zy4 f_z o_z) → Zkb (Zy4 f_z) (Zfar T x_z y_z) (Zbf (Zy4 f_z) T (Zfar T x_z y_z) x_z y_z 0 i_z none) M1 → ZP X Zt149 (Zsf Zt149 101) [(6, .int (nI i_z)), (5, .int (nI (Zfar T x_z y_z))), (0, .ref 38), (1, .ref 1), (2, .ref 35), (3, .int x_z), (4, .int y_z)] [] M1 := by
      intro q_z
      induction q_z with
      | zero =>
        intro i_z M1 hi_z hsc hm_z h1_z h2_z h6_z h7_z hy4 hkb
        obtain rfl : i_z = 4 ^ (Zfar T x_z y_z) := by omega
        obtain ⟨q_z, hq_z⟩ := Zbf_some (Zy4 f_z) T (Zfar T x_z y_z) x_z y_z 0 (4 ^ (Zfar T x_z y_z)) none (Or.inl ⟨r0, Nat.zero_le _, by omega, hr2⟩)
        have hk2 := hkb
        rw [hq_z] at hk2
        have h38_z : ∃ j_z, j_z < 1024 ∧ M1 38 3 = nI j_z := by
          rcases hk2 with ⟨z_z, -⟩ | ⟨j_z, -, j1_z, j2, -⟩
          · cases z_z
          · exact ⟨j_z, j1_z, j2⟩
        obtain ⟨j_z, j1_z, j2⟩ := h38_z
        refine Zgo hX 7 rfl (by (first | exact True.intro | assumption | (dsimp only [ZallP]; and_intros <;> (first | assumption | decide | omega | ((try simp (disch := omega) only [pk_mul, nI_add, Zcl_n]); exact Zin_n (by omega) (by decide)))))) ?_
        rw [hm_z, (Z4p hF).1]
        refine Zs_ige hX (List.cons_ne_nil _ _) (fun h3_z => ?_) (fun h3_z => ?_)
        · refine Zgo hX 2 rfl (by (first | exact True.intro | assumption | (dsimp only [ZallP]; and_intros <;> (first | assumption | decide | omega | ((try simp (disch := omega) only [pk_mul, nI_add, Zcl_n]); exact Zin_n (by omega) (by decide)))))) ?_
          rw [j2]
          refine Zs_lt hX (List.cons_ne_nil _ _) (fun q_z => False.elim ((absurd q_z (Zn_nlt0 (by omega))))) (fun _ => ?_)
          refine Zgo hX 2 rfl (by (first | exact True.intro | assumption | (dsimp only [ZallP]; and_intros <;> (first | assumption | decide | omega | ((try simp (disch := omega) only [pk_mul, nI_add, Zcl_n]); exact Zin_n (by omega) (by decide)))))) ?_
          refine Zs_retz hX hE rfl (by first | exact Or.inl rfl | exact Or.inr rfl) ⟨hsc, Or.inr ⟨hok, hm_z, _, hq_z, hk2, rfl⟩⟩
        · exact absurd (Int32.le_refl _) h3_z
      | succ q_z ih_z =>
        intro i_z M1 hi_z hsc hm_z h1_z h2_z h6_z h7_z hy4 hkb
        refine Zgo hX 7 rfl (by (first | exact True.intro | assumption | (dsimp only [ZallP]; and_intros <;> (first | assumption | decide | omega | ((try simp (disch := omega) only [pk_mul, nI_add, Zcl_n]); exact Zin_n (by omega) (by decide)))))) ?_
        rw [hm_z, (Z4p hF).1]
        refine Zs_ige hX (List.cons_ne_nil _ _) (fun h3_z => ?_) (fun h3_z => ?_)
        · exact absurd ((Zn_le (by omega) (by omega)).mp h3_z) (by omega)
        · refine Zgo hX 5 rfl (by (first | exact True.intro | assumption | (dsimp only [ZallP]; and_intros <;> (first | assumption | decide | omega | ((try simp (disch := omega) only [pk_mul, nI_add, Zcl_n]); exact Zin_n (by omega) (by decide)))))) ?_
          refine Zs_callv hX (List.cons_ne_nil _ _) (k_leads2 T n_z (Zfar T x_z y_z) i_z x_z y_z _ hn2 hF (by omega) hm_z h1_z hw_z h2_z h6_z h7_z) (by first | decide | omega) (by decide) rfl rfl rfl (by decide) (Nat.le_of_ble_eq_true rfl) (fun r_z M' hc_z => ?_)
          obtain ⟨hz0, rfl⟩ := hc_z
          rcases hz0 with ⟨rfl, hl_z⟩ | ⟨rfl, hl_z⟩
          · refine Zs_eq hX (List.cons_ne_nil _ _) (fun q_z => False.elim (by revert q_z; decide)) (fun _ => ?_)
            refine Zgo hX 2 rfl (by (first | exact True.intro | assumption | (dsimp only [ZallP]; and_intros <;> (first | assumption | decide | omega | ((try simp (disch := omega) only [pk_mul, nI_add, Zcl_n]); exact Zin_n (by omega) (by decide)))))) ?_
            refine Zs_callv hX (List.cons_ne_nil _ _) (k_keep3 (Zy4 f_z) (Zfar T x_z y_z) i_z _ _ hF (by omega) hm_z hy4 hkb) (by first | decide | omega) (by decide) rfl rfl rfl (by decide) (Nat.le_of_ble_eq_true rfl) (fun r_z M' hc_z => ?_)
            obtain ⟨rfl, hs2, hm2, k35, k36, k37, k39, hkb2⟩ := hc_z
            refine Zgo hX 2 rfl (by (first | exact True.intro | assumption | (dsimp only [ZallP]; and_intros <;> (first | assumption | decide | omega | ((try simp (disch := omega) only [pk_mul, nI_add, Zcl_n]); exact Zin_n (by omega) (by decide)))))) ?_
            rw [nI_add]
            refine Zs_sub (l' := [(6, .int (nI (i_z + 1))), (5, .int (nI (Zfar T x_z y_z))), (0, .ref 38), (1, .ref 1), (2, .ref 35), (3, .int x_z), (4, .int y_z)]) rfl ?_
            refine ih_z (i_z + 1) M' (by omega) (hsc.tr hs2) hm2 ((k35 2).trans h1_z) ((k35 3).trans h2_z) ((k36 n_z).trans h6_z) ((k37 n_z).trans h7_z) (fun o_z ho => (k39 o_z).trans (hy4 o_z ho)) ?_
            have e_z : Zbf (Zy4 f_z) T (Zfar T x_z y_z) x_z y_z 0 (i_z + 1) none = Zbu (Zy4 f_z) (Zfar T x_z y_z) (Zbf (Zy4 f_z) T (Zfar T x_z y_z) x_z y_z 0 i_z none) i_z := by
              show Zbq (Zy4 f_z) T (Zfar T x_z y_z) x_z y_z (Zbf (Zy4 f_z) T (Zfar T x_z y_z) x_z y_z 0 i_z none) (0 + i_z) = _
              rw [Nat.zero_add]
              unfold Zbq
              rw [if_pos hl_z]
            rw [e_z]
            exact hkb2
          · refine Zs_eq hX (List.cons_ne_nil _ _) (fun _ => ?_) (fun q_z => False.elim (by revert q_z; decide))
            refine Zgo hX 2 rfl (by (first | exact True.intro | assumption | (dsimp only [ZallP]; and_intros <;> (first | assumption | decide | omega | ((try simp (disch := omega) only [pk_mul, nI_add, Zcl_n]); exact Zin_n (by omega) (by decide)))))) ?_
            rw [nI_add]
            refine Zs_sub (l' := [(6, .int (nI (i_z + 1))), (5, .int (nI (Zfar T x_z y_z))), (0, .ref 38), (1, .ref 1), (2, .ref 35), (3, .int x_z), (4, .int y_z)]) rfl ?_
            refine ih_z (i_z + 1) M1 (by omega) hsc hm_z h1_z h2_z h6_z h7_z hy4 ?_
            have e_z : Zbf (Zy4 f_z) T (Zfar T x_z y_z) x_z y_z 0 (i_z + 1) none = Zbf (Zy4 f_z) T (Zfar T x_z y_z) x_z y_z 0 i_z none := by
              show Zbq (Zy4 f_z) T (Zfar T x_z y_z) x_z y_z (Zbf (Zy4 f_z) T (Zfar T x_z y_z) x_z y_z 0 i_z none) (0 + i_z) = _
              rw [Nat.zero_add]
              unfold Zbq
              rw [if_neg hl_z]
            rw [e_z]
            exact hkb
    have LA : ∀ (q_z i_z : Nat) (M1 : Zmem), i_z + q_z = 4 → Sc M M1 → M1 35 2 = nI n_z → M1 35 3 = nI T.1 → M1 36 n_z = T.2.1 → M1 37 n_z = T.2.2 → (∀ o_z, o_z < i_z → M1 39 o_z = Zy4 f_z o_z) → ZP X Zt149 (Zsf Zt149 53) [(6, .int (nI i_z)), (5, .int (nI (Zfar T x_z y_z))), (0, .ref 38), (1, .ref 1), (2, .ref 35), (3, .int x_z), (4, .int y_z)] [] M1 := by
      intro q_z
      induction q_z with
      | zero =>
        intro i_z M1 hi_z hsc h1_z h2_z h6_z h7_z hy4
        obtain rfl : i_z = 4 := by omega
        refine Zgo hX 3 rfl (by (first | exact True.intro | assumption | (dsimp only [ZallP]; and_intros <;> (first | assumption | decide | omega | ((try simp (disch := omega) only [pk_mul, nI_add, Zcl_n]); exact Zin_n (by omega) (by decide)))))) ?_
        refine Zs_ige hX (List.cons_ne_nil _ _) (fun _ => ?_) (fun q_z => False.elim ((q_z (Int32.le_refl _))))
        refine Zgo hX 8 rfl (by (first | exact True.intro | assumption | (dsimp only [ZallP]; and_intros <;> (first | assumption | decide | omega | ((try simp (disch := omega) only [pk_mul, nI_add, Zcl_n]); exact Zin_n (by omega) (by decide)))))) ?_
        refine Zs_sub (l' := [(6, .int (nI 0)), (5, .int (nI (Zfar T x_z y_z))), (0, .ref 38), (1, .ref 1), (2, .ref 35), (3, .int x_z), (4, .int y_z)]) rfl ?_
        exact LR (4 ^ (Zfar T x_z y_z)) 0 _ (by omega) ((hsc.u _ rfl).u _ rfl) rfl h1_z h2_z h6_z h7_z hy4 (Or.inl ⟨rfl, rfl⟩)
      | succ q_z ih_z =>
        intro i_z M1 hi_z hsc h1_z h2_z h6_z h7_z hy4
        have hz1 := hz_z.sc (Or.inl rfl) hsc
        obtain ⟨kd_z, m_z, hkd, hm9, e1_z, e2_z⟩ := Zst_k (show i_z < 4 by omega)
        have eyo : Zy4 f_z i_z = Zyn f_z (Zsaid kd_z m_z (nI 2) (nI 0) (f_z 2)) (nI 2) (nI 0) := by unfold Zy4; rw [e1_z, show (10 * kd_z + m_z) / 10 = kd_z by omega, show (10 * kd_z + m_z) % 10 = m_z by omega]
        refine Zgo hX 3 rfl (by (first | exact True.intro | assumption | (dsimp only [ZallP]; and_intros <;> (first | assumption | decide | omega | ((try simp (disch := omega) only [pk_mul, nI_add, Zcl_n]); exact Zin_n (by omega) (by decide)))))) ?_
        refine Zs_ige hX (List.cons_ne_nil _ _) (fun q_z => False.elim ((absurd ((Zn_le (by omega) (by omega)).mp q_z) (by omega)))) (fun _ => ?_)
        refine Zgo hX 9 rfl (Zin_n (by omega) (by decide)) ?_
        dsimp only
        rw [Zcl_n (show i_z < 2 ^ 31 by omega), e2_z]
        refine Zs_callv hX (List.cons_ne_nil _ _) (k_yarnFor f_z kd_z m_z _ _ _ hkd hm9 hz1.1.2.2.2.1 hz1.2.2.2.2.1 hfi.2.2.2.1) (by first | decide | omega) (by decide) rfl rfl rfl (by decide) (Nat.le_of_ble_eq_true rfl) (fun r_z M' hc_z => ?_)
        obtain ⟨rfl, hs2⟩ := hc_z
        refine Zgo hX 3 rfl (Zin_n (by omega) (by decide)) ?_
        rw [nI_add, Zcl_n (show i_z < 2 ^ 31 by omega), ← eyo]
        refine Zs_sub (l' := [(6, .int (nI (i_z + 1))), (5, .int (nI (Zfar T x_z y_z))), (0, .ref 38), (1, .ref 1), (2, .ref 35), (3, .int x_z), (4, .int y_z)]) rfl ?_
        refine ih_z (i_z + 1) _ (by omega) ((hsc.tr hs2.sc).u _ rfl) ((hs2 35 2 rfl).trans h1_z) ((hs2 35 3 rfl).trans h2_z) ((hs2 36 n_z rfl).trans h6_z) ((hs2 37 n_z rfl).trans h7_z) (fun o_z ho => ?_)
        by_cases e_z : o_z = i_z
        · subst e_z; rw [Zu_s]
        · rw [Zu_o (by omega)]; exact (hs2 39 o_z rfl).trans (hy4 o_z (by omega))
    refine Zgo hX 2 rfl (by (first | exact True.intro | assumption | (dsimp only [ZallP]; and_intros <;> (first | assumption | decide | omega | ((try simp (disch := omega) only [pk_mul, nI_add, Zcl_n]); exact Zin_n (by omega) (by decide)))))) ?_
    refine Zs_sub (l' := [(6, .int (nI 0)), (5, .int (nI (Zfar T x_z y_z))), (0, .ref 38), (1, .ref 1), (2, .ref 35), (3, .int x_z), (4, .int y_z)]) rfl ?_
    exact LA 4 0 _ rfl (Sc.rf _) hr_z hg_z hax hdx (fun o_z ho => absurd ho (Nat.not_lt_zero _))
  · refine Zgo hX 1 rfl (by (first | exact True.intro | assumption | (dsimp only [ZallP]; and_intros <;> (first | assumption | decide | omega | ((try simp (disch := omega) only [pk_mul, nI_add, Zcl_n]); exact Zin_n (by omega) (by decide)))))) ?_
    refine Zs_retz hX hE rfl (by first | exact Or.inl rfl | exact Or.inr rfl) ⟨Sc.rf _, Or.inl ⟨fun q_z => h_z ((Zn_le (by omega) (by omega)).mpr (hmx q_z.1 (by omega))), rfl⟩⟩

set_option maxRecDepth 20000 in
set_option maxHeartbeats 1000000 in
theorem k_stitch2 (F r_z i_z : Nat) (M : Zmem) (hm_z : M 38 1 = nI F) (hF : F ≤ 5) (hr_z : r_z < 1024) (hf_z : M 38 3 = nI r_z) (hi_z : i_z < F) : ZC 148 1 [.ref 38, .int (nI i_z)] M (fun z_z M' => z_z = some (.int (nI (Zst_ (Zdg F r_z i_z)))) ∧ M = M') := by
  refine ZC_of Zt148 Zk148 (Nat.le_of_ble_eq_true rfl) (by decide) rfl (fun X hX hE => ?_)
  refine Zgo hX 1 rfl (by (first | exact True.intro | assumption | (dsimp only [ZallP]; and_intros <;> (first | assumption | decide | omega | ((try simp (disch := omega) only [pk_mul, nI_add, Zcl_n]); exact Zin_n (by omega) (by decide)))))) ?_
  refine Zs_lt hX (List.cons_ne_nil _ _) (fun q_z => False.elim ((absurd q_z (Zn_nlt0 (by omega))))) (fun _ => ?_)
  refine Zgo hX 3 rfl (by (first | exact True.intro | assumption | (dsimp only [ZallP]; and_intros <;> (first | assumption | decide | omega | ((try simp (disch := omega) only [pk_mul, nI_add, Zcl_n]); exact Zin_n (by omega) (by decide)))))) ?_
  rw [hm_z]
  refine Zs_ige hX (List.cons_ne_nil _ _) (fun q_z => False.elim ((absurd ((Zn_le (by omega) (by omega)).mp q_z) (by omega)))) (fun _ => ?_)
  refine Zgo hX 6 rfl (by (first | exact True.intro | assumption | (dsimp only [ZallP]; and_intros <;> (first | assumption | decide | omega | ((try simp (disch := omega) only [pk_mul, nI_add, Zcl_n]); exact Zin_n (by omega) (by decide)))))) ?_
  rw [hf_z, hm_z]
  refine Zs_calls hX (List.cons_ne_nil _ _) (by decide) (k_digit2 F r_z i_z _ hF hi_z hr_z) (by first | decide | omega) rfl rfl (by decide) (Nat.le_of_ble_eq_true rfl) (fun r_z M' hc_z => ?_)
  obtain ⟨rfl, rfl⟩ := hc_z
  have hd_z := Zdg_lt F r_z i_z
  obtain ⟨kd_z, m_z, hkd, hm9, e1_z, e2_z⟩ := Zst_k hd_z
  refine Zgo hX 2 rfl (Zin_n hd_z (by decide)) ?_
  dsimp only
  rw [Zcl_n (by omega), e2_z]
  refine Zs_ret hX hE rfl ⟨by rw [e1_z], rfl⟩

set_option maxRecDepth 20000 in
set_option maxHeartbeats 1000000 in
theorem k_stitch3 (F : Nat) (p_z : Int32) (M : Zmem) (hm_z : M 38 1 = nI F) (hp : nI F ≤ p_z) (hF : F ≤ 5) : ZC 148 1 [.ref 38, .int p_z] M (fun z_z M' => z_z = some (.int (-(nI 1))) ∧ M = M') := by
  refine ZC_of Zt148 Zk148 (Nat.le_of_ble_eq_true rfl) (by decide) rfl (fun X hX hE => ?_)
  have h0_z : ¬ p_z < 0 := by
    have h1_z := (Zle_i _ _).mp hp
    rw [Zn_i (by omega)] at h1_z
    intro q_z
    have h2_z := (Zlt_i _ _).mp q_z
    have e0_z : (0 : Int32).toInt = 0 := rfl
    omega
  refine Zgo hX 1 rfl (by (first | exact True.intro | assumption | (dsimp only [ZallP]; and_intros <;> (first | assumption | decide | omega | ((try simp (disch := omega) only [pk_mul, nI_add, Zcl_n]); exact Zin_n (by omega) (by decide)))))) ?_
  refine Zs_lt hX (List.cons_ne_nil _ _) (fun q_z => False.elim ((absurd q_z h0_z))) (fun _ => ?_)
  refine Zgo hX 3 rfl (by (first | exact True.intro | assumption | (dsimp only [ZallP]; and_intros <;> (first | assumption | decide | omega | ((try simp (disch := omega) only [pk_mul, nI_add, Zcl_n]); exact Zin_n (by omega) (by decide)))))) ?_
  rw [hm_z]
  refine Zs_ige hX (List.cons_ne_nil _ _) (fun _ => ?_) (fun q_z => False.elim ((absurd hp q_z)))
  refine Zgo hX 1 rfl (by (first | exact True.intro | assumption | (dsimp only [ZallP]; and_intros <;> (first | assumption | decide | omega | ((try simp (disch := omega) only [pk_mul, nI_add, Zcl_n]); exact Zin_n (by omega) (by decide)))))) ?_
  refine Zs_ret hX hE rfl ⟨rfl, rfl⟩

set_option maxRecDepth 20000 in
set_option maxHeartbeats 1000000 in
theorem k_reach2 (f_z : Nat → Int32) (n_z : Nat) (x_z y_z what : Int32) (M : Zmem) (hz_z : Zrv 1 f_z M) (hfi : Zfi f_z) (hn_z : f_z 7 = nI n_z) (hn2 : n_z ≤ 15) : ZC 20 6 [.ref 0, .int x_z, .int y_z, .int what] M (fun z_z M' => z_z = some (.int (Freach f_z n_z x_z y_z what)) ∧ Sc M M') := by
  refine ZC_of Zt20 Zk20 (Nat.le_of_ble_eq_true rfl) (by decide) rfl (fun X hX hE => ?_)
  have BAD : ¬ ((-(nI 9) ≤ x_z ∧ x_z ≤ nI 9) ∧ (-(nI 9) ≤ y_z ∧ y_z ≤ nI 9) ∧ -(nI 2) ≤ what ∧ what ≤ nI 4) → ZP X Zt20 (Zsf Zt20 32) (lv_args 0 [.ref 0, .int x_z, .int y_z, .int what]) [] M := by
    intro hbad
    refine Zgo hX 2 rfl (by (first | exact True.intro | assumption | (dsimp only [ZallP]; and_intros <;> (first | assumption | decide | omega | ((try simp (disch := omega) only [pk_mul, nI_add, Zcl_n]); exact Zin_n (by omega) (by decide)))))) ?_
    refine Zs_callv hX (List.cons_ne_nil _ _) (k_refuse 1 _ (by decide)) (by first | decide | omega) (by decide) rfl rfl rfl (by decide) (Nat.le_of_ble_eq_true rfl) (fun r_z M' hc_z => ?_)
    obtain ⟨rfl, hsc⟩ := hc_z
    refine Zs_ret hX hE rfl ⟨by rw [Freach, if_neg hbad], hsc⟩
  refine Zgo hX 3 rfl (by (first | exact True.intro | assumption | (dsimp only [ZallP]; and_intros <;> (first | assumption | decide | omega | ((try simp (disch := omega) only [pk_mul, nI_add, Zcl_n]); exact Zin_n (by omega) (by decide)))))) ?_
  refine Zs_calls hX (List.cons_ne_nil _ _) (by decide) (k_within _ _ _ _) (by first | decide | omega) rfl rfl (by decide) (Nat.le_of_ble_eq_true rfl) (fun r_z M' hc_z => ?_)
  rcases hc_z with ⟨⟨rfl, h1_z⟩ | ⟨rfl, h1_z⟩, rfl⟩
  · refine Zs_eq hX (List.cons_ne_nil _ _) (fun q_z => False.elim (by revert q_z; decide)) (fun _ => ?_)
    refine Zgo hX 3 rfl (by (first | exact True.intro | assumption | (dsimp only [ZallP]; and_intros <;> (first | assumption | decide | omega | ((try simp (disch := omega) only [pk_mul, nI_add, Zcl_n]); exact Zin_n (by omega) (by decide)))))) ?_
    refine Zs_calls hX (List.cons_ne_nil _ _) (by decide) (k_within _ _ _ _) (by first | decide | omega) rfl rfl (by decide) (Nat.le_of_ble_eq_true rfl) (fun r_z M' hc_z => ?_)
    rcases hc_z with ⟨⟨rfl, h2_z⟩ | ⟨rfl, h2_z⟩, rfl⟩
    · refine Zs_eq hX (List.cons_ne_nil _ _) (fun q_z => False.elim (by revert q_z; decide)) (fun _ => ?_)
      refine Zgo hX 3 rfl (by (first | exact True.intro | assumption | (dsimp only [ZallP]; and_intros <;> (first | assumption | decide | omega | ((try simp (disch := omega) only [pk_mul, nI_add, Zcl_n]); exact Zin_n (by omega) (by decide)))))) ?_
      refine Zs_calls hX (List.cons_ne_nil _ _) (by decide) (k_within _ _ _ _) (by first | decide | omega) rfl rfl (by decide) (Nat.le_of_ble_eq_true rfl) (fun r_z M' hc_z => ?_)
      rcases hc_z with ⟨⟨rfl, h3_z⟩ | ⟨rfl, h3_z⟩, rfl⟩
      · refine Zs_ne hX (List.cons_ne_nil _ _) (fun _ => ?_) (fun q_z => False.elim (by revert q_z; decide))
        have hall : Freach f_z n_z x_z y_z what = Fr0 (Zy4 f_z) (Zs0 f_z n_z) n_z x_z y_z what := by rw [Freach, if_pos ⟨h1_z, h2_z, h3_z⟩]
        refine Zgo hX 4 rfl (by (first | exact True.intro | assumption | (dsimp only [ZallP]; and_intros <;> (first | assumption | decide | omega | ((try simp (disch := omega) only [pk_mul, nI_add, Zcl_n]); exact Zin_n (by omega) (by decide)))))) ?_
        refine Zs_callv hX (List.cons_ne_nil _ _) (k_follow f_z n_z M hz_z hfi hn_z hn2) (by first | decide | omega) (by decide) rfl rfl rfl (by decide) (Nat.le_of_ble_eq_true rfl) (fun r_z M' hc_z => ?_)
        obtain ⟨rfl, hsc, hr_z, hg_z, hco⟩ := hc_z
        have bx := Zax_b f_z n_z (by omega)
        have bd := Zdx_b f_z n_z (by omega)
        refine Zgo hX 8 rfl (by (first | exact True.intro | assumption | (dsimp only [ZallP]; and_intros <;> (first | assumption | decide | omega | ((try simp (disch := omega) only [pk_mul, nI_add, Zcl_n]); exact Zin_n (by omega) (by decide)))))) ?_
        refine Zs_callv hX (List.cons_ne_nil _ _) (k_finds2 f_z n_z (Zs0 f_z n_z) x_z y_z _ (hz_z.sc (Or.inl rfl) hsc) hfi hn_z hn2 hr_z (Zgw_lt hfi n_z) hg_z (hco n_z (Nat.le_refl _)).1 (hco n_z (Nat.le_refl _)).2 (show -15 ≤ (Zax f_z n_z).toInt ∧ (Zax f_z n_z).toInt ≤ 15 by omega) (show -15 ≤ (Zdx f_z n_z).toInt ∧ (Zdx f_z n_z).toInt ≤ 15 by omega) (by have := (Zle_i _ _).mp h1_z.1; have := (Zle_i _ _).mp h1_z.2; rw [Zn_i (by decide)] at this; have e_z := Zneg9; omega) (by have := (Zle_i _ _).mp h2_z.1; have := (Zle_i _ _).mp h2_z.2; rw [Zn_i (by decide)] at this; have e_z := Zneg9; omega)) (by first | decide | omega) (by decide) rfl rfl rfl (by decide) (Nat.le_of_ble_eq_true rfl) (fun r_z M' hc_z => ?_)
        obtain ⟨hs2, ⟨hno, rfl⟩ | ⟨hok, hm_z, q_z, hq_z, hkb, rfl⟩⟩ := hc_z
        · refine Zs_ne hX (List.cons_ne_nil _ _) (fun q_z => False.elim (by revert q_z; decide)) (fun _ => ?_)
          refine Zgo hX 2 rfl (by (first | exact True.intro | assumption | (dsimp only [ZallP]; and_intros <;> (first | assumption | decide | omega | ((try simp (disch := omega) only [pk_mul, nI_add, Zcl_n]); exact Zin_n (by omega) (by decide)))))) ?_
          refine Zs_callv hX (List.cons_ne_nil _ _) (k_refuse 2 _ (by decide)) (by first | decide | omega) (by decide) rfl rfl rfl (by decide) (Nat.le_of_ble_eq_true rfl) (fun r_z M' hc_z => ?_)
          obtain ⟨rfl, hs3⟩ := hc_z
          refine Zs_ret hX hE rfl ⟨by rw [hall, Fr0_n hno], (hsc.tr hs2).tr hs3⟩
        · refine Zs_ne hX (List.cons_ne_nil _ _) (fun _ => ?_) (fun q_z => False.elim (by revert q_z; decide))
          have hv_z := Fr0_y (what := what) hok hq_z
          rcases hkb with ⟨z_z, -⟩ | ⟨q', hq', hq2, hf3, hf2⟩
          · cases z_z
          · obtain rfl : q' = q_z := (Option.some.inj hq').symm
            refine Zgo hX 2 rfl (by (first | exact True.intro | assumption | (dsimp only [ZallP]; and_intros <;> (first | assumption | decide | omega | ((try simp (disch := omega) only [pk_mul, nI_add, Zcl_n]); exact Zin_n (by omega) (by decide)))))) ?_
            refine Zs_ine hX (List.cons_ne_nil _ _) (fun h4_z => ?_) (fun h4_z => ?_)
            · refine Zgo hX 2 rfl (by (first | exact True.intro | assumption | (dsimp only [ZallP]; and_intros <;> (first | assumption | decide | omega | ((try simp (disch := omega) only [pk_mul, nI_add, Zcl_n]); exact Zin_n (by omega) (by decide)))))) ?_
              refine Zs_ine hX (List.cons_ne_nil _ _) (fun h5_z => ?_) (fun h5_z => ?_)
              · by_cases h6_z : nI (Zfar (Zs0 f_z n_z) x_z y_z) ≤ what
                · refine Zgo hX 3 rfl (by (first | exact True.intro | assumption | (dsimp only [ZallP]; and_intros <;> (first | assumption | decide | omega | ((try simp (disch := omega) only [pk_mul, nI_add, Zcl_n]); exact Zin_n (by omega) (by decide)))))) ?_
                  refine Zs_callv hX (List.cons_ne_nil _ _) (k_stitch3 _ what _ hm_z h6_z hok.1) (by first | decide | omega) (by decide) rfl rfl rfl (by decide) (Nat.le_of_ble_eq_true rfl) (fun r_z M' hc_z => ?_)
                  obtain ⟨rfl, rfl⟩ := hc_z
                  refine Zs_ret hX hE rfl ⟨by rw [hall, hv_z, if_neg h4_z, if_neg h5_z, if_pos h6_z], hsc.tr hs2⟩
                · obtain ⟨i_z, hi_z, rfl, ei⟩ := Zwhat hok.1 h3_z h4_z h5_z h6_z
                  refine Zgo hX 3 rfl (by (first | exact True.intro | assumption | (dsimp only [ZallP]; and_intros <;> (first | assumption | decide | omega | ((try simp (disch := omega) only [pk_mul, nI_add, Zcl_n]); exact Zin_n (by omega) (by decide)))))) ?_
                  refine Zs_callv hX (List.cons_ne_nil _ _) (k_stitch2 _ q' i_z _ hm_z hok.1 hq2 hf3 hi_z) (by first | decide | omega) (by decide) rfl rfl rfl (by decide) (Nat.le_of_ble_eq_true rfl) (fun r_z M' hc_z => ?_)
                  obtain ⟨rfl, rfl⟩ := hc_z
                  refine Zs_ret hX hE rfl ⟨by rw [hall, hv_z, if_neg h4_z, if_neg h5_z, if_neg h6_z, ei], hsc.tr hs2⟩
              · refine Zgo hX 4 rfl (by (first | exact True.intro | assumption | (dsimp only [ZallP]; and_intros <;> (first | assumption | decide | omega | ((try simp (disch := omega) only [pk_mul, nI_add, Zcl_n]); exact Zin_n (by omega) (by decide)))))) ?_
                rw [hf2]
                refine Zs_ret hX hE rfl ⟨by rw [hall, hv_z, if_neg h4_z, if_pos h5_z], hsc.tr hs2⟩
            · refine Zgo hX 3 rfl (by (first | exact True.intro | assumption | (dsimp only [ZallP]; and_intros <;> (first | assumption | decide | omega | ((try simp (disch := omega) only [pk_mul, nI_add, Zcl_n]); exact Zin_n (by omega) (by decide)))))) ?_
              rw [hm_z]
              refine Zs_ret hX hE rfl ⟨by rw [hall, hv_z, if_pos h4_z], hsc.tr hs2⟩
      · refine Zs_ne hX (List.cons_ne_nil _ _) (fun q_z => False.elim (by revert q_z; decide)) (fun _ => ?_)
        exact BAD (fun q_z => h3_z q_z.2.2)
    · refine Zs_eq hX (List.cons_ne_nil _ _) (fun _ => ?_) (fun q_z => False.elim (by revert q_z; decide))
      exact BAD (fun q_z => h2_z q_z.2.1)
  · refine Zs_eq hX (List.cons_ne_nil _ _) (fun _ => ?_) (fun q_z => False.elim (by revert q_z; decide))
    exact BAD (fun q_z => h1_z q_z.1)

set_option maxRecDepth 20000 in
set_option maxHeartbeats 1000000 in
theorem s_leads02 (f_z : Nat → Int32) (T : Zwy) (n_z N P fr : Nat) (x_z y_z : Int32) (b_z : Option Nat) (M : Zmem) (hn_z : M 54 7 = nI n_z) (hN : N ≤ 5) (hnN : n_z + N ≤ 15) (hp : Zpe T n_z N P M) (hb_z : Zrb (Zy4 f_z) N b_z M) : ZC 107 fr [.ref 53, .int (nI N), .int (nI N), .int x_z, .int y_z, .int (Zyz (Zy4 f_z) N P)] M (Zpo (Zy4 f_z) T n_z N x_z y_z N P b_z M) := by
  refine ZC_of Zt107 Zk107 (Nat.le_of_ble_eq_true rfl) (by decide) rfl (fun X hX hE => ?_)
  obtain ⟨hg_z, hpa, hpd, hps⟩ := hp
  have e0_z : P * 4 ^ (N - N) = P := by rw [Nat.sub_self, Nat.pow_zero, Nat.mul_one]
  have e1_z : 4 ^ (N - N) = 1 := by rw [Nat.sub_self, Nat.pow_zero]
  have hbf : Zbf (Zy4 f_z) T N x_z y_z (P * 4 ^ (N - N)) (4 ^ (N - N)) b_z = Zbq (Zy4 f_z) T N x_z y_z b_z P := by rw [e0_z, e1_z]; rfl
  refine Zgo hX 9 rfl (Zin_n (by decide) (by decide)) ?_
  try simp (disch := omega) only [Zcl_n, pk_mul, nI_add]
  rw [hn_z, nI_add]
  refine Zs_ine hX (List.cons_ne_nil _ _) (fun q_z => False.elim ((q_z rfl))) (fun _ => ?_)
  have FIN1 : ∀ (M1 : Zmem), Zldr T N x_z y_z P → Sc M M1 → M1 53 15 = M 53 15 → (∀ j_z, M1 61 j_z = M 61 j_z) → (∀ j_z, M1 62 j_z = M 62 j_z) → (∀ j_z, M1 63 j_z = M 63 j_z) → Zrb (Zy4 f_z) N (Zbu (Zy4 f_z) N b_z P) M1 → ZP X Zt107 (Zsf Zt107 103) [(7, .int (nI 1))] [] M1 := by
    intro M1 hl_z hsc h15_z h61_z h62_z h63_z hrb
    refine Zgo hX 1 rfl (by (first | exact True.intro | assumption | (dsimp only [ZallP]; and_intros <;> (first | assumption | decide | omega | ((try simp (disch := omega) only [pk_mul, nI_add, Zcl_n]); exact Zin_n (by omega) (by decide)))))) ?_
    refine Zs_retz hX hE rfl (by first | exact Or.inl rfl | exact Or.inr rfl) ⟨Or.inl ⟨rfl, by rw [e0_z, e1_z]; exact Zhit_1.mpr hl_z⟩, hsc, h15_z, fun j_z _ => ⟨h61_z j_z, h62_z j_z⟩, fun j_z _ => h63_z j_z, by rw [hbf]; unfold Zbq; rw [if_pos hl_z]; exact hrb⟩
  have FIN0 : ¬ Zldr T N x_z y_z P → ZP X Zt107 (Zsf Zt107 103) [(7, .int (nI 0))] [] M := by
    intro hl_z
    refine Zgo hX 1 rfl (by (first | exact True.intro | assumption | (dsimp only [ZallP]; and_intros <;> (first | assumption | decide | omega | ((try simp (disch := omega) only [pk_mul, nI_add, Zcl_n]); exact Zin_n (by omega) (by decide)))))) ?_
    refine Zs_retz hX hE rfl (by first | exact Or.inl rfl | exact Or.inr rfl) ⟨Or.inr ⟨rfl, by rw [e0_z, e1_z]; exact fun q_z => hl_z (Zhit_1.mp q_z)⟩, Sc.rf _, rfl, fun j_z _ => ⟨rfl, rfl⟩, fun j_z _ => rfl, by rw [hbf]; unfold Zbq; rw [if_neg hl_z]; exact hb_z⟩
  have LC : ∀ (q_z i_z : Nat) (M1 : Zmem), i_z + q_z = N → Zldr T N x_z y_z P → Zbu (Zy4 f_z) N b_z P = some P → Sc M M1 → M1 53 15 = M 53 15 → (∀ j_z, M1 61 j_z = M 61 j_z) → (∀ j_z, M1 62 j_z = M 62 j_z) → (∀ j_z, M1 63 j_z = M 63 j_z) → M1 53 18 = (Zyz (Zy4 f_z) N P) → (∀ j_z, j_z < i_z → M1 64 j_z = nI (Zst_ (Zdg N P j_z))) → ZP X Zt107 (Zsf Zt107 77) [(7, .int (nI 1)), (8, .int (nI i_z)), (0, .ref 53), (2, .int (nI N))] [] M1 := by
    intro q_z
    induction q_z with
    | zero =>
      intro i_z M1 hi_z hl_z hu_z hsc h15_z h61_z h62_z h63_z h18_z h64_z
      obtain rfl : i_z = N := by omega
      refine Zgo hX 2 rfl (by (first | exact True.intro | assumption | (dsimp only [ZallP]; and_intros <;> (first | assumption | decide | omega | ((try simp (disch := omega) only [pk_mul, nI_add, Zcl_n]); exact Zin_n (by omega) (by decide)))))) ?_
      refine Zs_ige hX (List.cons_ne_nil _ _) (fun _ => ?_) (fun q_z => False.elim ((q_z (Int32.le_refl _))))
      refine Zs_sub (l' := [(7, .int (nI 1))]) rfl ?_
      exact FIN1 M1 hl_z hsc h15_z h61_z h62_z h63_z (by rw [hu_z]; exact Or.inr ⟨P, rfl, h18_z, h64_z⟩)
    | succ q_z ih_z =>
      intro i_z M1 hi_z hl_z hu_z hsc h15_z h61_z h62_z h63_z h18_z h64_z
      refine Zgo hX 2 rfl (by (first | exact True.intro | assumption | (dsimp only [ZallP]; and_intros <;> (first | assumption | decide | omega | ((try simp (disch := omega) only [pk_mul, nI_add, Zcl_n]); exact Zin_n (by omega) (by decide)))))) ?_
      refine Zs_ige hX (List.cons_ne_nil _ _) (fun q_z => False.elim ((absurd ((Zn_le (by omega) (by omega)).mp q_z) (by omega)))) (fun _ => ?_)
      refine Zgo hX 10 rfl (by dsimp only [ZallP]; exact ⟨Zin_n (by omega) (by decide), Zin_n (by omega) (by decide)⟩) ?_
      rw [nI_add, Zcl_n (show i_z < 2 ^ 31 by omega), h63_z i_z, hps i_z (by omega)]
      refine Zs_sub (l' := [(7, .int (nI 1)), (8, .int (nI (i_z + 1))), (0, .ref 53), (2, .int (nI N))]) rfl ?_
      refine ih_z (i_z + 1) _ (by omega) hl_z hu_z (hsc.u _ rfl) h15_z h61_z h62_z h63_z h18_z (fun j_z hj_z => ?_)
      by_cases e_z : j_z = i_z
      · subst e_z; rw [Zu_s]
      · rw [Zu_o (by omega)]; exact h64_z j_z (by omega)
  have L44y : Zldr T N x_z y_z P → ZP X Zt107 (Zsf Zt107 44) [(0, .ref 53), (2, .int (nI N)), (5, .int (Zyz (Zy4 f_z) N P))] [.int (nI 1)] M := by
    intro hl_z
    refine Zgo hX 2 rfl (by (first | exact True.intro | assumption | (dsimp only [ZallP]; and_intros <;> (first | assumption | decide | omega | ((try simp (disch := omega) only [pk_mul, nI_add, Zcl_n]); exact Zin_n (by omega) (by decide)))))) ?_
    refine Zs_eq hX (List.cons_ne_nil _ _) (fun q_z => False.elim (by revert q_z; decide)) (fun _ => ?_)
    have TAKE : Zbu (Zy4 f_z) N b_z P = some P → ZP X Zt107 (Zsf Zt107 68) [(7, .int (nI 1)), (0, .ref 53), (2, .int (nI N)), (5, .int (Zyz (Zy4 f_z) N P))] [] M := by
      intro hu_z
      refine Zgo hX 5 rfl (by (first | exact True.intro | assumption | (dsimp only [ZallP]; and_intros <;> (first | assumption | decide | omega | ((try simp (disch := omega) only [pk_mul, nI_add, Zcl_n]); exact Zin_n (by omega) (by decide)))))) ?_
      refine Zs_sub (l' := [(7, .int (nI 1)), (8, .int (nI 0)), (0, .ref 53), (2, .int (nI N))]) rfl ?_
      exact LC N 0 _ (by omega) hl_z hu_z ((Sc.rf M).u _ rfl) rfl (fun _ => rfl) (fun _ => rfl) (fun _ => rfl) rfl (fun j_z hj_z => absurd hj_z (Nat.not_lt_zero _))
    refine Zgo hX 3 rfl (by (first | exact True.intro | assumption | (dsimp only [ZallP]; and_intros <;> (first | assumption | decide | omega | ((try simp (disch := omega) only [pk_mul, nI_add, Zcl_n]); exact Zin_n (by omega) (by decide)))))) ?_
    rcases hb_z with ⟨rfl, hb1⟩ | ⟨q_z, rfl, hb1, hb2⟩
    · rw [hb1]
      refine Zs_ieq hX (List.cons_ne_nil _ _) (fun _ => ?_) (fun q_z => False.elim ((q_z rfl)))
      refine Zs_sub (l' := [(7, .int (nI 1)), (0, .ref 53), (2, .int (nI N)), (5, .int (Zyz (Zy4 f_z) N P))]) rfl ?_
      exact TAKE rfl
    · rw [hb1]
      refine Zs_ieq hX (List.cons_ne_nil _ _) (fun q_z => False.elim ((absurd q_z (Zyz_n f_z (by omega))))) (fun _ => ?_)
      refine Zgo hX 3 rfl (by (first | exact True.intro | assumption | (dsimp only [ZallP]; and_intros <;> (first | assumption | decide | omega | ((try simp (disch := omega) only [pk_mul, nI_add, Zcl_n]); exact Zin_n (by omega) (by decide)))))) ?_
      rw [hb1]
      refine Zs_ige hX (List.cons_ne_nil _ _) (fun h2_z => ?_) (fun h2_z => ?_)
      · have h3_z : ¬ Zyz (Zy4 f_z) N P < Zyz (Zy4 f_z) N q_z := Int32.not_lt.mpr h2_z
        refine Zs_sub (l' := [(7, .int (nI 1))]) rfl ?_
        exact FIN1 M hl_z (Sc.rf _) rfl (fun _ => rfl) (fun _ => rfl) (fun _ => rfl) (by unfold Zbu; dsimp only; rw [if_neg h3_z]; exact Or.inr ⟨q_z, rfl, hb1, hb2⟩)
      · have h3_z : Zyz (Zy4 f_z) N P < Zyz (Zy4 f_z) N q_z := Int32.not_le.mp h2_z
        refine Zs_sub (l' := [(7, .int (nI 1)), (0, .ref 53), (2, .int (nI N)), (5, .int (Zyz (Zy4 f_z) N P))]) rfl ?_
        exact TAKE (by unfold Zbu; dsimp only; rw [if_pos h3_z])
  have L44n : ¬ Zldr T N x_z y_z P → ZP X Zt107 (Zsf Zt107 44) [(0, .ref 53), (2, .int (nI N)), (5, .int (Zyz (Zy4 f_z) N P))] [.int (nI 0)] M := by
    intro hl_z
    refine Zgo hX 2 rfl (by (first | exact True.intro | assumption | (dsimp only [ZallP]; and_intros <;> (first | assumption | decide | omega | ((try simp (disch := omega) only [pk_mul, nI_add, Zcl_n]); exact Zin_n (by omega) (by decide)))))) ?_
    refine Zs_eq hX (List.cons_ne_nil _ _) (fun _ => ?_) (fun q_z => False.elim (by revert q_z; decide))
    refine Zs_sub (l' := [(7, .int (nI 0))]) rfl ?_
    exact FIN0 hl_z
  refine Zgo hX 5 rfl (Zin_n (by omega) (by decide)) ?_
  rw [Zcl_n (show n_z + N < 2 ^ 31 by omega), hpa]
  refine Zs_ine hX (List.cons_ne_nil _ _) (fun h_z => ?_) (fun h_z => ?_)
  · refine Zgo hX 1 rfl (by (first | exact True.intro | assumption | (dsimp only [ZallP]; and_intros <;> (first | assumption | decide | omega | ((try simp (disch := omega) only [pk_mul, nI_add, Zcl_n]); exact Zin_n (by omega) (by decide)))))) ?_
    refine Zs_sub (l' := [(0, .ref 53), (2, .int (nI N)), (5, .int (Zyz (Zy4 f_z) N P))]) rfl ?_
    exact L44n (fun q_z => h_z q_z.1)
  · refine Zgo hX 5 rfl (Zin_n (by omega) (by decide)) ?_
    rw [Zcl_n (show n_z + N < 2 ^ 31 by omega), hpd]
    refine Zs_ine hX (List.cons_ne_nil _ _) (fun h2_z => ?_) (fun h2_z => ?_)
    · refine Zgo hX 1 rfl (by (first | exact True.intro | assumption | (dsimp only [ZallP]; and_intros <;> (first | assumption | decide | omega | ((try simp (disch := omega) only [pk_mul, nI_add, Zcl_n]); exact Zin_n (by omega) (by decide)))))) ?_
      refine Zs_sub (l' := [(0, .ref 53), (2, .int (nI N)), (5, .int (Zyz (Zy4 f_z) N P))]) rfl ?_
      exact L44n (fun q_z => h2_z q_z.2)
    · refine Zgo hX 2 rfl (by (first | exact True.intro | assumption | (dsimp only [ZallP]; and_intros <;> (first | assumption | decide | omega | ((try simp (disch := omega) only [pk_mul, nI_add, Zcl_n]); exact Zin_n (by omega) (by decide)))))) ?_
      refine Zs_sub (l' := [(0, .ref 53), (2, .int (nI N)), (5, .int (Zyz (Zy4 f_z) N P))]) rfl ?_
      exact L44y ⟨h_z, h2_z⟩

set_option maxRecDepth 20000 in
set_option maxHeartbeats 4000000 in
theorem s_leads12 (f_z : Nat → Int32) (T : Zwy) (n_z N k_z P fr : Nat) (x_z y_z : Int32) (b_z : Option Nat) (M : Zmem) (hfi : Zfi f_z) (hf_z : M 54 = f_z) (hn_z : f_z 7 = nI n_z) (hT : T.1 < 4) (hN : N ≤ 5) (hkN : k_z < N) (hnN : n_z + N ≤ 15) (hp : Zpe T n_z k_z P M) (hb_z : Zrb (Zy4 f_z) N b_z M) (hfr : 4 ≤ fr) (ih_z : ∀ (P : Nat) (b_z : Option Nat) (M : Zmem), M 54 = f_z → Zpe T n_z (k_z + 1) P M → Zrb (Zy4 f_z) N b_z M → ZC 107 fr [.ref 53, .int (nI (k_z + 1)), .int (nI N), .int x_z, .int y_z, .int (Zyz (Zy4 f_z) (k_z + 1) P)] M (Zpo (Zy4 f_z) T n_z N x_z y_z (k_z + 1) P b_z M)) : ZC 107 (fr + 1) [.ref 53, .int (nI k_z), .int (nI N), .int x_z, .int y_z, .int (Zyz (Zy4 f_z) k_z P)] M (Zpo (Zy4 f_z) T n_z N x_z y_z k_z P b_z M) := by
  refine ZC_of Zt107 Zk107 (Nat.le_of_ble_eq_true rfl) (by decide) rfl (fun X hX hE => ?_)
  obtain ⟨hg_z, hpa, hpd, hps⟩ := hp
  have hw_z := Zpz_w hT k_z P
  have eE : 4 ^ (N - k_z) = 4 ^ (N - (k_z + 1)) * 4 := by rw [show N - k_z = N - (k_z + 1) + 1 by omega, Nat.pow_succ]
  refine Zgo hX 9 rfl (Zin_n (by decide) (by decide)) ?_
  try simp (disch := omega) only [Zcl_n, pk_mul, nI_add]
  rw [show M 54 7 = nI n_z by rw [hf_z]; exact hn_z, nI_add]
  refine Zs_ine hX (List.cons_ne_nil _ _) (fun _ => ?_) (fun q_z => False.elim ((absurd (Zeq (by omega) (by omega) q_z) (by omega))))
  have L : ∀ (q_z o_z : Nat) (iz : Int32) (M1 : Zmem), o_z + q_z = 4 → ((iz = nI 1 ∧ Zhit T N x_z y_z (P * 4 ^ (N - k_z)) (o_z * 4 ^ (N - (k_z + 1)))) ∨ (iz = nI 0 ∧ ¬ Zhit T N x_z y_z (P * 4 ^ (N - k_z)) (o_z * 4 ^ (N - (k_z + 1))))) → Sc M M1 → (∀ j_z, j_z ≤ n_z + k_z → M1 61 j_z = M 61 j_z ∧ M1 62 j_z = M 62 j_z) → (∀ j_z, j_z < k_z → M1 63 j_z = M 63 j_z) → Zrb (Zy4 f_z) N (Zbf (Zy4 f_z) T N x_z y_z (P * 4 ^ (N - k_z)) (o_z * 4 ^ (N - (k_z + 1))) b_z) M1 → ZP X Zt107 (Zsf Zt107 118) [(7, .int (nI (Zpz T k_z P).1)), (8, .int iz), (9, .int (nI o_z)), (0, .ref 53), (1, .int (nI k_z)), (2, .int (nI N)), (3, .int x_z), (4, .int y_z), (5, .int (Zyz (Zy4 f_z) k_z P)), (6, .int (nI (n_z + k_z)))] [] M1 := by
    intro q_z
    induction q_z with
    | zero =>
      intro o_z iz M1 ho hiz hsc h61_z h63_z hrb
      obtain rfl : o_z = 4 := by omega
      have eo : 4 * 4 ^ (N - (k_z + 1)) = 4 ^ (N - k_z) := by rw [eE, Nat.mul_comm]
      rw [eo] at hiz hrb
      refine Zgo hX 2 rfl (by (first | exact True.intro | assumption | (dsimp only [ZallP]; and_intros <;> (first | assumption | decide | omega | ((try simp (disch := omega) only [pk_mul, nI_add, Zcl_n]); exact Zin_n (by omega) (by decide)))))) ?_
      refine Zs_ige hX (List.cons_ne_nil _ _) (fun _ => ?_) (fun q_z => False.elim ((q_z (Int32.le_refl _))))
      refine Zgo hX 4 rfl (by (first | exact True.intro | assumption | (dsimp only [ZallP]; and_intros <;> (first | assumption | decide | omega | ((try simp (disch := omega) only [pk_mul, nI_add, Zcl_n]); exact Zin_n (by omega) (by decide)))))) ?_
      rcases hiz with ⟨rfl, hit⟩ | ⟨rfl, hit⟩
      · refine Zs_retz hX hE rfl (by first | exact Or.inl rfl | exact Or.inr rfl) ⟨Or.inl ⟨rfl, hit⟩, hsc.u _ rfl, hg_z.symm, h61_z, h63_z, Zrb_kp hrb rfl (fun _ _ => rfl)⟩
      · refine Zs_retz hX hE rfl (by first | exact Or.inl rfl | exact Or.inr rfl) ⟨Or.inr ⟨rfl, hit⟩, hsc.u _ rfl, hg_z.symm, h61_z, h63_z, Zrb_kp hrb rfl (fun _ _ => rfl)⟩
    | succ q_z ihq =>
      intro o_z iz M1 ho hiz hsc h61_z h63_z hrb
      have ho4 : o_z < 4 := by omega
      obtain ⟨kd_z, m_z, hkd, hm9, e1_z, e2_z⟩ := Zst_k ho4
      have ebo : Zbo o_z = Zbn kd_z m_z := by unfold Zbo; rw [e1_z, show (10 * kd_z + m_z) / 10 = kd_z by omega, show (10 * kd_z + m_z) % 10 = m_z by omega]
      have eyo : Zy4 f_z o_z = Zyn f_z (Zsaid kd_z m_z (nI 2) (nI 0) (f_z 2)) (nI 2) (nI 0) := by unfold Zy4; rw [e1_z, show (10 * kd_z + m_z) / 10 = kd_z by omega, show (10 * kd_z + m_z) % 10 = m_z by omega]
      obtain ⟨b1_z, b2_z⟩ := Zbn_ok hkd hm9
      refine Zgo hX 2 rfl (by (first | exact True.intro | assumption | (dsimp only [ZallP]; and_intros <;> (first | assumption | decide | omega | ((try simp (disch := omega) only [pk_mul, nI_add, Zcl_n]); exact Zin_n (by omega) (by decide)))))) ?_
      refine Zs_ige hX (List.cons_ne_nil _ _) (fun q_z => False.elim ((absurd ((Zn_le (by omega) (by omega)).mp q_z) (by omega)))) (fun _ => ?_)
      refine Zgo hX 4 rfl (by (first | exact True.intro | assumption | (dsimp only [ZallP]; and_intros <;> (first | assumption | decide | omega | ((try simp (disch := omega) only [pk_mul, nI_add, Zcl_n]); exact Zin_n (by omega) (by decide)))))) ?_
      refine Zs_calls hX (List.cons_ne_nil _ _) (by decide) (s_stitchOf o_z _ ho4) (by first | decide | omega) rfl rfl (by decide) (Nat.le_of_ble_eq_true rfl) (fun r_z M' hc_z => ?_)
      obtain ⟨rfl, rfl⟩ := hc_z
      rw [e1_z]
      refine Zgo hX 18 rfl (by dsimp only [ZallP]; exact ⟨⟨⟨⟨Zin_n (by omega) (by decide), Zin_n (by omega) (by decide)⟩, (show ¬ nI 10 = nI 0 by decide)⟩, Zin_n (by omega) (by decide)⟩, (show ¬ nI 10 = nI 0 by decide)⟩) ?_
      rw [Zcl_n (show k_z < 2 ^ 31 by omega), show (Zu (Zu M1 63 k_z (nI (10 * kd_z + m_z))) 53 15 (nI (Zpz T k_z P).1)) 63 k_z = nI (10 * kd_z + m_z) from (by rw [Zu_o (by omega), Zu_s]), pk_rem (by omega) (by decide) (by decide), pk_div (by omega) (by decide) (by decide), show (10 * kd_z + m_z) / 10 = kd_z by omega, show (10 * kd_z + m_z) % 10 = m_z by omega]
      refine Zs_calls hX (List.cons_ne_nil _ _) (by decide) (s_bendsAs kd_z m_z _ hkd hm9) (by first | decide | omega) rfl rfl (by decide) (Nat.le_of_ble_eq_true rfl) (fun r_z M' hc_z => ?_)
      obtain ⟨rfl, rfl⟩ := hc_z
      rw [b1_z]
      refine Zs_callv hX (List.cons_ne_nil _ _) (s_step (n_z + k_z) (Zpz T k_z P).1 (Zbn kd_z m_z) (Zpz T k_z P).2.1 (Zpz T k_z P).2.2 _ (by omega) hw_z b2_z rfl ((h61_z _ (Nat.le_refl _)).1.trans hpa) ((h61_z _ (Nat.le_refl _)).2.trans hpd)) (by first | decide | omega) (by decide) rfl rfl rfl (by decide) (Nat.le_of_ble_eq_true rfl) (fun r_z M' hc_z => ?_)
      obtain ⟨rfl, rfl⟩ := hc_z
      have hv_z := Zgn_lt (Zpz T k_z P).1 (Zbn kd_z m_z)
      have hps1 := Zpz_s T k_z P ho4
      refine Zs_abs (fun M2 => Sc M M2 ∧ M2 63 k_z = nI (10 * kd_z + m_z) ∧ Zpe T n_z (k_z + 1) (4 * P + o_z) M2 ∧ (∀ j_z, j_z ≤ n_z + k_z → M2 61 j_z = M 61 j_z ∧ M2 62 j_z = M 62 j_z) ∧ (∀ j_z, j_z < k_z → M2 63 j_z = M 63 j_z) ∧ Zrb (Zy4 f_z) N (Zbf (Zy4 f_z) T N x_z y_z (P * 4 ^ (N - k_z)) (o_z * 4 ^ (N - (k_z + 1))) b_z) M2) ⟨((((hsc.u _ rfl).u _ rfl).u _ rfl).u _ rfl).u _ rfl, by rw [Zu_o (by omega), Zu_o (by omega), Zu_o (by omega), Zu_o (by omega), Zu_s], ?_, fun j_z hj_z => ⟨?_, ?_⟩, fun j_z hj_z => ?_, Zrb_kp hrb rfl (fun _ _ => rfl)⟩ (fun M2 hM2 => ?_)
      · unfold Zpe
        rw [hps1]
        show _ = nI (Zgn (Zpz T k_z P).1 (Zbo o_z)) ∧ _ = (Zpz T k_z P).2.1 + Zam (Zgn (Zpz T k_z P).1 (Zbo o_z)) ∧ _ = (Zpz T k_z P).2.2 + Zdm (Zgn (Zpz T k_z P).1 (Zbo o_z)) ∧ _
        rw [ebo]
        refine ⟨rfl, ?_, ?_, fun j_z hj_z => ?_⟩
        · rw [Zu_o (by omega), show n_z + (k_z + 1) = n_z + k_z + 1 by omega, Zu_s]
        · rw [show n_z + (k_z + 1) = n_z + k_z + 1 by omega, Zu_s]
        · rw [Zu_o (by omega), Zu_o (by omega), Zu_o (by omega), Zu_o (by omega)]
          by_cases e_z : j_z = k_z
          · subst e_z; rw [Zu_s, Zdg_k _ _ ho4, e1_z]
          · rw [Zu_o (by omega), h63_z j_z (by omega), hps j_z (by omega), Zdg_s _ _ ho4 (by omega)]
      · rw [Zu_o (by omega), Zu_o (by omega)]; exact (h61_z j_z hj_z).1
      · rw [Zu_o (by omega)]; exact (h61_z j_z hj_z).2
      · rw [Zu_o (by omega), Zu_o (by omega), Zu_o (by omega), Zu_o (by omega), Zu_o (by omega)]; exact h63_z j_z hj_z
      obtain ⟨hsc2, hst2, hpe2, k61, k63, hrb2⟩ := hM2
      refine Zgo hX 15 rfl (Zin_n (by omega) (by decide)) ?_
      rw [Zcl_n (show k_z < 2 ^ 31 by omega), hst2, nI_add]
      have hf2 : M2 54 = f_z := hsc2.f54.trans hf_z
      refine Zs_callv hX (List.cons_ne_nil _ _) (s_yarnAs kd_z m_z _ _ _ hkd hm9 (by rw [hf2]; exact hfi.2.2.2.1)) (by first | decide | omega) (by decide) rfl rfl rfl (by decide) (Nat.le_of_ble_eq_true rfl) (fun r_z M' hc_z => ?_)
      rw [hf2] at hc_z
      obtain ⟨rfl, hs3⟩ := hc_z
      rw [← eyo]
      have hsc3 := hsc2.tr hs3.sc
      have hpe3 : Zpe T n_z (k_z + 1) (4 * P + o_z) M' := ⟨(hs3 53 15 rfl).trans hpe2.1, (hs3 61 _ rfl).trans hpe2.2.1, (hs3 62 _ rfl).trans hpe2.2.2.1, fun j_z hj_z => (hs3 63 j_z rfl).trans (hpe2.2.2.2 j_z hj_z)⟩
      refine Zgo hX 1 rfl (by (first | exact True.intro | assumption | (dsimp only [ZallP]; and_intros <;> (first | assumption | decide | omega | ((try simp (disch := omega) only [pk_mul, nI_add, Zcl_n]); exact Zin_n (by omega) (by decide)))))) ?_
      rw [← Zyz_s (Zy4 f_z) k_z P ho4]
      refine Zs_callv hX (List.cons_ne_nil _ _) (ih_z (4 * P + o_z) _ _ (hsc3.f54.trans hf_z) hpe3 (Zrb_kp hrb2 (hs3 53 18 rfl) (fun i_z _ => hs3 64 i_z rfl))) (by first | decide | omega) (by decide) rfl rfl rfl (by decide) (Nat.le_of_ble_eq_true rfl) (fun r_z M' hc_z => ?_)
      obtain ⟨hor, hs4, hg4, h614_z, h634_z, hrb4⟩ := hc_z
      have hsc4 := hsc3.tr hs4
      have elo : P * 4 ^ (N - k_z) + o_z * 4 ^ (N - (k_z + 1)) = (4 * P + o_z) * 4 ^ (N - (k_z + 1)) := by rw [eE]; exact Zlo_ P _ o_z
      have es : (o_z + 1) * 4 ^ (N - (k_z + 1)) = o_z * 4 ^ (N - (k_z + 1)) + 4 ^ (N - (k_z + 1)) := by rw [Nat.add_mul, Nat.one_mul]
      rw [← elo] at hor hrb4
      rw [← Zbf_add, ← es] at hrb4
      have hits : Zhit T N x_z y_z (P * 4 ^ (N - k_z)) ((o_z + 1) * 4 ^ (N - (k_z + 1))) ↔ Zhit T N x_z y_z (P * 4 ^ (N - k_z)) (o_z * 4 ^ (N - (k_z + 1))) ∨ Zhit T N x_z y_z (P * 4 ^ (N - k_z) + o_z * 4 ^ (N - (k_z + 1))) (4 ^ (N - (k_z + 1))) := by rw [es]; exact Zhit_s
      have NEXT : ∀ (v_z own : Int32), ((v_z = nI 1 ∧ Zhit T N x_z y_z (P * 4 ^ (N - k_z)) ((o_z + 1) * 4 ^ (N - (k_z + 1)))) ∨ (v_z = nI 0 ∧ ¬ Zhit T N x_z y_z (P * 4 ^ (N - k_z)) ((o_z + 1) * 4 ^ (N - (k_z + 1))))) → ZP X Zt107 (Zsf Zt107 211) [(10, .int own), (7, .int (nI (Zpz T k_z P).1)), (8, .int iz), (9, .int (nI o_z)), (0, .ref 53), (1, .int (nI k_z)), (2, .int (nI N)), (3, .int x_z), (4, .int y_z), (5, .int (Zyz (Zy4 f_z) k_z P)), (6, .int (nI (n_z + k_z)))] [.int v_z] M' := by
        intro v_z own hv3
        refine Zgo hX 3 rfl (by (first | exact True.intro | assumption | (dsimp only [ZallP]; and_intros <;> (first | assumption | decide | omega | ((try simp (disch := omega) only [pk_mul, nI_add, Zcl_n]); exact Zin_n (by omega) (by decide)))))) ?_
        rw [nI_add]
        refine Zs_sub (l' := [(7, .int (nI (Zpz T k_z P).1)), (8, .int v_z), (9, .int (nI (o_z + 1))), (0, .ref 53), (1, .int (nI k_z)), (2, .int (nI N)), (3, .int x_z), (4, .int y_z), (5, .int (Zyz (Zy4 f_z) k_z P)), (6, .int (nI (n_z + k_z)))]) rfl ?_
        exact ihq (o_z + 1) v_z _ (by omega) hv3 hsc4 (fun j_z hj_z => ⟨((h614_z j_z (by omega)).1.trans (hs3 61 j_z rfl)).trans (k61 j_z hj_z).1, ((h614_z j_z (by omega)).2.trans (hs3 62 j_z rfl)).trans (k61 j_z hj_z).2⟩) (fun j_z hj_z => ((h634_z j_z (by omega)).trans (hs3 63 j_z rfl)).trans (k63 j_z hj_z)) hrb4
      rcases hor with ⟨rfl, h9_z⟩ | ⟨rfl, h9_z⟩
      · refine Zgo hX 2 rfl (by (first | exact True.intro | assumption | (dsimp only [ZallP]; and_intros <;> (first | assumption | decide | omega | ((try simp (disch := omega) only [pk_mul, nI_add, Zcl_n]); exact Zin_n (by omega) (by decide)))))) ?_
        refine Zs_ne hX (List.cons_ne_nil _ _) (fun h_z => ?_) (fun h_z => ?_)
        · refine Zgo hX 2 rfl (by (first | exact True.intro | assumption | (dsimp only [ZallP]; and_intros <;> (first | assumption | decide | omega | ((try simp (disch := omega) only [pk_mul, nI_add, Zcl_n]); exact Zin_n (by omega) (by decide)))))) ?_
          refine Zs_sub (l' := [(10, .int (nI 1)), (7, .int (nI (Zpz T k_z P).1)), (8, .int iz), (9, .int (nI o_z)), (0, .ref 53), (1, .int (nI k_z)), (2, .int (nI N)), (3, .int x_z), (4, .int y_z), (5, .int (Zyz (Zy4 f_z) k_z P)), (6, .int (nI (n_z + k_z)))]) rfl ?_
          exact NEXT _ _ (Or.inl ⟨rfl, hits.mpr (Or.inr h9_z)⟩)
        · refine Zgo hX 1 rfl (by (first | exact True.intro | assumption | (dsimp only [ZallP]; and_intros <;> (first | assumption | decide | omega | ((try simp (disch := omega) only [pk_mul, nI_add, Zcl_n]); exact Zin_n (by omega) (by decide)))))) ?_
          refine Zs_eq hX (List.cons_ne_nil _ _) (fun q_z => False.elim (by revert q_z; decide)) (fun _ => ?_)
          refine Zgo hX 2 rfl (by (first | exact True.intro | assumption | (dsimp only [ZallP]; and_intros <;> (first | assumption | decide | omega | ((try simp (disch := omega) only [pk_mul, nI_add, Zcl_n]); exact Zin_n (by omega) (by decide)))))) ?_
          refine Zs_sub (l' := [(10, .int (nI 1)), (7, .int (nI (Zpz T k_z P).1)), (8, .int iz), (9, .int (nI o_z)), (0, .ref 53), (1, .int (nI k_z)), (2, .int (nI N)), (3, .int x_z), (4, .int y_z), (5, .int (Zyz (Zy4 f_z) k_z P)), (6, .int (nI (n_z + k_z)))]) rfl ?_
          exact NEXT _ _ (Or.inl ⟨rfl, hits.mpr (Or.inr h9_z)⟩)
      · refine Zgo hX 2 rfl (by (first | exact True.intro | assumption | (dsimp only [ZallP]; and_intros <;> (first | assumption | decide | omega | ((try simp (disch := omega) only [pk_mul, nI_add, Zcl_n]); exact Zin_n (by omega) (by decide)))))) ?_
        refine Zs_ne hX (List.cons_ne_nil _ _) (fun h_z => ?_) (fun h_z => ?_)
        · have hit1 : Zhit T N x_z y_z (P * 4 ^ (N - k_z)) (o_z * 4 ^ (N - (k_z + 1))) := hiz.elim (fun q_z => q_z.2) (fun q_z => absurd q_z.1 h_z)
          refine Zgo hX 2 rfl (by (first | exact True.intro | assumption | (dsimp only [ZallP]; and_intros <;> (first | assumption | decide | omega | ((try simp (disch := omega) only [pk_mul, nI_add, Zcl_n]); exact Zin_n (by omega) (by decide)))))) ?_
          refine Zs_sub (l' := [(10, .int (nI 0)), (7, .int (nI (Zpz T k_z P).1)), (8, .int iz), (9, .int (nI o_z)), (0, .ref 53), (1, .int (nI k_z)), (2, .int (nI N)), (3, .int x_z), (4, .int y_z), (5, .int (Zyz (Zy4 f_z) k_z P)), (6, .int (nI (n_z + k_z)))]) rfl ?_
          exact NEXT _ _ (Or.inl ⟨rfl, hits.mpr (Or.inl hit1)⟩)
        · have hit0 : ¬ Zhit T N x_z y_z (P * 4 ^ (N - k_z)) (o_z * 4 ^ (N - (k_z + 1))) := hiz.elim (fun q_z => absurd (q_z.1.symm.trans h_z) (by decide)) (fun q_z => q_z.2)
          refine Zgo hX 1 rfl (by (first | exact True.intro | assumption | (dsimp only [ZallP]; and_intros <;> (first | assumption | decide | omega | ((try simp (disch := omega) only [pk_mul, nI_add, Zcl_n]); exact Zin_n (by omega) (by decide)))))) ?_
          refine Zs_eq hX (List.cons_ne_nil _ _) (fun _ => ?_) (fun q_z => False.elim (by revert q_z; decide))
          refine Zgo hX 1 rfl (by (first | exact True.intro | assumption | (dsimp only [ZallP]; and_intros <;> (first | assumption | decide | omega | ((try simp (disch := omega) only [pk_mul, nI_add, Zcl_n]); exact Zin_n (by omega) (by decide)))))) ?_
          refine Zs_sub (l' := [(10, .int (nI 0)), (7, .int (nI (Zpz T k_z P).1)), (8, .int iz), (9, .int (nI o_z)), (0, .ref 53), (1, .int (nI k_z)), (2, .int (nI N)), (3, .int x_z), (4, .int y_z), (5, .int (Zyz (Zy4 f_z) k_z P)), (6, .int (nI (n_z + k_z)))]) rfl ?_
          exact NEXT _ _ (Or.inr ⟨rfl, fun q_z => (hits.mp q_z).elim hit0 h9_z⟩)
  refine Zgo hX 7 rfl (by (first | exact True.intro | assumption | (dsimp only [ZallP]; and_intros <;> (first | assumption | decide | omega | ((try simp (disch := omega) only [pk_mul, nI_add, Zcl_n]); exact Zin_n (by omega) (by decide)))))) ?_
  rw [hg_z]
  refine Zs_sub (l' := [(7, .int (nI (Zpz T k_z P).1)), (8, .int (nI 0)), (9, .int (nI 0)), (0, .ref 53), (1, .int (nI k_z)), (2, .int (nI N)), (3, .int x_z), (4, .int y_z), (5, .int (Zyz (Zy4 f_z) k_z P)), (6, .int (nI (n_z + k_z)))]) rfl ?_
  exact L 4 0 _ M rfl (Or.inr ⟨rfl, by rw [Nat.zero_mul]; exact Zhit_0⟩) (Sc.rf _) (fun j_z _ => ⟨rfl, rfl⟩) (fun j_z _ => rfl) (by rw [Nat.zero_mul]; exact hb_z)


theorem s_leads2 (f_z : Nat → Int32) (T : Zwy) (n_z N : Nat) (x_z y_z : Int32) (hfi : Zfi f_z) (hn_z : f_z 7 = nI n_z) (hT : T.1 < 4) (hN : N ≤ 5) (hnN : n_z + N ≤ 15) : ∀ (q_z k_z : Nat), k_z + q_z = N → ∀ (P : Nat) (b_z : Option Nat) (M : Zmem), M 54 = f_z → Zpe T n_z k_z P M → Zrb (Zy4 f_z) N b_z M → ZC 107 (4 + q_z) [.ref 53, .int (nI k_z), .int (nI N), .int x_z, .int y_z, .int (Zyz (Zy4 f_z) k_z P)] M (Zpo (Zy4 f_z) T n_z N x_z y_z k_z P b_z M) := by
  intro q_z
  induction q_z with
  | zero =>
    intro k_z hk_z P b_z M hf_z hp hb_z
    obtain rfl : k_z = N := by omega
    exact s_leads02 f_z T n_z k_z P (4 + 0) x_z y_z b_z M (by rw [hf_z]; exact hn_z) hN hnN hp hb_z
  | succ q_z ih_z =>
    intro k_z hk_z P b_z M hf_z hp hb_z
    exact s_leads12 f_z T n_z N k_z P (4 + q_z) x_z y_z b_z M hfi hf_z hn_z hT hN (by omega) hnN hp hb_z (by omega) (ih_z (k_z + 1) (by omega))

set_option maxRecDepth 20000 in
set_option maxHeartbeats 4000000 in
theorem s_reach2 (n_z : Nat) (x_z y_z what : Int32) (M : Zmem) (hfi : Zfi (M 54)) (hn_z : M 54 7 = nI n_z) (hn2 : n_z ≤ 15) : ZC 108 10 [.ref 53, .int x_z, .int y_z, .int what] M (fun z_z M' => z_z = some (.int (Freach (M 54) n_z x_z y_z what)) ∧ Sc M M') := by
  refine ZC_of Zt108 Zk108 (Nat.le_of_ble_eq_true rfl) (by decide) rfl (fun X hX hE => ?_)
  have BAD : ¬ ((-(nI 9) ≤ x_z ∧ x_z ≤ nI 9) ∧ (-(nI 9) ≤ y_z ∧ y_z ≤ nI 9) ∧ -(nI 2) ≤ what ∧ what ≤ nI 4) → ZP X Zt108 (Zsf Zt108 32) (lv_args 0 [.ref 53, .int x_z, .int y_z, .int what]) [] M := by
    intro hbad
    refine Zgo hX 2 rfl (by (first | exact True.intro | assumption | (dsimp only [ZallP]; and_intros <;> (first | assumption | decide | omega | ((try simp (disch := omega) only [pk_mul, nI_add, Zcl_n]); exact Zin_n (by omega) (by decide)))))) ?_
    refine Zs_callv hX (List.cons_ne_nil _ _) (s_error 1 _ (by decide)) (by first | decide | omega) (by decide) rfl rfl rfl (by decide) (Nat.le_of_ble_eq_true rfl) (fun r_z M' hc_z => ?_)
    obtain ⟨rfl, hsc⟩ := hc_z
    refine Zs_ret hX hE rfl ⟨by rw [Freach, if_neg hbad], hsc⟩
  refine Zgo hX 3 rfl (by (first | exact True.intro | assumption | (dsimp only [ZallP]; and_intros <;> (first | assumption | decide | omega | ((try simp (disch := omega) only [pk_mul, nI_add, Zcl_n]); exact Zin_n (by omega) (by decide)))))) ?_
  refine Zs_calls hX (List.cons_ne_nil _ _) (by decide) (s_in _ _ _ _) (by first | decide | omega) rfl rfl (by decide) (Nat.le_of_ble_eq_true rfl) (fun r_z M' hc_z => ?_)
  rcases hc_z with ⟨⟨rfl, h1_z⟩ | ⟨rfl, h1_z⟩, rfl⟩
  · refine Zs_eq hX (List.cons_ne_nil _ _) (fun q_z => False.elim (by revert q_z; decide)) (fun _ => ?_)
    refine Zgo hX 3 rfl (by (first | exact True.intro | assumption | (dsimp only [ZallP]; and_intros <;> (first | assumption | decide | omega | ((try simp (disch := omega) only [pk_mul, nI_add, Zcl_n]); exact Zin_n (by omega) (by decide)))))) ?_
    refine Zs_calls hX (List.cons_ne_nil _ _) (by decide) (s_in _ _ _ _) (by first | decide | omega) rfl rfl (by decide) (Nat.le_of_ble_eq_true rfl) (fun r_z M' hc_z => ?_)
    rcases hc_z with ⟨⟨rfl, h2_z⟩ | ⟨rfl, h2_z⟩, rfl⟩
    · refine Zs_eq hX (List.cons_ne_nil _ _) (fun q_z => False.elim (by revert q_z; decide)) (fun _ => ?_)
      refine Zgo hX 3 rfl (by (first | exact True.intro | assumption | (dsimp only [ZallP]; and_intros <;> (first | assumption | decide | omega | ((try simp (disch := omega) only [pk_mul, nI_add, Zcl_n]); exact Zin_n (by omega) (by decide)))))) ?_
      refine Zs_calls hX (List.cons_ne_nil _ _) (by decide) (s_in _ _ _ _) (by first | decide | omega) rfl rfl (by decide) (Nat.le_of_ble_eq_true rfl) (fun r_z M' hc_z => ?_)
      rcases hc_z with ⟨⟨rfl, h3_z⟩ | ⟨rfl, h3_z⟩, rfl⟩
      · refine Zs_ne hX (List.cons_ne_nil _ _) (fun _ => ?_) (fun q_z => False.elim (by revert q_z; decide))
        have hall : Freach (M 54) n_z x_z y_z what = Fr0 (Zy4 (M 54)) (Zs0 (M 54) n_z) n_z x_z y_z what := by rw [Freach, if_pos ⟨h1_z, h2_z, h3_z⟩]
        have bx := Zax_b (M 54) n_z (by omega)
        have bd := Zdx_b (M 54) n_z (by omega)
        have hab : -15 ≤ (Zs0 (M 54) n_z).2.1.toInt ∧ (Zs0 (M 54) n_z).2.1.toInt ≤ 15 := (show -15 ≤ (Zax (M 54) n_z).toInt ∧ (Zax (M 54) n_z).toInt ≤ 15 by omega)
        have hdb : -15 ≤ (Zs0 (M 54) n_z).2.2.toInt ∧ (Zs0 (M 54) n_z).2.2.toInt ≤ 15 := (show -15 ≤ (Zdx (M 54) n_z).toInt ∧ (Zdx (M 54) n_z).toInt ≤ 15 by omega)
        have hT : (Zs0 (M 54) n_z).1 < 4 := Zgw_lt hfi n_z
        refine Zgo hX 1 rfl (by (first | exact True.intro | assumption | (dsimp only [ZallP]; and_intros <;> (first | assumption | decide | omega | ((try simp (disch := omega) only [pk_mul, nI_add, Zcl_n]); exact Zin_n (by omega) (by decide)))))) ?_
        refine Zs_callv hX (List.cons_ne_nil _ _) (s_findCourse n_z M hfi hn_z hn2) (by first | decide | omega) (by decide) rfl rfl rfl (by decide) (Nat.le_of_ble_eq_true rfl) (fun r_z M' hc_z => ?_)
        obtain ⟨rfl, hsc, hg_z, hco⟩ := hc_z
        have ENDN : ∀ (M1 : Zmem), Sc M M1 → ¬ (Zfar (Zs0 (M 54) n_z) x_z y_z ≤ 5 ∧ n_z + Zfar (Zs0 (M 54) n_z) x_z y_z ≤ 15) → ZP X Zt108 (Zsf Zt108 90) [(4, .int (nI 6)), (0, .ref 53), (1, .int x_z), (2, .int y_z), (3, .int what)] [] M1 := by
          intro M1 hsc1 hno
          refine Zgo hX 2 rfl (by (first | exact True.intro | assumption | (dsimp only [ZallP]; and_intros <;> (first | assumption | decide | omega | ((try simp (disch := omega) only [pk_mul, nI_add, Zcl_n]); exact Zin_n (by omega) (by decide)))))) ?_
          refine Zs_ile hX (List.cons_ne_nil _ _) (fun q_z => False.elim (by revert q_z; decide)) (fun _ => ?_)
          refine Zgo hX 2 rfl (by (first | exact True.intro | assumption | (dsimp only [ZallP]; and_intros <;> (first | assumption | decide | omega | ((try simp (disch := omega) only [pk_mul, nI_add, Zcl_n]); exact Zin_n (by omega) (by decide)))))) ?_
          refine Zs_callv hX (List.cons_ne_nil _ _) (s_error 2 _ (by decide)) (by first | decide | omega) (by decide) rfl rfl rfl (by decide) (Nat.le_of_ble_eq_true rfl) (fun r_z M' hc_z => ?_)
          obtain ⟨rfl, hs3⟩ := hc_z
          refine Zs_ret hX hE rfl ⟨by rw [hall, Fr0_n hno], hsc1.tr hs3⟩
        have END : ∀ (N : Nat) (M1 : Zmem) (r_z : Nat), N = Zfar (Zs0 (M 54) n_z) x_z y_z → Zfar (Zs0 (M 54) n_z) x_z y_z ≤ 5 ∧ n_z + Zfar (Zs0 (M 54) n_z) x_z y_z ≤ 15 → Sc M M1 → Zbf (Zy4 (M 54)) (Zs0 (M 54) n_z) (Zfar (Zs0 (M 54) n_z) x_z y_z) x_z y_z 0 (4 ^ (Zfar (Zs0 (M 54) n_z) x_z y_z)) none = some r_z → Zrb (Zy4 (M 54)) (Zfar (Zs0 (M 54) n_z) x_z y_z) (some r_z) M1 → ZP X Zt108 (Zsf Zt108 90) [(4, .int (nI N)), (0, .ref 53), (1, .int x_z), (2, .int y_z), (3, .int what)] [] M1 := by
          intro N M1 r_z eN hok hsc1 hq_z hrb
          have hv_z := Fr0_y (what := what) hok hq_z
          rw [← eN] at hv_z hrb hok
          rcases hrb with ⟨z_z, -⟩ | ⟨r', hr', h18_z, h64_z⟩
          · cases z_z
          · obtain rfl : r' = r_z := (Option.some.inj hr').symm
            refine Zgo hX 2 rfl (by (first | exact True.intro | assumption | (dsimp only [ZallP]; and_intros <;> (first | assumption | decide | omega | ((try simp (disch := omega) only [pk_mul, nI_add, Zcl_n]); exact Zin_n (by omega) (by decide)))))) ?_
            refine Zs_ile hX (List.cons_ne_nil _ _) (fun h4_z => ?_) (fun h4_z => ?_)
            · refine Zgo hX 2 rfl (by (first | exact True.intro | assumption | (dsimp only [ZallP]; and_intros <;> (first | assumption | decide | omega | ((try simp (disch := omega) only [pk_mul, nI_add, Zcl_n]); exact Zin_n (by omega) (by decide)))))) ?_
              refine Zs_ine hX (List.cons_ne_nil _ _) (fun h5_z => ?_) (fun h5_z => ?_)
              · refine Zgo hX 2 rfl (by (first | exact True.intro | assumption | (dsimp only [ZallP]; and_intros <;> (first | assumption | decide | omega | ((try simp (disch := omega) only [pk_mul, nI_add, Zcl_n]); exact Zin_n (by omega) (by decide)))))) ?_
                refine Zs_ine hX (List.cons_ne_nil _ _) (fun h6_z => ?_) (fun h6_z => ?_)
                · refine Zgo hX 2 rfl (by (first | exact True.intro | assumption | (dsimp only [ZallP]; and_intros <;> (first | assumption | decide | omega | ((try simp (disch := omega) only [pk_mul, nI_add, Zcl_n]); exact Zin_n (by omega) (by decide)))))) ?_
                  refine Zs_ige hX (List.cons_ne_nil _ _) (fun h7_z => ?_) (fun h7_z => ?_)
                  · refine Zgo hX 1 rfl (by (first | exact True.intro | assumption | (dsimp only [ZallP]; and_intros <;> (first | assumption | decide | omega | ((try simp (disch := omega) only [pk_mul, nI_add, Zcl_n]); exact Zin_n (by omega) (by decide)))))) ?_
                    refine Zs_ret hX hE rfl ⟨by rw [hall, hv_z, if_neg h5_z, if_neg h6_z, if_pos h7_z], hsc1⟩
                  · obtain ⟨i_z, hi_z, rfl, ei⟩ := Zwhat hok.1 h3_z h5_z h6_z h7_z
                    refine Zgo hX 5 rfl (Zin_n (by omega) (by decide)) ?_
                    rw [ei, h64_z i_z hi_z]
                    refine Zs_ret hX hE rfl ⟨by rw [hall, hv_z, if_neg h5_z, if_neg h6_z, if_neg h7_z, ei], hsc1⟩
                · refine Zgo hX 3 rfl (by (first | exact True.intro | assumption | (dsimp only [ZallP]; and_intros <;> (first | assumption | decide | omega | ((try simp (disch := omega) only [pk_mul, nI_add, Zcl_n]); exact Zin_n (by omega) (by decide)))))) ?_
                  rw [h18_z]
                  refine Zs_ret hX hE rfl ⟨by rw [hall, hv_z, if_neg h5_z, if_pos h6_z], hsc1⟩
              · refine Zgo hX 2 rfl (by (first | exact True.intro | assumption | (dsimp only [ZallP]; and_intros <;> (first | assumption | decide | omega | ((try simp (disch := omega) only [pk_mul, nI_add, Zcl_n]); exact Zin_n (by omega) (by decide)))))) ?_
                refine Zs_ret hX hE rfl ⟨by rw [hall, hv_z, if_pos h5_z], hsc1⟩
            · exact absurd ((Zn_le (by omega) (by decide)).mpr hok.1) h4_z
        have L : ∀ (q_z N : Nat) (M1 : Zmem), N + q_z = 6 → Sc M M1 → M1 53 15 = nI (Zgw (M 54) n_z) → M1 61 n_z = Zax (M 54) n_z → M1 62 n_z = Zdx (M 54) n_z → M1 53 18 = -(nI 1) → (N ≤ Zfar (Zs0 (M 54) n_z) x_z y_z ∨ 15 < n_z + Zfar (Zs0 (M 54) n_z) x_z y_z) → ZP X Zt108 (Zsf Zt108 50) [(4, .int (nI N)), (0, .ref 53), (1, .int x_z), (2, .int y_z), (3, .int what)] [] M1 := by
          intro q_z
          induction q_z with
          | zero =>
            intro N M1 hN hsc1 hg1 ha1 hd1 h18_z hor
            obtain rfl : N = 6 := by omega
            refine Zgo hX 2 rfl (by (first | exact True.intro | assumption | (dsimp only [ZallP]; and_intros <;> (first | assumption | decide | omega | ((try simp (disch := omega) only [pk_mul, nI_add, Zcl_n]); exact Zin_n (by omega) (by decide)))))) ?_
            refine Zs_igt hX (List.cons_ne_nil _ _) (fun _ => ?_) (fun q_z => False.elim ((q_z (by decide))))
            exact ENDN M1 hsc1 (fun q_z => by omega)
          | succ q_z ih_z =>
            intro N M1 hN hsc1 hg1 ha1 hd1 h18_z hor
            refine Zgo hX 2 rfl (by (first | exact True.intro | assumption | (dsimp only [ZallP]; and_intros <;> (first | assumption | decide | omega | ((try simp (disch := omega) only [pk_mul, nI_add, Zcl_n]); exact Zin_n (by omega) (by decide)))))) ?_
            refine Zs_igt hX (List.cons_ne_nil _ _) (fun q_z => False.elim ((absurd ((Zn_lt (by decide) (by omega)).mp q_z) (by omega)))) (fun _ => ?_)
            refine Zgo hX 7 rfl (Zin_n (by decide) (by decide)) ?_
            try simp (disch := omega) only [Zcl_n, pk_mul, nI_add]
            rw [hsc1.f54, hn_z, nI_add]
            refine Zs_igt hX (List.cons_ne_nil _ _) (fun h4_z => ?_) (fun h4_z => ?_)
            · have hgt := (Zn_lt (by omega) (by omega)).mp h4_z
              refine Zgo hX 2 rfl (by (first | exact True.intro | assumption | (dsimp only [ZallP]; and_intros <;> (first | assumption | decide | omega | ((try simp (disch := omega) only [pk_mul, nI_add, Zcl_n]); exact Zin_n (by omega) (by decide)))))) ?_
              rw [nI_add]
              refine Zs_sub (l' := [(4, .int (nI (N + 1))), (0, .ref 53), (1, .int x_z), (2, .int y_z), (3, .int what)]) rfl ?_
              exact ih_z (N + 1) M1 (by omega) hsc1 hg1 ha1 hd1 h18_z (Or.inr (by omega))
            · have hle : n_z + N ≤ 15 := (Nat.lt_or_ge 15 (n_z + N)).elim (fun q_z => absurd ((Zn_lt (by omega) (by omega)).mpr q_z) h4_z) id
              refine Zgo hX 6 rfl (by (first | exact True.intro | assumption | (dsimp only [ZallP]; and_intros <;> (first | assumption | decide | omega | ((try simp (disch := omega) only [pk_mul, nI_add, Zcl_n]); exact Zin_n (by omega) (by decide)))))) ?_
              refine Zs_callv hX (List.cons_ne_nil _ _) (s_leads2 (M 54) (Zs0 (M 54) n_z) n_z N x_z y_z hfi hn_z hT (by omega) hle N 0 (by omega) 0 none M1 hsc1.f54 ⟨hg1, ha1, hd1, fun j_z hj_z => absurd hj_z (Nat.not_lt_zero _)⟩ (Or.inl ⟨rfl, h18_z⟩)) (by first | decide | omega) (by decide) rfl rfl rfl (by decide) (Nat.le_of_ble_eq_true rfl) (fun r_z M' hc_z => ?_)
              obtain ⟨hor2, hs4, hg4, h614_z, -, hrb⟩ := hc_z
              rw [Nat.zero_mul, Nat.sub_zero] at hor2 hrb
              rcases hor2 with ⟨rfl, r0, q1_z, q2_z, q3⟩ | ⟨rfl, hno⟩
              · have hfN := Zld_far hT hab hdb (by omega) q3
                have eN : N = Zfar (Zs0 (M 54) n_z) x_z y_z := by omega
                obtain ⟨r_z, hr_z⟩ := Zbf_some (Zy4 (M 54)) (Zs0 (M 54) n_z) N x_z y_z 0 (4 ^ N) none (Or.inl ⟨r0, q1_z, q2_z, q3⟩)
                refine Zs_ne hX (List.cons_ne_nil _ _) (fun _ => ?_) (fun q_z => False.elim (by revert q_z; decide))
                refine Zs_sub (l' := [(4, .int (nI N)), (0, .ref 53), (1, .int x_z), (2, .int y_z), (3, .int what)]) rfl ?_
                exact END N M' r_z eN (by omega) (hsc1.tr hs4) (by rw [← eN]; exact hr_z) (by rw [← eN]; rw [hr_z] at hrb; exact hrb)
              · have hnF : N ≠ Zfar (Zs0 (M 54) n_z) x_z y_z := by
                  intro e_z
                  obtain ⟨r0, q1_z, q2_z⟩ := Zld_ex (X := x_z) (Y := y_z) hT hab hdb (by omega)
                  exact hno (by rw [e_z]; exact ⟨r0, Nat.zero_le _, by omega, q2_z⟩)
                have hbn : Zbf (Zy4 (M 54)) (Zs0 (M 54) n_z) N x_z y_z 0 (4 ^ N) none = none := Zbf_none _ _ _ _ _ 0 _ (fun r_z a_z b_z c_z => hno ⟨r_z, a_z, b_z, c_z⟩)
                have h18b : M' 53 18 = -(nI 1) := by
                  rw [hbn] at hrb
                  rcases hrb with ⟨-, z_z⟩ | ⟨z_z, z2_z, -⟩
                  · exact z_z
                  · cases z2_z
                refine Zs_ne hX (List.cons_ne_nil _ _) (fun q_z => False.elim (by revert q_z; decide)) (fun _ => ?_)
                refine Zgo hX 2 rfl (by (first | exact True.intro | assumption | (dsimp only [ZallP]; and_intros <;> (first | assumption | decide | omega | ((try simp (disch := omega) only [pk_mul, nI_add, Zcl_n]); exact Zin_n (by omega) (by decide)))))) ?_
                rw [nI_add]
                refine Zs_sub (l' := [(4, .int (nI (N + 1))), (0, .ref 53), (1, .int x_z), (2, .int y_z), (3, .int what)]) rfl ?_
                exact ih_z (N + 1) M' (by omega) (hsc1.tr hs4) (hg4.trans hg1) ((h614_z n_z (by omega)).1.trans ha1) ((h614_z n_z (by omega)).2.trans hd1) h18b (by omega)
        refine Zgo hX 5 rfl (by (first | exact True.intro | assumption | (dsimp only [ZallP]; and_intros <;> (first | assumption | decide | omega | ((try simp (disch := omega) only [pk_mul, nI_add, Zcl_n]); exact Zin_n (by omega) (by decide)))))) ?_
        refine Zs_sub (l' := [(4, .int (nI 0)), (0, .ref 53), (1, .int x_z), (2, .int y_z), (3, .int what)]) rfl ?_
        exact L 6 0 _ rfl (hsc.u _ rfl) hg_z (hco n_z (Nat.le_refl _)).1 (hco n_z (Nat.le_refl _)).2 rfl (Or.inl (Nat.zero_le _))
      · refine Zs_ne hX (List.cons_ne_nil _ _) (fun q_z => False.elim (by revert q_z; decide)) (fun _ => ?_)
        exact BAD (fun q_z => h3_z q_z.2.2)
    · refine Zs_eq hX (List.cons_ne_nil _ _) (fun _ => ?_) (fun q_z => False.elim (by revert q_z; decide))
      exact BAD (fun q_z => h2_z q_z.2.1)
  · refine Zs_eq hX (List.cons_ne_nil _ _) (fun _ => ?_) (fun q_z => False.elim (by revert q_z; decide))
    exact BAD (fun q_z => h1_z q_z.1)
