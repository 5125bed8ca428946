/-- what a_z text's working out leaves -/
def sct (o_z k_z : Nat) : Bool := match o_z with
  | 11 => k_z == 4 | 13 => true | 14 => k_z == 4 | 16 => true | 27 => k_z == 4 | 29 => true | 30 => k_z == 4 | 32 => true | 58 => true | 59 => true
  | _ => false
theorem sct_scr {o_z k_z : Nat} (h_z : scr o_z k_z = false) : sct o_z k_z = false := by
  unfold sct
  unfold scr at h_z
  split <;> first | rfl | (exact h_z) | (simp at h_z)
/-- nothing is changed but that -/
def St (M M' : Zmem) : Prop := ∀ o_z k_z, sct o_z k_z = false → M' o_z k_z = M o_z k_z
theorem St.rf (M : Zmem) : St M M := fun _ _ _ => rfl
theorem St.tr {M M' M'' : Zmem} (h_z : St M M') (h2_z : St M' M'') : St M M'' := fun o_z k_z q_z => (h2_z o_z k_z q_z).trans (h_z o_z k_z q_z)
theorem St.u {M M' : Zmem} {o_z k_z : Nat} (h_z : St M M') (v_z : Int32) (hs_z : sct o_z k_z = true) : St M (Zu M' o_z k_z v_z) := by
  intro a_z j_z hq_z
  rw [Zu_k, if_neg]
  · exact h_z a_z j_z hq_z
  · rintro ⟨rfl, rfl⟩
    rw [hs_z] at hq_z
    cases hq_z
theorem St.sc {M M' : Zmem} (h_z : St M M') : Sc M M' := fun o_z k_z q_z => h_z o_z k_z (sct_scr q_z)
-- texts worked out: an item is (what, v_z): 0 a_z number, 1 a_z name by its sign, 2 not, 3 a_z sign
abbrev Zitm : Type := Int32 × Int32
def Zit (nm : Int32 → Int32) (a_z v_z : Int32) (st : List Int32) : List Int32 :=
  if a_z = nI 0 then v_z :: st else if a_z = nI 1 then nm v_z :: st
  else if a_z = nI 2 then (match st with
    | x_z :: r_z => (if x_z = 0 then nI 1 else nI 0) :: r_z
    | [] => [])
  else (match st with
    | y_z :: x_z :: r_z => Zjn v_z.toNatClampNeg x_z y_z :: r_z
    | _ => [])
def Zev (nm : Int32 → Int32) (g_z : Nat → Zitm) : Nat → List Int32
  | 0 => []
  | n_z + 1 => Zit nm (g_z n_z).1 (g_z n_z).2 (Zev nm g_z n_z)
/-- the sign of a_z name, by its use -/
def Znm (u_z c_z : Nat) : Prop := (u_z = 0 ∧ (c_z = 98 ∨ c_z = 119 ∨ c_z = 116)) ∨ (u_z = 1 ∧ (c_z = 119 ∨ c_z = 116 ∨ c_z = 107))
def Zpn (u_z c_z : Nat) : Nat := if u_z = 0 then (if c_z = 98 then 0 else if c_z = 119 then 1 else 2) else (if c_z = 119 then 0 else if c_z = 116 then 1 else 2)
/-- n_z items stand, and leave d_z numbers -/
def Zwf (u_z : Nat) (g_z : Nat → Zitm) : Nat → Nat → Prop
  | 0, d_z => d_z = 0
  | n_z + 1, d_z => ∃ d', Zwf u_z g_z n_z d' ∧ (((g_z n_z).1 = nI 0 ∧ (∃ j_z, j_z < 10000 ∧ (g_z n_z).2 = nI j_z) ∧ d_z = d' + 1) ∨ ((g_z n_z).1 = nI 1 ∧ (∃ c_z, Znm u_z c_z ∧ (g_z n_z).2 = nI c_z) ∧ d_z = d' + 1) ∨ ((g_z n_z).1 = nI 2 ∧ 1 ≤ d' ∧ d_z = d') ∨ ((g_z n_z).1 = nI 3 ∧ (∃ c_z, Zsg c_z ∧ (g_z n_z).2 = nI c_z) ∧ 2 ≤ d' ∧ d_z + 1 = d'))
theorem Zwf_le {u_z : Nat} {g_z : Nat → Zitm} : ∀ {n_z d_z : Nat}, Zwf u_z g_z n_z d_z → d_z ≤ n_z := by
  intro n_z
  induction n_z with
  | zero => intro d_z h_z; simp only [Zwf] at h_z; omega
  | succ n_z ih_z =>
    intro d_z h_z
    obtain ⟨d', h1_z, h2_z⟩ := h_z
    have := ih_z h1_z
    rcases h2_z with ⟨-, -, h_z⟩ | ⟨-, -, h_z⟩ | ⟨-, -, h_z⟩ | ⟨-, -, -, h_z⟩ <;> omega
theorem Zwf_len {u_z : Nat} {g_z : Nat → Zitm} (nm : Int32 → Int32) : ∀ {n_z d_z : Nat}, Zwf u_z g_z n_z d_z → (Zev nm g_z n_z).length = d_z := by
  intro n_z
  induction n_z with
  | zero => intro d_z h_z; simp only [Zwf] at h_z; simp [Zev, h_z]
  | succ n_z ih_z =>
    intro d_z h_z
    obtain ⟨d', h1_z, h2_z⟩ := h_z
    have hl_z := ih_z h1_z
    have ne10 : ¬ nI 1 = nI 0 := by decide
    have ne20 : ¬ nI 2 = nI 0 := by decide
    have ne21 : ¬ nI 2 = nI 1 := by decide
    have ne30 : ¬ nI 3 = nI 0 := by decide
    have ne31 : ¬ nI 3 = nI 1 := by decide
    have ne32 : ¬ nI 3 = nI 2 := by decide
    generalize hq_z : Zev nm g_z n_z = L at hl_z
    rcases h2_z with ⟨e_z, -, h_z⟩ | ⟨e_z, -, h_z⟩ | ⟨e_z, h3_z, h_z⟩ | ⟨e_z, -, h3_z, h_z⟩
    · simp only [Zev, Zit, e_z, hq_z, if_true, List.length_cons]; omega
    · simp only [Zev, Zit, e_z, hq_z, if_neg ne10, if_true, List.length_cons]; omega
    · match L, hl_z with
      | [], hl_z => simp at hl_z; omega
      | x_z :: r_z, hl_z => simp only [Zev, Zit, e_z, hq_z, if_neg ne20, if_neg ne21, if_true, List.length_cons] at hl_z ⊢; omega
    · match L, hl_z with
      | [], hl_z => simp at hl_z; omega
      | [x_z], hl_z => simp at hl_z; omega
      | y_z :: x_z :: r_z, hl_z => simp only [Zev, Zit, e_z, hq_z, if_neg ne30, if_neg ne31, if_neg ne32, List.length_cons] at hl_z ⊢; omega
/-- a_z pile of numbers in a_z row_z: the lowest at 0 -/
def Zpl (p_z : Nat → Int32) : List Int32 → Prop
  | [] => True
  | x_z :: r_z => p_z r_z.length = x_z ∧ Zpl p_z r_z
theorem Zpl_kp {p_z p' : Nat → Int32} : ∀ {L : List Int32}, Zpl p_z L → (∀ j_z, j_z < L.length → p' j_z = p_z j_z) → Zpl p' L := by
  intro L
  induction L with
  | nil => intro _ _; trivial
  | cons x_z r_z ih_z =>
    intro h_z hk_z
    exact ⟨by rw [hk_z _ (by simp)]; exact h_z.1, ih_z h_z.2 (fun j_z hj_z => hk_z j_z (by simp; omega))⟩
theorem Zpl_push {p_z : Nat → Int32} {L : List Int32} {d_z : Nat} (v_z : Int32) (h_z : Zpl p_z L) (hd_z : L.length = d_z) : Zpl (fun j_z => if j_z = d_z then v_z else p_z j_z) (v_z :: L) := by
  subst hd_z
  exact ⟨by simp, Zpl_kp h_z (fun j_z hj_z => by simp [show ¬ j_z = L.length by omega])⟩
def Zgi (f_z : Nat → Int32) (u_z : Nat) (k_z : Nat) : Zitm := (f_z (85 + 125 * u_z + 2 * k_z), f_z (86 + 125 * u_z + 2 * k_z))
def Ztop (L : List Int32) : Int32 := L.headD 0
/-- how the class tells an item -/
def Zen (u_z : Nat) (q_z : Zitm) (x_z : Int32) : Prop := (q_z.1 = nI 0 ∧ x_z = q_z.2) ∨ (q_z.1 = nI 1 ∧ ∃ c_z, Znm u_z c_z ∧ q_z.2 = nI c_z ∧ x_z = -(nI (1 + Zpn u_z c_z))) ∨ (q_z.1 = nI 2 ∧ x_z = -(nI 33)) ∨ (q_z.1 = nI 3 ∧ x_z = -q_z.2)
def Zvi (u_z : Nat) (q_z : Zitm) : Prop := (q_z.1 = nI 0 ∧ ∃ j_z, j_z < 10000 ∧ q_z.2 = nI j_z) ∨ (q_z.1 = nI 1 ∧ ∃ c_z, Znm u_z c_z ∧ q_z.2 = nI c_z) ∨ q_z.1 = nI 2 ∨ (q_z.1 = nI 3 ∧ ∃ c_z, Zsg c_z ∧ q_z.2 = nI c_z)
theorem Zsg_lt {c_z : Nat} (h_z : Zsg c_z) : 37 ≤ c_z ∧ c_z < 128 ∧ c_z ≠ 33 := by unfold Zsg at h_z; omega
theorem Znm_lt {u_z c_z : Nat} (h_z : Znm u_z c_z) : c_z < 128 := by unfold Znm at h_z; omega
theorem Zpn_lt (u_z c_z : Nat) : Zpn u_z c_z < 3 := by
  unfold Zpn
  split <;> split <;> (try split) <;> omega
theorem Zvi_of {u_z : Nat} {g_z : Nat → Zitm} {n_z d_z : Nat} (h_z : Zwf u_z g_z (n_z + 1) d_z) : Zvi u_z (g_z n_z) := by
  obtain ⟨d', -, h_z⟩ := h_z
  rcases h_z with ⟨e_z, h_z, -⟩ | ⟨e_z, h_z, -⟩ | ⟨e_z, -⟩ | ⟨e_z, h_z, -⟩
  · exact Or.inl ⟨e_z, h_z⟩
  · exact Or.inr (Or.inl ⟨e_z, h_z⟩)
  · exact Or.inr (Or.inr (Or.inl e_z))
  · exact Or.inr (Or.inr (Or.inr ⟨e_z, h_z⟩))
theorem Zwf_pre {u_z : Nat} {g_z : Nat → Zitm} : ∀ {n_z d_z : Nat}, Zwf u_z g_z n_z d_z → ∀ i_z, i_z ≤ n_z → ∃ d', Zwf u_z g_z i_z d' := by
  intro n_z
  induction n_z with
  | zero => intro d_z h_z i_z hi_z; obtain rfl : i_z = 0 := by omega
            exact ⟨d_z, h_z⟩
  | succ n_z ih_z =>
    intro d_z h_z i_z hi_z
    by_cases he_z : i_z = n_z + 1
    · subst he_z; exact ⟨d_z, h_z⟩
    · obtain ⟨d', h1_z, -⟩ := h_z
      exact ih_z h1_z i_z (by omega)
theorem Zwf_un {u_z : Nat} {g_z : Nat → Zitm} {n_z d_z d' : Nat} (h_z : Zwf u_z g_z n_z d_z) (h' : Zwf u_z g_z n_z d') : d_z = d' := by
  rw [← Zwf_len (fun x_z => x_z) h_z, ← Zwf_len (fun x_z => x_z) h']
theorem Zneg_lt0 {k_z : Nat} (h_z : 0 < k_z) (h2_z : k_z < 2 ^ 31) : -(nI k_z) < (0 : Int32) := by
  rw [Zlt_i, Zneg_i h2_z, ← Zn0, Zn_i (by decide)]; omega
theorem Zn_nlt0 {k_z : Nat} (h2_z : k_z < 2 ^ 31) : ¬ nI k_z < (0 : Int32) := by
  rw [Zlt_i, Zn_i h2_z, ← Zn0, Zn_i (by decide)]; omega
theorem Zneg_eq {a_z b_z : Nat} (ha_z : a_z < 2 ^ 31) (hb_z : b_z < 2 ^ 31) (h_z : -(nI a_z) = -(nI b_z)) : a_z = b_z := by
  rw [Zeq_i, Zneg_i ha_z, Zneg_i hb_z] at h_z; omega
theorem Zneg_lt {a_z b_z : Nat} (ha_z : a_z < 2 ^ 31) (hb_z : b_z < 2 ^ 31) : -(nI a_z) < -(nI b_z) ↔ b_z < a_z := by
  rw [Zlt_i, Zneg_i ha_z, Zneg_i hb_z]; omega
section ZEN
variable {u_z : Nat} {q_z : Zitm} {x_z : Int32}
theorem Zen_0 (h_z : Zen u_z q_z x_z) (hv_z : Zvi u_z q_z) (hx_z : ¬ x_z < 0) : q_z.1 = nI 0 ∧ x_z = q_z.2 := by
  rcases h_z with ⟨h1_z, h2_z⟩ | ⟨-, c_z, -, -, rfl⟩ | ⟨-, rfl⟩ | ⟨h1_z, rfl⟩
  · exact ⟨h1_z, h2_z⟩
  · exact absurd (Zneg_lt0 (by omega) (by have := Zpn_lt u_z c_z; omega)) hx_z
  · exact absurd (Zneg_lt0 (by decide) (by decide)) hx_z
  · exfalso
    rcases hv_z with ⟨e_z, -⟩ | ⟨e_z, -⟩ | e_z | ⟨-, c_z, hc_z, e2_z⟩
    · rw [h1_z] at e_z; exact absurd e_z (by decide)
    · rw [h1_z] at e_z; exact absurd e_z (by decide)
    · rw [h1_z] at e_z; exact absurd e_z (by decide)
    · have := Zsg_lt hc_z
      rw [e2_z] at hx_z
      exact hx_z (Zneg_lt0 (by omega) (by omega))
theorem Zen_1 (h_z : Zen u_z q_z x_z) (hv_z : Zvi u_z q_z) (hx_z : x_z < 0) (h3_z : ¬ x_z < -(nI 3)) : q_z.1 = nI 1 ∧ ∃ c_z, Znm u_z c_z ∧ q_z.2 = nI c_z ∧ x_z = -(nI (1 + Zpn u_z c_z)) := by
  rcases h_z with ⟨h1_z, rfl⟩ | h_z | ⟨-, rfl⟩ | ⟨h1_z, rfl⟩
  · exfalso
    rcases hv_z with ⟨-, j_z, hj_z, e_z⟩ | ⟨e_z, -⟩ | e_z | ⟨e_z, -⟩
    · rw [e_z] at hx_z; exact Zn_nlt0 (by omega) hx_z
    · rw [h1_z] at e_z; exact absurd e_z (by decide)
    · rw [h1_z] at e_z; exact absurd e_z (by decide)
    · rw [h1_z] at e_z; exact absurd e_z (by decide)
  · exact h_z
  · exact absurd ((Zneg_lt (by decide) (by decide)).mpr (by decide)) h3_z
  · exfalso
    rcases hv_z with ⟨e_z, -⟩ | ⟨e_z, -⟩ | e_z | ⟨-, c_z, hc_z, e2_z⟩
    · rw [h1_z] at e_z; exact absurd e_z (by decide)
    · rw [h1_z] at e_z; exact absurd e_z (by decide)
    · rw [h1_z] at e_z; exact absurd e_z (by decide)
    · have := Zsg_lt hc_z
      rw [e2_z] at h3_z
      exact h3_z ((Zneg_lt (by omega) (by decide)).mpr (by omega))
theorem Zen_2 (h_z : Zen u_z q_z x_z) (hv_z : Zvi u_z q_z) (hx_z : x_z = -(nI 33)) : q_z.1 = nI 2 := by
  subst hx_z
  rcases h_z with ⟨h1_z, h2_z⟩ | ⟨-, c_z, -, -, h2_z⟩ | ⟨h1_z, -⟩ | ⟨h1_z, h2_z⟩
  · exfalso
    rcases hv_z with ⟨-, j_z, hj_z, e_z⟩ | ⟨e_z, -⟩ | e_z | ⟨e_z, -⟩
    · rw [e_z, Zeq_i, Zneg_i (by decide), Zn_i (by omega)] at h2_z; omega
    · rw [h1_z] at e_z; exact absurd e_z (by decide)
    · rw [h1_z] at e_z; exact absurd e_z (by decide)
    · rw [h1_z] at e_z; exact absurd e_z (by decide)
  · have := Zneg_eq (by decide) (by have := Zpn_lt u_z c_z; omega) h2_z
    have := Zpn_lt u_z c_z
    omega
  · exact h1_z
  · exfalso
    rcases hv_z with ⟨e_z, -⟩ | ⟨e_z, -⟩ | e_z | ⟨-, c_z, hc_z, e2_z⟩
    · rw [h1_z] at e_z; exact absurd e_z (by decide)
    · rw [h1_z] at e_z; exact absurd e_z (by decide)
    · rw [h1_z] at e_z; exact absurd e_z (by decide)
    · have h5_z := Zsg_lt hc_z
      rw [e2_z] at h2_z
      have := Zneg_eq (by decide) (by omega) h2_z
      omega
theorem Zen_3 (h_z : Zen u_z q_z x_z) (hv_z : Zvi u_z q_z) (h3_z : x_z < -(nI 3)) (hx_z : ¬ x_z = -(nI 33)) : q_z.1 = nI 3 ∧ ∃ c_z, Zsg c_z ∧ q_z.2 = nI c_z ∧ x_z = -(nI c_z) := by
  rcases h_z with ⟨h1_z, rfl⟩ | ⟨-, c_z, -, -, rfl⟩ | ⟨-, h2_z⟩ | ⟨h1_z, h2_z⟩
  · exfalso
    rcases hv_z with ⟨-, j_z, hj_z, e_z⟩ | ⟨e_z, -⟩ | e_z | ⟨e_z, -⟩
    · rw [e_z, Zlt_i, Zneg_i (by decide), Zn_i (by omega)] at h3_z; omega
    · rw [h1_z] at e_z; exact absurd e_z (by decide)
    · rw [h1_z] at e_z; exact absurd e_z (by decide)
    · rw [h1_z] at e_z; exact absurd e_z (by decide)
  · exfalso
    have := (Zneg_lt (by have := Zpn_lt u_z c_z; omega) (by decide)).mp h3_z
    have := Zpn_lt u_z c_z
    omega
  · exact absurd h2_z hx_z
  · rcases hv_z with ⟨e_z, -⟩ | ⟨e_z, -⟩ | e_z | ⟨-, c_z, hc_z, e2_z⟩
    · rw [h1_z] at e_z; exact absurd e_z (by decide)
    · rw [h1_z] at e_z; exact absurd e_z (by decide)
    · rw [h1_z] at e_z; exact absurd e_z (by decide)
    · exact ⟨h1_z, c_z, hc_z, e2_z, by rw [h2_z, e2_z]⟩
end ZEN
theorem Zpush_ok {M M1 : Zmem} {t d_z : Nat} {L : List Int32} (v_z : Int32) (ht_z : t = 11 ∨ t = 14) (hsc : St M M1) (hp : Zpl (M1 (t + 2)) L) (hd_z : L.length = d_z) : St M (Zu (Zu M1 (t + 2) d_z v_z) t 4 (nI (d_z + 1))) ∧ (Zu (Zu M1 (t + 2) d_z v_z) t 4 (nI (d_z + 1))) t 4 = nI (d_z + 1) ∧ Zpl ((Zu (Zu M1 (t + 2) d_z v_z) t 4 (nI (d_z + 1))) (t + 2)) (v_z :: L) := by
  refine ⟨?_, by rw [Zu_k, if_pos ⟨rfl, rfl⟩], ?_⟩
  · rcases ht_z with rfl | rfl <;> exact (hsc.u _ rfl).u _ rfl
  · rw [Zu_ne _ _ _ (by omega), Zu_at]
    exact Zpl_push v_z hp hd_z
theorem Zpop_ok {M M1 : Zmem} {t d_z : Nat} {L : List Int32} {x_z : Int32} (ht_z : t = 11 ∨ t = 14) (hsc : St M M1) (hp : Zpl (M1 (t + 2)) (x_z :: L)) (hd_z : L.length = d_z) : M1 (t + 2) d_z = x_z ∧ St M (Zu M1 t 4 (nI d_z)) ∧ (Zu M1 t 4 (nI d_z)) t 4 = nI d_z ∧ Zpl ((Zu M1 t 4 (nI d_z)) (t + 2)) L := by
  refine ⟨by rw [← hd_z]; exact hp.1, ?_, by rw [Zu_k, if_pos ⟨rfl, rfl⟩], ?_⟩
  · rcases ht_z with rfl | rfl <;> exact hsc.u _ rfl
  · rw [Zu_ne _ _ _ (by omega)]
    exact hp.2
/-- the names' numbers, for the class -/
def Zab (u_z : Nat) (nm : Int32 → Int32) (a_z b_z c_z : Int32) : Prop := ∀ n_z, Znm u_z n_z → nm (nI n_z) = ([a_z, b_z, c_z] : List Int32).getD (Zpn u_z n_z) 0

set_option maxRecDepth 20000 in
theorem s_joined (c_z : Nat) (x_z y_z : Int32) (M : Zmem) (hsg : Zsg c_z) : ZC 73 0 [.int (nI c_z), .int x_z, .int y_z] M (fun r_z M' => r_z = some (.int (Zjn c_z x_z y_z)) ∧ M = M') := by
  refine ZC_of Zt73 Zk73 (Nat.le_of_ble_eq_true rfl) (by decide) rfl (fun X hX hE => ?_)
  have hlt := Zsg_lt hsg
  refine Zgo hX 1 rfl (by first | exact True.intro | (dsimp only [ZallP]; and_intros <;> (first | decide | ((try simp only [pk_mul, nI_add]); exact Zin_n (by omega) (by decide))))) ?_
  by_cases s1_0 : nI c_z = nI 37
  · skip
    refine Zs_sw [(nI 37, 154), (nI 38, 204), (nI 39, 218), (nI 40, 218), (nI 41, 218), (nI 42, 128), (nI 43, 120), (nI 44, 218), (nI 45, 124), (nI 46, 218), (nI 47, 132), (nI 48, 218), (nI 49, 218), (nI 50, 218), (nI 51, 218), (nI 52, 218), (nI 53, 218), (nI 54, 218), (nI 55, 218), (nI 56, 218), (nI 57, 218), (nI 58, 218), (nI 59, 218), (nI 60, 171), (nI 61, 193), (nI 62, 182)] 218 hX (by decide +kernel) (by decide +kernel) (t := 154) (if_pos s1_0) ?_
    obtain rfl : c_z = 37 := Zeq (by omega) (by decide) s1_0
    refine Zgo hX 1 rfl (by first | exact True.intro | (dsimp only [ZallP]; and_intros <;> (first | decide | ((try simp only [pk_mul, nI_add]); exact Zin_n (by omega) (by decide))))) ?_
    refine Zs_eq hX (List.cons_ne_nil _ _) (fun h155_z => ?_) (fun h155_z => ?_)
    · skip
      refine Zgo hX 2 rfl (by first | exact True.intro | (dsimp only [ZallP]; and_intros <;> (first | decide | ((try simp only [pk_mul, nI_add]); exact Zin_n (by omega) (by decide))))) ?_
      refine Zs_ret hX hE rfl ⟨by show some (Value.int _) = some (Value.int (if y_z = 0 then nI 0 else x_z - x_z / y_z * y_z)); first | (rw [if_pos h155_z]; done) | (rw [if_neg h155_z, h160_z, Zrem_m1]; done) | (rw [if_neg h155_z]; done), rfl⟩
    · skip
      refine Zgo hX 2 rfl (by first | exact True.intro | (dsimp only [ZallP]; and_intros <;> (first | decide | ((try simp only [pk_mul, nI_add]); exact Zin_n (by omega) (by decide))))) ?_
      refine Zs_ine hX (List.cons_ne_nil _ _) (fun h160_z => ?_) (fun h160_z => ?_)
      · skip
        refine Zgo hX 3 rfl h155_z ?_
        refine Zs_ret hX hE rfl ⟨by show some (Value.int _) = some (Value.int (if y_z = 0 then nI 0 else x_z - x_z / y_z * y_z)); first | (rw [if_pos h155_z]; done) | (rw [if_neg h155_z, h160_z, Zrem_m1]; done) | (rw [if_neg h155_z]; done), rfl⟩
      · skip
        refine Zgo hX 2 rfl (by first | exact True.intro | (dsimp only [ZallP]; and_intros <;> (first | decide | ((try simp only [pk_mul, nI_add]); exact Zin_n (by omega) (by decide))))) ?_
        refine Zs_ret hX hE rfl ⟨by show some (Value.int _) = some (Value.int (if y_z = 0 then nI 0 else x_z - x_z / y_z * y_z)); first | (rw [if_pos h155_z]; done) | (rw [if_neg h155_z, h160_z, Zrem_m1]; done) | (rw [if_neg h155_z]; done), rfl⟩
  by_cases s1_1 : nI c_z = nI 38
  · skip
    refine Zs_sw [(nI 37, 154), (nI 38, 204), (nI 39, 218), (nI 40, 218), (nI 41, 218), (nI 42, 128), (nI 43, 120), (nI 44, 218), (nI 45, 124), (nI 46, 218), (nI 47, 132), (nI 48, 218), (nI 49, 218), (nI 50, 218), (nI 51, 218), (nI 52, 218), (nI 53, 218), (nI 54, 218), (nI 55, 218), (nI 56, 218), (nI 57, 218), (nI 58, 218), (nI 59, 218), (nI 60, 171), (nI 61, 193), (nI 62, 182)] 218 hX (by decide +kernel) (by decide +kernel) (t := 204) ((if_neg s1_0).trans (if_pos s1_1)) ?_
    obtain rfl : c_z = 38 := Zeq (by omega) (by decide) s1_1
    refine Zgo hX 1 rfl (by first | exact True.intro | (dsimp only [ZallP]; and_intros <;> (first | decide | ((try simp only [pk_mul, nI_add]); exact Zin_n (by omega) (by decide))))) ?_
    refine Zs_eq hX (List.cons_ne_nil _ _) (fun h205_z => ?_) (fun h205_z => ?_)
    · skip
      refine Zgo hX 1 rfl (by first | exact True.intro | (dsimp only [ZallP]; and_intros <;> (first | decide | ((try simp only [pk_mul, nI_add]); exact Zin_n (by omega) (by decide))))) ?_
      refine Zs_ret hX hE rfl ⟨by show some (Value.int _) = some (Value.int (if ¬ x_z = 0 ∧ ¬ y_z = 0 then nI 1 else nI 0)); first | (rw [if_pos ⟨h205_z, h209_z⟩]; done) | (rw [if_neg (fun q_z => q_z.1 h205_z)]; done) | (rw [if_neg (fun q_z => q_z.2 h209_z)]; done), rfl⟩
    · skip
      refine Zgo hX 1 rfl (by first | exact True.intro | (dsimp only [ZallP]; and_intros <;> (first | decide | ((try simp only [pk_mul, nI_add]); exact Zin_n (by omega) (by decide))))) ?_
      refine Zs_eq hX (List.cons_ne_nil _ _) (fun h209_z => ?_) (fun h209_z => ?_)
      · skip
        refine Zgo hX 1 rfl (by first | exact True.intro | (dsimp only [ZallP]; and_intros <;> (first | decide | ((try simp only [pk_mul, nI_add]); exact Zin_n (by omega) (by decide))))) ?_
        refine Zs_ret hX hE rfl ⟨by show some (Value.int _) = some (Value.int (if ¬ x_z = 0 ∧ ¬ y_z = 0 then nI 1 else nI 0)); first | (rw [if_pos ⟨h205_z, h209_z⟩]; done) | (rw [if_neg (fun q_z => q_z.1 h205_z)]; done) | (rw [if_neg (fun q_z => q_z.2 h209_z)]; done), rfl⟩
      · skip
        refine Zgo hX 2 rfl (by first | exact True.intro | (dsimp only [ZallP]; and_intros <;> (first | decide | ((try simp only [pk_mul, nI_add]); exact Zin_n (by omega) (by decide))))) ?_
        refine Zs_ret hX hE rfl ⟨by show some (Value.int _) = some (Value.int (if ¬ x_z = 0 ∧ ¬ y_z = 0 then nI 1 else nI 0)); first | (rw [if_pos ⟨h205_z, h209_z⟩]; done) | (rw [if_neg (fun q_z => q_z.1 h205_z)]; done) | (rw [if_neg (fun q_z => q_z.2 h209_z)]; done), rfl⟩
  by_cases s1_2 : nI c_z = nI 39
  · skip
    refine Zs_sw [(nI 37, 154), (nI 38, 204), (nI 39, 218), (nI 40, 218), (nI 41, 218), (nI 42, 128), (nI 43, 120), (nI 44, 218), (nI 45, 124), (nI 46, 218), (nI 47, 132), (nI 48, 218), (nI 49, 218), (nI 50, 218), (nI 51, 218), (nI 52, 218), (nI 53, 218), (nI 54, 218), (nI 55, 218), (nI 56, 218), (nI 57, 218), (nI 58, 218), (nI 59, 218), (nI 60, 171), (nI 61, 193), (nI 62, 182)] 218 hX (by decide +kernel) (by decide +kernel) (t := 218) ((if_neg s1_0).trans ((if_neg s1_1).trans (if_pos s1_2))) ?_
    obtain rfl : c_z = 39 := Zeq (by omega) (by decide) s1_2
    exact absurd hsg (by unfold Zsg; omega)
  by_cases s1_3 : nI c_z = nI 40
  · skip
    refine Zs_sw [(nI 37, 154), (nI 38, 204), (nI 39, 218), (nI 40, 218), (nI 41, 218), (nI 42, 128), (nI 43, 120), (nI 44, 218), (nI 45, 124), (nI 46, 218), (nI 47, 132), (nI 48, 218), (nI 49, 218), (nI 50, 218), (nI 51, 218), (nI 52, 218), (nI 53, 218), (nI 54, 218), (nI 55, 218), (nI 56, 218), (nI 57, 218), (nI 58, 218), (nI 59, 218), (nI 60, 171), (nI 61, 193), (nI 62, 182)] 218 hX (by decide +kernel) (by decide +kernel) (t := 218) ((if_neg s1_0).trans ((if_neg s1_1).trans ((if_neg s1_2).trans (if_pos s1_3)))) ?_
    obtain rfl : c_z = 40 := Zeq (by omega) (by decide) s1_3
    exact absurd hsg (by unfold Zsg; omega)
  by_cases s1_4 : nI c_z = nI 41
  · skip
    refine Zs_sw [(nI 37, 154), (nI 38, 204), (nI 39, 218), (nI 40, 218), (nI 41, 218), (nI 42, 128), (nI 43, 120), (nI 44, 218), (nI 45, 124), (nI 46, 218), (nI 47, 132), (nI 48, 218), (nI 49, 218), (nI 50, 218), (nI 51, 218), (nI 52, 218), (nI 53, 218), (nI 54, 218), (nI 55, 218), (nI 56, 218), (nI 57, 218), (nI 58, 218), (nI 59, 218), (nI 60, 171), (nI 61, 193), (nI 62, 182)] 218 hX (by decide +kernel) (by decide +kernel) (t := 218) ((if_neg s1_0).trans ((if_neg s1_1).trans ((if_neg s1_2).trans ((if_neg s1_3).trans (if_pos s1_4))))) ?_
    obtain rfl : c_z = 41 := Zeq (by omega) (by decide) s1_4
    exact absurd hsg (by unfold Zsg; omega)
  by_cases s1_5 : nI c_z = nI 42
  · skip
    refine Zs_sw [(nI 37, 154), (nI 38, 204), (nI 39, 218), (nI 40, 218), (nI 41, 218), (nI 42, 128), (nI 43, 120), (nI 44, 218), (nI 45, 124), (nI 46, 218), (nI 47, 132), (nI 48, 218), (nI 49, 218), (nI 50, 218), (nI 51, 218), (nI 52, 218), (nI 53, 218), (nI 54, 218), (nI 55, 218), (nI 56, 218), (nI 57, 218), (nI 58, 218), (nI 59, 218), (nI 60, 171), (nI 61, 193), (nI 62, 182)] 218 hX (by decide +kernel) (by decide +kernel) (t := 128) ((if_neg s1_0).trans ((if_neg s1_1).trans ((if_neg s1_2).trans ((if_neg s1_3).trans ((if_neg s1_4).trans (if_pos s1_5)))))) ?_
    obtain rfl : c_z = 42 := Zeq (by omega) (by decide) s1_5
    refine Zgo hX 3 rfl (by first | exact True.intro | (dsimp only [ZallP]; and_intros <;> (first | decide | ((try simp only [pk_mul, nI_add]); exact Zin_n (by omega) (by decide))))) ?_
    refine Zs_ret hX hE rfl ⟨rfl, rfl⟩
  by_cases s1_6 : nI c_z = nI 43
  · skip
    refine Zs_sw [(nI 37, 154), (nI 38, 204), (nI 39, 218), (nI 40, 218), (nI 41, 218), (nI 42, 128), (nI 43, 120), (nI 44, 218), (nI 45, 124), (nI 46, 218), (nI 47, 132), (nI 48, 218), (nI 49, 218), (nI 50, 218), (nI 51, 218), (nI 52, 218), (nI 53, 218), (nI 54, 218), (nI 55, 218), (nI 56, 218), (nI 57, 218), (nI 58, 218), (nI 59, 218), (nI 60, 171), (nI 61, 193), (nI 62, 182)] 218 hX (by decide +kernel) (by decide +kernel) (t := 120) ((if_neg s1_0).trans ((if_neg s1_1).trans ((if_neg s1_2).trans ((if_neg s1_3).trans ((if_neg s1_4).trans ((if_neg s1_5).trans (if_pos s1_6))))))) ?_
    obtain rfl : c_z = 43 := Zeq (by omega) (by decide) s1_6
    refine Zgo hX 3 rfl (by first | exact True.intro | (dsimp only [ZallP]; and_intros <;> (first | decide | ((try simp only [pk_mul, nI_add]); exact Zin_n (by omega) (by decide))))) ?_
    refine Zs_ret hX hE rfl ⟨rfl, rfl⟩
  by_cases s1_7 : nI c_z = nI 44
  · skip
    refine Zs_sw [(nI 37, 154), (nI 38, 204), (nI 39, 218), (nI 40, 218), (nI 41, 218), (nI 42, 128), (nI 43, 120), (nI 44, 218), (nI 45, 124), (nI 46, 218), (nI 47, 132), (nI 48, 218), (nI 49, 218), (nI 50, 218), (nI 51, 218), (nI 52, 218), (nI 53, 218), (nI 54, 218), (nI 55, 218), (nI 56, 218), (nI 57, 218), (nI 58, 218), (nI 59, 218), (nI 60, 171), (nI 61, 193), (nI 62, 182)] 218 hX (by decide +kernel) (by decide +kernel) (t := 218) ((if_neg s1_0).trans ((if_neg s1_1).trans ((if_neg s1_2).trans ((if_neg s1_3).trans ((if_neg s1_4).trans ((if_neg s1_5).trans ((if_neg s1_6).trans (if_pos s1_7)))))))) ?_
    obtain rfl : c_z = 44 := Zeq (by omega) (by decide) s1_7
    exact absurd hsg (by unfold Zsg; omega)
  by_cases s1_8 : nI c_z = nI 45
  · skip
    refine Zs_sw [(nI 37, 154), (nI 38, 204), (nI 39, 218), (nI 40, 218), (nI 41, 218), (nI 42, 128), (nI 43, 120), (nI 44, 218), (nI 45, 124), (nI 46, 218), (nI 47, 132), (nI 48, 218), (nI 49, 218), (nI 50, 218), (nI 51, 218), (nI 52, 218), (nI 53, 218), (nI 54, 218), (nI 55, 218), (nI 56, 218), (nI 57, 218), (nI 58, 218), (nI 59, 218), (nI 60, 171), (nI 61, 193), (nI 62, 182)] 218 hX (by decide +kernel) (by decide +kernel) (t := 124) ((if_neg s1_0).trans ((if_neg s1_1).trans ((if_neg s1_2).trans ((if_neg s1_3).trans ((if_neg s1_4).trans ((if_neg s1_5).trans ((if_neg s1_6).trans ((if_neg s1_7).trans (if_pos s1_8))))))))) ?_
    obtain rfl : c_z = 45 := Zeq (by omega) (by decide) s1_8
    refine Zgo hX 3 rfl (by first | exact True.intro | (dsimp only [ZallP]; and_intros <;> (first | decide | ((try simp only [pk_mul, nI_add]); exact Zin_n (by omega) (by decide))))) ?_
    refine Zs_ret hX hE rfl ⟨rfl, rfl⟩
  by_cases s1_9 : nI c_z = nI 46
  · skip
    refine Zs_sw [(nI 37, 154), (nI 38, 204), (nI 39, 218), (nI 40, 218), (nI 41, 218), (nI 42, 128), (nI 43, 120), (nI 44, 218), (nI 45, 124), (nI 46, 218), (nI 47, 132), (nI 48, 218), (nI 49, 218), (nI 50, 218), (nI 51, 218), (nI 52, 218), (nI 53, 218), (nI 54, 218), (nI 55, 218), (nI 56, 218), (nI 57, 218), (nI 58, 218), (nI 59, 218), (nI 60, 171), (nI 61, 193), (nI 62, 182)] 218 hX (by decide +kernel) (by decide +kernel) (t := 218) ((if_neg s1_0).trans ((if_neg s1_1).trans ((if_neg s1_2).trans ((if_neg s1_3).trans ((if_neg s1_4).trans ((if_neg s1_5).trans ((if_neg s1_6).trans ((if_neg s1_7).trans ((if_neg s1_8).trans (if_pos s1_9)))))))))) ?_
    obtain rfl : c_z = 46 := Zeq (by omega) (by decide) s1_9
    exact absurd hsg (by unfold Zsg; omega)
  by_cases s1_10 : nI c_z = nI 47
  · skip
    refine Zs_sw [(nI 37, 154), (nI 38, 204), (nI 39, 218), (nI 40, 218), (nI 41, 218), (nI 42, 128), (nI 43, 120), (nI 44, 218), (nI 45, 124), (nI 46, 218), (nI 47, 132), (nI 48, 218), (nI 49, 218), (nI 50, 218), (nI 51, 218), (nI 52, 218), (nI 53, 218), (nI 54, 218), (nI 55, 218), (nI 56, 218), (nI 57, 218), (nI 58, 218), (nI 59, 218), (nI 60, 171), (nI 61, 193), (nI 62, 182)] 218 hX (by decide +kernel) (by decide +kernel) (t := 132) ((if_neg s1_0).trans ((if_neg s1_1).trans ((if_neg s1_2).trans ((if_neg s1_3).trans ((if_neg s1_4).trans ((if_neg s1_5).trans ((if_neg s1_6).trans ((if_neg s1_7).trans ((if_neg s1_8).trans ((if_neg s1_9).trans (if_pos s1_10))))))))))) ?_
    obtain rfl : c_z = 47 := Zeq (by omega) (by decide) s1_10
    refine Zgo hX 1 rfl (by first | exact True.intro | (dsimp only [ZallP]; and_intros <;> (first | decide | ((try simp only [pk_mul, nI_add]); exact Zin_n (by omega) (by decide))))) ?_
    refine Zs_ne hX (List.cons_ne_nil _ _) (fun h133_z => ?_) (fun h133_z => ?_)
    · skip
      refine Zgo hX 2 rfl (by first | exact True.intro | (dsimp only [ZallP]; and_intros <;> (first | decide | ((try simp only [pk_mul, nI_add]); exact Zin_n (by omega) (by decide))))) ?_
      refine Zs_ine hX (List.cons_ne_nil _ _) (fun h142_z => ?_) (fun h142_z => ?_)
      · skip
        refine Zgo hX 3 rfl h133_z ?_
        refine Zs_ret hX hE rfl ⟨by show some (Value.int _) = some (Value.int (if y_z = 0 then nI 0 else x_z / y_z)); first | (rw [if_pos h133_z]; done) | (rw [if_neg h133_z, h142_z, Zdiv_m1]; done) | (rw [if_neg h133_z]; done), rfl⟩
      · skip
        refine Zgo hX 3 rfl (by first | exact True.intro | (dsimp only [ZallP]; and_intros <;> (first | decide | ((try simp only [pk_mul, nI_add]); exact Zin_n (by omega) (by decide))))) ?_
        refine Zs_ret hX hE rfl ⟨by show some (Value.int _) = some (Value.int (if y_z = 0 then nI 0 else x_z / y_z)); first | (rw [if_pos h133_z]; done) | (rw [if_neg h133_z, h142_z, Zdiv_m1]; done) | (rw [if_neg h133_z]; done), rfl⟩
    · skip
      refine Zgo hX 2 rfl (by first | exact True.intro | (dsimp only [ZallP]; and_intros <;> (first | decide | ((try simp only [pk_mul, nI_add]); exact Zin_n (by omega) (by decide))))) ?_
      refine Zs_ret hX hE rfl ⟨by show some (Value.int _) = some (Value.int (if y_z = 0 then nI 0 else x_z / y_z)); first | (rw [if_pos h133_z]; done) | (rw [if_neg h133_z, h142_z, Zdiv_m1]; done) | (rw [if_neg h133_z]; done), rfl⟩
  by_cases s1_11 : nI c_z = nI 48
  · skip
    refine Zs_sw [(nI 37, 154), (nI 38, 204), (nI 39, 218), (nI 40, 218), (nI 41, 218), (nI 42, 128), (nI 43, 120), (nI 44, 218), (nI 45, 124), (nI 46, 218), (nI 47, 132), (nI 48, 218), (nI 49, 218), (nI 50, 218), (nI 51, 218), (nI 52, 218), (nI 53, 218), (nI 54, 218), (nI 55, 218), (nI 56, 218), (nI 57, 218), (nI 58, 218), (nI 59, 218), (nI 60, 171), (nI 61, 193), (nI 62, 182)] 218 hX (by decide +kernel) (by decide +kernel) (t := 218) ((if_neg s1_0).trans ((if_neg s1_1).trans ((if_neg s1_2).trans ((if_neg s1_3).trans ((if_neg s1_4).trans ((if_neg s1_5).trans ((if_neg s1_6).trans ((if_neg s1_7).trans ((if_neg s1_8).trans ((if_neg s1_9).trans ((if_neg s1_10).trans (if_pos s1_11)))))))))))) ?_
    obtain rfl : c_z = 48 := Zeq (by omega) (by decide) s1_11
    exact absurd hsg (by unfold Zsg; omega)
  by_cases s1_12 : nI c_z = nI 49
  · skip
    refine Zs_sw [(nI 37, 154), (nI 38, 204), (nI 39, 218), (nI 40, 218), (nI 41, 218), (nI 42, 128), (nI 43, 120), (nI 44, 218), (nI 45, 124), (nI 46, 218), (nI 47, 132), (nI 48, 218), (nI 49, 218), (nI 50, 218), (nI 51, 218), (nI 52, 218), (nI 53, 218), (nI 54, 218), (nI 55, 218), (nI 56, 218), (nI 57, 218), (nI 58, 218), (nI 59, 218), (nI 60, 171), (nI 61, 193), (nI 62, 182)] 218 hX (by decide +kernel) (by decide +kernel) (t := 218) ((if_neg s1_0).trans ((if_neg s1_1).trans ((if_neg s1_2).trans ((if_neg s1_3).trans ((if_neg s1_4).trans ((if_neg s1_5).trans ((if_neg s1_6).trans ((if_neg s1_7).trans ((if_neg s1_8).trans ((if_neg s1_9).trans ((if_neg s1_10).trans ((if_neg s1_11).trans (if_pos s1_12))))))))))))) ?_
    obtain rfl : c_z = 49 := Zeq (by omega) (by decide) s1_12
    exact absurd hsg (by unfold Zsg; omega)
  by_cases s1_13 : nI c_z = nI 50
  · skip
    refine Zs_sw [(nI 37, 154), (nI 38, 204), (nI 39, 218), (nI 40, 218), (nI 41, 218), (nI 42, 128), (nI 43, 120), (nI 44, 218), (nI 45, 124), (nI 46, 218), (nI 47, 132), (nI 48, 218), (nI 49, 218), (nI 50, 218), (nI 51, 218), (nI 52, 218), (nI 53, 218), (nI 54, 218), (nI 55, 218), (nI 56, 218), (nI 57, 218), (nI 58, 218), (nI 59, 218), (nI 60, 171), (nI 61, 193), (nI 62, 182)] 218 hX (by decide +kernel) (by decide +kernel) (t := 218) ((if_neg s1_0).trans ((if_neg s1_1).trans ((if_neg s1_2).trans ((if_neg s1_3).trans ((if_neg s1_4).trans ((if_neg s1_5).trans ((if_neg s1_6).trans ((if_neg s1_7).trans ((if_neg s1_8).trans ((if_neg s1_9).trans ((if_neg s1_10).trans ((if_neg s1_11).trans ((if_neg s1_12).trans (if_pos s1_13)))))))))))))) ?_
    obtain rfl : c_z = 50 := Zeq (by omega) (by decide) s1_13
    exact absurd hsg (by unfold Zsg; omega)
  by_cases s1_14 : nI c_z = nI 51
  · skip
    refine Zs_sw [(nI 37, 154), (nI 38, 204), (nI 39, 218), (nI 40, 218), (nI 41, 218), (nI 42, 128), (nI 43, 120), (nI 44, 218), (nI 45, 124), (nI 46, 218), (nI 47, 132), (nI 48, 218), (nI 49, 218), (nI 50, 218), (nI 51, 218), (nI 52, 218), (nI 53, 218), (nI 54, 218), (nI 55, 218), (nI 56, 218), (nI 57, 218), (nI 58, 218), (nI 59, 218), (nI 60, 171), (nI 61, 193), (nI 62, 182)] 218 hX (by decide +kernel) (by decide +kernel) (t := 218) ((if_neg s1_0).trans ((if_neg s1_1).trans ((if_neg s1_2).trans ((if_neg s1_3).trans ((if_neg s1_4).trans ((if_neg s1_5).trans ((if_neg s1_6).trans ((if_neg s1_7).trans ((if_neg s1_8).trans ((if_neg s1_9).trans ((if_neg s1_10).trans ((if_neg s1_11).trans ((if_neg s1_12).trans ((if_neg s1_13).trans (if_pos s1_14))))))))))))))) ?_
    obtain rfl : c_z = 51 := Zeq (by omega) (by decide) s1_14
    exact absurd hsg (by unfold Zsg; omega)
  by_cases s1_15 : nI c_z = nI 52
  · skip
    refine Zs_sw [(nI 37, 154), (nI 38, 204), (nI 39, 218), (nI 40, 218), (nI 41, 218), (nI 42, 128), (nI 43, 120), (nI 44, 218), (nI 45, 124), (nI 46, 218), (nI 47, 132), (nI 48, 218), (nI 49, 218), (nI 50, 218), (nI 51, 218), (nI 52, 218), (nI 53, 218), (nI 54, 218), (nI 55, 218), (nI 56, 218), (nI 57, 218), (nI 58, 218), (nI 59, 218), (nI 60, 171), (nI 61, 193), (nI 62, 182)] 218 hX (by decide +kernel) (by decide +kernel) (t := 218) ((if_neg s1_0).trans ((if_neg s1_1).trans ((if_neg s1_2).trans ((if_neg s1_3).trans ((if_neg s1_4).trans ((if_neg s1_5).trans ((if_neg s1_6).trans ((if_neg s1_7).trans ((if_neg s1_8).trans ((if_neg s1_9).trans ((if_neg s1_10).trans ((if_neg s1_11).trans ((if_neg s1_12).trans ((if_neg s1_13).trans ((if_neg s1_14).trans (if_pos s1_15)))))))))))))))) ?_
    obtain rfl : c_z = 52 := Zeq (by omega) (by decide) s1_15
    exact absurd hsg (by unfold Zsg; omega)
  by_cases s1_16 : nI c_z = nI 53
  · skip
    refine Zs_sw [(nI 37, 154), (nI 38, 204), (nI 39, 218), (nI 40, 218), (nI 41, 218), (nI 42, 128), (nI 43, 120), (nI 44, 218), (nI 45, 124), (nI 46, 218), (nI 47, 132), (nI 48, 218), (nI 49, 218), (nI 50, 218), (nI 51, 218), (nI 52, 218), (nI 53, 218), (nI 54, 218), (nI 55, 218), (nI 56, 218), (nI 57, 218), (nI 58, 218), (nI 59, 218), (nI 60, 171), (nI 61, 193), (nI 62, 182)] 218 hX (by decide +kernel) (by decide +kernel) (t := 218) ((if_neg s1_0).trans ((if_neg s1_1).trans ((if_neg s1_2).trans ((if_neg s1_3).trans ((if_neg s1_4).trans ((if_neg s1_5).trans ((if_neg s1_6).trans ((if_neg s1_7).trans ((if_neg s1_8).trans ((if_neg s1_9).trans ((if_neg s1_10).trans ((if_neg s1_11).trans ((if_neg s1_12).trans ((if_neg s1_13).trans ((if_neg s1_14).trans ((if_neg s1_15).trans (if_pos s1_16))))))))))))))))) ?_
    obtain rfl : c_z = 53 := Zeq (by omega) (by decide) s1_16
    exact absurd hsg (by unfold Zsg; omega)
  by_cases s1_17 : nI c_z = nI 54
  · skip
    refine Zs_sw [(nI 37, 154), (nI 38, 204), (nI 39, 218), (nI 40, 218), (nI 41, 218), (nI 42, 128), (nI 43, 120), (nI 44, 218), (nI 45, 124), (nI 46, 218), (nI 47, 132), (nI 48, 218), (nI 49, 218), (nI 50, 218), (nI 51, 218), (nI 52, 218), (nI 53, 218), (nI 54, 218), (nI 55, 218), (nI 56, 218), (nI 57, 218), (nI 58, 218), (nI 59, 218), (nI 60, 171), (nI 61, 193), (nI 62, 182)] 218 hX (by decide +kernel) (by decide +kernel) (t := 218) ((if_neg s1_0).trans ((if_neg s1_1).trans ((if_neg s1_2).trans ((if_neg s1_3).trans ((if_neg s1_4).trans ((if_neg s1_5).trans ((if_neg s1_6).trans ((if_neg s1_7).trans ((if_neg s1_8).trans ((if_neg s1_9).trans ((if_neg s1_10).trans ((if_neg s1_11).trans ((if_neg s1_12).trans ((if_neg s1_13).trans ((if_neg s1_14).trans ((if_neg s1_15).trans ((if_neg s1_16).trans (if_pos s1_17)))))))))))))))))) ?_
    obtain rfl : c_z = 54 := Zeq (by omega) (by decide) s1_17
    exact absurd hsg (by unfold Zsg; omega)
  by_cases s1_18 : nI c_z = nI 55
  · skip
    refine Zs_sw [(nI 37, 154), (nI 38, 204), (nI 39, 218), (nI 40, 218), (nI 41, 218), (nI 42, 128), (nI 43, 120), (nI 44, 218), (nI 45, 124), (nI 46, 218), (nI 47, 132), (nI 48, 218), (nI 49, 218), (nI 50, 218), (nI 51, 218), (nI 52, 218), (nI 53, 218), (nI 54, 218), (nI 55, 218), (nI 56, 218), (nI 57, 218), (nI 58, 218), (nI 59, 218), (nI 60, 171), (nI 61, 193), (nI 62, 182)] 218 hX (by decide +kernel) (by decide +kernel) (t := 218) ((if_neg s1_0).trans ((if_neg s1_1).trans ((if_neg s1_2).trans ((if_neg s1_3).trans ((if_neg s1_4).trans ((if_neg s1_5).trans ((if_neg s1_6).trans ((if_neg s1_7).trans ((if_neg s1_8).trans ((if_neg s1_9).trans ((if_neg s1_10).trans ((if_neg s1_11).trans ((if_neg s1_12).trans ((if_neg s1_13).trans ((if_neg s1_14).trans ((if_neg s1_15).trans ((if_neg s1_16).trans ((if_neg s1_17).trans (if_pos s1_18))))))))))))))))))) ?_
    obtain rfl : c_z = 55 := Zeq (by omega) (by decide) s1_18
    exact absurd hsg (by unfold Zsg; omega)
  by_cases s1_19 : nI c_z = nI 56
  · skip
    refine Zs_sw [(nI 37, 154), (nI 38, 204), (nI 39, 218), (nI 40, 218), (nI 41, 218), (nI 42, 128), (nI 43, 120), (nI 44, 218), (nI 45, 124), (nI 46, 218), (nI 47, 132), (nI 48, 218), (nI 49, 218), (nI 50, 218), (nI 51, 218), (nI 52, 218), (nI 53, 218), (nI 54, 218), (nI 55, 218), (nI 56, 218), (nI 57, 218), (nI 58, 218), (nI 59, 218), (nI 60, 171), (nI 61, 193), (nI 62, 182)] 218 hX (by decide +kernel) (by decide +kernel) (t := 218) ((if_neg s1_0).trans ((if_neg s1_1).trans ((if_neg s1_2).trans ((if_neg s1_3).trans ((if_neg s1_4).trans ((if_neg s1_5).trans ((if_neg s1_6).trans ((if_neg s1_7).trans ((if_neg s1_8).trans ((if_neg s1_9).trans ((if_neg s1_10).trans ((if_neg s1_11).trans ((if_neg s1_12).trans ((if_neg s1_13).trans ((if_neg s1_14).trans ((if_neg s1_15).trans ((if_neg s1_16).trans ((if_neg s1_17).trans ((if_neg s1_18).trans (if_pos s1_19)))))))))))))))))))) ?_
    obtain rfl : c_z = 56 := Zeq (by omega) (by decide) s1_19
    exact absurd hsg (by unfold Zsg; omega)
  by_cases s1_20 : nI c_z = nI 57
  · skip
    refine Zs_sw [(nI 37, 154), (nI 38, 204), (nI 39, 218), (nI 40, 218), (nI 41, 218), (nI 42, 128), (nI 43, 120), (nI 44, 218), (nI 45, 124), (nI 46, 218), (nI 47, 132), (nI 48, 218), (nI 49, 218), (nI 50, 218), (nI 51, 218), (nI 52, 218), (nI 53, 218), (nI 54, 218), (nI 55, 218), (nI 56, 218), (nI 57, 218), (nI 58, 218), (nI 59, 218), (nI 60, 171), (nI 61, 193), (nI 62, 182)] 218 hX (by decide +kernel) (by decide +kernel) (t := 218) ((if_neg s1_0).trans ((if_neg s1_1).trans ((if_neg s1_2).trans ((if_neg s1_3).trans ((if_neg s1_4).trans ((if_neg s1_5).trans ((if_neg s1_6).trans ((if_neg s1_7).trans ((if_neg s1_8).trans ((if_neg s1_9).trans ((if_neg s1_10).trans ((if_neg s1_11).trans ((if_neg s1_12).trans ((if_neg s1_13).trans ((if_neg s1_14).trans ((if_neg s1_15).trans ((if_neg s1_16).trans ((if_neg s1_17).trans ((if_neg s1_18).trans ((if_neg s1_19).trans (if_pos s1_20))))))))))))))))))))) ?_
    obtain rfl : c_z = 57 := Zeq (by omega) (by decide) s1_20
    exact absurd hsg (by unfold Zsg; omega)
  by_cases s1_21 : nI c_z = nI 58
  · skip
    refine Zs_sw [(nI 37, 154), (nI 38, 204), (nI 39, 218), (nI 40, 218), (nI 41, 218), (nI 42, 128), (nI 43, 120), (nI 44, 218), (nI 45, 124), (nI 46, 218), (nI 47, 132), (nI 48, 218), (nI 49, 218), (nI 50, 218), (nI 51, 218), (nI 52, 218), (nI 53, 218), (nI 54, 218), (nI 55, 218), (nI 56, 218), (nI 57, 218), (nI 58, 218), (nI 59, 218), (nI 60, 171), (nI 61, 193), (nI 62, 182)] 218 hX (by decide +kernel) (by decide +kernel) (t := 218) ((if_neg s1_0).trans ((if_neg s1_1).trans ((if_neg s1_2).trans ((if_neg s1_3).trans ((if_neg s1_4).trans ((if_neg s1_5).trans ((if_neg s1_6).trans ((if_neg s1_7).trans ((if_neg s1_8).trans ((if_neg s1_9).trans ((if_neg s1_10).trans ((if_neg s1_11).trans ((if_neg s1_12).trans ((if_neg s1_13).trans ((if_neg s1_14).trans ((if_neg s1_15).trans ((if_neg s1_16).trans ((if_neg s1_17).trans ((if_neg s1_18).trans ((if_neg s1_19).trans ((if_neg s1_20).trans (if_pos s1_21)))))))))))))))))))))) ?_
    obtain rfl : c_z = 58 := Zeq (by omega) (by decide) s1_21
    exact absurd hsg (by unfold Zsg; omega)
  by_cases s1_22 : nI c_z = nI 59
  · skip
    refine Zs_sw [(nI 37, 154), (nI 38, 204), (nI 39, 218), (nI 40, 218), (nI 41, 218), (nI 42, 128), (nI 43, 120), (nI 44, 218), (nI 45, 124), (nI 46, 218), (nI 47, 132), (nI 48, 218), (nI 49, 218), (nI 50, 218), (nI 51, 218), (nI 52, 218), (nI 53, 218), (nI 54, 218), (nI 55, 218), (nI 56, 218), (nI 57, 218), (nI 58, 218), (nI 59, 218), (nI 60, 171), (nI 61, 193), (nI 62, 182)] 218 hX (by decide +kernel) (by decide +kernel) (t := 218) ((if_neg s1_0).trans ((if_neg s1_1).trans ((if_neg s1_2).trans ((if_neg s1_3).trans ((if_neg s1_4).trans ((if_neg s1_5).trans ((if_neg s1_6).trans ((if_neg s1_7).trans ((if_neg s1_8).trans ((if_neg s1_9).trans ((if_neg s1_10).trans ((if_neg s1_11).trans ((if_neg s1_12).trans ((if_neg s1_13).trans ((if_neg s1_14).trans ((if_neg s1_15).trans ((if_neg s1_16).trans ((if_neg s1_17).trans ((if_neg s1_18).trans ((if_neg s1_19).trans ((if_neg s1_20).trans ((if_neg s1_21).trans (if_pos s1_22))))))))))))))))))))))) ?_
    obtain rfl : c_z = 59 := Zeq (by omega) (by decide) s1_22
    exact absurd hsg (by unfold Zsg; omega)
  by_cases s1_23 : nI c_z = nI 60
  · skip
    refine Zs_sw [(nI 37, 154), (nI 38, 204), (nI 39, 218), (nI 40, 218), (nI 41, 218), (nI 42, 128), (nI 43, 120), (nI 44, 218), (nI 45, 124), (nI 46, 218), (nI 47, 132), (nI 48, 218), (nI 49, 218), (nI 50, 218), (nI 51, 218), (nI 52, 218), (nI 53, 218), (nI 54, 218), (nI 55, 218), (nI 56, 218), (nI 57, 218), (nI 58, 218), (nI 59, 218), (nI 60, 171), (nI 61, 193), (nI 62, 182)] 218 hX (by decide +kernel) (by decide +kernel) (t := 171) ((if_neg s1_0).trans ((if_neg s1_1).trans ((if_neg s1_2).trans ((if_neg s1_3).trans ((if_neg s1_4).trans ((if_neg s1_5).trans ((if_neg s1_6).trans ((if_neg s1_7).trans ((if_neg s1_8).trans ((if_neg s1_9).trans ((if_neg s1_10).trans ((if_neg s1_11).trans ((if_neg s1_12).trans ((if_neg s1_13).trans ((if_neg s1_14).trans ((if_neg s1_15).trans ((if_neg s1_16).trans ((if_neg s1_17).trans ((if_neg s1_18).trans ((if_neg s1_19).trans ((if_neg s1_20).trans ((if_neg s1_21).trans ((if_neg s1_22).trans (if_pos s1_23)))))))))))))))))))))))) ?_
    obtain rfl : c_z = 60 := Zeq (by omega) (by decide) s1_23
    refine Zgo hX 2 rfl (by first | exact True.intro | (dsimp only [ZallP]; and_intros <;> (first | decide | ((try simp only [pk_mul, nI_add]); exact Zin_n (by omega) (by decide))))) ?_
    refine Zs_ige hX (List.cons_ne_nil _ _) (fun h173_z => ?_) (fun h173_z => ?_)
    · skip
      refine Zgo hX 1 rfl (by first | exact True.intro | (dsimp only [ZallP]; and_intros <;> (first | decide | ((try simp only [pk_mul, nI_add]); exact Zin_n (by omega) (by decide))))) ?_
      refine Zs_ret hX hE rfl ⟨by show some (Value.int _) = some (Value.int (if x_z < y_z then nI 1 else nI 0)); first | (rw [if_pos (Int32.not_le.mp h173_z)]; done) | (rw [if_neg (Int32.not_lt.mpr h173_z)]; done), rfl⟩
    · skip
      refine Zgo hX 2 rfl (by first | exact True.intro | (dsimp only [ZallP]; and_intros <;> (first | decide | ((try simp only [pk_mul, nI_add]); exact Zin_n (by omega) (by decide))))) ?_
      refine Zs_ret hX hE rfl ⟨by show some (Value.int _) = some (Value.int (if x_z < y_z then nI 1 else nI 0)); first | (rw [if_pos (Int32.not_le.mp h173_z)]; done) | (rw [if_neg (Int32.not_lt.mpr h173_z)]; done), rfl⟩
  by_cases s1_24 : nI c_z = nI 61
  · skip
    refine Zs_sw [(nI 37, 154), (nI 38, 204), (nI 39, 218), (nI 40, 218), (nI 41, 218), (nI 42, 128), (nI 43, 120), (nI 44, 218), (nI 45, 124), (nI 46, 218), (nI 47, 132), (nI 48, 218), (nI 49, 218), (nI 50, 218), (nI 51, 218), (nI 52, 218), (nI 53, 218), (nI 54, 218), (nI 55, 218), (nI 56, 218), (nI 57, 218), (nI 58, 218), (nI 59, 218), (nI 60, 171), (nI 61, 193), (nI 62, 182)] 218 hX (by decide +kernel) (by decide +kernel) (t := 193) ((if_neg s1_0).trans ((if_neg s1_1).trans ((if_neg s1_2).trans ((if_neg s1_3).trans ((if_neg s1_4).trans ((if_neg s1_5).trans ((if_neg s1_6).trans ((if_neg s1_7).trans ((if_neg s1_8).trans ((if_neg s1_9).trans ((if_neg s1_10).trans ((if_neg s1_11).trans ((if_neg s1_12).trans ((if_neg s1_13).trans ((if_neg s1_14).trans ((if_neg s1_15).trans ((if_neg s1_16).trans ((if_neg s1_17).trans ((if_neg s1_18).trans ((if_neg s1_19).trans ((if_neg s1_20).trans ((if_neg s1_21).trans ((if_neg s1_22).trans ((if_neg s1_23).trans (if_pos s1_24))))))))))))))))))))))))) ?_
    obtain rfl : c_z = 61 := Zeq (by omega) (by decide) s1_24
    refine Zgo hX 2 rfl (by first | exact True.intro | (dsimp only [ZallP]; and_intros <;> (first | decide | ((try simp only [pk_mul, nI_add]); exact Zin_n (by omega) (by decide))))) ?_
    refine Zs_ine hX (List.cons_ne_nil _ _) (fun h195_z => ?_) (fun h195_z => ?_)
    · skip
      refine Zgo hX 1 rfl (by first | exact True.intro | (dsimp only [ZallP]; and_intros <;> (first | decide | ((try simp only [pk_mul, nI_add]); exact Zin_n (by omega) (by decide))))) ?_
      refine Zs_ret hX hE rfl ⟨by show some (Value.int _) = some (Value.int (if x_z = y_z then nI 1 else nI 0)); first | (rw [if_pos h195_z]; done) | (rw [if_neg h195_z]; done), rfl⟩
    · skip
      refine Zgo hX 2 rfl (by first | exact True.intro | (dsimp only [ZallP]; and_intros <;> (first | decide | ((try simp only [pk_mul, nI_add]); exact Zin_n (by omega) (by decide))))) ?_
      refine Zs_ret hX hE rfl ⟨by show some (Value.int _) = some (Value.int (if x_z = y_z then nI 1 else nI 0)); first | (rw [if_pos h195_z]; done) | (rw [if_neg h195_z]; done), rfl⟩
  by_cases s1_25 : nI c_z = nI 62
  · skip
    refine Zs_sw [(nI 37, 154), (nI 38, 204), (nI 39, 218), (nI 40, 218), (nI 41, 218), (nI 42, 128), (nI 43, 120), (nI 44, 218), (nI 45, 124), (nI 46, 218), (nI 47, 132), (nI 48, 218), (nI 49, 218), (nI 50, 218), (nI 51, 218), (nI 52, 218), (nI 53, 218), (nI 54, 218), (nI 55, 218), (nI 56, 218), (nI 57, 218), (nI 58, 218), (nI 59, 218), (nI 60, 171), (nI 61, 193), (nI 62, 182)] 218 hX (by decide +kernel) (by decide +kernel) (t := 182) ((if_neg s1_0).trans ((if_neg s1_1).trans ((if_neg s1_2).trans ((if_neg s1_3).trans ((if_neg s1_4).trans ((if_neg s1_5).trans ((if_neg s1_6).trans ((if_neg s1_7).trans ((if_neg s1_8).trans ((if_neg s1_9).trans ((if_neg s1_10).trans ((if_neg s1_11).trans ((if_neg s1_12).trans ((if_neg s1_13).trans ((if_neg s1_14).trans ((if_neg s1_15).trans ((if_neg s1_16).trans ((if_neg s1_17).trans ((if_neg s1_18).trans ((if_neg s1_19).trans ((if_neg s1_20).trans ((if_neg s1_21).trans ((if_neg s1_22).trans ((if_neg s1_23).trans ((if_neg s1_24).trans (if_pos s1_25)))))))))))))))))))))))))) ?_
    obtain rfl : c_z = 62 := Zeq (by omega) (by decide) s1_25
    refine Zgo hX 2 rfl (by first | exact True.intro | (dsimp only [ZallP]; and_intros <;> (first | decide | ((try simp only [pk_mul, nI_add]); exact Zin_n (by omega) (by decide))))) ?_
    refine Zs_ile hX (List.cons_ne_nil _ _) (fun h184_z => ?_) (fun h184_z => ?_)
    · skip
      refine Zgo hX 1 rfl (by first | exact True.intro | (dsimp only [ZallP]; and_intros <;> (first | decide | ((try simp only [pk_mul, nI_add]); exact Zin_n (by omega) (by decide))))) ?_
      refine Zs_ret hX hE rfl ⟨by show some (Value.int _) = some (Value.int (if y_z < x_z then nI 1 else nI 0)); first | (rw [if_pos (Int32.not_le.mp h184_z)]; done) | (rw [if_neg (Int32.not_lt.mpr h184_z)]; done), rfl⟩
    · skip
      refine Zgo hX 2 rfl (by first | exact True.intro | (dsimp only [ZallP]; and_intros <;> (first | decide | ((try simp only [pk_mul, nI_add]); exact Zin_n (by omega) (by decide))))) ?_
      refine Zs_ret hX hE rfl ⟨by show some (Value.int _) = some (Value.int (if y_z < x_z then nI 1 else nI 0)); first | (rw [if_pos (Int32.not_le.mp h184_z)]; done) | (rw [if_neg (Int32.not_lt.mpr h184_z)]; done), rfl⟩
  refine Zs_sw [(nI 37, 154), (nI 38, 204), (nI 39, 218), (nI 40, 218), (nI 41, 218), (nI 42, 128), (nI 43, 120), (nI 44, 218), (nI 45, 124), (nI 46, 218), (nI 47, 132), (nI 48, 218), (nI 49, 218), (nI 50, 218), (nI 51, 218), (nI 52, 218), (nI 53, 218), (nI 54, 218), (nI 55, 218), (nI 56, 218), (nI 57, 218), (nI 58, 218), (nI 59, 218), (nI 60, 171), (nI 61, 193), (nI 62, 182)] 218 hX (by decide +kernel) (by decide +kernel) (t := 218) ((if_neg s1_0).trans ((if_neg s1_1).trans ((if_neg s1_2).trans ((if_neg s1_3).trans ((if_neg s1_4).trans ((if_neg s1_5).trans ((if_neg s1_6).trans ((if_neg s1_7).trans ((if_neg s1_8).trans ((if_neg s1_9).trans ((if_neg s1_10).trans ((if_neg s1_11).trans ((if_neg s1_12).trans ((if_neg s1_13).trans ((if_neg s1_14).trans ((if_neg s1_15).trans ((if_neg s1_16).trans ((if_neg s1_17).trans ((if_neg s1_18).trans ((if_neg s1_19).trans ((if_neg s1_20).trans ((if_neg s1_21).trans ((if_neg s1_22).trans ((if_neg s1_23).trans ((if_neg s1_24).trans (if_neg s1_25)))))))))))))))))))))))))) ?_
  have z1_0 : c_z ≠ 37 := Zne (by omega) (by decide) s1_0
  have z1_1 : c_z ≠ 38 := Zne (by omega) (by decide) s1_1
  have z1_2 : c_z ≠ 39 := Zne (by omega) (by decide) s1_2
  have z1_3 : c_z ≠ 40 := Zne (by omega) (by decide) s1_3
  have z1_4 : c_z ≠ 41 := Zne (by omega) (by decide) s1_4
  have z1_5 : c_z ≠ 42 := Zne (by omega) (by decide) s1_5
  have z1_6 : c_z ≠ 43 := Zne (by omega) (by decide) s1_6
  have z1_7 : c_z ≠ 44 := Zne (by omega) (by decide) s1_7
  have z1_8 : c_z ≠ 45 := Zne (by omega) (by decide) s1_8
  have z1_9 : c_z ≠ 46 := Zne (by omega) (by decide) s1_9
  have z1_10 : c_z ≠ 47 := Zne (by omega) (by decide) s1_10
  have z1_11 : c_z ≠ 48 := Zne (by omega) (by decide) s1_11
  have z1_12 : c_z ≠ 49 := Zne (by omega) (by decide) s1_12
  have z1_13 : c_z ≠ 50 := Zne (by omega) (by decide) s1_13
  have z1_14 : c_z ≠ 51 := Zne (by omega) (by decide) s1_14
  have z1_15 : c_z ≠ 52 := Zne (by omega) (by decide) s1_15
  have z1_16 : c_z ≠ 53 := Zne (by omega) (by decide) s1_16
  have z1_17 : c_z ≠ 54 := Zne (by omega) (by decide) s1_17
  have z1_18 : c_z ≠ 55 := Zne (by omega) (by decide) s1_18
  have z1_19 : c_z ≠ 56 := Zne (by omega) (by decide) s1_19
  have z1_20 : c_z ≠ 57 := Zne (by omega) (by decide) s1_20
  have z1_21 : c_z ≠ 58 := Zne (by omega) (by decide) s1_21
  have z1_22 : c_z ≠ 59 := Zne (by omega) (by decide) s1_22
  have z1_23 : c_z ≠ 60 := Zne (by omega) (by decide) s1_23
  have z1_24 : c_z ≠ 61 := Zne (by omega) (by decide) s1_24
  have z1_25 : c_z ≠ 62 := Zne (by omega) (by decide) s1_25
  obtain rfl : c_z = 124 := by unfold Zsg at hsg; omega
  refine Zgo hX 1 rfl (by first | exact True.intro | (dsimp only [ZallP]; and_intros <;> (first | decide | ((try simp only [pk_mul, nI_add]); exact Zin_n (by omega) (by decide))))) ?_
  refine Zs_ne hX (List.cons_ne_nil _ _) (fun h219_z => ?_) (fun h219_z => ?_)
  · skip
    refine Zgo hX 2 rfl (by first | exact True.intro | (dsimp only [ZallP]; and_intros <;> (first | decide | ((try simp only [pk_mul, nI_add]); exact Zin_n (by omega) (by decide))))) ?_
    refine Zs_ret hX hE rfl ⟨by show some (Value.int _) = some (Value.int (if ¬ x_z = 0 ∨ ¬ y_z = 0 then nI 1 else nI 0)); first | (rw [if_pos (Or.inl h219_z)]; done) | (rw [if_pos (Or.inr h223_z)]; done) | (rw [if_neg (fun q_z => q_z.elim (fun z_z => z_z h219_z) (fun z_z => z_z h223_z))]; done), rfl⟩
  · skip
    refine Zgo hX 1 rfl (by first | exact True.intro | (dsimp only [ZallP]; and_intros <;> (first | decide | ((try simp only [pk_mul, nI_add]); exact Zin_n (by omega) (by decide))))) ?_
    refine Zs_eq hX (List.cons_ne_nil _ _) (fun h223_z => ?_) (fun h223_z => ?_)
    · skip
      refine Zgo hX 1 rfl (by first | exact True.intro | (dsimp only [ZallP]; and_intros <;> (first | decide | ((try simp only [pk_mul, nI_add]); exact Zin_n (by omega) (by decide))))) ?_
      refine Zs_ret hX hE rfl ⟨by show some (Value.int _) = some (Value.int (if ¬ x_z = 0 ∨ ¬ y_z = 0 then nI 1 else nI 0)); first | (rw [if_pos (Or.inl h219_z)]; done) | (rw [if_pos (Or.inr h223_z)]; done) | (rw [if_neg (fun q_z => q_z.elim (fun z_z => z_z h219_z) (fun z_z => z_z h223_z))]; done), rfl⟩
    · skip
      refine Zgo hX 2 rfl (by first | exact True.intro | (dsimp only [ZallP]; and_intros <;> (first | decide | ((try simp only [pk_mul, nI_add]); exact Zin_n (by omega) (by decide))))) ?_
      refine Zs_ret hX hE rfl ⟨by show some (Value.int _) = some (Value.int (if ¬ x_z = 0 ∨ ¬ y_z = 0 then nI 1 else nI 0)); first | (rw [if_pos (Or.inl h219_z)]; done) | (rw [if_pos (Or.inr h223_z)]; done) | (rw [if_neg (fun q_z => q_z.elim (fun z_z => z_z h219_z) (fun z_z => z_z h223_z))]; done), rfl⟩

set_option maxRecDepth 20000 in
theorem k_joined (c_z : Nat) (x_z y_z : Int32) (M : Zmem) (hsg : Zsg c_z) : ZC 189 0 [.int (nI c_z), .int x_z, .int y_z] M (fun r_z M' => r_z = some (.int (Zjn c_z x_z y_z)) ∧ M = M') := by
  refine ZC_of Zt189 Zk189 (Nat.le_of_ble_eq_true rfl) (by decide) rfl (fun X hX hE => ?_)
  have hlt := Zsg_lt hsg
  refine Zgo hX 1 rfl (by first | exact True.intro | (dsimp only [ZallP]; and_intros <;> (first | decide | ((try simp only [pk_mul, nI_add]); exact Zin_n (by omega) (by decide))))) ?_
  by_cases s1_0 : nI c_z = nI 37
  · skip
    refine Zs_sw [(nI 37, 177), (nI 38, 106), (nI 42, 161), (nI 43, 153), (nI 45, 157), (nI 47, 165), (nI 60, 120), (nI 61, 131), (nI 62, 142), (nI 124, 92)] 189 hX (by decide +kernel) (by decide +kernel) (t := 177) (if_pos s1_0) ?_
    obtain rfl : c_z = 37 := Zeq (by omega) (by decide) s1_0
    refine Zgo hX 1 rfl (by first | exact True.intro | (dsimp only [ZallP]; and_intros <;> (first | decide | ((try simp only [pk_mul, nI_add]); exact Zin_n (by omega) (by decide))))) ?_
    refine Zs_ne hX (List.cons_ne_nil _ _) (fun h178_z => ?_) (fun h178_z => ?_)
    · skip
      refine Zgo hX 3 rfl h178_z ?_
      refine Zs_ret hX hE rfl ⟨by show some (Value.int _) = some (Value.int (if y_z = 0 then nI 0 else x_z - x_z / y_z * y_z)); first | (rw [if_pos h178_z]; done) | (rw [if_neg h178_z]; done), rfl⟩
    · skip
      refine Zgo hX 2 rfl (by first | exact True.intro | (dsimp only [ZallP]; and_intros <;> (first | decide | ((try simp only [pk_mul, nI_add]); exact Zin_n (by omega) (by decide))))) ?_
      refine Zs_ret hX hE rfl ⟨by show some (Value.int _) = some (Value.int (if y_z = 0 then nI 0 else x_z - x_z / y_z * y_z)); first | (rw [if_pos h178_z]; done) | (rw [if_neg h178_z]; done), rfl⟩
  by_cases s1_1 : nI c_z = nI 38
  · skip
    refine Zs_sw [(nI 37, 177), (nI 38, 106), (nI 42, 161), (nI 43, 153), (nI 45, 157), (nI 47, 165), (nI 60, 120), (nI 61, 131), (nI 62, 142), (nI 124, 92)] 189 hX (by decide +kernel) (by decide +kernel) (t := 106) ((if_neg s1_0).trans (if_pos s1_1)) ?_
    obtain rfl : c_z = 38 := Zeq (by omega) (by decide) s1_1
    refine Zgo hX 1 rfl (by first | exact True.intro | (dsimp only [ZallP]; and_intros <;> (first | decide | ((try simp only [pk_mul, nI_add]); exact Zin_n (by omega) (by decide))))) ?_
    refine Zs_eq hX (List.cons_ne_nil _ _) (fun h107_z => ?_) (fun h107_z => ?_)
    · skip
      refine Zgo hX 1 rfl (by first | exact True.intro | (dsimp only [ZallP]; and_intros <;> (first | decide | ((try simp only [pk_mul, nI_add]); exact Zin_n (by omega) (by decide))))) ?_
      refine Zs_ret hX hE rfl ⟨by show some (Value.int _) = some (Value.int (if ¬ x_z = 0 ∧ ¬ y_z = 0 then nI 1 else nI 0)); first | (rw [if_pos ⟨h107_z, h111_z⟩]; done) | (rw [if_neg (fun q_z => q_z.1 h107_z)]; done) | (rw [if_neg (fun q_z => q_z.2 h111_z)]; done), rfl⟩
    · skip
      refine Zgo hX 1 rfl (by first | exact True.intro | (dsimp only [ZallP]; and_intros <;> (first | decide | ((try simp only [pk_mul, nI_add]); exact Zin_n (by omega) (by decide))))) ?_
      refine Zs_eq hX (List.cons_ne_nil _ _) (fun h111_z => ?_) (fun h111_z => ?_)
      · skip
        refine Zgo hX 1 rfl (by first | exact True.intro | (dsimp only [ZallP]; and_intros <;> (first | decide | ((try simp only [pk_mul, nI_add]); exact Zin_n (by omega) (by decide))))) ?_
        refine Zs_ret hX hE rfl ⟨by show some (Value.int _) = some (Value.int (if ¬ x_z = 0 ∧ ¬ y_z = 0 then nI 1 else nI 0)); first | (rw [if_pos ⟨h107_z, h111_z⟩]; done) | (rw [if_neg (fun q_z => q_z.1 h107_z)]; done) | (rw [if_neg (fun q_z => q_z.2 h111_z)]; done), rfl⟩
      · skip
        refine Zgo hX 2 rfl (by first | exact True.intro | (dsimp only [ZallP]; and_intros <;> (first | decide | ((try simp only [pk_mul, nI_add]); exact Zin_n (by omega) (by decide))))) ?_
        refine Zs_ret hX hE rfl ⟨by show some (Value.int _) = some (Value.int (if ¬ x_z = 0 ∧ ¬ y_z = 0 then nI 1 else nI 0)); first | (rw [if_pos ⟨h107_z, h111_z⟩]; done) | (rw [if_neg (fun q_z => q_z.1 h107_z)]; done) | (rw [if_neg (fun q_z => q_z.2 h111_z)]; done), rfl⟩
  by_cases s1_2 : nI c_z = nI 42
  · skip
    refine Zs_sw [(nI 37, 177), (nI 38, 106), (nI 42, 161), (nI 43, 153), (nI 45, 157), (nI 47, 165), (nI 60, 120), (nI 61, 131), (nI 62, 142), (nI 124, 92)] 189 hX (by decide +kernel) (by decide +kernel) (t := 161) ((if_neg s1_0).trans ((if_neg s1_1).trans (if_pos s1_2))) ?_
    obtain rfl : c_z = 42 := Zeq (by omega) (by decide) s1_2
    refine Zgo hX 3 rfl (by first | exact True.intro | (dsimp only [ZallP]; and_intros <;> (first | decide | ((try simp only [pk_mul, nI_add]); exact Zin_n (by omega) (by decide))))) ?_
    refine Zs_ret hX hE rfl ⟨rfl, rfl⟩
  by_cases s1_3 : nI c_z = nI 43
  · skip
    refine Zs_sw [(nI 37, 177), (nI 38, 106), (nI 42, 161), (nI 43, 153), (nI 45, 157), (nI 47, 165), (nI 60, 120), (nI 61, 131), (nI 62, 142), (nI 124, 92)] 189 hX (by decide +kernel) (by decide +kernel) (t := 153) ((if_neg s1_0).trans ((if_neg s1_1).trans ((if_neg s1_2).trans (if_pos s1_3)))) ?_
    obtain rfl : c_z = 43 := Zeq (by omega) (by decide) s1_3
    refine Zgo hX 3 rfl (by first | exact True.intro | (dsimp only [ZallP]; and_intros <;> (first | decide | ((try simp only [pk_mul, nI_add]); exact Zin_n (by omega) (by decide))))) ?_
    refine Zs_ret hX hE rfl ⟨rfl, rfl⟩
  by_cases s1_4 : nI c_z = nI 45
  · skip
    refine Zs_sw [(nI 37, 177), (nI 38, 106), (nI 42, 161), (nI 43, 153), (nI 45, 157), (nI 47, 165), (nI 60, 120), (nI 61, 131), (nI 62, 142), (nI 124, 92)] 189 hX (by decide +kernel) (by decide +kernel) (t := 157) ((if_neg s1_0).trans ((if_neg s1_1).trans ((if_neg s1_2).trans ((if_neg s1_3).trans (if_pos s1_4))))) ?_
    obtain rfl : c_z = 45 := Zeq (by omega) (by decide) s1_4
    refine Zgo hX 3 rfl (by first | exact True.intro | (dsimp only [ZallP]; and_intros <;> (first | decide | ((try simp only [pk_mul, nI_add]); exact Zin_n (by omega) (by decide))))) ?_
    refine Zs_ret hX hE rfl ⟨rfl, rfl⟩
  by_cases s1_5 : nI c_z = nI 47
  · skip
    refine Zs_sw [(nI 37, 177), (nI 38, 106), (nI 42, 161), (nI 43, 153), (nI 45, 157), (nI 47, 165), (nI 60, 120), (nI 61, 131), (nI 62, 142), (nI 124, 92)] 189 hX (by decide +kernel) (by decide +kernel) (t := 165) ((if_neg s1_0).trans ((if_neg s1_1).trans ((if_neg s1_2).trans ((if_neg s1_3).trans ((if_neg s1_4).trans (if_pos s1_5)))))) ?_
    obtain rfl : c_z = 47 := Zeq (by omega) (by decide) s1_5
    refine Zgo hX 1 rfl (by first | exact True.intro | (dsimp only [ZallP]; and_intros <;> (first | decide | ((try simp only [pk_mul, nI_add]); exact Zin_n (by omega) (by decide))))) ?_
    refine Zs_ne hX (List.cons_ne_nil _ _) (fun h166_z => ?_) (fun h166_z => ?_)
    · skip
      refine Zgo hX 3 rfl h166_z ?_
      refine Zs_ret hX hE rfl ⟨by show some (Value.int _) = some (Value.int (if y_z = 0 then nI 0 else x_z / y_z)); first | (rw [if_pos h166_z]; done) | (rw [if_neg h166_z]; done), rfl⟩
    · skip
      refine Zgo hX 2 rfl (by first | exact True.intro | (dsimp only [ZallP]; and_intros <;> (first | decide | ((try simp only [pk_mul, nI_add]); exact Zin_n (by omega) (by decide))))) ?_
      refine Zs_ret hX hE rfl ⟨by show some (Value.int _) = some (Value.int (if y_z = 0 then nI 0 else x_z / y_z)); first | (rw [if_pos h166_z]; done) | (rw [if_neg h166_z]; done), rfl⟩
  by_cases s1_6 : nI c_z = nI 60
  · skip
    refine Zs_sw [(nI 37, 177), (nI 38, 106), (nI 42, 161), (nI 43, 153), (nI 45, 157), (nI 47, 165), (nI 60, 120), (nI 61, 131), (nI 62, 142), (nI 124, 92)] 189 hX (by decide +kernel) (by decide +kernel) (t := 120) ((if_neg s1_0).trans ((if_neg s1_1).trans ((if_neg s1_2).trans ((if_neg s1_3).trans ((if_neg s1_4).trans ((if_neg s1_5).trans (if_pos s1_6))))))) ?_
    obtain rfl : c_z = 60 := Zeq (by omega) (by decide) s1_6
    refine Zgo hX 2 rfl (by first | exact True.intro | (dsimp only [ZallP]; and_intros <;> (first | decide | ((try simp only [pk_mul, nI_add]); exact Zin_n (by omega) (by decide))))) ?_
    refine Zs_ige hX (List.cons_ne_nil _ _) (fun h122_z => ?_) (fun h122_z => ?_)
    · skip
      refine Zgo hX 1 rfl (by first | exact True.intro | (dsimp only [ZallP]; and_intros <;> (first | decide | ((try simp only [pk_mul, nI_add]); exact Zin_n (by omega) (by decide))))) ?_
      refine Zs_ret hX hE rfl ⟨by show some (Value.int _) = some (Value.int (if x_z < y_z then nI 1 else nI 0)); first | (rw [if_pos (Int32.not_le.mp h122_z)]; done) | (rw [if_neg (Int32.not_lt.mpr h122_z)]; done), rfl⟩
    · skip
      refine Zgo hX 2 rfl (by first | exact True.intro | (dsimp only [ZallP]; and_intros <;> (first | decide | ((try simp only [pk_mul, nI_add]); exact Zin_n (by omega) (by decide))))) ?_
      refine Zs_ret hX hE rfl ⟨by show some (Value.int _) = some (Value.int (if x_z < y_z then nI 1 else nI 0)); first | (rw [if_pos (Int32.not_le.mp h122_z)]; done) | (rw [if_neg (Int32.not_lt.mpr h122_z)]; done), rfl⟩
  by_cases s1_7 : nI c_z = nI 61
  · skip
    refine Zs_sw [(nI 37, 177), (nI 38, 106), (nI 42, 161), (nI 43, 153), (nI 45, 157), (nI 47, 165), (nI 60, 120), (nI 61, 131), (nI 62, 142), (nI 124, 92)] 189 hX (by decide +kernel) (by decide +kernel) (t := 131) ((if_neg s1_0).trans ((if_neg s1_1).trans ((if_neg s1_2).trans ((if_neg s1_3).trans ((if_neg s1_4).trans ((if_neg s1_5).trans ((if_neg s1_6).trans (if_pos s1_7)))))))) ?_
    obtain rfl : c_z = 61 := Zeq (by omega) (by decide) s1_7
    refine Zgo hX 2 rfl (by first | exact True.intro | (dsimp only [ZallP]; and_intros <;> (first | decide | ((try simp only [pk_mul, nI_add]); exact Zin_n (by omega) (by decide))))) ?_
    refine Zs_ine hX (List.cons_ne_nil _ _) (fun h133_z => ?_) (fun h133_z => ?_)
    · skip
      refine Zgo hX 1 rfl (by first | exact True.intro | (dsimp only [ZallP]; and_intros <;> (first | decide | ((try simp only [pk_mul, nI_add]); exact Zin_n (by omega) (by decide))))) ?_
      refine Zs_ret hX hE rfl ⟨by show some (Value.int _) = some (Value.int (if x_z = y_z then nI 1 else nI 0)); first | (rw [if_pos h133_z]; done) | (rw [if_neg h133_z]; done), rfl⟩
    · skip
      refine Zgo hX 2 rfl (by first | exact True.intro | (dsimp only [ZallP]; and_intros <;> (first | decide | ((try simp only [pk_mul, nI_add]); exact Zin_n (by omega) (by decide))))) ?_
      refine Zs_ret hX hE rfl ⟨by show some (Value.int _) = some (Value.int (if x_z = y_z then nI 1 else nI 0)); first | (rw [if_pos h133_z]; done) | (rw [if_neg h133_z]; done), rfl⟩
  by_cases s1_8 : nI c_z = nI 62
  · skip
    refine Zs_sw [(nI 37, 177), (nI 38, 106), (nI 42, 161), (nI 43, 153), (nI 45, 157), (nI 47, 165), (nI 60, 120), (nI 61, 131), (nI 62, 142), (nI 124, 92)] 189 hX (by decide +kernel) (by decide +kernel) (t := 142) ((if_neg s1_0).trans ((if_neg s1_1).trans ((if_neg s1_2).trans ((if_neg s1_3).trans ((if_neg s1_4).trans ((if_neg s1_5).trans ((if_neg s1_6).trans ((if_neg s1_7).trans (if_pos s1_8))))))))) ?_
    obtain rfl : c_z = 62 := Zeq (by omega) (by decide) s1_8
    refine Zgo hX 2 rfl (by first | exact True.intro | (dsimp only [ZallP]; and_intros <;> (first | decide | ((try simp only [pk_mul, nI_add]); exact Zin_n (by omega) (by decide))))) ?_
    refine Zs_ile hX (List.cons_ne_nil _ _) (fun h144_z => ?_) (fun h144_z => ?_)
    · skip
      refine Zgo hX 1 rfl (by first | exact True.intro | (dsimp only [ZallP]; and_intros <;> (first | decide | ((try simp only [pk_mul, nI_add]); exact Zin_n (by omega) (by decide))))) ?_
      refine Zs_ret hX hE rfl ⟨by show some (Value.int _) = some (Value.int (if y_z < x_z then nI 1 else nI 0)); first | (rw [if_pos (Int32.not_le.mp h144_z)]; done) | (rw [if_neg (Int32.not_lt.mpr h144_z)]; done), rfl⟩
    · skip
      refine Zgo hX 2 rfl (by first | exact True.intro | (dsimp only [ZallP]; and_intros <;> (first | decide | ((try simp only [pk_mul, nI_add]); exact Zin_n (by omega) (by decide))))) ?_
      refine Zs_ret hX hE rfl ⟨by show some (Value.int _) = some (Value.int (if y_z < x_z then nI 1 else nI 0)); first | (rw [if_pos (Int32.not_le.mp h144_z)]; done) | (rw [if_neg (Int32.not_lt.mpr h144_z)]; done), rfl⟩
  by_cases s1_9 : nI c_z = nI 124
  · skip
    refine Zs_sw [(nI 37, 177), (nI 38, 106), (nI 42, 161), (nI 43, 153), (nI 45, 157), (nI 47, 165), (nI 60, 120), (nI 61, 131), (nI 62, 142), (nI 124, 92)] 189 hX (by decide +kernel) (by decide +kernel) (t := 92) ((if_neg s1_0).trans ((if_neg s1_1).trans ((if_neg s1_2).trans ((if_neg s1_3).trans ((if_neg s1_4).trans ((if_neg s1_5).trans ((if_neg s1_6).trans ((if_neg s1_7).trans ((if_neg s1_8).trans (if_pos s1_9)))))))))) ?_
    obtain rfl : c_z = 124 := Zeq (by omega) (by decide) s1_9
    refine Zgo hX 1 rfl (by first | exact True.intro | (dsimp only [ZallP]; and_intros <;> (first | decide | ((try simp only [pk_mul, nI_add]); exact Zin_n (by omega) (by decide))))) ?_
    refine Zs_ne hX (List.cons_ne_nil _ _) (fun h93_z => ?_) (fun h93_z => ?_)
    · skip
      refine Zgo hX 2 rfl (by first | exact True.intro | (dsimp only [ZallP]; and_intros <;> (first | decide | ((try simp only [pk_mul, nI_add]); exact Zin_n (by omega) (by decide))))) ?_
      refine Zs_ret hX hE rfl ⟨by show some (Value.int _) = some (Value.int (if ¬ x_z = 0 ∨ ¬ y_z = 0 then nI 1 else nI 0)); first | (rw [if_pos (Or.inl h93_z)]; done) | (rw [if_pos (Or.inr h97_z)]; done) | (rw [if_neg (fun q_z => q_z.elim (fun z_z => z_z h93_z) (fun z_z => z_z h97_z))]; done), rfl⟩
    · skip
      refine Zgo hX 1 rfl (by first | exact True.intro | (dsimp only [ZallP]; and_intros <;> (first | decide | ((try simp only [pk_mul, nI_add]); exact Zin_n (by omega) (by decide))))) ?_
      refine Zs_eq hX (List.cons_ne_nil _ _) (fun h97_z => ?_) (fun h97_z => ?_)
      · skip
        refine Zgo hX 1 rfl (by first | exact True.intro | (dsimp only [ZallP]; and_intros <;> (first | decide | ((try simp only [pk_mul, nI_add]); exact Zin_n (by omega) (by decide))))) ?_
        refine Zs_ret hX hE rfl ⟨by show some (Value.int _) = some (Value.int (if ¬ x_z = 0 ∨ ¬ y_z = 0 then nI 1 else nI 0)); first | (rw [if_pos (Or.inl h93_z)]; done) | (rw [if_pos (Or.inr h97_z)]; done) | (rw [if_neg (fun q_z => q_z.elim (fun z_z => z_z h93_z) (fun z_z => z_z h97_z))]; done), rfl⟩
      · skip
        refine Zgo hX 2 rfl (by first | exact True.intro | (dsimp only [ZallP]; and_intros <;> (first | decide | ((try simp only [pk_mul, nI_add]); exact Zin_n (by omega) (by decide))))) ?_
        refine Zs_ret hX hE rfl ⟨by show some (Value.int _) = some (Value.int (if ¬ x_z = 0 ∨ ¬ y_z = 0 then nI 1 else nI 0)); first | (rw [if_pos (Or.inl h93_z)]; done) | (rw [if_pos (Or.inr h97_z)]; done) | (rw [if_neg (fun q_z => q_z.elim (fun z_z => z_z h93_z) (fun z_z => z_z h97_z))]; done), rfl⟩
  have z1_0 : c_z ≠ 37 := Zne (by omega) (by decide) s1_0
  have z1_1 : c_z ≠ 38 := Zne (by omega) (by decide) s1_1
  have z1_2 : c_z ≠ 42 := Zne (by omega) (by decide) s1_2
  have z1_3 : c_z ≠ 43 := Zne (by omega) (by decide) s1_3
  have z1_4 : c_z ≠ 45 := Zne (by omega) (by decide) s1_4
  have z1_5 : c_z ≠ 47 := Zne (by omega) (by decide) s1_5
  have z1_6 : c_z ≠ 60 := Zne (by omega) (by decide) s1_6
  have z1_7 : c_z ≠ 61 := Zne (by omega) (by decide) s1_7
  have z1_8 : c_z ≠ 62 := Zne (by omega) (by decide) s1_8
  have z1_9 : c_z ≠ 124 := Zne (by omega) (by decide) s1_9
  exfalso
  unfold Zsg at hsg; omega

set_option maxRecDepth 20000 in
theorem k_push11 (v_z : Int32) (d_z : Nat) (M : Zmem) (hd_z : M 11 4 = nI d_z) (hlt : d_z < 60) : ZC 187 0 [.ref 11, .int v_z] M (fun r_z M' => r_z = none ∧ Zu (Zu M 13 d_z v_z) 11 4 (nI (d_z + 1)) = M') := by
  refine ZC_of Zt187 Zk187 (Nat.le_of_ble_eq_true rfl) (by decide) rfl (fun X hX hE => ?_)
  refine Zgo hX 5 rfl (by first | exact True.intro | (dsimp only [ZallP]; and_intros <;> (first | decide | ((try simp only [pk_mul, nI_add]); exact Zin_n (by omega) (by decide))))) ?_
  rw [hd_z]
  refine Zs_ige hX (List.cons_ne_nil _ _) (fun h9_z => (absurd ((Zn_le (by decide) (by omega)).mp h9_z) (by omega))) (fun h9_z => ?_)
  refine Zgo hX 12 rfl (by show vp_in _ _; rw [hd_z]; exact Zin_n hlt (by decide)) ?_
  refine Zs_retv hX hE rfl ⟨rfl, ?_⟩
  rw [show M 11 4 = nI d_z from hd_z, Zcl_n (by omega)]
  rw [show (Zu M 13 d_z v_z) 11 4 = nI d_z from hd_z, nI_add]

set_option maxRecDepth 20000 in
theorem k_pop11 (d_z : Nat) (M : Zmem) (hd_z : M 11 4 = nI (d_z + 1)) (hlt : d_z < 60) : ZC 188 0 [.ref 11] M (fun r_z M' => r_z = some (.int (M 13 d_z)) ∧ Zu M 11 4 (nI d_z) = M') := by
  refine ZC_of Zt188 Zk188 (Nat.le_of_ble_eq_true rfl) (by decide) rfl (fun X hX hE => ?_)
  refine Zgo hX 2 rfl (by first | exact True.intro | (dsimp only [ZallP]; and_intros <;> (first | decide | ((try simp only [pk_mul, nI_add]); exact Zin_n (by omega) (by decide))))) ?_
  rw [hd_z]
  refine Zs_gt hX (List.cons_ne_nil _ _) (fun h4_z => ?_) (fun h4_z => (absurd (show (0 : Int32) < nI (d_z + 1) by rw [← Zn0]; exact (Zn_lt (by decide) (by omega)).mpr (by omega)) h4_z))
  refine Zgo hX 11 rfl ?_ ?_
  · rw [show M 11 4 = nI (d_z + 1) from hd_z, pk_sub (by omega)]
    show vp_in ((Zu M 11 4 (nI (d_z + 1 - 1))) 11 4) 60
    rw [Zu_k, if_pos ⟨rfl, rfl⟩]
    exact Zin_n (by omega) (by decide)
  rw [show M 11 4 = nI (d_z + 1) from hd_z, pk_sub (by omega), show d_z + 1 - 1 = d_z by omega]
  rw [show (Zu M 11 4 (nI d_z)) 11 4 = nI d_z by rw [Zu_k, if_pos ⟨rfl, rfl⟩], Zcl_n (by omega)]
  refine Zs_ret hX hE rfl ⟨rfl, rfl⟩

set_option maxRecDepth 20000 in
theorem k_push14 (v_z : Int32) (d_z : Nat) (M : Zmem) (hd_z : M 14 4 = nI d_z) (hlt : d_z < 60) : ZC 187 0 [.ref 14, .int v_z] M (fun r_z M' => r_z = none ∧ Zu (Zu M 16 d_z v_z) 14 4 (nI (d_z + 1)) = M') := by
  refine ZC_of Zt187 Zk187 (Nat.le_of_ble_eq_true rfl) (by decide) rfl (fun X hX hE => ?_)
  refine Zgo hX 5 rfl (by first | exact True.intro | (dsimp only [ZallP]; and_intros <;> (first | decide | ((try simp only [pk_mul, nI_add]); exact Zin_n (by omega) (by decide))))) ?_
  rw [hd_z]
  refine Zs_ige hX (List.cons_ne_nil _ _) (fun h9_z => (absurd ((Zn_le (by decide) (by omega)).mp h9_z) (by omega))) (fun h9_z => ?_)
  refine Zgo hX 12 rfl (by show vp_in _ _; rw [hd_z]; exact Zin_n hlt (by decide)) ?_
  refine Zs_retv hX hE rfl ⟨rfl, ?_⟩
  rw [show M 14 4 = nI d_z from hd_z, Zcl_n (by omega)]
  rw [show (Zu M 16 d_z v_z) 14 4 = nI d_z from hd_z, nI_add]

set_option maxRecDepth 20000 in
theorem k_pop14 (d_z : Nat) (M : Zmem) (hd_z : M 14 4 = nI (d_z + 1)) (hlt : d_z < 60) : ZC 188 0 [.ref 14] M (fun r_z M' => r_z = some (.int (M 16 d_z)) ∧ Zu M 14 4 (nI d_z) = M') := by
  refine ZC_of Zt188 Zk188 (Nat.le_of_ble_eq_true rfl) (by decide) rfl (fun X hX hE => ?_)
  refine Zgo hX 2 rfl (by first | exact True.intro | (dsimp only [ZallP]; and_intros <;> (first | decide | ((try simp only [pk_mul, nI_add]); exact Zin_n (by omega) (by decide))))) ?_
  rw [hd_z]
  refine Zs_gt hX (List.cons_ne_nil _ _) (fun h4_z => ?_) (fun h4_z => (absurd (show (0 : Int32) < nI (d_z + 1) by rw [← Zn0]; exact (Zn_lt (by decide) (by omega)).mpr (by omega)) h4_z))
  refine Zgo hX 11 rfl ?_ ?_
  · rw [show M 14 4 = nI (d_z + 1) from hd_z, pk_sub (by omega)]
    show vp_in ((Zu M 14 4 (nI (d_z + 1 - 1))) 14 4) 60
    rw [Zu_k, if_pos ⟨rfl, rfl⟩]
    exact Zin_n (by omega) (by decide)
  rw [show M 14 4 = nI (d_z + 1) from hd_z, pk_sub (by omega), show d_z + 1 - 1 = d_z by omega]
  rw [show (Zu M 14 4 (nI d_z)) 14 4 = nI d_z by rw [Zu_k, if_pos ⟨rfl, rfl⟩], Zcl_n (by omega)]
  refine Zs_ret hX hE rfl ⟨rfl, rfl⟩

set_option maxRecDepth 20000 in
set_option maxHeartbeats 1000000 in
theorem k_worked11 (n_z : Nat) (f_z : Nat → Zitm) (nm : Int32 → Int32) (a_z b_z c_z : Int32) (M : Zmem) (hn_z : M 11 2 = nI n_z) (hn2 : n_z ≤ 60) (hw_z : Zwf 0 f_z n_z 1) (hc_z : ∀ i_z, i_z < n_z → Zen 0 (f_z i_z) (M 12 i_z)) (hab : Zab 0 nm a_z b_z c_z) : ZC 186 1 [.ref 11, .int a_z, .int b_z, .int c_z] M (fun r_z M' => r_z = some (.int (Ztop (Zev nm f_z n_z))) ∧ St M M') := by
  refine ZC_of Zt186 Zk186 (Nat.le_of_ble_eq_true rfl) (by decide) rfl (fun X hX hE => ?_)
  have hM2 : ∀ {M1 : Zmem}, St M M1 → M1 11 2 = nI n_z := fun h_z => (h_z 11 2 rfl).trans hn_z
  have hMc : ∀ {M1 : Zmem}, St M M1 → ∀ j_z, M1 12 j_z = M 12 j_z := fun h_z j_z => h_z 12 j_z rfl
  have L : ∀ (q_z i_z d_z : Nat) (M1 : Zmem), n_z - i_z < q_z → i_z ≤ n_z → St M M1 → Zwf 0 f_z i_z d_z → M1 11 4 = nI d_z → Zpl (M1 13) (Zev nm f_z i_z) → ZP X Zt186 (Zsf Zt186 8) [(0, .ref 11), (1, .int a_z), (2, .int b_z), (3, .int c_z), (4, .int (nI i_z))] [] M1 := by
    intro q_z
    induction q_z with
    | zero => intro i_z d_z M1 hq_z; exact absurd hq_z (Nat.not_lt_zero _)
    | succ q_z ih_z =>
      intro i_z d_z M1 hq_z hi_z hsc hwf htop hpl
      have hln : (Zev nm f_z i_z).length = d_z := Zwf_len nm hwf
      have hdi : d_z ≤ i_z := Zwf_le hwf
      refine Zgo hX 3 rfl (by first | exact True.intro | (dsimp only [ZallP]; and_intros <;> (first | decide | ((try simp only [pk_mul, nI_add]); exact Zin_n (by omega) (by decide))))) ?_
      rw [hM2 hsc]
      refine Zs_ige hX (List.cons_ne_nil _ _) (fun h14_z => ?_) (fun h14_z => ?_)
      · skip
        obtain rfl : i_z = n_z := by have := (Zn_le (by omega) (by omega)).mp h14_z; omega
        obtain rfl : d_z = 1 := Zwf_un hwf hw_z
        refine Zgo hX 1 rfl (by first | exact True.intro | (dsimp only [ZallP]; and_intros <;> (first | decide | ((try simp only [pk_mul, nI_add]); exact Zin_n (by omega) (by decide))))) ?_
        obtain ⟨y_z, r_z, hL⟩ : ∃ y_z r_z, Zev nm f_z i_z = y_z :: r_z := by
          cases hq0 : Zev nm f_z i_z with
          | nil => rw [hq0] at hln; simp at hln
          | cons y_z r_z => exact ⟨y_z, r_z, rfl⟩
        rw [hL] at hpl hln
        have hlr : r_z.length = 0 := by simpa using hln
        refine Zs_callv hX (List.cons_ne_nil _ _) (k_pop11 0 _ htop (by decide)) (by decide) (by decide) rfl rfl rfl (by decide) (Nat.le_of_ble_eq_true rfl) (fun r_z M' hc_z => ?_)
        obtain ⟨rfl, rfl⟩ := hc_z
        obtain ⟨ey, hscP, -, -⟩ := Zpop_ok (t := 11) (by decide) hsc hpl hlr
        rw [show M1 13 0 = y_z from ey]
        refine Zs_ret hX hE rfl ⟨by rw [hL]; rfl, hscP⟩
      · skip
        have hlt : i_z < n_z := (Nat.lt_or_ge i_z n_z).elim id (fun h_z => absurd ((Zn_le (by omega) (by omega)).mpr h_z) h14_z)
        refine Zgo hX 6 rfl (Zin_n (by omega) (by decide)) ?_
        rw [Zcl_n (show i_z < 2 ^ 31 by omega), hMc hsc i_z]
        generalize hx_z : M 12 i_z = x_z
        have hen : Zen 0 (f_z i_z) x_z := by rw [← hx_z]; exact hc_z _ hlt
        obtain ⟨dn_z, hwn⟩ := Zwf_pre hw_z (i_z + 1) (by omega)
        have hvi := Zvi_of hwn
        obtain ⟨d9_z, hw9, hor⟩ := hwn
        obtain rfl : d9_z = d_z := Zwf_un hw9 hwf
        refine Zs_lt hX (List.cons_ne_nil _ _) (fun h28_z => ?_) (fun h28_z => ?_)
        · skip
          refine Zgo hX 2 rfl (by first | exact True.intro | (dsimp only [ZallP]; and_intros <;> (first | decide | ((try simp only [pk_mul, nI_add]); exact Zin_n (by omega) (by decide))))) ?_
          refine Zs_ilt hX (List.cons_ne_nil _ _) (fun h44_z => ?_) (fun h44_z => ?_)
          · skip
            refine Zgo hX 2 rfl (by first | exact True.intro | (dsimp only [ZallP]; and_intros <;> (first | decide | ((try simp only [pk_mul, nI_add]); exact Zin_n (by omega) (by decide))))) ?_
            refine Zs_ine hX (List.cons_ne_nil _ _) (fun h80_z => ?_) (fun h80_z => ?_)
            · skip
              obtain ⟨e1_z, c0_z, hc0, e2_z, rfl⟩ := Zen_3 hen hvi h44_z h80_z
              have hc1 := Zsg_lt hc0
              refine Zgo hX 1 rfl (by first | exact True.intro | (dsimp only [ZallP]; and_intros <;> (first | decide | ((try simp only [pk_mul, nI_add]); exact Zin_n (by omega) (by decide))))) ?_
              obtain ⟨y_z, x_z, r_z, hL⟩ : ∃ y_z x_z r_z, Zev nm f_z i_z = y_z :: x_z :: r_z := by
                have h2_z : 2 ≤ d9_z := by
                  rcases hor with ⟨z_z, -⟩ | ⟨z_z, -⟩ | ⟨z_z, -⟩ | ⟨-, -, h2_z, -⟩
                  all_goals first | exact h2_z | (rw [e1_z] at z_z; exact absurd z_z (by decide))
                match hq0 : Zev nm f_z i_z with
                | [] => rw [hq0] at hln; simp at hln; omega
                | [z_z] => rw [hq0] at hln; simp at hln; omega
                | y_z :: x_z :: r_z => exact ⟨y_z, x_z, r_z, rfl⟩
              rw [hL] at hpl hln
              obtain ⟨d8_z, rfl⟩ : ∃ d8_z, d9_z = d8_z + 1 + 1 := ⟨r_z.length, by simp at hln; omega⟩
              have hlr : r_z.length = d8_z := by simp at hln; omega
              refine Zs_callv hX (List.cons_ne_nil _ _) (k_pop11 (d8_z + 1) _ htop (by omega)) (by decide) (by decide) rfl rfl rfl (by decide) (Nat.le_of_ble_eq_true rfl) (fun r_z M' hc_z => ?_)
              obtain ⟨rfl, rfl⟩ := hc_z
              obtain ⟨ey, hscP, htopP, hplP⟩ := Zpop_ok (t := 11) (d_z := d8_z + 1) (by decide) hsc hpl (by simp; omega)
              have ey : M1 13 (d8_z + 1) = y_z := ey
              rw [ey]
              refine Zgo hX 2 rfl (by first | exact True.intro | (dsimp only [ZallP]; and_intros <;> (first | decide | ((try simp only [pk_mul, nI_add]); exact Zin_n (by omega) (by decide))))) ?_
              refine Zs_callv hX (List.cons_ne_nil _ _) (k_pop11 d8_z _ htopP (by omega)) (by decide) (by decide) rfl rfl rfl (by decide) (Nat.le_of_ble_eq_true rfl) (fun r_z M' hc_z => ?_)
              obtain ⟨rfl, rfl⟩ := hc_z
              obtain ⟨ex, hscQ, htopQ, hplQ⟩ := Zpop_ok (t := 11) (by decide) hscP hplP hlr
              rw [show (Zu M1 11 4 (nI (d8_z + 1))) 13 d8_z = x_z from ex]
              refine Zgo hX 6 rfl (by first | exact True.intro | (dsimp only [ZallP]; and_intros <;> (first | decide | ((try simp only [pk_mul, nI_add]); exact Zin_n (by omega) (by decide))))) ?_
              rw [Int32.neg_neg]
              refine Zs_calls hX (List.cons_ne_nil _ _) (by decide) (k_joined c0_z _ _ _ hc0) (by decide) rfl rfl (by decide) (Nat.le_of_ble_eq_true rfl) (fun r_z M' hc_z => ?_)
              obtain ⟨rfl, rfl⟩ := hc_z
              refine Zs_callv hX (List.cons_ne_nil _ _) (k_push11 _ d8_z _ htopQ (by omega)) (by decide) (by decide) rfl rfl rfl (by decide) (Nat.le_of_ble_eq_true rfl) (fun r_z M' hc_z => ?_)
              obtain ⟨rfl, rfl⟩ := hc_z
              obtain ⟨hsc3, htop3, hpl3⟩ := Zpush_ok (Zjn c0_z x_z y_z) (t := 11) (by decide) hscQ hplQ hlr
              have hev : Zev nm f_z (i_z + 1) = Zjn c0_z x_z y_z :: r_z := by simp only [Zev, Zit, e1_z, hL, e2_z, if_neg (show ¬ nI 3 = nI 0 by decide), if_neg (show ¬ nI 3 = nI 1 by decide), if_neg (show ¬ nI 3 = nI 2 by decide), Zcl_n (show c0_z < 2 ^ 31 by omega)]
              rw [← hev] at hpl3
              have hwf3 : Zwf 0 f_z (i_z + 1) (d8_z + 1) := ⟨d8_z + 1 + 1, hwf, Or.inr (Or.inr (Or.inr ⟨e1_z, ⟨c0_z, hc0, e2_z⟩, by omega, rfl⟩))⟩
              refine Zgo hX 2 rfl (by first | exact True.intro | (dsimp only [ZallP]; and_intros <;> (first | decide | ((try simp only [pk_mul, nI_add]); exact Zin_n (by omega) (by decide))))) ?_
              refine Zs_sub (l' := [(0, .ref 11), (1, .int a_z), (2, .int b_z), (3, .int c_z), (4, .int (nI i_z + nI 1))]) rfl ?_
              rw [nI_add]
              exact ih_z (i_z + 1) _ _ (by omega) (by omega) hsc3 hwf3 htop3 hpl3
            · skip
              have e1_z := Zen_2 hen hvi h80_z
              obtain ⟨y_z, r_z, hL⟩ : ∃ y_z r_z, Zev nm f_z i_z = y_z :: r_z := by
                cases hq0 : Zev nm f_z i_z with
                | nil => rw [hq0] at hln; rcases hor with ⟨z_z, -⟩ | ⟨z_z, -⟩ | ⟨-, h1_z, -⟩ | ⟨z_z, -⟩
                         all_goals first | (rw [e1_z] at z_z; exact absurd z_z (by decide)) | (simp at hln; omega)
                | cons y_z r_z => exact ⟨y_z, r_z, rfl⟩
              rw [hL] at hpl hln
              obtain ⟨d8_z, rfl⟩ : ∃ d8_z, d9_z = d8_z + 1 := ⟨r_z.length, by simp at hln; omega⟩
              have hlr : r_z.length = d8_z := by simp at hln; omega
              refine Zgo hX 2 rfl (by first | exact True.intro | (dsimp only [ZallP]; and_intros <;> (first | decide | ((try simp only [pk_mul, nI_add]); exact Zin_n (by omega) (by decide))))) ?_
              refine Zs_callv hX (List.cons_ne_nil _ _) (k_pop11 d8_z _ htop (by omega)) (by decide) (by decide) rfl rfl rfl (by decide) (Nat.le_of_ble_eq_true rfl) (fun r_z M' hc_z => ?_)
              obtain ⟨rfl, rfl⟩ := hc_z
              obtain ⟨ey, hscP, htopP, hplP⟩ := Zpop_ok (t := 11) (by decide) hsc hpl hlr
              have ey : M1 13 d8_z = y_z := ey
              rw [ey]
              refine Zs_ne hX (List.cons_ne_nil _ _) (fun h88_z => ?_) (fun h88_z => ?_)
              · skip
                refine Zgo hX 1 rfl (by first | exact True.intro | (dsimp only [ZallP]; and_intros <;> (first | decide | ((try simp only [pk_mul, nI_add]); exact Zin_n (by omega) (by decide))))) ?_
                have hv_z : (if y_z = 0 then nI 1 else nI 0) = nI 0 := if_neg h88_z
                refine Zs_callv hX (List.cons_ne_nil _ _) (k_push11 _ d8_z _ htopP (by omega)) (by decide) (by decide) rfl rfl rfl (by decide) (Nat.le_of_ble_eq_true rfl) (fun r_z M' hc_z => ?_)
                obtain ⟨rfl, rfl⟩ := hc_z
                obtain ⟨hsc3, htop3, hpl3⟩ := Zpush_ok (if y_z = 0 then nI 1 else nI 0) (t := 11) (by decide) hscP hplP hlr
                rw [hv_z] at hsc3 htop3
                have hev : Zev nm f_z (i_z + 1) = (if y_z = 0 then nI 1 else nI 0) :: r_z := by simp only [Zev, Zit, e1_z, hL, if_neg (show ¬ nI 2 = nI 0 by decide), if_neg (show ¬ nI 2 = nI 1 by decide), if_true]
                rw [← hev, hv_z] at hpl3
                have hwf3 : Zwf 0 f_z (i_z + 1) (d8_z + 1) := ⟨d8_z + 1, hwf, Or.inr (Or.inr (Or.inl ⟨e1_z, by omega, rfl⟩))⟩
                refine Zgo hX 3 rfl (by first | exact True.intro | (dsimp only [ZallP]; and_intros <;> (first | decide | ((try simp only [pk_mul, nI_add]); exact Zin_n (by omega) (by decide))))) ?_
                refine Zs_sub (l' := [(0, .ref 11), (1, .int a_z), (2, .int b_z), (3, .int c_z), (4, .int (nI i_z + nI 1))]) rfl ?_
                rw [nI_add]
                exact ih_z (i_z + 1) _ _ (by omega) (by omega) hsc3 hwf3 htop3 hpl3
              · skip
                refine Zgo hX 2 rfl (by first | exact True.intro | (dsimp only [ZallP]; and_intros <;> (first | decide | ((try simp only [pk_mul, nI_add]); exact Zin_n (by omega) (by decide))))) ?_
                have hv_z : (if y_z = 0 then nI 1 else nI 0) = nI 1 := if_pos h88_z
                refine Zs_callv hX (List.cons_ne_nil _ _) (k_push11 _ d8_z _ htopP (by omega)) (by decide) (by decide) rfl rfl rfl (by decide) (Nat.le_of_ble_eq_true rfl) (fun r_z M' hc_z => ?_)
                obtain ⟨rfl, rfl⟩ := hc_z
                obtain ⟨hsc3, htop3, hpl3⟩ := Zpush_ok (if y_z = 0 then nI 1 else nI 0) (t := 11) (by decide) hscP hplP hlr
                rw [hv_z] at hsc3 htop3
                have hev : Zev nm f_z (i_z + 1) = (if y_z = 0 then nI 1 else nI 0) :: r_z := by simp only [Zev, Zit, e1_z, hL, if_neg (show ¬ nI 2 = nI 0 by decide), if_neg (show ¬ nI 2 = nI 1 by decide), if_true]
                rw [← hev, hv_z] at hpl3
                have hwf3 : Zwf 0 f_z (i_z + 1) (d8_z + 1) := ⟨d8_z + 1, hwf, Or.inr (Or.inr (Or.inl ⟨e1_z, by omega, rfl⟩))⟩
                refine Zgo hX 3 rfl (by first | exact True.intro | (dsimp only [ZallP]; and_intros <;> (first | decide | ((try simp only [pk_mul, nI_add]); exact Zin_n (by omega) (by decide))))) ?_
                refine Zs_sub (l' := [(0, .ref 11), (1, .int a_z), (2, .int b_z), (3, .int c_z), (4, .int (nI i_z + nI 1))]) rfl ?_
                rw [nI_add]
                exact ih_z (i_z + 1) _ _ (by omega) (by omega) hsc3 hwf3 htop3 hpl3
          · skip
            obtain ⟨e1_z, c0_z, hc0, e2_z, rfl⟩ := Zen_1 hen hvi h28_z h44_z
            refine Zgo hX 3 rfl (by first | exact True.intro | (dsimp only [ZallP]; and_intros <;> (first | decide | ((try simp only [pk_mul, nI_add]); exact Zin_n (by omega) (by decide))))) ?_
            refine Zs_ine hX (List.cons_ne_nil _ _) (fun h51_z => ?_) (fun h51_z => ?_)
            · skip
              refine Zgo hX 2 rfl (by first | exact True.intro | (dsimp only [ZallP]; and_intros <;> (first | decide | ((try simp only [pk_mul, nI_add]); exact Zin_n (by omega) (by decide))))) ?_
              refine Zs_ine hX (List.cons_ne_nil _ _) (fun h62_z => ?_) (fun h62_z => ?_)
              · skip
                refine Zgo hX 1 rfl (by first | exact True.intro | (dsimp only [ZallP]; and_intros <;> (first | decide | ((try simp only [pk_mul, nI_add]); exact Zin_n (by omega) (by decide))))) ?_
                have hv_z : nm (nI c0_z) = c_z := by rw [hab c0_z hc0, show Zpn 0 c0_z = 2 by have h1_z := Zpn_lt 0 c0_z; have h2_z : 1 + Zpn 0 c0_z ≠ 1 := fun q_z => h51_z (by rw [q_z]); have h3_z : 1 + Zpn 0 c0_z ≠ 2 := fun q_z => h62_z (by rw [q_z]); omega]; rfl
                refine Zs_callv hX (List.cons_ne_nil _ _) (k_push11 _ d9_z _ htop (by omega)) (by decide) (by decide) rfl rfl rfl (by decide) (Nat.le_of_ble_eq_true rfl) (fun r_z M' hc_z => ?_)
                obtain ⟨rfl, rfl⟩ := hc_z
                obtain ⟨hsc3, htop3, hpl3⟩ := Zpush_ok (nm (nI c0_z)) (t := 11) (by decide) hsc hpl hln
                rw [hv_z] at hsc3 htop3
                have hev : Zev nm f_z (i_z + 1) = nm (nI c0_z) :: Zev nm f_z i_z := by simp only [Zev, Zit, e1_z, if_neg (show ¬ nI 1 = nI 0 by decide), if_true, e2_z]
                rw [← hev, hv_z] at hpl3
                have hwf3 : Zwf 0 f_z (i_z + 1) (d9_z + 1) := ⟨d9_z, hwf, Or.inr (Or.inl ⟨e1_z, ⟨c0_z, hc0, e2_z⟩, rfl⟩)⟩
                refine Zgo hX 3 rfl (by first | exact True.intro | (dsimp only [ZallP]; and_intros <;> (first | decide | ((try simp only [pk_mul, nI_add]); exact Zin_n (by omega) (by decide))))) ?_
                refine Zs_sub (l' := [(0, .ref 11), (1, .int a_z), (2, .int b_z), (3, .int c_z), (4, .int (nI i_z + nI 1))]) rfl ?_
                rw [nI_add]
                exact ih_z (i_z + 1) _ _ (by omega) (by omega) hsc3 hwf3 htop3 hpl3
              · skip
                refine Zgo hX 2 rfl (by first | exact True.intro | (dsimp only [ZallP]; and_intros <;> (first | decide | ((try simp only [pk_mul, nI_add]); exact Zin_n (by omega) (by decide))))) ?_
                have hv_z : nm (nI c0_z) = b_z := by rw [hab c0_z hc0, show Zpn 0 c0_z = 1 by have h1_z := Zpn_lt 0 c0_z; have h2_z := Zneg_eq (by omega) (by decide) h62_z; omega]; rfl
                refine Zs_callv hX (List.cons_ne_nil _ _) (k_push11 _ d9_z _ htop (by omega)) (by decide) (by decide) rfl rfl rfl (by decide) (Nat.le_of_ble_eq_true rfl) (fun r_z M' hc_z => ?_)
                obtain ⟨rfl, rfl⟩ := hc_z
                obtain ⟨hsc3, htop3, hpl3⟩ := Zpush_ok (nm (nI c0_z)) (t := 11) (by decide) hsc hpl hln
                rw [hv_z] at hsc3 htop3
                have hev : Zev nm f_z (i_z + 1) = nm (nI c0_z) :: Zev nm f_z i_z := by simp only [Zev, Zit, e1_z, if_neg (show ¬ nI 1 = nI 0 by decide), if_true, e2_z]
                rw [← hev, hv_z] at hpl3
                have hwf3 : Zwf 0 f_z (i_z + 1) (d9_z + 1) := ⟨d9_z, hwf, Or.inr (Or.inl ⟨e1_z, ⟨c0_z, hc0, e2_z⟩, rfl⟩)⟩
                refine Zgo hX 3 rfl (by first | exact True.intro | (dsimp only [ZallP]; and_intros <;> (first | decide | ((try simp only [pk_mul, nI_add]); exact Zin_n (by omega) (by decide))))) ?_
                refine Zs_sub (l' := [(0, .ref 11), (1, .int a_z), (2, .int b_z), (3, .int c_z), (4, .int (nI i_z + nI 1))]) rfl ?_
                rw [nI_add]
                exact ih_z (i_z + 1) _ _ (by omega) (by omega) hsc3 hwf3 htop3 hpl3
            · skip
              refine Zgo hX 2 rfl (by first | exact True.intro | (dsimp only [ZallP]; and_intros <;> (first | decide | ((try simp only [pk_mul, nI_add]); exact Zin_n (by omega) (by decide))))) ?_
              have hv_z : nm (nI c0_z) = a_z := by rw [hab c0_z hc0, show Zpn 0 c0_z = 0 by have h1_z := Zpn_lt 0 c0_z; have h2_z := Zneg_eq (by omega) (by decide) h51_z; omega]; rfl
              refine Zs_callv hX (List.cons_ne_nil _ _) (k_push11 _ d9_z _ htop (by omega)) (by decide) (by decide) rfl rfl rfl (by decide) (Nat.le_of_ble_eq_true rfl) (fun r_z M' hc_z => ?_)
              obtain ⟨rfl, rfl⟩ := hc_z
              obtain ⟨hsc3, htop3, hpl3⟩ := Zpush_ok (nm (nI c0_z)) (t := 11) (by decide) hsc hpl hln
              rw [hv_z] at hsc3 htop3
              have hev : Zev nm f_z (i_z + 1) = nm (nI c0_z) :: Zev nm f_z i_z := by simp only [Zev, Zit, e1_z, if_neg (show ¬ nI 1 = nI 0 by decide), if_true, e2_z]
              rw [← hev, hv_z] at hpl3
              have hwf3 : Zwf 0 f_z (i_z + 1) (d9_z + 1) := ⟨d9_z, hwf, Or.inr (Or.inl ⟨e1_z, ⟨c0_z, hc0, e2_z⟩, rfl⟩)⟩
              refine Zgo hX 3 rfl (by first | exact True.intro | (dsimp only [ZallP]; and_intros <;> (first | decide | ((try simp only [pk_mul, nI_add]); exact Zin_n (by omega) (by decide))))) ?_
              refine Zs_sub (l' := [(0, .ref 11), (1, .int a_z), (2, .int b_z), (3, .int c_z), (4, .int (nI i_z + nI 1))]) rfl ?_
              rw [nI_add]
              exact ih_z (i_z + 1) _ _ (by omega) (by omega) hsc3 hwf3 htop3 hpl3
        · skip
          obtain ⟨e1_z, e2_z⟩ := Zen_0 hen hvi h28_z
          refine Zgo hX 2 rfl (by first | exact True.intro | (dsimp only [ZallP]; and_intros <;> (first | decide | ((try simp only [pk_mul, nI_add]); exact Zin_n (by omega) (by decide))))) ?_
          refine Zs_callv hX (List.cons_ne_nil _ _) (k_push11 _ d9_z _ htop (by omega)) (by decide) (by decide) rfl rfl rfl (by decide) (Nat.le_of_ble_eq_true rfl) (fun r_z M' hc_z => ?_)
          obtain ⟨rfl, rfl⟩ := hc_z
          obtain ⟨hsc3, htop3, hpl3⟩ := Zpush_ok x_z (t := 11) (by decide) hsc hpl hln
          have hev : Zev nm f_z (i_z + 1) = x_z :: Zev nm f_z i_z := by simp only [Zev, Zit, e1_z, if_true, e2_z]
          rw [← hev] at hpl3
          have hwf3 : Zwf 0 f_z (i_z + 1) (d9_z + 1) := ⟨d9_z, hwf, Or.inl ⟨e1_z, (hvi.resolve_right (fun z_z => by rcases z_z with ⟨z_z, -⟩ | z_z | ⟨z_z, -⟩ <;> rw [e1_z] at z_z <;> exact absurd z_z (by decide))).2, rfl⟩⟩
          refine Zgo hX 3 rfl (by first | exact True.intro | (dsimp only [ZallP]; and_intros <;> (first | decide | ((try simp only [pk_mul, nI_add]); exact Zin_n (by omega) (by decide))))) ?_
          refine Zs_sub (l' := [(0, .ref 11), (1, .int a_z), (2, .int b_z), (3, .int c_z), (4, .int (nI i_z + nI 1))]) rfl ?_
          rw [nI_add]
          exact ih_z (i_z + 1) _ _ (by omega) (by omega) hsc3 hwf3 htop3 hpl3
  refine Zgo hX 5 rfl True.intro ?_
  refine Zs_sub (l' := [(0, .ref 11), (1, .int a_z), (2, .int b_z), (3, .int c_z), (4, .int (nI 0))]) rfl ?_
  exact L (n_z + 1) 0 0 _ (by omega) (by omega) ((St.rf M).u _ rfl) rfl (by rw [Zu_k, if_pos ⟨rfl, rfl⟩]) True.intro

set_option maxRecDepth 20000 in
set_option maxHeartbeats 1000000 in
theorem k_worked14 (n_z : Nat) (f_z : Nat → Zitm) (nm : Int32 → Int32) (a_z b_z c_z : Int32) (M : Zmem) (hn_z : M 14 2 = nI n_z) (hn2 : n_z ≤ 60) (hw_z : Zwf 1 f_z n_z 1) (hc_z : ∀ i_z, i_z < n_z → Zen 1 (f_z i_z) (M 15 i_z)) (hab : Zab 1 nm a_z b_z c_z) : ZC 186 1 [.ref 14, .int a_z, .int b_z, .int c_z] M (fun r_z M' => r_z = some (.int (Ztop (Zev nm f_z n_z))) ∧ St M M') := by
  refine ZC_of Zt186 Zk186 (Nat.le_of_ble_eq_true rfl) (by decide) rfl (fun X hX hE => ?_)
  have hM2 : ∀ {M1 : Zmem}, St M M1 → M1 14 2 = nI n_z := fun h_z => (h_z 14 2 rfl).trans hn_z
  have hMc : ∀ {M1 : Zmem}, St M M1 → ∀ j_z, M1 15 j_z = M 15 j_z := fun h_z j_z => h_z 15 j_z rfl
  have L : ∀ (q_z i_z d_z : Nat) (M1 : Zmem), n_z - i_z < q_z → i_z ≤ n_z → St M M1 → Zwf 1 f_z i_z d_z → M1 14 4 = nI d_z → Zpl (M1 16) (Zev nm f_z i_z) → ZP X Zt186 (Zsf Zt186 8) [(0, .ref 14), (1, .int a_z), (2, .int b_z), (3, .int c_z), (4, .int (nI i_z))] [] M1 := by
    intro q_z
    induction q_z with
    | zero => intro i_z d_z M1 hq_z; exact absurd hq_z (Nat.not_lt_zero _)
    | succ q_z ih_z =>
      intro i_z d_z M1 hq_z hi_z hsc hwf htop hpl
      have hln : (Zev nm f_z i_z).length = d_z := Zwf_len nm hwf
      have hdi : d_z ≤ i_z := Zwf_le hwf
      refine Zgo hX 3 rfl (by first | exact True.intro | (dsimp only [ZallP]; and_intros <;> (first | decide | ((try simp only [pk_mul, nI_add]); exact Zin_n (by omega) (by decide))))) ?_
      rw [hM2 hsc]
      refine Zs_ige hX (List.cons_ne_nil _ _) (fun h14_z => ?_) (fun h14_z => ?_)
      · skip
        obtain rfl : i_z = n_z := by have := (Zn_le (by omega) (by omega)).mp h14_z; omega
        obtain rfl : d_z = 1 := Zwf_un hwf hw_z
        refine Zgo hX 1 rfl (by first | exact True.intro | (dsimp only [ZallP]; and_intros <;> (first | decide | ((try simp only [pk_mul, nI_add]); exact Zin_n (by omega) (by decide))))) ?_
        obtain ⟨y_z, r_z, hL⟩ : ∃ y_z r_z, Zev nm f_z i_z = y_z :: r_z := by
          cases hq0 : Zev nm f_z i_z with
          | nil => rw [hq0] at hln; simp at hln
          | cons y_z r_z => exact ⟨y_z, r_z, rfl⟩
        rw [hL] at hpl hln
        have hlr : r_z.length = 0 := by simpa using hln
        refine Zs_callv hX (List.cons_ne_nil _ _) (k_pop14 0 _ htop (by decide)) (by decide) (by decide) rfl rfl rfl (by decide) (Nat.le_of_ble_eq_true rfl) (fun r_z M' hc_z => ?_)
        obtain ⟨rfl, rfl⟩ := hc_z
        obtain ⟨ey, hscP, -, -⟩ := Zpop_ok (t := 14) (by decide) hsc hpl hlr
        rw [show M1 16 0 = y_z from ey]
        refine Zs_ret hX hE rfl ⟨by rw [hL]; rfl, hscP⟩
      · skip
        have hlt : i_z < n_z := (Nat.lt_or_ge i_z n_z).elim id (fun h_z => absurd ((Zn_le (by omega) (by omega)).mpr h_z) h14_z)
        refine Zgo hX 6 rfl (Zin_n (by omega) (by decide)) ?_
        rw [Zcl_n (show i_z < 2 ^ 31 by omega), hMc hsc i_z]
        generalize hx_z : M 15 i_z = x_z
        have hen : Zen 1 (f_z i_z) x_z := by rw [← hx_z]; exact hc_z _ hlt
        obtain ⟨dn_z, hwn⟩ := Zwf_pre hw_z (i_z + 1) (by omega)
        have hvi := Zvi_of hwn
        obtain ⟨d9_z, hw9, hor⟩ := hwn
        obtain rfl : d9_z = d_z := Zwf_un hw9 hwf
        refine Zs_lt hX (List.cons_ne_nil _ _) (fun h28_z => ?_) (fun h28_z => ?_)
        · skip
          refine Zgo hX 2 rfl (by first | exact True.intro | (dsimp only [ZallP]; and_intros <;> (first | decide | ((try simp only [pk_mul, nI_add]); exact Zin_n (by omega) (by decide))))) ?_
          refine Zs_ilt hX (List.cons_ne_nil _ _) (fun h44_z => ?_) (fun h44_z => ?_)
          · skip
            refine Zgo hX 2 rfl (by first | exact True.intro | (dsimp only [ZallP]; and_intros <;> (first | decide | ((try simp only [pk_mul, nI_add]); exact Zin_n (by omega) (by decide))))) ?_
            refine Zs_ine hX (List.cons_ne_nil _ _) (fun h80_z => ?_) (fun h80_z => ?_)
            · skip
              obtain ⟨e1_z, c0_z, hc0, e2_z, rfl⟩ := Zen_3 hen hvi h44_z h80_z
              have hc1 := Zsg_lt hc0
              refine Zgo hX 1 rfl (by first | exact True.intro | (dsimp only [ZallP]; and_intros <;> (first | decide | ((try simp only [pk_mul, nI_add]); exact Zin_n (by omega) (by decide))))) ?_
              obtain ⟨y_z, x_z, r_z, hL⟩ : ∃ y_z x_z r_z, Zev nm f_z i_z = y_z :: x_z :: r_z := by
                have h2_z : 2 ≤ d9_z := by
                  rcases hor with ⟨z_z, -⟩ | ⟨z_z, -⟩ | ⟨z_z, -⟩ | ⟨-, -, h2_z, -⟩
                  all_goals first | exact h2_z | (rw [e1_z] at z_z; exact absurd z_z (by decide))
                match hq0 : Zev nm f_z i_z with
                | [] => rw [hq0] at hln; simp at hln; omega
                | [z_z] => rw [hq0] at hln; simp at hln; omega
                | y_z :: x_z :: r_z => exact ⟨y_z, x_z, r_z, rfl⟩
              rw [hL] at hpl hln
              obtain ⟨d8_z, rfl⟩ : ∃ d8_z, d9_z = d8_z + 1 + 1 := ⟨r_z.length, by simp at hln; omega⟩
              have hlr : r_z.length = d8_z := by simp at hln; omega
              refine Zs_callv hX (List.cons_ne_nil _ _) (k_pop14 (d8_z + 1) _ htop (by omega)) (by decide) (by decide) rfl rfl rfl (by decide) (Nat.le_of_ble_eq_true rfl) (fun r_z M' hc_z => ?_)
              obtain ⟨rfl, rfl⟩ := hc_z
              obtain ⟨ey, hscP, htopP, hplP⟩ := Zpop_ok (t := 14) (d_z := d8_z + 1) (by decide) hsc hpl (by simp; omega)
              have ey : M1 16 (d8_z + 1) = y_z := ey
              rw [ey]
              refine Zgo hX 2 rfl (by first | exact True.intro | (dsimp only [ZallP]; and_intros <;> (first | decide | ((try simp only [pk_mul, nI_add]); exact Zin_n (by omega) (by decide))))) ?_
              refine Zs_callv hX (List.cons_ne_nil _ _) (k_pop14 d8_z _ htopP (by omega)) (by decide) (by decide) rfl rfl rfl (by decide) (Nat.le_of_ble_eq_true rfl) (fun r_z M' hc_z => ?_)
              obtain ⟨rfl, rfl⟩ := hc_z
              obtain ⟨ex, hscQ, htopQ, hplQ⟩ := Zpop_ok (t := 14) (by decide) hscP hplP hlr
              rw [show (Zu M1 14 4 (nI (d8_z + 1))) 16 d8_z = x_z from ex]
              refine Zgo hX 6 rfl (by first | exact True.intro | (dsimp only [ZallP]; and_intros <;> (first | decide | ((try simp only [pk_mul, nI_add]); exact Zin_n (by omega) (by decide))))) ?_
              rw [Int32.neg_neg]
              refine Zs_calls hX (List.cons_ne_nil _ _) (by decide) (k_joined c0_z _ _ _ hc0) (by decide) rfl rfl (by decide) (Nat.le_of_ble_eq_true rfl) (fun r_z M' hc_z => ?_)
              obtain ⟨rfl, rfl⟩ := hc_z
              refine Zs_callv hX (List.cons_ne_nil _ _) (k_push14 _ d8_z _ htopQ (by omega)) (by decide) (by decide) rfl rfl rfl (by decide) (Nat.le_of_ble_eq_true rfl) (fun r_z M' hc_z => ?_)
              obtain ⟨rfl, rfl⟩ := hc_z
              obtain ⟨hsc3, htop3, hpl3⟩ := Zpush_ok (Zjn c0_z x_z y_z) (t := 14) (by decide) hscQ hplQ hlr
              have hev : Zev nm f_z (i_z + 1) = Zjn c0_z x_z y_z :: r_z := by simp only [Zev, Zit, e1_z, hL, e2_z, if_neg (show ¬ nI 3 = nI 0 by decide), if_neg (show ¬ nI 3 = nI 1 by decide), if_neg (show ¬ nI 3 = nI 2 by decide), Zcl_n (show c0_z < 2 ^ 31 by omega)]
              rw [← hev] at hpl3
              have hwf3 : Zwf 1 f_z (i_z + 1) (d8_z + 1) := ⟨d8_z + 1 + 1, hwf, Or.inr (Or.inr (Or.inr ⟨e1_z, ⟨c0_z, hc0, e2_z⟩, by omega, rfl⟩))⟩
              refine Zgo hX 2 rfl (by first | exact True.intro | (dsimp only [ZallP]; and_intros <;> (first | decide | ((try simp only [pk_mul, nI_add]); exact Zin_n (by omega) (by decide))))) ?_
              refine Zs_sub (l' := [(0, .ref 14), (1, .int a_z), (2, .int b_z), (3, .int c_z), (4, .int (nI i_z + nI 1))]) rfl ?_
              rw [nI_add]
              exact ih_z (i_z + 1) _ _ (by omega) (by omega) hsc3 hwf3 htop3 hpl3
            · skip
              have e1_z := Zen_2 hen hvi h80_z
              obtain ⟨y_z, r_z, hL⟩ : ∃ y_z r_z, Zev nm f_z i_z = y_z :: r_z := by
                cases hq0 : Zev nm f_z i_z with
                | nil => rw [hq0] at hln; rcases hor with ⟨z_z, -⟩ | ⟨z_z, -⟩ | ⟨-, h1_z, -⟩ | ⟨z_z, -⟩
                         all_goals first | (rw [e1_z] at z_z; exact absurd z_z (by decide)) | (simp at hln; omega)
                | cons y_z r_z => exact ⟨y_z, r_z, rfl⟩
              rw [hL] at hpl hln
              obtain ⟨d8_z, rfl⟩ : ∃ d8_z, d9_z = d8_z + 1 := ⟨r_z.length, by simp at hln; omega⟩
              have hlr : r_z.length = d8_z := by simp at hln; omega
              refine Zgo hX 2 rfl (by first | exact True.intro | (dsimp only [ZallP]; and_intros <;> (first | decide | ((try simp only [pk_mul, nI_add]); exact Zin_n (by omega) (by decide))))) ?_
              refine Zs_callv hX (List.cons_ne_nil _ _) (k_pop14 d8_z _ htop (by omega)) (by decide) (by decide) rfl rfl rfl (by decide) (Nat.le_of_ble_eq_true rfl) (fun r_z M' hc_z => ?_)
              obtain ⟨rfl, rfl⟩ := hc_z
              obtain ⟨ey, hscP, htopP, hplP⟩ := Zpop_ok (t := 14) (by decide) hsc hpl hlr
              have ey : M1 16 d8_z = y_z := ey
              rw [ey]
              refine Zs_ne hX (List.cons_ne_nil _ _) (fun h88_z => ?_) (fun h88_z => ?_)
              · skip
                refine Zgo hX 1 rfl (by first | exact True.intro | (dsimp only [ZallP]; and_intros <;> (first | decide | ((try simp only [pk_mul, nI_add]); exact Zin_n (by omega) (by decide))))) ?_
                have hv_z : (if y_z = 0 then nI 1 else nI 0) = nI 0 := if_neg h88_z
                refine Zs_callv hX (List.cons_ne_nil _ _) (k_push14 _ d8_z _ htopP (by omega)) (by decide) (by decide) rfl rfl rfl (by decide) (Nat.le_of_ble_eq_true rfl) (fun r_z M' hc_z => ?_)
                obtain ⟨rfl, rfl⟩ := hc_z
                obtain ⟨hsc3, htop3, hpl3⟩ := Zpush_ok (if y_z = 0 then nI 1 else nI 0) (t := 14) (by decide) hscP hplP hlr
                rw [hv_z] at hsc3 htop3
                have hev : Zev nm f_z (i_z + 1) = (if y_z = 0 then nI 1 else nI 0) :: r_z := by simp only [Zev, Zit, e1_z, hL, if_neg (show ¬ nI 2 = nI 0 by decide), if_neg (show ¬ nI 2 = nI 1 by decide), if_true]
                rw [← hev, hv_z] at hpl3
                have hwf3 : Zwf 1 f_z (i_z + 1) (d8_z + 1) := ⟨d8_z + 1, hwf, Or.inr (Or.inr (Or.inl ⟨e1_z, by omega, rfl⟩))⟩
                refine Zgo hX 3 rfl (by first | exact True.intro | (dsimp only [ZallP]; and_intros <;> (first | decide | ((try simp only [pk_mul, nI_add]); exact Zin_n (by omega) (by decide))))) ?_
                refine Zs_sub (l' := [(0, .ref 14), (1, .int a_z), (2, .int b_z), (3, .int c_z), (4, .int (nI i_z + nI 1))]) rfl ?_
                rw [nI_add]
                exact ih_z (i_z + 1) _ _ (by omega) (by omega) hsc3 hwf3 htop3 hpl3
              · skip
                refine Zgo hX 2 rfl (by first | exact True.intro | (dsimp only [ZallP]; and_intros <;> (first | decide | ((try simp only [pk_mul, nI_add]); exact Zin_n (by omega) (by decide))))) ?_
                have hv_z : (if y_z = 0 then nI 1 else nI 0) = nI 1 := if_pos h88_z
                refine Zs_callv hX (List.cons_ne_nil _ _) (k_push14 _ d8_z _ htopP (by omega)) (by decide) (by decide) rfl rfl rfl (by decide) (Nat.le_of_ble_eq_true rfl) (fun r_z M' hc_z => ?_)
                obtain ⟨rfl, rfl⟩ := hc_z
                obtain ⟨hsc3, htop3, hpl3⟩ := Zpush_ok (if y_z = 0 then nI 1 else nI 0) (t := 14) (by decide) hscP hplP hlr
                rw [hv_z] at hsc3 htop3
                have hev : Zev nm f_z (i_z + 1) = (if y_z = 0 then nI 1 else nI 0) :: r_z := by simp only [Zev, Zit, e1_z, hL, if_neg (show ¬ nI 2 = nI 0 by decide), if_neg (show ¬ nI 2 = nI 1 by decide), if_true]
                rw [← hev, hv_z] at hpl3
                have hwf3 : Zwf 1 f_z (i_z + 1) (d8_z + 1) := ⟨d8_z + 1, hwf, Or.inr (Or.inr (Or.inl ⟨e1_z, by omega, rfl⟩))⟩
                refine Zgo hX 3 rfl (by first | exact True.intro | (dsimp only [ZallP]; and_intros <;> (first | decide | ((try simp only [pk_mul, nI_add]); exact Zin_n (by omega) (by decide))))) ?_
                refine Zs_sub (l' := [(0, .ref 14), (1, .int a_z), (2, .int b_z), (3, .int c_z), (4, .int (nI i_z + nI 1))]) rfl ?_
                rw [nI_add]
                exact ih_z (i_z + 1) _ _ (by omega) (by omega) hsc3 hwf3 htop3 hpl3
          · skip
            obtain ⟨e1_z, c0_z, hc0, e2_z, rfl⟩ := Zen_1 hen hvi h28_z h44_z
            refine Zgo hX 3 rfl (by first | exact True.intro | (dsimp only [ZallP]; and_intros <;> (first | decide | ((try simp only [pk_mul, nI_add]); exact Zin_n (by omega) (by decide))))) ?_
            refine Zs_ine hX (List.cons_ne_nil _ _) (fun h51_z => ?_) (fun h51_z => ?_)
            · skip
              refine Zgo hX 2 rfl (by first | exact True.intro | (dsimp only [ZallP]; and_intros <;> (first | decide | ((try simp only [pk_mul, nI_add]); exact Zin_n (by omega) (by decide))))) ?_
              refine Zs_ine hX (List.cons_ne_nil _ _) (fun h62_z => ?_) (fun h62_z => ?_)
              · skip
                refine Zgo hX 1 rfl (by first | exact True.intro | (dsimp only [ZallP]; and_intros <;> (first | decide | ((try simp only [pk_mul, nI_add]); exact Zin_n (by omega) (by decide))))) ?_
                have hv_z : nm (nI c0_z) = c_z := by rw [hab c0_z hc0, show Zpn 1 c0_z = 2 by have h1_z := Zpn_lt 1 c0_z; have h2_z : 1 + Zpn 1 c0_z ≠ 1 := fun q_z => h51_z (by rw [q_z]); have h3_z : 1 + Zpn 1 c0_z ≠ 2 := fun q_z => h62_z (by rw [q_z]); omega]; rfl
                refine Zs_callv hX (List.cons_ne_nil _ _) (k_push14 _ d9_z _ htop (by omega)) (by decide) (by decide) rfl rfl rfl (by decide) (Nat.le_of_ble_eq_true rfl) (fun r_z M' hc_z => ?_)
                obtain ⟨rfl, rfl⟩ := hc_z
                obtain ⟨hsc3, htop3, hpl3⟩ := Zpush_ok (nm (nI c0_z)) (t := 14) (by decide) hsc hpl hln
                rw [hv_z] at hsc3 htop3
                have hev : Zev nm f_z (i_z + 1) = nm (nI c0_z) :: Zev nm f_z i_z := by simp only [Zev, Zit, e1_z, if_neg (show ¬ nI 1 = nI 0 by decide), if_true, e2_z]
                rw [← hev, hv_z] at hpl3
                have hwf3 : Zwf 1 f_z (i_z + 1) (d9_z + 1) := ⟨d9_z, hwf, Or.inr (Or.inl ⟨e1_z, ⟨c0_z, hc0, e2_z⟩, rfl⟩)⟩
                refine Zgo hX 3 rfl (by first | exact True.intro | (dsimp only [ZallP]; and_intros <;> (first | decide | ((try simp only [pk_mul, nI_add]); exact Zin_n (by omega) (by decide))))) ?_
                refine Zs_sub (l' := [(0, .ref 14), (1, .int a_z), (2, .int b_z), (3, .int c_z), (4, .int (nI i_z + nI 1))]) rfl ?_
                rw [nI_add]
                exact ih_z (i_z + 1) _ _ (by omega) (by omega) hsc3 hwf3 htop3 hpl3
              · skip
                refine Zgo hX 2 rfl (by first | exact True.intro | (dsimp only [ZallP]; and_intros <;> (first | decide | ((try simp only [pk_mul, nI_add]); exact Zin_n (by omega) (by decide))))) ?_
                have hv_z : nm (nI c0_z) = b_z := by rw [hab c0_z hc0, show Zpn 1 c0_z = 1 by have h1_z := Zpn_lt 1 c0_z; have h2_z := Zneg_eq (by omega) (by decide) h62_z; omega]; rfl
                refine Zs_callv hX (List.cons_ne_nil _ _) (k_push14 _ d9_z _ htop (by omega)) (by decide) (by decide) rfl rfl rfl (by decide) (Nat.le_of_ble_eq_true rfl) (fun r_z M' hc_z => ?_)
                obtain ⟨rfl, rfl⟩ := hc_z
                obtain ⟨hsc3, htop3, hpl3⟩ := Zpush_ok (nm (nI c0_z)) (t := 14) (by decide) hsc hpl hln
                rw [hv_z] at hsc3 htop3
                have hev : Zev nm f_z (i_z + 1) = nm (nI c0_z) :: Zev nm f_z i_z := by simp only [Zev, Zit, e1_z, if_neg (show ¬ nI 1 = nI 0 by decide), if_true, e2_z]
                rw [← hev, hv_z] at hpl3
                have hwf3 : Zwf 1 f_z (i_z + 1) (d9_z + 1) := ⟨d9_z, hwf, Or.inr (Or.inl ⟨e1_z, ⟨c0_z, hc0, e2_z⟩, rfl⟩)⟩
                refine Zgo hX 3 rfl (by first | exact True.intro | (dsimp only [ZallP]; and_intros <;> (first | decide | ((try simp only [pk_mul, nI_add]); exact Zin_n (by omega) (by decide))))) ?_
                refine Zs_sub (l' := [(0, .ref 14), (1, .int a_z), (2, .int b_z), (3, .int c_z), (4, .int (nI i_z + nI 1))]) rfl ?_
                rw [nI_add]
                exact ih_z (i_z + 1) _ _ (by omega) (by omega) hsc3 hwf3 htop3 hpl3
            · skip
              refine Zgo hX 2 rfl (by first | exact True.intro | (dsimp only [ZallP]; and_intros <;> (first | decide | ((try simp only [pk_mul, nI_add]); exact Zin_n (by omega) (by decide))))) ?_
              have hv_z : nm (nI c0_z) = a_z := by rw [hab c0_z hc0, show Zpn 1 c0_z = 0 by have h1_z := Zpn_lt 1 c0_z; have h2_z := Zneg_eq (by omega) (by decide) h51_z; omega]; rfl
              refine Zs_callv hX (List.cons_ne_nil _ _) (k_push14 _ d9_z _ htop (by omega)) (by decide) (by decide) rfl rfl rfl (by decide) (Nat.le_of_ble_eq_true rfl) (fun r_z M' hc_z => ?_)
              obtain ⟨rfl, rfl⟩ := hc_z
              obtain ⟨hsc3, htop3, hpl3⟩ := Zpush_ok (nm (nI c0_z)) (t := 14) (by decide) hsc hpl hln
              rw [hv_z] at hsc3 htop3
              have hev : Zev nm f_z (i_z + 1) = nm (nI c0_z) :: Zev nm f_z i_z := by simp only [Zev, Zit, e1_z, if_neg (show ¬ nI 1 = nI 0 by decide), if_true, e2_z]
              rw [← hev, hv_z] at hpl3
              have hwf3 : Zwf 1 f_z (i_z + 1) (d9_z + 1) := ⟨d9_z, hwf, Or.inr (Or.inl ⟨e1_z, ⟨c0_z, hc0, e2_z⟩, rfl⟩)⟩
              refine Zgo hX 3 rfl (by first | exact True.intro | (dsimp only [ZallP]; and_intros <;> (first | decide | ((try simp only [pk_mul, nI_add]); exact Zin_n (by omega) (by decide))))) ?_
              refine Zs_sub (l' := [(0, .ref 14), (1, .int a_z), (2, .int b_z), (3, .int c_z), (4, .int (nI i_z + nI 1))]) rfl ?_
              rw [nI_add]
              exact ih_z (i_z + 1) _ _ (by omega) (by omega) hsc3 hwf3 htop3 hpl3
        · skip
          obtain ⟨e1_z, e2_z⟩ := Zen_0 hen hvi h28_z
          refine Zgo hX 2 rfl (by first | exact True.intro | (dsimp only [ZallP]; and_intros <;> (first | decide | ((try simp only [pk_mul, nI_add]); exact Zin_n (by omega) (by decide))))) ?_
          refine Zs_callv hX (List.cons_ne_nil _ _) (k_push14 _ d9_z _ htop (by omega)) (by decide) (by decide) rfl rfl rfl (by decide) (Nat.le_of_ble_eq_true rfl) (fun r_z M' hc_z => ?_)
          obtain ⟨rfl, rfl⟩ := hc_z
          obtain ⟨hsc3, htop3, hpl3⟩ := Zpush_ok x_z (t := 14) (by decide) hsc hpl hln
          have hev : Zev nm f_z (i_z + 1) = x_z :: Zev nm f_z i_z := by simp only [Zev, Zit, e1_z, if_true, e2_z]
          rw [← hev] at hpl3
          have hwf3 : Zwf 1 f_z (i_z + 1) (d9_z + 1) := ⟨d9_z, hwf, Or.inl ⟨e1_z, (hvi.resolve_right (fun z_z => by rcases z_z with ⟨z_z, -⟩ | z_z | ⟨z_z, -⟩ <;> rw [e1_z] at z_z <;> exact absurd z_z (by decide))).2, rfl⟩⟩
          refine Zgo hX 3 rfl (by first | exact True.intro | (dsimp only [ZallP]; and_intros <;> (first | decide | ((try simp only [pk_mul, nI_add]); exact Zin_n (by omega) (by decide))))) ?_
          refine Zs_sub (l' := [(0, .ref 14), (1, .int a_z), (2, .int b_z), (3, .int c_z), (4, .int (nI i_z + nI 1))]) rfl ?_
          rw [nI_add]
          exact ih_z (i_z + 1) _ _ (by omega) (by omega) hsc3 hwf3 htop3 hpl3
  refine Zgo hX 5 rfl True.intro ?_
  refine Zs_sub (l' := [(0, .ref 14), (1, .int a_z), (2, .int b_z), (3, .int c_z), (4, .int (nI 0))]) rfl ?_
  exact L (n_z + 1) 0 0 _ (by omega) (by omega) ((St.rf M).u _ rfl) rfl (by rw [Zu_k, if_pos ⟨rfl, rfl⟩]) True.intro
