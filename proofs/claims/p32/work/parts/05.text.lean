-- texts worked out: an item is (what, v): 0 a number, 1 a name by its sign, 2 not, 3 a sign
abbrev Zitm : Type := Int32 × Int32
def Zit (nm : Int32 → Int32) (a v : Int32) (st : List Int32) : List Int32 :=
  if a = nI 0 then v :: st else if a = nI 1 then nm v :: st
  else if a = nI 2 then (match st with
    | x :: r => (if x = 0 then nI 1 else nI 0) :: r
    | [] => [])
  else (match st with
    | y :: x :: r => Zjn v.toNatClampNeg x y :: r
    | _ => [])
def Zev (nm : Int32 → Int32) (g : Nat → Zitm) : Nat → List Int32
  | 0 => []
  | n + 1 => Zit nm (g n).1 (g n).2 (Zev nm g n)
/-- the sign of a name, by its use -/
def Znm (u c : Nat) : Prop := (u = 0 ∧ (c = 98 ∨ c = 119 ∨ c = 116)) ∨ (u = 1 ∧ (c = 119 ∨ c = 116 ∨ c = 107))
def Zpn (u c : Nat) : Nat := if u = 0 then (if c = 98 then 0 else if c = 119 then 1 else 2) else (if c = 119 then 0 else if c = 116 then 1 else 2)
/-- n items stand, and leave d numbers -/
def Zwf (u : Nat) (g : Nat → Zitm) : Nat → Nat → Prop
  | 0, d => d = 0
  | n + 1, d => ∃ d', Zwf u g n d' ∧ (((g n).1 = nI 0 ∧ (∃ j, j < 10000 ∧ (g n).2 = nI j) ∧ d = d' + 1) ∨ ((g n).1 = nI 1 ∧ (∃ c, Znm u c ∧ (g n).2 = nI c) ∧ d = d' + 1) ∨ ((g n).1 = nI 2 ∧ 1 ≤ d' ∧ d = d') ∨ ((g n).1 = nI 3 ∧ (∃ c, Zsg c ∧ (g n).2 = nI c) ∧ 2 ≤ d' ∧ d + 1 = d'))
theorem Zwf_le {u : Nat} {g : Nat → Zitm} : ∀ {n d : Nat}, Zwf u g n d → d ≤ n := by
  intro n
  induction n with
  | zero => intro d h; simp only [Zwf] at h; omega
  | succ n ih =>
    intro d h
    obtain ⟨d', h1, h2⟩ := h
    have := ih h1
    rcases h2 with ⟨-, -, h⟩ | ⟨-, -, h⟩ | ⟨-, -, h⟩ | ⟨-, -, -, h⟩ <;> omega
theorem Zwf_len {u : Nat} {g : Nat → Zitm} (nm : Int32 → Int32) : ∀ {n d : Nat}, Zwf u g n d → (Zev nm g n).length = d := by
  intro n
  induction n with
  | zero => intro d h; simp only [Zwf] at h; simp [Zev, h]
  | succ n ih =>
    intro d h
    obtain ⟨d', h1, h2⟩ := h
    have hl := ih h1
    have ne10 : ¬ nI 1 = nI 0 := by decide
    have ne20 : ¬ nI 2 = nI 0 := by decide
    have ne21 : ¬ nI 2 = nI 1 := by decide
    have ne30 : ¬ nI 3 = nI 0 := by decide
    have ne31 : ¬ nI 3 = nI 1 := by decide
    have ne32 : ¬ nI 3 = nI 2 := by decide
    generalize hq : Zev nm g n = L at hl
    rcases h2 with ⟨e, -, h⟩ | ⟨e, -, h⟩ | ⟨e, h3, h⟩ | ⟨e, -, h3, h⟩
    · simp only [Zev, Zit, e, hq, if_true, List.length_cons]; omega
    · simp only [Zev, Zit, e, hq, if_neg ne10, if_true, List.length_cons]; omega
    · match L, hl with
      | [], hl => simp at hl; omega
      | x :: r, hl => simp only [Zev, Zit, e, hq, if_neg ne20, if_neg ne21, if_true, List.length_cons] at hl ⊢; omega
    · match L, hl with
      | [], hl => simp at hl; omega
      | [x], hl => simp at hl; omega
      | y :: x :: r, hl => simp only [Zev, Zit, e, hq, if_neg ne30, if_neg ne31, if_neg ne32, List.length_cons] at hl ⊢; omega
/-- a pile of numbers in a row: the lowest at 0 -/
def Zpl (p : Nat → Int32) : List Int32 → Prop
  | [] => True
  | x :: r => p r.length = x ∧ Zpl p r
theorem Zpl_kp {p p' : Nat → Int32} : ∀ {L : List Int32}, Zpl p L → (∀ j, j < L.length → p' j = p j) → Zpl p' L := by
  intro L
  induction L with
  | nil => intro _ _; trivial
  | cons x r ih =>
    intro h hk
    exact ⟨by rw [hk _ (by simp)]; exact h.1, ih h.2 (fun j hj => hk j (by simp; omega))⟩
theorem Zpl_push {p : Nat → Int32} {L : List Int32} {d : Nat} (v : Int32) (h : Zpl p L) (hd : L.length = d) : Zpl (fun j => if j = d then v else p j) (v :: L) := by
  subst hd
  exact ⟨by simp, Zpl_kp h (fun j hj => by simp [show ¬ j = L.length by omega])⟩
def Zgi (f : Nat → Int32) (u : Nat) (k : Nat) : Zitm := (f (85 + 125 * u + 2 * k), f (86 + 125 * u + 2 * k))
def Ztop (L : List Int32) : Int32 := L.headD 0
/-- how the class tells an item -/
def Zen (u : Nat) (q : Zitm) (x : Int32) : Prop := (q.1 = nI 0 ∧ x = q.2) ∨ (q.1 = nI 1 ∧ ∃ c, Znm u c ∧ q.2 = nI c ∧ x = -(nI (1 + Zpn u c))) ∨ (q.1 = nI 2 ∧ x = -(nI 33)) ∨ (q.1 = nI 3 ∧ x = -q.2)
def Zvi (u : Nat) (q : Zitm) : Prop := (q.1 = nI 0 ∧ ∃ j, j < 10000 ∧ q.2 = nI j) ∨ (q.1 = nI 1 ∧ ∃ c, Znm u c ∧ q.2 = nI c) ∨ q.1 = nI 2 ∨ (q.1 = nI 3 ∧ ∃ c, Zsg c ∧ q.2 = nI c)
theorem Zsg_lt {c : Nat} (h : Zsg c) : 37 ≤ c ∧ c < 128 ∧ c ≠ 33 := by unfold Zsg at h; omega
theorem Znm_lt {u c : Nat} (h : Znm u c) : c < 128 := by unfold Znm at h; omega
theorem Zpn_lt (u c : Nat) : Zpn u c < 3 := by
  unfold Zpn
  split <;> split <;> (try split) <;> omega
theorem Zvi_of {u : Nat} {g : Nat → Zitm} {n d : Nat} (h : Zwf u g (n + 1) d) : Zvi u (g n) := by
  obtain ⟨d', -, h⟩ := h
  rcases h with ⟨e, h, -⟩ | ⟨e, h, -⟩ | ⟨e, -⟩ | ⟨e, h, -⟩
  · exact Or.inl ⟨e, h⟩
  · exact Or.inr (Or.inl ⟨e, h⟩)
  · exact Or.inr (Or.inr (Or.inl e))
  · exact Or.inr (Or.inr (Or.inr ⟨e, h⟩))
theorem Zwf_pre {u : Nat} {g : Nat → Zitm} : ∀ {n d : Nat}, Zwf u g n d → ∀ i, i ≤ n → ∃ d', Zwf u g i d' := by
  intro n
  induction n with
  | zero => intro d h i hi; obtain rfl : i = 0 := by omega
            exact ⟨d, h⟩
  | succ n ih =>
    intro d h i hi
    by_cases he : i = n + 1
    · subst he; exact ⟨d, h⟩
    · obtain ⟨d', h1, -⟩ := h
      exact ih h1 i (by omega)
theorem Zwf_un {u : Nat} {g : Nat → Zitm} {n d d' : Nat} (h : Zwf u g n d) (h' : Zwf u g n d') : d = d' := by
  rw [← Zwf_len (fun x => x) h, ← Zwf_len (fun x => x) h']
theorem Zneg_lt0 {k : Nat} (h : 0 < k) (h2 : k < 2 ^ 31) : -(nI k) < (0 : Int32) := by
  rw [Zlt_i, Zneg_i h2, ← Zn0, Zn_i (by decide)]; omega
theorem Zn_nlt0 {k : Nat} (h2 : k < 2 ^ 31) : ¬ nI k < (0 : Int32) := by
  rw [Zlt_i, Zn_i h2, ← Zn0, Zn_i (by decide)]; omega
theorem Zneg_eq {a b : Nat} (ha : a < 2 ^ 31) (hb : b < 2 ^ 31) (h : -(nI a) = -(nI b)) : a = b := by
  rw [Zeq_i, Zneg_i ha, Zneg_i hb] at h; omega
theorem Zneg_lt {a b : Nat} (ha : a < 2 ^ 31) (hb : b < 2 ^ 31) : -(nI a) < -(nI b) ↔ b < a := by
  rw [Zlt_i, Zneg_i ha, Zneg_i hb]; omega
section ZEN
variable {u : Nat} {q : Zitm} {x : Int32}
theorem Zen_0 (h : Zen u q x) (hv : Zvi u q) (hx : ¬ x < 0) : q.1 = nI 0 ∧ x = q.2 := by
  rcases h with ⟨h1, h2⟩ | ⟨-, c, -, -, rfl⟩ | ⟨-, rfl⟩ | ⟨h1, rfl⟩
  · exact ⟨h1, h2⟩
  · exact absurd (Zneg_lt0 (by omega) (by have := Zpn_lt u c; omega)) hx
  · exact absurd (Zneg_lt0 (by decide) (by decide)) hx
  · exfalso
    rcases hv with ⟨e, -⟩ | ⟨e, -⟩ | e | ⟨-, c, hc, e2⟩
    · rw [h1] at e; exact absurd e (by decide)
    · rw [h1] at e; exact absurd e (by decide)
    · rw [h1] at e; exact absurd e (by decide)
    · have := Zsg_lt hc
      rw [e2] at hx
      exact hx (Zneg_lt0 (by omega) (by omega))
theorem Zen_1 (h : Zen u q x) (hv : Zvi u q) (hx : x < 0) (h3 : ¬ x < -(nI 3)) : q.1 = nI 1 ∧ ∃ c, Znm u c ∧ q.2 = nI c ∧ x = -(nI (1 + Zpn u c)) := by
  rcases h with ⟨h1, rfl⟩ | h | ⟨-, rfl⟩ | ⟨h1, rfl⟩
  · exfalso
    rcases hv with ⟨-, j, hj, e⟩ | ⟨e, -⟩ | e | ⟨e, -⟩
    · rw [e] at hx; exact Zn_nlt0 (by omega) hx
    · rw [h1] at e; exact absurd e (by decide)
    · rw [h1] at e; exact absurd e (by decide)
    · rw [h1] at e; exact absurd e (by decide)
  · exact h
  · exact absurd ((Zneg_lt (by decide) (by decide)).mpr (by decide)) h3
  · exfalso
    rcases hv with ⟨e, -⟩ | ⟨e, -⟩ | e | ⟨-, c, hc, e2⟩
    · rw [h1] at e; exact absurd e (by decide)
    · rw [h1] at e; exact absurd e (by decide)
    · rw [h1] at e; exact absurd e (by decide)
    · have := Zsg_lt hc
      rw [e2] at h3
      exact h3 ((Zneg_lt (by omega) (by decide)).mpr (by omega))
theorem Zen_2 (h : Zen u q x) (hv : Zvi u q) (hx : x = -(nI 33)) : q.1 = nI 2 := by
  subst hx
  rcases h with ⟨h1, h2⟩ | ⟨-, c, -, -, h2⟩ | ⟨h1, -⟩ | ⟨h1, h2⟩
  · exfalso
    rcases hv with ⟨-, j, hj, e⟩ | ⟨e, -⟩ | e | ⟨e, -⟩
    · rw [e, Zeq_i, Zneg_i (by decide), Zn_i (by omega)] at h2; omega
    · rw [h1] at e; exact absurd e (by decide)
    · rw [h1] at e; exact absurd e (by decide)
    · rw [h1] at e; exact absurd e (by decide)
  · have := Zneg_eq (by decide) (by have := Zpn_lt u c; omega) h2
    have := Zpn_lt u c
    omega
  · exact h1
  · exfalso
    rcases hv with ⟨e, -⟩ | ⟨e, -⟩ | e | ⟨-, c, hc, e2⟩
    · rw [h1] at e; exact absurd e (by decide)
    · rw [h1] at e; exact absurd e (by decide)
    · rw [h1] at e; exact absurd e (by decide)
    · have h5 := Zsg_lt hc
      rw [e2] at h2
      have := Zneg_eq (by decide) (by omega) h2
      omega
theorem Zen_3 (h : Zen u q x) (hv : Zvi u q) (h3 : x < -(nI 3)) (hx : ¬ x = -(nI 33)) : q.1 = nI 3 ∧ ∃ c, Zsg c ∧ q.2 = nI c ∧ x = -(nI c) := by
  rcases h with ⟨h1, rfl⟩ | ⟨-, c, -, -, rfl⟩ | ⟨-, h2⟩ | ⟨h1, h2⟩
  · exfalso
    rcases hv with ⟨-, j, hj, e⟩ | ⟨e, -⟩ | e | ⟨e, -⟩
    · rw [e, Zlt_i, Zneg_i (by decide), Zn_i (by omega)] at h3; omega
    · rw [h1] at e; exact absurd e (by decide)
    · rw [h1] at e; exact absurd e (by decide)
    · rw [h1] at e; exact absurd e (by decide)
  · exfalso
    have := (Zneg_lt (by have := Zpn_lt u c; omega) (by decide)).mp h3
    have := Zpn_lt u c
    omega
  · exact absurd h2 hx
  · rcases hv with ⟨e, -⟩ | ⟨e, -⟩ | e | ⟨-, c, hc, e2⟩
    · rw [h1] at e; exact absurd e (by decide)
    · rw [h1] at e; exact absurd e (by decide)
    · rw [h1] at e; exact absurd e (by decide)
    · exact ⟨h1, c, hc, e2, by rw [h2, e2]⟩
end ZEN
theorem Zpush_ok {M M1 : Zmem} {t d : Nat} {L : List Int32} (v : Int32) (ht : t = 11 ∨ t = 14) (hsc : Sc M M1) (hp : Zpl (M1 (t + 2)) L) (hd : L.length = d) : Sc M (Zu (Zu M1 (t + 2) d v) t 4 (nI (d + 1))) ∧ (Zu (Zu M1 (t + 2) d v) t 4 (nI (d + 1))) t 4 = nI (d + 1) ∧ Zpl ((Zu (Zu M1 (t + 2) d v) t 4 (nI (d + 1))) (t + 2)) (v :: L) := by
  refine ⟨?_, by rw [Zu_k, if_pos ⟨rfl, rfl⟩], ?_⟩
  · rcases ht with rfl | rfl <;> exact (hsc.u _ rfl).u _ rfl
  · rw [Zu_ne _ _ _ (by omega), Zu_at]
    exact Zpl_push v hp hd
theorem Zpop_ok {M M1 : Zmem} {t d : Nat} {L : List Int32} {x : Int32} (ht : t = 11 ∨ t = 14) (hsc : Sc M M1) (hp : Zpl (M1 (t + 2)) (x :: L)) (hd : L.length = d) : M1 (t + 2) d = x ∧ Sc M (Zu M1 t 4 (nI d)) ∧ (Zu M1 t 4 (nI d)) t 4 = nI d ∧ Zpl ((Zu M1 t 4 (nI d)) (t + 2)) L := by
  refine ⟨by rw [← hd]; exact hp.1, ?_, by rw [Zu_k, if_pos ⟨rfl, rfl⟩], ?_⟩
  · rcases ht with rfl | rfl <;> exact hsc.u _ rfl
  · rw [Zu_ne _ _ _ (by omega)]
    exact hp.2
/-- the names' numbers, for the class -/
def Zab (u : Nat) (nm : Int32 → Int32) (a b c : Int32) : Prop := ∀ n, Znm u n → nm (nI n) = ([a, b, c] : List Int32).getD (Zpn u n) 0

set_option maxRecDepth 20000 in
theorem s_joined (c : Nat) (x y : Int32) (M : Zmem) (hsg : Zsg c) : ZC 73 0 [.int (nI c), .int x, .int y] M (fun r M' => r = some (.int (Zjn c x y)) ∧ M = M') := by
  refine ZC_of Zt73 Zk73 (Nat.le_of_ble_eq_true rfl) (by decide) rfl (fun X hX hE => ?_)
  have hlt := Zsg_lt hsg
  refine Zgo hX 1 rfl (by first | exact True.intro | (dsimp only [ZallP]; and_intros <;> (first | decide | ((try simp only [pk_mul, nI_add]); exact Zin_n (by omega) (by decide))))) ?_
  by_cases s1_0 : nI c = nI 37
  · skip
    refine Zs_sw [(nI 37, 154), (nI 38, 204), (nI 39, 218), (nI 40, 218), (nI 41, 218), (nI 42, 128), (nI 43, 120), (nI 44, 218), (nI 45, 124), (nI 46, 218), (nI 47, 132), (nI 48, 218), (nI 49, 218), (nI 50, 218), (nI 51, 218), (nI 52, 218), (nI 53, 218), (nI 54, 218), (nI 55, 218), (nI 56, 218), (nI 57, 218), (nI 58, 218), (nI 59, 218), (nI 60, 171), (nI 61, 193), (nI 62, 182)] 218 hX (by decide +kernel) (by decide +kernel) (t := 154) (if_pos s1_0) ?_
    obtain rfl : c = 37 := Zeq (by omega) (by decide) s1_0
    refine Zgo hX 1 rfl (by first | exact True.intro | (dsimp only [ZallP]; and_intros <;> (first | decide | ((try simp only [pk_mul, nI_add]); exact Zin_n (by omega) (by decide))))) ?_
    refine Zs_eq hX (List.cons_ne_nil _ _) (fun h155 => ?_) (fun h155 => ?_)
    · skip
      refine Zgo hX 2 rfl (by first | exact True.intro | (dsimp only [ZallP]; and_intros <;> (first | decide | ((try simp only [pk_mul, nI_add]); exact Zin_n (by omega) (by decide))))) ?_
      refine Zs_ret hX hE rfl ⟨by show some (Value.int _) = some (Value.int (if y = 0 then nI 0 else x - x / y * y)); first | (rw [if_pos h155]; done) | (rw [if_neg h155, h160, Zrem_m1]; done) | (rw [if_neg h155]; done), rfl⟩
    · skip
      refine Zgo hX 2 rfl (by first | exact True.intro | (dsimp only [ZallP]; and_intros <;> (first | decide | ((try simp only [pk_mul, nI_add]); exact Zin_n (by omega) (by decide))))) ?_
      refine Zs_ine hX (List.cons_ne_nil _ _) (fun h160 => ?_) (fun h160 => ?_)
      · skip
        refine Zgo hX 3 rfl h155 ?_
        refine Zs_ret hX hE rfl ⟨by show some (Value.int _) = some (Value.int (if y = 0 then nI 0 else x - x / y * y)); first | (rw [if_pos h155]; done) | (rw [if_neg h155, h160, Zrem_m1]; done) | (rw [if_neg h155]; done), rfl⟩
      · skip
        refine Zgo hX 2 rfl (by first | exact True.intro | (dsimp only [ZallP]; and_intros <;> (first | decide | ((try simp only [pk_mul, nI_add]); exact Zin_n (by omega) (by decide))))) ?_
        refine Zs_ret hX hE rfl ⟨by show some (Value.int _) = some (Value.int (if y = 0 then nI 0 else x - x / y * y)); first | (rw [if_pos h155]; done) | (rw [if_neg h155, h160, Zrem_m1]; done) | (rw [if_neg h155]; done), rfl⟩
  by_cases s1_1 : nI c = nI 38
  · skip
    refine Zs_sw [(nI 37, 154), (nI 38, 204), (nI 39, 218), (nI 40, 218), (nI 41, 218), (nI 42, 128), (nI 43, 120), (nI 44, 218), (nI 45, 124), (nI 46, 218), (nI 47, 132), (nI 48, 218), (nI 49, 218), (nI 50, 218), (nI 51, 218), (nI 52, 218), (nI 53, 218), (nI 54, 218), (nI 55, 218), (nI 56, 218), (nI 57, 218), (nI 58, 218), (nI 59, 218), (nI 60, 171), (nI 61, 193), (nI 62, 182)] 218 hX (by decide +kernel) (by decide +kernel) (t := 204) ((if_neg s1_0).trans (if_pos s1_1)) ?_
    obtain rfl : c = 38 := Zeq (by omega) (by decide) s1_1
    refine Zgo hX 1 rfl (by first | exact True.intro | (dsimp only [ZallP]; and_intros <;> (first | decide | ((try simp only [pk_mul, nI_add]); exact Zin_n (by omega) (by decide))))) ?_
    refine Zs_eq hX (List.cons_ne_nil _ _) (fun h205 => ?_) (fun h205 => ?_)
    · skip
      refine Zgo hX 1 rfl (by first | exact True.intro | (dsimp only [ZallP]; and_intros <;> (first | decide | ((try simp only [pk_mul, nI_add]); exact Zin_n (by omega) (by decide))))) ?_
      refine Zs_ret hX hE rfl ⟨by show some (Value.int _) = some (Value.int (if ¬ x = 0 ∧ ¬ y = 0 then nI 1 else nI 0)); first | (rw [if_pos ⟨h205, h209⟩]; done) | (rw [if_neg (fun q => q.1 h205)]; done) | (rw [if_neg (fun q => q.2 h209)]; done), rfl⟩
    · skip
      refine Zgo hX 1 rfl (by first | exact True.intro | (dsimp only [ZallP]; and_intros <;> (first | decide | ((try simp only [pk_mul, nI_add]); exact Zin_n (by omega) (by decide))))) ?_
      refine Zs_eq hX (List.cons_ne_nil _ _) (fun h209 => ?_) (fun h209 => ?_)
      · skip
        refine Zgo hX 1 rfl (by first | exact True.intro | (dsimp only [ZallP]; and_intros <;> (first | decide | ((try simp only [pk_mul, nI_add]); exact Zin_n (by omega) (by decide))))) ?_
        refine Zs_ret hX hE rfl ⟨by show some (Value.int _) = some (Value.int (if ¬ x = 0 ∧ ¬ y = 0 then nI 1 else nI 0)); first | (rw [if_pos ⟨h205, h209⟩]; done) | (rw [if_neg (fun q => q.1 h205)]; done) | (rw [if_neg (fun q => q.2 h209)]; done), rfl⟩
      · skip
        refine Zgo hX 2 rfl (by first | exact True.intro | (dsimp only [ZallP]; and_intros <;> (first | decide | ((try simp only [pk_mul, nI_add]); exact Zin_n (by omega) (by decide))))) ?_
        refine Zs_ret hX hE rfl ⟨by show some (Value.int _) = some (Value.int (if ¬ x = 0 ∧ ¬ y = 0 then nI 1 else nI 0)); first | (rw [if_pos ⟨h205, h209⟩]; done) | (rw [if_neg (fun q => q.1 h205)]; done) | (rw [if_neg (fun q => q.2 h209)]; done), rfl⟩
  by_cases s1_2 : nI c = nI 39
  · skip
    refine Zs_sw [(nI 37, 154), (nI 38, 204), (nI 39, 218), (nI 40, 218), (nI 41, 218), (nI 42, 128), (nI 43, 120), (nI 44, 218), (nI 45, 124), (nI 46, 218), (nI 47, 132), (nI 48, 218), (nI 49, 218), (nI 50, 218), (nI 51, 218), (nI 52, 218), (nI 53, 218), (nI 54, 218), (nI 55, 218), (nI 56, 218), (nI 57, 218), (nI 58, 218), (nI 59, 218), (nI 60, 171), (nI 61, 193), (nI 62, 182)] 218 hX (by decide +kernel) (by decide +kernel) (t := 218) ((if_neg s1_0).trans ((if_neg s1_1).trans (if_pos s1_2))) ?_
    obtain rfl : c = 39 := Zeq (by omega) (by decide) s1_2
    exact absurd hsg (by unfold Zsg; omega)
  by_cases s1_3 : nI c = nI 40
  · skip
    refine Zs_sw [(nI 37, 154), (nI 38, 204), (nI 39, 218), (nI 40, 218), (nI 41, 218), (nI 42, 128), (nI 43, 120), (nI 44, 218), (nI 45, 124), (nI 46, 218), (nI 47, 132), (nI 48, 218), (nI 49, 218), (nI 50, 218), (nI 51, 218), (nI 52, 218), (nI 53, 218), (nI 54, 218), (nI 55, 218), (nI 56, 218), (nI 57, 218), (nI 58, 218), (nI 59, 218), (nI 60, 171), (nI 61, 193), (nI 62, 182)] 218 hX (by decide +kernel) (by decide +kernel) (t := 218) ((if_neg s1_0).trans ((if_neg s1_1).trans ((if_neg s1_2).trans (if_pos s1_3)))) ?_
    obtain rfl : c = 40 := Zeq (by omega) (by decide) s1_3
    exact absurd hsg (by unfold Zsg; omega)
  by_cases s1_4 : nI c = nI 41
  · skip
    refine Zs_sw [(nI 37, 154), (nI 38, 204), (nI 39, 218), (nI 40, 218), (nI 41, 218), (nI 42, 128), (nI 43, 120), (nI 44, 218), (nI 45, 124), (nI 46, 218), (nI 47, 132), (nI 48, 218), (nI 49, 218), (nI 50, 218), (nI 51, 218), (nI 52, 218), (nI 53, 218), (nI 54, 218), (nI 55, 218), (nI 56, 218), (nI 57, 218), (nI 58, 218), (nI 59, 218), (nI 60, 171), (nI 61, 193), (nI 62, 182)] 218 hX (by decide +kernel) (by decide +kernel) (t := 218) ((if_neg s1_0).trans ((if_neg s1_1).trans ((if_neg s1_2).trans ((if_neg s1_3).trans (if_pos s1_4))))) ?_
    obtain rfl : c = 41 := Zeq (by omega) (by decide) s1_4
    exact absurd hsg (by unfold Zsg; omega)
  by_cases s1_5 : nI c = nI 42
  · skip
    refine Zs_sw [(nI 37, 154), (nI 38, 204), (nI 39, 218), (nI 40, 218), (nI 41, 218), (nI 42, 128), (nI 43, 120), (nI 44, 218), (nI 45, 124), (nI 46, 218), (nI 47, 132), (nI 48, 218), (nI 49, 218), (nI 50, 218), (nI 51, 218), (nI 52, 218), (nI 53, 218), (nI 54, 218), (nI 55, 218), (nI 56, 218), (nI 57, 218), (nI 58, 218), (nI 59, 218), (nI 60, 171), (nI 61, 193), (nI 62, 182)] 218 hX (by decide +kernel) (by decide +kernel) (t := 128) ((if_neg s1_0).trans ((if_neg s1_1).trans ((if_neg s1_2).trans ((if_neg s1_3).trans ((if_neg s1_4).trans (if_pos s1_5)))))) ?_
    obtain rfl : c = 42 := Zeq (by omega) (by decide) s1_5
    refine Zgo hX 3 rfl (by first | exact True.intro | (dsimp only [ZallP]; and_intros <;> (first | decide | ((try simp only [pk_mul, nI_add]); exact Zin_n (by omega) (by decide))))) ?_
    refine Zs_ret hX hE rfl ⟨rfl, rfl⟩
  by_cases s1_6 : nI c = nI 43
  · skip
    refine Zs_sw [(nI 37, 154), (nI 38, 204), (nI 39, 218), (nI 40, 218), (nI 41, 218), (nI 42, 128), (nI 43, 120), (nI 44, 218), (nI 45, 124), (nI 46, 218), (nI 47, 132), (nI 48, 218), (nI 49, 218), (nI 50, 218), (nI 51, 218), (nI 52, 218), (nI 53, 218), (nI 54, 218), (nI 55, 218), (nI 56, 218), (nI 57, 218), (nI 58, 218), (nI 59, 218), (nI 60, 171), (nI 61, 193), (nI 62, 182)] 218 hX (by decide +kernel) (by decide +kernel) (t := 120) ((if_neg s1_0).trans ((if_neg s1_1).trans ((if_neg s1_2).trans ((if_neg s1_3).trans ((if_neg s1_4).trans ((if_neg s1_5).trans (if_pos s1_6))))))) ?_
    obtain rfl : c = 43 := Zeq (by omega) (by decide) s1_6
    refine Zgo hX 3 rfl (by first | exact True.intro | (dsimp only [ZallP]; and_intros <;> (first | decide | ((try simp only [pk_mul, nI_add]); exact Zin_n (by omega) (by decide))))) ?_
    refine Zs_ret hX hE rfl ⟨rfl, rfl⟩
  by_cases s1_7 : nI c = nI 44
  · skip
    refine Zs_sw [(nI 37, 154), (nI 38, 204), (nI 39, 218), (nI 40, 218), (nI 41, 218), (nI 42, 128), (nI 43, 120), (nI 44, 218), (nI 45, 124), (nI 46, 218), (nI 47, 132), (nI 48, 218), (nI 49, 218), (nI 50, 218), (nI 51, 218), (nI 52, 218), (nI 53, 218), (nI 54, 218), (nI 55, 218), (nI 56, 218), (nI 57, 218), (nI 58, 218), (nI 59, 218), (nI 60, 171), (nI 61, 193), (nI 62, 182)] 218 hX (by decide +kernel) (by decide +kernel) (t := 218) ((if_neg s1_0).trans ((if_neg s1_1).trans ((if_neg s1_2).trans ((if_neg s1_3).trans ((if_neg s1_4).trans ((if_neg s1_5).trans ((if_neg s1_6).trans (if_pos s1_7)))))))) ?_
    obtain rfl : c = 44 := Zeq (by omega) (by decide) s1_7
    exact absurd hsg (by unfold Zsg; omega)
  by_cases s1_8 : nI c = nI 45
  · skip
    refine Zs_sw [(nI 37, 154), (nI 38, 204), (nI 39, 218), (nI 40, 218), (nI 41, 218), (nI 42, 128), (nI 43, 120), (nI 44, 218), (nI 45, 124), (nI 46, 218), (nI 47, 132), (nI 48, 218), (nI 49, 218), (nI 50, 218), (nI 51, 218), (nI 52, 218), (nI 53, 218), (nI 54, 218), (nI 55, 218), (nI 56, 218), (nI 57, 218), (nI 58, 218), (nI 59, 218), (nI 60, 171), (nI 61, 193), (nI 62, 182)] 218 hX (by decide +kernel) (by decide +kernel) (t := 124) ((if_neg s1_0).trans ((if_neg s1_1).trans ((if_neg s1_2).trans ((if_neg s1_3).trans ((if_neg s1_4).trans ((if_neg s1_5).trans ((if_neg s1_6).trans ((if_neg s1_7).trans (if_pos s1_8))))))))) ?_
    obtain rfl : c = 45 := Zeq (by omega) (by decide) s1_8
    refine Zgo hX 3 rfl (by first | exact True.intro | (dsimp only [ZallP]; and_intros <;> (first | decide | ((try simp only [pk_mul, nI_add]); exact Zin_n (by omega) (by decide))))) ?_
    refine Zs_ret hX hE rfl ⟨rfl, rfl⟩
  by_cases s1_9 : nI c = nI 46
  · skip
    refine Zs_sw [(nI 37, 154), (nI 38, 204), (nI 39, 218), (nI 40, 218), (nI 41, 218), (nI 42, 128), (nI 43, 120), (nI 44, 218), (nI 45, 124), (nI 46, 218), (nI 47, 132), (nI 48, 218), (nI 49, 218), (nI 50, 218), (nI 51, 218), (nI 52, 218), (nI 53, 218), (nI 54, 218), (nI 55, 218), (nI 56, 218), (nI 57, 218), (nI 58, 218), (nI 59, 218), (nI 60, 171), (nI 61, 193), (nI 62, 182)] 218 hX (by decide +kernel) (by decide +kernel) (t := 218) ((if_neg s1_0).trans ((if_neg s1_1).trans ((if_neg s1_2).trans ((if_neg s1_3).trans ((if_neg s1_4).trans ((if_neg s1_5).trans ((if_neg s1_6).trans ((if_neg s1_7).trans ((if_neg s1_8).trans (if_pos s1_9)))))))))) ?_
    obtain rfl : c = 46 := Zeq (by omega) (by decide) s1_9
    exact absurd hsg (by unfold Zsg; omega)
  by_cases s1_10 : nI c = nI 47
  · skip
    refine Zs_sw [(nI 37, 154), (nI 38, 204), (nI 39, 218), (nI 40, 218), (nI 41, 218), (nI 42, 128), (nI 43, 120), (nI 44, 218), (nI 45, 124), (nI 46, 218), (nI 47, 132), (nI 48, 218), (nI 49, 218), (nI 50, 218), (nI 51, 218), (nI 52, 218), (nI 53, 218), (nI 54, 218), (nI 55, 218), (nI 56, 218), (nI 57, 218), (nI 58, 218), (nI 59, 218), (nI 60, 171), (nI 61, 193), (nI 62, 182)] 218 hX (by decide +kernel) (by decide +kernel) (t := 132) ((if_neg s1_0).trans ((if_neg s1_1).trans ((if_neg s1_2).trans ((if_neg s1_3).trans ((if_neg s1_4).trans ((if_neg s1_5).trans ((if_neg s1_6).trans ((if_neg s1_7).trans ((if_neg s1_8).trans ((if_neg s1_9).trans (if_pos s1_10))))))))))) ?_
    obtain rfl : c = 47 := Zeq (by omega) (by decide) s1_10
    refine Zgo hX 1 rfl (by first | exact True.intro | (dsimp only [ZallP]; and_intros <;> (first | decide | ((try simp only [pk_mul, nI_add]); exact Zin_n (by omega) (by decide))))) ?_
    refine Zs_ne hX (List.cons_ne_nil _ _) (fun h133 => ?_) (fun h133 => ?_)
    · skip
      refine Zgo hX 2 rfl (by first | exact True.intro | (dsimp only [ZallP]; and_intros <;> (first | decide | ((try simp only [pk_mul, nI_add]); exact Zin_n (by omega) (by decide))))) ?_
      refine Zs_ine hX (List.cons_ne_nil _ _) (fun h142 => ?_) (fun h142 => ?_)
      · skip
        refine Zgo hX 3 rfl h133 ?_
        refine Zs_ret hX hE rfl ⟨by show some (Value.int _) = some (Value.int (if y = 0 then nI 0 else x / y)); first | (rw [if_pos h133]; done) | (rw [if_neg h133, h142, Zdiv_m1]; done) | (rw [if_neg h133]; done), rfl⟩
      · skip
        refine Zgo hX 3 rfl (by first | exact True.intro | (dsimp only [ZallP]; and_intros <;> (first | decide | ((try simp only [pk_mul, nI_add]); exact Zin_n (by omega) (by decide))))) ?_
        refine Zs_ret hX hE rfl ⟨by show some (Value.int _) = some (Value.int (if y = 0 then nI 0 else x / y)); first | (rw [if_pos h133]; done) | (rw [if_neg h133, h142, Zdiv_m1]; done) | (rw [if_neg h133]; done), rfl⟩
    · skip
      refine Zgo hX 2 rfl (by first | exact True.intro | (dsimp only [ZallP]; and_intros <;> (first | decide | ((try simp only [pk_mul, nI_add]); exact Zin_n (by omega) (by decide))))) ?_
      refine Zs_ret hX hE rfl ⟨by show some (Value.int _) = some (Value.int (if y = 0 then nI 0 else x / y)); first | (rw [if_pos h133]; done) | (rw [if_neg h133, h142, Zdiv_m1]; done) | (rw [if_neg h133]; done), rfl⟩
  by_cases s1_11 : nI c = nI 48
  · skip
    refine Zs_sw [(nI 37, 154), (nI 38, 204), (nI 39, 218), (nI 40, 218), (nI 41, 218), (nI 42, 128), (nI 43, 120), (nI 44, 218), (nI 45, 124), (nI 46, 218), (nI 47, 132), (nI 48, 218), (nI 49, 218), (nI 50, 218), (nI 51, 218), (nI 52, 218), (nI 53, 218), (nI 54, 218), (nI 55, 218), (nI 56, 218), (nI 57, 218), (nI 58, 218), (nI 59, 218), (nI 60, 171), (nI 61, 193), (nI 62, 182)] 218 hX (by decide +kernel) (by decide +kernel) (t := 218) ((if_neg s1_0).trans ((if_neg s1_1).trans ((if_neg s1_2).trans ((if_neg s1_3).trans ((if_neg s1_4).trans ((if_neg s1_5).trans ((if_neg s1_6).trans ((if_neg s1_7).trans ((if_neg s1_8).trans ((if_neg s1_9).trans ((if_neg s1_10).trans (if_pos s1_11)))))))))))) ?_
    obtain rfl : c = 48 := Zeq (by omega) (by decide) s1_11
    exact absurd hsg (by unfold Zsg; omega)
  by_cases s1_12 : nI c = nI 49
  · skip
    refine Zs_sw [(nI 37, 154), (nI 38, 204), (nI 39, 218), (nI 40, 218), (nI 41, 218), (nI 42, 128), (nI 43, 120), (nI 44, 218), (nI 45, 124), (nI 46, 218), (nI 47, 132), (nI 48, 218), (nI 49, 218), (nI 50, 218), (nI 51, 218), (nI 52, 218), (nI 53, 218), (nI 54, 218), (nI 55, 218), (nI 56, 218), (nI 57, 218), (nI 58, 218), (nI 59, 218), (nI 60, 171), (nI 61, 193), (nI 62, 182)] 218 hX (by decide +kernel) (by decide +kernel) (t := 218) ((if_neg s1_0).trans ((if_neg s1_1).trans ((if_neg s1_2).trans ((if_neg s1_3).trans ((if_neg s1_4).trans ((if_neg s1_5).trans ((if_neg s1_6).trans ((if_neg s1_7).trans ((if_neg s1_8).trans ((if_neg s1_9).trans ((if_neg s1_10).trans ((if_neg s1_11).trans (if_pos s1_12))))))))))))) ?_
    obtain rfl : c = 49 := Zeq (by omega) (by decide) s1_12
    exact absurd hsg (by unfold Zsg; omega)
  by_cases s1_13 : nI c = nI 50
  · skip
    refine Zs_sw [(nI 37, 154), (nI 38, 204), (nI 39, 218), (nI 40, 218), (nI 41, 218), (nI 42, 128), (nI 43, 120), (nI 44, 218), (nI 45, 124), (nI 46, 218), (nI 47, 132), (nI 48, 218), (nI 49, 218), (nI 50, 218), (nI 51, 218), (nI 52, 218), (nI 53, 218), (nI 54, 218), (nI 55, 218), (nI 56, 218), (nI 57, 218), (nI 58, 218), (nI 59, 218), (nI 60, 171), (nI 61, 193), (nI 62, 182)] 218 hX (by decide +kernel) (by decide +kernel) (t := 218) ((if_neg s1_0).trans ((if_neg s1_1).trans ((if_neg s1_2).trans ((if_neg s1_3).trans ((if_neg s1_4).trans ((if_neg s1_5).trans ((if_neg s1_6).trans ((if_neg s1_7).trans ((if_neg s1_8).trans ((if_neg s1_9).trans ((if_neg s1_10).trans ((if_neg s1_11).trans ((if_neg s1_12).trans (if_pos s1_13)))))))))))))) ?_
    obtain rfl : c = 50 := Zeq (by omega) (by decide) s1_13
    exact absurd hsg (by unfold Zsg; omega)
  by_cases s1_14 : nI c = nI 51
  · skip
    refine Zs_sw [(nI 37, 154), (nI 38, 204), (nI 39, 218), (nI 40, 218), (nI 41, 218), (nI 42, 128), (nI 43, 120), (nI 44, 218), (nI 45, 124), (nI 46, 218), (nI 47, 132), (nI 48, 218), (nI 49, 218), (nI 50, 218), (nI 51, 218), (nI 52, 218), (nI 53, 218), (nI 54, 218), (nI 55, 218), (nI 56, 218), (nI 57, 218), (nI 58, 218), (nI 59, 218), (nI 60, 171), (nI 61, 193), (nI 62, 182)] 218 hX (by decide +kernel) (by decide +kernel) (t := 218) ((if_neg s1_0).trans ((if_neg s1_1).trans ((if_neg s1_2).trans ((if_neg s1_3).trans ((if_neg s1_4).trans ((if_neg s1_5).trans ((if_neg s1_6).trans ((if_neg s1_7).trans ((if_neg s1_8).trans ((if_neg s1_9).trans ((if_neg s1_10).trans ((if_neg s1_11).trans ((if_neg s1_12).trans ((if_neg s1_13).trans (if_pos s1_14))))))))))))))) ?_
    obtain rfl : c = 51 := Zeq (by omega) (by decide) s1_14
    exact absurd hsg (by unfold Zsg; omega)
  by_cases s1_15 : nI c = nI 52
  · skip
    refine Zs_sw [(nI 37, 154), (nI 38, 204), (nI 39, 218), (nI 40, 218), (nI 41, 218), (nI 42, 128), (nI 43, 120), (nI 44, 218), (nI 45, 124), (nI 46, 218), (nI 47, 132), (nI 48, 218), (nI 49, 218), (nI 50, 218), (nI 51, 218), (nI 52, 218), (nI 53, 218), (nI 54, 218), (nI 55, 218), (nI 56, 218), (nI 57, 218), (nI 58, 218), (nI 59, 218), (nI 60, 171), (nI 61, 193), (nI 62, 182)] 218 hX (by decide +kernel) (by decide +kernel) (t := 218) ((if_neg s1_0).trans ((if_neg s1_1).trans ((if_neg s1_2).trans ((if_neg s1_3).trans ((if_neg s1_4).trans ((if_neg s1_5).trans ((if_neg s1_6).trans ((if_neg s1_7).trans ((if_neg s1_8).trans ((if_neg s1_9).trans ((if_neg s1_10).trans ((if_neg s1_11).trans ((if_neg s1_12).trans ((if_neg s1_13).trans ((if_neg s1_14).trans (if_pos s1_15)))))))))))))))) ?_
    obtain rfl : c = 52 := Zeq (by omega) (by decide) s1_15
    exact absurd hsg (by unfold Zsg; omega)
  by_cases s1_16 : nI c = nI 53
  · skip
    refine Zs_sw [(nI 37, 154), (nI 38, 204), (nI 39, 218), (nI 40, 218), (nI 41, 218), (nI 42, 128), (nI 43, 120), (nI 44, 218), (nI 45, 124), (nI 46, 218), (nI 47, 132), (nI 48, 218), (nI 49, 218), (nI 50, 218), (nI 51, 218), (nI 52, 218), (nI 53, 218), (nI 54, 218), (nI 55, 218), (nI 56, 218), (nI 57, 218), (nI 58, 218), (nI 59, 218), (nI 60, 171), (nI 61, 193), (nI 62, 182)] 218 hX (by decide +kernel) (by decide +kernel) (t := 218) ((if_neg s1_0).trans ((if_neg s1_1).trans ((if_neg s1_2).trans ((if_neg s1_3).trans ((if_neg s1_4).trans ((if_neg s1_5).trans ((if_neg s1_6).trans ((if_neg s1_7).trans ((if_neg s1_8).trans ((if_neg s1_9).trans ((if_neg s1_10).trans ((if_neg s1_11).trans ((if_neg s1_12).trans ((if_neg s1_13).trans ((if_neg s1_14).trans ((if_neg s1_15).trans (if_pos s1_16))))))))))))))))) ?_
    obtain rfl : c = 53 := Zeq (by omega) (by decide) s1_16
    exact absurd hsg (by unfold Zsg; omega)
  by_cases s1_17 : nI c = nI 54
  · skip
    refine Zs_sw [(nI 37, 154), (nI 38, 204), (nI 39, 218), (nI 40, 218), (nI 41, 218), (nI 42, 128), (nI 43, 120), (nI 44, 218), (nI 45, 124), (nI 46, 218), (nI 47, 132), (nI 48, 218), (nI 49, 218), (nI 50, 218), (nI 51, 218), (nI 52, 218), (nI 53, 218), (nI 54, 218), (nI 55, 218), (nI 56, 218), (nI 57, 218), (nI 58, 218), (nI 59, 218), (nI 60, 171), (nI 61, 193), (nI 62, 182)] 218 hX (by decide +kernel) (by decide +kernel) (t := 218) ((if_neg s1_0).trans ((if_neg s1_1).trans ((if_neg s1_2).trans ((if_neg s1_3).trans ((if_neg s1_4).trans ((if_neg s1_5).trans ((if_neg s1_6).trans ((if_neg s1_7).trans ((if_neg s1_8).trans ((if_neg s1_9).trans ((if_neg s1_10).trans ((if_neg s1_11).trans ((if_neg s1_12).trans ((if_neg s1_13).trans ((if_neg s1_14).trans ((if_neg s1_15).trans ((if_neg s1_16).trans (if_pos s1_17)))))))))))))))))) ?_
    obtain rfl : c = 54 := Zeq (by omega) (by decide) s1_17
    exact absurd hsg (by unfold Zsg; omega)
  by_cases s1_18 : nI c = nI 55
  · skip
    refine Zs_sw [(nI 37, 154), (nI 38, 204), (nI 39, 218), (nI 40, 218), (nI 41, 218), (nI 42, 128), (nI 43, 120), (nI 44, 218), (nI 45, 124), (nI 46, 218), (nI 47, 132), (nI 48, 218), (nI 49, 218), (nI 50, 218), (nI 51, 218), (nI 52, 218), (nI 53, 218), (nI 54, 218), (nI 55, 218), (nI 56, 218), (nI 57, 218), (nI 58, 218), (nI 59, 218), (nI 60, 171), (nI 61, 193), (nI 62, 182)] 218 hX (by decide +kernel) (by decide +kernel) (t := 218) ((if_neg s1_0).trans ((if_neg s1_1).trans ((if_neg s1_2).trans ((if_neg s1_3).trans ((if_neg s1_4).trans ((if_neg s1_5).trans ((if_neg s1_6).trans ((if_neg s1_7).trans ((if_neg s1_8).trans ((if_neg s1_9).trans ((if_neg s1_10).trans ((if_neg s1_11).trans ((if_neg s1_12).trans ((if_neg s1_13).trans ((if_neg s1_14).trans ((if_neg s1_15).trans ((if_neg s1_16).trans ((if_neg s1_17).trans (if_pos s1_18))))))))))))))))))) ?_
    obtain rfl : c = 55 := Zeq (by omega) (by decide) s1_18
    exact absurd hsg (by unfold Zsg; omega)
  by_cases s1_19 : nI c = nI 56
  · skip
    refine Zs_sw [(nI 37, 154), (nI 38, 204), (nI 39, 218), (nI 40, 218), (nI 41, 218), (nI 42, 128), (nI 43, 120), (nI 44, 218), (nI 45, 124), (nI 46, 218), (nI 47, 132), (nI 48, 218), (nI 49, 218), (nI 50, 218), (nI 51, 218), (nI 52, 218), (nI 53, 218), (nI 54, 218), (nI 55, 218), (nI 56, 218), (nI 57, 218), (nI 58, 218), (nI 59, 218), (nI 60, 171), (nI 61, 193), (nI 62, 182)] 218 hX (by decide +kernel) (by decide +kernel) (t := 218) ((if_neg s1_0).trans ((if_neg s1_1).trans ((if_neg s1_2).trans ((if_neg s1_3).trans ((if_neg s1_4).trans ((if_neg s1_5).trans ((if_neg s1_6).trans ((if_neg s1_7).trans ((if_neg s1_8).trans ((if_neg s1_9).trans ((if_neg s1_10).trans ((if_neg s1_11).trans ((if_neg s1_12).trans ((if_neg s1_13).trans ((if_neg s1_14).trans ((if_neg s1_15).trans ((if_neg s1_16).trans ((if_neg s1_17).trans ((if_neg s1_18).trans (if_pos s1_19)))))))))))))))))))) ?_
    obtain rfl : c = 56 := Zeq (by omega) (by decide) s1_19
    exact absurd hsg (by unfold Zsg; omega)
  by_cases s1_20 : nI c = nI 57
  · skip
    refine Zs_sw [(nI 37, 154), (nI 38, 204), (nI 39, 218), (nI 40, 218), (nI 41, 218), (nI 42, 128), (nI 43, 120), (nI 44, 218), (nI 45, 124), (nI 46, 218), (nI 47, 132), (nI 48, 218), (nI 49, 218), (nI 50, 218), (nI 51, 218), (nI 52, 218), (nI 53, 218), (nI 54, 218), (nI 55, 218), (nI 56, 218), (nI 57, 218), (nI 58, 218), (nI 59, 218), (nI 60, 171), (nI 61, 193), (nI 62, 182)] 218 hX (by decide +kernel) (by decide +kernel) (t := 218) ((if_neg s1_0).trans ((if_neg s1_1).trans ((if_neg s1_2).trans ((if_neg s1_3).trans ((if_neg s1_4).trans ((if_neg s1_5).trans ((if_neg s1_6).trans ((if_neg s1_7).trans ((if_neg s1_8).trans ((if_neg s1_9).trans ((if_neg s1_10).trans ((if_neg s1_11).trans ((if_neg s1_12).trans ((if_neg s1_13).trans ((if_neg s1_14).trans ((if_neg s1_15).trans ((if_neg s1_16).trans ((if_neg s1_17).trans ((if_neg s1_18).trans ((if_neg s1_19).trans (if_pos s1_20))))))))))))))))))))) ?_
    obtain rfl : c = 57 := Zeq (by omega) (by decide) s1_20
    exact absurd hsg (by unfold Zsg; omega)
  by_cases s1_21 : nI c = nI 58
  · skip
    refine Zs_sw [(nI 37, 154), (nI 38, 204), (nI 39, 218), (nI 40, 218), (nI 41, 218), (nI 42, 128), (nI 43, 120), (nI 44, 218), (nI 45, 124), (nI 46, 218), (nI 47, 132), (nI 48, 218), (nI 49, 218), (nI 50, 218), (nI 51, 218), (nI 52, 218), (nI 53, 218), (nI 54, 218), (nI 55, 218), (nI 56, 218), (nI 57, 218), (nI 58, 218), (nI 59, 218), (nI 60, 171), (nI 61, 193), (nI 62, 182)] 218 hX (by decide +kernel) (by decide +kernel) (t := 218) ((if_neg s1_0).trans ((if_neg s1_1).trans ((if_neg s1_2).trans ((if_neg s1_3).trans ((if_neg s1_4).trans ((if_neg s1_5).trans ((if_neg s1_6).trans ((if_neg s1_7).trans ((if_neg s1_8).trans ((if_neg s1_9).trans ((if_neg s1_10).trans ((if_neg s1_11).trans ((if_neg s1_12).trans ((if_neg s1_13).trans ((if_neg s1_14).trans ((if_neg s1_15).trans ((if_neg s1_16).trans ((if_neg s1_17).trans ((if_neg s1_18).trans ((if_neg s1_19).trans ((if_neg s1_20).trans (if_pos s1_21)))))))))))))))))))))) ?_
    obtain rfl : c = 58 := Zeq (by omega) (by decide) s1_21
    exact absurd hsg (by unfold Zsg; omega)
  by_cases s1_22 : nI c = nI 59
  · skip
    refine Zs_sw [(nI 37, 154), (nI 38, 204), (nI 39, 218), (nI 40, 218), (nI 41, 218), (nI 42, 128), (nI 43, 120), (nI 44, 218), (nI 45, 124), (nI 46, 218), (nI 47, 132), (nI 48, 218), (nI 49, 218), (nI 50, 218), (nI 51, 218), (nI 52, 218), (nI 53, 218), (nI 54, 218), (nI 55, 218), (nI 56, 218), (nI 57, 218), (nI 58, 218), (nI 59, 218), (nI 60, 171), (nI 61, 193), (nI 62, 182)] 218 hX (by decide +kernel) (by decide +kernel) (t := 218) ((if_neg s1_0).trans ((if_neg s1_1).trans ((if_neg s1_2).trans ((if_neg s1_3).trans ((if_neg s1_4).trans ((if_neg s1_5).trans ((if_neg s1_6).trans ((if_neg s1_7).trans ((if_neg s1_8).trans ((if_neg s1_9).trans ((if_neg s1_10).trans ((if_neg s1_11).trans ((if_neg s1_12).trans ((if_neg s1_13).trans ((if_neg s1_14).trans ((if_neg s1_15).trans ((if_neg s1_16).trans ((if_neg s1_17).trans ((if_neg s1_18).trans ((if_neg s1_19).trans ((if_neg s1_20).trans ((if_neg s1_21).trans (if_pos s1_22))))))))))))))))))))))) ?_
    obtain rfl : c = 59 := Zeq (by omega) (by decide) s1_22
    exact absurd hsg (by unfold Zsg; omega)
  by_cases s1_23 : nI c = nI 60
  · skip
    refine Zs_sw [(nI 37, 154), (nI 38, 204), (nI 39, 218), (nI 40, 218), (nI 41, 218), (nI 42, 128), (nI 43, 120), (nI 44, 218), (nI 45, 124), (nI 46, 218), (nI 47, 132), (nI 48, 218), (nI 49, 218), (nI 50, 218), (nI 51, 218), (nI 52, 218), (nI 53, 218), (nI 54, 218), (nI 55, 218), (nI 56, 218), (nI 57, 218), (nI 58, 218), (nI 59, 218), (nI 60, 171), (nI 61, 193), (nI 62, 182)] 218 hX (by decide +kernel) (by decide +kernel) (t := 171) ((if_neg s1_0).trans ((if_neg s1_1).trans ((if_neg s1_2).trans ((if_neg s1_3).trans ((if_neg s1_4).trans ((if_neg s1_5).trans ((if_neg s1_6).trans ((if_neg s1_7).trans ((if_neg s1_8).trans ((if_neg s1_9).trans ((if_neg s1_10).trans ((if_neg s1_11).trans ((if_neg s1_12).trans ((if_neg s1_13).trans ((if_neg s1_14).trans ((if_neg s1_15).trans ((if_neg s1_16).trans ((if_neg s1_17).trans ((if_neg s1_18).trans ((if_neg s1_19).trans ((if_neg s1_20).trans ((if_neg s1_21).trans ((if_neg s1_22).trans (if_pos s1_23)))))))))))))))))))))))) ?_
    obtain rfl : c = 60 := Zeq (by omega) (by decide) s1_23
    refine Zgo hX 2 rfl (by first | exact True.intro | (dsimp only [ZallP]; and_intros <;> (first | decide | ((try simp only [pk_mul, nI_add]); exact Zin_n (by omega) (by decide))))) ?_
    refine Zs_ige hX (List.cons_ne_nil _ _) (fun h173 => ?_) (fun h173 => ?_)
    · skip
      refine Zgo hX 1 rfl (by first | exact True.intro | (dsimp only [ZallP]; and_intros <;> (first | decide | ((try simp only [pk_mul, nI_add]); exact Zin_n (by omega) (by decide))))) ?_
      refine Zs_ret hX hE rfl ⟨by show some (Value.int _) = some (Value.int (if x < y then nI 1 else nI 0)); first | (rw [if_pos (Int32.not_le.mp h173)]; done) | (rw [if_neg (Int32.not_lt.mpr h173)]; done), rfl⟩
    · skip
      refine Zgo hX 2 rfl (by first | exact True.intro | (dsimp only [ZallP]; and_intros <;> (first | decide | ((try simp only [pk_mul, nI_add]); exact Zin_n (by omega) (by decide))))) ?_
      refine Zs_ret hX hE rfl ⟨by show some (Value.int _) = some (Value.int (if x < y then nI 1 else nI 0)); first | (rw [if_pos (Int32.not_le.mp h173)]; done) | (rw [if_neg (Int32.not_lt.mpr h173)]; done), rfl⟩
  by_cases s1_24 : nI c = nI 61
  · skip
    refine Zs_sw [(nI 37, 154), (nI 38, 204), (nI 39, 218), (nI 40, 218), (nI 41, 218), (nI 42, 128), (nI 43, 120), (nI 44, 218), (nI 45, 124), (nI 46, 218), (nI 47, 132), (nI 48, 218), (nI 49, 218), (nI 50, 218), (nI 51, 218), (nI 52, 218), (nI 53, 218), (nI 54, 218), (nI 55, 218), (nI 56, 218), (nI 57, 218), (nI 58, 218), (nI 59, 218), (nI 60, 171), (nI 61, 193), (nI 62, 182)] 218 hX (by decide +kernel) (by decide +kernel) (t := 193) ((if_neg s1_0).trans ((if_neg s1_1).trans ((if_neg s1_2).trans ((if_neg s1_3).trans ((if_neg s1_4).trans ((if_neg s1_5).trans ((if_neg s1_6).trans ((if_neg s1_7).trans ((if_neg s1_8).trans ((if_neg s1_9).trans ((if_neg s1_10).trans ((if_neg s1_11).trans ((if_neg s1_12).trans ((if_neg s1_13).trans ((if_neg s1_14).trans ((if_neg s1_15).trans ((if_neg s1_16).trans ((if_neg s1_17).trans ((if_neg s1_18).trans ((if_neg s1_19).trans ((if_neg s1_20).trans ((if_neg s1_21).trans ((if_neg s1_22).trans ((if_neg s1_23).trans (if_pos s1_24))))))))))))))))))))))))) ?_
    obtain rfl : c = 61 := Zeq (by omega) (by decide) s1_24
    refine Zgo hX 2 rfl (by first | exact True.intro | (dsimp only [ZallP]; and_intros <;> (first | decide | ((try simp only [pk_mul, nI_add]); exact Zin_n (by omega) (by decide))))) ?_
    refine Zs_ine hX (List.cons_ne_nil _ _) (fun h195 => ?_) (fun h195 => ?_)
    · skip
      refine Zgo hX 1 rfl (by first | exact True.intro | (dsimp only [ZallP]; and_intros <;> (first | decide | ((try simp only [pk_mul, nI_add]); exact Zin_n (by omega) (by decide))))) ?_
      refine Zs_ret hX hE rfl ⟨by show some (Value.int _) = some (Value.int (if x = y then nI 1 else nI 0)); first | (rw [if_pos h195]; done) | (rw [if_neg h195]; done), rfl⟩
    · skip
      refine Zgo hX 2 rfl (by first | exact True.intro | (dsimp only [ZallP]; and_intros <;> (first | decide | ((try simp only [pk_mul, nI_add]); exact Zin_n (by omega) (by decide))))) ?_
      refine Zs_ret hX hE rfl ⟨by show some (Value.int _) = some (Value.int (if x = y then nI 1 else nI 0)); first | (rw [if_pos h195]; done) | (rw [if_neg h195]; done), rfl⟩
  by_cases s1_25 : nI c = nI 62
  · skip
    refine Zs_sw [(nI 37, 154), (nI 38, 204), (nI 39, 218), (nI 40, 218), (nI 41, 218), (nI 42, 128), (nI 43, 120), (nI 44, 218), (nI 45, 124), (nI 46, 218), (nI 47, 132), (nI 48, 218), (nI 49, 218), (nI 50, 218), (nI 51, 218), (nI 52, 218), (nI 53, 218), (nI 54, 218), (nI 55, 218), (nI 56, 218), (nI 57, 218), (nI 58, 218), (nI 59, 218), (nI 60, 171), (nI 61, 193), (nI 62, 182)] 218 hX (by decide +kernel) (by decide +kernel) (t := 182) ((if_neg s1_0).trans ((if_neg s1_1).trans ((if_neg s1_2).trans ((if_neg s1_3).trans ((if_neg s1_4).trans ((if_neg s1_5).trans ((if_neg s1_6).trans ((if_neg s1_7).trans ((if_neg s1_8).trans ((if_neg s1_9).trans ((if_neg s1_10).trans ((if_neg s1_11).trans ((if_neg s1_12).trans ((if_neg s1_13).trans ((if_neg s1_14).trans ((if_neg s1_15).trans ((if_neg s1_16).trans ((if_neg s1_17).trans ((if_neg s1_18).trans ((if_neg s1_19).trans ((if_neg s1_20).trans ((if_neg s1_21).trans ((if_neg s1_22).trans ((if_neg s1_23).trans ((if_neg s1_24).trans (if_pos s1_25)))))))))))))))))))))))))) ?_
    obtain rfl : c = 62 := Zeq (by omega) (by decide) s1_25
    refine Zgo hX 2 rfl (by first | exact True.intro | (dsimp only [ZallP]; and_intros <;> (first | decide | ((try simp only [pk_mul, nI_add]); exact Zin_n (by omega) (by decide))))) ?_
    refine Zs_ile hX (List.cons_ne_nil _ _) (fun h184 => ?_) (fun h184 => ?_)
    · skip
      refine Zgo hX 1 rfl (by first | exact True.intro | (dsimp only [ZallP]; and_intros <;> (first | decide | ((try simp only [pk_mul, nI_add]); exact Zin_n (by omega) (by decide))))) ?_
      refine Zs_ret hX hE rfl ⟨by show some (Value.int _) = some (Value.int (if y < x then nI 1 else nI 0)); first | (rw [if_pos (Int32.not_le.mp h184)]; done) | (rw [if_neg (Int32.not_lt.mpr h184)]; done), rfl⟩
    · skip
      refine Zgo hX 2 rfl (by first | exact True.intro | (dsimp only [ZallP]; and_intros <;> (first | decide | ((try simp only [pk_mul, nI_add]); exact Zin_n (by omega) (by decide))))) ?_
      refine Zs_ret hX hE rfl ⟨by show some (Value.int _) = some (Value.int (if y < x then nI 1 else nI 0)); first | (rw [if_pos (Int32.not_le.mp h184)]; done) | (rw [if_neg (Int32.not_lt.mpr h184)]; done), rfl⟩
  refine Zs_sw [(nI 37, 154), (nI 38, 204), (nI 39, 218), (nI 40, 218), (nI 41, 218), (nI 42, 128), (nI 43, 120), (nI 44, 218), (nI 45, 124), (nI 46, 218), (nI 47, 132), (nI 48, 218), (nI 49, 218), (nI 50, 218), (nI 51, 218), (nI 52, 218), (nI 53, 218), (nI 54, 218), (nI 55, 218), (nI 56, 218), (nI 57, 218), (nI 58, 218), (nI 59, 218), (nI 60, 171), (nI 61, 193), (nI 62, 182)] 218 hX (by decide +kernel) (by decide +kernel) (t := 218) ((if_neg s1_0).trans ((if_neg s1_1).trans ((if_neg s1_2).trans ((if_neg s1_3).trans ((if_neg s1_4).trans ((if_neg s1_5).trans ((if_neg s1_6).trans ((if_neg s1_7).trans ((if_neg s1_8).trans ((if_neg s1_9).trans ((if_neg s1_10).trans ((if_neg s1_11).trans ((if_neg s1_12).trans ((if_neg s1_13).trans ((if_neg s1_14).trans ((if_neg s1_15).trans ((if_neg s1_16).trans ((if_neg s1_17).trans ((if_neg s1_18).trans ((if_neg s1_19).trans ((if_neg s1_20).trans ((if_neg s1_21).trans ((if_neg s1_22).trans ((if_neg s1_23).trans ((if_neg s1_24).trans (if_neg s1_25)))))))))))))))))))))))))) ?_
  have z1_0 : c ≠ 37 := Zne (by omega) (by decide) s1_0
  have z1_1 : c ≠ 38 := Zne (by omega) (by decide) s1_1
  have z1_2 : c ≠ 39 := Zne (by omega) (by decide) s1_2
  have z1_3 : c ≠ 40 := Zne (by omega) (by decide) s1_3
  have z1_4 : c ≠ 41 := Zne (by omega) (by decide) s1_4
  have z1_5 : c ≠ 42 := Zne (by omega) (by decide) s1_5
  have z1_6 : c ≠ 43 := Zne (by omega) (by decide) s1_6
  have z1_7 : c ≠ 44 := Zne (by omega) (by decide) s1_7
  have z1_8 : c ≠ 45 := Zne (by omega) (by decide) s1_8
  have z1_9 : c ≠ 46 := Zne (by omega) (by decide) s1_9
  have z1_10 : c ≠ 47 := Zne (by omega) (by decide) s1_10
  have z1_11 : c ≠ 48 := Zne (by omega) (by decide) s1_11
  have z1_12 : c ≠ 49 := Zne (by omega) (by decide) s1_12
  have z1_13 : c ≠ 50 := Zne (by omega) (by decide) s1_13
  have z1_14 : c ≠ 51 := Zne (by omega) (by decide) s1_14
  have z1_15 : c ≠ 52 := Zne (by omega) (by decide) s1_15
  have z1_16 : c ≠ 53 := Zne (by omega) (by decide) s1_16
  have z1_17 : c ≠ 54 := Zne (by omega) (by decide) s1_17
  have z1_18 : c ≠ 55 := Zne (by omega) (by decide) s1_18
  have z1_19 : c ≠ 56 := Zne (by omega) (by decide) s1_19
  have z1_20 : c ≠ 57 := Zne (by omega) (by decide) s1_20
  have z1_21 : c ≠ 58 := Zne (by omega) (by decide) s1_21
  have z1_22 : c ≠ 59 := Zne (by omega) (by decide) s1_22
  have z1_23 : c ≠ 60 := Zne (by omega) (by decide) s1_23
  have z1_24 : c ≠ 61 := Zne (by omega) (by decide) s1_24
  have z1_25 : c ≠ 62 := Zne (by omega) (by decide) s1_25
  obtain rfl : c = 124 := by unfold Zsg at hsg; omega
  refine Zgo hX 1 rfl (by first | exact True.intro | (dsimp only [ZallP]; and_intros <;> (first | decide | ((try simp only [pk_mul, nI_add]); exact Zin_n (by omega) (by decide))))) ?_
  refine Zs_ne hX (List.cons_ne_nil _ _) (fun h219 => ?_) (fun h219 => ?_)
  · skip
    refine Zgo hX 2 rfl (by first | exact True.intro | (dsimp only [ZallP]; and_intros <;> (first | decide | ((try simp only [pk_mul, nI_add]); exact Zin_n (by omega) (by decide))))) ?_
    refine Zs_ret hX hE rfl ⟨by show some (Value.int _) = some (Value.int (if ¬ x = 0 ∨ ¬ y = 0 then nI 1 else nI 0)); first | (rw [if_pos (Or.inl h219)]; done) | (rw [if_pos (Or.inr h223)]; done) | (rw [if_neg (fun q => q.elim (fun z => z h219) (fun z => z h223))]; done), rfl⟩
  · skip
    refine Zgo hX 1 rfl (by first | exact True.intro | (dsimp only [ZallP]; and_intros <;> (first | decide | ((try simp only [pk_mul, nI_add]); exact Zin_n (by omega) (by decide))))) ?_
    refine Zs_eq hX (List.cons_ne_nil _ _) (fun h223 => ?_) (fun h223 => ?_)
    · skip
      refine Zgo hX 1 rfl (by first | exact True.intro | (dsimp only [ZallP]; and_intros <;> (first | decide | ((try simp only [pk_mul, nI_add]); exact Zin_n (by omega) (by decide))))) ?_
      refine Zs_ret hX hE rfl ⟨by show some (Value.int _) = some (Value.int (if ¬ x = 0 ∨ ¬ y = 0 then nI 1 else nI 0)); first | (rw [if_pos (Or.inl h219)]; done) | (rw [if_pos (Or.inr h223)]; done) | (rw [if_neg (fun q => q.elim (fun z => z h219) (fun z => z h223))]; done), rfl⟩
    · skip
      refine Zgo hX 2 rfl (by first | exact True.intro | (dsimp only [ZallP]; and_intros <;> (first | decide | ((try simp only [pk_mul, nI_add]); exact Zin_n (by omega) (by decide))))) ?_
      refine Zs_ret hX hE rfl ⟨by show some (Value.int _) = some (Value.int (if ¬ x = 0 ∨ ¬ y = 0 then nI 1 else nI 0)); first | (rw [if_pos (Or.inl h219)]; done) | (rw [if_pos (Or.inr h223)]; done) | (rw [if_neg (fun q => q.elim (fun z => z h219) (fun z => z h223))]; done), rfl⟩

set_option maxRecDepth 20000 in
theorem k_joined (c : Nat) (x y : Int32) (M : Zmem) (hsg : Zsg c) : ZC 189 0 [.int (nI c), .int x, .int y] M (fun r M' => r = some (.int (Zjn c x y)) ∧ M = M') := by
  refine ZC_of Zt189 Zk189 (Nat.le_of_ble_eq_true rfl) (by decide) rfl (fun X hX hE => ?_)
  have hlt := Zsg_lt hsg
  refine Zgo hX 1 rfl (by first | exact True.intro | (dsimp only [ZallP]; and_intros <;> (first | decide | ((try simp only [pk_mul, nI_add]); exact Zin_n (by omega) (by decide))))) ?_
  by_cases s1_0 : nI c = nI 37
  · skip
    refine Zs_sw [(nI 37, 177), (nI 38, 106), (nI 42, 161), (nI 43, 153), (nI 45, 157), (nI 47, 165), (nI 60, 120), (nI 61, 131), (nI 62, 142), (nI 124, 92)] 189 hX (by decide +kernel) (by decide +kernel) (t := 177) (if_pos s1_0) ?_
    obtain rfl : c = 37 := Zeq (by omega) (by decide) s1_0
    refine Zgo hX 1 rfl (by first | exact True.intro | (dsimp only [ZallP]; and_intros <;> (first | decide | ((try simp only [pk_mul, nI_add]); exact Zin_n (by omega) (by decide))))) ?_
    refine Zs_ne hX (List.cons_ne_nil _ _) (fun h178 => ?_) (fun h178 => ?_)
    · skip
      refine Zgo hX 3 rfl h178 ?_
      refine Zs_ret hX hE rfl ⟨by show some (Value.int _) = some (Value.int (if y = 0 then nI 0 else x - x / y * y)); first | (rw [if_pos h178]; done) | (rw [if_neg h178]; done), rfl⟩
    · skip
      refine Zgo hX 2 rfl (by first | exact True.intro | (dsimp only [ZallP]; and_intros <;> (first | decide | ((try simp only [pk_mul, nI_add]); exact Zin_n (by omega) (by decide))))) ?_
      refine Zs_ret hX hE rfl ⟨by show some (Value.int _) = some (Value.int (if y = 0 then nI 0 else x - x / y * y)); first | (rw [if_pos h178]; done) | (rw [if_neg h178]; done), rfl⟩
  by_cases s1_1 : nI c = nI 38
  · skip
    refine Zs_sw [(nI 37, 177), (nI 38, 106), (nI 42, 161), (nI 43, 153), (nI 45, 157), (nI 47, 165), (nI 60, 120), (nI 61, 131), (nI 62, 142), (nI 124, 92)] 189 hX (by decide +kernel) (by decide +kernel) (t := 106) ((if_neg s1_0).trans (if_pos s1_1)) ?_
    obtain rfl : c = 38 := Zeq (by omega) (by decide) s1_1
    refine Zgo hX 1 rfl (by first | exact True.intro | (dsimp only [ZallP]; and_intros <;> (first | decide | ((try simp only [pk_mul, nI_add]); exact Zin_n (by omega) (by decide))))) ?_
    refine Zs_eq hX (List.cons_ne_nil _ _) (fun h107 => ?_) (fun h107 => ?_)
    · skip
      refine Zgo hX 1 rfl (by first | exact True.intro | (dsimp only [ZallP]; and_intros <;> (first | decide | ((try simp only [pk_mul, nI_add]); exact Zin_n (by omega) (by decide))))) ?_
      refine Zs_ret hX hE rfl ⟨by show some (Value.int _) = some (Value.int (if ¬ x = 0 ∧ ¬ y = 0 then nI 1 else nI 0)); first | (rw [if_pos ⟨h107, h111⟩]; done) | (rw [if_neg (fun q => q.1 h107)]; done) | (rw [if_neg (fun q => q.2 h111)]; done), rfl⟩
    · skip
      refine Zgo hX 1 rfl (by first | exact True.intro | (dsimp only [ZallP]; and_intros <;> (first | decide | ((try simp only [pk_mul, nI_add]); exact Zin_n (by omega) (by decide))))) ?_
      refine Zs_eq hX (List.cons_ne_nil _ _) (fun h111 => ?_) (fun h111 => ?_)
      · skip
        refine Zgo hX 1 rfl (by first | exact True.intro | (dsimp only [ZallP]; and_intros <;> (first | decide | ((try simp only [pk_mul, nI_add]); exact Zin_n (by omega) (by decide))))) ?_
        refine Zs_ret hX hE rfl ⟨by show some (Value.int _) = some (Value.int (if ¬ x = 0 ∧ ¬ y = 0 then nI 1 else nI 0)); first | (rw [if_pos ⟨h107, h111⟩]; done) | (rw [if_neg (fun q => q.1 h107)]; done) | (rw [if_neg (fun q => q.2 h111)]; done), rfl⟩
      · skip
        refine Zgo hX 2 rfl (by first | exact True.intro | (dsimp only [ZallP]; and_intros <;> (first | decide | ((try simp only [pk_mul, nI_add]); exact Zin_n (by omega) (by decide))))) ?_
        refine Zs_ret hX hE rfl ⟨by show some (Value.int _) = some (Value.int (if ¬ x = 0 ∧ ¬ y = 0 then nI 1 else nI 0)); first | (rw [if_pos ⟨h107, h111⟩]; done) | (rw [if_neg (fun q => q.1 h107)]; done) | (rw [if_neg (fun q => q.2 h111)]; done), rfl⟩
  by_cases s1_2 : nI c = nI 42
  · skip
    refine Zs_sw [(nI 37, 177), (nI 38, 106), (nI 42, 161), (nI 43, 153), (nI 45, 157), (nI 47, 165), (nI 60, 120), (nI 61, 131), (nI 62, 142), (nI 124, 92)] 189 hX (by decide +kernel) (by decide +kernel) (t := 161) ((if_neg s1_0).trans ((if_neg s1_1).trans (if_pos s1_2))) ?_
    obtain rfl : c = 42 := Zeq (by omega) (by decide) s1_2
    refine Zgo hX 3 rfl (by first | exact True.intro | (dsimp only [ZallP]; and_intros <;> (first | decide | ((try simp only [pk_mul, nI_add]); exact Zin_n (by omega) (by decide))))) ?_
    refine Zs_ret hX hE rfl ⟨rfl, rfl⟩
  by_cases s1_3 : nI c = nI 43
  · skip
    refine Zs_sw [(nI 37, 177), (nI 38, 106), (nI 42, 161), (nI 43, 153), (nI 45, 157), (nI 47, 165), (nI 60, 120), (nI 61, 131), (nI 62, 142), (nI 124, 92)] 189 hX (by decide +kernel) (by decide +kernel) (t := 153) ((if_neg s1_0).trans ((if_neg s1_1).trans ((if_neg s1_2).trans (if_pos s1_3)))) ?_
    obtain rfl : c = 43 := Zeq (by omega) (by decide) s1_3
    refine Zgo hX 3 rfl (by first | exact True.intro | (dsimp only [ZallP]; and_intros <;> (first | decide | ((try simp only [pk_mul, nI_add]); exact Zin_n (by omega) (by decide))))) ?_
    refine Zs_ret hX hE rfl ⟨rfl, rfl⟩
  by_cases s1_4 : nI c = nI 45
  · skip
    refine Zs_sw [(nI 37, 177), (nI 38, 106), (nI 42, 161), (nI 43, 153), (nI 45, 157), (nI 47, 165), (nI 60, 120), (nI 61, 131), (nI 62, 142), (nI 124, 92)] 189 hX (by decide +kernel) (by decide +kernel) (t := 157) ((if_neg s1_0).trans ((if_neg s1_1).trans ((if_neg s1_2).trans ((if_neg s1_3).trans (if_pos s1_4))))) ?_
    obtain rfl : c = 45 := Zeq (by omega) (by decide) s1_4
    refine Zgo hX 3 rfl (by first | exact True.intro | (dsimp only [ZallP]; and_intros <;> (first | decide | ((try simp only [pk_mul, nI_add]); exact Zin_n (by omega) (by decide))))) ?_
    refine Zs_ret hX hE rfl ⟨rfl, rfl⟩
  by_cases s1_5 : nI c = nI 47
  · skip
    refine Zs_sw [(nI 37, 177), (nI 38, 106), (nI 42, 161), (nI 43, 153), (nI 45, 157), (nI 47, 165), (nI 60, 120), (nI 61, 131), (nI 62, 142), (nI 124, 92)] 189 hX (by decide +kernel) (by decide +kernel) (t := 165) ((if_neg s1_0).trans ((if_neg s1_1).trans ((if_neg s1_2).trans ((if_neg s1_3).trans ((if_neg s1_4).trans (if_pos s1_5)))))) ?_
    obtain rfl : c = 47 := Zeq (by omega) (by decide) s1_5
    refine Zgo hX 1 rfl (by first | exact True.intro | (dsimp only [ZallP]; and_intros <;> (first | decide | ((try simp only [pk_mul, nI_add]); exact Zin_n (by omega) (by decide))))) ?_
    refine Zs_ne hX (List.cons_ne_nil _ _) (fun h166 => ?_) (fun h166 => ?_)
    · skip
      refine Zgo hX 3 rfl h166 ?_
      refine Zs_ret hX hE rfl ⟨by show some (Value.int _) = some (Value.int (if y = 0 then nI 0 else x / y)); first | (rw [if_pos h166]; done) | (rw [if_neg h166]; done), rfl⟩
    · skip
      refine Zgo hX 2 rfl (by first | exact True.intro | (dsimp only [ZallP]; and_intros <;> (first | decide | ((try simp only [pk_mul, nI_add]); exact Zin_n (by omega) (by decide))))) ?_
      refine Zs_ret hX hE rfl ⟨by show some (Value.int _) = some (Value.int (if y = 0 then nI 0 else x / y)); first | (rw [if_pos h166]; done) | (rw [if_neg h166]; done), rfl⟩
  by_cases s1_6 : nI c = nI 60
  · skip
    refine Zs_sw [(nI 37, 177), (nI 38, 106), (nI 42, 161), (nI 43, 153), (nI 45, 157), (nI 47, 165), (nI 60, 120), (nI 61, 131), (nI 62, 142), (nI 124, 92)] 189 hX (by decide +kernel) (by decide +kernel) (t := 120) ((if_neg s1_0).trans ((if_neg s1_1).trans ((if_neg s1_2).trans ((if_neg s1_3).trans ((if_neg s1_4).trans ((if_neg s1_5).trans (if_pos s1_6))))))) ?_
    obtain rfl : c = 60 := Zeq (by omega) (by decide) s1_6
    refine Zgo hX 2 rfl (by first | exact True.intro | (dsimp only [ZallP]; and_intros <;> (first | decide | ((try simp only [pk_mul, nI_add]); exact Zin_n (by omega) (by decide))))) ?_
    refine Zs_ige hX (List.cons_ne_nil _ _) (fun h122 => ?_) (fun h122 => ?_)
    · skip
      refine Zgo hX 1 rfl (by first | exact True.intro | (dsimp only [ZallP]; and_intros <;> (first | decide | ((try simp only [pk_mul, nI_add]); exact Zin_n (by omega) (by decide))))) ?_
      refine Zs_ret hX hE rfl ⟨by show some (Value.int _) = some (Value.int (if x < y then nI 1 else nI 0)); first | (rw [if_pos (Int32.not_le.mp h122)]; done) | (rw [if_neg (Int32.not_lt.mpr h122)]; done), rfl⟩
    · skip
      refine Zgo hX 2 rfl (by first | exact True.intro | (dsimp only [ZallP]; and_intros <;> (first | decide | ((try simp only [pk_mul, nI_add]); exact Zin_n (by omega) (by decide))))) ?_
      refine Zs_ret hX hE rfl ⟨by show some (Value.int _) = some (Value.int (if x < y then nI 1 else nI 0)); first | (rw [if_pos (Int32.not_le.mp h122)]; done) | (rw [if_neg (Int32.not_lt.mpr h122)]; done), rfl⟩
  by_cases s1_7 : nI c = nI 61
  · skip
    refine Zs_sw [(nI 37, 177), (nI 38, 106), (nI 42, 161), (nI 43, 153), (nI 45, 157), (nI 47, 165), (nI 60, 120), (nI 61, 131), (nI 62, 142), (nI 124, 92)] 189 hX (by decide +kernel) (by decide +kernel) (t := 131) ((if_neg s1_0).trans ((if_neg s1_1).trans ((if_neg s1_2).trans ((if_neg s1_3).trans ((if_neg s1_4).trans ((if_neg s1_5).trans ((if_neg s1_6).trans (if_pos s1_7)))))))) ?_
    obtain rfl : c = 61 := Zeq (by omega) (by decide) s1_7
    refine Zgo hX 2 rfl (by first | exact True.intro | (dsimp only [ZallP]; and_intros <;> (first | decide | ((try simp only [pk_mul, nI_add]); exact Zin_n (by omega) (by decide))))) ?_
    refine Zs_ine hX (List.cons_ne_nil _ _) (fun h133 => ?_) (fun h133 => ?_)
    · skip
      refine Zgo hX 1 rfl (by first | exact True.intro | (dsimp only [ZallP]; and_intros <;> (first | decide | ((try simp only [pk_mul, nI_add]); exact Zin_n (by omega) (by decide))))) ?_
      refine Zs_ret hX hE rfl ⟨by show some (Value.int _) = some (Value.int (if x = y then nI 1 else nI 0)); first | (rw [if_pos h133]; done) | (rw [if_neg h133]; done), rfl⟩
    · skip
      refine Zgo hX 2 rfl (by first | exact True.intro | (dsimp only [ZallP]; and_intros <;> (first | decide | ((try simp only [pk_mul, nI_add]); exact Zin_n (by omega) (by decide))))) ?_
      refine Zs_ret hX hE rfl ⟨by show some (Value.int _) = some (Value.int (if x = y then nI 1 else nI 0)); first | (rw [if_pos h133]; done) | (rw [if_neg h133]; done), rfl⟩
  by_cases s1_8 : nI c = nI 62
  · skip
    refine Zs_sw [(nI 37, 177), (nI 38, 106), (nI 42, 161), (nI 43, 153), (nI 45, 157), (nI 47, 165), (nI 60, 120), (nI 61, 131), (nI 62, 142), (nI 124, 92)] 189 hX (by decide +kernel) (by decide +kernel) (t := 142) ((if_neg s1_0).trans ((if_neg s1_1).trans ((if_neg s1_2).trans ((if_neg s1_3).trans ((if_neg s1_4).trans ((if_neg s1_5).trans ((if_neg s1_6).trans ((if_neg s1_7).trans (if_pos s1_8))))))))) ?_
    obtain rfl : c = 62 := Zeq (by omega) (by decide) s1_8
    refine Zgo hX 2 rfl (by first | exact True.intro | (dsimp only [ZallP]; and_intros <;> (first | decide | ((try simp only [pk_mul, nI_add]); exact Zin_n (by omega) (by decide))))) ?_
    refine Zs_ile hX (List.cons_ne_nil _ _) (fun h144 => ?_) (fun h144 => ?_)
    · skip
      refine Zgo hX 1 rfl (by first | exact True.intro | (dsimp only [ZallP]; and_intros <;> (first | decide | ((try simp only [pk_mul, nI_add]); exact Zin_n (by omega) (by decide))))) ?_
      refine Zs_ret hX hE rfl ⟨by show some (Value.int _) = some (Value.int (if y < x then nI 1 else nI 0)); first | (rw [if_pos (Int32.not_le.mp h144)]; done) | (rw [if_neg (Int32.not_lt.mpr h144)]; done), rfl⟩
    · skip
      refine Zgo hX 2 rfl (by first | exact True.intro | (dsimp only [ZallP]; and_intros <;> (first | decide | ((try simp only [pk_mul, nI_add]); exact Zin_n (by omega) (by decide))))) ?_
      refine Zs_ret hX hE rfl ⟨by show some (Value.int _) = some (Value.int (if y < x then nI 1 else nI 0)); first | (rw [if_pos (Int32.not_le.mp h144)]; done) | (rw [if_neg (Int32.not_lt.mpr h144)]; done), rfl⟩
  by_cases s1_9 : nI c = nI 124
  · skip
    refine Zs_sw [(nI 37, 177), (nI 38, 106), (nI 42, 161), (nI 43, 153), (nI 45, 157), (nI 47, 165), (nI 60, 120), (nI 61, 131), (nI 62, 142), (nI 124, 92)] 189 hX (by decide +kernel) (by decide +kernel) (t := 92) ((if_neg s1_0).trans ((if_neg s1_1).trans ((if_neg s1_2).trans ((if_neg s1_3).trans ((if_neg s1_4).trans ((if_neg s1_5).trans ((if_neg s1_6).trans ((if_neg s1_7).trans ((if_neg s1_8).trans (if_pos s1_9)))))))))) ?_
    obtain rfl : c = 124 := Zeq (by omega) (by decide) s1_9
    refine Zgo hX 1 rfl (by first | exact True.intro | (dsimp only [ZallP]; and_intros <;> (first | decide | ((try simp only [pk_mul, nI_add]); exact Zin_n (by omega) (by decide))))) ?_
    refine Zs_ne hX (List.cons_ne_nil _ _) (fun h93 => ?_) (fun h93 => ?_)
    · skip
      refine Zgo hX 2 rfl (by first | exact True.intro | (dsimp only [ZallP]; and_intros <;> (first | decide | ((try simp only [pk_mul, nI_add]); exact Zin_n (by omega) (by decide))))) ?_
      refine Zs_ret hX hE rfl ⟨by show some (Value.int _) = some (Value.int (if ¬ x = 0 ∨ ¬ y = 0 then nI 1 else nI 0)); first | (rw [if_pos (Or.inl h93)]; done) | (rw [if_pos (Or.inr h97)]; done) | (rw [if_neg (fun q => q.elim (fun z => z h93) (fun z => z h97))]; done), rfl⟩
    · skip
      refine Zgo hX 1 rfl (by first | exact True.intro | (dsimp only [ZallP]; and_intros <;> (first | decide | ((try simp only [pk_mul, nI_add]); exact Zin_n (by omega) (by decide))))) ?_
      refine Zs_eq hX (List.cons_ne_nil _ _) (fun h97 => ?_) (fun h97 => ?_)
      · skip
        refine Zgo hX 1 rfl (by first | exact True.intro | (dsimp only [ZallP]; and_intros <;> (first | decide | ((try simp only [pk_mul, nI_add]); exact Zin_n (by omega) (by decide))))) ?_
        refine Zs_ret hX hE rfl ⟨by show some (Value.int _) = some (Value.int (if ¬ x = 0 ∨ ¬ y = 0 then nI 1 else nI 0)); first | (rw [if_pos (Or.inl h93)]; done) | (rw [if_pos (Or.inr h97)]; done) | (rw [if_neg (fun q => q.elim (fun z => z h93) (fun z => z h97))]; done), rfl⟩
      · skip
        refine Zgo hX 2 rfl (by first | exact True.intro | (dsimp only [ZallP]; and_intros <;> (first | decide | ((try simp only [pk_mul, nI_add]); exact Zin_n (by omega) (by decide))))) ?_
        refine Zs_ret hX hE rfl ⟨by show some (Value.int _) = some (Value.int (if ¬ x = 0 ∨ ¬ y = 0 then nI 1 else nI 0)); first | (rw [if_pos (Or.inl h93)]; done) | (rw [if_pos (Or.inr h97)]; done) | (rw [if_neg (fun q => q.elim (fun z => z h93) (fun z => z h97))]; done), rfl⟩
  have z1_0 : c ≠ 37 := Zne (by omega) (by decide) s1_0
  have z1_1 : c ≠ 38 := Zne (by omega) (by decide) s1_1
  have z1_2 : c ≠ 42 := Zne (by omega) (by decide) s1_2
  have z1_3 : c ≠ 43 := Zne (by omega) (by decide) s1_3
  have z1_4 : c ≠ 45 := Zne (by omega) (by decide) s1_4
  have z1_5 : c ≠ 47 := Zne (by omega) (by decide) s1_5
  have z1_6 : c ≠ 60 := Zne (by omega) (by decide) s1_6
  have z1_7 : c ≠ 61 := Zne (by omega) (by decide) s1_7
  have z1_8 : c ≠ 62 := Zne (by omega) (by decide) s1_8
  have z1_9 : c ≠ 124 := Zne (by omega) (by decide) s1_9
  exfalso
  unfold Zsg at hsg; omega

set_option maxRecDepth 20000 in
theorem k_push11 (v : Int32) (d : Nat) (M : Zmem) (hd : M 11 4 = nI d) (hlt : d < 60) : ZC 187 0 [.ref 11, .int v] M (fun r M' => r = none ∧ Zu (Zu M 13 d v) 11 4 (nI (d + 1)) = M') := by
  refine ZC_of Zt187 Zk187 (Nat.le_of_ble_eq_true rfl) (by decide) rfl (fun X hX hE => ?_)
  refine Zgo hX 5 rfl (by first | exact True.intro | (dsimp only [ZallP]; and_intros <;> (first | decide | ((try simp only [pk_mul, nI_add]); exact Zin_n (by omega) (by decide))))) ?_
  rw [hd]
  refine Zs_ige hX (List.cons_ne_nil _ _) (fun h9 => (absurd ((Zn_le (by decide) (by omega)).mp h9) (by omega))) (fun h9 => ?_)
  refine Zgo hX 12 rfl (by show vp_in _ _; rw [hd]; exact Zin_n hlt (by decide)) ?_
  refine Zs_retv hX hE rfl ⟨rfl, ?_⟩
  rw [show M 11 4 = nI d from hd, Zcl_n (by omega)]
  rw [show (Zu M 13 d v) 11 4 = nI d from hd, nI_add]

set_option maxRecDepth 20000 in
theorem k_pop11 (d : Nat) (M : Zmem) (hd : M 11 4 = nI (d + 1)) (hlt : d < 60) : ZC 188 0 [.ref 11] M (fun r M' => r = some (.int (M 13 d)) ∧ Zu M 11 4 (nI d) = M') := by
  refine ZC_of Zt188 Zk188 (Nat.le_of_ble_eq_true rfl) (by decide) rfl (fun X hX hE => ?_)
  refine Zgo hX 2 rfl (by first | exact True.intro | (dsimp only [ZallP]; and_intros <;> (first | decide | ((try simp only [pk_mul, nI_add]); exact Zin_n (by omega) (by decide))))) ?_
  rw [hd]
  refine Zs_gt hX (List.cons_ne_nil _ _) (fun h4 => ?_) (fun h4 => (absurd (show (0 : Int32) < nI (d + 1) by rw [← Zn0]; exact (Zn_lt (by decide) (by omega)).mpr (by omega)) h4))
  refine Zgo hX 11 rfl ?_ ?_
  · rw [show M 11 4 = nI (d + 1) from hd, pk_sub (by omega)]
    show vp_in ((Zu M 11 4 (nI (d + 1 - 1))) 11 4) 60
    rw [Zu_k, if_pos ⟨rfl, rfl⟩]
    exact Zin_n (by omega) (by decide)
  rw [show M 11 4 = nI (d + 1) from hd, pk_sub (by omega), show d + 1 - 1 = d by omega]
  rw [show (Zu M 11 4 (nI d)) 11 4 = nI d by rw [Zu_k, if_pos ⟨rfl, rfl⟩], Zcl_n (by omega)]
  refine Zs_ret hX hE rfl ⟨rfl, rfl⟩

set_option maxRecDepth 20000 in
theorem k_push14 (v : Int32) (d : Nat) (M : Zmem) (hd : M 14 4 = nI d) (hlt : d < 60) : ZC 187 0 [.ref 14, .int v] M (fun r M' => r = none ∧ Zu (Zu M 16 d v) 14 4 (nI (d + 1)) = M') := by
  refine ZC_of Zt187 Zk187 (Nat.le_of_ble_eq_true rfl) (by decide) rfl (fun X hX hE => ?_)
  refine Zgo hX 5 rfl (by first | exact True.intro | (dsimp only [ZallP]; and_intros <;> (first | decide | ((try simp only [pk_mul, nI_add]); exact Zin_n (by omega) (by decide))))) ?_
  rw [hd]
  refine Zs_ige hX (List.cons_ne_nil _ _) (fun h9 => (absurd ((Zn_le (by decide) (by omega)).mp h9) (by omega))) (fun h9 => ?_)
  refine Zgo hX 12 rfl (by show vp_in _ _; rw [hd]; exact Zin_n hlt (by decide)) ?_
  refine Zs_retv hX hE rfl ⟨rfl, ?_⟩
  rw [show M 14 4 = nI d from hd, Zcl_n (by omega)]
  rw [show (Zu M 16 d v) 14 4 = nI d from hd, nI_add]

set_option maxRecDepth 20000 in
theorem k_pop14 (d : Nat) (M : Zmem) (hd : M 14 4 = nI (d + 1)) (hlt : d < 60) : ZC 188 0 [.ref 14] M (fun r M' => r = some (.int (M 16 d)) ∧ Zu M 14 4 (nI d) = M') := by
  refine ZC_of Zt188 Zk188 (Nat.le_of_ble_eq_true rfl) (by decide) rfl (fun X hX hE => ?_)
  refine Zgo hX 2 rfl (by first | exact True.intro | (dsimp only [ZallP]; and_intros <;> (first | decide | ((try simp only [pk_mul, nI_add]); exact Zin_n (by omega) (by decide))))) ?_
  rw [hd]
  refine Zs_gt hX (List.cons_ne_nil _ _) (fun h4 => ?_) (fun h4 => (absurd (show (0 : Int32) < nI (d + 1) by rw [← Zn0]; exact (Zn_lt (by decide) (by omega)).mpr (by omega)) h4))
  refine Zgo hX 11 rfl ?_ ?_
  · rw [show M 14 4 = nI (d + 1) from hd, pk_sub (by omega)]
    show vp_in ((Zu M 14 4 (nI (d + 1 - 1))) 14 4) 60
    rw [Zu_k, if_pos ⟨rfl, rfl⟩]
    exact Zin_n (by omega) (by decide)
  rw [show M 14 4 = nI (d + 1) from hd, pk_sub (by omega), show d + 1 - 1 = d by omega]
  rw [show (Zu M 14 4 (nI d)) 14 4 = nI d by rw [Zu_k, if_pos ⟨rfl, rfl⟩], Zcl_n (by omega)]
  refine Zs_ret hX hE rfl ⟨rfl, rfl⟩

set_option maxRecDepth 20000 in
set_option maxHeartbeats 1000000 in
theorem k_worked11 (n : Nat) (f : Nat → Zitm) (nm : Int32 → Int32) (a b c : Int32) (M : Zmem) (hn : M 11 2 = nI n) (hn2 : n ≤ 60) (hw : Zwf 0 f n 1) (hc : ∀ i, i < n → Zen 0 (f i) (M 12 i)) (hab : Zab 0 nm a b c) : ZC 186 1 [.ref 11, .int a, .int b, .int c] M (fun r M' => r = some (.int (Ztop (Zev nm f n))) ∧ Sc M M') := by
  refine ZC_of Zt186 Zk186 (Nat.le_of_ble_eq_true rfl) (by decide) rfl (fun X hX hE => ?_)
  have hM2 : ∀ {M1 : Zmem}, Sc M M1 → M1 11 2 = nI n := fun h => (h 11 2 rfl).trans hn
  have hMc : ∀ {M1 : Zmem}, Sc M M1 → ∀ j, M1 12 j = M 12 j := fun h j => h 12 j rfl
  have L : ∀ (q i d : Nat) (M1 : Zmem), n - i < q → i ≤ n → Sc M M1 → Zwf 0 f i d → M1 11 4 = nI d → Zpl (M1 13) (Zev nm f i) → ZP X Zt186 (Zsf Zt186 8) [(0, .ref 11), (1, .int a), (2, .int b), (3, .int c), (4, .int (nI i))] [] M1 := by
    intro q
    induction q with
    | zero => intro i d M1 hq; exact absurd hq (Nat.not_lt_zero _)
    | succ q ih =>
      intro i d M1 hq hi hsc hwf htop hpl
      have hln : (Zev nm f i).length = d := Zwf_len nm hwf
      have hdi : d ≤ i := Zwf_le hwf
      refine Zgo hX 3 rfl (by first | exact True.intro | (dsimp only [ZallP]; and_intros <;> (first | decide | ((try simp only [pk_mul, nI_add]); exact Zin_n (by omega) (by decide))))) ?_
      rw [hM2 hsc]
      refine Zs_ige hX (List.cons_ne_nil _ _) (fun h14 => ?_) (fun h14 => ?_)
      · skip
        obtain rfl : i = n := by have := (Zn_le (by omega) (by omega)).mp h14; omega
        obtain rfl : d = 1 := Zwf_un hwf hw
        refine Zgo hX 1 rfl (by first | exact True.intro | (dsimp only [ZallP]; and_intros <;> (first | decide | ((try simp only [pk_mul, nI_add]); exact Zin_n (by omega) (by decide))))) ?_
        obtain ⟨y, r, hL⟩ : ∃ y r, Zev nm f i = y :: r := by
          cases hq0 : Zev nm f i with
          | nil => rw [hq0] at hln; simp at hln
          | cons y r => exact ⟨y, r, rfl⟩
        rw [hL] at hpl hln
        have hlr : r.length = 0 := by simpa using hln
        refine Zs_callv hX (List.cons_ne_nil _ _) (k_pop11 0 _ htop (by decide)) (by decide) (by decide) rfl rfl rfl (by decide) (Nat.le_of_ble_eq_true rfl) (fun r M' hc => ?_)
        obtain ⟨rfl, rfl⟩ := hc
        obtain ⟨ey, hscP, -, -⟩ := Zpop_ok (t := 11) (by decide) hsc hpl hlr
        rw [show M1 13 0 = y from ey]
        refine Zs_ret hX hE rfl ⟨by rw [hL]; rfl, hscP⟩
      · skip
        have hlt : i < n := (Nat.lt_or_ge i n).elim id (fun h => absurd ((Zn_le (by omega) (by omega)).mpr h) h14)
        refine Zgo hX 6 rfl (Zin_n (by omega) (by decide)) ?_
        rw [Zcl_n (show i < 2 ^ 31 by omega), hMc hsc i]
        generalize hx : M 12 i = x
        have hen : Zen 0 (f i) x := by rw [← hx]; exact hc _ hlt
        obtain ⟨dn, hwn⟩ := Zwf_pre hw (i + 1) (by omega)
        have hvi := Zvi_of hwn
        obtain ⟨d9, hw9, hor⟩ := hwn
        obtain rfl : d9 = d := Zwf_un hw9 hwf
        refine Zs_lt hX (List.cons_ne_nil _ _) (fun h28 => ?_) (fun h28 => ?_)
        · skip
          refine Zgo hX 2 rfl (by first | exact True.intro | (dsimp only [ZallP]; and_intros <;> (first | decide | ((try simp only [pk_mul, nI_add]); exact Zin_n (by omega) (by decide))))) ?_
          refine Zs_ilt hX (List.cons_ne_nil _ _) (fun h44 => ?_) (fun h44 => ?_)
          · skip
            refine Zgo hX 2 rfl (by first | exact True.intro | (dsimp only [ZallP]; and_intros <;> (first | decide | ((try simp only [pk_mul, nI_add]); exact Zin_n (by omega) (by decide))))) ?_
            refine Zs_ine hX (List.cons_ne_nil _ _) (fun h80 => ?_) (fun h80 => ?_)
            · skip
              obtain ⟨e1, c0, hc0, e2, rfl⟩ := Zen_3 hen hvi h44 h80
              have hc1 := Zsg_lt hc0
              refine Zgo hX 1 rfl (by first | exact True.intro | (dsimp only [ZallP]; and_intros <;> (first | decide | ((try simp only [pk_mul, nI_add]); exact Zin_n (by omega) (by decide))))) ?_
              obtain ⟨y, x, r, hL⟩ : ∃ y x r, Zev nm f i = y :: x :: r := by
                have h2 : 2 ≤ d9 := by
                  rcases hor with ⟨z, -⟩ | ⟨z, -⟩ | ⟨z, -⟩ | ⟨-, -, h2, -⟩
                  all_goals first | exact h2 | (rw [e1] at z; exact absurd z (by decide))
                match hq0 : Zev nm f i with
                | [] => rw [hq0] at hln; simp at hln; omega
                | [z] => rw [hq0] at hln; simp at hln; omega
                | y :: x :: r => exact ⟨y, x, r, rfl⟩
              rw [hL] at hpl hln
              obtain ⟨d8, rfl⟩ : ∃ d8, d9 = d8 + 1 + 1 := ⟨r.length, by simp at hln; omega⟩
              have hlr : r.length = d8 := by simp at hln; omega
              refine Zs_callv hX (List.cons_ne_nil _ _) (k_pop11 (d8 + 1) _ htop (by omega)) (by decide) (by decide) rfl rfl rfl (by decide) (Nat.le_of_ble_eq_true rfl) (fun r M' hc => ?_)
              obtain ⟨rfl, rfl⟩ := hc
              obtain ⟨ey, hscP, htopP, hplP⟩ := Zpop_ok (t := 11) (d := d8 + 1) (by decide) hsc hpl (by simp; omega)
              have ey : M1 13 (d8 + 1) = y := ey
              rw [ey]
              refine Zgo hX 2 rfl (by first | exact True.intro | (dsimp only [ZallP]; and_intros <;> (first | decide | ((try simp only [pk_mul, nI_add]); exact Zin_n (by omega) (by decide))))) ?_
              refine Zs_callv hX (List.cons_ne_nil _ _) (k_pop11 d8 _ htopP (by omega)) (by decide) (by decide) rfl rfl rfl (by decide) (Nat.le_of_ble_eq_true rfl) (fun r M' hc => ?_)
              obtain ⟨rfl, rfl⟩ := hc
              obtain ⟨ex, hscQ, htopQ, hplQ⟩ := Zpop_ok (t := 11) (by decide) hscP hplP hlr
              rw [show (Zu M1 11 4 (nI (d8 + 1))) 13 d8 = x from ex]
              refine Zgo hX 6 rfl (by first | exact True.intro | (dsimp only [ZallP]; and_intros <;> (first | decide | ((try simp only [pk_mul, nI_add]); exact Zin_n (by omega) (by decide))))) ?_
              rw [Int32.neg_neg]
              refine Zs_calls hX (List.cons_ne_nil _ _) (by decide) (k_joined c0 _ _ _ hc0) (by decide) rfl rfl (by decide) (Nat.le_of_ble_eq_true rfl) (fun r M' hc => ?_)
              obtain ⟨rfl, rfl⟩ := hc
              refine Zs_callv hX (List.cons_ne_nil _ _) (k_push11 _ d8 _ htopQ (by omega)) (by decide) (by decide) rfl rfl rfl (by decide) (Nat.le_of_ble_eq_true rfl) (fun r M' hc => ?_)
              obtain ⟨rfl, rfl⟩ := hc
              obtain ⟨hsc3, htop3, hpl3⟩ := Zpush_ok (Zjn c0 x y) (t := 11) (by decide) hscQ hplQ hlr
              have hev : Zev nm f (i + 1) = Zjn c0 x y :: r := by simp only [Zev, Zit, e1, hL, e2, if_neg (show ¬ nI 3 = nI 0 by decide), if_neg (show ¬ nI 3 = nI 1 by decide), if_neg (show ¬ nI 3 = nI 2 by decide), Zcl_n (show c0 < 2 ^ 31 by omega)]
              rw [← hev] at hpl3
              have hwf3 : Zwf 0 f (i + 1) (d8 + 1) := ⟨d8 + 1 + 1, hwf, Or.inr (Or.inr (Or.inr ⟨e1, ⟨c0, hc0, e2⟩, by omega, rfl⟩))⟩
              refine Zgo hX 2 rfl (by first | exact True.intro | (dsimp only [ZallP]; and_intros <;> (first | decide | ((try simp only [pk_mul, nI_add]); exact Zin_n (by omega) (by decide))))) ?_
              refine Zs_sub (l' := [(0, .ref 11), (1, .int a), (2, .int b), (3, .int c), (4, .int (nI i + nI 1))]) rfl ?_
              rw [nI_add]
              exact ih (i + 1) _ _ (by omega) (by omega) hsc3 hwf3 htop3 hpl3
            · skip
              have e1 := Zen_2 hen hvi h80
              obtain ⟨y, r, hL⟩ : ∃ y r, Zev nm f i = y :: r := by
                cases hq0 : Zev nm f i with
                | nil => rw [hq0] at hln; rcases hor with ⟨z, -⟩ | ⟨z, -⟩ | ⟨-, h1, -⟩ | ⟨z, -⟩
                         all_goals first | (rw [e1] at z; exact absurd z (by decide)) | (simp at hln; omega)
                | cons y r => exact ⟨y, r, rfl⟩
              rw [hL] at hpl hln
              obtain ⟨d8, rfl⟩ : ∃ d8, d9 = d8 + 1 := ⟨r.length, by simp at hln; omega⟩
              have hlr : r.length = d8 := by simp at hln; omega
              refine Zgo hX 2 rfl (by first | exact True.intro | (dsimp only [ZallP]; and_intros <;> (first | decide | ((try simp only [pk_mul, nI_add]); exact Zin_n (by omega) (by decide))))) ?_
              refine Zs_callv hX (List.cons_ne_nil _ _) (k_pop11 d8 _ htop (by omega)) (by decide) (by decide) rfl rfl rfl (by decide) (Nat.le_of_ble_eq_true rfl) (fun r M' hc => ?_)
              obtain ⟨rfl, rfl⟩ := hc
              obtain ⟨ey, hscP, htopP, hplP⟩ := Zpop_ok (t := 11) (by decide) hsc hpl hlr
              have ey : M1 13 d8 = y := ey
              rw [ey]
              refine Zs_ne hX (List.cons_ne_nil _ _) (fun h88 => ?_) (fun h88 => ?_)
              · skip
                refine Zgo hX 1 rfl (by first | exact True.intro | (dsimp only [ZallP]; and_intros <;> (first | decide | ((try simp only [pk_mul, nI_add]); exact Zin_n (by omega) (by decide))))) ?_
                have hv : (if y = 0 then nI 1 else nI 0) = nI 0 := if_neg h88
                refine Zs_callv hX (List.cons_ne_nil _ _) (k_push11 _ d8 _ htopP (by omega)) (by decide) (by decide) rfl rfl rfl (by decide) (Nat.le_of_ble_eq_true rfl) (fun r M' hc => ?_)
                obtain ⟨rfl, rfl⟩ := hc
                obtain ⟨hsc3, htop3, hpl3⟩ := Zpush_ok (if y = 0 then nI 1 else nI 0) (t := 11) (by decide) hscP hplP hlr
                rw [hv] at hsc3 htop3
                have hev : Zev nm f (i + 1) = (if y = 0 then nI 1 else nI 0) :: r := by simp only [Zev, Zit, e1, hL, if_neg (show ¬ nI 2 = nI 0 by decide), if_neg (show ¬ nI 2 = nI 1 by decide), if_true]
                rw [← hev, hv] at hpl3
                have hwf3 : Zwf 0 f (i + 1) (d8 + 1) := ⟨d8 + 1, hwf, Or.inr (Or.inr (Or.inl ⟨e1, by omega, rfl⟩))⟩
                refine Zgo hX 3 rfl (by first | exact True.intro | (dsimp only [ZallP]; and_intros <;> (first | decide | ((try simp only [pk_mul, nI_add]); exact Zin_n (by omega) (by decide))))) ?_
                refine Zs_sub (l' := [(0, .ref 11), (1, .int a), (2, .int b), (3, .int c), (4, .int (nI i + nI 1))]) rfl ?_
                rw [nI_add]
                exact ih (i + 1) _ _ (by omega) (by omega) hsc3 hwf3 htop3 hpl3
              · skip
                refine Zgo hX 2 rfl (by first | exact True.intro | (dsimp only [ZallP]; and_intros <;> (first | decide | ((try simp only [pk_mul, nI_add]); exact Zin_n (by omega) (by decide))))) ?_
                have hv : (if y = 0 then nI 1 else nI 0) = nI 1 := if_pos h88
                refine Zs_callv hX (List.cons_ne_nil _ _) (k_push11 _ d8 _ htopP (by omega)) (by decide) (by decide) rfl rfl rfl (by decide) (Nat.le_of_ble_eq_true rfl) (fun r M' hc => ?_)
                obtain ⟨rfl, rfl⟩ := hc
                obtain ⟨hsc3, htop3, hpl3⟩ := Zpush_ok (if y = 0 then nI 1 else nI 0) (t := 11) (by decide) hscP hplP hlr
                rw [hv] at hsc3 htop3
                have hev : Zev nm f (i + 1) = (if y = 0 then nI 1 else nI 0) :: r := by simp only [Zev, Zit, e1, hL, if_neg (show ¬ nI 2 = nI 0 by decide), if_neg (show ¬ nI 2 = nI 1 by decide), if_true]
                rw [← hev, hv] at hpl3
                have hwf3 : Zwf 0 f (i + 1) (d8 + 1) := ⟨d8 + 1, hwf, Or.inr (Or.inr (Or.inl ⟨e1, by omega, rfl⟩))⟩
                refine Zgo hX 3 rfl (by first | exact True.intro | (dsimp only [ZallP]; and_intros <;> (first | decide | ((try simp only [pk_mul, nI_add]); exact Zin_n (by omega) (by decide))))) ?_
                refine Zs_sub (l' := [(0, .ref 11), (1, .int a), (2, .int b), (3, .int c), (4, .int (nI i + nI 1))]) rfl ?_
                rw [nI_add]
                exact ih (i + 1) _ _ (by omega) (by omega) hsc3 hwf3 htop3 hpl3
          · skip
            obtain ⟨e1, c0, hc0, e2, rfl⟩ := Zen_1 hen hvi h28 h44
            refine Zgo hX 3 rfl (by first | exact True.intro | (dsimp only [ZallP]; and_intros <;> (first | decide | ((try simp only [pk_mul, nI_add]); exact Zin_n (by omega) (by decide))))) ?_
            refine Zs_ine hX (List.cons_ne_nil _ _) (fun h51 => ?_) (fun h51 => ?_)
            · skip
              refine Zgo hX 2 rfl (by first | exact True.intro | (dsimp only [ZallP]; and_intros <;> (first | decide | ((try simp only [pk_mul, nI_add]); exact Zin_n (by omega) (by decide))))) ?_
              refine Zs_ine hX (List.cons_ne_nil _ _) (fun h62 => ?_) (fun h62 => ?_)
              · skip
                refine Zgo hX 1 rfl (by first | exact True.intro | (dsimp only [ZallP]; and_intros <;> (first | decide | ((try simp only [pk_mul, nI_add]); exact Zin_n (by omega) (by decide))))) ?_
                have hv : nm (nI c0) = c := by rw [hab c0 hc0, show Zpn 0 c0 = 2 by have h1 := Zpn_lt 0 c0; have h2 : 1 + Zpn 0 c0 ≠ 1 := fun q => h51 (by rw [q]); have h3 : 1 + Zpn 0 c0 ≠ 2 := fun q => h62 (by rw [q]); omega]; rfl
                refine Zs_callv hX (List.cons_ne_nil _ _) (k_push11 _ d9 _ htop (by omega)) (by decide) (by decide) rfl rfl rfl (by decide) (Nat.le_of_ble_eq_true rfl) (fun r M' hc => ?_)
                obtain ⟨rfl, rfl⟩ := hc
                obtain ⟨hsc3, htop3, hpl3⟩ := Zpush_ok (nm (nI c0)) (t := 11) (by decide) hsc hpl hln
                rw [hv] at hsc3 htop3
                have hev : Zev nm f (i + 1) = nm (nI c0) :: Zev nm f i := by simp only [Zev, Zit, e1, if_neg (show ¬ nI 1 = nI 0 by decide), if_true, e2]
                rw [← hev, hv] at hpl3
                have hwf3 : Zwf 0 f (i + 1) (d9 + 1) := ⟨d9, hwf, Or.inr (Or.inl ⟨e1, ⟨c0, hc0, e2⟩, rfl⟩)⟩
                refine Zgo hX 3 rfl (by first | exact True.intro | (dsimp only [ZallP]; and_intros <;> (first | decide | ((try simp only [pk_mul, nI_add]); exact Zin_n (by omega) (by decide))))) ?_
                refine Zs_sub (l' := [(0, .ref 11), (1, .int a), (2, .int b), (3, .int c), (4, .int (nI i + nI 1))]) rfl ?_
                rw [nI_add]
                exact ih (i + 1) _ _ (by omega) (by omega) hsc3 hwf3 htop3 hpl3
              · skip
                refine Zgo hX 2 rfl (by first | exact True.intro | (dsimp only [ZallP]; and_intros <;> (first | decide | ((try simp only [pk_mul, nI_add]); exact Zin_n (by omega) (by decide))))) ?_
                have hv : nm (nI c0) = b := by rw [hab c0 hc0, show Zpn 0 c0 = 1 by have h1 := Zpn_lt 0 c0; have h2 := Zneg_eq (by omega) (by decide) h62; omega]; rfl
                refine Zs_callv hX (List.cons_ne_nil _ _) (k_push11 _ d9 _ htop (by omega)) (by decide) (by decide) rfl rfl rfl (by decide) (Nat.le_of_ble_eq_true rfl) (fun r M' hc => ?_)
                obtain ⟨rfl, rfl⟩ := hc
                obtain ⟨hsc3, htop3, hpl3⟩ := Zpush_ok (nm (nI c0)) (t := 11) (by decide) hsc hpl hln
                rw [hv] at hsc3 htop3
                have hev : Zev nm f (i + 1) = nm (nI c0) :: Zev nm f i := by simp only [Zev, Zit, e1, if_neg (show ¬ nI 1 = nI 0 by decide), if_true, e2]
                rw [← hev, hv] at hpl3
                have hwf3 : Zwf 0 f (i + 1) (d9 + 1) := ⟨d9, hwf, Or.inr (Or.inl ⟨e1, ⟨c0, hc0, e2⟩, rfl⟩)⟩
                refine Zgo hX 3 rfl (by first | exact True.intro | (dsimp only [ZallP]; and_intros <;> (first | decide | ((try simp only [pk_mul, nI_add]); exact Zin_n (by omega) (by decide))))) ?_
                refine Zs_sub (l' := [(0, .ref 11), (1, .int a), (2, .int b), (3, .int c), (4, .int (nI i + nI 1))]) rfl ?_
                rw [nI_add]
                exact ih (i + 1) _ _ (by omega) (by omega) hsc3 hwf3 htop3 hpl3
            · skip
              refine Zgo hX 2 rfl (by first | exact True.intro | (dsimp only [ZallP]; and_intros <;> (first | decide | ((try simp only [pk_mul, nI_add]); exact Zin_n (by omega) (by decide))))) ?_
              have hv : nm (nI c0) = a := by rw [hab c0 hc0, show Zpn 0 c0 = 0 by have h1 := Zpn_lt 0 c0; have h2 := Zneg_eq (by omega) (by decide) h51; omega]; rfl
              refine Zs_callv hX (List.cons_ne_nil _ _) (k_push11 _ d9 _ htop (by omega)) (by decide) (by decide) rfl rfl rfl (by decide) (Nat.le_of_ble_eq_true rfl) (fun r M' hc => ?_)
              obtain ⟨rfl, rfl⟩ := hc
              obtain ⟨hsc3, htop3, hpl3⟩ := Zpush_ok (nm (nI c0)) (t := 11) (by decide) hsc hpl hln
              rw [hv] at hsc3 htop3
              have hev : Zev nm f (i + 1) = nm (nI c0) :: Zev nm f i := by simp only [Zev, Zit, e1, if_neg (show ¬ nI 1 = nI 0 by decide), if_true, e2]
              rw [← hev, hv] at hpl3
              have hwf3 : Zwf 0 f (i + 1) (d9 + 1) := ⟨d9, hwf, Or.inr (Or.inl ⟨e1, ⟨c0, hc0, e2⟩, rfl⟩)⟩
              refine Zgo hX 3 rfl (by first | exact True.intro | (dsimp only [ZallP]; and_intros <;> (first | decide | ((try simp only [pk_mul, nI_add]); exact Zin_n (by omega) (by decide))))) ?_
              refine Zs_sub (l' := [(0, .ref 11), (1, .int a), (2, .int b), (3, .int c), (4, .int (nI i + nI 1))]) rfl ?_
              rw [nI_add]
              exact ih (i + 1) _ _ (by omega) (by omega) hsc3 hwf3 htop3 hpl3
        · skip
          obtain ⟨e1, e2⟩ := Zen_0 hen hvi h28
          refine Zgo hX 2 rfl (by first | exact True.intro | (dsimp only [ZallP]; and_intros <;> (first | decide | ((try simp only [pk_mul, nI_add]); exact Zin_n (by omega) (by decide))))) ?_
          refine Zs_callv hX (List.cons_ne_nil _ _) (k_push11 _ d9 _ htop (by omega)) (by decide) (by decide) rfl rfl rfl (by decide) (Nat.le_of_ble_eq_true rfl) (fun r M' hc => ?_)
          obtain ⟨rfl, rfl⟩ := hc
          obtain ⟨hsc3, htop3, hpl3⟩ := Zpush_ok x (t := 11) (by decide) hsc hpl hln
          have hev : Zev nm f (i + 1) = x :: Zev nm f i := by simp only [Zev, Zit, e1, if_true, e2]
          rw [← hev] at hpl3
          have hwf3 : Zwf 0 f (i + 1) (d9 + 1) := ⟨d9, hwf, Or.inl ⟨e1, (hvi.resolve_right (fun z => by rcases z with ⟨z, -⟩ | z | ⟨z, -⟩ <;> rw [e1] at z <;> exact absurd z (by decide))).2, rfl⟩⟩
          refine Zgo hX 3 rfl (by first | exact True.intro | (dsimp only [ZallP]; and_intros <;> (first | decide | ((try simp only [pk_mul, nI_add]); exact Zin_n (by omega) (by decide))))) ?_
          refine Zs_sub (l' := [(0, .ref 11), (1, .int a), (2, .int b), (3, .int c), (4, .int (nI i + nI 1))]) rfl ?_
          rw [nI_add]
          exact ih (i + 1) _ _ (by omega) (by omega) hsc3 hwf3 htop3 hpl3
  refine Zgo hX 5 rfl True.intro ?_
  refine Zs_sub (l' := [(0, .ref 11), (1, .int a), (2, .int b), (3, .int c), (4, .int (nI 0))]) rfl ?_
  exact L (n + 1) 0 0 _ (by omega) (by omega) ((Sc.rf M).u _ rfl) rfl (by rw [Zu_k, if_pos ⟨rfl, rfl⟩]) True.intro

set_option maxRecDepth 20000 in
set_option maxHeartbeats 1000000 in
theorem k_worked14 (n : Nat) (f : Nat → Zitm) (nm : Int32 → Int32) (a b c : Int32) (M : Zmem) (hn : M 14 2 = nI n) (hn2 : n ≤ 60) (hw : Zwf 1 f n 1) (hc : ∀ i, i < n → Zen 1 (f i) (M 15 i)) (hab : Zab 1 nm a b c) : ZC 186 1 [.ref 14, .int a, .int b, .int c] M (fun r M' => r = some (.int (Ztop (Zev nm f n))) ∧ Sc M M') := by
  refine ZC_of Zt186 Zk186 (Nat.le_of_ble_eq_true rfl) (by decide) rfl (fun X hX hE => ?_)
  have hM2 : ∀ {M1 : Zmem}, Sc M M1 → M1 14 2 = nI n := fun h => (h 14 2 rfl).trans hn
  have hMc : ∀ {M1 : Zmem}, Sc M M1 → ∀ j, M1 15 j = M 15 j := fun h j => h 15 j rfl
  have L : ∀ (q i d : Nat) (M1 : Zmem), n - i < q → i ≤ n → Sc M M1 → Zwf 1 f i d → M1 14 4 = nI d → Zpl (M1 16) (Zev nm f i) → ZP X Zt186 (Zsf Zt186 8) [(0, .ref 14), (1, .int a), (2, .int b), (3, .int c), (4, .int (nI i))] [] M1 := by
    intro q
    induction q with
    | zero => intro i d M1 hq; exact absurd hq (Nat.not_lt_zero _)
    | succ q ih =>
      intro i d M1 hq hi hsc hwf htop hpl
      have hln : (Zev nm f i).length = d := Zwf_len nm hwf
      have hdi : d ≤ i := Zwf_le hwf
      refine Zgo hX 3 rfl (by first | exact True.intro | (dsimp only [ZallP]; and_intros <;> (first | decide | ((try simp only [pk_mul, nI_add]); exact Zin_n (by omega) (by decide))))) ?_
      rw [hM2 hsc]
      refine Zs_ige hX (List.cons_ne_nil _ _) (fun h14 => ?_) (fun h14 => ?_)
      · skip
        obtain rfl : i = n := by have := (Zn_le (by omega) (by omega)).mp h14; omega
        obtain rfl : d = 1 := Zwf_un hwf hw
        refine Zgo hX 1 rfl (by first | exact True.intro | (dsimp only [ZallP]; and_intros <;> (first | decide | ((try simp only [pk_mul, nI_add]); exact Zin_n (by omega) (by decide))))) ?_
        obtain ⟨y, r, hL⟩ : ∃ y r, Zev nm f i = y :: r := by
          cases hq0 : Zev nm f i with
          | nil => rw [hq0] at hln; simp at hln
          | cons y r => exact ⟨y, r, rfl⟩
        rw [hL] at hpl hln
        have hlr : r.length = 0 := by simpa using hln
        refine Zs_callv hX (List.cons_ne_nil _ _) (k_pop14 0 _ htop (by decide)) (by decide) (by decide) rfl rfl rfl (by decide) (Nat.le_of_ble_eq_true rfl) (fun r M' hc => ?_)
        obtain ⟨rfl, rfl⟩ := hc
        obtain ⟨ey, hscP, -, -⟩ := Zpop_ok (t := 14) (by decide) hsc hpl hlr
        rw [show M1 16 0 = y from ey]
        refine Zs_ret hX hE rfl ⟨by rw [hL]; rfl, hscP⟩
      · skip
        have hlt : i < n := (Nat.lt_or_ge i n).elim id (fun h => absurd ((Zn_le (by omega) (by omega)).mpr h) h14)
        refine Zgo hX 6 rfl (Zin_n (by omega) (by decide)) ?_
        rw [Zcl_n (show i < 2 ^ 31 by omega), hMc hsc i]
        generalize hx : M 15 i = x
        have hen : Zen 1 (f i) x := by rw [← hx]; exact hc _ hlt
        obtain ⟨dn, hwn⟩ := Zwf_pre hw (i + 1) (by omega)
        have hvi := Zvi_of hwn
        obtain ⟨d9, hw9, hor⟩ := hwn
        obtain rfl : d9 = d := Zwf_un hw9 hwf
        refine Zs_lt hX (List.cons_ne_nil _ _) (fun h28 => ?_) (fun h28 => ?_)
        · skip
          refine Zgo hX 2 rfl (by first | exact True.intro | (dsimp only [ZallP]; and_intros <;> (first | decide | ((try simp only [pk_mul, nI_add]); exact Zin_n (by omega) (by decide))))) ?_
          refine Zs_ilt hX (List.cons_ne_nil _ _) (fun h44 => ?_) (fun h44 => ?_)
          · skip
            refine Zgo hX 2 rfl (by first | exact True.intro | (dsimp only [ZallP]; and_intros <;> (first | decide | ((try simp only [pk_mul, nI_add]); exact Zin_n (by omega) (by decide))))) ?_
            refine Zs_ine hX (List.cons_ne_nil _ _) (fun h80 => ?_) (fun h80 => ?_)
            · skip
              obtain ⟨e1, c0, hc0, e2, rfl⟩ := Zen_3 hen hvi h44 h80
              have hc1 := Zsg_lt hc0
              refine Zgo hX 1 rfl (by first | exact True.intro | (dsimp only [ZallP]; and_intros <;> (first | decide | ((try simp only [pk_mul, nI_add]); exact Zin_n (by omega) (by decide))))) ?_
              obtain ⟨y, x, r, hL⟩ : ∃ y x r, Zev nm f i = y :: x :: r := by
                have h2 : 2 ≤ d9 := by
                  rcases hor with ⟨z, -⟩ | ⟨z, -⟩ | ⟨z, -⟩ | ⟨-, -, h2, -⟩
                  all_goals first | exact h2 | (rw [e1] at z; exact absurd z (by decide))
                match hq0 : Zev nm f i with
                | [] => rw [hq0] at hln; simp at hln; omega
                | [z] => rw [hq0] at hln; simp at hln; omega
                | y :: x :: r => exact ⟨y, x, r, rfl⟩
              rw [hL] at hpl hln
              obtain ⟨d8, rfl⟩ : ∃ d8, d9 = d8 + 1 + 1 := ⟨r.length, by simp at hln; omega⟩
              have hlr : r.length = d8 := by simp at hln; omega
              refine Zs_callv hX (List.cons_ne_nil _ _) (k_pop14 (d8 + 1) _ htop (by omega)) (by decide) (by decide) rfl rfl rfl (by decide) (Nat.le_of_ble_eq_true rfl) (fun r M' hc => ?_)
              obtain ⟨rfl, rfl⟩ := hc
              obtain ⟨ey, hscP, htopP, hplP⟩ := Zpop_ok (t := 14) (d := d8 + 1) (by decide) hsc hpl (by simp; omega)
              have ey : M1 16 (d8 + 1) = y := ey
              rw [ey]
              refine Zgo hX 2 rfl (by first | exact True.intro | (dsimp only [ZallP]; and_intros <;> (first | decide | ((try simp only [pk_mul, nI_add]); exact Zin_n (by omega) (by decide))))) ?_
              refine Zs_callv hX (List.cons_ne_nil _ _) (k_pop14 d8 _ htopP (by omega)) (by decide) (by decide) rfl rfl rfl (by decide) (Nat.le_of_ble_eq_true rfl) (fun r M' hc => ?_)
              obtain ⟨rfl, rfl⟩ := hc
              obtain ⟨ex, hscQ, htopQ, hplQ⟩ := Zpop_ok (t := 14) (by decide) hscP hplP hlr
              rw [show (Zu M1 14 4 (nI (d8 + 1))) 16 d8 = x from ex]
              refine Zgo hX 6 rfl (by first | exact True.intro | (dsimp only [ZallP]; and_intros <;> (first | decide | ((try simp only [pk_mul, nI_add]); exact Zin_n (by omega) (by decide))))) ?_
              rw [Int32.neg_neg]
              refine Zs_calls hX (List.cons_ne_nil _ _) (by decide) (k_joined c0 _ _ _ hc0) (by decide) rfl rfl (by decide) (Nat.le_of_ble_eq_true rfl) (fun r M' hc => ?_)
              obtain ⟨rfl, rfl⟩ := hc
              refine Zs_callv hX (List.cons_ne_nil _ _) (k_push14 _ d8 _ htopQ (by omega)) (by decide) (by decide) rfl rfl rfl (by decide) (Nat.le_of_ble_eq_true rfl) (fun r M' hc => ?_)
              obtain ⟨rfl, rfl⟩ := hc
              obtain ⟨hsc3, htop3, hpl3⟩ := Zpush_ok (Zjn c0 x y) (t := 14) (by decide) hscQ hplQ hlr
              have hev : Zev nm f (i + 1) = Zjn c0 x y :: r := by simp only [Zev, Zit, e1, hL, e2, if_neg (show ¬ nI 3 = nI 0 by decide), if_neg (show ¬ nI 3 = nI 1 by decide), if_neg (show ¬ nI 3 = nI 2 by decide), Zcl_n (show c0 < 2 ^ 31 by omega)]
              rw [← hev] at hpl3
              have hwf3 : Zwf 1 f (i + 1) (d8 + 1) := ⟨d8 + 1 + 1, hwf, Or.inr (Or.inr (Or.inr ⟨e1, ⟨c0, hc0, e2⟩, by omega, rfl⟩))⟩
              refine Zgo hX 2 rfl (by first | exact True.intro | (dsimp only [ZallP]; and_intros <;> (first | decide | ((try simp only [pk_mul, nI_add]); exact Zin_n (by omega) (by decide))))) ?_
              refine Zs_sub (l' := [(0, .ref 14), (1, .int a), (2, .int b), (3, .int c), (4, .int (nI i + nI 1))]) rfl ?_
              rw [nI_add]
              exact ih (i + 1) _ _ (by omega) (by omega) hsc3 hwf3 htop3 hpl3
            · skip
              have e1 := Zen_2 hen hvi h80
              obtain ⟨y, r, hL⟩ : ∃ y r, Zev nm f i = y :: r := by
                cases hq0 : Zev nm f i with
                | nil => rw [hq0] at hln; rcases hor with ⟨z, -⟩ | ⟨z, -⟩ | ⟨-, h1, -⟩ | ⟨z, -⟩
                         all_goals first | (rw [e1] at z; exact absurd z (by decide)) | (simp at hln; omega)
                | cons y r => exact ⟨y, r, rfl⟩
              rw [hL] at hpl hln
              obtain ⟨d8, rfl⟩ : ∃ d8, d9 = d8 + 1 := ⟨r.length, by simp at hln; omega⟩
              have hlr : r.length = d8 := by simp at hln; omega
              refine Zgo hX 2 rfl (by first | exact True.intro | (dsimp only [ZallP]; and_intros <;> (first | decide | ((try simp only [pk_mul, nI_add]); exact Zin_n (by omega) (by decide))))) ?_
              refine Zs_callv hX (List.cons_ne_nil _ _) (k_pop14 d8 _ htop (by omega)) (by decide) (by decide) rfl rfl rfl (by decide) (Nat.le_of_ble_eq_true rfl) (fun r M' hc => ?_)
              obtain ⟨rfl, rfl⟩ := hc
              obtain ⟨ey, hscP, htopP, hplP⟩ := Zpop_ok (t := 14) (by decide) hsc hpl hlr
              have ey : M1 16 d8 = y := ey
              rw [ey]
              refine Zs_ne hX (List.cons_ne_nil _ _) (fun h88 => ?_) (fun h88 => ?_)
              · skip
                refine Zgo hX 1 rfl (by first | exact True.intro | (dsimp only [ZallP]; and_intros <;> (first | decide | ((try simp only [pk_mul, nI_add]); exact Zin_n (by omega) (by decide))))) ?_
                have hv : (if y = 0 then nI 1 else nI 0) = nI 0 := if_neg h88
                refine Zs_callv hX (List.cons_ne_nil _ _) (k_push14 _ d8 _ htopP (by omega)) (by decide) (by decide) rfl rfl rfl (by decide) (Nat.le_of_ble_eq_true rfl) (fun r M' hc => ?_)
                obtain ⟨rfl, rfl⟩ := hc
                obtain ⟨hsc3, htop3, hpl3⟩ := Zpush_ok (if y = 0 then nI 1 else nI 0) (t := 14) (by decide) hscP hplP hlr
                rw [hv] at hsc3 htop3
                have hev : Zev nm f (i + 1) = (if y = 0 then nI 1 else nI 0) :: r := by simp only [Zev, Zit, e1, hL, if_neg (show ¬ nI 2 = nI 0 by decide), if_neg (show ¬ nI 2 = nI 1 by decide), if_true]
                rw [← hev, hv] at hpl3
                have hwf3 : Zwf 1 f (i + 1) (d8 + 1) := ⟨d8 + 1, hwf, Or.inr (Or.inr (Or.inl ⟨e1, by omega, rfl⟩))⟩
                refine Zgo hX 3 rfl (by first | exact True.intro | (dsimp only [ZallP]; and_intros <;> (first | decide | ((try simp only [pk_mul, nI_add]); exact Zin_n (by omega) (by decide))))) ?_
                refine Zs_sub (l' := [(0, .ref 14), (1, .int a), (2, .int b), (3, .int c), (4, .int (nI i + nI 1))]) rfl ?_
                rw [nI_add]
                exact ih (i + 1) _ _ (by omega) (by omega) hsc3 hwf3 htop3 hpl3
              · skip
                refine Zgo hX 2 rfl (by first | exact True.intro | (dsimp only [ZallP]; and_intros <;> (first | decide | ((try simp only [pk_mul, nI_add]); exact Zin_n (by omega) (by decide))))) ?_
                have hv : (if y = 0 then nI 1 else nI 0) = nI 1 := if_pos h88
                refine Zs_callv hX (List.cons_ne_nil _ _) (k_push14 _ d8 _ htopP (by omega)) (by decide) (by decide) rfl rfl rfl (by decide) (Nat.le_of_ble_eq_true rfl) (fun r M' hc => ?_)
                obtain ⟨rfl, rfl⟩ := hc
                obtain ⟨hsc3, htop3, hpl3⟩ := Zpush_ok (if y = 0 then nI 1 else nI 0) (t := 14) (by decide) hscP hplP hlr
                rw [hv] at hsc3 htop3
                have hev : Zev nm f (i + 1) = (if y = 0 then nI 1 else nI 0) :: r := by simp only [Zev, Zit, e1, hL, if_neg (show ¬ nI 2 = nI 0 by decide), if_neg (show ¬ nI 2 = nI 1 by decide), if_true]
                rw [← hev, hv] at hpl3
                have hwf3 : Zwf 1 f (i + 1) (d8 + 1) := ⟨d8 + 1, hwf, Or.inr (Or.inr (Or.inl ⟨e1, by omega, rfl⟩))⟩
                refine Zgo hX 3 rfl (by first | exact True.intro | (dsimp only [ZallP]; and_intros <;> (first | decide | ((try simp only [pk_mul, nI_add]); exact Zin_n (by omega) (by decide))))) ?_
                refine Zs_sub (l' := [(0, .ref 14), (1, .int a), (2, .int b), (3, .int c), (4, .int (nI i + nI 1))]) rfl ?_
                rw [nI_add]
                exact ih (i + 1) _ _ (by omega) (by omega) hsc3 hwf3 htop3 hpl3
          · skip
            obtain ⟨e1, c0, hc0, e2, rfl⟩ := Zen_1 hen hvi h28 h44
            refine Zgo hX 3 rfl (by first | exact True.intro | (dsimp only [ZallP]; and_intros <;> (first | decide | ((try simp only [pk_mul, nI_add]); exact Zin_n (by omega) (by decide))))) ?_
            refine Zs_ine hX (List.cons_ne_nil _ _) (fun h51 => ?_) (fun h51 => ?_)
            · skip
              refine Zgo hX 2 rfl (by first | exact True.intro | (dsimp only [ZallP]; and_intros <;> (first | decide | ((try simp only [pk_mul, nI_add]); exact Zin_n (by omega) (by decide))))) ?_
              refine Zs_ine hX (List.cons_ne_nil _ _) (fun h62 => ?_) (fun h62 => ?_)
              · skip
                refine Zgo hX 1 rfl (by first | exact True.intro | (dsimp only [ZallP]; and_intros <;> (first | decide | ((try simp only [pk_mul, nI_add]); exact Zin_n (by omega) (by decide))))) ?_
                have hv : nm (nI c0) = c := by rw [hab c0 hc0, show Zpn 1 c0 = 2 by have h1 := Zpn_lt 1 c0; have h2 : 1 + Zpn 1 c0 ≠ 1 := fun q => h51 (by rw [q]); have h3 : 1 + Zpn 1 c0 ≠ 2 := fun q => h62 (by rw [q]); omega]; rfl
                refine Zs_callv hX (List.cons_ne_nil _ _) (k_push14 _ d9 _ htop (by omega)) (by decide) (by decide) rfl rfl rfl (by decide) (Nat.le_of_ble_eq_true rfl) (fun r M' hc => ?_)
                obtain ⟨rfl, rfl⟩ := hc
                obtain ⟨hsc3, htop3, hpl3⟩ := Zpush_ok (nm (nI c0)) (t := 14) (by decide) hsc hpl hln
                rw [hv] at hsc3 htop3
                have hev : Zev nm f (i + 1) = nm (nI c0) :: Zev nm f i := by simp only [Zev, Zit, e1, if_neg (show ¬ nI 1 = nI 0 by decide), if_true, e2]
                rw [← hev, hv] at hpl3
                have hwf3 : Zwf 1 f (i + 1) (d9 + 1) := ⟨d9, hwf, Or.inr (Or.inl ⟨e1, ⟨c0, hc0, e2⟩, rfl⟩)⟩
                refine Zgo hX 3 rfl (by first | exact True.intro | (dsimp only [ZallP]; and_intros <;> (first | decide | ((try simp only [pk_mul, nI_add]); exact Zin_n (by omega) (by decide))))) ?_
                refine Zs_sub (l' := [(0, .ref 14), (1, .int a), (2, .int b), (3, .int c), (4, .int (nI i + nI 1))]) rfl ?_
                rw [nI_add]
                exact ih (i + 1) _ _ (by omega) (by omega) hsc3 hwf3 htop3 hpl3
              · skip
                refine Zgo hX 2 rfl (by first | exact True.intro | (dsimp only [ZallP]; and_intros <;> (first | decide | ((try simp only [pk_mul, nI_add]); exact Zin_n (by omega) (by decide))))) ?_
                have hv : nm (nI c0) = b := by rw [hab c0 hc0, show Zpn 1 c0 = 1 by have h1 := Zpn_lt 1 c0; have h2 := Zneg_eq (by omega) (by decide) h62; omega]; rfl
                refine Zs_callv hX (List.cons_ne_nil _ _) (k_push14 _ d9 _ htop (by omega)) (by decide) (by decide) rfl rfl rfl (by decide) (Nat.le_of_ble_eq_true rfl) (fun r M' hc => ?_)
                obtain ⟨rfl, rfl⟩ := hc
                obtain ⟨hsc3, htop3, hpl3⟩ := Zpush_ok (nm (nI c0)) (t := 14) (by decide) hsc hpl hln
                rw [hv] at hsc3 htop3
                have hev : Zev nm f (i + 1) = nm (nI c0) :: Zev nm f i := by simp only [Zev, Zit, e1, if_neg (show ¬ nI 1 = nI 0 by decide), if_true, e2]
                rw [← hev, hv] at hpl3
                have hwf3 : Zwf 1 f (i + 1) (d9 + 1) := ⟨d9, hwf, Or.inr (Or.inl ⟨e1, ⟨c0, hc0, e2⟩, rfl⟩)⟩
                refine Zgo hX 3 rfl (by first | exact True.intro | (dsimp only [ZallP]; and_intros <;> (first | decide | ((try simp only [pk_mul, nI_add]); exact Zin_n (by omega) (by decide))))) ?_
                refine Zs_sub (l' := [(0, .ref 14), (1, .int a), (2, .int b), (3, .int c), (4, .int (nI i + nI 1))]) rfl ?_
                rw [nI_add]
                exact ih (i + 1) _ _ (by omega) (by omega) hsc3 hwf3 htop3 hpl3
            · skip
              refine Zgo hX 2 rfl (by first | exact True.intro | (dsimp only [ZallP]; and_intros <;> (first | decide | ((try simp only [pk_mul, nI_add]); exact Zin_n (by omega) (by decide))))) ?_
              have hv : nm (nI c0) = a := by rw [hab c0 hc0, show Zpn 1 c0 = 0 by have h1 := Zpn_lt 1 c0; have h2 := Zneg_eq (by omega) (by decide) h51; omega]; rfl
              refine Zs_callv hX (List.cons_ne_nil _ _) (k_push14 _ d9 _ htop (by omega)) (by decide) (by decide) rfl rfl rfl (by decide) (Nat.le_of_ble_eq_true rfl) (fun r M' hc => ?_)
              obtain ⟨rfl, rfl⟩ := hc
              obtain ⟨hsc3, htop3, hpl3⟩ := Zpush_ok (nm (nI c0)) (t := 14) (by decide) hsc hpl hln
              rw [hv] at hsc3 htop3
              have hev : Zev nm f (i + 1) = nm (nI c0) :: Zev nm f i := by simp only [Zev, Zit, e1, if_neg (show ¬ nI 1 = nI 0 by decide), if_true, e2]
              rw [← hev, hv] at hpl3
              have hwf3 : Zwf 1 f (i + 1) (d9 + 1) := ⟨d9, hwf, Or.inr (Or.inl ⟨e1, ⟨c0, hc0, e2⟩, rfl⟩)⟩
              refine Zgo hX 3 rfl (by first | exact True.intro | (dsimp only [ZallP]; and_intros <;> (first | decide | ((try simp only [pk_mul, nI_add]); exact Zin_n (by omega) (by decide))))) ?_
              refine Zs_sub (l' := [(0, .ref 14), (1, .int a), (2, .int b), (3, .int c), (4, .int (nI i + nI 1))]) rfl ?_
              rw [nI_add]
              exact ih (i + 1) _ _ (by omega) (by omega) hsc3 hwf3 htop3 hpl3
        · skip
          obtain ⟨e1, e2⟩ := Zen_0 hen hvi h28
          refine Zgo hX 2 rfl (by first | exact True.intro | (dsimp only [ZallP]; and_intros <;> (first | decide | ((try simp only [pk_mul, nI_add]); exact Zin_n (by omega) (by decide))))) ?_
          refine Zs_callv hX (List.cons_ne_nil _ _) (k_push14 _ d9 _ htop (by omega)) (by decide) (by decide) rfl rfl rfl (by decide) (Nat.le_of_ble_eq_true rfl) (fun r M' hc => ?_)
          obtain ⟨rfl, rfl⟩ := hc
          obtain ⟨hsc3, htop3, hpl3⟩ := Zpush_ok x (t := 14) (by decide) hsc hpl hln
          have hev : Zev nm f (i + 1) = x :: Zev nm f i := by simp only [Zev, Zit, e1, if_true, e2]
          rw [← hev] at hpl3
          have hwf3 : Zwf 1 f (i + 1) (d9 + 1) := ⟨d9, hwf, Or.inl ⟨e1, (hvi.resolve_right (fun z => by rcases z with ⟨z, -⟩ | z | ⟨z, -⟩ <;> rw [e1] at z <;> exact absurd z (by decide))).2, rfl⟩⟩
          refine Zgo hX 3 rfl (by first | exact True.intro | (dsimp only [ZallP]; and_intros <;> (first | decide | ((try simp only [pk_mul, nI_add]); exact Zin_n (by omega) (by decide))))) ?_
          refine Zs_sub (l' := [(0, .ref 14), (1, .int a), (2, .int b), (3, .int c), (4, .int (nI i + nI 1))]) rfl ?_
          rw [nI_add]
          exact ih (i + 1) _ _ (by omega) (by omega) hsc3 hwf3 htop3 hpl3
  refine Zgo hX 5 rfl True.intro ?_
  refine Zs_sub (l' := [(0, .ref 14), (1, .int a), (2, .int b), (3, .int c), (4, .int (nI 0))]) rfl ?_
  exact L (n + 1) 0 0 _ (by omega) (by omega) ((Sc.rf M).u _ rfl) rfl (by rw [Zu_k, if_pos ⟨rfl, rfl⟩]) True.intro
