/-! numbers, tables, cells -/
def tab (n : Nat) (F : Nat → Value) : List Value := (List.range n).map F
theorem tab_len (n : Nat) (F : Nat → Value) : (tab n F).length = n := by simp [tab]
theorem tab_get {n i : Nat} {F : Nat → Value} (h : i < n) : (tab n F)[i]? = some (F i) := by simp [tab, h]
theorem tab_congr {n : Nat} {F G : Nat → Value} (h : ∀ i, i < n → F i = G i) : tab n F = tab n G := by
  unfold tab
  apply List.map_congr_left
  intro i hi
  exact h i (List.mem_range.mp hi)
theorem tab_set {n i : Nat} {F : Nat → Value} {v : Value} : (tab n F).set i v = tab n (fun j => if j = i then v else F j) := by
  apply List.ext_getElem?
  intro j
  by_cases hj : j < n
  · rw [tab_get hj]
    by_cases e : i = j
    · subst e
      rw [List.getElem?_set_self (by rw [tab_len]; exact hj), if_pos rfl]
    · rw [List.getElem?_set_ne e, tab_get hj, if_neg (Ne.symm e)]
  · rw [List.getElem?_eq_none (by rw [List.length_set, tab_len]; omega), List.getElem?_eq_none (by rw [tab_len]; omega)]
theorem nI_lt2 {a b : Nat} (ha : a < 2147483648) (hb : b < 2147483648) : (nI a < nI b) = (a < b) := propext (nI_ltI ha hb)
theorem nI_le2 {a b : Nat} (ha : a < 2147483648) (hb : b < 2147483648) : (nI a ≤ nI b) = (a ≤ b) := propext (nI_leI ha hb)
theorem nI_eq2 {a b : Nat} (ha : a < 2147483648) (hb : b < 2147483648) : (nI a = nI b) = (a = b) := propext (nI_eq ha hb)
def q_nt : List Value → Nat → (Value → Prop) → Prop
  | [], _, _ => False
  | v :: _, 0, f => f v
  | _ :: l, k + 1, f => q_nt l k f
theorem q_nt_0 {v : Value} {l : List Value} {f : Value → Prop} : q_nt (v :: l) 0 f = f v := rfl
theorem q_nt_s {v : Value} {l : List Value} {k : Nat} {f : Value → Prop} : q_nt (v :: l) (k + 1) f = q_nt l k f := rfl
theorem q_nt_eq (f : Value → Prop) : ∀ (l : List Value) (k : Nat), (match l[k]? with | some v => f v | none => False) = q_nt l k f
  | [], k => by simp [q_nt]
  | v :: l, 0 => rfl
  | v :: l, k + 1 => by
    rw [List.getElem?_cons_succ]
    exact q_nt_eq f l k
theorem q_rd_eq {ci k : Nat} {fs : List Value} {f : Value → Prop} : q_rd (ci, fs) ci k f = q_nt fs k f := by
  unfold q_rd
  rw [if_pos rfl]
  exact q_nt_eq f fs k
theorem q_wr_eq {ci : Nat} {fs : List Value} {f : List Value → Prop} : q_wr (ci, fs) ci f = f fs := by
  unfold q_wr
  rw [if_pos rfl]
theorem q_is_eq {ci : Nat} {fs : List Value} {P : Prop} : q_is (ci, fs) ci P = P := by
  unfold q_is
  rw [if_pos rfl]
theorem q_ld_tab {t n i : Nat} {F : Nat → Value} {f : Value → Prop} (hi : i < n) (hn : n < 2147483648) : q_ld (t, tab n F) t (nI i) f = f (F i) := by
  unfold q_ld
  rw [if_pos ⟨rfl, nI_pos (by omega)⟩]
  simp only [nI_clamp (show i < 2 ^ 31 by omega), tab_get hi]
theorem q_st_tab {t n i : Nat} {F : Nat → Value} {v : Value} {f : sm_Cell → Prop} (hi : i < n) (hn : n < 2147483648) : q_st (t, tab n F) t (nI i) v f = f (t, tab n (fun j => if j = i then v else F j)) := by
  unfold q_st
  rw [nI_clamp (show i < 2 ^ 31 by omega), if_pos ⟨rfl, nI_pos (by omega), by rw [tab_len]; exact hi⟩, tab_set]
theorem q_aa13 {n i : Nat} {F : Nat → Value} {f : Value → Prop} (hi : i < n) (hn : n < 2147483648) : q_aa (13, tab n F) (nI i) f = f (F i) := by
  unfold q_aa
  rw [if_pos rfl, q_ld_tab hi hn]
theorem q_aa14 {n i : Nat} {F : Nat → Value} {f : Value → Prop} (hi : i < n) (hn : n < 2147483648) : q_aa (14, tab n F) (nI i) f = f (F i) := by
  unfold q_aa
  rw [if_neg (show ¬ 14 = 13 by decide), q_ld_tab hi hn]
theorem q_len_tab {t n : Nat} {F : Nat → Value} {f : Int32 → Prop} (h1 : 10 ≤ t) (h2 : t ≤ 14) : q_len (t, tab n F) f = f (nI n) := by
  unfold q_len
  rw [if_pos ⟨h1, h2⟩, tab_len]
  rfl
theorem q_01_0 {P : Prop} : q_01 (nI 0) P = P := if_pos (Or.inl nI_0)
theorem q_01_1 {P : Prop} : q_01 (nI 1) P = P := if_pos (Or.inr rfl)
theorem q_nz_nI {d : Nat} {P : Prop} (h0 : 0 < d) (h1 : d < 2147483648) : q_nz (nI d) P = P := if_neg (nI_ne0 h0 h1)
theorem psh_some {v : Value} {S : List Value} : psh (some v) S = v :: S := rfl
theorem psh_none {S : List Value} : psh none S = S := rfl
theorem sm_up_at {h : sm_Hp} {a : Nat} {x : sm_Cell} : (sm_up h a x).1 a = x := if_pos rfl
theorem sm_up_ne {h : sm_Hp} {a q : Nat} {x : sm_Cell} (hq : q ≠ a) : (sm_up h a x).1 q = h.1 q := if_neg hq
theorem sm_up_2 {h : sm_Hp} {a : Nat} {x : sm_Cell} : (sm_up h a x).2 = h.2 := rfl
theorem ls_set0 {v w : Value} {l : List Value} : (v :: l).set 0 w = w :: l := rfl
theorem ls_setS {v w : Value} {l : List Value} {k : Nat} : (v :: l).set (k + 1) w = v :: l.set k w := rfl
/-- how many x below n have P -/
def cnt (P : Nat → Bool) : Nat → Nat
  | 0 => 0
  | n + 1 => cnt P n + (if P n = true then 1 else 0)
theorem cnt_le (P : Nat → Bool) : ∀ n, cnt P n ≤ n
  | 0 => Nat.le_refl 0
  | n + 1 => by
    have := cnt_le P n
    show cnt P n + _ ≤ n + 1
    split <;> omega
theorem cnt_congr {P P' : Nat → Bool} : ∀ {n : Nat}, (∀ x, x < n → P x = P' x) → cnt P n = cnt P' n
  | 0, _ => rfl
  | n + 1, h => by
    show cnt P n + _ = cnt P' n + _
    rw [cnt_congr (fun x hx => h x (by omega)), h n (by omega)]
/-! the prints of both, at cell p -/
abbrev PrS : Type := (Nat → Nat → Nat) × (Nat → Int64) × (Nat → Nat) × (Nat → Nat)
def prC (p : Nat) (P : PrS) : Nat → sm_Cell
  | 0 => (3, [.ref (p + 1), .ref (p + 4), .ref (p + 5), .ref (p + 6)])
  | 1 => (13, tab 2 (fun k => .ref (p + 2 + k)))
  | 2 => (10, tab 61 (fun x => .int (nI (P.1 0 x))))
  | 3 => (10, tab 61 (fun x => .int (nI (P.1 1 x))))
  | 4 => (11, tab 2 (fun k => .long (P.2.1 k)))
  | 5 => (10, tab 2 (fun k => .int (nI (P.2.2.1 k))))
  | _ => (10, tab 2 (fun k => .int (nI (P.2.2.2 k))))
def PrAt (h : sm_Hp) (p : Nat) (P : PrS) : Prop := ∀ j, j < 7 → h.1 (p + j) = prC p P j
def DepOk (P : PrS) : Prop := ∀ k x, P.1 k x ≤ 9
theorem PrAt.c0 {h : sm_Hp} {p : Nat} {P : PrS} (H : PrAt h p P) : h.1 p = (3, [.ref (p + 1), .ref (p + 4), .ref (p + 5), .ref (p + 6)]) := H 0 (by omega)
theorem PrAt.c1 {h : sm_Hp} {p : Nat} {P : PrS} (H : PrAt h p P) : h.1 (p + 1) = (13, tab 2 (fun k => .ref (p + 2 + k))) := H 1 (by omega)
theorem PrAt.c2 {h : sm_Hp} {p : Nat} {P : PrS} (H : PrAt h p P) {k : Nat} (hk : k < 2) : h.1 (p + 2 + k) = (10, tab 61 (fun x => .int (nI (P.1 k x)))) := by
  match k, hk with
  | 0, _ => exact H 2 (by omega)
  | 1, _ => exact H 3 (by omega)
theorem PrAt.c4 {h : sm_Hp} {p : Nat} {P : PrS} (H : PrAt h p P) : h.1 (p + 4) = (11, tab 2 (fun k => .long (P.2.1 k))) := H 4 (by omega)
theorem PrAt.c5 {h : sm_Hp} {p : Nat} {P : PrS} (H : PrAt h p P) : h.1 (p + 5) = (10, tab 2 (fun k => .int (nI (P.2.2.1 k)))) := H 5 (by omega)
theorem PrAt.c6 {h : sm_Hp} {p : Nat} {P : PrS} (H : PrAt h p P) : h.1 (p + 6) = (10, tab 2 (fun k => .int (nI (P.2.2.2 k)))) := H 6 (by omega)
section PRI
variable {xs : List Int32} {h : sm_Hp} {K : Option Value → sm_Hp → Prop} {p k n : Nat} {P : PrS}
theorem deeper_loop (H : PrAt h p P) (hd : DepOk P) (hk : k < 2) (hn : n ≤ 9) : ∀ m x many, x + m = 61 → many ≤ x → Wp xs m_Prints_deeperThan 5 [.ref p, .int (nI k), .int (nI n), .int (nI many), .int (nI x)] [] h 0 0 K = K (some (.int (nI (many + (cnt (fun x => decide (n < P.1 k x)) 61 - cnt (fun x => decide (n < P.1 k x)) x))))) h := by
  intro m
  induction m with
  | zero =>
    intro x many hx hm
    have : x = 61 := by omega
    subst this
    simp (disch := omega) only [w_Prints_deeperThan_0, w_Prints_deeperThan_1, w_Prints_deeperThan_2, w_Prints_deeperThan_3, w_Prints_deeperThan_5, w_Prints_deeperThan_7, w_Prints_deeperThan_9, w_Prints_deeperThan_12, w_Prints_deeperThan_13, w_Prints_deeperThan_16, w_Prints_deeperThan_17, w_Prints_deeperThan_18, w_Prints_deeperThan_20, w_Prints_deeperThan_21, w_Prints_deeperThan_22, w_Prints_deeperThan_25, w_Prints_deeperThan_28, w_Prints_deeperThan_31, w_Prints_deeperThan_34, w_Prints_deeperThan_35, q_rd_eq, q_nt_0, q_nt_s, q_ld_tab, q_st_tab, q_aa13, q_aa14, q_is_eq, q_wr_eq, q_01_0, q_01_1, q_nz_nI, q_len_tab, psh_some, psh_none, sm_up_at, sm_up_ne, nI_add, nI_lt2, nI_le2, nI_eq2, ls_set0, ls_setS, Nat.reduceAdd, Nat.zero_add, Nat.add_zero, not_true_eq_false, not_false_eq_true, ite_true, ite_false, Nat.le_refl, Nat.sub_self]
  | succ m ih =>
    intro x many hx hm
    rw [w_Prints_deeperThan_5]
    have h1 : ¬ 61 ≤ x := by omega
    simp (disch := omega) only [w_Prints_deeperThan_0, w_Prints_deeperThan_1, w_Prints_deeperThan_2, w_Prints_deeperThan_3, w_Prints_deeperThan_7, w_Prints_deeperThan_9, w_Prints_deeperThan_12, w_Prints_deeperThan_13, w_Prints_deeperThan_16, w_Prints_deeperThan_17, w_Prints_deeperThan_18, w_Prints_deeperThan_20, w_Prints_deeperThan_21, w_Prints_deeperThan_22, w_Prints_deeperThan_25, w_Prints_deeperThan_28, w_Prints_deeperThan_31, w_Prints_deeperThan_34, w_Prints_deeperThan_35, q_rd_eq, q_nt_0, q_nt_s, q_ld_tab, q_st_tab, q_aa13, q_aa14, q_is_eq, q_wr_eq, q_01_0, q_01_1, q_nz_nI, q_len_tab, psh_some, psh_none, sm_up_at, sm_up_ne, nI_add, nI_lt2, nI_le2, nI_eq2, ls_set0, ls_setS, Nat.reduceAdd, Nat.zero_add, Nat.add_zero, not_true_eq_false, not_false_eq_true, ite_true, ite_false, H.c0, H.c1, H.c2 hk, h1]
    done
end PRI
