/-! numbers, tables, cells -/
def tab (n : Nat) (F : Nat → Value) : List Value := (List.range n).map F
theorem tab_len (n : Nat) (F : Nat → Value) : (tab n F).length = n := by simp [tab]
theorem tab_get {n i : Nat} {F : Nat → Value} (h : i < n) : (tab n F)[i]? = some (F i) := by simp [tab, h]
theorem tab_congr {n : Nat} {F G : Nat → Value} (h : ∀ i, i < n → F i = G i) : tab n F = tab n G := by
  unfold tab
  apply List.map_congr_left
  intro i hi
  exact h i (List.mem_range.mp hi)
theorem tab_set {n i : Nat} {F : Nat → Value} {v : Value} : (tab n F).set i v = tab n (fun j => if j = i then v else F j) := by
  apply List.ext_getElem?
  intro j
  by_cases hj : j < n
  · rw [tab_get hj]
    by_cases e : i = j
    · subst e
      rw [List.getElem?_set_self (by rw [tab_len]; exact hj), if_pos rfl]
    · rw [List.getElem?_set_ne e, tab_get hj, if_neg (Ne.symm e)]
  · rw [List.getElem?_eq_none (by rw [List.length_set, tab_len]; omega), List.getElem?_eq_none (by rw [tab_len]; omega)]
theorem nI_lt2 {a b : Nat} (ha : a < 2147483648) (hb : b < 2147483648) : (nI a < nI b) = (a < b) := propext (nI_ltI ha hb)
theorem nI_le2 {a b : Nat} (ha : a < 2147483648) (hb : b < 2147483648) : (nI a ≤ nI b) = (a ≤ b) := propext (nI_leI ha hb)
theorem nI_eq2 {a b : Nat} (ha : a < 2147483648) (hb : b < 2147483648) : (nI a = nI b) = (a = b) := propext (nI_eq ha hb)
def q_nt : List Value → Nat → (Value → Prop) → Prop
  | [], _, _ => False
  | v :: _, 0, f => f v
  | _ :: l, k + 1, f => q_nt l k f
theorem q_nt_0 {v : Value} {l : List Value} {f : Value → Prop} : q_nt (v :: l) 0 f = f v := rfl
theorem q_nt_s {v : Value} {l : List Value} {k : Nat} {f : Value → Prop} : q_nt (v :: l) (k + 1) f = q_nt l k f := rfl
theorem q_nt_eq (f : Value → Prop) : ∀ (l : List Value) (k : Nat), (match l[k]? with | some v => f v | none => False) = q_nt l k f
  | [], k => by simp [q_nt]
  | v :: l, 0 => rfl
  | v :: l, k + 1 => by
    rw [List.getElem?_cons_succ]
    exact q_nt_eq f l k
theorem q_rd_eq {ci k : Nat} {fs : List Value} {f : Value → Prop} : q_rd (ci, fs) ci k f = q_nt fs k f := by
  unfold q_rd
  rw [if_pos rfl]
  exact q_nt_eq f fs k
theorem q_wr_eq {ci : Nat} {fs : List Value} {f : List Value → Prop} : q_wr (ci, fs) ci f = f fs := by
  unfold q_wr
  rw [if_pos rfl]
theorem q_is_eq {ci : Nat} {fs : List Value} {P : Prop} : q_is (ci, fs) ci P = P := by
  unfold q_is
  rw [if_pos rfl]
theorem q_ld_tab {t n i : Nat} {F : Nat → Value} {f : Value → Prop} (hi : i < n) (hn : n < 2147483648) : q_ld (t, tab n F) t (nI i) f = f (F i) := by
  unfold q_ld
  rw [if_pos ⟨rfl, nI_pos (by omega)⟩]
  simp only [nI_clamp (show i < 2 ^ 31 by omega), tab_get hi]
theorem q_st_tab {t n i : Nat} {F : Nat → Value} {v : Value} {f : sm_Cell → Prop} (hi : i < n) (hn : n < 2147483648) : q_st (t, tab n F) t (nI i) v f = f (t, tab n (fun j => if j = i then v else F j)) := by
  unfold q_st
  rw [nI_clamp (show i < 2 ^ 31 by omega), if_pos ⟨rfl, nI_pos (by omega), by rw [tab_len]; exact hi⟩, tab_set]
theorem q_aa13 {n i : Nat} {F : Nat → Value} {f : Value → Prop} (hi : i < n) (hn : n < 2147483648) : q_aa (13, tab n F) (nI i) f = f (F i) := by
  unfold q_aa
  rw [if_pos rfl, q_ld_tab hi hn]
theorem q_aa14 {n i : Nat} {F : Nat → Value} {f : Value → Prop} (hi : i < n) (hn : n < 2147483648) : q_aa (14, tab n F) (nI i) f = f (F i) := by
  unfold q_aa
  rw [if_neg (show ¬ 14 = 13 by decide), q_ld_tab hi hn]
theorem q_len_tab {t n : Nat} {F : Nat → Value} {f : Int32 → Prop} (h1 : 10 ≤ t) (h2 : t ≤ 14) : q_len (t, tab n F) f = f (nI n) := by
  unfold q_len
  rw [if_pos ⟨h1, h2⟩, tab_len]
  rfl
theorem q_01_0 {P : Prop} : q_01 (nI 0) P = P := if_pos (Or.inl nI_0)
theorem q_01_1 {P : Prop} : q_01 (nI 1) P = P := if_pos (Or.inr rfl)
theorem q_nz_nI {d : Nat} {P : Prop} (h0 : 0 < d) (h1 : d < 2147483648) : q_nz (nI d) P = P := if_neg (nI_ne0 h0 h1)
theorem psh_some {v : Value} {S : List Value} : psh (some v) S = v :: S := rfl
theorem psh_none {S : List Value} : psh none S = S := rfl
theorem sm_up_at {h : sm_Hp} {a : Nat} {x : sm_Cell} : (sm_up h a x).1 a = x := if_pos rfl
theorem sm_up_ne {h : sm_Hp} {a q : Nat} {x : sm_Cell} (hq : q ≠ a) : (sm_up h a x).1 q = h.1 q := if_neg hq
theorem sm_up_2 {h : sm_Hp} {a : Nat} {x : sm_Cell} : (sm_up h a x).2 = h.2 := rfl
theorem ls_set0 {v w : Value} {l : List Value} : (v :: l).set 0 w = w :: l := rfl
theorem ls_setS {v w : Value} {l : List Value} {k : Nat} : (v :: l).set (k + 1) w = v :: l.set k w := rfl
/-- how many x below n have P -/
def cnt (P : Nat → Bool) : Nat → Nat
  | 0 => 0
  | n + 1 => cnt P n + (if P n = true then 1 else 0)
theorem cnt_le (P : Nat → Bool) : ∀ n, cnt P n ≤ n
  | 0 => Nat.le_refl 0
  | n + 1 => by
    have := cnt_le P n
    show cnt P n + _ ≤ n + 1
    split <;> omega
theorem cnt_congr {P P' : Nat → Bool} : ∀ {n : Nat}, (∀ x, x < n → P x = P' x) → cnt P n = cnt P' n
  | 0, _ => rfl
  | n + 1, h => by
    show cnt P n + _ = cnt P' n + _
    rw [cnt_congr (fun x hx => h x (by omega)), h n (by omega)]
/-! the prints of both, at cell p: depths, gifts (as bits), walks, what was taken -/
abbrev PrS : Type := (Nat → Nat → Nat) × (Nat → Nat) × (Nat → Nat) × (Nat → Nat)
def prC (p : Nat) (P : PrS) : Nat → sm_Cell
  | 0 => (3, [.ref (p + 1), .ref (p + 4), .ref (p + 5), .ref (p + 6)])
  | 1 => (13, tab 2 (fun k => .ref (p + 2 + k)))
  | 2 => (10, tab 61 (fun x => .int (nI (P.1 0 x))))
  | 3 => (10, tab 61 (fun x => .int (nI (P.1 1 x))))
  | 4 => (11, tab 2 (fun k => .long (lN (P.2.1 k))))
  | 5 => (10, tab 2 (fun k => .int (nI (P.2.2.1 k))))
  | _ => (10, tab 2 (fun k => .int (nI (P.2.2.2 k))))
def PrAt (h : sm_Hp) (p : Nat) (P : PrS) : Prop := ∀ j, j < 7 → h.1 (p + j) = prC p P j
def setPr (h : sm_Hp) (p : Nat) (P : PrS) : sm_Hp := (fun a => if p ≤ a ∧ a < p + 7 then prC p P (a - p) else h.1 a, h.2)
theorem setPr_at (h : sm_Hp) (p : Nat) (P : PrS) : PrAt (setPr h p P) p P := by
  intro j hj
  show (if p ≤ p + j ∧ p + j < p + 7 then prC p P (p + j - p) else _) = _
  rw [if_pos (by omega), Nat.add_sub_cancel_left]
theorem setPr_self {h : sm_Hp} {p : Nat} {P : PrS} (H : PrAt h p P) : setPr h p P = h := by
  refine Prod.ext (funext fun a => ?_) rfl
  show (if p ≤ a ∧ a < p + 7 then prC p P (a - p) else h.1 a) = h.1 a
  split
  next hc =>
    have e := H (a - p) (by omega)
    rw [show p + (a - p) = a by omega] at e
    exact e.symm
  · rfl
theorem setPr_ne {h : sm_Hp} {p a : Nat} {P : PrS} (ha : a < p ∨ p + 7 ≤ a) : (setPr h p P).1 a = h.1 a := if_neg (by omega)
theorem setPr_2 {h : sm_Hp} {p : Nat} {P : PrS} : (setPr h p P).2 = h.2 := rfl
theorem setPr_twice {h : sm_Hp} {p : Nat} {P Q : PrS} : setPr (setPr h p P) p Q = setPr h p Q := by
  refine Prod.ext (funext fun a => ?_) rfl
  show (if p ≤ a ∧ a < p + 7 then prC p Q (a - p) else (if p ≤ a ∧ a < p + 7 then prC p P (a - p) else h.1 a)) = (if p ≤ a ∧ a < p + 7 then prC p Q (a - p) else h.1 a)
  by_cases hc : p ≤ a ∧ a < p + 7
  · rw [if_pos hc, if_pos hc]
  · rw [if_neg hc, if_neg hc, if_neg hc]
theorem setPr_swap {h : sm_Hp} {p q : Nat} {P Q : PrS} (hd : p + 7 ≤ q ∨ q + 7 ≤ p) : setPr (setPr h p P) q Q = setPr (setPr h q Q) p P := by
  refine Prod.ext (funext fun a => ?_) rfl
  show (if q ≤ a ∧ a < q + 7 then prC q Q (a - q) else (if p ≤ a ∧ a < p + 7 then prC p P (a - p) else h.1 a)) = (if p ≤ a ∧ a < p + 7 then prC p P (a - p) else (if q ≤ a ∧ a < q + 7 then prC q Q (a - q) else h.1 a))
  by_cases hc : p ≤ a ∧ a < p + 7
  · rw [if_pos hc, if_pos hc, if_neg (by omega)]
  · rw [if_neg hc, if_neg hc]
theorem PrAt.off {h : sm_Hp} {p q : Nat} {P Q : PrS} (H : PrAt h q Q) (hd : p + 7 ≤ q ∨ q + 7 ≤ p) : PrAt (setPr h p P) q Q := fun j hj => (setPr_ne (by omega)).trans (H j hj)
theorem PrAt.up {h : sm_Hp} {q a : Nat} {x : sm_Cell} {Q : PrS} (H : PrAt h q Q) (hd : a < q ∨ q + 7 ≤ a) : PrAt (sm_up h a x) q Q := fun j hj => (sm_up_ne (by omega)).trans (H j hj)
theorem prC_congr {p : Nat} {P Q : PrS} (h1 : ∀ k, k < 2 → ∀ x, x < 61 → P.1 k x = Q.1 k x) (h2 : ∀ k, k < 2 → P.2.1 k = Q.2.1 k ∧ P.2.2.1 k = Q.2.2.1 k ∧ P.2.2.2 k = Q.2.2.2 k) (j : Nat) : prC p P j = prC p Q j := by
  match j with
  | 0 => rfl
  | 1 => rfl
  | 2 => exact congrArg (fun l => ((10 : Nat), l)) (tab_congr (fun x hx => by rw [h1 0 (by omega) x hx]))
  | 3 => exact congrArg (fun l => ((10 : Nat), l)) (tab_congr (fun x hx => by rw [h1 1 (by omega) x hx]))
  | 4 => exact congrArg (fun l => ((11 : Nat), l)) (tab_congr (fun x hx => by rw [(h2 x hx).1]))
  | 5 => exact congrArg (fun l => ((10 : Nat), l)) (tab_congr (fun x hx => by rw [(h2 x hx).2.1]))
  | j + 6 => exact congrArg (fun l => ((10 : Nat), l)) (tab_congr (fun x hx => by rw [(h2 x hx).2.2]))
/-- the same, as far as cells show -/
def PrEq (P Q : PrS) : Prop := (∀ k, k < 2 → ∀ x, x < 61 → P.1 k x = Q.1 k x) ∧ ∀ k, k < 2 → P.2.1 k = Q.2.1 k ∧ P.2.2.1 k = Q.2.2.1 k ∧ P.2.2.2 k = Q.2.2.2 k
theorem PrEq.setPr {h : sm_Hp} {p : Nat} {P Q : PrS} (e : PrEq P Q) : setPr h p P = setPr h p Q := by
  refine Prod.ext (funext fun a => ?_) rfl
  show (if p ≤ a ∧ a < p + 7 then prC p P (a - p) else h.1 a) = (if p ≤ a ∧ a < p + 7 then prC p Q (a - p) else h.1 a)
  rw [prC_congr e.1 e.2]
theorem PrEq.at {h : sm_Hp} {p : Nat} {P Q : PrS} (e : PrEq P Q) (H : PrAt h p P) : PrAt h p Q := fun j hj => (H j hj).trans (prC_congr e.1 e.2 j)
def DepOk (P : PrS) : Prop := ∀ k x, P.1 k x ≤ 9
theorem PrAt.c0 {h : sm_Hp} {p : Nat} {P : PrS} (H : PrAt h p P) : h.1 p = (3, [.ref (p + 1), .ref (p + 4), .ref (p + 5), .ref (p + 6)]) := H 0 (by omega)
theorem PrAt.c1 {h : sm_Hp} {p : Nat} {P : PrS} (H : PrAt h p P) : h.1 (p + 1) = (13, tab 2 (fun k => .ref (p + 2 + k))) := H 1 (by omega)
theorem PrAt.c2 {h : sm_Hp} {p : Nat} {P : PrS} (H : PrAt h p P) {k : Nat} (hk : k < 2) : h.1 (p + 2 + k) = (10, tab 61 (fun x => .int (nI (P.1 k x)))) := by
  match k, hk with
  | 0, _ => exact H 2 (by omega)
  | 1, _ => exact H 3 (by omega)
theorem PrAt.c4 {h : sm_Hp} {p : Nat} {P : PrS} (H : PrAt h p P) : h.1 (p + 4) = (11, tab 2 (fun k => .long (lN (P.2.1 k)))) := H 4 (by omega)
theorem PrAt.c5 {h : sm_Hp} {p : Nat} {P : PrS} (H : PrAt h p P) : h.1 (p + 5) = (10, tab 2 (fun k => .int (nI (P.2.2.1 k)))) := H 5 (by omega)
theorem PrAt.c6 {h : sm_Hp} {p : Nat} {P : PrS} (H : PrAt h p P) : h.1 (p + 6) = (10, tab 2 (fun k => .int (nI (P.2.2.2 k)))) := H 6 (by omega)
theorem pr0 {h : sm_Hp} {p : Nat} {P : PrS} : (setPr h p P).1 p = (3, [.ref (p + 1), .ref (p + 4), .ref (p + 5), .ref (p + 6)]) := (setPr_at h p P).c0
theorem pr1 {h : sm_Hp} {p : Nat} {P : PrS} : (setPr h p P).1 (p + 1) = (13, tab 2 (fun k => .ref (p + 2 + k))) := (setPr_at h p P).c1
theorem pr2 {h : sm_Hp} {p : Nat} {P : PrS} {k : Nat} (hk : k < 2) : (setPr h p P).1 (p + 2 + k) = (10, tab 61 (fun x => .int (nI (P.1 k x)))) := (setPr_at h p P).c2 hk
theorem pr4 {h : sm_Hp} {p : Nat} {P : PrS} : (setPr h p P).1 (p + 4) = (11, tab 2 (fun k => .long (lN (P.2.1 k)))) := (setPr_at h p P).c4
theorem pr5 {h : sm_Hp} {p : Nat} {P : PrS} : (setPr h p P).1 (p + 5) = (10, tab 2 (fun k => .int (nI (P.2.2.1 k)))) := (setPr_at h p P).c5
theorem pr6 {h : sm_Hp} {p : Nat} {P : PrS} : (setPr h p P).1 (p + 6) = (10, tab 2 (fun k => .int (nI (P.2.2.2 k)))) := (setPr_at h p P).c6
/-! one cell of them anew -/
theorem setPr_of {h : sm_Hp} {p j : Nat} {P P' : PrS} {x : sm_Cell} (hj : j < 7) (hx : x = prC p P' j) (ho : ∀ i, i < 7 → i ≠ j → prC p P i = prC p P' i) : sm_up (setPr h p P) (p + j) x = setPr h p P' := by
  refine Prod.ext (funext fun a => ?_) rfl
  show (if a = p + j then x else (if p ≤ a ∧ a < p + 7 then prC p P (a - p) else h.1 a)) = (if p ≤ a ∧ a < p + 7 then prC p P' (a - p) else h.1 a)
  by_cases e : a = p + j
  · subst e
    rw [if_pos rfl, if_pos (by omega), hx, Nat.add_sub_cancel_left]
  · rw [if_neg e]
    split
    · exact ho _ (by omega) (by omega)
    · rfl
theorem up_D {h : sm_Hp} {p k x v : Nat} {P : PrS} (hk : k < 2) : sm_up (setPr h p P) (p + 2 + k) (10, tab 61 (fun j => if j = x then .int (nI v) else .int (nI (P.1 k j)))) = setPr h p (fun k' x' => if k' = k ∧ x' = x then v else P.1 k' x', P.2) := by
  have e : (10, tab 61 (fun j => if j = x then Value.int (nI v) else .int (nI (P.1 k j)))) = ((10 : Nat), tab 61 (fun j => Value.int (nI (if k = k ∧ j = x then v else P.1 k j)))) := by
    refine congrArg (fun l => ((10 : Nat), l)) (tab_congr (fun j _ => ?_))
    by_cases e : j = x <;> simp [e]
  rw [e, Nat.add_assoc]
  refine setPr_of (by omega) ?_ (fun i hi hne => ?_)
  · match k, hk with
    | 0, _ => rfl
    | 1, _ => rfl
  · match k, hk, i, hne with
    | 0, _, 0, _ => rfl
    | 0, _, 1, _ => rfl
    | 0, _, 2, hne => exact absurd rfl hne
    | 0, _, 3, _ => rfl
    | 0, _, 4, _ => rfl
    | 0, _, 5, _ => rfl
    | 0, _, i + 6, _ => rfl
    | 1, _, 0, _ => rfl
    | 1, _, 1, _ => rfl
    | 1, _, 2, _ => rfl
    | 1, _, 3, hne => exact absurd rfl hne
    | 1, _, 4, _ => rfl
    | 1, _, 5, _ => rfl
    | 1, _, i + 6, _ => rfl
theorem up_Drow {h : sm_Hp} {p k : Nat} {P : PrS} {d : Nat → Nat} (hk : k < 2) : sm_up (setPr h p P) (p + 2 + k) (10, tab 61 (fun j => .int (nI (d j)))) = setPr h p (fun k' x' => if k' = k then d x' else P.1 k' x', P.2) := by
  rw [Nat.add_assoc]
  refine setPr_of (by omega) ?_ (fun i hi hne => ?_)
  · match k, hk with
    | 0, _ => rfl
    | 1, _ => rfl
  · match k, hk, i, hne with
    | 0, _, 0, _ => rfl
    | 0, _, 1, _ => rfl
    | 0, _, 2, hne => exact absurd rfl hne
    | 0, _, 3, _ => rfl
    | 0, _, 4, _ => rfl
    | 0, _, 5, _ => rfl
    | 0, _, i + 6, _ => rfl
    | 1, _, 0, _ => rfl
    | 1, _, 1, _ => rfl
    | 1, _, 2, _ => rfl
    | 1, _, 3, hne => exact absurd rfl hne
    | 1, _, 4, _ => rfl
    | 1, _, 5, _ => rfl
    | 1, _, i + 6, _ => rfl
theorem up_G {h : sm_Hp} {p k v : Nat} {P : PrS} : sm_up (setPr h p P) (p + 4) (11, tab 2 (fun j => if j = k then .long (lN v) else .long (lN (P.2.1 j)))) = setPr h p (P.1, fun k' => if k' = k then v else P.2.1 k', P.2.2) := by
  refine setPr_of (by omega) ?_ (fun i hi hne => ?_)
  · refine congrArg (fun l => ((11 : Nat), l)) (tab_congr (fun j _ => ?_))
    by_cases e : j = k <;> simp [e]
  · match i, hne with
    | 0, _ => rfl
    | 1, _ => rfl
    | 2, _ => rfl
    | 3, _ => rfl
    | 4, hne => exact absurd rfl hne
    | 5, _ => rfl
    | i + 6, _ => rfl
theorem up_W {h : sm_Hp} {p k v : Nat} {P : PrS} : sm_up (setPr h p P) (p + 5) (10, tab 2 (fun j => if j = k then .int (nI v) else .int (nI (P.2.2.1 j)))) = setPr h p (P.1, P.2.1, fun k' => if k' = k then v else P.2.2.1 k', P.2.2.2) := by
  refine setPr_of (by omega) ?_ (fun i hi hne => ?_)
  · refine congrArg (fun l => ((10 : Nat), l)) (tab_congr (fun j _ => ?_))
    by_cases e : j = k <;> simp [e]
  · match i, hne with
    | 0, _ => rfl
    | 1, _ => rfl
    | 2, _ => rfl
    | 3, _ => rfl
    | 4, _ => rfl
    | 5, hne => exact absurd rfl hne
    | i + 6, _ => rfl
theorem up_T {h : sm_Hp} {p k v : Nat} {P : PrS} : sm_up (setPr h p P) (p + 6) (10, tab 2 (fun j => if j = k then .int (nI v) else .int (nI (P.2.2.2 j)))) = setPr h p (P.1, P.2.1, P.2.2.1, fun k' => if k' = k then v else P.2.2.2 k') := by
  refine setPr_of (by omega) ?_ (fun i hi hne => ?_)
  · refine congrArg (fun l => ((10 : Nat), l)) (tab_congr (fun j _ => ?_))
    by_cases e : j = k <;> simp [e]
  · match i, hi, hne with
    | 0, _, _ => rfl
    | 1, _, _ => rfl
    | 2, _, _ => rfl
    | 3, _, _ => rfl
    | 4, _, _ => rfl
    | 5, _, _ => rfl
    | 6, _, hne => exact absurd rfl hne
    | i + 7, hi, _ => exact absurd hi (by omega)
