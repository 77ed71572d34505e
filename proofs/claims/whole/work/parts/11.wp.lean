/-! THE SMALL MACHINE BY EQUATIONS: Wp .. K: it answers, and K holds of the answer and the heap behind it -/
def Wp (xs : List Int32) (y pc : Nat) (L S : List Value) (h : sm_Hp) (c z : Nat) (K : Option Value → sm_Hp → Prop) : Prop := ∃ (n : Nat) (r : Option Value) (h' : sm_Hp), sm_run xs n y pc L S h c z = some (r, h') ∧ K r h'
theorem sm_run_succ (xs : List Int32) (n y pc : Nat) (L S : List Value) (h : sm_Hp) (c z : Nat) : sm_run xs (n + 1) y pc L S h c z = (match sm_fetch y pc with
    | none => none
    | some ins => match sm_act xs y ins pc L S h c z with
      | none => none
      | some (.inl q) => sm_run xs n y q.1 q.2.1 q.2.2.1 q.2.2.2.1 q.2.2.2.2.1 q.2.2.2.2.2
      | some (.inr (.inl v)) => if sm_isret ins = true then some (v, h) else none
      | some (.inr (.inr q)) => if sm_isinv ins = true then (match sm_run xs n q.1 0 (sm_init (sm_ml q.1) q.2.1) [] h 0 0 with
        | none => none
        | some (r, h') => sm_run xs n y (pc + 3) L (r.toList ++ q.2.2) h' (c + sm_mc q.1) (z + sm_ms q.1)) else none) := rfl
theorem sm_run_mono (xs : List Int32) : ∀ (n y pc : Nat) (L S : List Value) (h : sm_Hp) (c z : Nat) (q : Option Value × sm_Hp), sm_run xs n y pc L S h c z = some q → sm_run xs (n + 1) y pc L S h c z = some q := by
  intro n
  induction n with
  | zero => intro y pc L S h c z q hq; cases hq
  | succ n ih =>
    intro y pc L S h c z q hq
    rw [sm_run_succ] at hq
    rw [sm_run_succ]
    split at hq
    · cases hq
    next ins hf =>
      split at hq
      · cases hq
      next g ha =>
        try simp only [hf, ha]
        exact ih _ _ _ _ _ _ _ _ hq
      next v ha =>
        try simp only [hf, ha]
        exact hq
      next g ha =>
        try simp only [hf, ha]
        obtain ⟨hi, hq⟩ := sm_if_inv hq
        rw [if_pos hi]
        split at hq
        · cases hq
        next r h' hr =>
          rw [ih _ _ _ _ _ _ _ _ hr]
          exact ih _ _ _ _ _ _ _ _ hq
theorem sm_run_le {xs : List Int32} {n m y pc : Nat} {L S : List Value} {h : sm_Hp} {c z : Nat} {q : Option Value × sm_Hp} (hm : n ≤ m) (hq : sm_run xs n y pc L S h c z = some q) : sm_run xs m y pc L S h c z = some q := by
  induction hm with
  | refl => exact hq
  | step _ ih => exact sm_run_mono _ _ _ _ _ _ _ _ _ _ ih
section WPE
variable {xs : List Int32} {y pc : Nat} {L S : List Value} {h : sm_Hp} {c z : Nat} {K : Option Value → sm_Hp → Prop}
theorem Wp.mono {K' : Option Value → sm_Hp → Prop} (hk : ∀ r h', K r h' → K' r h') (w : Wp xs y pc L S h c z K) : Wp xs y pc L S h c z K' := by
  obtain ⟨n, r, h', h1, h2⟩ := w
  exact ⟨n, r, h', h1, hk r h' h2⟩
theorem Wp_next {ins : Instr} {q : sm_Cf} (hf : sm_fetch y pc = some ins) (ha : sm_act xs y ins pc L S h c z = some (.inl q)) : Wp xs y pc L S h c z K = Wp xs y q.1 q.2.1 q.2.2.1 q.2.2.2.1 q.2.2.2.2.1 q.2.2.2.2.2 K := by
  apply propext
  constructor
  · rintro ⟨n, r, h', h1, h2⟩
    match n, h1 with
    | 0, h1 => cases h1
    | n + 1, h1 =>
      simp only [sm_run, hf, ha] at h1
      exact ⟨n, r, h', h1, h2⟩
  · rintro ⟨n, r, h', h1, h2⟩
    refine ⟨n + 1, r, h', ?_, h2⟩
    simp only [sm_run, hf, ha]
    exact h1
theorem Wp_stop {ins : Instr} (hf : sm_fetch y pc = some ins) (ha : sm_act xs y ins pc L S h c z = none) : Wp xs y pc L S h c z K = False := by
  apply propext
  constructor
  · rintro ⟨n, r, h', h1, h2⟩
    match n, h1 with
    | 0, h1 => cases h1
    | n + 1, h1 => simp only [sm_run, hf, ha] at h1; cases h1
  · exact False.elim
theorem Wp_ret {ins : Instr} {v : Option Value} (hf : sm_fetch y pc = some ins) (hi : sm_isret ins = true) (ha : sm_act xs y ins pc L S h c z = some (.inr (.inl v))) : Wp xs y pc L S h c z K = K v h := by
  apply propext
  constructor
  · rintro ⟨n, r, h', h1, h2⟩
    match n, h1 with
    | 0, h1 => cases h1
    | n + 1, h1 =>
      simp only [sm_run, hf, ha, hi, if_pos] at h1
      cases h1
      exact h2
  · intro h2
    refine ⟨1, v, h, ?_, h2⟩
    simp only [sm_run, hf, ha, hi, if_pos]
def psh : Option Value → List Value → List Value
  | some v, S => v :: S
  | none, S => S
theorem psh_eq (r : Option Value) (S : List Value) : r.toList ++ S = psh r S := by cases r <;> rfl
theorem Wp_call {ins : Instr} {y' : Nat} {as rest : List Value} (hf : sm_fetch y pc = some ins) (hi : sm_isinv ins = true) (ha : sm_act xs y ins pc L S h c z = some (.inr (.inr (y', as, rest)))) :
    Wp xs y pc L S h c z K = Wp xs y' 0 (sm_init (sm_ml y') as) [] h 0 0 (fun r h' => Wp xs y (pc + 3) L (psh r rest) h' (c + sm_mc y') (z + sm_ms y') K) := by
  apply propext
  constructor
  · rintro ⟨n, r, h', h1, h2⟩
    match n, h1 with
    | 0, h1 => cases h1
    | n + 1, h1 =>
      simp only [sm_run, hf, ha, hi, if_pos] at h1
      split at h1
      · cases h1
      next r1 h1' hr =>
        rw [psh_eq] at h1
        exact ⟨n, r1, h1', hr, n, r, h', h1, h2⟩
  · rintro ⟨n, r1, h1, hr, m, r, h', h2, h3⟩
    refine ⟨max n m + 1, r, h', ?_, h3⟩
    simp only [sm_run, hf, ha, hi, if_pos]
    rw [sm_run_le (Nat.le_max_left n m) hr]
    simp only [psh_eq]
    exact sm_run_le (Nat.le_max_right n m) h2
/-! the heap, read and written -/
def q_rd (x : sm_Cell) (ci k : Nat) (f : Value → Prop) : Prop := if x.1 = ci then (match x.2[k]? with | some v => f v | none => False) else False
def q_wr (x : sm_Cell) (ci : Nat) (f : List Value → Prop) : Prop := if x.1 = ci then f x.2 else False
def q_ld (x : sm_Cell) (t : Nat) (i : Int32) (f : Value → Prop) : Prop := if x.1 = t ∧ ¬ i < 0 then (match x.2[i.toNatClampNeg]? with | some v => f v | none => False) else False
def q_st (x : sm_Cell) (t : Nat) (i : Int32) (v : Value) (f : sm_Cell → Prop) : Prop := if x.1 = t ∧ ¬ i < 0 ∧ i.toNatClampNeg < x.2.length then f (t, x.2.set i.toNatClampNeg v) else False
def q_is (x : sm_Cell) (ci : Nat) (P : Prop) : Prop := if x.1 = ci then P else False
def q_len (x : sm_Cell) (f : Int32 → Prop) : Prop := if 10 ≤ x.1 ∧ x.1 ≤ 14 then f (Int32.ofNat x.2.length) else False
def q_nz (b : Int32) (P : Prop) : Prop := if b = 0 then False else P
def q_01 (b : Int32) (P : Prop) : Prop := if b = 0 ∨ b = 1 then P else False
def q_cp (x x0 : sm_Cell) (n : Int32) (f : sm_Cell → Prop) : Prop := if ¬ n < 0 ∧ x.1 = 10 ∧ x0.1 = 10 ∧ n.toNatClampNeg = x.2.length ∧ n.toNatClampNeg = x0.2.length then f (10, x0.2) else False
def q_xs (xs : List Int32) (i : Int32) (f : Int32 → Prop) : Prop := if ¬ i < 0 then (match xs[i.toNatClampNeg]? with | some v => f v | none => False) else False
def q_max (a b : Int32) : Int32 := if a < b then b else a
def q_min (a b : Int32) : Int32 := if b < a then b else a
theorem Wp_getfield {idx ci k pl a : Nat} (hf : sm_fetch y pc = some (.getfield idx)) (hl : sm_look sm_ft (sm_oc y) idx = some (ci, k, pl)) : Wp xs y pc L (.ref a :: S) h c z K = q_rd (h.1 a) ci k (fun v => Wp xs y (pc + 3) L (v :: S) h c z K) := by
  unfold q_rd
  by_cases h1 : (h.1 a).1 = ci
  · rw [if_pos h1]
    split
    next v hv => exact Wp_next (q := (pc + 3, L, v :: S, h, c, z)) hf (by simp only [sm_act, hl, sm_r1, h1, if_pos, hv]; rfl)
    next hv => exact Wp_stop hf (by simp only [sm_act, hl, sm_r1, h1, if_pos, hv])
  · rw [if_neg h1]
    exact Wp_stop hf (by simp only [sm_act, hl, sm_r1, if_neg h1])
theorem Wp_putfield {idx ci k pl a : Nat} {v : Value} (hf : sm_fetch y pc = some (.putfield idx)) (hl : sm_look sm_ft (sm_oc y) idx = some (ci, k, pl)) (hfit : fits (sm_ty ci k) v = true) (hfin : (sm_T ci k).2.2.2 = false ∨ ((sm_nm y).name = "<init>" ∧ (sm_T ci k).1 = sm_cn (sm_oc y))) : Wp xs y pc L (v :: .ref a :: S) h c z K = q_wr (h.1 a) ci (fun fs => Wp xs y (pc + 3) L S (sm_up h a (ci, fs.set k v)) c z K) := by
  unfold q_wr
  by_cases h1 : (h.1 a).1 = ci
  · rw [if_pos h1]
    exact Wp_next (q := (pc + 3, L, S, sm_up h a (ci, (h.1 a).2.set k v), c, z)) hf (by simp only [sm_act, sm_put, hl]; rw [if_pos ⟨h1, hfit, hfin⟩]; rfl)
  · rw [if_neg h1]
    exact Wp_stop hf (by simp only [sm_act, sm_put, hl]; rw [if_neg (fun q => h1 q.1)])
theorem Wp_ldi {ins : Instr} {t a : Nat} {i : Int32} {S0 : List Value} (hf : sm_fetch y pc = some ins) (ha : sm_act xs y ins pc L S0 h c z = sm_ldi t h a i (fun v => sm_nx (pc + 1) L (v :: S) h c z)) : Wp xs y pc L S0 h c z K = q_ld (h.1 a) t i (fun v => Wp xs y (pc + 1) L (v :: S) h c z K) := by
  unfold q_ld
  by_cases h1 : (h.1 a).1 = t ∧ ¬ i < 0
  · rw [if_pos h1]
    split
    next v hv => exact Wp_next (q := (pc + 1, L, v :: S, h, c, z)) hf (by rw [ha]; unfold sm_ldi; rw [if_pos h1]; simp only [hv]; rfl)
    next hv => exact Wp_stop hf (by rw [ha]; unfold sm_ldi; rw [if_pos h1]; simp only [hv])
  · rw [if_neg h1]
    exact Wp_stop hf (by rw [ha]; unfold sm_ldi; rw [if_neg h1])
theorem Wp_iaload {a : Nat} {i : Int32} (hf : sm_fetch y pc = some .iaload) : Wp xs y pc L (.int i :: .ref a :: S) h c z K = q_ld (h.1 a) 10 i (fun v => Wp xs y (pc + 1) L (v :: S) h c z K) := Wp_ldi hf rfl
theorem Wp_laload {a : Nat} {i : Int32} (hf : sm_fetch y pc = some .laload) : Wp xs y pc L (.int i :: .ref a :: S) h c z K = q_ld (h.1 a) 11 i (fun v => Wp xs y (pc + 1) L (v :: S) h c z K) := Wp_ldi hf rfl
theorem Wp_baload {a : Nat} {i : Int32} (hf : sm_fetch y pc = some .baload) : Wp xs y pc L (.int i :: .ref a :: S) h c z K = q_ld (h.1 a) 12 i (fun v => Wp xs y (pc + 1) L (v :: S) h c z K) := Wp_ldi hf rfl
def q_aa (x : sm_Cell) (i : Int32) (f : Value → Prop) : Prop := if x.1 = 13 then q_ld x 13 i f else q_ld x 14 i f
theorem Wp_aaload {a : Nat} {i : Int32} (hf : sm_fetch y pc = some .aaload) : Wp xs y pc L (.int i :: .ref a :: S) h c z K = q_aa (h.1 a) i (fun v => Wp xs y (pc + 1) L (v :: S) h c z K) := by
  unfold q_aa
  by_cases h1 : (h.1 a).1 = 13
  · rw [if_pos h1]
    exact Wp_ldi hf (by simp only [sm_act, sm_ai, h1, if_pos])
  · rw [if_neg h1]
    exact Wp_ldi hf (by simp only [sm_act, sm_ai, h1, if_neg, not_false_eq_true])
theorem Wp_ast {ins : Instr} {t a : Nat} {i : Int32} {v : Value} {ok : Value → Bool} (hf : sm_fetch y pc = some ins) (hok : ok v = true) (ha : sm_act xs y ins pc L (v :: .int i :: .ref a :: S) h c z = sm_ast t (v :: .int i :: .ref a :: S) pc L h c z ok) : Wp xs y pc L (v :: .int i :: .ref a :: S) h c z K = q_st (h.1 a) t i v (fun x => Wp xs y (pc + 1) L S (sm_up h a x) c z K) := by
  unfold q_st
  by_cases h1 : (h.1 a).1 = t ∧ ¬ i < 0 ∧ i.toNatClampNeg < (h.1 a).2.length
  · rw [if_pos h1]
    exact Wp_next (q := (pc + 1, L, S, sm_up h a (t, (h.1 a).2.set i.toNatClampNeg v), c, z)) hf (by rw [ha]; unfold sm_ast; simp only []; rw [if_pos ⟨h1.1, hok, h1.2⟩]; rfl)
  · rw [if_neg h1]
    exact Wp_stop hf (by rw [ha]; unfold sm_ast; simp only []; rw [if_neg (fun q => h1 ⟨q.1, q.2.2⟩)])
theorem Wp_iastore {a : Nat} {i x : Int32} (hf : sm_fetch y pc = some .iastore) : Wp xs y pc L (.int x :: .int i :: .ref a :: S) h c z K = q_st (h.1 a) 10 i (.int x) (fun x => Wp xs y (pc + 1) L S (sm_up h a x) c z K) := Wp_ast (ok := sm_okI) hf rfl rfl
theorem Wp_lastore {a : Nat} {i : Int32} {x : Int64} (hf : sm_fetch y pc = some .lastore) : Wp xs y pc L (.long x :: .int i :: .ref a :: S) h c z K = q_st (h.1 a) 11 i (.long x) (fun x => Wp xs y (pc + 1) L S (sm_up h a x) c z K) := Wp_ast (ok := sm_okL) hf rfl rfl
theorem Wp_bastore {a : Nat} {i x : Int32} (hf : sm_fetch y pc = some .bastore) : Wp xs y pc L (.int x :: .int i :: .ref a :: S) h c z K = q_01 x (q_st (h.1 a) 12 i (.int x) (fun x => Wp xs y (pc + 1) L S (sm_up h a x) c z K)) := by
  unfold q_01
  by_cases hx : x = 0 ∨ x = 1
  · rw [if_pos hx]
    exact Wp_ast (ok := sm_okZ) hf (decide_eq_true hx) rfl
  · rw [if_neg hx]
    exact Wp_stop hf (by simp only [sm_act, sm_ast]; rw [if_neg (fun q => hx (of_decide_eq_true q.2.1))])
theorem Wp_alen {a : Nat} (hf : sm_fetch y pc = some .arraylength) : Wp xs y pc L (.ref a :: S) h c z K = q_len (h.1 a) (fun v => Wp xs y (pc + 1) L (.int v :: S) h c z K) := by
  unfold q_len
  by_cases h1 : 10 ≤ (h.1 a).1 ∧ (h.1 a).1 ≤ 14
  · rw [if_pos h1]
    exact Wp_next (q := (pc + 1, L, .int (Int32.ofNat (h.1 a).2.length) :: S, h, c, z)) hf (by simp only [sm_act, sm_alen]; rw [if_pos h1]; rfl)
  · rw [if_neg h1]
    exact Wp_stop hf (by simp only [sm_act, sm_alen]; rw [if_neg h1])
theorem Wp_slen {a : Nat} (hf : sm_fetch sm_law pc = some .arraylength) : Wp xs sm_law pc L (.retAddr a :: S) h c z K = Wp xs sm_law (pc + 1) L (.int (Int32.ofNat xs.length) :: S) h c z K := Wp_next (q := (pc + 1, L, .int (Int32.ofNat xs.length) :: S, h, c, z)) hf (by simp only [sm_act, sm_alen, if_pos]; rfl)
theorem Wp_sld {a : Nat} {i : Int32} (hf : sm_fetch sm_law pc = some .iaload) : Wp xs sm_law pc L (.int i :: .retAddr a :: S) h c z K = q_xs xs i (fun v => Wp xs sm_law (pc + 1) L (.int v :: S) h c z K) := by
  unfold q_xs
  by_cases h1 : ¬ i < 0
  · rw [if_pos h1]
    split
    next v hv => exact Wp_next (q := (pc + 1, L, .int v :: S, h, c, z)) hf (by simp only [sm_act, sm_iald]; rw [if_pos ⟨trivial, h1⟩]; simp only [hv]; rfl)
    next hv => exact Wp_stop hf (by simp only [sm_act, sm_iald]; rw [if_pos ⟨trivial, h1⟩]; simp only [hv])
  · rw [if_neg h1]
    exact Wp_stop hf (by simp only [sm_act, sm_iald]; rw [if_neg (fun q => h1 q.2)])
theorem Wp_idiv {a b : Int32} (hf : sm_fetch y pc = some .idiv) : Wp xs y pc L (.int b :: .int a :: S) h c z K = q_nz b (Wp xs y (pc + 1) L (.int (a / b) :: S) h c z K) := by
  unfold q_nz
  by_cases h1 : b = 0
  · rw [if_pos h1]
    exact Wp_stop hf (by simp only [sm_act, sm_i2]; rw [if_pos h1])
  · rw [if_neg h1]
    exact Wp_next (q := (pc + 1, L, .int (a / b) :: S, h, c, z)) hf (by simp only [sm_act, sm_i2]; rw [if_neg h1]; rfl)
theorem Wp_irem {a b : Int32} (hf : sm_fetch y pc = some .irem) : Wp xs y pc L (.int b :: .int a :: S) h c z K = q_nz b (Wp xs y (pc + 1) L (.int (a - a / b * b) :: S) h c z K) := by
  unfold q_nz
  by_cases h1 : b = 0
  · rw [if_pos h1]
    exact Wp_stop hf (by simp only [sm_act, sm_i2]; rw [if_pos h1])
  · rw [if_neg h1]
    exact Wp_next (q := (pc + 1, L, .int (a - a / b * b) :: S, h, c, z)) hf (by simp only [sm_act, sm_i2]; rw [if_neg h1]; rfl)
theorem Wp_br {ins : Instr} {S0 : List Value} {P : Prop} [Decidable P] {off : Int} {t : Nat} {bb : Bool} (hf : sm_fetch y pc = some ins) (ht : (pc : Int) + off = (t : Int)) (hb : bb = decide P) (ha : sm_act xs y ins pc L S0 h c z = sm_br bb pc off (fun t => sm_nx t L S h c z)) : Wp xs y pc L S0 h c z K = if P then Wp xs y t L S h c z K else Wp xs y (pc + 3) L S h c z K := by
  have h0 : 0 ≤ (pc : Int) + off := by omega
  have e0 : ((pc : Int) + off).toNat = t := by omega
  by_cases hP : P
  · rw [if_pos hP]
    exact Wp_next (q := (t, L, S, h, c, z)) hf (by rw [ha, hb]; unfold sm_br sm_jmp; rw [if_pos h0]; dsimp only; rw [if_pos (decide_eq_true hP), e0]; rfl)
  · rw [if_neg hP]
    exact Wp_next (q := (pc + 3, L, S, h, c, z)) hf (by rw [ha, hb]; unfold sm_br sm_jmp; rw [if_pos h0]; dsimp only; rw [if_neg (by simp [hP])]; rfl)
theorem Wp_goto {off : Int} {t : Nat} (hf : sm_fetch y pc = some (.goto off)) (ht : (pc : Int) + off = (t : Int)) : Wp xs y pc L S h c z K = Wp xs y t L S h c z K := by
  have h0 : 0 ≤ (pc : Int) + off := by omega
  have e0 : ((pc : Int) + off).toNat = t := by omega
  exact Wp_next (q := (t, L, S, h, c, z)) hf (by simp only [sm_act, sm_jmp]; rw [if_pos h0, e0]; rfl)
theorem Wp_ret01 {v : Int32} (hf : sm_fetch y pc = some .ireturn) (hr : sm_rt y = some .boolean) : Wp xs y pc L [.int v] h c z K = q_01 v (K (some (.int v)) h) := by
  unfold q_01
  by_cases hv : v = 0 ∨ v = 1
  · rw [if_pos hv]
    exact Wp_ret hf rfl (by simp only [sm_act]; rw [if_pos (Or.inr ⟨hr, hv⟩)])
  · rw [if_neg hv]
    refine Wp_stop hf (by simp only [sm_act]; rw [if_neg]; rintro (q | q); rw [hr] at q; cases q; exact hv q.2)
theorem Wp_iret {v : Int32} (hf : sm_fetch y pc = some .ireturn) (hr : sm_rt y = some .int) : Wp xs y pc L [.int v] h c z K = K (some (.int v)) h := Wp_ret hf rfl (by simp only [sm_act]; rw [if_pos (Or.inl hr)])
theorem Wp_virt {idx y' n a : Nat} {ps : Nat × Nat × Nat × Nat} {S0 as : List Value} (hf : sm_fetch y pc = some (.invokevirtual idx)) (hl : sm_look sm_ct (sm_oc y) idx = some (y', n, 1, ps)) (hS : S0 = as.reverse ++ .ref a :: S) (hn : as.length = n)
    (hc : (y' < sm_law ∧ sm_lv y' < sm_lv y) ∧ (S.map fun v => v.category).sum ≤ 8 ∧ c + sm_mc y' ≤ sm_mc y ∧ z + sm_ms y' ≤ sm_ms y ∧ (sm_wide (.ref a :: as)).length ≤ sm_ml y') :
    Wp xs y pc L S0 h c z K = q_is (h.1 a) (sm_oc y') (Wp xs y' 0 (sm_init (sm_ml y') (.ref a :: as)) [] h 0 0 (fun r h' => Wp xs y (pc + 3) L (psh r S) h' (c + sm_mc y') (z + sm_ms y') K)) := by
  have e1 : S0.take n = as.reverse := by rw [hS, List.take_left' (by rw [List.length_reverse, hn])]
  have e2 : S0.drop n = .ref a :: S := by rw [hS, List.drop_left' (by rw [List.length_reverse, hn])]
  have e3 : n ≤ S0.length := by rw [hS, List.length_append, List.length_reverse, hn]; omega
  unfold q_is
  by_cases h1 : (h.1 a).1 = sm_oc y'
  · rw [if_pos h1]
    exact Wp_call hf rfl (by simp only [sm_act, sm_inv, hl, e1, e2, sm_r1, List.reverse_reverse]; rw [if_pos e3, if_pos h1]; unfold sm_call; rw [if_pos hc])
  · rw [if_neg h1]
    exact Wp_stop hf (by simp only [sm_act, sm_inv, hl, e1, e2, sm_r1, List.reverse_reverse]; rw [if_pos e3, if_neg h1])
theorem Wp_stat {idx y' n : Nat} {ps : Nat × Nat × Nat × Nat} {S0 as : List Value} (hf : sm_fetch y pc = some (.invokestatic idx)) (hl : sm_look sm_ct (sm_oc y) idx = some (y', n, 0, ps)) (hS : S0 = as.reverse ++ S) (hn : as.length = n)
    (hc : (y' < sm_law ∧ sm_lv y' < sm_lv y) ∧ (S.map fun v => v.category).sum ≤ 8 ∧ c + sm_mc y' ≤ sm_mc y ∧ z + sm_ms y' ≤ sm_ms y ∧ (sm_wide as).length ≤ sm_ml y') :
    Wp xs y pc L S0 h c z K = Wp xs y' 0 (sm_init (sm_ml y') as) [] h 0 0 (fun r h' => Wp xs y (pc + 3) L (psh r S) h' (c + sm_mc y') (z + sm_ms y') K) := by
  have e1 : S0.take n = as.reverse := by rw [hS, List.take_left' (by rw [List.length_reverse, hn])]
  have e2 : S0.drop n = S := by rw [hS, List.drop_left' (by rw [List.length_reverse, hn])]
  have e3 : n ≤ S0.length := by rw [hS, List.length_append, List.length_reverse, hn]; omega
  exact Wp_call hf rfl (by simp only [sm_act, sm_inv, hl, e1, e2, List.reverse_reverse]; rw [if_pos e3]; unfold sm_call; rw [if_pos hc])
theorem Wp_max {idx y' n : Nat} {ps : Nat × Nat × Nat × Nat} {a b : Int32} (hf : sm_fetch y pc = some (.invokestatic idx)) (hl : sm_look sm_ct (sm_oc y) idx = some (y', n, 6, ps)) (hc : (S.map fun v => v.category).sum ≤ 8 ∧ 0 < sm_lv y) : Wp xs y pc L (.int b :: .int a :: S) h c z K = Wp xs y (pc + 3) L (.int (q_max a b) :: S) h c z K := Wp_next (q := (pc + 3, L, .int (q_max a b) :: S, h, c, z)) hf (by simp only [sm_act, sm_inv, hl, sm_i2]; rw [if_pos hc]; rfl)
theorem Wp_min {idx y' n : Nat} {ps : Nat × Nat × Nat × Nat} {a b : Int32} (hf : sm_fetch y pc = some (.invokestatic idx)) (hl : sm_look sm_ct (sm_oc y) idx = some (y', n, 7, ps)) (hc : (S.map fun v => v.category).sum ≤ 8 ∧ 0 < sm_lv y) : Wp xs y pc L (.int b :: .int a :: S) h c z K = Wp xs y (pc + 3) L (.int (q_min a b) :: S) h c z K := Wp_next (q := (pc + 3, L, .int (q_min a b) :: S, h, c, z)) hf (by simp only [sm_act, sm_inv, hl, sm_i2]; rw [if_pos hc]; rfl)
theorem Wp_cpy {idx y' n0 a a0 : Nat} {ps : Nat × Nat × Nat × Nat} {n : Int32} (hf : sm_fetch y pc = some (.invokestatic idx)) (hl : sm_look sm_ct (sm_oc y) idx = some (y', n0, 5, ps)) (hc : (S.map fun v => v.category).sum ≤ 8 ∧ 0 < sm_lv y) : Wp xs y pc L (.int n :: .int 0 :: .ref a :: .int 0 :: .ref a0 :: S) h c z K = q_cp (h.1 a) (h.1 a0) n (fun x => Wp xs y (pc + 3) L S (sm_up h a x) c z K) := by
  unfold q_cp
  by_cases h1 : ¬ n < 0 ∧ (h.1 a).1 = 10 ∧ (h.1 a0).1 = 10 ∧ n.toNatClampNeg = (h.1 a).2.length ∧ n.toNatClampNeg = (h.1 a0).2.length
  · rw [if_pos h1]
    exact Wp_next (q := (pc + 3, L, S, sm_up h a (10, (h.1 a0).2), c, z)) hf (by simp only [sm_act, sm_inv, hl, sm_cpy, true_and]; rw [if_pos ⟨⟨h1.1, hc.2⟩, h1.2.1, h1.2.2.1, h1.2.2.2.1, h1.2.2.2.2, hc.1⟩]; rfl)
  · rw [if_neg h1]
    exact Wp_stop hf (by simp only [sm_act, sm_inv, hl, sm_cpy, true_and]; rw [if_neg (fun q => h1 ⟨q.1.1, q.2.1, q.2.2.1, q.2.2.2.1, q.2.2.2.2.1⟩)])
end WPE
