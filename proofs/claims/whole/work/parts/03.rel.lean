/-! WHAT THE SMALL MACHINE'S STATES ARE ON THE MACHINE: cell a lies at bs + a; the law's script at b -/
def sm_mv (bs b : Nat) : Value → Value
  | .ref a => .ref (bs + a)
  | .retAddr _ => .ref b
  | v => v
theorem sm_mv_cat (bs b : Nat) (v : Value) : (sm_mv bs b v).category = v.category := by cases v <;> rfl
theorem sm_mv_sum (bs b : Nat) (S : List Value) : ((S.map (sm_mv bs b)).map fun v => v.category).sum = (S.map fun v => v.category).sum := by
  rw [List.map_map]
  congr 1
  apply List.map_congr_left
  intro v _
  exact sm_mv_cat bs b v
def sm_LR (bs b : Nat) (ls : Array Slot) (L : List Value) : Prop := ls.size = L.length ∧ lv_wf ls ∧ ∀ (i : Nat) (v : Value), L[i]? = some v → v ≠ .null → ls[i]? = some (.val (sm_mv bs b v))
def sm_al (bs b : Nat) (L : List Value) : List (Nat × Value) := L.zipIdx.filterMap (fun q => if q.1 = .null then none else some (q.2, sm_mv bs b q.1))
theorem sm_al_mem {bs b : Nat} {L : List Value} {i : Nat} {w : Value} : (i, w) ∈ sm_al bs b L ↔ ∃ v, L[i]? = some v ∧ v ≠ .null ∧ w = sm_mv bs b v := by
  unfold sm_al
  rw [List.mem_filterMap]
  constructor
  · rintro ⟨⟨v, j⟩, h1, h2⟩
    rw [List.mk_mem_zipIdx_iff_getElem?] at h1
    by_cases hv : v = .null
    · simp [hv] at h2
    · simp [hv] at h2
      obtain ⟨rfl, rfl⟩ := h2
      exact ⟨v, h1, hv, rfl⟩
  · rintro ⟨v, h1, h2, rfl⟩
    exact ⟨(v, i), List.mk_mem_zipIdx_iff_getElem?.mpr h1, by simp [h2]⟩
theorem sm_LR_has {bs b : Nat} {ls : Array Slot} {L : List Value} (h : sm_LR bs b ls L) : lv_has ls L.length (sm_al bs b L) := by
  refine ⟨h.1, h.2.1, fun q hq => ?_⟩
  obtain ⟨i, w⟩ := q
  obtain ⟨v, h1, h2, rfl⟩ := sm_al_mem.mp hq
  exact h.2.2 i v h1 h2
theorem sm_isJ_cat {v : Value} (h : sm_isJ v = false) : v.category = 1 := by cases v <;> first | rfl | (simp [sm_isJ] at h)
theorem sm_LR_set {bs b : Nat} {ls' : Array Slot} {L : List Value} {i : Nat} {v : Value} (h : lv_has ls' L.length ((i, sm_mv bs b v) :: (sm_al bs b L).filter (fun q => !(q.1 == i) && !(q.1 + 1 == i && q.2.category == 2)))) (hp : sm_pj L i = false) : sm_LR bs b ls' (L.set i v) := by
  refine ⟨by rw [List.length_set]; exact h.1, h.2.1, fun j w hj hw => ?_⟩
  by_cases e : i = j
  · subst e
    by_cases hl : i < L.length
    · rw [List.getElem?_set_self hl] at hj
      cases hj
      exact h.2.2 _ List.mem_cons_self
    · rw [List.getElem?_eq_none (by rw [List.length_set]; omega)] at hj
      cases hj
  · rw [List.getElem?_set_ne e] at hj
    refine h.2.2 (j, sm_mv bs b w) (List.mem_cons_of_mem _ (List.mem_filter.mpr ⟨sm_al_mem.mpr ⟨w, hj, hw, rfl⟩, ?_⟩))
    have e1 : (j == i) = false := by simp [Ne.symm e]
    by_cases e2 : j + 1 = i
    · subst e2
      have : sm_isJ w = false := by
        have h2 : sm_isJ (L.getD j .null) = false := hp
        rw [List.getD_eq_getElem?_getD, hj] at h2
        exact h2
      have hc := sm_isJ_cat this
      simp [sm_mv_cat, hc]
    · simp [Ne.symm e, e2]
theorem sm_LR_set2 {bs b : Nat} {ls' : Array Slot} {L : List Value} {i : Nat} {v : Value} (hl : i + 1 < L.length) (h : lv_has ls' L.length ((i, sm_mv bs b v) :: (sm_al bs b L).filter (fun q => !(q.1 == i) && (!(q.1 == i + 1) && !(q.1 + 1 == i && q.2.category == 2))))) (hp : sm_pj L i = false) : sm_LR bs b ls' ((L.set i v).set (i + 1) .null) := by
  refine ⟨by rw [List.length_set, List.length_set]; exact h.1, h.2.1, fun j w hj hw => ?_⟩
  by_cases e0 : i + 1 = j
  · subst e0
    rw [List.getElem?_set_self (by rw [List.length_set]; exact hl)] at hj
    cases hj
    exact absurd rfl hw
  rw [List.getElem?_set_ne e0] at hj
  by_cases e : i = j
  · subst e
    rw [List.getElem?_set_self (by omega)] at hj
    cases hj
    exact h.2.2 _ List.mem_cons_self
  · rw [List.getElem?_set_ne e] at hj
    refine h.2.2 (j, sm_mv bs b w) (List.mem_cons_of_mem _ (List.mem_filter.mpr ⟨sm_al_mem.mpr ⟨w, hj, hw, rfl⟩, ?_⟩))
    by_cases e2 : j + 1 = i
    · subst e2
      have : sm_isJ w = false := by
        have h2 : sm_isJ (L.getD j .null) = false := hp
        rw [List.getD_eq_getElem?_getD, hj] at h2
        exact h2
      have hc := sm_isJ_cat this
      simp [sm_mv_cat, hc]
      omega
    · simp [Ne.symm e, Ne.symm e0, e2]
/-! cells -/
def sm_kd : Nat → Option FieldType
  | 10 => some .int
  | 11 => some .long
  | 12 => some .boolean
  | 13 => some (.array .int)
  | 14 => some (.object "TwoPrints$Prints")
  | _ => none
def sm_vk : Nat → Value → Bool
  | 10, .int _ => true
  | 11, .long _ => true
  | 12, .int _ => true
  | 13, .ref _ => true
  | 14, .ref _ => true
  | 14, .null => true
  | _, _ => false
def sm_AR (bs b : Nat) (s : State) (x : sm_Cell) (q : Option Cell) : Prop := ∃ (ty : FieldType) (cA : ClassId) (zf : Nat → Value), sm_kd x.1 = some ty ∧ ArrOfT s cA ty ∧ va_RA s cA ty ∧ q = some (arrV cA x.2.length zf) ∧ ∀ (j : Nat) (v : Value), x.2[j]? = some v → zf j = sm_mv bs b v ∧ sm_vk x.1 v = true
def sm_OR (D : va_G) (bs b : Nat) (x : sm_Cell) (q : Option Cell) : Prop := x.1 < 7 ∧ x.2.length = sm_N x.1 ∧ ∃ cell : Cell, q = some cell ∧ cell.cls = D.1 x.1 ∧ cell.vm = .none ∧ ∀ (k : Nat) (v : Value), x.2[k]? = some v → cell.slots[D.2 x.1 k]? = some (sm_mv bs b v)
def sm_CR (D : va_G) (bs b : Nat) (s : State) (x : sm_Cell) (q : Option Cell) : Prop := sm_OR D bs b x q ∨ sm_AR bs b s x q
def sm_HR (D : va_G) (bs b : Nat) (s : State) (H : Heap) (h : sm_Hp) : Prop := H.size = bs + h.2 ∧ (∀ a, a < h.2 → sm_CR D bs b s (h.1 a) H[bs + a]?) ∧ ∀ a, h.2 ≤ a → (h.1 a).1 = 99
theorem sm_AR.moved {bs b : Nat} {s U : State} {x : sm_Cell} {q : Option Cell} (hvm : s.vm.Alike U.vm) (h : sm_AR bs b s x q) : sm_AR bs b U x q := by
  obtain ⟨ty, cA, zf, h1, h2, h3, h4⟩ := h
  exact ⟨ty, cA, zf, h1, arrOfT_moved hvm h2, h3.moved hvm, h4⟩
theorem sm_HR.moved {D : va_G} {bs b : Nat} {s U : State} {H : Heap} {h : sm_Hp} (hvm : s.vm.Alike U.vm) (hh : sm_HR D bs b s H h) : sm_HR D bs b U H h :=
  ⟨hh.1, fun a ha => (hh.2.1 a ha).elim Or.inl (fun q => Or.inr (q.moved hvm)), hh.2.2⟩
theorem sm_HR.lt {D : va_G} {bs b : Nat} {s : State} {H : Heap} {h : sm_Hp} (hh : sm_HR D bs b s H h) {a : Nat} (ha : (h.1 a).1 ≠ 99) : a < h.2 := Nat.not_le.mp (fun q => ha (hh.2.2 a q))
theorem sm_HR.obj {D : va_G} {bs b : Nat} {s : State} {H : Heap} {h : sm_Hp} (hh : sm_HR D bs b s H h) {a ci : Nat} (ha : (h.1 a).1 = ci) (hc : ci < 7) : a < h.2 ∧ sm_OR D bs b (h.1 a) H[bs + a]? := by
  have hl : a < h.2 := hh.lt (by omega)
  refine ⟨hl, (hh.2.1 a hl).elim id (fun q => ?_)⟩
  obtain ⟨ty, cA, zf, h1, -⟩ := q
  exfalso
  rw [ha] at h1
  revert h1 hc
  match ci with
  | 0 | 1 | 2 | 3 | 4 | 5 | 6 => intro _ h; exact nomatch h
  | n + 7 => intro h h2; omega
theorem sm_HR.arr {D : va_G} {bs b : Nat} {s : State} {H : Heap} {h : sm_Hp} (hh : sm_HR D bs b s H h) {a t : Nat} (ha : (h.1 a).1 = t) (h1 : 10 ≤ t) (h2 : t ≤ 14) : a < h.2 ∧ sm_AR bs b s (h.1 a) H[bs + a]? := by
  have hl : a < h.2 := hh.lt (by omega)
  refine ⟨hl, (hh.2.1 a hl).elim (fun q => ?_) id⟩
  have := q.1
  omega
/-- one cell is another -/
theorem sm_HR.set {D : va_G} {bs b : Nat} {s : State} {H H1 : Heap} {h : sm_Hp} (hh : sm_HR D bs b s H h) {a : Nat} (ha : a < h.2) (x : sm_Cell) (hz : H1.size = H.size) (ho : ∀ q, q ≠ bs + a → H1[q]? = H[q]?) (hx : sm_CR D bs b s x H1[bs + a]?) : sm_HR D bs b s H1 (sm_up h a x) := by
  refine ⟨hz.trans hh.1, fun q hq => ?_, fun q hq => ?_⟩
  · show sm_CR D bs b s (if q = a then x else h.1 q) _
    by_cases e : q = a
    · subst e
      rw [if_pos rfl]
      exact hx
    · rw [if_neg e, ho _ (by omega)]
      exact hh.2.1 q hq
  · show (if q = a then x else h.1 q).1 = 99
    have hq' : h.2 ≤ q := hq
    rw [if_neg (by omega)]
    exact hh.2.2 q hq
theorem sm_HR.push {D : va_G} {bs b : Nat} {s : State} {H H1 : Heap} {h : sm_Hp} (hh : sm_HR D bs b s H h) (x : sm_Cell) (hz : H1.size = H.size + 1) (ho : ∀ q, q < H.size → H1[q]? = H[q]?) (hx : sm_CR D bs b s x H1[H.size]?) : sm_HR D bs b s H1 (sm_new h x) := by
  have h1 := hh.1
  refine ⟨?_, fun q hq => ?_, fun q hq => ?_⟩
  · show H1.size = bs + (h.2 + 1)
    omega
  · show sm_CR D bs b s (if q = h.2 then x else h.1 q) _
    have hq' : q < h.2 + 1 := hq
    by_cases e : q = h.2
    · subst e
      rw [if_pos rfl, ← h1]
      exact hx
    · rw [if_neg e, ho _ (by omega)]
      exact hh.2.1 q (by omega)
  · show (if q = h.2 then x else h.1 q).1 = 99
    have hq' : h.2 + 1 ≤ q := hq
    rw [if_neg (by omega)]
    exact hh.2.2 q (by omega)
/-! what a method's walk stands on -/
def sm_KN (D : va_G) (s : State) : Prop := ∀ ci, ci < 7 → u_Kn s (sm_cn ci) (sm_T ci) (sm_N ci) (D.1 ci) (D.2 ci)
theorem sm_KN.moved {D : va_G} {s U : State} (hvm : s.vm.Alike U.vm) (h : sm_KN D s) : sm_KN D U := fun ci hc => u_Kn_moved hvm (h ci hc)
def sm_NW (s : State) : Prop := (∀ r ∈ sm_ct, r.2.2.2.2.1 = 3 → va_Nw (.methodLinkNest (sm_cn r.1) r.2.1 (sm_nm r.2.2.1) "TwoPrints") s) ∧ va_AO "TwoPrints$Prints" s ∧ (Cond.arrayOver (.array .int)).before #[] s = true
theorem sm_NW.warm {s U : State} (hW : s.WarmedH U.vm) (h : sm_NW s) : sm_NW U := ⟨fun r hr hk => va_Nw.warmM hW (h.1 r hr hk), h.2.1.moved hW.alike, mu_alike hW.alike h.2.2⟩
theorem sm_uw (ci : Nat) (hc : ci < 7) : ∀ w ∈ u_ws (sm_cn ci) (sm_T ci) (sm_N ci), w ∈ sm_tb := by
  have key : ∀ (ws : List Cond) (ps : List Nat), ws = ps.filterMap (fun i => lw_tbl[i]?) → ws.all goodWord = true → ∀ w ∈ ws, w ∈ sm_tb := by
    intro ws ps h1 h2 w hw
    have g := List.all_eq_true.mp h2 w hw
    rw [h1] at hw
    obtain ⟨i, -, hi⟩ := List.mem_filterMap.mp hw
    exact sm_in hi g
  match ci, hc with
  | 0, _ => exact key _ _ sm_fw0 sm_fg0
  | 1, _ => exact key _ _ sm_fw1 sm_fg1
  | 2, _ => exact key _ _ sm_fw2 sm_fg2
  | 3, _ => exact key _ _ sm_fw3 sm_fg3
  | 4, _ => exact key _ _ sm_fw4 sm_fg4
  | 5, _ => exact key _ _ sm_fw5 sm_fg5
  | 6, _ => exact key _ _ sm_fw6 sm_fg6
  | n + 7, h => exact absurd h (by omega)
theorem sm_names (ci : Nat) (hc : ci < 7) : ∀ a, a < sm_N ci → ∀ b, b < sm_N ci → a ≠ b → (sm_T ci a).2.1 ≠ (sm_T ci b).2.1 := by
  match ci, hc with
  | 0, _ => exact sm_nm0
  | 1, _ => exact sm_nm1
  | 2, _ => exact sm_nm2
  | 3, _ => exact sm_nm3
  | 4, _ => exact sm_nm4
  | 5, _ => exact sm_nm5
  | 6, _ => exact sm_nm6
  | n + 7, h => exact absurd h (by omega)
theorem sm_types (ci : Nat) (hc : ci < 7) : ∀ k, k < sm_N ci → parseFieldDescriptor (sm_T ci k).2.2.1 = some (sm_ty ci k) := by
  match ci, hc with
  | 0, _ => exact sm_tk0
  | 1, _ => exact sm_tk1
  | 2, _ => exact sm_tk2
  | 3, _ => exact sm_tk3
  | 4, _ => exact sm_tk4
  | 5, _ => exact sm_tk5
  | 6, _ => exact sm_tk6
  | n + 7, h => exact absurd h (by omega)
def sm_R (y : Nat) : Room := { frames := sm_lv y, cells := sm_mc y, slots := sm_ms y, locals := 34 * sm_lv y }
def sm_Cx (p : Program) (D : va_G) (s : State) (m : MethodId) (args : Array Value) (meth : Method) (c : Code) (y : Nat) : Prop :=
  p.tables.exec = Jvm.exec ∧ c.code = sm_cd y ∧ c.maxLocals = sm_ml y ∧ s.vm.findClass (sm_cn (sm_oc y)) = some m.cls ∧ (∀ w ∈ sm_tb, w.before args s = true) ∧ sm_NW s ∧ sm_KN D s ∧ ((sm_nm y).name = "<init>" → meth.name = "<init>")
def sm_A (bs : Nat) : Nat → Prop := fun q => bs ≤ q
/-- the script is there, for the law -/
def sm_X (b bs : Nat) (xs : List Int32) (y : Nat) (s : State) : Prop := y = sm_law → va_X b xs.length (fun j => xs.getD j 0) s s.heap ∧ b < s.heap.size ∧ b < bs
def sm_go (p : Program) (l : Launch) (e : Env) (s : State) (m : MethodId) (args : Array Value) (below : List Frame) (meth : Method) (c : Code) (Q : State → Prop) (D : va_G) (bs b y : Nat) (q : sm_Cf) : Prop :=
  ∀ (ls : Array Slot) (H : Heap) (locs : List Loc), sm_LR bs b ls q.2.1 → q.2.1.length = sm_ml y → sm_HR D bs b s H q.2.2.2.1 → va_S (sm_A bs) s.heap H locs → q.2.2.2.2.1 ≤ sm_mc y → q.2.2.2.2.2 ≤ sm_ms y → W p l e (sm_R y) s m args below meth c H locs q.2.2.2.2.1 q.2.2.2.2.2 Q (F0 m q.1 ls (q.2.2.1.map (sm_mv bs b)))
