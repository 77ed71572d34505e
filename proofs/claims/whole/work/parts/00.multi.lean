/-! TWO DIMENSIONS OF INTS AT ONCE: what multianewarray does, read off its own body, over the narrow library alone -/
/-- the rows that the outer array holds when i of them are made (it lies at h, the rows behind it) -/
def mu_z (h i : Nat) : Nat → Value := fun j => if j < i then .ref (h + 1 + j) else .null
theorem mu_z0 (h : Nat) : mu_z h 0 = fun _ => .null := funext fun j => if_neg (Nat.not_lt_zero j)
theorem mu_zS (h i : Nat) : updV (mu_z h i) i (.ref (h + 1 + i)) = mu_z h (i + 1) := by
  funext j
  unfold updV mu_z
  by_cases e : j = i
  · subst e
    rw [if_pos rfl, if_pos (Nat.lt_succ_self j)]
  · rw [if_neg e]
    by_cases g : j < i
    · rw [if_pos g, if_pos (Nat.lt_succ_of_lt g)]
    · rw [if_neg g, if_neg (by omega)]
/-- the state when i rows are made -/
def mu_S (s : State) (cA comp : ClassId) (N M : Nat) : Nat → State
  | 0 => s.pushCell (arrV cA N (mu_z s.heap.size 0))
  | i + 1 => ((mu_S s cA comp N M i).pushCell (arrV comp M (fun _ => .int 0))).setCell s.heap.size (arrV cA N (mu_z s.heap.size (i + 1)))
section MU
variable (s : State) (cA comp : ClassId) (N M : Nat)
theorem mu_vm : ∀ i : Nat, (mu_S s cA comp N M i).vm = s.vm
  | 0 => rfl
  | i + 1 => mu_vm i
theorem mu_top : ∀ i : Nat, (mu_S s cA comp N M i).topJava? = s.topJava?
  | 0 => rfl
  | i + 1 => mu_top i
theorem mu_used : ∀ i : Nat, (mu_S s cA comp N M i).slotsUsed = s.slotsUsed + N + i * M
  | 0 => by
    show s.slotsUsed + (arrV cA N (mu_z s.heap.size 0)).slots.size = _
    rw [arrV_size, Nat.zero_mul, Nat.add_zero]
  | i + 1 => by
    show (mu_S s cA comp N M i).slotsUsed + (arrV comp M (fun _ => .int 0)).slots.size = _
    rw [arrV_size, mu_used i, Nat.succ_mul, Nat.add_assoc]
theorem mu_size : ∀ i : Nat, (mu_S s cA comp N M i).heap.size = s.heap.size + 1 + i
  | 0 => by
    show (s.heap.push _).size = _
    rw [Array.size_push]
  | i + 1 => by
    show (((mu_S s cA comp N M i).heap.push _).setIfInBounds _ _).size = _
    rw [Array.size_setIfInBounds, Array.size_push, mu_size i]; rfl
theorem mu_frame (f : JFrame) : ∀ i : Nat, mu_S (s.setTop f) cA comp N M i = (mu_S s cA comp N M i).setTop f
  | 0 => rfl
  | i + 1 => by
    show ((mu_S (s.setTop f) cA comp N M i).pushCell _).setCell s.heap.size _ = _
    rw [mu_frame f i]
    rfl
theorem mu_out : ∀ i : Nat, (mu_S s cA comp N M i).heap[s.heap.size]? = some (arrV cA N (mu_z s.heap.size i))
  | 0 => Array.getElem?_push_size
  | i + 1 => by
    show (((mu_S s cA comp N M i).heap.push _).setIfInBounds s.heap.size _)[s.heap.size]? = _
    have hz := mu_size s cA comp N M i
    rw [Array.getElem?_setIfInBounds, if_pos rfl, if_pos (by rw [Array.size_push]; omega)]
theorem mu_old (a : Nat) (ha : a < s.heap.size) : ∀ i : Nat, (mu_S s cA comp N M i).heap[a]? = s.heap[a]?
  | 0 => by
    show (s.heap.push _)[a]? = _
    rw [Array.getElem?_push, if_neg (by omega)]
  | i + 1 => by
    show (((mu_S s cA comp N M i).heap.push _).setIfInBounds s.heap.size _)[a]? = _
    have hz := mu_size s cA comp N M i
    rw [Array.getElem?_setIfInBounds, if_neg (by omega), Array.getElem?_push, if_neg (by omega)]
    exact mu_old a ha i
theorem mu_row : ∀ i j : Nat, j < i → (mu_S s cA comp N M i).heap[s.heap.size + 1 + j]? = some (arrV comp M (fun _ => .int 0))
  | 0, j, h => absurd h (Nat.not_lt_zero j)
  | i + 1, j, h => by
    show (((mu_S s cA comp N M i).heap.push _).setIfInBounds s.heap.size _)[s.heap.size + 1 + j]? = _
    have hz := mu_size s cA comp N M i
    rw [Array.getElem?_setIfInBounds, if_neg (by omega), Array.getElem?_push]
    by_cases e : j = i
    · rw [if_pos (by omega)]
    · rw [if_neg (by omega)]
      exact mu_row i j (by omega)
end MU
section MV
variable {E : CtlPost} {e : Env} {d : Bool} {acts : List Action} {s : State}
/-- one row -/
theorem mu_make1 {comp cc : ClassId} {kc : Class} {x : Int32} {Q : Addr → Pre} (hk : s.vm.classes[comp]? = some kc) (hkind : kc.kind = .array cc .int) (hx : ¬ x < 0)
    (hlimit : ¬ x.toNatClampNeg > e.platform.arrayLengthLimit) (hheap : ¬ x.toNatClampNeg * componentBytes .int > e.platform.maxHeapBytes)
    (hcells : s.heap.size < e.platform.maxCells) (hslots : s.slotsUsed + x.toNatClampNeg ≤ e.platform.maxSlots)
    (hq : ∀ acts', Q s.heap.size d acts' (s.pushCell (arrV comp x.toNatClampNeg (fun _ => .int 0)))) : wp (Jvm.Op.multianewarray.make comp [x]) Q E e d acts s := by
  simp only [Jvm.Op.multianewarray.make, wp_bind', hx, if_false, wp_pure', W.theClass, hk, Option.some.injEq, exists_eq_left', hkind]
  refine W.newArray_of hk hkind hlimit hheap hcells hslots rfl (fun acts1 => ?_)
  have h := hq acts1
  rw [← arrV_new] at h
  exact h
/-- the outer array and its rows -/
theorem mu_make2 {cA comp cc : ClassId} {kA kc : Class} {n x : Int32} {Q : Addr → Pre} (hkA : s.vm.classes[cA]? = some kA) (hkindA : kA.kind = .array comp (.array .int))
    (hk : s.vm.classes[comp]? = some kc) (hkind : kc.kind = .array cc .int) (hn : ¬ n < 0) (hx : ¬ x < 0)
    (hlimitA : ¬ n.toNatClampNeg > e.platform.arrayLengthLimit) (hheapA : ¬ n.toNatClampNeg * componentBytes (.array .int) > e.platform.maxHeapBytes)
    (hlimit : ¬ x.toNatClampNeg > e.platform.arrayLengthLimit) (hheap : ¬ x.toNatClampNeg * componentBytes .int > e.platform.maxHeapBytes)
    (hcells : s.heap.size + (1 + n.toNatClampNeg) ≤ e.platform.maxCells) (hslots : s.slotsUsed + (n.toNatClampNeg + n.toNatClampNeg * x.toNatClampNeg) ≤ e.platform.maxSlots)
    (hq : ∀ d' acts', Q s.heap.size d' acts' (mu_S s cA comp n.toNatClampNeg x.toNatClampNeg n.toNatClampNeg)) : wp (Jvm.Op.multianewarray.make cA [n, x]) Q E e d acts s := by
  have hfind : List.find? (fun y : Int32 => decide (y < 0)) [x] = none := by simp [hx]
  rw [Jvm.Op.multianewarray.make]
  simp only [wp_bind', hn, if_false, wp_pure', W.theClass, hkA, Option.some.injEq, exists_eq_left', hkindA]
  refine W.newArray_of hkA hkindA hlimitA hheapA (by omega) (by omega) rfl (fun acts1 => ?_)
  rw [arrV_new, ← mu_z0 s.heap.size]
  simp only [hfind, ite_self]
  generalize hN : n.toNatClampNeg = N at *
  generalize hM : x.toNatClampNeg = M at *
  have hr : List.range' ([:N] : Std.Legacy.Range).start ([:N] : Std.Legacy.Range).size ([:N] : Std.Legacy.Range).step = List.range' 0 N := by simp [Std.Legacy.Range.size]
  rw [wp_bind', Std.Legacy.Range.forIn_eq_forIn_range', hr]
  refine wp_forIn_inv (fun rest s' => ∃ i, i + rest.length = N ∧ rest = List.range' i rest.length ∧ s' = mu_S s cA comp N M i) _ _ ⟨0, by simp, by simp, rfl⟩ ?_ ?_
  · rintro j rest s' d' acts' Q' ⟨i, h1, h2, rfl⟩ hnext
    rw [List.length_cons] at h1 h2
    rw [List.range'_succ] at h2
    obtain ⟨rfl, h3⟩ := List.cons.inj h2
    have hz := mu_size s cA comp N M j
    have hu := mu_used s cA comp N M j
    have hv := mu_vm s cA comp N M j
    have hle : (j + 1) * M ≤ N * M := Nat.mul_le_mul_right M (by omega)
    rw [Nat.succ_mul] at hle
    rw [wp_bind']
    refine mu_make1 (kc := kc) (cc := cc) (by rw [hv]; exact hk) hkind hx (by rw [hM]; exact hlimit) (by rw [hM]; exact hheap) (by omega) (by rw [hM]; omega) (fun acts3 => ?_)
    rw [hM, wp_bind', W.writeLoc]
    refine ⟨arrV cA N (mu_z s.heap.size j), ?_, (by intro h; cases h), by rw [arrV_size]; omega, ?_, ?_⟩
    · show ((mu_S s cA comp N M j).heap.push _)[s.heap.size]? = _
      rw [Array.getElem?_push, if_neg (by omega)]
      exact mu_out s cA comp N M j
    · show (mu_S s cA comp N M j).fitsSlot cA .none j _ = true
      simp [State.fitsSlot, State.slotType?, hv, hkA, hkindA, fits]
    · rw [wp_pure']
      refine hnext _ _ _ ⟨j + 1, by omega, h3, ?_⟩
      show _ = ((mu_S s cA comp N M j).pushCell _).setCell s.heap.size _
      rw [arrV_store, hz, mu_zS]
  · rintro s' d' acts' ⟨i, h1, -, rfl⟩
    have : i = N := by simpa using h1
    subst this
    rw [wp_pure']
    exact hq d' acts'
end MV
theorem mu_alike {args : Array Value} {s U : State} {ty : FieldType} (hal : s.vm.Alike U.vm) (h : (Cond.arrayOver ty).before args s = true) : (Cond.arrayOver ty).before #[] U = true := by
  have h1 := Cond.arrayOver_setVmC (args := args) hal ty
  rw [h] at h1
  exact h1
section MW
variable {p : Program} {l : Launch} {e : Env} {R : Room} {s : State} {m : MethodId} {args : Array Value} {below : List Frame} {meth : Method} {c : Code} {T : State} {H : Heap} {locs : List Loc} {cells slots : Nat} {Q : State → Prop}
theorem mu_stand (X : Stand p l e R s m args below meth c T locs cells slots) (cA comp : ClassId) (N M : Nat) : ∀ i : Nat, ∃ L : List Loc, (∀ q ∈ L, q ∈ locs ∨ q.base = T.heap.size) ∧ Stand p l e R s m args below meth c (mu_S T cA comp N M i) L (cells + 1 + i) (slots + N + i * M)
  | 0 => by
    have X1 := X.pushed (arrV cA N (mu_z T.heap.size 0))
    rw [arrV_size] at X1
    refine ⟨locs, fun q h => Or.inl h, ?_⟩
    rw [Nat.zero_mul]
    exact X1
  | i + 1 => by
    obtain ⟨L, hL, X1⟩ := mu_stand X cA comp N M i
    have hz := mu_size T cA comp N M i
    have X2 := X1.pushed (arrV comp M (fun _ => .int 0))
    have hc : ((mu_S T cA comp N M i).pushCell (arrV comp M (fun _ => .int 0))).heap[T.heap.size]? = some (arrV cA N (mu_z T.heap.size i)) := by
      show ((mu_S T cA comp N M i).heap.push _)[T.heap.size]? = _
      rw [Array.getElem?_push, if_neg (by omega)]
      exact mu_out T cA comp N M i
    have X3 := X2.stored hc i (.ref (T.heap.size + 1 + i))
    rw [arrV_store, mu_zS, arrV_size] at X3
    refine ⟨L ++ [⟨T.heap.size, i⟩], fun q h => ?_, ?_⟩
    · rcases List.mem_append.mp h with h | h
      · exact hL q h
      · rw [List.mem_singleton.mp h]
        exact Or.inr rfl
    · rw [Nat.succ_mul, ← Nat.add_assoc (slots + N), ← Nat.add_assoc (cells + 1)]
      exact X3
/-- multianewarray of two dimensions of ints, both lengths at least 0: the outer array at the heap's end, its rows behind it -/
theorem mu_W {cc : ByteArray} (hexec : p.tables.exec = Jvm.exec) (hb : c.code = cc) {own : String} {index : Nat} (hown : s.vm.findClass own = some m.cls) (hclink : (Cond.classLink own index ("[" ++ (FieldType.array .int).toString)).before args s = true)
    (hover : (Cond.arrayOver (.array .int)).before #[] s = true) (harr : (Cond.arrayClass .int).before args s = true)
    {g : JFrame} (hg : g.method = m) (hdg : decode cc g.pc = .ok (.multianewarray index 2, 4)) {n x : Int32} {N M : Nat} {rest : List Value} (hstack : g.stack = .int x :: .int n :: rest)
    (hn : ¬ n < 0) (hx : ¬ x < 0) (hN : n.toNatClampNeg = N) (hM : x.toNatClampNeg = M) (hb1 : N * 4 ≤ 536870912) (hb2 : M * 4 ≤ 536870912) (hcells : cells + (1 + N) ≤ R.cells) (hslots : slots + (N + N * M) ≤ R.slots)
    (kk : ∀ (cA comp : ClassId) (H' : Heap) (L : List Loc), ArrOfT s cA (.array .int) → ArrOfT s comp .int → s.vm.findClass ("[" ++ (FieldType.array .int).toString) = some cA → s.vm.findClass ("[" ++ FieldType.int.toString) = some comp →
      H'.size = H.size + 1 + N → H'[H.size]? = some (arrV cA N (mu_z H.size N)) → (∀ j : Nat, j < N → H'[H.size + 1 + j]? = some (arrV comp M (fun _ => .int 0))) → (∀ a : Nat, a < H.size → H'[a]? = H[a]?) → (∀ q ∈ L, q ∈ locs ∨ q.base = H.size) →
      W p l e R s m args below meth c H' L (cells + 1 + N) (slots + N + N * M) Q { g with pc := g.pc + 4, stack := .ref H.size :: rest }) : W p l e R s m args below meth c H locs cells slots Q g := by
  intro T hT X
  subst hT hb hg
  have hpl : e.platform.magicAccessors = ({} : Platform).magicAccessors := by rw [X.admits.platform]
  obtain ⟨comp, cA, kA, hcomp, -, hkA, hkindA, hnameA⟩ := arrayOverA_spec hover
  obtain ⟨comp', kC, ci, hcomp', hkC, hkindC⟩ := Cond.arrayClass_spec harr
  cases hcomp.symm.trans (show s.vm.findClass (FieldType.array .int).toString = some comp' from hcomp')
  obtain ⟨cA', hfcA, hcl⟩ := Cond.classLink_spec hown hclink e.platform hpl
  cases hnameA.symm.trans hfcA
  obtain ⟨g1, g2, g3⟩ := State.classEntry (e := e) X.warmed hcl
  generalize T.vm.noted g.method.cls index (.cls cA) = vm1 at g1 g2 g3
  obtain ⟨kA1, hkA1, eA⟩ := g2.alike.2.2 _ _ hkA
  obtain ⟨kC1, hkC1, eC⟩ := g2.alike.2.2 _ _ hkC
  have hkindA1 : kA1.kind = .array comp (.array .int) := by rw [eA]; exact hkindA
  have hkindC1 : kC1.kind = .array ci .int := by rw [eC]; exact hkindC
  obtain ⟨r1, r2⟩ := X.roomAbove hcells hslots
  have l1 : ¬ N > e.platform.arrayLengthLimit := by rw [Launch.admits_arrayLengthLimit X.admits]; omega
  have l2 : ¬ M > e.platform.arrayLengthLimit := by rw [Launch.admits_arrayLengthLimit X.admits]; omega
  have l3 : ¬ N * componentBytes (.array .int) > e.platform.maxHeapBytes := by rw [Launch.admits_maxHeapBytes X.admits]; show ¬ N * 4 > 536870912; omega
  have l4 : ¬ M * componentBytes .int > e.platform.maxHeapBytes := by rw [Launch.admits_maxHeapBytes X.admits]; show ¬ M * 4 > 536870912; omega
  obtain ⟨L, hL, X2⟩ := mu_stand (X.noted g2) cA comp N M N
  obtain ⟨t, a1, b1⟩ := kk cA comp _ L (fun _ _ => ⟨(fun q h => by cases h), kA, hkA, comp, hkindA⟩) (fun _ _ => ⟨(fun q h => by cases h), kC, hkC, ci, hkindC⟩) hnameA hcomp
    (mu_size (T.setVm vm1) cA comp N M N) (mu_out (T.setVm vm1) cA comp N M N) (fun j hj => mu_row (T.setVm vm1) cA comp N M N j hj) (fun a ha => mu_old (T.setVm vm1) cA comp N M a ha N) hL (mu_S (T.setVm vm1) cA comp N M N) rfl X2
  refine ⟨t, ?_, b1⟩
  subst hN hM
  refine Steps.instr (c := c) (by simpa using X.here) ?_
  rw [hdg]
  show wpRun (p.tables.exec (.multianewarray index 2)) _ _ e (T.setTop g)
  rw [hexec]
  show wp (Jvm.Op.multianewarray.sem index 2) _ _ e false [] (T.setTop g)
  rw [Jvm.Op.multianewarray.sem, wp_bind', W.resolveClassAt_transfer (s := T.setTop g) (State.method?_setTop g X.here.top) g1 g3, W.resolveClassAt_ready (s := (T.setTop g).setVm vm1) (m := g.method) (State.method?_setTop g X.here.top) g3]
  have hp : ∀ {Q' : List Value → Pre} {E' : CtlPost} {d' : Bool} {acts' : List Action}, wp (Jvm.popN 2) Q' E' e d' acts' ((T.setVm vm1).setTop g) ↔ Q' [.int n, .int x] true acts' ((T.setVm vm1).setTop { g with stack := rest }) :=
    fun {Q' E' d' acts'} => popN_top (s := T.setVm vm1) (e := e) (d := d') (acts := acts') (Q := Q') (E := E') (args := [.int n, .int x]) X.here.top (by rw [hstack]; rfl)
  rw [State.setVm_setTop, wp_bind', hp]
  simp only [List.mapM_cons, List.mapM_nil, wp_bind', wp_pure']
  refine mu_make2 (kA := kA1) (kc := kC1) (comp := comp) (cc := ci) hkA1 hkindA1 hkC1 hkindC1 hn hx l1 l3 l2 l4 r1 r2 (fun d' acts' => ?_)
  rw [mu_frame]
  have ht : (mu_S (T.setVm vm1) cA comp n.toNatClampNeg x.toNatClampNeg n.toNatClampNeg).topJava?.isSome := by rw [mu_top]; exact X.here.top
  simp only [W.mark, W.pushRef, State.topJava?_setTop' _ ht, Option.some.injEq, exists_eq_left', State.setTop_setTop, wp_bind']
  intro acts
  rw [afterInstr_ok]
  exact a1
end MW
