/-! equations for the printed rows -/
def sm_lkB (o i y n k p1 p2 p3 p4 : Nat) : Bool := match sm_look sm_ct o i with
  | some (a, b, c, d, e, f, g) => a == y && (b == n && (c == k && (d == p1 && (e == p2 && (f == p3 && g == p4)))))
  | none => false
theorem sm_lk {o i y n k p1 p2 p3 p4 : Nat} (h : sm_lkB o i y n k p1 p2 p3 p4 = true) : sm_look sm_ct o i = some (y, n, k, p1, p2, p3, p4) := by
  unfold sm_lkB at h
  split at h
  next a b c d e f g hl =>
    simp only [Bool.and_eq_true, beq_iff_eq] at h
    obtain ⟨rfl, rfl, rfl, rfl, rfl, rfl, rfl⟩ := h
    exact hl
  · cases h
section WPG
variable {xs : List Int32} {y pc : Nat} {L S : List Value} {h : sm_Hp} {c z : Nat} {K : Option Value → sm_Hp → Prop}
theorem Wp_iconst {n : Int} {v : Int32} (hf : sm_fetch y pc = some (.iconst n)) (hv : Int32.ofInt n = v) : Wp xs y pc L S h c z K = Wp xs y (pc + 1) L (.int v :: S) h c z K := by subst hv; exact Wp_next (q := (pc + 1, L, _, h, c, z)) hf rfl
theorem Wp_bipush {n : Int} {v : Int32} (hf : sm_fetch y pc = some (.bipush n)) (hv : (Int8.ofInt n).toInt32 = v) : Wp xs y pc L S h c z K = Wp xs y (pc + 2) L (.int v :: S) h c z K := by subst hv; exact Wp_next (q := (pc + 2, L, _, h, c, z)) hf rfl
theorem Wp_sipush {n : Int} {v : Int32} (hf : sm_fetch y pc = some (.sipush n)) (hv : (Int16.ofInt n).toInt32 = v) : Wp xs y pc L S h c z K = Wp xs y (pc + 3) L (.int v :: S) h c z K := by subst hv; exact Wp_next (q := (pc + 3, L, _, h, c, z)) hf rfl
theorem Wp_lconst {n : Fin 2} {v : Int64} (hf : sm_fetch y pc = some (.lconst n)) (hv : Int64.ofNat (n : Nat) = v) : Wp xs y pc L S h c z K = Wp xs y (pc + 1) L (.long v :: S) h c z K := by subst hv; exact Wp_next (q := (pc + 1, L, _, h, c, z)) hf rfl
theorem Wp_ldc {n pl : Nat} {v : Int32} (hf : sm_fetch y pc = some (.ldc n)) (hv : sm_look sm_kt (sm_oc y) n = some (v, pl)) : Wp xs y pc L S h c z K = Wp xs y (pc + 2) L (.int v :: S) h c z K := Wp_next (q := (pc + 2, L, _, h, c, z)) hf (by simp only [sm_act, hv]; rfl)
theorem Wp_ldcw {n pl : Nat} {v : Int32} (hf : sm_fetch y pc = some (.ldc_w n)) (hv : sm_look sm_kt (sm_oc y) n = some (v, pl)) : Wp xs y pc L S h c z K = Wp xs y (pc + 3) L (.int v :: S) h c z K := Wp_next (q := (pc + 3, L, _, h, c, z)) hf (by simp only [sm_act, hv]; rfl)
theorem Wp_ldc2 {n pl : Nat} {v : Int64} (hf : sm_fetch y pc = some (.ldc2_w n)) (hv : sm_look sm_jt (sm_oc y) n = some (v, pl)) : Wp xs y pc L S h c z K = Wp xs y (pc + 3) L (.long v :: S) h c z K := Wp_next (q := (pc + 3, L, _, h, c, z)) hf (by simp only [sm_act, hv]; rfl)
theorem Wp_iinc {k : Nat} {d : Int} {v w : Int32} {L' : List Value} (hf : sm_fetch y pc = some (.iinc k d)) (hl : L[k]? = some (.int v)) (hw : Int32.ofInt d = w) (hk : k < L.length ∧ sm_pj L k = false) (hL : L.set k (.int (v + w)) = L') : Wp xs y pc L S h c z K = Wp xs y (pc + 3) L' S h c z K := by
  subst hL
  subst hw
  exact Wp_next (q := (pc + 3, _, S, h, c, z)) hf (by simp only [sm_act, sm_li, hl, sm_st]; rw [if_pos hk]; rfl)
theorem Wp_store {ins : Instr} {k len : Nat} {v : Value} {S0 L' : List Value} (hf : sm_fetch y pc = some ins) (ha : sm_act xs y ins pc L S0 h c z = sm_st L k v (fun L' => sm_nx (pc + len) L' S h c z)) (hk : k < L.length ∧ sm_pj L k = false) (hL : L.set k v = L') : Wp xs y pc L S0 h c z K = Wp xs y (pc + len) L' S h c z K := by
  subst hL
  exact Wp_next (q := (pc + len, _, S, h, c, z)) hf (by rw [ha]; unfold sm_st; rw [if_pos hk]; rfl)
theorem Wp_store2 {ins : Instr} {k len : Nat} {v : Value} {S0 L' : List Value} (hf : sm_fetch y pc = some ins) (ha : sm_act xs y ins pc L S0 h c z = sm_st2 L k v (fun L' => sm_nx (pc + len) L' S h c z)) (hk : k + 1 < L.length ∧ sm_pj L k = false) (hL : (L.set k v).set (k + 1) .null = L') : Wp xs y pc L S0 h c z K = Wp xs y (pc + len) L' S h c z K := by
  subst hL
  exact Wp_next (q := (pc + len, _, S, h, c, z)) hf (by rw [ha]; unfold sm_st2; rw [if_pos hk]; rfl)
theorem Wp_load {ins : Instr} {k len : Nat} {v : Value} (hf : sm_fetch y pc = some ins) (ha : sm_act xs y ins pc L S h c z = sm_nx (pc + len) L (v :: S) h c z) : Wp xs y pc L S h c z K = Wp xs y (pc + len) L (v :: S) h c z K := Wp_next (q := (pc + len, L, v :: S, h, c, z)) hf ha
theorem Wp_putZ {idx ci k pl a : Nat} {v : Int32} (hf : sm_fetch y pc = some (.putfield idx)) (hl : sm_look sm_ft (sm_oc y) idx = some (ci, k, pl)) (hty : sm_ty ci k = .boolean) (hfin : (sm_T ci k).2.2.2 = false) : Wp xs y pc L (.int v :: .ref a :: S) h c z K = q_01 v (q_wr (h.1 a) ci (fun fs => Wp xs y (pc + 3) L S (sm_up h a (ci, fs.set k (.int v))) c z K)) := by
  unfold q_01
  by_cases hv : v = 0 ∨ v = 1
  · rw [if_pos hv]
    exact Wp_putfield hf hl (by rw [hty]; rcases hv with rfl | rfl <;> rfl) (Or.inl hfin)
  · rw [if_neg hv]
    refine Wp_stop hf ?_
    simp only [sm_act, sm_put, hl]
    rw [if_neg]
    rintro ⟨-, q, -⟩
    rw [hty] at q
    simp [fits] at q
    exact hv q
theorem Wp_virt0 {idx y' n a ci : Nat} {ps : Nat × Nat × Nat × Nat} {S0 as L' : List Value} (hf : sm_fetch y pc = some (.invokevirtual idx)) (hl : sm_look sm_ct (sm_oc y) idx = some (y', n, 1, ps)) (hS : S0 = as.reverse ++ .ref a :: S) (hn : as.length = n)
    (hy : y' < sm_law ∧ sm_lv y' < sm_lv y) (hs : (S.map fun v => v.category).sum ≤ 8) (hm : sm_mc y' = 0 ∧ sm_ms y' = 0) (hcz : c ≤ sm_mc y ∧ z ≤ sm_ms y) (hw : (sm_wide (.ref a :: as)).length ≤ sm_ml y') (hL : sm_init (sm_ml y') (.ref a :: as) = L') (hoc : sm_oc y' = ci) :
    Wp xs y pc L S0 h c z K = q_is (h.1 a) ci (Wp xs y' 0 L' [] h 0 0 (fun r h' => Wp xs y (pc + 3) L (psh r S) h' c z K)) := by
  subst hL
  subst hoc
  rw [Wp_virt hf hl hS hn ⟨hy, hs, by rw [hm.1]; exact hcz.1, by rw [hm.2]; exact hcz.2, hw⟩]
  simp only [hm.1, hm.2, Nat.add_zero]
theorem Wp_stat0 {idx y' n : Nat} {ps : Nat × Nat × Nat × Nat} {S0 as L' : List Value} (hf : sm_fetch y pc = some (.invokestatic idx)) (hl : sm_look sm_ct (sm_oc y) idx = some (y', n, 0, ps)) (hS : S0 = as.reverse ++ S) (hn : as.length = n)
    (hy : y' < sm_law ∧ sm_lv y' < sm_lv y) (hs : (S.map fun v => v.category).sum ≤ 8) (hm : sm_mc y' = 0 ∧ sm_ms y' = 0) (hcz : c ≤ sm_mc y ∧ z ≤ sm_ms y) (hw : (sm_wide as).length ≤ sm_ml y') (hL : sm_init (sm_ml y') as = L') :
    Wp xs y pc L S0 h c z K = Wp xs y' 0 L' [] h 0 0 (fun r h' => Wp xs y (pc + 3) L (psh r S) h' c z K) := by
  subst hL
  rw [Wp_stat hf hl hS hn ⟨hy, hs, by rw [hm.1]; exact hcz.1, by rw [hm.2]; exact hcz.2, hw⟩]
  simp only [hm.1, hm.2, Nat.add_zero]
end WPG
