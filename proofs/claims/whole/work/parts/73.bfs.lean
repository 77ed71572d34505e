/-! the child's way, by the class: what the queue holds -/
def KnI (d : Nat) (f : Nat → Nat) (φ : Nat → Nat → Bool) (kn : Nat → Bool) : Prop := ∀ p, p < 122 → (kn p = true ↔ f p = 0 ∨ ∃ y, y < 61 ∧ p % 61 ≤ y ∧ y ≤ p % 61 + d ∧ φ p (oth p + y) = true ∧ f (oth p + y) + 1 = f p)
def RwI (d : Nat) (f w : Nat → Nat) (φ : Nat → Nat → Bool) (r : Nat → Nat) : Prop := ∀ p, p < 122 → (f p = 0 → r p = 1) ∧ ∀ v, f p = v + 1 → f p ≠ 1000000 → r p = sumTo (fun y => if p % 61 ≤ y ∧ y ≤ p % 61 + d ∧ φ p (oth p + y) = true ∧ f (oth p + y) = v then w (oth p + y) else 0) 61 % 1000003
def QuI (f : Nat → Nat) (kn : Nat → Bool) (qu : Nat → Nat) (qn b : Nat) : Prop :=
  (∀ t, t < qn → qu t < 122) ∧ (∀ p, p < 122 → (kn p = true ↔ ∃ t, t < qn ∧ qu t = p)) ∧ (∀ t t', t < t' → t' < qn → qu t ≠ qu t') ∧ (∀ t t', t ≤ t' → t' < qn → f (qu t) ≤ f (qu t')) ∧ (∀ t, t < qn → f (qu t) ≤ b) ∧ qn = cnt kn 122
def phX (pr : Nat → Bool) (q x : Nat) (p z : Nat) : Bool := pr z || (decide (z = q) && decide (p % 61 < x))
def knU (kn : Nat → Bool) (p : Nat) : Nat → Bool := fun z => if z = p then true else kn z
theorem knU_at {kn : Nat → Bool} {p : Nat} : knU kn p p = true := if_pos rfl
theorem knU_ne {kn : Nat → Bool} {p z : Nat} (h : z ≠ p) : knU kn p z = kn z := if_neg h
theorem sumTo_up2 {f g : Nat → Nat} {y c : Nat} : ∀ n, y < n → g y = f y + c → (∀ x, x < n → x ≠ y → g x = f x) → sumTo g n = sumTo f n + c
  | 0, h, _, _ => absurd h (Nat.not_lt_zero _)
  | n + 1, h, hy, ho => by
    show sumTo g n + g n = sumTo f n + f n + c
    by_cases e : y = n
    · subst e
      rw [sumTo_congr (fun x hx => ho x (by omega) (by omega)), hy]
      omega
    · rw [sumTo_up2 n (by omega) hy (fun x hx => ho x (by omega)), ho n (by omega) (by omega)]
      omega
section BFS
variable {B : Nat → Bool} {d e : Nat} {f w : Nat → Nat} {kn pr : Nat → Bool} {qu r : Nat → Nat} {qn b i q x n : Nat} {φ ψ : Nat → Nat → Bool}
theorem KnI.congr (h : ∀ p y, p < 122 → y < 61 → p % 61 ≤ y → y ≤ p % 61 + d → φ p (oth p + y) = ψ p (oth p + y)) (I : KnI d f φ kn) : KnI d f ψ kn := by
  intro p hp
  rw [I p hp]
  constructor
  · rintro (a | ⟨y, a1, a2, a3, a4, a5⟩)
    · exact Or.inl a
    · exact Or.inr ⟨y, a1, a2, a3, by rw [← h p y hp a1 a2 a3]; exact a4, a5⟩
  · rintro (a | ⟨y, a1, a2, a3, a4, a5⟩)
    · exact Or.inl a
    · exact Or.inr ⟨y, a1, a2, a3, by rw [h p y hp a1 a2 a3]; exact a4, a5⟩
theorem RwI.congr (h : ∀ p y, p < 122 → y < 61 → p % 61 ≤ y → y ≤ p % 61 + d → φ p (oth p + y) = ψ p (oth p + y)) (I : RwI d f w φ r) : RwI d f w ψ r := by
  intro p hp
  refine ⟨(I p hp).1, fun v hv hf => ?_⟩
  rw [(I p hp).2 v hv hf]
  congr 1
  refine sumTo_congr (fun y hy => ?_)
  by_cases c : p % 61 ≤ y ∧ y ≤ p % 61 + d
  · rw [h p y hp hy c.1 c.2]
  · rw [if_neg (fun z => c ⟨z.1, z.2.1⟩), if_neg (fun z => c ⟨z.1, z.2.1⟩)]
/-- before a print's row begins, behind its end -/
theorem ph_first (hq : q < 122) : ∀ p y, p < 122 → y < 61 → p % 61 ≤ y → y ≤ p % 61 + d → (fun _ z => pr z : Nat → Nat → Bool) p (oth p + y) = phX pr q (q % 61 - d) p (oth p + y) := by
  intro p y hp hy h1 h2
  show pr (oth p + y) = (pr (oth p + y) || (decide (oth p + y = q) && decide (p % 61 < q % 61 - d)))
  have : (decide (oth p + y = q) && decide (p % 61 < q % 61 - d)) = false := by
    by_cases c : oth p + y = q
    · have := oth_mod (p := p) hy
      rw [c] at this
      rw [decide_eq_false (show ¬ p % 61 < q % 61 - d by omega), Bool.and_false]
    · rw [decide_eq_false c, Bool.false_and]
  rw [this, Bool.or_false]
theorem ph_last (hq : q < 122) : ∀ p y, p < 122 → y < 61 → p % 61 ≤ y → y ≤ p % 61 + d → phX pr q (q % 61 + 1) p (oth p + y) = (fun _ z => knU pr q z : Nat → Nat → Bool) p (oth p + y) := by
  intro p y hp hy h1 h2
  show (pr (oth p + y) || (decide (oth p + y = q) && decide (p % 61 < q % 61 + 1))) = knU pr q (oth p + y)
  by_cases c : oth p + y = q
  · have := oth_mod (p := p) hy
    rw [c] at this
    rw [c, decide_eq_true rfl, decide_eq_true (show p % 61 < q % 61 + 1 by omega), knU_at]
    cases pr q <;> rfl
  · rw [decide_eq_false c, Bool.false_and, Bool.or_false, knU_ne c]
/-- only one print sees the difference of a step -/
theorem ph_ne {p y : Nat} (hp : p < 122) (hy : y < 61) (h : p ≠ oth q + x) : phX pr q (x + 1) p (oth p + y) = phX pr q x p (oth p + y) := by
  unfold phX
  by_cases c : oth p + y = q
  · have h1 := oth_oth hp hy
    rw [c] at h1
    have : p % 61 ≠ x := fun z => h (by rw [← z]; exact h1.symm)
    have e : decide (p % 61 < x + 1) = decide (p % 61 < x) := by
      by_cases c2 : p % 61 < x
      · rw [decide_eq_true c2, decide_eq_true (by omega)]
      · rw [decide_eq_false c2, decide_eq_false (by omega)]
    rw [e]
  · rw [decide_eq_false c, Bool.false_and, Bool.false_and]
theorem ph_at (hq : q < 122) (hx : x < 61) {y : Nat} (hy : y < 61) : phX pr q (x + 1) (oth q + x) (oth (oth q + x) + y) = (pr (oth (oth q + x) + y) || decide (y = q % 61)) ∧ (phX pr q x (oth q + x) (oth (oth q + x) + y) = pr (oth (oth q + x) + y)) := by
  have h1 := oth_mod (p := q) hx
  have h2 := oth_oth hq hx
  have h3 : (oth (oth q + x) + y = q) ↔ y = q % 61 := by omega
  unfold phX
  rw [h1, decide_eq_true (show x < x + 1 by omega), decide_eq_false (show ¬ x < x by omega), Bool.and_true, Bool.and_false, Bool.or_false]
  exact ⟨by rw [decide_eq_decide.mpr h3], rfl⟩
theorem kn_step {kn' : Nat → Bool} (hq : q < 122) (hx : x ≤ q % 61) (hx2 : q % 61 ≤ x + d) (h1 : ∀ p, p ≠ oth q + x → kn' p = kn p) (h2 : kn' (oth q + x) = true ↔ kn (oth q + x) = true ∨ f q + 1 = f (oth q + x)) (I : KnI d f (phX pr q x) kn) : KnI d f (phX pr q (x + 1)) kn' := by
  have hx61 : x < 61 := by omega
  intro p hp
  by_cases c : p = oth q + x
  · subst c
    have e1 := oth_mod (p := q) hx61
    have e2 := oth_oth hq hx61
    rw [h2, I _ hp, e1]
    constructor
    · rintro ((a | ⟨y, a1, a2, a3, a4, a5⟩) | a)
      · exact Or.inl a
      · refine Or.inr ⟨y, a1, a2, a3, ?_, a5⟩
        rw [(ph_at hq hx61 a1).2] at a4
        rw [(ph_at hq hx61 a1).1, a4]
        rfl
      · refine Or.inr ⟨q % 61, by omega, hx, hx2, ?_, by rw [e2]; exact a⟩
        rw [(ph_at hq hx61 (by omega)).1, decide_eq_true rfl, Bool.or_true]
    · rintro (a | ⟨y, a1, a2, a3, a4, a5⟩)
      · exact Or.inl (Or.inl a)
      · rw [(ph_at hq hx61 a1).1, Bool.or_eq_true] at a4
        rcases a4 with a4 | a4
        · refine Or.inl (Or.inr ⟨y, a1, a2, a3, ?_, a5⟩)
          rw [(ph_at hq hx61 a1).2]
          exact a4
        · have := of_decide_eq_true a4
          rw [this, e2] at a5
          exact Or.inr a5
  · rw [h1 p c, I p hp]
    constructor
    · rintro (a | ⟨y, a1, a2, a3, a4, a5⟩)
      · exact Or.inl a
      · exact Or.inr ⟨y, a1, a2, a3, by rw [ph_ne hp a1 c]; exact a4, a5⟩
    · rintro (a | ⟨y, a1, a2, a3, a4, a5⟩)
      · exact Or.inl a
      · exact Or.inr ⟨y, a1, a2, a3, by rw [ph_ne hp a1 c] at a4; exact a4, a5⟩
theorem rw_step {r' : Nat → Nat} (hq : q < 122) (hx : x ≤ q % 61) (hx2 : q % 61 ≤ x + d) (hpq : pr q = false) (h1 : ∀ p, p ≠ oth q + x → r' p = r p) (h2 : f (oth q + x) = f q + 1 → f (oth q + x) ≠ 1000000 → r' (oth q + x) = (r (oth q + x) + w q) % 1000003) (h3 : f (oth q + x) ≠ f q + 1 → r' (oth q + x) = r (oth q + x)) (I : RwI d f w (phX pr q x) r) : RwI d f w (phX pr q (x + 1)) r' := by
  have hx61 : x < 61 := by omega
  intro p hp
  by_cases c : p = oth q + x
  · subst c
    have e1 := oth_mod (p := q) hx61
    have e2 := oth_oth hq hx61
    refine ⟨fun h0 => ?_, fun v hv hf => ?_⟩
    · rw [h3 (by omega)]
      exact (I _ hp).1 h0
    · have key := (I _ hp).2 v hv hf
      rw [e1] at key ⊢
      by_cases cv : v = f q
      · subst cv
        rw [h2 hv hf, key, Nat.mod_add_mod]
        congr 1
        refine (sumTo_up2 (y := q % 61) (c := w q) 61 (by omega) ?_ (fun y cy hy => ?_)).symm
        · rw [if_pos ⟨hx, hx2, by rw [(ph_at hq hx61 (by omega)).1, decide_eq_true rfl, Bool.or_true], by rw [e2]⟩, if_neg (fun z => by
            have z2 := z.2.2.1
            rw [(ph_at hq hx61 (by omega)).2, e2, hpq] at z2
            cases z2), e2, Nat.zero_add]
        · rw [(ph_at hq hx61 cy).1, (ph_at hq hx61 cy).2, decide_eq_false hy, Bool.or_false]
      · rw [h3 (by omega), key]
        congr 1
        refine sumTo_congr (fun y cy => ?_)
        by_cases hy : y = q % 61
        · subst hy
          rw [if_neg (fun z => cv (by rw [← z.2.2.2, e2])), if_neg (fun z => cv (by rw [← z.2.2.2, e2]))]
        · rw [(ph_at hq hx61 cy).1, (ph_at hq hx61 cy).2, decide_eq_false hy, Bool.or_false]
  · rw [h1 p c]
    refine ⟨(I p hp).1, fun v hv hf => ?_⟩
    rw [(I p hp).2 v hv hf]
    congr 1
    exact sumTo_congr (fun y hy => by rw [ph_ne hp hy c])
theorem QuI.add (Q : QuI f kn qu qn b) {p : Nat} (hp : p < 122) (hk : kn p = false) (hf : f p = b) : QuI f (knU kn p) (fup qu qn p) (qn + 1) b := by
  obtain ⟨q1, q2, q3, q4, q5, q6⟩ := Q
  have lo : ∀ t, t < qn → fup qu qn p t = qu t := fun t ht => fup_ne (by omega)
  refine ⟨fun t ht => ?_, fun z hz => ?_, fun t t' h1 h2 => ?_, fun t t' h1 h2 => ?_, fun t ht => ?_, ?_⟩
  · by_cases c : t = qn
    · rw [c, fup_at]; exact hp
    · rw [lo t (by omega)]; exact q1 t (by omega)
  · by_cases c : z = p
    · subst c
      rw [knU_at]
      exact ⟨fun _ => ⟨qn, by omega, fup_at⟩, fun _ => rfl⟩
    · rw [knU_ne c, q2 z hz]
      constructor
      · rintro ⟨t, h1, h2⟩
        exact ⟨t, by omega, by rw [lo t h1]; exact h2⟩
      · rintro ⟨t, h1, h2⟩
        by_cases ct : t = qn
        · rw [ct, fup_at] at h2; exact absurd h2.symm c
        · rw [lo t (by omega)] at h2; exact ⟨t, by omega, h2⟩
  · by_cases c : t' = qn
    · rw [c, fup_at, lo t (by omega)]
      intro z
      have := (q2 p hp).mpr ⟨t, by omega, z⟩
      rw [hk] at this
      cases this
    · rw [lo t (by omega), lo t' (by omega)]
      exact q3 t t' h1 (by omega)
  · by_cases c : t' = qn
    · rw [c, fup_at, hf]
      by_cases ct : t = qn
      · rw [ct, fup_at, hf]; exact Nat.le_refl _
      · rw [lo t (by omega)]; exact q5 t (by omega)
    · rw [lo t (by omega), lo t' (by omega)]
      exact q4 t t' h1 (by omega)
  · by_cases c : t = qn
    · rw [c, fup_at, hf]; exact Nat.le_refl _
    · rw [lo t (by omega)]; exact q5 t (by omega)
  · rw [cnt_up (B := kn) (B' := knU kn p) (a := p) hk knU_at (fun x hx => knU_ne hx) 122 hp, ← q6]
theorem QuI.lt (Q : QuI f kn qu qn b) {p : Nat} (hp : p < 122) (hk : kn p = false) : qn < 122 := by
  have h1 := cnt_up (B := kn) (B' := knU kn p) (a := p) hk knU_at (fun x hx => knU_ne hx) 122 hp
  have h2 := cnt_le (knU kn p) 122
  have h3 := Q.2.2.2.2.2
  omega
theorem QuI.le (Q : QuI f kn qu qn b) : qn ≤ 122 := by
  have h2 := cnt_le kn 122
  have h3 := Q.2.2.2.2.2
  omega
theorem QuI.up {b' : Nat} (Q : QuI f kn qu qn b) (h : b ≤ b') : QuI f kn qu qn b' := ⟨Q.1, Q.2.1, Q.2.2.1, Q.2.2.2.1, fun t ht => Nat.le_trans (Q.2.2.2.2.1 t ht) h, Q.2.2.2.2.2⟩
def BfI (d : Nat) (f w : Nat → Nat) (i qn : Nat) (qu : Nat → Nat) (kn pr : Nat → Bool) (r : Nat → Nat) : Prop := i ≤ qn ∧ (∃ b, QuI f kn qu qn b ∧ (i < qn → b ≤ f (qu i) + 1)) ∧ (∀ p, p < 122 → (pr p = true ↔ ∃ t, t < i ∧ qu t = p)) ∧ KnI d f (fun _ z => pr z) kn ∧ RwI d f w (fun _ z => pr z) r ∧ (∀ p, p < 122 → r p < 1000003)
theorem kn_fin (V : Lev B d e f w) (I : KnI d f φ kn) {p : Nat} (hp : p < 122) (hk : kn p = true) : f p ≤ 122 := by
  by_cases c : f p = 1000000
  · rcases (I p hp).mp hk with a | ⟨y, a1, a2, a3, a4, a5⟩
    · omega
    · have := V.1 (oth p + y) (oth_lt a1) (by omega)
      omega
  · exact (V.1 p hp c).2
theorem known_le (V : Lev B d e f w) (I : BfI d f w i qn qu kn pr r) (hi : i < qn) : ∀ v p, p < 122 → f p = v → v ≤ f (qu i) → kn p = true := by
  obtain ⟨-, ⟨b, Q, -⟩, i3, i4, i5, i6⟩ := I
  have hqi := Q.1 i hi
  have hkq : kn (qu i) = true := (Q.2.1 _ hqi).mpr ⟨i, hi, rfl⟩
  have hfin := kn_fin V i4 hqi hkq
  intro v
  induction v with
  | zero => intro p hp h0 _; exact (i4 p hp).mpr (Or.inl h0)
  | succ v ih =>
    intro p hp hv hle
    obtain ⟨y, y1, y2, y3, y4⟩ := V.2.2.2.1 p hp v hv (by omega)
    have hz := ih (oth p + y) (oth_lt y1) y4 (by omega)
    obtain ⟨t, t1, t2⟩ := (Q.2.1 _ (oth_lt y1)).mp hz
    have ht : t < i := by
      rcases Nat.lt_or_ge t i with c | c
      · exact c
      · have := Q.2.2.2.1 i t c t1
        rw [t2, y4] at this
        omega
    exact (i4 p hp).mpr (Or.inr ⟨y, y1, y2, y3, (i3 _ (oth_lt y1)).mpr ⟨t, ht, t2⟩, by omega⟩)
/-- a print in its turn has all its ways -/
theorem turn_w (V : Lev B d e f w) (I : BfI d f w i qn qu kn pr r) (hi : i < qn) : r (qu i) = w (qu i) := by
  have hkn := known_le V I hi
  obtain ⟨-, ⟨b, Q, -⟩, i3, i4, i5, i6⟩ := I
  have hqi := Q.1 i hi
  have hkq : kn (qu i) = true := (Q.2.1 _ hqi).mpr ⟨i, hi, rfl⟩
  have hfin := kn_fin V i4 hqi hkq
  cases hv : f (qu i) with
  | zero => rw [(i5 _ hqi).1 hv, V.2.2.1 _ hqi hv]
  | succ v =>
    rw [(i5 _ hqi).2 v hv (by omega), V.2.2.2.2.2.1 _ hqi v hv (by omega)]
    congr 1
    refine sumTo_congr (fun y hy => ?_)
    by_cases c : qu i % 61 ≤ y ∧ y ≤ qu i % 61 + d ∧ f (oth (qu i) + y) = v
    · have hz := hkn v (oth (qu i) + y) (oth_lt hy) c.2.2 (by omega)
      obtain ⟨t, t1, t2⟩ := (Q.2.1 _ (oth_lt hy)).mp hz
      have ht : t < i := by
        rcases Nat.lt_or_ge t i with ct | ct
        · exact ct
        · have := Q.2.2.2.1 i t ct t1
          rw [t2, c.2.2] at this
          omega
      rw [if_pos c, if_pos ⟨c.1, c.2.1, (i3 _ (oth_lt hy)).mpr ⟨t, ht, t2⟩, c.2.2⟩]
    · rw [if_neg c, if_neg (fun z => c ⟨z.1, z.2.1, z.2.2.2⟩)]
theorem turn_new (I : BfI d f w i qn qu kn pr r) (hi : i < qn) : pr (qu i) = false := by
  obtain ⟨-, ⟨b, Q, -⟩, i3, i4, i5, i6⟩ := I
  cases c : pr (qu i)
  · rfl
  · obtain ⟨t, t1, t2⟩ := (i3 _ (Q.1 i hi)).mp c
    exact absurd t2 (Q.2.2.1 t i t1 hi)
/-- behind the last one all is known -/
theorem done_kn (V : Lev B d e f w) (I : BfI d f w i qn qu kn pr r) (hi : qn ≤ i) : ∀ p, p < 122 → (kn p = true ↔ f p ≠ 1000000) := by
  obtain ⟨i1, ⟨b, Q, -⟩, i3, i4, i5, i6⟩ := I
  have hie : i = qn := by omega
  have key : ∀ v p, p < 122 → f p = v → v ≠ 1000000 → kn p = true := by
    intro v
    induction v with
    | zero => intro p hp h0 _; exact (i4 p hp).mpr (Or.inl h0)
    | succ v ih =>
      intro p hp hv hf
      obtain ⟨y, y1, y2, y3, y4⟩ := V.2.2.2.1 p hp v hv (by omega)
      have hb := (V.1 p hp (by omega)).2
      have hz := ih (oth p + y) (oth_lt y1) y4 (by omega)
      obtain ⟨t, t1, t2⟩ := (Q.2.1 _ (oth_lt y1)).mp hz
      exact (i4 p hp).mpr (Or.inr ⟨y, y1, y2, y3, (i3 _ (oth_lt y1)).mpr ⟨t, by omega, t2⟩, by omega⟩)
  intro p hp
  refine ⟨fun hk => ?_, fun hf => key _ p hp rfl hf⟩
  have := kn_fin V i4 hp hk
  omega
theorem done_r (V : Lev B d e f w) (I : BfI d f w i qn qu kn pr r) (hi : qn ≤ i) : ∀ p, p < 122 → f p ≠ 1000000 → r p = w p := by
  have hkn := done_kn V I hi
  obtain ⟨i1, ⟨b, Q, -⟩, i3, i4, i5, i6⟩ := I
  have hie : i = qn := by omega
  intro p hp hf
  cases hv : f p with
  | zero => rw [(i5 _ hp).1 hv, V.2.2.1 _ hp hv]
  | succ v =>
    have hb := (V.1 p hp hf).2
    rw [(i5 _ hp).2 v hv hf, V.2.2.2.2.2.1 _ hp v hv hf]
    congr 1
    refine sumTo_congr (fun y hy => ?_)
    by_cases c : p % 61 ≤ y ∧ y ≤ p % 61 + d ∧ f (oth p + y) = v
    · have hz := (hkn (oth p + y) (oth_lt hy)).mpr (by omega)
      obtain ⟨t, t1, t2⟩ := (Q.2.1 _ (oth_lt hy)).mp hz
      rw [if_pos c, if_pos ⟨c.1, c.2.1, (i3 _ (oth_lt hy)).mpr ⟨t, by omega, t2⟩, c.2.2⟩]
    · rw [if_neg c, if_neg (fun z => c ⟨z.1, z.2.1, z.2.2.2⟩)]
/-- on to the next in the queue -/
theorem BfI.next {kn0 : Nat → Bool} {qn0 : Nat} {qu0 r0 : Nat → Nat} (I : BfI d f w i qn0 qu0 kn0 pr r0) (hi0 : i < qn0) (hq : qu0 i = q) (hle : qn0 ≤ qn) (hsame : ∀ t, t < qn0 → qu t = qu0 t) (Q : QuI f kn qu qn (f q + 1)) (k1 : KnI d f (phX pr q (q % 61 + 1)) kn) (r1 : RwI d f w (phX pr q (q % 61 + 1)) r) (r2 : ∀ p, p < 122 → r p < 1000003) : BfI d f w (i + 1) qn qu kn (knU pr q) r := by
  obtain ⟨-, -, i3, -, -, -⟩ := I
  have hqi : qu i = q := by rw [hsame i hi0]; exact hq
  have hq122 : q < 122 := by rw [← hqi]; exact Q.1 i (by omega)
  refine ⟨by omega, ⟨f q + 1, Q, fun h => ?_⟩, fun p hp => ?_, k1.congr (ph_last hq122), r1.congr (ph_last hq122), r2⟩
  · have := Q.2.2.2.1 i (i + 1) (by omega) h
    rw [hqi] at this
    omega
  · by_cases c : p = q
    · subst c
      rw [knU_at]
      exact ⟨fun _ => ⟨i, by omega, hqi⟩, fun _ => rfl⟩
    · rw [knU_ne c, i3 p hp]
      constructor
      · rintro ⟨t, t1, t2⟩
        exact ⟨t, by omega, by rw [hsame t (by omega)]; exact t2⟩
      · rintro ⟨t, t1, t2⟩
        by_cases ct : t = i
        · rw [ct, hqi] at t2; exact absurd t2.symm c
        · rw [hsame t (by omega)] at t2
          exact ⟨t, by omega, t2⟩
/-- the first ones: all prints on the highest foot -/
theorem BfI.start (V : Lev B d e f w) (Q : QuI f kn qu qn 0) (k1 : ∀ p, p < 122 → (kn p = true ↔ f p = 0)) (r1 : ∀ p, p < 122 → r p = b2n (kn p)) : BfI d f w 0 qn qu kn (fun _ => false) r := by
  refine ⟨Nat.zero_le _, ⟨0, Q, fun _ => Nat.zero_le _⟩, fun p hp => ⟨fun z => (by cases z), fun ⟨t, t1, _⟩ => absurd t1 (Nat.not_lt_zero _)⟩, fun p hp => ?_, fun p hp => ⟨fun h0 => ?_, fun v hv hf => ?_⟩, fun p hp => ?_⟩
  · rw [k1 p hp]
    exact ⟨Or.inl, fun z => z.elim id (fun ⟨y, _, _, _, a, _⟩ => by cases a)⟩
  · rw [r1 p hp, (k1 p hp).mpr h0]; rfl
  · have hk : kn p = false := by
      cases c : kn p
      · rfl
      · have := (k1 p hp).mp c; omega
    rw [r1 p hp, hk, sumTo_zero 61 (fun y _ => if_neg (fun z => by cases z.2.2.1))]
    rfl
  · rw [r1 p hp]
    have := b2n_le (kn p)
    omega
end BFS
