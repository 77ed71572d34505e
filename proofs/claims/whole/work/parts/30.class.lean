/-! the class's cells: its object at 0, its parts at 1 .. 97 -/
/-- text and how many letters; path; prints; the ring, next, known; images, which are kept; found (bits), how many; trace -/
abbrev CS : Type := ((Nat → Nat) × Nat) × PathS × PrS × ((Nat → PrS) × Nat × Nat) × ((Nat → PrS) × (Nat → Bool)) × (Nat × Nat) × Int64
/-- what is only written: places in the text, the other path, the child's rows -/
abbrev CJ : Type := (Int32 × Int32 × Bool × Bool × Bool) × (PathS × (Nat → Nat)) × ((Nat → Int32) × (Nat → Int32) × (Nat → Int32) × Int32 × Int32) × Bool
def cLp (j : CJ) : Nat := if j.2.2.2 = true then 79 else 74
def cDp (j : CJ) : Nat := if j.2.2.2 = true then 74 else 79
def c_obj (s : CS) (j : CJ) : sm_Cell := (5, [.ref 1, .ref 3, .ref 10, .ref 68, .ref 69, .ref 70, .ref (cLp j), .ref (cDp j), .long (lN s.2.2.2.2.2.1.1), .int (nI s.2.2.2.2.2.1.2), .long s.2.2.2.2.2.2])
def c_rd (s : CS) (j : CJ) : sm_Cell := (4, [.ref 2, .int (nI s.1.2), .int j.1.1, .int j.1.2.1, .int (nI (b2n j.1.2.2.1)), .int (nI (b2n j.1.2.2.2.1)), .int (nI (b2n j.1.2.2.2.2))])
def c_tx (s : CS) : sm_Cell := (10, tab 120 (fun i => .int (nI (s.1.1 i))))
def c_past (s : CS) : sm_Cell := (1, [.ref 11, .int (nI s.2.2.2.1.2.2), .int (nI s.2.2.2.1.2.1)])
def c_ring : sm_Cell := (14, tab 8 (fun i => .ref (12 + 7 * i)))
def c_ims : sm_Cell := (14, tab 2 (fun i => .ref (84 + 7 * i)))
def c_kept (s : CS) : sm_Cell := (12, tab 2 (fun i => .int (nI (b2n (s.2.2.2.2.1.2 i)))))
def c_way (j : CJ) : sm_Cell := (0, [.ref 71, .ref 72, .ref 73, .int j.2.2.1.2.2.2.1, .int j.2.2.1.2.2.2.2])
def InvC (h : sm_Hp) (s : CS) (j : CJ) : Prop :=
  (h.1 0 = c_obj s j ∧ h.1 1 = c_rd s j ∧ h.1 2 = c_tx s) ∧ PrAt h 3 s.2.2.1 ∧ (h.1 10 = c_past s ∧ h.1 11 = c_ring) ∧ (∀ i, i < 8 → PrAt h (12 + 7 * i) (s.2.2.2.1.1 i)) ∧ (h.1 68 = c_ims ∧ h.1 69 = c_kept s) ∧ (∀ i, i < 2 → PrAt h (84 + 7 * i) (s.2.2.2.2.1.1 i)) ∧
  (h.1 70 = c_way j ∧ h.1 71 = (10, tab 122 (fun i => .int (j.2.2.1.1 i))) ∧ h.1 72 = (10, tab 122 (fun i => .int (j.2.2.1.2.1 i))) ∧ h.1 73 = (10, tab 122 (fun i => .int (j.2.2.1.2.2.1 i)))) ∧ PtAt h (cLp j) s.2.1 (trk s.2.1) ∧ PtAt h (cDp j) j.2.1.1 j.2.1.2
theorem cLp_or (j : CJ) : (cLp j = 74 ∧ cDp j = 79) ∨ (cLp j = 79 ∧ cDp j = 74) := by
  unfold cLp cDp
  cases j.2.2.2 <;> simp
section CPR
variable {xs : List Int32} {h : sm_Hp} {K : Option Value → sm_Hp → Prop} {p k n : Nat} {P P' : PrS} {m : Nat} {L : List Value} {r : Option Value} {a : Nat} {pa : PathS} {tk : Nat → Nat}
theorem ofPr (H : PrAt h p P) (e : Wp xs m 0 L [] (setPr h p P) 0 0 K = K r (setPr h p P)) : Wp xs m 0 L [] h 0 0 K = K r h := by
  rw [setPr_self H] at e
  exact e
theorem ofPrM (H : PrAt h p P) (e : Wp xs m 0 L [] (setPr h p P) 0 0 K = K r (setPr h p P')) : Wp xs m 0 L [] h 0 0 K = K r (setPr h p P') := by
  have e2 : Wp xs m 0 L [] (setPr h p P) 0 0 K = Wp xs m 0 L [] h 0 0 K := by rw [setPr_self H]
  rw [← e2]
  exact e
theorem ofPt (H : PtAt h a pa tk) (e : Wp xs m 0 L [] (setPt h a pa tk) 0 0 K = K r (setPt h a pa tk)) : Wp xs m 0 L [] h 0 0 K = K r h := by
  rw [setPt_self H] at e
  exact e
theorem p_deeper (H : PrAt h p P) (hd : DepOk P) (hk : k < 2) (hn : n ≤ 9) : Wp xs m_Prints_deeperThan 0 [.ref p, .int (nI k), .int (nI n), .null, .null] [] h 0 0 K = K (some (.int (nI (nPr P k n)))) h := ofPr H (e_deeper hd hk hn)
theorem p_hasPrint (H : PrAt h p P) {x : Nat} (hd : DepOk P) (hk : k < 2) (hx : x < 61) : Wp xs m_Prints_hasPrint 0 [.ref p, .int (nI k), .int (nI x)] [] h 0 0 K = K (some (.int (nI (b2n (hasP P k x))))) h := ofPr H (e_hasPrint hd hk hx)
theorem p_hasGift (H : PrAt h p P) {x : Nat} (hg : ∀ k, P.2.1 k < 2 ^ 61) (hk : k < 2) (hx : x < 61) : Wp xs m_Prints_hasGift 0 [.ref p, .int (nI k), .int (nI x)] [] h 0 0 K = K (some (.int (nI (bitI (P.2.1 k) x)))) h := ofPr H (e_hasGift hg hk hx)
theorem p_ofBoth (H : PrAt h p P) (hd : DepOk P) : Wp xs m_Prints_ofBoth 0 [.ref p] [] h 0 0 K = K (some (.int (nI (nPr P 0 0 + nPr P 1 0)))) h := ofPr H (e_ofBoth hd)
theorem p_feet (H : PrAt h p P) (hd : DepOk P) : Wp xs m_Prints_feetOfBoth 0 [.ref p, .null, .null] [] h 0 0 K = K (some (.int (nI (cnt (fun x => hasP P 0 x && hasP P 1 x) 61)))) h := ofPr H (e_feet hd)
theorem p_peace (H : PrAt h p P) (hd : DepOk P) : Wp xs m_Prints_leastRainForPeace 0 [.ref p, .null, .null] [] h 0 0 K = K (some (.int (nI (peaceN P 61)))) h := ofPr H (e_peace hd)
theorem p_countJumps (H : PrAt h p P) {d : Nat} (hd : DepOk P) (hdd : d ≤ 60) : Wp xs m_Prints_countJumps 0 [.ref p, .int (nI d), .null, .null] [] h 0 0 K = K (some (.int (nI (sumTo (jmpF P d) 61)))) h := ofPr H (e_countJumps hd hdd)
theorem p_firstJump (H : PrAt h p P) {d : Nat} (hd : DepOk P) (hdd : d ≤ 60) : Wp xs m_Prints_firstJump 0 [.ref p, .int (nI d), .null, .null] [] h 0 0 K = K (some (.int (jI (fJ P d 0 61)))) h := ofPr H (e_firstJump hd hdd)
theorem p_low (H : PrAt h p P) (hd : DepOk P) : Wp xs m_Prints_lowestFoot 0 [.ref p, .null] [] h 0 0 K = K (some (.int (oI (firstF (fun x => hasP P 0 x || hasP P 1 x) 0 61)))) h := ofPr H (e_low hd)
theorem p_high (H : PrAt h p P) (hd : DepOk P) : Wp xs m_Prints_highestFoot 0 [.ref p, .null] [] h 0 0 K = K (some (.int (oI (lastF (fun x => hasP P 0 x || hasP P 1 x) 61)))) h := ofPr H (e_high hd)
theorem p_snow (H : PrAt h p P) : Wp xs m_Prints_snowOver 0 [.ref p, .null] [] h 0 0 K = K none (setPr h p (snowP P 2)) := ofPrM H e_snow
theorem p_wipe (H : PrAt h p P) : Wp xs m_Prints_wipe 0 [.ref p] [] h 0 0 K = K none (setPr h p zeroP) := ofPrM H e_wipe
theorem p_rain (H : PrAt h p P) (hd : DepOk P) (hn : n ≤ 9) : Wp xs m_Prints_rainOn 0 [.ref p, .int (nI n), .null, .null] [] h 0 0 K = K none (setPr h p (fun j y => P.1 j y - n, P.2)) := ofPrM H (e_rain hd hn)
theorem p_remove (H : PrAt h p P) {x : Nat} (hk : k < 2) (hx : x < 61) : Wp xs m_Prints_removePrint 0 [.ref p, .int (nI k), .int (nI x)] [] h 0 0 K = K none (setPr h p (remP P k x)) := ofPrM H (e_remove hk hx)
theorem p_tread (H : PrAt h p P) {t : Nat} (ht : t < 2 ^ 61) (hk : k < 2) (hg : P.2.1 k < 2 ^ 61) (hT : P.2.2.2 k ≤ 9999) : Wp xs m_Prints_tread 0 [.ref p, .int (nI k), .long (lN t), .null, .null] [] h 0 0 K = K none (setPr h p (walkP P k t)) := ofPrM H (e_tread ht hk hg hT)
theorem p_becomes (H : PrAt h p P) {q : Nat} {Q : PrS} (HQ : PrAt h q Q) (hd : p + 7 ≤ q ∨ q + 7 ≤ p) : Wp xs m_Prints_becomes 0 [.ref p, .ref q, .null] [] h 0 0 K = K none (setPr h p Q) := ofPrM H (e_becomes HQ hd)
theorem p_foot_in (H : PtAt h a pa tk) {x : Nat} (hl : pa.1.1 ≤ 60) (hx : x ≤ pa.1.1) : Wp xs m_Path_hasFoot 0 [.ref a, .int (nI x)] [] h 0 0 K = K (some (.int (nI 1))) h := ofPt H (e_foot_in hl hx)
theorem p_foot_neg (H : PtAt h a pa tk) {x : Int32} (hx : x < 0) : Wp xs m_Path_hasFoot 0 [.ref a, .int x] [] h 0 0 K = K (some (.int (nI 0))) h := ofPt H (e_foot_neg hx)
theorem p_foot_big (H : PtAt h a pa tk) {x : Int32} (hl : pa.1.1 ≤ 60) (h0 : ¬ x < 0) (hx : nI (pa.1.1 + 1) ≤ x) : Wp xs m_Path_hasFoot 0 [.ref a, .int x] [] h 0 0 K = K (some (.int (nI 0))) h := ofPt H (e_foot_big hl h0 hx)
theorem p_with (H : PtAt h a pa tk) {f : Nat} (hf : f < 2 ^ 61) : Wp xs m_Path_tracksWith 0 [.ref a, .long (lN f), .null, .null, .null] [] h 0 0 K = K (some (.int (nI (twN f tk 4)))) h := ofPt H (e_with hf)
theorem p_minute (H : PtAt h a pa tk) {k m f : Nat} (hw : WalkOk pa) (hk : k < 2) (hm : m ≤ 200) (hf : f ≤ 60) : Wp xs m_Path_minuteAt 0 [.ref a, .int (nI k), .int (nI m), .int (nI f), .null] [] h 0 0 K = K (some (.int (nI (m + (f + pa.2.2.2 k - 1) / pa.2.2.2 k)))) h := ofPt H (e_minute hw hk hm hf)
theorem p_turn (H : PtAt h a pa tk) {k m : Nat} (ht : 1 ≤ pa.1.2.2.2) (ht2 : pa.1.2.2.2 ≤ 9) (hk : k < 2) (hm : m ≤ 1000) : Wp xs m_Path_hasTurn 0 [.ref a, .int (nI k), .int (nI m)] [] h 0 0 K = K (some (.int (nI (b2n (decide (m / pa.1.2.2.2 % 2 = k)))))) h := ofPt H (e_turn ht ht2 hk hm)
theorem p_trackOf (H : PtAt h a pa tk) (hl : pa.1.1 ≤ 60) {s d sh : Nat} (hs : s ≤ 9) (hd : d ≤ 9) (hd2 : 2 ≤ d) (hsh : sh ≤ 1) : Wp xs m_Path_trackOf 0 [.ref a, .int (nI s), .int (nI d), .int (nI sh), .null, .null, .null, .null] [] h 0 0 K = K (some (.long (lN (trkN pa.1.1 s d sh)))) h := ofPt H (e_trackOf hl hs hd hd2 hsh)
theorem PtAt.c0 (H : PtAt h a pa tk) : h.1 a = (2, [.int (nI pa.1.1), .int (nI pa.1.2.1), .int (nI pa.1.2.2.1), .int (nI pa.1.2.2.2), .ref (a + 1), .ref (a + 2), .ref (a + 3), .ref (a + 4)]) := H 0 (by omega)
theorem PtAt.c1 (H : PtAt h a pa tk) : h.1 (a + 1) = (10, tab 2 (fun k => .int (nI (pa.2.1 k)))) := H 1 (by omega)
theorem PtAt.c2 (H : PtAt h a pa tk) : h.1 (a + 2) = (10, tab 2 (fun k => .int (nI (pa.2.2.1 k)))) := H 2 (by omega)
theorem PtAt.c3 (H : PtAt h a pa tk) : h.1 (a + 3) = (10, tab 2 (fun k => .int (nI (pa.2.2.2 k)))) := H 3 (by omega)
theorem PtAt.c4 (H : PtAt h a pa tk) : h.1 (a + 4) = (11, tab 4 (fun j => .long (lN (tk j)))) := H 4 (by omega)
theorem PtAt.off (H : PtAt h a pa tk) (hd : p + 7 ≤ a ∨ a + 5 ≤ p) : PtAt (setPr h p P) a pa tk := fun j hj => (setPr_ne (by omega)).trans (H j hj)
theorem PtAt.up (H : PtAt h a pa tk) {q : Nat} {x : sm_Cell} (hd : q < a ∨ a + 5 ≤ q) : PtAt (sm_up h q x) a pa tk := fun j hj => (sm_up_ne (by omega)).trans (H j hj)
end CPR
/-! how the class's state goes on -/
def sSet (s : CS) (P : PrS) : CS := (s.1, s.2.1, P, s.2.2.2)
theorem InvC.setP {h : sm_Hp} {s : CS} {j : CJ} (I : InvC h s j) (P : PrS) : InvC (setPr h 3 P) (sSet s P) j := by
  obtain ⟨⟨a0, a1, a2⟩, a3, ⟨a4, a5⟩, a6, ⟨a7, a8⟩, a9, ⟨b0, b1, b2, b3⟩, b4, b5⟩ := I
  have hj := cLp_or j
  exact ⟨⟨by rw [setPr_ne (by omega)]; exact a0, by rw [setPr_ne (by omega)]; exact a1, by rw [setPr_ne (by omega)]; exact a2⟩, setPr_at _ _ _, ⟨by rw [setPr_ne (by omega)]; exact a4, by rw [setPr_ne (by omega)]; exact a5⟩, fun i hi => (a6 i hi).off (by omega), ⟨by rw [setPr_ne (by omega)]; exact a7, by rw [setPr_ne (by omega)]; exact a8⟩, fun i hi => (a9 i hi).off (by omega), ⟨by rw [setPr_ne (by omega)]; exact b0, by rw [setPr_ne (by omega)]; exact b1, by rw [setPr_ne (by omega)]; exact b2, by rw [setPr_ne (by omega)]; exact b3⟩, b4.off (by omega), b5.off (by omega)⟩
def remH (h : sm_Hp) (P : PrS) (nx kn : Nat) : sm_Hp := sm_up (setPr h (12 + 7 * nx) P) 10 (1, [.ref 11, .int (nI (min 8 (kn + 1))), .int (nI ((nx + 1) % 8))])
theorem remH_ne {h : sm_Hp} {P : PrS} {nx kn a : Nat} (h1 : a ≠ 10) (h2 : a < 12 + 7 * nx ∨ 12 + 7 * nx + 7 ≤ a) : (remH h P nx kn).1 a = h.1 a := (sm_up_ne h1).trans (setPr_ne h2)
def sRem (s : CS) : CS := (s.1, s.2.1, s.2.2.1, (fun i => if i = s.2.2.2.1.2.1 then s.2.2.1 else s.2.2.2.1.1 i, (s.2.2.2.1.2.1 + 1) % 8, min 8 (s.2.2.2.1.2.2 + 1)), s.2.2.2.2)
theorem InvC.rem {h : sm_Hp} {s : CS} {j : CJ} (I : InvC h s j) (hn : s.2.2.2.1.2.1 < 8) : InvC (remH h s.2.2.1 s.2.2.2.1.2.1 s.2.2.2.1.2.2) (sRem s) j := by
  obtain ⟨⟨a0, a1, a2⟩, a3, ⟨a4, a5⟩, a6, ⟨a7, a8⟩, a9, ⟨b0, b1, b2, b3⟩, b4, b5⟩ := I
  have hj := cLp_or j
  refine ⟨⟨by rw [remH_ne (by omega) (by omega)]; exact a0, by rw [remH_ne (by omega) (by omega)]; exact a1, by rw [remH_ne (by omega) (by omega)]; exact a2⟩, (a3.off (by omega)).up (by omega), ⟨sm_up_at, by rw [remH_ne (by omega) (by omega)]; exact a5⟩, fun i hi => ?_, ⟨by rw [remH_ne (by omega) (by omega)]; exact a7, by rw [remH_ne (by omega) (by omega)]; exact a8⟩, fun i hi => ((a9 i hi).off (by omega)).up (by omega), ⟨by rw [remH_ne (by omega) (by omega)]; exact b0, by rw [remH_ne (by omega) (by omega)]; exact b1, by rw [remH_ne (by omega) (by omega)]; exact b2, by rw [remH_ne (by omega) (by omega)]; exact b3⟩, (b4.off (by omega)).up (by omega), (b5.off (by omega)).up (by omega)⟩
  show PrAt _ (12 + 7 * i) (if i = s.2.2.2.1.2.1 then s.2.2.1 else s.2.2.2.1.1 i)
  by_cases e : i = s.2.2.2.1.2.1
  · rw [if_pos e, e]
    exact (setPr_at _ _ _).up (by omega)
  · rw [if_neg e]
    exact ((a6 i hi).off (by omega)).up (by omega)
theorem c_remember {xs : List Int32} {h : sm_Hp} {K : Option Value → sm_Hp → Prop} {s : CS} {j : CJ} (I : InvC h s j) (hn : s.2.2.2.1.2.1 < 8) (hk : s.2.2.2.1.2.2 ≤ 8) : Wp xs m_Past_remember 0 [.ref 10, .ref 3] [] h 0 0 K = K none (remH h s.2.2.1 s.2.2.2.1.2.1 s.2.2.2.1.2.2) := e_remember hn hk I.2.2.1.1 I.2.2.1.2 I.2.1 (I.2.2.2.1 _ hn)
