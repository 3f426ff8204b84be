/-! ===== feed, end and drop by both ===== -/
theorem byte24 (x : Int32) : (x.toUInt32 >>> ((24 : Int32).toUInt32 &&& Int32.toUInt32 31)).toInt32.toInt8 = (x >>> ((24 : Int32) &&& 31)).toInt8 := by
  apply Int8.toBitVec_inj.1
  ext i hi
  simp [Int32.toInt8, Int32.toBitVec_shiftRight]
  show (BitVec.signExtend 8 (x.toBitVec >>> 24))[i] = (BitVec.signExtend 8 (x.toBitVec.sshiftRight 24))[i]
  rw [BitVec.getElem_signExtend, BitVec.getElem_signExtend, dif_pos (by omega), dif_pos (by omega), BitVec.getElem_sshiftRight, dif_pos (by omega), BitVec.getElem_ushiftRight, BitVec.getLsbD_eq_getElem (by omega)]
theorem byte16 (x : Int32) : (x.toUInt32 >>> ((16 : Int32).toUInt32 &&& Int32.toUInt32 31)).toInt32.toInt8 = (x >>> ((16 : Int32) &&& 31)).toInt8 := by
  apply Int8.toBitVec_inj.1
  ext i hi
  simp [Int32.toInt8, Int32.toBitVec_shiftRight]
  show (BitVec.signExtend 8 (x.toBitVec >>> 16))[i] = (BitVec.signExtend 8 (x.toBitVec.sshiftRight 16))[i]
  rw [BitVec.getElem_signExtend, BitVec.getElem_signExtend, dif_pos (by omega), dif_pos (by omega), BitVec.getElem_sshiftRight, dif_pos (by omega), BitVec.getElem_ushiftRight, BitVec.getLsbD_eq_getElem (by omega)]
theorem byte8 (x : Int32) : (x.toUInt32 >>> ((8 : Int32).toUInt32 &&& Int32.toUInt32 31)).toInt32.toInt8 = (x >>> ((8 : Int32) &&& 31)).toInt8 := by
  apply Int8.toBitVec_inj.1
  ext i hi
  simp [Int32.toInt8, Int32.toBitVec_shiftRight]
  show (BitVec.signExtend 8 (x.toBitVec >>> 8))[i] = (BitVec.signExtend 8 (x.toBitVec.sshiftRight 8))[i]
  rw [BitVec.getElem_signExtend, BitVec.getElem_signExtend, dif_pos (by omega), dif_pos (by omega), BitVec.getElem_sshiftRight, dif_pos (by omega), BitVec.getElem_ushiftRight, BitVec.getLsbD_eq_getElem (by omega)]
theorem byte0 (x : Int32) : (x.toUInt32 >>> ((0 : Int32).toUInt32 &&& Int32.toUInt32 31)).toInt32.toInt8 = (x >>> ((0 : Int32) &&& 31)).toInt8 := by
  apply Int8.toBitVec_inj.1
  ext i hi
  simp [Int32.toInt8, Int32.toBitVec_shiftRight]
theorem i2b_of (z : Int32) : zF1 .i2b z.toInt = z.toInt8.toInt32.toInt := by
  show (Int32.ofInt z.toInt).toInt8.toInt32.toInt = _
  rw [Int32.ofInt_toInt]
theorem sh24 (a : Int) : zF1 .i2b (zF2 .iushr a 24) = zF1 .i2b (zF2 .ishr a 24) := by
  have h1 : zF2 .iushr a 24 = ((Int32.ofInt a).toUInt32 >>> ((24 : Int32).toUInt32 &&& Int32.toUInt32 31)).toInt32.toInt := rfl
  have h2 : zF2 .ishr a 24 = ((Int32.ofInt a) >>> ((24 : Int32) &&& 31)).toInt := rfl
  rw [h1, h2, i2b_of, i2b_of, byte24]
theorem sh16 (a : Int) : zF1 .i2b (zF2 .iushr a 16) = zF1 .i2b (zF2 .ishr a 16) := by
  have h1 : zF2 .iushr a 16 = ((Int32.ofInt a).toUInt32 >>> ((16 : Int32).toUInt32 &&& Int32.toUInt32 31)).toInt32.toInt := rfl
  have h2 : zF2 .ishr a 16 = ((Int32.ofInt a) >>> ((16 : Int32) &&& 31)).toInt := rfl
  rw [h1, h2, i2b_of, i2b_of, byte16]
theorem sh8 (a : Int) : zF1 .i2b (zF2 .iushr a 8) = zF1 .i2b (zF2 .ishr a 8) := by
  have h1 : zF2 .iushr a 8 = ((Int32.ofInt a).toUInt32 >>> ((8 : Int32).toUInt32 &&& Int32.toUInt32 31)).toInt32.toInt := rfl
  have h2 : zF2 .ishr a 8 = ((Int32.ofInt a) >>> ((8 : Int32) &&& 31)).toInt := rfl
  rw [h1, h2, i2b_of, i2b_of, byte8]
theorem sh0 (a : Int) : zF1 .i2b (zF2 .iushr a 0) = zF1 .i2b (zF2 .ishr a 0) := by
  have h1 : zF2 .iushr a 0 = ((Int32.ofInt a).toUInt32 >>> ((0 : Int32).toUInt32 &&& Int32.toUInt32 31)).toInt32.toInt := rfl
  have h2 : zF2 .ishr a 0 = ((Int32.ofInt a) >>> ((0 : Int32) &&& 31)).toInt := rfl
  rw [h1, h2, i2b_of, i2b_of, byte0]
theorem i2b_rg (a : Int) : -128 ≤ zF1 .i2b a ∧ zF1 .i2b a ≤ 127 := by
  have h : zF1 .i2b a = (Int32.ofInt a).toInt8.toInt32.toInt := rfl
  rw [h, Int8.toInt_toInt32]
  exact ⟨Int8.le_toInt _, Int8.toInt_le _⟩
/-- the tapes between calls -/
noncomputable def TR (c m : rHp) : Prop := c 2 0 3 = m 15 0 3 ∧ 0 ≤ m 15 0 3 ∧ ∀ j, 0 ≤ j → j < m 15 0 3 → c 21 0 j = m 59 0 j ∧ -128 ≤ m 59 0 j ∧ m 59 0 j ≤ 127
theorem TR_push {c m : rHp} {n b : Int} (h : TR c m) (hn : n = m 15 0 3) (hb : -128 ≤ b ∧ b ≤ 127) : TR (rUp (rUp c 21 0 n b) 2 0 3 (n + 1)) (rUp (rUp m 59 0 n b) 15 0 3 (n + 1)) := by
  obtain ⟨h1, h2, h3⟩ := h
  refine ⟨by rw [rUp_at, rUp_at], by rw [rUp_at]; omega, fun j j0 j1 => ?_⟩
  rw [rUp_at] at j1
  rw [rUp_grp (show (21 : Nat) ≠ 2 by decide), rUp_grp (show (59 : Nat) ≠ 15 by decide)]
  by_cases e : j = n
  · rw [e, rUp_at, rUp_at]; exact ⟨rfl, hb⟩
  · rw [rUp_ne (fun y => e y.2.2), rUp_ne (fun y => e y.2.2)]; exact h3 j j0 (by omega)
theorem four_two {c m : rHp} {a : Int} (h : TR c m) : ∃ c_q m_q, fn113 [a] c = (0, 0, c_q) ∧ fn2 [a] m = (0, 0, m_q) ∧ TR c_q m_q ∧ fH 2 [21] [3] c c_q ∧ fH 15 [59] [3] m m_q ∧ m_q 15 0 3 = m 15 0 3 + 4 := by
  have e1 := h.1
  have t1 := TR_push h rfl (i2b_rg (zF2 .ishr a 24))
  have t2 := TR_push t1 (n := m 15 0 3 + 1) (by rw [rUp_at]) (i2b_rg (zF2 .ishr a 16))
  have t3 := TR_push t2 (n := m 15 0 3 + 1 + 1) (by rw [rUp_at]) (i2b_rg (zF2 .ishr a 8))
  have t4 := TR_push t3 (n := m 15 0 3 + 1 + 1 + 1) (by rw [rUp_at]) (i2b_rg (zF2 .ishr a 0))
  refine ⟨_, _, ?_, ?_, t4, ?_, ?_, ?_⟩
  · unfold fn113
    simp only [zLet, List.getD_cons_zero, e1, sh24, sh16, sh8, sh0]
    rw [show m 15 0 3 + 1 + 1 = m 15 0 3 + 2 by omega, show m 15 0 3 + 2 + 1 = m 15 0 3 + 3 by omega, show m 15 0 3 + 3 + 1 = m 15 0 3 + 4 by omega]
  · unfold fn2
    simp only [zLet, List.getD_cons_zero]
    rw [show m 15 0 3 + 1 + 1 = m 15 0 3 + 2 by omega, show m 15 0 3 + 2 + 1 = m 15 0 3 + 3 by omega, show m 15 0 3 + 3 + 1 = m 15 0 3 + 4 by omega]
  · exact fH_fld (fH_grp (fH_fld (fH_grp (fH_fld (fH_grp (fH_fld (fH_grp fH_refl (by decide) (by decide)) (by decide)) (by decide) (by decide)) (by decide)) (by decide) (by decide)) (by decide)) (by decide) (by decide)) (by decide)
  · exact fH_fld (fH_grp (fH_fld (fH_grp (fH_fld (fH_grp (fH_fld (fH_grp fH_refl (by decide) (by decide)) (by decide)) (by decide) (by decide)) (by decide)) (by decide) (by decide)) (by decide)) (by decide) (by decide)) (by decide)
  · rw [rUp_at]; omega
/-- a step that leaves NAMES, PREDICATES, FACTS and RULES as they are -/
theorem Rel_up {B B_q : Int} {c m c_q m_q : rHp} (h : Rel B c m) (h3 : c_q 3 = c 3) (h26 : c_q 26 = c 26) (h1 : ∀ j, j = 7 ∨ j = 9 ∨ j = 10 → c_q 1 0 j = c 1 0 j) (h16 : c_q 16 = c 16) (h17 : c_q 17 = c 17) (h19 : c_q 19 = c 19) (h20 : c_q 20 = c 20)
    (hj : ∀ j, j = 8 ∨ j = 9 ∨ j = 13 ∨ j = 17 ∨ j = 32 → m_q 15 0 j = m 15 0 j) (hG : ∀ G, G = 61 ∨ G = 62 ∨ G = 63 ∨ G = 64 ∨ G = 65 ∨ G = 66 ∨ G = 67 ∨ G = 68 → m_q G = m G) (hT : TR c_q m_q) (h2000 : m_q 15 0 3 ≤ 2000) (hB : 2 * c 3 0 1 + m_q 15 0 3 ≤ B_q) : Rel B_q c_q m_q := by
  obtain ⟨r1, r2, r3, r4, r5, r6, r7, r8⟩ := h
  have pg : ∀ (G : Nat) (m : rHp), G ≠ 15 → rUp m 15 0 14 (m 15 0 13) G = m G := fun G m z => rUp_grp z
  have p14 : ∀ m : rHp, rUp m 15 0 14 (m 15 0 13) 15 0 14 = m 15 0 13 := fun m => rUp_at
  have pj : ∀ (m : rHp) j, j ≠ 14 → rUp m 15 0 14 (m 15 0 13) 15 0 j = m 15 0 j := fun m j z => rUp_ne (fun y => z y.2.2)
  have qg : ∀ G : Nat, G ≠ 15 → m_q G = m G → rUp m_q 15 0 14 (m_q 15 0 13) G = rUp m 15 0 14 (m 15 0 13) G := fun G z e => by rw [pg G m_q z, pg G m z, e]
  refine ⟨⟨hT.1, hT.2.1, h2000, hT.2.2⟩, ?_, ?_, by rw [h3]; exact hB, ?_, ?_, ?_, ?_⟩
  · unfold qNc
    rw [h3, h26]; exact r2
  · unfold qNm
    rw [hj 8 (by omega), hj 9 (by omega), hG 61 (by omega), hG 62 (by omega), hG 63 (by omega)]; exact r3
  · exact qP_up r5 (h1 7 (by omega)) h16 h17 (by rw [p14, p14]; exact hj 13 (by omega)) (qg 64 (by decide) (hG 64 (by omega))) (qg 65 (by decide) (hG 65 (by omega))) (qg 66 (by decide) (hG 66 (by omega)))
  · rw [h1 10 (by omega), hj 32 (by omega)]; exact r6
  · rw [h1 9 (by omega), hj 17 (by omega)]; exact r7
  · rw [h1 9 (by omega)]
    exact FR_less r8 (Int.le_refl _) h3 h26 h19 h20 (by rw [pj m_q 8 (by decide), pj m 8 (by decide)]; exact hj 8 (by omega)) (by rw [pj m_q 9 (by decide), pj m 9 (by decide)]; exact hj 9 (by omega)) (qg 61 (by decide) (hG 61 (by omega))) (qg 62 (by decide) (hG 62 (by omega))) (qg 63 (by decide) (hG 63 (by omega))) (qg 66 (by decide) (hG 66 (by omega))) (qg 67 (by decide) (hG 67 (by omega))) (qg 68 (by decide) (hG 68 (by omega))) (fun x x0 x1 => by
      have := (r8 x x0 x1).2.1.2.1
      rw [p14] at this
      rw [p14, hj 13 (by omega)]
      exact this)
theorem Rel_fl {B B_q : Int} {c m c_q m_q : rHp} {L L2 : List Nat} {J J2 : List Int} (h : Rel B c m) (fc : fH 2 L J c c_q) (hL : ∀ x ∈ [1, 3, 16, 17, 19, 20, 26], x ∉ L) (fm : fH 15 L2 J2 m m_q) (hL2 : ∀ x ∈ [61, 62, 63, 64, 65, 66, 67, 68], x ∉ L2) (hJ2 : ∀ x ∈ [(8 : Int), 9, 13, 17, 32], x ∉ J2) (hT : TR c_q m_q) (h2000 : m_q 15 0 3 ≤ 2000) (hB : 2 * c 3 0 1 + m_q 15 0 3 ≤ B_q) : Rel B_q c_q m_q := by
  have k : ∀ G, G ∈ [1, 3, 16, 17, 19, 20, 26] → c_q G = c G := fun G q => fc.1 G (hL G q) (by rintro rfl; exact absurd q (by decide))
  refine Rel_up h (k 3 (by decide)) (k 26 (by decide)) (fun j _ => by rw [k 1 (by decide)]) (k 16 (by decide)) (k 17 (by decide)) (k 19 (by decide)) (k 20 (by decide)) (fun j z => fm.2 j (hJ2 j (by simp only [List.mem_cons, List.not_mem_nil, or_false]; omega))) (fun G z => fm.1 G (hL2 G (by simp only [List.mem_cons, List.not_mem_nil, or_false]; omega)) (by omega)) hT h2000 hB
theorem Rel_TR {B : Int} {c m : rHp} (h : Rel B c m) : TR c m := ⟨h.1.1, h.1.2.1, h.1.2.2.2⟩
/-- what a call leaves as it is that reads, or changes what is told -/
noncomputable def lAA : List Nat := [0, 1, 2, 3, 8, 9, 10, 16, 17, 19, 20, 21, 22, 23, 24, 25, 26, 40, 43, 44, 45, 46, 1000]
noncomputable def jBB : List Int := [4, 61, 71, 72, 73, 74, 75, 76, 77, 78, 79, 80, 81, 82, 83, 84, 85, 86, 87, 88, 89, 90, 91, 92, 94]
noncomputable def yFg (c m c_q m_q : rHp) : Prop := (c_q 0 0 7 = c 0 0 7 ∧ c_q 8 = c 8 ∧ m_q 15 0 59 = m 15 0 59 ∧ m_q 15 0 93 = m 15 0 93 ∧ m_q 15 0 13 = m 15 0 13) ∨ (c_q 0 0 7 = 0 ∧ qo8 c c_q ∧ m_q 15 0 59 = 0 ∧ m_q 15 0 93 = 0)
noncomputable def yFA (c m c_q m_q : rHp) : Prop := (∀ K : Nat, K ∉ lAA → c_q K = c K) ∧ (∀ j, j ≠ 7 → c_q 0 0 j = c 0 0 j) ∧ c_q 1 0 8 = c 1 0 8 ∧ (∀ K : Nat, 92 ≤ K → m_q K = m K) ∧ (∀ j, j ∈ jBB → m_q 15 0 j = m 15 0 j) ∧ yFg c m c_q m_q
theorem yFA_refl {c m : rHp} : yFA c m c m := ⟨fun _ _ => rfl, fun _ _ => rfl, rfl, fun _ _ => rfl, fun _ _ => rfl, Or.inl ⟨rfl, rfl, rfl, rfl, rfl⟩⟩
theorem yFA_0 {c m c_q m_q : rHp} {x : Int} (h : yFA c m c_q m_q) : yFA c m c_q (rUp m_q 15 0 0 x) := by
  obtain ⟨a1, a2, a3, a4, a5, a6⟩ := h
  have e : ∀ j, j ≠ 0 → rUp m_q 15 0 0 x 15 0 j = m_q 15 0 j := fun j z => rUp_ne (fun w => z w.2.2)
  refine ⟨a1, a2, a3, fun K z => by rw [rUp_grp (by omega)]; exact a4 K z, fun j z => by rw [e j (by rintro rfl; exact absurd z (by decide))]; exact a5 j z, ?_⟩
  unfold yFg
  rw [e 59 (by decide), e 93 (by decide), e 13 (by decide)]
  exact a6
theorem yFA_fin {c m c_q m_q : rHp} (h : yFin c m c_q m_q) : yFA c m c_q m_q := by
  obtain ⟨a1, a2, a3, a4, a5⟩ := h
  refine ⟨fun K z => a1.1 K (fun w => z ?_) (fun w => z (by rw [w]; decide)), a2, a3, fun K z => a4.1 K (fun w => ?_) (by omega), fun j z => a4.2 j (fun w => ?_), a5⟩
  · unfold lTT at w
    unfold lAA
    simp only [List.mem_cons, List.not_mem_nil, or_false] at w ⊢
    omega
  · unfold lU at w
    simp only [List.mem_cons, List.not_mem_nil, or_false] at w
    omega
  · unfold jUU at w
    unfold jBB at z
    simp only [List.mem_cons, List.not_mem_nil, or_false] at w z
    omega
theorem yFA_H {c m c_q m_q : rHp} {L L2 : List Nat} {J J2 : List Int} (fc : fH 2 L J c c_q) (hL : ∀ x ∈ L, x ∈ lAA ∧ x ≠ 0 ∧ x ≠ 1 ∧ x ≠ 8) (fm : fH 15 L2 J2 m m_q) (hL2 : ∀ x ∈ L2, x < 92) (hJ2 : ∀ x ∈ jBB, x ∉ J2) (h3 : ∀ x ∈ [(59 : Int), 93, 13], x ∉ J2) : yFA c m c_q m_q := by
  have k0 : c_q 0 = c 0 := fc.1 0 (fun z => (hL 0 z).2.1 rfl) (by decide)
  have k1 : c_q 1 = c 1 := fc.1 1 (fun z => (hL 1 z).2.2.1 rfl) (by decide)
  have k8 : c_q 8 = c 8 := fc.1 8 (fun z => (hL 8 z).2.2.2 rfl) (by decide)
  exact ⟨fun K z => fc.1 K (fun w => z (hL K w).1) (fun w => z (by rw [w]; decide)), fun j _ => by rw [k0], by rw [k1], fun K z => fm.1 K (fun w => by have := hL2 K w; omega) (by omega), fun j z => fm.2 j (hJ2 j z), Or.inl ⟨by rw [k0], k8, fm.2 59 (h3 59 (by decide)), fm.2 93 (h3 93 (by decide)), fm.2 13 (h3 13 (by decide))⟩⟩
theorem yU_H {c m c_q m_q : rHp} {L L2 : List Nat} {J J2 : List Int} (h : yU c m) (fc : fH 2 L J c c_q) (hL : ∀ x ∈ [3, 9, 10, 26, 40, 43, 44, 46], x ∉ L) (fm : fH 15 L2 J2 m m_q) (hL2 : ∀ x ∈ [61, 62, 63, 66, 69, 70, 71, 72, 73, 76, 77, 78, 79, 80, 81], x ∉ L2) (hJ2 : ∀ x ∈ [(8 : Int), 9, 13, 32], x ∉ J2) : yU c_q m_q := by
  obtain ⟨y1, y2, y3⟩ := h
  have k : ∀ K, K ∈ [3, 9, 10, 26, 40, 43, 44, 46] → c_q K = c K := fun K z => fc.1 K (hL K z) (by rintro rfl; exact absurd z (by decide))
  have w : ∀ K, K ∈ [61, 62, 63, 66, 69, 70, 71, 72, 73, 76, 77, 78, 79, 80, 81] → m_q K = m K := fun K z => fm.1 K (hL2 K z) (by rintro rfl; exact absurd z (by decide))
  unfold yU
  rw [k 40 (by decide), fm.2 32 (hJ2 32 (by decide)), fm.2 13 (hJ2 13 (by decide))]
  refine ⟨y1, ?_, fun r r0 r1 => ?_⟩
  · unfold sN at y2 ⊢
    rw [k 3 (by decide), k 26 (by decide), fm.2 8 (hJ2 8 (by decide)), fm.2 9 (hJ2 9 (by decide)), w 61 (by decide), w 62 (by decide), w 63 (by decide)]
    exact y2
  · exact gR2_all (y3 r r0 r1) (fun K z => k K (by rcases z with rfl | rfl | rfl | rfl | rfl <;> decide)) (fun K z => by rw [rUp_grp (by omega), rUp_grp (by omega), w K (by rcases z with rfl | rfl | rfl | rfl | rfl | rfl | rfl | rfl | rfl | rfl | rfl | rfl <;> decide)]) (by rw [rUp_at, rUp_at]; exact Int.le_refl _)
theorem yU_0 {c m : rHp} {x : Int} (h : yU c m) : yU c (rUp m 15 0 0 x) := yU_H (L := []) (J := []) (L2 := []) (J2 := [0]) h fH_refl (by decide) (fH_fld fH_refl (by decide)) (by decide) (by decide)
/-- feed keeps what holds between calls -/
theorem feed_two {B a b d e f : Int} {c m : rHp} (h : Rel B c m) : ∃ o v c_q v_q m_q, fn164 [a, b, d, e, f] c = (o, v, c_q) ∧ fn3 [a, b, d, e, f] m = (0, v_q, m_q) ∧ Rel (B + 20) c_q m_q ∧ (yU c m → yU c_q m_q) ∧ yFA c m c_q m_q := by
  have h4 := h.2.2.2.1
  have h3 := h.1.1
  have h2000 := h.1.2.2.1
  by_cases hn : m 15 0 3 + 20 ≤ 2000
  · have f1 : fH 15 [] [0] m (rUp m 15 0 0 0) := fH_fld fH_refl (by decide)
    have e3 : rUp m 15 0 0 0 15 0 3 = m 15 0 3 := rUp_ne (by decide)
    have t0 : TR c (rUp m 15 0 0 0) := by
      obtain ⟨x1, x2, x3⟩ := Rel_TR h
      unfold TR
      rw [e3, rUp_grp (by decide)]
      exact ⟨x1, x2, x3⟩
    obtain ⟨c1, m1, p1, q1, t1, fc1, fm1, n1⟩ := four_two (a := a) t0
    obtain ⟨c2, m2, p2, q2, t2, fc2, fm2, n2⟩ := four_two (a := b) t1
    obtain ⟨c3, m3, p3, q3, t3, fc3, fm3, n3⟩ := four_two (a := d) t2
    obtain ⟨c4, m4, p4, q4, t4, fc4, fm4, n4⟩ := four_two (a := e) t3
    obtain ⟨c5, m5, p5, q5, t5, fc5, fm5, n5⟩ := four_two (a := f) t4
    have F : fH 2 [21] [3] c c5 := fH_trans (fH_trans (fH_trans (fH_trans fc1 fc2) fc3) fc4) fc5
    have M : fH 15 [59] [0, 3] m m5 := fH_trans (fH_sub f1 (by decide) (by decide)) (fH_sub (fH_trans (fH_trans (fH_trans (fH_trans fm1 fm2) fm3) fm4) fm5) (by decide) (by decide))
    refine ⟨0, m 15 0 3 + 20, c5, m 15 0 3 + 20, m5, ?_, ?_, ?_, fun y => yU_H y F (by decide) M (by decide) (by decide), yFA_H F (by decide) M (by decide) (by decide) (by decide)⟩
    · unfold fn164
      simp only [zLet, List.getD_cons_zero, List.getD_cons_succ, h3, p1, p2, p3, p4, p5]
      rw [if_pos hn]
    · have ef : fn1 [0] m = (0, 0, rUp m 15 0 0 0) := rfl
      unfold fn3
      simp only [zLet, List.getD_cons_zero, List.getD_cons_succ, ef, q1, q2, q3, q4, q5]
      rw [if_pos hn]
    · exact Rel_fl h F (by decide) M (by decide) (by decide) t5 (by omega) (by omega)
  · refine ⟨1, 0, c, 0, rUp m 15 0 0 1, ?_, ?_, ?_, yU_0, yFA_0 yFA_refl⟩
    · unfold fn164
      simp only [zLet, List.getD_cons_zero, List.getD_cons_succ, h3]
      rw [if_neg hn]
    · have ef : fn1 [1] m = (0, 1, rUp m 15 0 0 1) := rfl
      unfold fn3
      simp only [zLet, List.getD_cons_zero, List.getD_cons_succ, ef]
      rw [if_neg hn]
    · have f1 : fH 15 [] [0] m (rUp m 15 0 0 1) := fH_fld fH_refl (by decide)
      have e3 : rUp m 15 0 0 1 15 0 3 = m 15 0 3 := rUp_ne (by decide)
      have t0 : TR c (rUp m 15 0 0 1) := by
        obtain ⟨x1, x2, x3⟩ := Rel_TR h
        unfold TR
        rw [e3, rUp_grp (by decide)]
        exact ⟨x1, x2, x3⟩
      exact Rel_fl (L := []) (J := []) h fH_refl (by decide) f1 (by decide) (by decide) t0 (by rw [e3]; exact h2000) (by rw [e3]; omega)
theorem Rel_0 {B x : Int} {c m : rHp} (h : Rel B c m) : Rel B c (rUp m 15 0 0 x) := by
  have e3 : rUp m 15 0 0 x 15 0 3 = m 15 0 3 := rUp_ne (by decide)
  have t0 : TR c (rUp m 15 0 0 x) := by
    obtain ⟨x1, x2, x3⟩ := Rel_TR h
    unfold TR
    rw [e3, rUp_grp (by decide)]
    exact ⟨x1, x2, x3⟩
  exact Rel_fl (L := []) (J := []) (L2 := []) (J2 := [0]) h fH_refl (by decide) (fH_fld fH_refl (by decide)) (by decide) (by decide) t0 (by rw [e3]; exact h.1.2.2.1) (by rw [e3]; exact h.2.2.2.1)
/-- end keeps what holds between calls -/
theorem end_two {B n : Int} {c m : rHp} (h : Rel B c m) : ∃ o v c_q v_q m_q, fn165 [n] c = (o, v, c_q) ∧ fn4 [n] m = (0, v_q, m_q) ∧ Rel B c_q m_q ∧ (yU c m → yU c_q m_q) ∧ yFA c m c_q m_q := by
  have h4 := h.2.2.2.1
  have h3 := h.1.1
  have h2000 := h.1.2.2.1
  have ef : fn1 [1] m = (0, 1, rUp m 15 0 0 1) := rfl
  have eg : fn1 [0] m = (0, 0, rUp m 15 0 0 0) := rfl
  by_cases h0 : n < 0
  · refine ⟨2, 0, c, 0, rUp m 15 0 0 1, ?_, ?_, Rel_0 h, yU_0, yFA_0 yFA_refl⟩
    · unfold fn165
      simp only [zLet, List.getD_cons_zero]
      rw [if_pos h0]
    · unfold fn4
      simp only [zLet, List.getD_cons_zero, ef]
      rw [if_pos h0]
  · by_cases h1 : n ≤ m 15 0 3
    · have r0 := Rel_0 (x := 0) h
      have F : fH 2 [] [3] c (rUp c 2 0 3 n) := fH_fld fH_refl (by decide)
      have M : fH 15 [] [0, 3] m (rUp (rUp m 15 0 0 0) 15 0 3 n) := fH_fld (fH_fld fH_refl (by decide)) (by decide)
      refine ⟨0, n, rUp c 2 0 3 n, n, rUp (rUp m 15 0 0 0) 15 0 3 n, ?_, ?_, ?_, fun y => yU_H y F (by decide) M (by decide) (by decide), yFA_H F (by decide) M (by decide) (by decide) (by decide)⟩
      · unfold fn165
        simp only [zLet, List.getD_cons_zero, h3]
        rw [if_neg h0, if_pos h1]
      · unfold fn4
        simp only [zLet, List.getD_cons_zero, eg]
        rw [if_neg h0, if_pos h1]
      · have e3 : rUp (rUp m 15 0 0 0) 15 0 3 n 15 0 3 = n := rUp_at
        refine Rel_fl (L := []) (J := [3]) (L2 := []) (J2 := [3]) r0 (fH_fld fH_refl (by decide)) (by decide) (fH_fld fH_refl (by decide)) (by decide) (by decide) ⟨by rw [rUp_at, rUp_at], by rw [e3]; omega, fun j j0 j1 => ?_⟩ (by rw [e3]; omega) (by rw [e3]; omega)
        rw [e3] at j1
        rw [rUp_grp (show (21 : Nat) ≠ 2 by decide), rUp_grp (show (59 : Nat) ≠ 15 by decide), rUp_grp (show (59 : Nat) ≠ 15 by decide)]
        exact h.1.2.2.2 j j0 (by omega)
    · refine ⟨2, 0, c, 0, rUp m 15 0 0 1, ?_, ?_, Rel_0 h, yU_0, yFA_0 yFA_refl⟩
      · unfold fn165
        simp only [zLet, List.getD_cons_zero, h3]
        rw [if_neg h0, if_neg h1]
      · unfold fn4
        simp only [zLet, List.getD_cons_zero, ef]
        rw [if_neg h0, if_neg h1]
